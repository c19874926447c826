/-! words of the tables by their places -/
theorem wu1 {w : Cond} (h : w ∈ tables_1_1) : w ∈ tables_1 := List.mem_append_left _ h
theorem wu2 {w : Cond} (h : w ∈ tables_1_2) : w ∈ tables_1 := List.mem_append_right _ (List.mem_append_left _ h)
theorem wu3 {w : Cond} (h : w ∈ tables_1_3) : w ∈ tables_1 := List.mem_append_right _ (List.mem_append_right _ (List.mem_append_left _ h))
theorem wu4 {w : Cond} (h : w ∈ tables_1_4) : w ∈ tables_1 := List.mem_append_right _ (List.mem_append_right _ (List.mem_append_right _ (List.mem_append_left _ h)))
theorem wu5 {w : Cond} (h : w ∈ tables_1_5) : w ∈ tables_1 := List.mem_append_right _ (List.mem_append_right _ (List.mem_append_right _ (List.mem_append_right _ (List.mem_append_left _ h))))
theorem wu6 {w : Cond} (h : w ∈ tables_1_6) : w ∈ tables_1 := List.mem_append_right _ (List.mem_append_right _ (List.mem_append_right _ (List.mem_append_right _ (List.mem_append_right _ (List.mem_append_left _ h)))))
theorem wu7 {w : Cond} (h : w ∈ tables_1_7) : w ∈ tables_1 := List.mem_append_right _ (List.mem_append_right _ (List.mem_append_right _ (List.mem_append_right _ (List.mem_append_right _ (List.mem_append_right _ (List.mem_append_left _ h))))))
theorem wu8 {w : Cond} (h : w ∈ tables_1_8) : w ∈ tables_1 := List.mem_append_right _ (List.mem_append_right _ (List.mem_append_right _ (List.mem_append_right _ (List.mem_append_right _ (List.mem_append_right _ (List.mem_append_right _ (h)))))))
theorem wp1 {w : MethodName × Nat} (h : w ∈ lw_privs_1) : w ∈ lw_privs := List.mem_append_left _ h
theorem wp2 {w : MethodName × Nat} (h : w ∈ lw_privs_2) : w ∈ lw_privs := List.mem_append_right _ (List.mem_append_left _ h)
theorem wp3 {w : MethodName × Nat} (h : w ∈ lw_privs_3) : w ∈ lw_privs := List.mem_append_right _ (List.mem_append_right _ (List.mem_append_left _ h))
theorem wp4 {w : MethodName × Nat} (h : w ∈ lw_privs_4) : w ∈ lw_privs := List.mem_append_right _ (List.mem_append_right _ (List.mem_append_right _ (List.mem_append_left _ h)))
theorem wp5 {w : MethodName × Nat} (h : w ∈ lw_privs_5) : w ∈ lw_privs := List.mem_append_right _ (List.mem_append_right _ (List.mem_append_right _ (List.mem_append_right _ (List.mem_append_left _ h))))
theorem wp6 {w : MethodName × Nat} (h : w ∈ lw_privs_6) : w ∈ lw_privs := List.mem_append_right _ (List.mem_append_right _ (List.mem_append_right _ (List.mem_append_right _ (List.mem_append_right _ (List.mem_append_left _ h)))))
theorem wp7 {w : MethodName × Nat} (h : w ∈ lw_privs_7) : w ∈ lw_privs := List.mem_append_right _ (List.mem_append_right _ (List.mem_append_right _ (List.mem_append_right _ (List.mem_append_right _ (List.mem_append_right _ (List.mem_append_left _ h))))))
theorem wp8 {w : MethodName × Nat} (h : w ∈ lw_privs_8) : w ∈ lw_privs := List.mem_append_right _ (List.mem_append_right _ (List.mem_append_right _ (List.mem_append_right _ (List.mem_append_right _ (List.mem_append_right _ (List.mem_append_right _ (h)))))))
theorem w_0 : Cond.initialized "BallothallLaw" ∈ WG := wg_t (wu1 (List.mem_of_getElem? (i := 0) rfl)) rfl
theorem w_1 : Cond.initialized "Ballothall" ∈ WG := wg_t (wu1 (List.mem_of_getElem? (i := 1) rfl)) rfl
theorem w_2 : Cond.initialized "Ballothall$BallotBox" ∈ WG := wg_t (wu1 (List.mem_of_getElem? (i := 2) rfl)) rfl
theorem w_3 : Cond.initialized "Ballothall$Poll" ∈ WG := wg_t (wu1 (List.mem_of_getElem? (i := 3) rfl)) rfl
theorem w_4 : Cond.initialized "Ballothall$FalseBallot" ∈ WG := wg_t (wu1 (List.mem_of_getElem? (i := 4) rfl)) rfl
theorem w_5 : Cond.initialized "Ballothall$Lists" ∈ WG := wg_t (wu1 (List.mem_of_getElem? (i := 5) rfl)) rfl
theorem w_6 : Cond.initialized "Ballothall$Division" ∈ WG := wg_t (wu1 (List.mem_of_getElem? (i := 6) rfl)) rfl
theorem w_7 : Cond.initialized "Ballothall$KeptSeats" ∈ WG := wg_t (wu1 (List.mem_of_getElem? (i := 7) rfl)) rfl
theorem w_8 : Cond.initialized "Ballothall$Counting" ∈ WG := wg_t (wu1 (List.mem_of_getElem? (i := 8) rfl)) rfl
theorem w_9 : Cond.initialized "Ballothall$Natural" ∈ WG := wg_t (wu1 (List.mem_of_getElem? (i := 9) rfl)) rfl
theorem w_10 : Cond.initialized "Ballothall$Wards" ∈ WG := wg_t (wu1 (List.mem_of_getElem? (i := 10) rfl)) rfl
theorem w_11 : Cond.initialized "Ballothall$Council" ∈ WG := wg_t (wu1 (List.mem_of_getElem? (i := 11) rfl)) rfl
theorem w_12 : Cond.initialized "BallothallLaw$Box" ∈ WG := wg_t (wu1 (List.mem_of_getElem? (i := 12) rfl)) rfl
theorem w_17 : Cond.initialized "java/lang/Math" ∈ WG := wg_t (wu1 (List.mem_of_getElem? (i := 17) rfl)) rfl
theorem w_18 : Cond.initialized "java/lang/AbstractStringBuilder" ∈ WG := wg_t (wu1 (List.mem_of_getElem? (i := 18) rfl)) rfl
theorem w_19 : Cond.initialized "java/lang/StringBuilder" ∈ WG := wg_t (wu1 (List.mem_of_getElem? (i := 19) rfl)) rfl
theorem w_20 : Cond.initialized "java/lang/String" ∈ WG := wg_t (wu1 (List.mem_of_getElem? (i := 20) rfl)) rfl
theorem w_23 : Cond.initialized "java/util/Arrays" ∈ WG := wg_t (wu1 (List.mem_of_getElem? (i := 23) rfl)) rfl
theorem w_24 : Cond.initialized "java/lang/System" ∈ WG := wg_t (wu1 (List.mem_of_getElem? (i := 24) rfl)) rfl
theorem w_25 : Cond.initialized "java/lang/StringLatin1" ∈ WG := wg_t (wu1 (List.mem_of_getElem? (i := 25) rfl)) rfl
theorem w_26 : Cond.initialized "jdk/internal/util/Preconditions" ∈ WG := wg_t (wu1 (List.mem_of_getElem? (i := 26) rfl)) rfl
theorem w_29 : Cond.initialized "Ballothall$Count" ∈ WG := wg_t (wu1 (List.mem_of_getElem? (i := 29) rfl)) rfl
theorem w_30 : Cond.initialized "java/lang/Integer" ∈ WG := wg_t (wu1 (List.mem_of_getElem? (i := 30) rfl)) rfl
theorem w_32 : Cond.classLink "BallothallLaw" 19 "Ballothall" ∈ WG := wg_t (wu1 (List.mem_of_getElem? (i := 32) rfl)) rfl
theorem w_33 : Cond.instantiable "Ballothall" 14 ∈ WG := wg_t (wu1 (List.mem_of_getElem? (i := 33) rfl)) rfl
theorem w_34 : Cond.methodLink "BallothallLaw" 173 ⟨"Ballothall", "<init>", "()V"⟩ ∈ WG := wg_t (wu1 (List.mem_of_getElem? (i := 34) rfl)) rfl
theorem w_35 : Cond.instanceMethod ⟨"Ballothall", "<init>", "()V"⟩ ∈ WG := wg_t (wu1 (List.mem_of_getElem? (i := 35) rfl)) rfl
theorem w_36 : Cond.code ⟨"Ballothall", "<init>", "()V"⟩ prog_1_method_1_code 1 none ∈ WG := wg_t (wu1 (List.mem_of_getElem? (i := 36) rfl)) rfl
theorem w_37 : Cond.methodLink "Ballothall" 3 ⟨"java/lang/Object", "<init>", "()V"⟩ ∈ WG := wg_t (wu1 (List.mem_of_getElem? (i := 37) rfl)) rfl
theorem w_38 : Cond.instanceMethod ⟨"java/lang/Object", "<init>", "()V"⟩ ∈ WG := wg_t (wu1 (List.mem_of_getElem? (i := 38) rfl)) rfl
theorem w_40 : Cond.classLink "Ballothall" 9 "Ballothall$BallotBox" ∈ WG := wg_t (wu1 (List.mem_of_getElem? (i := 40) rfl)) rfl
theorem w_41 : Cond.instantiable "Ballothall$BallotBox" 10 ∈ WG := wg_t (wu1 (List.mem_of_getElem? (i := 41) rfl)) rfl
theorem w_43 : Cond.instanceMethod ⟨"Ballothall$BallotBox", "<init>", "()V"⟩ ∈ WG := wg_t (wu1 (List.mem_of_getElem? (i := 43) rfl)) rfl
theorem w_44 : Cond.code ⟨"Ballothall$BallotBox", "<init>", "()V"⟩ prog_2_method_1_code 1 none ∈ WG := wg_t (wu1 (List.mem_of_getElem? (i := 44) rfl)) rfl
theorem w_45 : Cond.methodLink "Ballothall$BallotBox" 3 ⟨"java/lang/Object", "<init>", "()V"⟩ ∈ WG := wg_t (wu1 (List.mem_of_getElem? (i := 45) rfl)) rfl
theorem w_46 : Cond.classLink "Ballothall$BallotBox" 27 "[[I" ∈ WG := wg_t (wu1 (List.mem_of_getElem? (i := 46) rfl)) rfl
theorem w_48 : Cond.fieldLink "Ballothall$BallotBox" 9 "Ballothall$BallotBox" "sign" "[I" ∈ WG := wg_t (wu1 (List.mem_of_getElem? (i := 48) rfl)) rfl
theorem w_50 : Cond.fieldLink "Ballothall$BallotBox" 39 "Ballothall$BallotBox" "signs" "I" ∈ WG := wg_t (wu1 (List.mem_of_getElem? (i := 50) rfl)) rfl
theorem w_51 : Cond.fieldLink "Ballothall$BallotBox" 35 "Ballothall$BallotBox" "candidates" "I" ∈ WG := wg_t (wu1 (List.mem_of_getElem? (i := 51) rfl)) rfl
theorem w_60 : Cond.fieldLink "Ballothall$BallotBox" 65 "Ballothall$BallotBox" "kinds" "I" ∈ WG := wg_t (wu1 (List.mem_of_getElem? (i := 60) rfl)) rfl
theorem w_61 : Cond.fieldLink "Ballothall$BallotBox" 15 "Ballothall$BallotBox" "lot" "[I" ∈ WG := wg_t (wu1 (List.mem_of_getElem? (i := 61) rfl)) rfl
theorem w_63 : Cond.fieldLink "Ballothall$BallotBox" 18 "Ballothall$BallotBox" "count" "[I" ∈ WG := wg_t (wu1 (List.mem_of_getElem? (i := 63) rfl)) rfl
theorem w_68 : Cond.fieldLink "Ballothall$BallotBox" 21 "Ballothall$BallotBox" "approved" "[I" ∈ WG := wg_t (wu1 (List.mem_of_getElem? (i := 68) rfl)) rfl
theorem w_72 : Cond.fieldLink "Ballothall$BallotBox" 24 "Ballothall$BallotBox" "groups" "[I" ∈ WG := wg_t (wu1 (List.mem_of_getElem? (i := 72) rfl)) rfl
theorem w_74 : Cond.fieldLink "Ballothall$BallotBox" 29 "Ballothall$BallotBox" "group" "[[I" ∈ WG := wg_t (wu1 (List.mem_of_getElem? (i := 74) rfl)) rfl
theorem w_77 : Cond.fieldLink "Ballothall$BallotBox" 32 "Ballothall$BallotBox" "support" "[I" ∈ WG := wg_t (wu1 (List.mem_of_getElem? (i := 77) rfl)) rfl
theorem w_100 : Cond.arrayClass .int ∈ WG := wg_t (wu1 (List.mem_of_getElem? (i := 100) rfl)) rfl
theorem w_101 : Cond.classLink "Ballothall" 16 "Ballothall$Poll" ∈ WG := wg_t (wu1 (List.mem_of_getElem? (i := 101) rfl)) rfl
theorem w_102 : Cond.instantiable "Ballothall$Poll" 12 ∈ WG := wg_t (wu1 (List.mem_of_getElem? (i := 102) rfl)) rfl
theorem w_104 : Cond.instanceMethod ⟨"Ballothall$Poll", "<init>", "(LBallothall$BallotBox;)V"⟩ ∈ WG := wg_t (wu1 (List.mem_of_getElem? (i := 104) rfl)) rfl
theorem w_105 : Cond.code ⟨"Ballothall$Poll", "<init>", "(LBallothall$BallotBox;)V"⟩ prog_11_method_1_code 2 none ∈ WG := wg_t (wu1 (List.mem_of_getElem? (i := 105) rfl)) rfl
theorem w_106 : Cond.methodLink "Ballothall$Poll" 3 ⟨"java/lang/Object", "<init>", "()V"⟩ ∈ WG := wg_t (wu1 (List.mem_of_getElem? (i := 106) rfl)) rfl
theorem w_107 : Cond.fieldLink "Ballothall$Poll" 40 "Ballothall$Poll" "box" "LBallothall$BallotBox;" ∈ WG := wg_t (wu1 (List.mem_of_getElem? (i := 107) rfl)) rfl
theorem w_108 : Cond.fieldLink "Ballothall$Poll" 44 "Ballothall$Poll" "present" "I" ∈ WG := wg_t (wu1 (List.mem_of_getElem? (i := 108) rfl)) rfl
theorem w_109 : Cond.fieldLink "Ballothall$Poll" 48 "Ballothall$Poll" "ballots" "I" ∈ WG := wg_t (wu1 (List.mem_of_getElem? (i := 109) rfl)) rfl
theorem w_110 : Cond.fieldLink "Ballothall$Poll" 9 "Ballothall$Poll" "weight" "[I" ∈ WG := wg_t (wu1 (List.mem_of_getElem? (i := 110) rfl)) rfl
theorem w_111 : Cond.fieldLink "Ballothall$Poll" 15 "Ballothall$Poll" "firsts" "[I" ∈ WG := wg_t (wu1 (List.mem_of_getElem? (i := 111) rfl)) rfl
theorem w_112 : Cond.fieldLink "Ballothall$Poll" 18 "Ballothall$Poll" "approvals" "[I" ∈ WG := wg_t (wu1 (List.mem_of_getElem? (i := 112) rfl)) rfl
theorem w_113 : Cond.fieldLink "Ballothall$Poll" 21 "Ballothall$Poll" "pairs" "[I" ∈ WG := wg_t (wu1 (List.mem_of_getElem? (i := 113) rfl)) rfl
theorem w_114 : Cond.fieldLink "Ballothall$Poll" 24 "Ballothall$Poll" "beaten" "[I" ∈ WG := wg_t (wu1 (List.mem_of_getElem? (i := 114) rfl)) rfl
theorem w_115 : Cond.fieldLink "Ballothall$Poll" 27 "Ballothall$Poll" "paths" "[I" ∈ WG := wg_t (wu1 (List.mem_of_getElem? (i := 115) rfl)) rfl
theorem w_116 : Cond.fieldLink "Ballothall$Poll" 30 "Ballothall$Poll" "score" "[J" ∈ WG := wg_t (wu1 (List.mem_of_getElem? (i := 116) rfl)) rfl
theorem w_117 : Cond.fieldLink "Ballothall$Poll" 34 "Ballothall$Poll" "order" "[I" ∈ WG := wg_t (wu1 (List.mem_of_getElem? (i := 117) rfl)) rfl
theorem w_118 : Cond.fieldLink "Ballothall$Poll" 37 "Ballothall$Poll" "distance" "[J" ∈ WG := wg_t (wu1 (List.mem_of_getElem? (i := 118) rfl)) rfl
theorem w_145 : Cond.arrayClass .long ∈ WG := wg_t (wu1 (List.mem_of_getElem? (i := 145) rfl)) rfl
theorem w_146 : Cond.classLink "Ballothall" 25 "Ballothall$FalseBallot" ∈ WG := wg_t (wu1 (List.mem_of_getElem? (i := 146) rfl)) rfl
theorem w_147 : Cond.instantiable "Ballothall$FalseBallot" 3 ∈ WG := wg_t (wu1 (List.mem_of_getElem? (i := 147) rfl)) rfl
theorem w_149 : Cond.instanceMethod ⟨"Ballothall$FalseBallot", "<init>", "(LBallothall$BallotBox;LBallothall$Poll;)V"⟩ ∈ WG := wg_t (wu1 (List.mem_of_getElem? (i := 149) rfl)) rfl
theorem w_150 : Cond.code ⟨"Ballothall$FalseBallot", "<init>", "(LBallothall$BallotBox;LBallothall$Poll;)V"⟩ prog_7_method_1_code 3 none ∈ WG := wg_t (wu1 (List.mem_of_getElem? (i := 150) rfl)) rfl
theorem w_151 : Cond.methodLink "Ballothall$FalseBallot" 3 ⟨"java/lang/Object", "<init>", "()V"⟩ ∈ WG := wg_t (wu1 (List.mem_of_getElem? (i := 151) rfl)) rfl
theorem w_152 : Cond.fieldLink "Ballothall$FalseBallot" 15 "Ballothall$FalseBallot" "box" "LBallothall$BallotBox;" ∈ WG := wg_t (wu1 (List.mem_of_getElem? (i := 152) rfl)) rfl
theorem w_153 : Cond.fieldLink "Ballothall$FalseBallot" 19 "Ballothall$FalseBallot" "poll" "LBallothall$Poll;" ∈ WG := wg_t (wu1 (List.mem_of_getElem? (i := 153) rfl)) rfl
theorem w_154 : Cond.fieldLink "Ballothall$FalseBallot" 9 "Ballothall$FalseBallot" "order" "[I" ∈ WG := wg_t (wu1 (List.mem_of_getElem? (i := 154) rfl)) rfl
theorem w_163 : Cond.classLink "Ballothall" 34 "Ballothall$Lists" ∈ WG := wg_t (wu1 (List.mem_of_getElem? (i := 163) rfl)) rfl
theorem w_164 : Cond.instantiable "Ballothall$Lists" 11 ∈ WG := wg_t (wu1 (List.mem_of_getElem? (i := 164) rfl)) rfl
theorem w_166 : Cond.instanceMethod ⟨"Ballothall$Lists", "<init>", "()V"⟩ ∈ WG := wg_t (wu1 (List.mem_of_getElem? (i := 166) rfl)) rfl
theorem w_167 : Cond.code ⟨"Ballothall$Lists", "<init>", "()V"⟩ prog_9_method_1_code 2 none ∈ WG := wg_t (wu1 (List.mem_of_getElem? (i := 167) rfl)) rfl
theorem w_168 : Cond.methodLink "Ballothall$Lists" 3 ⟨"java/lang/Object", "<init>", "()V"⟩ ∈ WG := wg_t (wu1 (List.mem_of_getElem? (i := 168) rfl)) rfl
theorem w_169 : Cond.classLink "Ballothall$Lists" 21 "Ballothall$Division" ∈ WG := wg_t (wu1 (List.mem_of_getElem? (i := 169) rfl)) rfl
theorem w_170 : Cond.instantiable "Ballothall$Division" 8 ∈ WG := wg_t (wu1 (List.mem_of_getElem? (i := 170) rfl)) rfl
theorem w_172 : Cond.instanceMethod ⟨"Ballothall$Division", "<init>", "()V"⟩ ∈ WG := wg_t (wu1 (List.mem_of_getElem? (i := 172) rfl)) rfl
theorem w_173 : Cond.code ⟨"Ballothall$Division", "<init>", "()V"⟩ prog_6_method_1_code 1 none ∈ WG := wg_t (wu1 (List.mem_of_getElem? (i := 173) rfl)) rfl
theorem w_174 : Cond.methodLink "Ballothall$Division" 3 ⟨"java/lang/Object", "<init>", "()V"⟩ ∈ WG := wg_t (wu1 (List.mem_of_getElem? (i := 174) rfl)) rfl
theorem w_175 : Cond.fieldLink "Ballothall$Division" 31 "Ballothall$Division" "parties" "I" ∈ WG := wg_t (wu1 (List.mem_of_getElem? (i := 175) rfl)) rfl
theorem w_177 : Cond.fieldLink "Ballothall$Division" 35 "Ballothall$Division" "given" "I" ∈ WG := wg_t (wu1 (List.mem_of_getElem? (i := 177) rfl)) rfl
theorem w_179 : Cond.fieldLink "Ballothall$Division" 9 "Ballothall$Division" "number" "[I" ∈ WG := wg_t (wu1 (List.mem_of_getElem? (i := 179) rfl)) rfl
theorem w_181 : Cond.fieldLink "Ballothall$Division" 15 "Ballothall$Division" "votes" "[J" ∈ WG := wg_t (wu1 (List.mem_of_getElem? (i := 181) rfl)) rfl
theorem w_182 : Cond.fieldLink "Ballothall$Division" 19 "Ballothall$Division" "lot" "[I" ∈ WG := wg_t (wu1 (List.mem_of_getElem? (i := 182) rfl)) rfl
theorem w_183 : Cond.fieldLink "Ballothall$Division" 22 "Ballothall$Division" "seats" "[I" ∈ WG := wg_t (wu1 (List.mem_of_getElem? (i := 183) rfl)) rfl
theorem w_185 : Cond.fieldLink "Ballothall$Division" 25 "Ballothall$Division" "remainder" "[J" ∈ WG := wg_t (wu1 (List.mem_of_getElem? (i := 185) rfl)) rfl
theorem w_186 : Cond.fieldLink "Ballothall$Division" 28 "Ballothall$Division" "order" "[I" ∈ WG := wg_t (wu1 (List.mem_of_getElem? (i := 186) rfl)) rfl
theorem w_205 : Cond.classLink "Ballothall$Lists" 37 "Ballothall$KeptSeats" ∈ WG := wg_t (wu1 (List.mem_of_getElem? (i := 205) rfl)) rfl
theorem w_207 : Cond.instantiable "Ballothall$KeptSeats" 7 ∈ WG := wg_t (wu1 (List.mem_of_getElem? (i := 207) rfl)) rfl
theorem w_209 : Cond.instanceMethod ⟨"Ballothall$KeptSeats", "<init>", "()V"⟩ ∈ WG := wg_t (wu1 (List.mem_of_getElem? (i := 209) rfl)) rfl
theorem w_210 : Cond.code ⟨"Ballothall$KeptSeats", "<init>", "()V"⟩ prog_8_method_1_code 1 none ∈ WG := wg_t (wu1 (List.mem_of_getElem? (i := 210) rfl)) rfl
theorem w_211 : Cond.methodLink "Ballothall$KeptSeats" 3 ⟨"java/lang/Object", "<init>", "()V"⟩ ∈ WG := wg_t (wu1 (List.mem_of_getElem? (i := 211) rfl)) rfl
theorem w_217 : Cond.fieldLink "Ballothall$KeptSeats" 9 "Ballothall$KeptSeats" "order" "[I" ∈ WG := wg_t (wu1 (List.mem_of_getElem? (i := 217) rfl)) rfl
theorem w_220 : Cond.fieldLink "Ballothall$KeptSeats" 15 "Ballothall$KeptSeats" "got" "[I" ∈ WG := wg_t (wu1 (List.mem_of_getElem? (i := 220) rfl)) rfl
theorem w_223 : Cond.fieldLink "Ballothall$KeptSeats" 18 "Ballothall$KeptSeats" "votes" "[I" ∈ WG := wg_t (wu1 (List.mem_of_getElem? (i := 223) rfl)) rfl
theorem w_225 : Cond.fieldLink "Ballothall$KeptSeats" 21 "Ballothall$KeptSeats" "alliance" "[I" ∈ WG := wg_t (wu1 (List.mem_of_getElem? (i := 225) rfl)) rfl
theorem w_242 : Cond.fieldLink "Ballothall$Lists" 44 "Ballothall$Lists" "size" "I" ∈ WG := wg_t (wu2 (List.mem_of_getElem? (i := 2) rfl)) rfl
theorem w_244 : Cond.fieldLink "Ballothall$Lists" 9 "Ballothall$Lists" "votes" "[I" ∈ WG := wg_t (wu2 (List.mem_of_getElem? (i := 4) rfl)) rfl
theorem w_245 : Cond.fieldLink "Ballothall$Lists" 15 "Ballothall$Lists" "alliance" "[I" ∈ WG := wg_t (wu2 (List.mem_of_getElem? (i := 5) rfl)) rfl
theorem w_247 : Cond.fieldLink "Ballothall$Lists" 18 "Ballothall$Lists" "lot" "[I" ∈ WG := wg_t (wu2 (List.mem_of_getElem? (i := 7) rfl)) rfl
theorem w_249 : Cond.fieldLink "Ballothall$Lists" 24 "Ballothall$Lists" "units" "LBallothall$Division;" ∈ WG := wg_t (wu2 (List.mem_of_getElem? (i := 9) rfl)) rfl
theorem w_250 : Cond.fieldLink "Ballothall$Lists" 28 "Ballothall$Lists" "inside" "LBallothall$Division;" ∈ WG := wg_t (wu2 (List.mem_of_getElem? (i := 10) rfl)) rfl
theorem w_251 : Cond.fieldLink "Ballothall$Lists" 54 "Ballothall$Lists" "isAllied" "Z" ∈ WG := wg_t (wu2 (List.mem_of_getElem? (i := 11) rfl)) rfl
theorem w_252 : Cond.fieldLink "Ballothall$Lists" 31 "Ballothall$Lists" "got" "[I" ∈ WG := wg_t (wu2 (List.mem_of_getElem? (i := 12) rfl)) rfl
theorem w_253 : Cond.fieldLink "Ballothall$Lists" 34 "Ballothall$Lists" "gotBefore" "[I" ∈ WG := wg_t (wu2 (List.mem_of_getElem? (i := 13) rfl)) rfl
theorem w_254 : Cond.fieldLink "Ballothall$Lists" 39 "Ballothall$Lists" "kept" "[LBallothall$KeptSeats;" ∈ WG := wg_t (wu2 (List.mem_of_getElem? (i := 14) rfl)) rfl
theorem w_255 : Cond.fieldLink "Ballothall$Lists" 48 "Ballothall$Lists" "newest" "I" ∈ WG := wg_t (wu2 (List.mem_of_getElem? (i := 15) rfl)) rfl
theorem w_279 : Cond.classLink "Ballothall" 41 "Ballothall$Counting" ∈ WG := wg_t (wu2 (List.mem_of_getElem? (i := 39) rfl)) rfl
theorem w_280 : Cond.instantiable "Ballothall$Counting" 15 ∈ WG := wg_t (wu2 (List.mem_of_getElem? (i := 40) rfl)) rfl
theorem w_282 : Cond.instanceMethod ⟨"Ballothall$Counting", "<init>", "(LBallothall$BallotBox;)V"⟩ ∈ WG := wg_t (wu2 (List.mem_of_getElem? (i := 42) rfl)) rfl
theorem w_283 : Cond.code ⟨"Ballothall$Counting", "<init>", "(LBallothall$BallotBox;)V"⟩ prog_5_method_1_code 3 none ∈ WG := wg_t (wu2 (List.mem_of_getElem? (i := 43) rfl)) rfl
theorem w_284 : Cond.methodLink "Ballothall$Counting" 3 ⟨"java/lang/Object", "<init>", "()V"⟩ ∈ WG := wg_t (wu2 (List.mem_of_getElem? (i := 44) rfl)) rfl
theorem w_285 : Cond.classLink "Ballothall$Counting" 9 "Ballothall$Count" ∈ WG := wg_t (wu2 (List.mem_of_getElem? (i := 45) rfl)) rfl
theorem w_287 : Cond.classLink "Ballothall$Counting" 17 "Ballothall$Natural" ∈ WG := wg_t (wu2 (List.mem_of_getElem? (i := 47) rfl)) rfl
theorem w_289 : Cond.instantiable "Ballothall$Natural" 2 ∈ WG := wg_t (wu2 (List.mem_of_getElem? (i := 49) rfl)) rfl
theorem w_291 : Cond.instanceMethod ⟨"Ballothall$Natural", "<init>", "()V"⟩ ∈ WG := wg_t (wu2 (List.mem_of_getElem? (i := 51) rfl)) rfl
theorem w_292 : Cond.code ⟨"Ballothall$Natural", "<init>", "()V"⟩ prog_10_method_1_code 1 none ∈ WG := wg_t (wu2 (List.mem_of_getElem? (i := 52) rfl)) rfl
theorem w_293 : Cond.methodLink "Ballothall$Natural" 3 ⟨"java/lang/Object", "<init>", "()V"⟩ ∈ WG := wg_t (wu2 (List.mem_of_getElem? (i := 53) rfl)) rfl
theorem w_294 : Cond.fieldLink "Ballothall$Natural" 9 "Ballothall$Natural" "limb" "[I" ∈ WG := wg_t (wu2 (List.mem_of_getElem? (i := 54) rfl)) rfl
theorem w_295 : Cond.fieldLink "Ballothall$Natural" 15 "Ballothall$Natural" "size" "I" ∈ WG := wg_t (wu2 (List.mem_of_getElem? (i := 55) rfl)) rfl
theorem w_303 : Cond.fieldLink "Ballothall$Counting" 55 "Ballothall$Counting" "box" "LBallothall$BallotBox;" ∈ WG := wg_t (wu2 (List.mem_of_getElem? (i := 63) rfl)) rfl
theorem w_304 : Cond.fieldLink "Ballothall$Counting" 11 "Ballothall$Counting" "kept" "[LBallothall$Count;" ∈ WG := wg_t (wu2 (List.mem_of_getElem? (i := 64) rfl)) rfl
theorem w_305 : Cond.fieldLink "Ballothall$Counting" 59 "Ballothall$Counting" "newest" "I" ∈ WG := wg_t (wu2 (List.mem_of_getElem? (i := 65) rfl)) rfl
theorem w_306 : Cond.fieldLink "Ballothall$Counting" 80 "Ballothall$Counting" "hopeful" "I" ∈ WG := wg_t (wu2 (List.mem_of_getElem? (i := 66) rfl)) rfl
theorem w_307 : Cond.fieldLink "Ballothall$Counting" 19 "Ballothall$Counting" "weight" "[LBallothall$Natural;" ∈ WG := wg_t (wu2 (List.mem_of_getElem? (i := 67) rfl)) rfl
theorem w_308 : Cond.fieldLink "Ballothall$Counting" 23 "Ballothall$Counting" "pile" "[LBallothall$Natural;" ∈ WG := wg_t (wu2 (List.mem_of_getElem? (i := 68) rfl)) rfl
theorem w_309 : Cond.fieldLink "Ballothall$Counting" 27 "Ballothall$Counting" "common" "LBallothall$Natural;" ∈ WG := wg_t (wu2 (List.mem_of_getElem? (i := 69) rfl)) rfl
theorem w_310 : Cond.fieldLink "Ballothall$Counting" 31 "Ballothall$Counting" "amount" "LBallothall$Natural;" ∈ WG := wg_t (wu2 (List.mem_of_getElem? (i := 70) rfl)) rfl
theorem w_311 : Cond.fieldLink "Ballothall$Counting" 34 "Ballothall$Counting" "held" "LBallothall$Natural;" ∈ WG := wg_t (wu2 (List.mem_of_getElem? (i := 71) rfl)) rfl
theorem w_312 : Cond.fieldLink "Ballothall$Counting" 37 "Ballothall$Counting" "numerator" "LBallothall$Natural;" ∈ WG := wg_t (wu2 (List.mem_of_getElem? (i := 72) rfl)) rfl
theorem w_314 : Cond.fieldLink "Ballothall$Counting" 40 "Ballothall$Counting" "denominator" "LBallothall$Natural;" ∈ WG := wg_t (wu2 (List.mem_of_getElem? (i := 74) rfl)) rfl
theorem w_316 : Cond.fieldLink "Ballothall$Counting" 43 "Ballothall$Counting" "greater" "LBallothall$Natural;" ∈ WG := wg_t (wu2 (List.mem_of_getElem? (i := 76) rfl)) rfl
theorem w_317 : Cond.fieldLink "Ballothall$Counting" 46 "Ballothall$Counting" "smaller" "LBallothall$Natural;" ∈ WG := wg_t (wu2 (List.mem_of_getElem? (i := 77) rfl)) rfl
theorem w_318 : Cond.fieldLink "Ballothall$Counting" 49 "Ballothall$Counting" "quotient" "LBallothall$Natural;" ∈ WG := wg_t (wu2 (List.mem_of_getElem? (i := 78) rfl)) rfl
theorem w_319 : Cond.fieldLink "Ballothall$Counting" 52 "Ballothall$Counting" "scratch" "LBallothall$Natural;" ∈ WG := wg_t (wu2 (List.mem_of_getElem? (i := 79) rfl)) rfl
theorem w_351 : Cond.classLink "Ballothall" 48 "Ballothall$Wards" ∈ WG := wg_t (wu2 (List.mem_of_getElem? (i := 111) rfl)) rfl
theorem w_352 : Cond.instantiable "Ballothall$Wards" 5 ∈ WG := wg_t (wu2 (List.mem_of_getElem? (i := 112) rfl)) rfl
theorem w_354 : Cond.instanceMethod ⟨"Ballothall$Wards", "<init>", "()V"⟩ ∈ WG := wg_t (wu2 (List.mem_of_getElem? (i := 114) rfl)) rfl
theorem w_355 : Cond.code ⟨"Ballothall$Wards", "<init>", "()V"⟩ prog_12_method_1_code 1 none ∈ WG := wg_t (wu2 (List.mem_of_getElem? (i := 115) rfl)) rfl
theorem w_356 : Cond.methodLink "Ballothall$Wards" 3 ⟨"java/lang/Object", "<init>", "()V"⟩ ∈ WG := wg_t (wu2 (List.mem_of_getElem? (i := 116) rfl)) rfl
theorem w_357 : Cond.classLink "Ballothall$Wards" 15 "[[I" ∈ WG := wg_t (wu2 (List.mem_of_getElem? (i := 117) rfl)) rfl
theorem w_358 : Cond.fieldLink "Ballothall$Wards" 26 "Ballothall$Wards" "size" "I" ∈ WG := wg_t (wu2 (List.mem_of_getElem? (i := 118) rfl)) rfl
theorem w_360 : Cond.fieldLink "Ballothall$Wards" 9 "Ballothall$Wards" "heads" "[I" ∈ WG := wg_t (wu2 (List.mem_of_getElem? (i := 120) rfl)) rfl
theorem w_361 : Cond.fieldLink "Ballothall$Wards" 17 "Ballothall$Wards" "votes" "[[I" ∈ WG := wg_t (wu2 (List.mem_of_getElem? (i := 121) rfl)) rfl
theorem w_362 : Cond.fieldLink "Ballothall$Wards" 20 "Ballothall$Wards" "greatest" "[[I" ∈ WG := wg_t (wu2 (List.mem_of_getElem? (i := 122) rfl)) rfl
theorem w_363 : Cond.fieldLink "Ballothall$Wards" 23 "Ballothall$Wards" "end" "[I" ∈ WG := wg_t (wu2 (List.mem_of_getElem? (i := 123) rfl)) rfl
theorem w_376 : Cond.classLink "Ballothall" 55 "Ballothall$Council" ∈ WG := wg_t (wu2 (List.mem_of_getElem? (i := 136) rfl)) rfl
theorem w_377 : Cond.instantiable "Ballothall$Council" 4 ∈ WG := wg_t (wu2 (List.mem_of_getElem? (i := 137) rfl)) rfl
theorem w_379 : Cond.instanceMethod ⟨"Ballothall$Council", "<init>", "()V"⟩ ∈ WG := wg_t (wu2 (List.mem_of_getElem? (i := 139) rfl)) rfl
theorem w_380 : Cond.code ⟨"Ballothall$Council", "<init>", "()V"⟩ prog_3_method_1_code 1 none ∈ WG := wg_t (wu2 (List.mem_of_getElem? (i := 140) rfl)) rfl
theorem w_381 : Cond.methodLink "Ballothall$Council" 3 ⟨"java/lang/Object", "<init>", "()V"⟩ ∈ WG := wg_t (wu2 (List.mem_of_getElem? (i := 141) rfl)) rfl
theorem w_382 : Cond.fieldLink "Ballothall$Council" 22 "Ballothall$Council" "size" "I" ∈ WG := wg_t (wu2 (List.mem_of_getElem? (i := 142) rfl)) rfl
theorem w_384 : Cond.fieldLink "Ballothall$Council" 9 "Ballothall$Council" "quota" "I" ∈ WG := wg_t (wu2 (List.mem_of_getElem? (i := 144) rfl)) rfl
theorem w_386 : Cond.fieldLink "Ballothall$Council" 15 "Ballothall$Council" "weight" "[I" ∈ WG := wg_t (wu2 (List.mem_of_getElem? (i := 146) rfl)) rfl
theorem w_387 : Cond.fieldLink "Ballothall$Council" 19 "Ballothall$Council" "sum" "[I" ∈ WG := wg_t (wu2 (List.mem_of_getElem? (i := 147) rfl)) rfl
theorem w_397 : Cond.fieldLink "Ballothall" 12 "Ballothall" "box" "LBallothall$BallotBox;" ∈ WG := wg_t (wu2 (List.mem_of_getElem? (i := 157) rfl)) rfl
theorem w_398 : Cond.fieldLink "Ballothall" 21 "Ballothall" "poll" "LBallothall$Poll;" ∈ WG := wg_t (wu2 (List.mem_of_getElem? (i := 158) rfl)) rfl
theorem w_399 : Cond.fieldLink "Ballothall" 30 "Ballothall" "falseBallot" "LBallothall$FalseBallot;" ∈ WG := wg_t (wu2 (List.mem_of_getElem? (i := 159) rfl)) rfl
theorem w_400 : Cond.fieldLink "Ballothall" 37 "Ballothall" "lists" "LBallothall$Lists;" ∈ WG := wg_t (wu2 (List.mem_of_getElem? (i := 160) rfl)) rfl
theorem w_401 : Cond.fieldLink "Ballothall" 44 "Ballothall" "counting" "LBallothall$Counting;" ∈ WG := wg_t (wu2 (List.mem_of_getElem? (i := 161) rfl)) rfl
theorem w_402 : Cond.fieldLink "Ballothall" 51 "Ballothall" "wards" "LBallothall$Wards;" ∈ WG := wg_t (wu2 (List.mem_of_getElem? (i := 162) rfl)) rfl
theorem w_403 : Cond.fieldLink "Ballothall" 58 "Ballothall" "council" "LBallothall$Council;" ∈ WG := wg_t (wu2 (List.mem_of_getElem? (i := 163) rfl)) rfl
theorem w_404 : Cond.fieldLink "Ballothall" 62 "Ballothall" "changeWhat" "[I" ∈ WG := wg_t (wu2 (List.mem_of_getElem? (i := 164) rfl)) rfl
theorem w_405 : Cond.fieldLink "Ballothall" 66 "Ballothall" "changeWhere" "[I" ∈ WG := wg_t (wu2 (List.mem_of_getElem? (i := 165) rfl)) rfl
theorem w_406 : Cond.fieldLink "Ballothall" 69 "Ballothall" "changeBefore" "[I" ∈ WG := wg_t (wu2 (List.mem_of_getElem? (i := 166) rfl)) rfl
theorem w_407 : Cond.fieldLink "Ballothall" 368 "Ballothall" "newestChange" "I" ∈ WG := wg_t (wu2 (List.mem_of_getElem? (i := 167) rfl)) rfl
theorem w_408 : Cond.fieldLink "Ballothall" 365 "Ballothall" "changes" "I" ∈ WG := wg_t (wu2 (List.mem_of_getElem? (i := 168) rfl)) rfl
theorem w_409 : Cond.fieldLink "Ballothall" 72 "Ballothall" "output" "[I" ∈ WG := wg_t (wu2 (List.mem_of_getElem? (i := 169) rfl)) rfl
theorem w_410 : Cond.fieldLink "Ballothall" 227 "Ballothall" "outputLength" "I" ∈ WG := wg_t (wu2 (List.mem_of_getElem? (i := 170) rfl)) rfl
theorem w_440 : Cond.methodLink "BallothallLaw" 232 ⟨"Ballothall", "candidate", "()I"⟩ ∈ WG := wg_t (wu2 (List.mem_of_getElem? (i := 200) rfl)) rfl
theorem w_441 : Cond.instanceMethod ⟨"Ballothall", "candidate", "()I"⟩ ∈ WG := wg_t (wu2 (List.mem_of_getElem? (i := 201) rfl)) rfl
theorem w_442 : Cond.selects "Ballothall" ⟨"Ballothall", "candidate", "()I"⟩ ⟨"Ballothall", "candidate", "()I"⟩ ∈ WG := wg_t (wu2 (List.mem_of_getElem? (i := 202) rfl)) rfl
theorem w_443 : Cond.code ⟨"Ballothall", "candidate", "()I"⟩ prog_1_method_2_code 2 (some .int) ∈ WG := wg_t (wu2 (List.mem_of_getElem? (i := 203) rfl)) rfl
theorem w_444 : Cond.methodLink "Ballothall" 79 ⟨"Ballothall", "needRoom", "(II)V"⟩ ∈ WG := wg_t (wu2 (List.mem_of_getElem? (i := 204) rfl)) rfl
theorem w_445 : Cond.static ⟨"Ballothall", "needRoom", "(II)V"⟩ ∈ WG := wg_t (wu2 (List.mem_of_getElem? (i := 205) rfl)) rfl
theorem w_446 : Cond.code ⟨"Ballothall", "needRoom", "(II)V"⟩ prog_1_method_58_code 2 none ∈ WG := wg_t (wu2 (List.mem_of_getElem? (i := 206) rfl)) rfl
theorem w_515 : Cond.arrayClass .byte ∈ WG := wg_t (wu3 (List.mem_of_getElem? (i := 35) rfl)) rfl
theorem w_516 : Cond.methodLink "Ballothall" 86 ⟨"Ballothall", "remember", "(III)V"⟩ ∈ WG := wg_t (wu3 (List.mem_of_getElem? (i := 36) rfl)) rfl
theorem w_518 : Cond.instanceMethod ⟨"Ballothall", "remember", "(III)V"⟩ ∈ WG := wg_t (wu3 (List.mem_of_getElem? (i := 38) rfl)) rfl
theorem w_519 : Cond.code ⟨"Ballothall", "remember", "(III)V"⟩ prog_1_method_61_code 4 none ∈ WG := wg_t (wu3 (List.mem_of_getElem? (i := 39) rfl)) rfl
theorem w_520 : Cond.methodLink "Ballothall" 267 ⟨"java/lang/Math", "min", "(II)I"⟩ ∈ WG := wg_t (wu3 (List.mem_of_getElem? (i := 40) rfl)) rfl
theorem w_521 : Cond.static ⟨"java/lang/Math", "min", "(II)I"⟩ ∈ WG := wg_t (wu3 (List.mem_of_getElem? (i := 41) rfl)) rfl
theorem w_523 : Cond.methodLink "BallothallLaw" 178 ⟨"Ballothall", "setLot", "(ZII)I"⟩ ∈ WG := wg_t (wu3 (List.mem_of_getElem? (i := 43) rfl)) rfl
theorem w_524 : Cond.instanceMethod ⟨"Ballothall", "setLot", "(ZII)I"⟩ ∈ WG := wg_t (wu3 (List.mem_of_getElem? (i := 44) rfl)) rfl
theorem w_525 : Cond.selects "Ballothall" ⟨"Ballothall", "setLot", "(ZII)I"⟩ ⟨"Ballothall", "setLot", "(ZII)I"⟩ ∈ WG := wg_t (wu3 (List.mem_of_getElem? (i := 45) rfl)) rfl
theorem w_526 : Cond.code ⟨"Ballothall", "setLot", "(ZII)I"⟩ prog_1_method_3_code 6 (some .int) ∈ WG := wg_t (wu3 (List.mem_of_getElem? (i := 46) rfl)) rfl
theorem w_527 : Cond.methodLink "Ballothall" 93 ⟨"Ballothall", "needIndex", "(II)V"⟩ ∈ WG := wg_t (wu3 (List.mem_of_getElem? (i := 47) rfl)) rfl
theorem w_528 : Cond.static ⟨"Ballothall", "needIndex", "(II)V"⟩ ∈ WG := wg_t (wu3 (List.mem_of_getElem? (i := 48) rfl)) rfl
theorem w_529 : Cond.code ⟨"Ballothall", "needIndex", "(II)V"⟩ prog_1_method_56_code 2 none ∈ WG := wg_t (wu3 (List.mem_of_getElem? (i := 49) rfl)) rfl
theorem w_546 : Cond.methodLink "Ballothall" 96 ⟨"Ballothall", "needRange", "(III)V"⟩ ∈ WG := wg_t (wu3 (List.mem_of_getElem? (i := 66) rfl)) rfl
theorem w_547 : Cond.static ⟨"Ballothall", "needRange", "(III)V"⟩ ∈ WG := wg_t (wu3 (List.mem_of_getElem? (i := 67) rfl)) rfl
theorem w_548 : Cond.code ⟨"Ballothall", "needRange", "(III)V"⟩ prog_1_method_57_code 3 none ∈ WG := wg_t (wu3 (List.mem_of_getElem? (i := 68) rfl)) rfl
theorem w_565 : Cond.methodLink "BallothallLaw" 238 ⟨"Ballothall", "allBallots", "()I"⟩ ∈ WG := wg_t (wu3 (List.mem_of_getElem? (i := 85) rfl)) rfl
theorem w_566 : Cond.instanceMethod ⟨"Ballothall", "allBallots", "()I"⟩ ∈ WG := wg_t (wu3 (List.mem_of_getElem? (i := 86) rfl)) rfl
theorem w_567 : Cond.selects "Ballothall" ⟨"Ballothall", "allBallots", "()I"⟩ ⟨"Ballothall", "allBallots", "()I"⟩ ∈ WG := wg_t (wu3 (List.mem_of_getElem? (i := 87) rfl)) rfl
theorem w_568 : Cond.code ⟨"Ballothall", "allBallots", "()I"⟩ prog_1_method_9_code 1 (some .int) ∈ WG := wg_t (wu3 (List.mem_of_getElem? (i := 88) rfl)) rfl
theorem w_571 : Cond.instanceMethod ⟨"Ballothall$BallotBox", "ballotsOf", "([II)I"⟩ ∈ WG := wg_t (wu3 (List.mem_of_getElem? (i := 91) rfl)) rfl
theorem w_572 : Cond.code ⟨"Ballothall$BallotBox", "ballotsOf", "([II)I"⟩ prog_2_method_4_code 5 (some .int) ∈ WG := wg_t (wu3 (List.mem_of_getElem? (i := 92) rfl)) rfl
theorem w_573 : Cond.methodLink "BallothallLaw" 198 ⟨"Ballothall", "errors", "()I"⟩ ∈ WG := wg_t (wu3 (List.mem_of_getElem? (i := 93) rfl)) rfl
theorem w_574 : Cond.instanceMethod ⟨"Ballothall", "errors", "()I"⟩ ∈ WG := wg_t (wu3 (List.mem_of_getElem? (i := 94) rfl)) rfl
theorem w_575 : Cond.selects "Ballothall" ⟨"Ballothall", "errors", "()I"⟩ ⟨"Ballothall", "errors", "()I"⟩ ∈ WG := wg_t (wu3 (List.mem_of_getElem? (i := 95) rfl)) rfl
theorem w_576 : Cond.code ⟨"Ballothall", "errors", "()I"⟩ prog_1_method_54_code 1 (some .int) ∈ WG := wg_t (wu3 (List.mem_of_getElem? (i := 96) rfl)) rfl
theorem w_579 : Cond.instanceMethod ⟨"Ballothall$Lists", "isUnjust", "()Z"⟩ ∈ WG := wg_t (wu3 (List.mem_of_getElem? (i := 99) rfl)) rfl
theorem w_580 : Cond.code ⟨"Ballothall$Lists", "isUnjust", "()Z"⟩ prog_9_method_12_code 4 (some .boolean) ∈ WG := wg_t (wu3 (List.mem_of_getElem? (i := 100) rfl)) rfl
theorem w_581 : Cond.methodLink "Ballothall$Lists" 130 ⟨"Ballothall$Lists", "latest", "()LBallothall$KeptSeats;"⟩ ∈ WG := wg_t (wu3 (List.mem_of_getElem? (i := 101) rfl)) rfl
theorem w_583 : Cond.instanceMethod ⟨"Ballothall$Lists", "latest", "()LBallothall$KeptSeats;"⟩ ∈ WG := wg_t (wu3 (List.mem_of_getElem? (i := 103) rfl)) rfl
theorem w_584 : Cond.code ⟨"Ballothall$Lists", "latest", "()LBallothall$KeptSeats;"⟩ prog_9_method_3_code 1 (some (.object "Ballothall$KeptSeats")) ∈ WG := wg_t (wu3 (List.mem_of_getElem? (i := 104) rfl)) rfl
theorem w_585 : Cond.methodLink "Ballothall$Lists" 134 ⟨"Ballothall$Lists", "isAsThen", "(I)Z"⟩ ∈ WG := wg_t (wu3 (List.mem_of_getElem? (i := 105) rfl)) rfl
theorem w_587 : Cond.instanceMethod ⟨"Ballothall$Lists", "isAsThen", "(I)Z"⟩ ∈ WG := wg_t (wu3 (List.mem_of_getElem? (i := 107) rfl)) rfl
theorem w_588 : Cond.code ⟨"Ballothall$Lists", "isAsThen", "(I)Z"⟩ prog_9_method_13_code 3 (some .boolean) ∈ WG := wg_t (wu3 (List.mem_of_getElem? (i := 108) rfl)) rfl
theorem w_589 : Cond.methodLink "Ballothall" 382 ⟨"Ballothall", "countErrors", "()I"⟩ ∈ WG := wg_t (wu3 (List.mem_of_getElem? (i := 109) rfl)) rfl
theorem w_591 : Cond.instanceMethod ⟨"Ballothall", "countErrors", "()I"⟩ ∈ WG := wg_t (wu3 (List.mem_of_getElem? (i := 111) rfl)) rfl
theorem w_592 : Cond.code ⟨"Ballothall", "countErrors", "()I"⟩ prog_1_method_65_code 7 (some .int) ∈ WG := wg_t (wu3 (List.mem_of_getElem? (i := 112) rfl)) rfl
theorem w_595 : Cond.instanceMethod ⟨"Ballothall$Counting", "latest", "()LBallothall$Count;"⟩ ∈ WG := wg_t (wu3 (List.mem_of_getElem? (i := 115) rfl)) rfl
theorem w_596 : Cond.code ⟨"Ballothall$Counting", "latest", "()LBallothall$Count;"⟩ prog_5_method_2_code 1 (some (.object "Ballothall$Count")) ∈ WG := wg_t (wu3 (List.mem_of_getElem? (i := 116) rfl)) rfl
theorem w_599 : Cond.instanceMethod ⟨"Ballothall$Counting", "unbalancedSteps", "(LBallothall$Count;)I"⟩ ∈ WG := wg_t (wu3 (List.mem_of_getElem? (i := 119) rfl)) rfl
theorem w_600 : Cond.code ⟨"Ballothall$Counting", "unbalancedSteps", "(LBallothall$Count;)I"⟩ prog_5_method_20_code 5 (some .int) ∈ WG := wg_t (wu3 (List.mem_of_getElem? (i := 120) rfl)) rfl
theorem w_603 : Cond.instanceMethod ⟨"Ballothall$Natural", "become", "(J)V"⟩ ∈ WG := wg_t (wu3 (List.mem_of_getElem? (i := 123) rfl)) rfl
theorem w_604 : Cond.code ⟨"Ballothall$Natural", "become", "(J)V"⟩ prog_10_method_2_code 6 none ∈ WG := wg_t (wu3 (List.mem_of_getElem? (i := 124) rfl)) rfl
theorem w_605 : Cond.constantLong "Ballothall$Natural" 19 1073741823 ∈ WG := wg_t (wu3 (List.mem_of_getElem? (i := 125) rfl)) rfl
theorem w_606 : Cond.methodLink "Ballothall$Counting" 234 ⟨"Ballothall$Counting", "loadPile", "(LBallothall$Count;II)V"⟩ ∈ WG := wg_t (wu3 (List.mem_of_getElem? (i := 126) rfl)) rfl
theorem w_608 : Cond.instanceMethod ⟨"Ballothall$Counting", "loadPile", "(LBallothall$Count;II)V"⟩ ∈ WG := wg_t (wu3 (List.mem_of_getElem? (i := 128) rfl)) rfl
theorem w_609 : Cond.code ⟨"Ballothall$Counting", "loadPile", "(LBallothall$Count;II)V"⟩ prog_5_method_18_code 4 none ∈ WG := wg_t (wu3 (List.mem_of_getElem? (i := 129) rfl)) rfl
theorem w_612 : Cond.instanceMethod ⟨"Ballothall$Count", "placeOf", "(II)I"⟩ ∈ WG := wg_t (wu3 (List.mem_of_getElem? (i := 132) rfl)) rfl
theorem w_613 : Cond.instantiable "Ballothall$Count" 10 ∈ WG := wg_t (wu3 (List.mem_of_getElem? (i := 133) rfl)) rfl
theorem w_614 : Cond.code ⟨"Ballothall$Count", "placeOf", "(II)I"⟩ prog_4_method_2_code 3 (some .int) ∈ WG := wg_t (wu3 (List.mem_of_getElem? (i := 134) rfl)) rfl
theorem w_617 : Cond.instanceMethod ⟨"Ballothall$Natural", "load", "([II)V"⟩ ∈ WG := wg_t (wu3 (List.mem_of_getElem? (i := 137) rfl)) rfl
theorem w_618 : Cond.code ⟨"Ballothall$Natural", "load", "([II)V"⟩ prog_10_method_5_code 3 none ∈ WG := wg_t (wu3 (List.mem_of_getElem? (i := 138) rfl)) rfl
theorem w_619 : Cond.methodLink "Ballothall$Natural" 21 ⟨"java/lang/System", "arraycopy", "(Ljava/lang/Object;ILjava/lang/Object;II)V"⟩ ∈ WG := wg_t (wu3 (List.mem_of_getElem? (i := 139) rfl)) rfl
theorem w_620 : Cond.static ⟨"java/lang/System", "arraycopy", "(Ljava/lang/Object;ILjava/lang/Object;II)V"⟩ ∈ WG := wg_t (wu3 (List.mem_of_getElem? (i := 140) rfl)) rfl
theorem w_621 : Cond.native ⟨"java/lang/System", "arraycopy", "(Ljava/lang/Object;ILjava/lang/Object;II)V"⟩ ∈ WG := wg_t (wu3 (List.mem_of_getElem? (i := 141) rfl)) rfl
theorem w_622 : Cond.methodLink "Ballothall$Natural" 31 ⟨"Ballothall$Natural", "trimTo", "(I)V"⟩ ∈ WG := wg_t (wu3 (List.mem_of_getElem? (i := 142) rfl)) rfl
theorem w_624 : Cond.instanceMethod ⟨"Ballothall$Natural", "trimTo", "(I)V"⟩ ∈ WG := wg_t (wu3 (List.mem_of_getElem? (i := 144) rfl)) rfl
theorem w_625 : Cond.code ⟨"Ballothall$Natural", "trimTo", "(I)V"⟩ prog_10_method_6_code 2 none ∈ WG := wg_t (wu3 (List.mem_of_getElem? (i := 145) rfl)) rfl
theorem w_626 : Cond.methodLink "Ballothall$Natural" 35 ⟨"java/lang/Math", "min", "(II)I"⟩ ∈ WG := wg_t (wu3 (List.mem_of_getElem? (i := 146) rfl)) rfl
theorem w_629 : Cond.instanceMethod ⟨"Ballothall$Natural", "add", "(LBallothall$Natural;)V"⟩ ∈ WG := wg_t (wu3 (List.mem_of_getElem? (i := 149) rfl)) rfl
theorem w_630 : Cond.code ⟨"Ballothall$Natural", "add", "(LBallothall$Natural;)V"⟩ prog_10_method_10_code 6 none ∈ WG := wg_t (wu3 (List.mem_of_getElem? (i := 150) rfl)) rfl
theorem w_631 : Cond.methodLink "Ballothall$Natural" 41 ⟨"java/lang/Math", "max", "(II)I"⟩ ∈ WG := wg_t (wu3 (List.mem_of_getElem? (i := 151) rfl)) rfl
theorem w_632 : Cond.static ⟨"java/lang/Math", "max", "(II)I"⟩ ∈ WG := wg_t (wu3 (List.mem_of_getElem? (i := 152) rfl)) rfl
theorem w_634 : Cond.methodLink "Ballothall$Natural" 27 ⟨"Ballothall$Natural", "limbAt", "(I)I"⟩ ∈ WG := wg_t (wu3 (List.mem_of_getElem? (i := 154) rfl)) rfl
theorem w_636 : Cond.instanceMethod ⟨"Ballothall$Natural", "limbAt", "(I)I"⟩ ∈ WG := wg_t (wu3 (List.mem_of_getElem? (i := 156) rfl)) rfl
theorem w_637 : Cond.code ⟨"Ballothall$Natural", "limbAt", "(I)I"⟩ prog_10_method_7_code 2 (some .int) ∈ WG := wg_t (wu3 (List.mem_of_getElem? (i := 157) rfl)) rfl
theorem w_638 : Cond.constant "Ballothall$Natural" 44 1073741823 ∈ WG := wg_t (wu3 (List.mem_of_getElem? (i := 158) rfl)) rfl
theorem w_641 : Cond.instanceMethod ⟨"Ballothall$Natural", "multiplySmall", "(I)V"⟩ ∈ WG := wg_t (wu3 (List.mem_of_getElem? (i := 161) rfl)) rfl
theorem w_642 : Cond.code ⟨"Ballothall$Natural", "multiplySmall", "(I)V"⟩ prog_10_method_12_code 6 none ∈ WG := wg_t (wu3 (List.mem_of_getElem? (i := 162) rfl)) rfl
theorem w_645 : Cond.instanceMethod ⟨"Ballothall$Natural", "compareWith", "(LBallothall$Natural;)I"⟩ ∈ WG := wg_t (wu3 (List.mem_of_getElem? (i := 165) rfl)) rfl
theorem w_646 : Cond.code ⟨"Ballothall$Natural", "compareWith", "(LBallothall$Natural;)I"⟩ prog_10_method_9_code 3 (some .int) ∈ WG := wg_t (wu3 (List.mem_of_getElem? (i := 166) rfl)) rfl
theorem w_649 : Cond.instanceMethod ⟨"Ballothall$BallotBox", "findSupport", "([III)V"⟩ ∈ WG := wg_t (wu3 (List.mem_of_getElem? (i := 169) rfl)) rfl
theorem w_650 : Cond.code ⟨"Ballothall$BallotBox", "findSupport", "([III)V"⟩ prog_2_method_15_code 7 none ∈ WG := wg_t (wu3 (List.mem_of_getElem? (i := 170) rfl)) rfl
theorem w_651 : Cond.methodLink "Ballothall$BallotBox" 53 ⟨"java/util/Arrays", "fill", "([II)V"⟩ ∈ WG := wg_t (wu3 (List.mem_of_getElem? (i := 171) rfl)) rfl
theorem w_652 : Cond.static ⟨"java/util/Arrays", "fill", "([II)V"⟩ ∈ WG := wg_t (wu3 (List.mem_of_getElem? (i := 172) rfl)) rfl
theorem w_653 : Cond.code ⟨"java/util/Arrays", "fill", "([II)V"⟩ prog_43_method_103_code 4 none ∈ WG := wg_t (wu3 (List.mem_of_getElem? (i := 173) rfl)) rfl
theorem w_654 : Cond.methodLink "Ballothall$BallotBox" 87 ⟨"Ballothall$BallotBox", "ballotsOf", "([II)I"⟩ ∈ WG := wg_t (wu3 (List.mem_of_getElem? (i := 174) rfl)) rfl
theorem w_655 : Cond.methodLink "Ballothall" 262 ⟨"java/lang/Integer", "bitCount", "(I)I"⟩ ∈ WG := wg_t (wu3 (List.mem_of_getElem? (i := 175) rfl)) rfl
theorem w_656 : Cond.static ⟨"java/lang/Integer", "bitCount", "(I)I"⟩ ∈ WG := wg_t (wu3 (List.mem_of_getElem? (i := 176) rfl)) rfl
theorem w_657 : Cond.code ⟨"java/lang/Integer", "bitCount", "(I)I"⟩ prog_32_method_49_code 1 (some .int) ∈ WG := wg_t (wu3 (List.mem_of_getElem? (i := 177) rfl)) rfl
theorem w_658 : Cond.constant "java/lang/Integer" 265 1431655765 ∈ WG := wg_t (wu3 (List.mem_of_getElem? (i := 178) rfl)) rfl
theorem w_659 : Cond.constant "java/lang/Integer" 266 858993459 ∈ WG := wg_t (wu3 (List.mem_of_getElem? (i := 179) rfl)) rfl
theorem w_660 : Cond.constant "java/lang/Integer" 267 252645135 ∈ WG := wg_t (wu3 (List.mem_of_getElem? (i := 180) rfl)) rfl
theorem w_661 : Cond.methodLink "Ballothall" 385 ⟨"Ballothall", "isBeaterOfAllMissed", "()Z"⟩ ∈ WG := wg_t (wu3 (List.mem_of_getElem? (i := 181) rfl)) rfl
theorem w_663 : Cond.instanceMethod ⟨"Ballothall", "isBeaterOfAllMissed", "()Z"⟩ ∈ WG := wg_t (wu3 (List.mem_of_getElem? (i := 183) rfl)) rfl
theorem w_664 : Cond.code ⟨"Ballothall", "isBeaterOfAllMissed", "()Z"⟩ prog_1_method_66_code 2 (some .boolean) ∈ WG := wg_t (wu3 (List.mem_of_getElem? (i := 184) rfl)) rfl
theorem w_667 : Cond.instanceMethod ⟨"Ballothall$BallotBox", "everybody", "()I"⟩ ∈ WG := wg_t (wu3 (List.mem_of_getElem? (i := 187) rfl)) rfl
theorem w_668 : Cond.code ⟨"Ballothall$BallotBox", "everybody", "()I"⟩ prog_2_method_2_code 1 (some .int) ∈ WG := wg_t (wu3 (List.mem_of_getElem? (i := 188) rfl)) rfl
theorem w_671 : Cond.instanceMethod ⟨"Ballothall$Poll", "open", "(I)V"⟩ ∈ WG := wg_t (wu3 (List.mem_of_getElem? (i := 191) rfl)) rfl
theorem w_672 : Cond.code ⟨"Ballothall$Poll", "open", "(I)V"⟩ prog_11_method_2_code 3 none ∈ WG := wg_t (wu3 (List.mem_of_getElem? (i := 192) rfl)) rfl
theorem w_673 : Cond.methodLink "Ballothall$Poll" 51 ⟨"java/util/Arrays", "fill", "([II)V"⟩ ∈ WG := wg_t (wu3 (List.mem_of_getElem? (i := 193) rfl)) rfl
theorem w_674 : Cond.methodLink "Ballothall$Poll" 65 ⟨"Ballothall$Poll", "change", "(II)V"⟩ ∈ WG := wg_t (wu3 (List.mem_of_getElem? (i := 194) rfl)) rfl
theorem w_676 : Cond.instanceMethod ⟨"Ballothall$Poll", "change", "(II)V"⟩ ∈ WG := wg_t (wu3 (List.mem_of_getElem? (i := 196) rfl)) rfl
theorem w_677 : Cond.code ⟨"Ballothall$Poll", "change", "(II)V"⟩ prog_11_method_3_code 7 none ∈ WG := wg_t (wu3 (List.mem_of_getElem? (i := 197) rfl)) rfl
theorem w_680 : Cond.instanceMethod ⟨"Ballothall$BallotBox", "soleTopOf", "(II)I"⟩ ∈ WG := wg_t (wu3 (List.mem_of_getElem? (i := 200) rfl)) rfl
theorem w_681 : Cond.code ⟨"Ballothall$BallotBox", "soleTopOf", "(II)I"⟩ prog_2_method_14_code 4 (some .int) ∈ WG := wg_t (wu3 (List.mem_of_getElem? (i := 201) rfl)) rfl
theorem w_682 : Cond.methodLink "Ballothall$BallotBox" 78 ⟨"Ballothall$BallotBox", "topOf", "(II)I"⟩ ∈ WG := wg_t (wu3 (List.mem_of_getElem? (i := 202) rfl)) rfl
theorem w_684 : Cond.instanceMethod ⟨"Ballothall$BallotBox", "topOf", "(II)I"⟩ ∈ WG := wg_t (wu3 (List.mem_of_getElem? (i := 204) rfl)) rfl
theorem w_685 : Cond.code ⟨"Ballothall$BallotBox", "topOf", "(II)I"⟩ prog_2_method_13_code 5 (some .int) ∈ WG := wg_t (wu3 (List.mem_of_getElem? (i := 205) rfl)) rfl
theorem w_686 : Cond.methodLink "Ballothall$BallotBox" 81 ⟨"java/lang/Integer", "bitCount", "(I)I"⟩ ∈ WG := wg_t (wu3 (List.mem_of_getElem? (i := 206) rfl)) rfl
theorem w_687 : Cond.methodLink "Ballothall$Poll" 80 ⟨"Ballothall$Poll", "changePairs", "(III)V"⟩ ∈ WG := wg_t (wu3 (List.mem_of_getElem? (i := 207) rfl)) rfl
theorem w_689 : Cond.instanceMethod ⟨"Ballothall$Poll", "changePairs", "(III)V"⟩ ∈ WG := wg_t (wu3 (List.mem_of_getElem? (i := 209) rfl)) rfl
theorem w_690 : Cond.code ⟨"Ballothall$Poll", "changePairs", "(III)V"⟩ prog_11_method_4_code 6 none ∈ WG := wg_t (wu3 (List.mem_of_getElem? (i := 210) rfl)) rfl
theorem w_692 : Cond.static ⟨"Ballothall", "has", "(II)Z"⟩ ∈ WG := wg_t (wu3 (List.mem_of_getElem? (i := 212) rfl)) rfl
theorem w_693 : Cond.code ⟨"Ballothall", "has", "(II)Z"⟩ prog_1_method_55_code 2 (some .boolean) ∈ WG := wg_t (wu3 (List.mem_of_getElem? (i := 213) rfl)) rfl
theorem w_696 : Cond.instanceMethod ⟨"Ballothall$Poll", "beaterOfAll", "()I"⟩ ∈ WG := wg_t (wu3 (List.mem_of_getElem? (i := 216) rfl)) rfl
theorem w_697 : Cond.code ⟨"Ballothall$Poll", "beaterOfAll", "()I"⟩ prog_11_method_9_code 2 (some .int) ∈ WG := wg_t (wu3 (List.mem_of_getElem? (i := 217) rfl)) rfl
theorem w_698 : Cond.methodLink "Ballothall$Poll" 100 ⟨"Ballothall$Poll", "findBeaten", "()V"⟩ ∈ WG := wg_t (wu3 (List.mem_of_getElem? (i := 218) rfl)) rfl
theorem w_700 : Cond.instanceMethod ⟨"Ballothall$Poll", "findBeaten", "()V"⟩ ∈ WG := wg_t (wu3 (List.mem_of_getElem? (i := 220) rfl)) rfl
theorem w_701 : Cond.code ⟨"Ballothall$Poll", "findBeaten", "()V"⟩ prog_11_method_8_code 3 none ∈ WG := wg_t (wu3 (List.mem_of_getElem? (i := 221) rfl)) rfl
theorem w_702 : Cond.methodLink "Ballothall$Poll" 97 ⟨"Ballothall$Poll", "beats", "(II)Z"⟩ ∈ WG := wg_t (wu3 (List.mem_of_getElem? (i := 222) rfl)) rfl
theorem w_704 : Cond.instanceMethod ⟨"Ballothall$Poll", "beats", "(II)Z"⟩ ∈ WG := wg_t (wu3 (List.mem_of_getElem? (i := 224) rfl)) rfl
theorem w_705 : Cond.code ⟨"Ballothall$Poll", "beats", "(II)Z"⟩ prog_11_method_7_code 3 (some .boolean) ∈ WG := wg_t (wu3 (List.mem_of_getElem? (i := 225) rfl)) rfl
theorem w_706 : Cond.methodLink "Ballothall$Poll" 94 ⟨"Ballothall$Poll", "pair", "(II)I"⟩ ∈ WG := wg_t (wu3 (List.mem_of_getElem? (i := 226) rfl)) rfl
theorem w_708 : Cond.instanceMethod ⟨"Ballothall$Poll", "pair", "(II)I"⟩ ∈ WG := wg_t (wu3 (List.mem_of_getElem? (i := 228) rfl)) rfl
theorem w_709 : Cond.code ⟨"Ballothall$Poll", "pair", "(II)I"⟩ prog_11_method_5_code 3 (some .int) ∈ WG := wg_t (wu3 (List.mem_of_getElem? (i := 229) rfl)) rfl
theorem w_712 : Cond.instanceMethod ⟨"Ballothall$Poll", "findDistances", "()V"⟩ ∈ WG := wg_t (wu3 (List.mem_of_getElem? (i := 232) rfl)) rfl
theorem w_713 : Cond.code ⟨"Ballothall$Poll", "findDistances", "()V"⟩ prog_11_method_15_code 7 none ∈ WG := wg_t (wu3 (List.mem_of_getElem? (i := 233) rfl)) rfl
theorem w_714 : Cond.constantLong "Ballothall$Poll" 127 (-1) ∈ WG := wg_t (wu3 (List.mem_of_getElem? (i := 234) rfl)) rfl
theorem w_715 : Cond.methodLink "Ballothall$Poll" 129 ⟨"Ballothall$Poll", "distanceWithFirst", "(II)J"⟩ ∈ WG := wg_t (wu3 (List.mem_of_getElem? (i := 235) rfl)) rfl
theorem w_717 : Cond.instanceMethod ⟨"Ballothall$Poll", "distanceWithFirst", "(II)J"⟩ ∈ WG := wg_t (wu3 (List.mem_of_getElem? (i := 237) rfl)) rfl
theorem w_718 : Cond.code ⟨"Ballothall$Poll", "distanceWithFirst", "(II)J"⟩ prog_11_method_16_code 7 (some .long) ∈ WG := wg_t (wu3 (List.mem_of_getElem? (i := 238) rfl)) rfl
theorem w_719 : Cond.methodLink "Ballothall$Poll" 133 ⟨"java/lang/Math", "min", "(JJ)J"⟩ ∈ WG := wg_t (wu3 (List.mem_of_getElem? (i := 239) rfl)) rfl
theorem w_720 : Cond.static ⟨"java/lang/Math", "min", "(JJ)J"⟩ ∈ WG := wg_t (wu4 (List.mem_of_getElem? (i := 0) rfl)) rfl
theorem w_724 : Cond.instanceMethod ⟨"Ballothall$Poll", "winnersByPaths", "()I"⟩ ∈ WG := wg_t (wu4 (List.mem_of_getElem? (i := 4) rfl)) rfl
theorem w_725 : Cond.code ⟨"Ballothall$Poll", "winnersByPaths", "()I"⟩ prog_11_method_14_code 4 (some .int) ∈ WG := wg_t (wu4 (List.mem_of_getElem? (i := 5) rfl)) rfl
theorem w_726 : Cond.methodLink "Ballothall$Poll" 124 ⟨"Ballothall$Poll", "findPaths", "()V"⟩ ∈ WG := wg_t (wu4 (List.mem_of_getElem? (i := 6) rfl)) rfl
theorem w_728 : Cond.instanceMethod ⟨"Ballothall$Poll", "findPaths", "()V"⟩ ∈ WG := wg_t (wu4 (List.mem_of_getElem? (i := 8) rfl)) rfl
theorem w_729 : Cond.code ⟨"Ballothall$Poll", "findPaths", "()V"⟩ prog_11_method_12_code 3 none ∈ WG := wg_t (wu4 (List.mem_of_getElem? (i := 9) rfl)) rfl
theorem w_730 : Cond.methodLink "Ballothall$Poll" 113 ⟨"Ballothall$Poll", "path", "(II)I"⟩ ∈ WG := wg_t (wu4 (List.mem_of_getElem? (i := 10) rfl)) rfl
theorem w_732 : Cond.instanceMethod ⟨"Ballothall$Poll", "path", "(II)I"⟩ ∈ WG := wg_t (wu4 (List.mem_of_getElem? (i := 12) rfl)) rfl
theorem w_733 : Cond.code ⟨"Ballothall$Poll", "path", "(II)I"⟩ prog_11_method_6_code 3 (some .int) ∈ WG := wg_t (wu4 (List.mem_of_getElem? (i := 13) rfl)) rfl
theorem w_734 : Cond.methodLink "Ballothall$Poll" 116 ⟨"Ballothall$Poll", "widenPaths", "(II)V"⟩ ∈ WG := wg_t (wu4 (List.mem_of_getElem? (i := 14) rfl)) rfl
theorem w_736 : Cond.instanceMethod ⟨"Ballothall$Poll", "widenPaths", "(II)V"⟩ ∈ WG := wg_t (wu4 (List.mem_of_getElem? (i := 16) rfl)) rfl
theorem w_737 : Cond.code ⟨"Ballothall$Poll", "widenPaths", "(II)V"⟩ prog_11_method_13_code 6 none ∈ WG := wg_t (wu4 (List.mem_of_getElem? (i := 17) rfl)) rfl
theorem w_738 : Cond.methodLink "Ballothall$Poll" 119 ⟨"java/lang/Math", "min", "(II)I"⟩ ∈ WG := wg_t (wu4 (List.mem_of_getElem? (i := 18) rfl)) rfl
theorem w_741 : Cond.instanceMethod ⟨"Ballothall$Poll", "consensusPlace", "(I)I"⟩ ∈ WG := wg_t (wu4 (List.mem_of_getElem? (i := 21) rfl)) rfl
theorem w_742 : Cond.code ⟨"Ballothall$Poll", "consensusPlace", "(I)I"⟩ prog_11_method_17_code 5 (some .int) ∈ WG := wg_t (wu4 (List.mem_of_getElem? (i := 22) rfl)) rfl
theorem w_743 : Cond.methodLink "Ballothall$Poll" 136 ⟨"Ballothall$Poll", "firstOfConsensus", "(I)I"⟩ ∈ WG := wg_t (wu4 (List.mem_of_getElem? (i := 23) rfl)) rfl
theorem w_745 : Cond.instanceMethod ⟨"Ballothall$Poll", "firstOfConsensus", "(I)I"⟩ ∈ WG := wg_t (wu4 (List.mem_of_getElem? (i := 25) rfl)) rfl
theorem w_746 : Cond.code ⟨"Ballothall$Poll", "firstOfConsensus", "(I)I"⟩ prog_11_method_18_code 3 (some .int) ∈ WG := wg_t (wu4 (List.mem_of_getElem? (i := 26) rfl)) rfl
theorem w_749 : Cond.instanceMethod ⟨"Ballothall$Council", "isOrderMissed", "()Z"⟩ ∈ WG := wg_t (wu4 (List.mem_of_getElem? (i := 29) rfl)) rfl
theorem w_750 : Cond.code ⟨"Ballothall$Council", "isOrderMissed", "()Z"⟩ prog_3_method_7_code 4 (some .boolean) ∈ WG := wg_t (wu4 (List.mem_of_getElem? (i := 30) rfl)) rfl
theorem w_751 : Cond.methodLink "Ballothall$Council" 42 ⟨"Ballothall$Council", "findSums", "()V"⟩ ∈ WG := wg_t (wu4 (List.mem_of_getElem? (i := 31) rfl)) rfl
theorem w_753 : Cond.instanceMethod ⟨"Ballothall$Council", "findSums", "()V"⟩ ∈ WG := wg_t (wu4 (List.mem_of_getElem? (i := 33) rfl)) rfl
theorem w_754 : Cond.code ⟨"Ballothall$Council", "findSums", "()V"⟩ prog_3_method_3_code 3 none ∈ WG := wg_t (wu4 (List.mem_of_getElem? (i := 34) rfl)) rfl
theorem w_755 : Cond.methodLink "Ballothall$Council" 45 ⟨"Ballothall$Council", "ordersTurnedBy", "(I)J"⟩ ∈ WG := wg_t (wu4 (List.mem_of_getElem? (i := 35) rfl)) rfl
theorem w_757 : Cond.instanceMethod ⟨"Ballothall$Council", "ordersTurnedBy", "(I)J"⟩ ∈ WG := wg_t (wu4 (List.mem_of_getElem? (i := 37) rfl)) rfl
theorem w_758 : Cond.code ⟨"Ballothall$Council", "ordersTurnedBy", "(I)J"⟩ prog_3_method_6_code 6 (some .long) ∈ WG := wg_t (wu4 (List.mem_of_getElem? (i := 38) rfl)) rfl
theorem w_759 : Cond.methodLink "Ballothall$Council" 29 ⟨"Ballothall$Council", "isSwung", "(II)Z"⟩ ∈ WG := wg_t (wu4 (List.mem_of_getElem? (i := 39) rfl)) rfl
theorem w_761 : Cond.instanceMethod ⟨"Ballothall$Council", "isSwung", "(II)Z"⟩ ∈ WG := wg_t (wu4 (List.mem_of_getElem? (i := 41) rfl)) rfl
theorem w_762 : Cond.code ⟨"Ballothall$Council", "isSwung", "(II)Z"⟩ prog_3_method_4_code 3 (some .boolean) ∈ WG := wg_t (wu4 (List.mem_of_getElem? (i := 42) rfl)) rfl
theorem w_764 : Cond.methodLink "Ballothall$Council" 32 ⟨"java/lang/Integer", "bitCount", "(I)I"⟩ ∈ WG := wg_t (wu4 (List.mem_of_getElem? (i := 44) rfl)) rfl
theorem w_767 : Cond.classLink "BallothallLaw" 25 "BallothallLaw$Box" ∈ WG := wg_t (wu4 (List.mem_of_getElem? (i := 47) rfl)) rfl
theorem w_768 : Cond.instantiable "BallothallLaw$Box" 4 ∈ WG := wg_t (wu4 (List.mem_of_getElem? (i := 48) rfl)) rfl
theorem w_769 : Cond.methodLink "BallothallLaw" 229 ⟨"BallothallLaw$Box", "<init>", "(I)V"⟩ ∈ WG := wg_t (wu4 (List.mem_of_getElem? (i := 49) rfl)) rfl
theorem w_770 : Cond.instanceMethod ⟨"BallothallLaw$Box", "<init>", "(I)V"⟩ ∈ WG := wg_t (wu4 (List.mem_of_getElem? (i := 50) rfl)) rfl
theorem w_771 : Cond.code ⟨"BallothallLaw$Box", "<init>", "(I)V"⟩ prog_14_method_1_code 2 none ∈ WG := wg_t (wu4 (List.mem_of_getElem? (i := 51) rfl)) rfl
theorem w_772 : Cond.methodLink "BallothallLaw$Box" 1 ⟨"java/lang/Object", "<init>", "()V"⟩ ∈ WG := wg_t (wu4 (List.mem_of_getElem? (i := 52) rfl)) rfl
theorem w_773 : Cond.classLink "BallothallLaw$Box" 7 "[I" ∈ WG := wg_t (wu4 (List.mem_of_getElem? (i := 53) rfl)) rfl
theorem w_774 : Cond.fieldLink "BallothallLaw$Box" 18 "BallothallLaw$Box" "n" "I" ∈ WG := wg_t (wu4 (List.mem_of_getElem? (i := 54) rfl)) rfl
theorem w_776 : Cond.fieldLink "BallothallLaw$Box" 9 "BallothallLaw$Box" "ranks" "[[I" ∈ WG := wg_t (wu4 (List.mem_of_getElem? (i := 56) rfl)) rfl
theorem w_778 : Cond.fieldLink "BallothallLaw$Box" 15 "BallothallLaw$Box" "many" "[I" ∈ WG := wg_t (wu4 (List.mem_of_getElem? (i := 58) rfl)) rfl
theorem w_780 : Cond.fieldLink "BallothallLaw$Box" 22 "BallothallLaw$Box" "kinds" "I" ∈ WG := wg_t (wu4 (List.mem_of_getElem? (i := 60) rfl)) rfl
theorem w_791 : Cond.methodLink "BallothallLaw" 78 ⟨"BallothallLaw$Box", "all", "()I"⟩ ∈ WG := wg_t (wu4 (List.mem_of_getElem? (i := 71) rfl)) rfl
theorem w_792 : Cond.instanceMethod ⟨"BallothallLaw$Box", "all", "()I"⟩ ∈ WG := wg_t (wu4 (List.mem_of_getElem? (i := 72) rfl)) rfl
theorem w_793 : Cond.selects "BallothallLaw$Box" ⟨"BallothallLaw$Box", "all", "()I"⟩ ⟨"BallothallLaw$Box", "all", "()I"⟩ ∈ WG := wg_t (wu4 (List.mem_of_getElem? (i := 73) rfl)) rfl
theorem w_794 : Cond.code ⟨"BallothallLaw$Box", "all", "()I"⟩ prog_14_method_3_code 3 (some .int) ∈ WG := wg_t (wu4 (List.mem_of_getElem? (i := 74) rfl)) rfl
theorem w_795 : Cond.methodLink "BallothallLaw" 30 ⟨"BallothallLaw", "next", "([II)I"⟩ ∈ WG := wg_t (wu4 (List.mem_of_getElem? (i := 75) rfl)) rfl
theorem w_796 : Cond.static ⟨"BallothallLaw", "next", "([II)I"⟩ ∈ WG := wg_t (wu4 (List.mem_of_getElem? (i := 76) rfl)) rfl
theorem w_797 : Cond.code ⟨"BallothallLaw", "next", "([II)I"⟩ method_2_code 2 (some .int) ∈ WG := wg_t (wu4 (List.mem_of_getElem? (i := 77) rfl)) rfl
theorem w_798 : Cond.constant "BallothallLaw" 7 1103515245 ∈ WG := wg_t (wu4 (List.mem_of_getElem? (i := 78) rfl)) rfl
theorem w_799 : Cond.methodLink "BallothallLaw" 235 ⟨"BallothallLaw", "ballots", "(LBallothall;LBallothallLaw$Box;[I)Z"⟩ ∈ WG := wg_t (wu4 (List.mem_of_getElem? (i := 79) rfl)) rfl
theorem w_800 : Cond.static ⟨"BallothallLaw", "ballots", "(LBallothall;LBallothallLaw$Box;[I)Z"⟩ ∈ WG := wg_t (wu4 (List.mem_of_getElem? (i := 80) rfl)) rfl
theorem w_801 : Cond.code ⟨"BallothallLaw", "ballots", "(LBallothall;LBallothallLaw$Box;[I)Z"⟩ method_4_code 14 (some .boolean) ∈ WG := wg_t (wu4 (List.mem_of_getElem? (i := 81) rfl)) rfl
theorem w_802 : Cond.classLink "BallothallLaw" 36 "java/lang/StringBuilder" ∈ WG := wg_t (wu4 (List.mem_of_getElem? (i := 82) rfl)) rfl
theorem w_803 : Cond.instantiable "java/lang/StringBuilder" 4 ∈ WG := wg_t (wu4 (List.mem_of_getElem? (i := 83) rfl)) rfl
theorem w_804 : Cond.methodLink "BallothallLaw" 38 ⟨"java/lang/StringBuilder", "<init>", "()V"⟩ ∈ WG := wg_t (wu4 (List.mem_of_getElem? (i := 84) rfl)) rfl
theorem w_805 : Cond.instanceMethod ⟨"java/lang/StringBuilder", "<init>", "()V"⟩ ∈ WG := wg_t (wu4 (List.mem_of_getElem? (i := 85) rfl)) rfl
theorem w_806 : Cond.code ⟨"java/lang/StringBuilder", "<init>", "()V"⟩ prog_36_method_1_code 1 none ∈ WG := wg_t (wu4 (List.mem_of_getElem? (i := 86) rfl)) rfl
theorem w_807 : Cond.methodLink "java/lang/StringBuilder" 1 ⟨"java/lang/AbstractStringBuilder", "<init>", "(I)V"⟩ ∈ WG := wg_t (wu4 (List.mem_of_getElem? (i := 87) rfl)) rfl
theorem w_808 : Cond.instanceMethod ⟨"java/lang/AbstractStringBuilder", "<init>", "(I)V"⟩ ∈ WG := wg_t (wu4 (List.mem_of_getElem? (i := 88) rfl)) rfl
theorem w_809 : Cond.code ⟨"java/lang/AbstractStringBuilder", "<init>", "(I)V"⟩ prog_23_method_2_code 2 none ∈ WG := wg_t (wu4 (List.mem_of_getElem? (i := 89) rfl)) rfl
theorem w_810 : Cond.methodLink "java/lang/AbstractStringBuilder" 3 ⟨"java/lang/Object", "<init>", "()V"⟩ ∈ WG := wg_t (wu4 (List.mem_of_getElem? (i := 90) rfl)) rfl
theorem w_811 : Cond.fieldLink "java/lang/AbstractStringBuilder" 18 "java/lang/String" "COMPACT_STRINGS" "Z" ∈ WG := wg_t (wu4 (List.mem_of_getElem? (i := 91) rfl)) rfl
theorem w_820 : Cond.fieldLink "java/lang/AbstractStringBuilder" 15 "java/lang/AbstractStringBuilder" "value" "[B" ∈ WG := wg_t (wu4 (List.mem_of_getElem? (i := 100) rfl)) rfl
theorem w_821 : Cond.fieldLink "java/lang/AbstractStringBuilder" 22 "java/lang/AbstractStringBuilder" "coder" "B" ∈ WG := wg_t (wu4 (List.mem_of_getElem? (i := 101) rfl)) rfl
theorem w_823 : Cond.fieldLink "java/lang/AbstractStringBuilder" 79 "java/lang/AbstractStringBuilder" "count" "I" ∈ WG := wg_t (wu4 (List.mem_of_getElem? (i := 103) rfl)) rfl
theorem w_832 : Cond.superclass "java/lang/StringBuilder" "java/lang/AbstractStringBuilder" ∈ WG := wg_t (wu4 (List.mem_of_getElem? (i := 112) rfl)) rfl
theorem w_833 : Cond.methodLink "BallothallLaw" 39 ⟨"java/lang/StringBuilder", "append", "(C)Ljava/lang/StringBuilder;"⟩ ∈ WG := wg_t (wu4 (List.mem_of_getElem? (i := 113) rfl)) rfl
theorem w_834 : Cond.instanceMethod ⟨"java/lang/StringBuilder", "append", "(C)Ljava/lang/StringBuilder;"⟩ ∈ WG := wg_t (wu4 (List.mem_of_getElem? (i := 114) rfl)) rfl
theorem w_835 : Cond.selects "java/lang/StringBuilder" ⟨"java/lang/StringBuilder", "append", "(C)Ljava/lang/StringBuilder;"⟩ ⟨"java/lang/StringBuilder", "append", "(C)Ljava/lang/StringBuilder;"⟩ ∈ WG := wg_t (wu4 (List.mem_of_getElem? (i := 115) rfl)) rfl
theorem w_836 : Cond.code ⟨"java/lang/StringBuilder", "append", "(C)Ljava/lang/StringBuilder;"⟩ prog_36_method_14_code 2 (some (.object "java/lang/StringBuilder")) ∈ WG := wg_t (wu4 (List.mem_of_getElem? (i := 116) rfl)) rfl
theorem w_837 : Cond.methodLink "java/lang/StringBuilder" 50 ⟨"java/lang/AbstractStringBuilder", "append", "(C)Ljava/lang/AbstractStringBuilder;"⟩ ∈ WG := wg_t (wu4 (List.mem_of_getElem? (i := 117) rfl)) rfl
theorem w_838 : Cond.instanceMethod ⟨"java/lang/AbstractStringBuilder", "append", "(C)Ljava/lang/AbstractStringBuilder;"⟩ ∈ WG := wg_t (wu4 (List.mem_of_getElem? (i := 118) rfl)) rfl
theorem w_839 : Cond.code ⟨"java/lang/AbstractStringBuilder", "append", "(C)Ljava/lang/AbstractStringBuilder;"⟩ prog_23_method_31_code 2 (some (.object "java/lang/AbstractStringBuilder")) ∈ WG := wg_t (wu4 (List.mem_of_getElem? (i := 119) rfl)) rfl
theorem w_840 : Cond.methodLink "java/lang/AbstractStringBuilder" 100 ⟨"java/lang/AbstractStringBuilder", "ensureCapacityInternal", "(I)V"⟩ ∈ WG := wg_t (wu4 (List.mem_of_getElem? (i := 120) rfl)) rfl
theorem w_842 : Cond.instanceMethod ⟨"java/lang/AbstractStringBuilder", "ensureCapacityInternal", "(I)V"⟩ ∈ WG := wg_t (wu4 (List.mem_of_getElem? (i := 122) rfl)) rfl
theorem w_843 : Cond.code ⟨"java/lang/AbstractStringBuilder", "ensureCapacityInternal", "(I)V"⟩ prog_23_method_9_code 3 none ∈ WG := wg_t (wu4 (List.mem_of_getElem? (i := 123) rfl)) rfl
theorem w_867 : Cond.methodLink "java/util/Arrays" 304 ⟨"java/lang/Math", "min", "(II)I"⟩ ∈ WG := wg_t (wu4 (List.mem_of_getElem? (i := 147) rfl)) rfl
theorem w_868 : Cond.methodLink "java/util/Arrays" 150 ⟨"java/lang/System", "arraycopy", "(Ljava/lang/Object;ILjava/lang/Object;II)V"⟩ ∈ WG := wg_t (wu4 (List.mem_of_getElem? (i := 148) rfl)) rfl
theorem w_869 : Cond.methodLink "java/lang/AbstractStringBuilder" 83 ⟨"java/lang/AbstractStringBuilder", "isLatin1", "()Z"⟩ ∈ WG := wg_t (wu4 (List.mem_of_getElem? (i := 149) rfl)) rfl
theorem w_870 : Cond.instanceMethod ⟨"java/lang/AbstractStringBuilder", "isLatin1", "()Z"⟩ ∈ WG := wg_t (wu4 (List.mem_of_getElem? (i := 150) rfl)) rfl
theorem w_872 : Cond.selects "java/lang/StringBuilder" ⟨"java/lang/AbstractStringBuilder", "isLatin1", "()Z"⟩ ⟨"java/lang/AbstractStringBuilder", "isLatin1", "()Z"⟩ ∈ WG := wg_t (wu4 (List.mem_of_getElem? (i := 152) rfl)) rfl
theorem w_873 : Cond.code ⟨"java/lang/AbstractStringBuilder", "isLatin1", "()Z"⟩ prog_23_method_68_code 1 (some .boolean) ∈ WG := wg_t (wu4 (List.mem_of_getElem? (i := 153) rfl)) rfl
theorem w_874 : Cond.methodLink "java/lang/AbstractStringBuilder" 191 ⟨"java/lang/StringLatin1", "canEncode", "(C)Z"⟩ ∈ WG := wg_t (wu4 (List.mem_of_getElem? (i := 154) rfl)) rfl
theorem w_875 : Cond.static ⟨"java/lang/StringLatin1", "canEncode", "(C)Z"⟩ ∈ WG := wg_t (wu4 (List.mem_of_getElem? (i := 155) rfl)) rfl
theorem w_876 : Cond.code ⟨"java/lang/StringLatin1", "canEncode", "(C)Z"⟩ prog_37_method_3_code 1 (some .boolean) ∈ WG := wg_t (wu4 (List.mem_of_getElem? (i := 156) rfl)) rfl
theorem w_896 : Cond.fieldLink "java/lang/String" 1053 "jdk/internal/util/Preconditions" "SIOOBE_FORMATTER" "Ljava/util/function/BiFunction;" ∈ WG := wg_t (wu4 (List.mem_of_getElem? (i := 176) rfl)) rfl
theorem w_917 : Cond.static ⟨"java/lang/String", "checkIndex", "(II)V"⟩ ∈ WG := wg_t (wu4 (List.mem_of_getElem? (i := 197) rfl)) rfl
theorem w_918 : Cond.code ⟨"java/lang/String", "checkIndex", "(II)V"⟩ prog_35_method_155_code 2 none ∈ WG := wg_t (wu4 (List.mem_of_getElem? (i := 198) rfl)) rfl
theorem w_919 : Cond.methodLink "java/lang/String" 1059 ⟨"jdk/internal/util/Preconditions", "checkIndex", "(IILjava/util/function/BiFunction;)I"⟩ ∈ WG := wg_t (wu4 (List.mem_of_getElem? (i := 199) rfl)) rfl
theorem w_920 : Cond.static ⟨"jdk/internal/util/Preconditions", "checkIndex", "(IILjava/util/function/BiFunction;)I"⟩ ∈ WG := wg_t (wu4 (List.mem_of_getElem? (i := 200) rfl)) rfl
theorem w_921 : Cond.code ⟨"jdk/internal/util/Preconditions", "checkIndex", "(IILjava/util/function/BiFunction;)I"⟩ prog_46_method_11_code 3 (some .int) ∈ WG := wg_t (wu4 (List.mem_of_getElem? (i := 201) rfl)) rfl
theorem w_922 : Cond.methodLink "BallothallLaw" 43 ⟨"java/lang/StringBuilder", "toString", "()Ljava/lang/String;"⟩ ∈ WG := wg_t (wu4 (List.mem_of_getElem? (i := 202) rfl)) rfl
theorem w_923 : Cond.instanceMethod ⟨"java/lang/StringBuilder", "toString", "()Ljava/lang/String;"⟩ ∈ WG := wg_t (wu4 (List.mem_of_getElem? (i := 203) rfl)) rfl
theorem w_924 : Cond.selects "java/lang/StringBuilder" ⟨"java/lang/StringBuilder", "toString", "()Ljava/lang/String;"⟩ ⟨"java/lang/StringBuilder", "toString", "()Ljava/lang/String;"⟩ ∈ WG := wg_t (wu4 (List.mem_of_getElem? (i := 204) rfl)) rfl
theorem w_925 : Cond.code ⟨"java/lang/StringBuilder", "toString", "()Ljava/lang/String;"⟩ prog_36_method_42_code 1 (some (.object "java/lang/String")) ∈ WG := wg_t (wu4 (List.mem_of_getElem? (i := 205) rfl)) rfl
theorem w_926 : Cond.classLink "java/lang/StringBuilder" 18 "java/lang/String" ∈ WG := wg_t (wu4 (List.mem_of_getElem? (i := 206) rfl)) rfl
theorem w_927 : Cond.instantiable "java/lang/String" 4 ∈ WG := wg_t (wu4 (List.mem_of_getElem? (i := 207) rfl)) rfl
theorem w_928 : Cond.methodLink "java/lang/StringBuilder" 137 ⟨"java/lang/String", "<init>", "(Ljava/lang/StringBuilder;)V"⟩ ∈ WG := wg_t (wu4 (List.mem_of_getElem? (i := 208) rfl)) rfl
theorem w_929 : Cond.instanceMethod ⟨"java/lang/String", "<init>", "(Ljava/lang/StringBuilder;)V"⟩ ∈ WG := wg_t (wu4 (List.mem_of_getElem? (i := 209) rfl)) rfl
theorem w_930 : Cond.code ⟨"java/lang/String", "<init>", "(Ljava/lang/StringBuilder;)V"⟩ prog_35_method_53_code 2 none ∈ WG := wg_t (wu4 (List.mem_of_getElem? (i := 210) rfl)) rfl
theorem w_931 : Cond.methodLink "java/lang/String" 489 ⟨"java/lang/String", "<init>", "(Ljava/lang/AbstractStringBuilder;Ljava/lang/Void;)V"⟩ ∈ WG := wg_t (wu4 (List.mem_of_getElem? (i := 211) rfl)) rfl
theorem w_932 : Cond.instanceMethod ⟨"java/lang/String", "<init>", "(Ljava/lang/AbstractStringBuilder;Ljava/lang/Void;)V"⟩ ∈ WG := wg_t (wu4 (List.mem_of_getElem? (i := 212) rfl)) rfl
theorem w_933 : Cond.code ⟨"java/lang/String", "<init>", "(Ljava/lang/AbstractStringBuilder;Ljava/lang/Void;)V"⟩ prog_35_method_150_code 5 none ∈ WG := wg_t (wu4 (List.mem_of_getElem? (i := 213) rfl)) rfl
theorem w_934 : Cond.methodLink "java/lang/String" 1 ⟨"java/lang/Object", "<init>", "()V"⟩ ∈ WG := wg_t (wu4 (List.mem_of_getElem? (i := 214) rfl)) rfl
theorem w_935 : Cond.methodLink "java/lang/String" 552 ⟨"java/lang/AbstractStringBuilder", "getValue", "()[B"⟩ ∈ WG := wg_t (wu4 (List.mem_of_getElem? (i := 215) rfl)) rfl
theorem w_936 : Cond.instanceMethod ⟨"java/lang/AbstractStringBuilder", "getValue", "()[B"⟩ ∈ WG := wg_t (wu4 (List.mem_of_getElem? (i := 216) rfl)) rfl
theorem w_938 : Cond.selects "java/lang/StringBuilder" ⟨"java/lang/AbstractStringBuilder", "getValue", "()[B"⟩ ⟨"java/lang/AbstractStringBuilder", "getValue", "()[B"⟩ ∈ WG := wg_t (wu4 (List.mem_of_getElem? (i := 218) rfl)) rfl
theorem w_939 : Cond.code ⟨"java/lang/AbstractStringBuilder", "getValue", "()[B"⟩ prog_23_method_64_code 1 (some (.array .byte)) ∈ WG := wg_t (wu4 (List.mem_of_getElem? (i := 219) rfl)) rfl
theorem w_940 : Cond.methodLink "java/lang/String" 549 ⟨"java/lang/AbstractStringBuilder", "length", "()I"⟩ ∈ WG := wg_t (wu4 (List.mem_of_getElem? (i := 220) rfl)) rfl
theorem w_941 : Cond.instanceMethod ⟨"java/lang/AbstractStringBuilder", "length", "()I"⟩ ∈ WG := wg_t (wu4 (List.mem_of_getElem? (i := 221) rfl)) rfl
theorem w_942 : Cond.sameMethod "java/lang/AbstractStringBuilder" "java/lang/AbstractStringBuilder" "length" "()I" ∈ WG := wg_t (wu4 (List.mem_of_getElem? (i := 222) rfl)) rfl
theorem w_943 : Cond.selects "java/lang/StringBuilder" ⟨"java/lang/AbstractStringBuilder", "length", "()I"⟩ ⟨"java/lang/StringBuilder", "length", "()I"⟩ ∈ WG := wg_t (wu4 (List.mem_of_getElem? (i := 223) rfl)) rfl
theorem w_944 : Cond.instanceMethod ⟨"java/lang/StringBuilder", "length", "()I"⟩ ∈ WG := wg_t (wu4 (List.mem_of_getElem? (i := 224) rfl)) rfl
theorem w_945 : Cond.code ⟨"java/lang/StringBuilder", "length", "()I"⟩ prog_36_method_93_code 1 (some .int) ∈ WG := wg_t (wu4 (List.mem_of_getElem? (i := 225) rfl)) rfl
theorem w_946 : Cond.methodLink "java/lang/StringBuilder" 343 ⟨"java/lang/AbstractStringBuilder", "length", "()I"⟩ ∈ WG := wg_t (wu4 (List.mem_of_getElem? (i := 226) rfl)) rfl
theorem w_947 : Cond.code ⟨"java/lang/AbstractStringBuilder", "length", "()I"⟩ prog_23_method_6_code 1 (some .int) ∈ WG := wg_t (wu4 (List.mem_of_getElem? (i := 227) rfl)) rfl
theorem w_948 : Cond.methodLink "java/lang/String" 1047 ⟨"java/lang/AbstractStringBuilder", "isLatin1", "()Z"⟩ ∈ WG := wg_t (wu4 (List.mem_of_getElem? (i := 228) rfl)) rfl
theorem w_949 : Cond.methodLink "java/lang/String" 54 ⟨"java/util/Arrays", "copyOfRange", "([BII)[B"⟩ ∈ WG := wg_t (wu4 (List.mem_of_getElem? (i := 229) rfl)) rfl
theorem w_950 : Cond.static ⟨"java/util/Arrays", "copyOfRange", "([BII)[B"⟩ ∈ WG := wg_t (wu4 (List.mem_of_getElem? (i := 230) rfl)) rfl
theorem w_951 : Cond.code ⟨"java/util/Arrays", "copyOfRange", "([BII)[B"⟩ prog_43_method_132_code 3 (some (.array .byte)) ∈ WG := wg_t (wu4 (List.mem_of_getElem? (i := 231) rfl)) rfl
theorem w_952 : Cond.methodLink "java/util/Arrays" 339 ⟨"java/util/Arrays", "copyOfRangeByte", "([BII)[B"⟩ ∈ WG := wg_t (wu4 (List.mem_of_getElem? (i := 232) rfl)) rfl
theorem w_953 : Cond.static ⟨"java/util/Arrays", "copyOfRangeByte", "([BII)[B"⟩ ∈ WG := wg_t (wu4 (List.mem_of_getElem? (i := 233) rfl)) rfl
theorem w_954 : Cond.code ⟨"java/util/Arrays", "copyOfRangeByte", "([BII)[B"⟩ prog_43_method_133_code 5 (some (.array .byte)) ∈ WG := wg_t (wu4 (List.mem_of_getElem? (i := 234) rfl)) rfl
theorem w_955 : Cond.methodLink "java/util/Arrays" 343 ⟨"java/util/Arrays", "checkLength", "(II)V"⟩ ∈ WG := wg_t (wu4 (List.mem_of_getElem? (i := 235) rfl)) rfl
theorem w_956 : Cond.static ⟨"java/util/Arrays", "checkLength", "(II)V"⟩ ∈ WG := wg_t (wu4 (List.mem_of_getElem? (i := 236) rfl)) rfl
theorem w_957 : Cond.code ⟨"java/util/Arrays", "checkLength", "(II)V"⟩ prog_43_method_131_code 2 none ∈ WG := wg_t (wu4 (List.mem_of_getElem? (i := 237) rfl)) rfl
theorem w_958 : Cond.fieldLink "java/lang/String" 38 "java/lang/String" "COMPACT_STRINGS" "Z" ∈ WG := wg_t (wu4 (List.mem_of_getElem? (i := 238) rfl)) rfl
theorem w_972 : Cond.fieldLink "java/lang/String" 9 "java/lang/String" "value" "[B" ∈ WG := wg_t (wu5 (List.mem_of_getElem? (i := 12) rfl)) rfl
theorem w_973 : Cond.fieldLink "java/lang/String" 15 "java/lang/String" "coder" "B" ∈ WG := wg_t (wu5 (List.mem_of_getElem? (i := 13) rfl)) rfl
theorem w_983 : Cond.methodLink "BallothallLaw" 47 ⟨"BallothallLaw", "type", "(LBallothall;Ljava/lang/String;)V"⟩ ∈ WG := wg_t (wu5 (List.mem_of_getElem? (i := 23) rfl)) rfl
theorem w_984 : Cond.static ⟨"BallothallLaw", "type", "(LBallothall;Ljava/lang/String;)V"⟩ ∈ WG := wg_t (wu5 (List.mem_of_getElem? (i := 24) rfl)) rfl
theorem w_985 : Cond.code ⟨"BallothallLaw", "type", "(LBallothall;Ljava/lang/String;)V"⟩ method_3_code 6 none ∈ WG := wg_t (wu5 (List.mem_of_getElem? (i := 25) rfl)) rfl
theorem w_986 : Cond.methodLink "BallothallLaw" 8 ⟨"java/lang/String", "length", "()I"⟩ ∈ WG := wg_t (wu5 (List.mem_of_getElem? (i := 26) rfl)) rfl
theorem w_987 : Cond.instanceMethod ⟨"java/lang/String", "length", "()I"⟩ ∈ WG := wg_t (wu5 (List.mem_of_getElem? (i := 27) rfl)) rfl
theorem w_988 : Cond.selects "java/lang/String" ⟨"java/lang/String", "length", "()I"⟩ ⟨"java/lang/String", "length", "()I"⟩ ∈ WG := wg_t (wu5 (List.mem_of_getElem? (i := 28) rfl)) rfl
theorem w_989 : Cond.code ⟨"java/lang/String", "length", "()I"⟩ prog_35_method_54_code 1 (some .int) ∈ WG := wg_t (wu5 (List.mem_of_getElem? (i := 29) rfl)) rfl
theorem w_990 : Cond.methodLink "java/lang/String" 335 ⟨"java/lang/String", "coder", "()B"⟩ ∈ WG := wg_t (wu5 (List.mem_of_getElem? (i := 30) rfl)) rfl
theorem w_991 : Cond.instanceMethod ⟨"java/lang/String", "coder", "()B"⟩ ∈ WG := wg_t (wu5 (List.mem_of_getElem? (i := 31) rfl)) rfl
theorem w_992 : Cond.selects "java/lang/String" ⟨"java/lang/String", "coder", "()B"⟩ ⟨"java/lang/String", "coder", "()B"⟩ ∈ WG := wg_t (wu5 (List.mem_of_getElem? (i := 32) rfl)) rfl
theorem w_993 : Cond.code ⟨"java/lang/String", "coder", "()B"⟩ prog_35_method_152_code 1 (some .byte) ∈ WG := wg_t (wu5 (List.mem_of_getElem? (i := 33) rfl)) rfl
theorem w_994 : Cond.methodLink "BallothallLaw" 14 ⟨"java/lang/String", "charAt", "(I)C"⟩ ∈ WG := wg_t (wu5 (List.mem_of_getElem? (i := 34) rfl)) rfl
theorem w_995 : Cond.instanceMethod ⟨"java/lang/String", "charAt", "(I)C"⟩ ∈ WG := wg_t (wu5 (List.mem_of_getElem? (i := 35) rfl)) rfl
theorem w_996 : Cond.selects "java/lang/String" ⟨"java/lang/String", "charAt", "(I)C"⟩ ⟨"java/lang/String", "charAt", "(I)C"⟩ ∈ WG := wg_t (wu5 (List.mem_of_getElem? (i := 36) rfl)) rfl
theorem w_997 : Cond.code ⟨"java/lang/String", "charAt", "(I)C"⟩ prog_35_method_56_code 2 (some .char) ∈ WG := wg_t (wu5 (List.mem_of_getElem? (i := 37) rfl)) rfl
theorem w_998 : Cond.methodLink "java/lang/String" 492 ⟨"java/lang/String", "isLatin1", "()Z"⟩ ∈ WG := wg_t (wu5 (List.mem_of_getElem? (i := 38) rfl)) rfl
theorem w_999 : Cond.instanceMethod ⟨"java/lang/String", "isLatin1", "()Z"⟩ ∈ WG := wg_t (wu5 (List.mem_of_getElem? (i := 39) rfl)) rfl
theorem w_1000 : Cond.selects "java/lang/String" ⟨"java/lang/String", "isLatin1", "()Z"⟩ ⟨"java/lang/String", "isLatin1", "()Z"⟩ ∈ WG := wg_t (wu5 (List.mem_of_getElem? (i := 40) rfl)) rfl
theorem w_1001 : Cond.code ⟨"java/lang/String", "isLatin1", "()Z"⟩ prog_35_method_154_code 1 (some .boolean) ∈ WG := wg_t (wu5 (List.mem_of_getElem? (i := 41) rfl)) rfl
theorem w_1002 : Cond.methodLink "java/lang/String" 495 ⟨"java/lang/StringLatin1", "charAt", "([BI)C"⟩ ∈ WG := wg_t (wu5 (List.mem_of_getElem? (i := 42) rfl)) rfl
theorem w_1003 : Cond.static ⟨"java/lang/StringLatin1", "charAt", "([BI)C"⟩ ∈ WG := wg_t (wu5 (List.mem_of_getElem? (i := 43) rfl)) rfl
theorem w_1004 : Cond.code ⟨"java/lang/StringLatin1", "charAt", "([BI)C"⟩ prog_37_method_2_code 2 (some .char) ∈ WG := wg_t (wu5 (List.mem_of_getElem? (i := 44) rfl)) rfl
theorem w_1005 : Cond.methodLink "java/lang/StringLatin1" 9 ⟨"java/lang/String", "checkIndex", "(II)V"⟩ ∈ WG := wg_t (wu5 (List.mem_of_getElem? (i := 45) rfl)) rfl
theorem w_1009 : Cond.methodLink "BallothallLaw" 18 ⟨"Ballothall", "type", "(J)I"⟩ ∈ WG := wg_t (wu5 (List.mem_of_getElem? (i := 49) rfl)) rfl
theorem w_1010 : Cond.instanceMethod ⟨"Ballothall", "type", "(J)I"⟩ ∈ WG := wg_t (wu5 (List.mem_of_getElem? (i := 50) rfl)) rfl
theorem w_1011 : Cond.selects "Ballothall" ⟨"Ballothall", "type", "(J)I"⟩ ⟨"Ballothall", "type", "(J)I"⟩ ∈ WG := wg_t (wu5 (List.mem_of_getElem? (i := 51) rfl)) rfl
theorem w_1012 : Cond.code ⟨"Ballothall", "type", "(J)I"⟩ prog_1_method_4_code 5 (some .int) ∈ WG := wg_t (wu5 (List.mem_of_getElem? (i := 52) rfl)) rfl
theorem w_1013 : Cond.constantLong "Ballothall" 100 255 ∈ WG := wg_t (wu5 (List.mem_of_getElem? (i := 53) rfl)) rfl
theorem w_1016 : Cond.instanceMethod ⟨"Ballothall$BallotBox", "appendSign", "(I)V"⟩ ∈ WG := wg_t (wu5 (List.mem_of_getElem? (i := 56) rfl)) rfl
theorem w_1017 : Cond.code ⟨"Ballothall$BallotBox", "appendSign", "(I)V"⟩ prog_2_method_5_code 2 none ∈ WG := wg_t (wu5 (List.mem_of_getElem? (i := 57) rfl)) rfl
theorem w_1018 : Cond.methodLink "BallothallLaw" 50 ⟨"Ballothall", "ballots", "(I)I"⟩ ∈ WG := wg_t (wu5 (List.mem_of_getElem? (i := 58) rfl)) rfl
theorem w_1019 : Cond.instanceMethod ⟨"Ballothall", "ballots", "(I)I"⟩ ∈ WG := wg_t (wu5 (List.mem_of_getElem? (i := 59) rfl)) rfl
theorem w_1020 : Cond.selects "Ballothall" ⟨"Ballothall", "ballots", "(I)I"⟩ ⟨"Ballothall", "ballots", "(I)I"⟩ ∈ WG := wg_t (wu5 (List.mem_of_getElem? (i := 60) rfl)) rfl
theorem w_1021 : Cond.code ⟨"Ballothall", "ballots", "(I)I"⟩ prog_1_method_5_code 4 (some .int) ∈ WG := wg_t (wu5 (List.mem_of_getElem? (i := 61) rfl)) rfl
theorem w_1022 : Cond.constant "Ballothall" 109 100000 ∈ WG := wg_t (wu5 (List.mem_of_getElem? (i := 62) rfl)) rfl
theorem w_1025 : Cond.instanceMethod ⟨"Ballothall$BallotBox", "readTrial", "()I"⟩ ∈ WG := wg_t (wu5 (List.mem_of_getElem? (i := 65) rfl)) rfl
theorem w_1026 : Cond.code ⟨"Ballothall$BallotBox", "readTrial", "()I"⟩ prog_2_method_6_code 8 (some .int) ∈ WG := wg_t (wu5 (List.mem_of_getElem? (i := 66) rfl)) rfl
theorem w_1027 : Cond.methodLink "Ballothall$BallotBox" 42 ⟨"Ballothall$BallotBox", "clearTrial", "()V"⟩ ∈ WG := wg_t (wu5 (List.mem_of_getElem? (i := 67) rfl)) rfl
theorem w_1029 : Cond.instanceMethod ⟨"Ballothall$BallotBox", "clearTrial", "()V"⟩ ∈ WG := wg_t (wu5 (List.mem_of_getElem? (i := 69) rfl)) rfl
theorem w_1030 : Cond.code ⟨"Ballothall$BallotBox", "clearTrial", "()V"⟩ prog_2_method_7_code 1 none ∈ WG := wg_t (wu5 (List.mem_of_getElem? (i := 70) rfl)) rfl
theorem w_1032 : Cond.methodLink "Ballothall$BallotBox" 49 ⟨"Ballothall$BallotBox", "rankOnTrial", "(IZ)V"⟩ ∈ WG := wg_t (wu5 (List.mem_of_getElem? (i := 72) rfl)) rfl
theorem w_1034 : Cond.instanceMethod ⟨"Ballothall$BallotBox", "rankOnTrial", "(IZ)V"⟩ ∈ WG := wg_t (wu5 (List.mem_of_getElem? (i := 74) rfl)) rfl
theorem w_1035 : Cond.code ⟨"Ballothall$BallotBox", "rankOnTrial", "(IZ)V"⟩ prog_2_method_8_code 4 none ∈ WG := wg_t (wu5 (List.mem_of_getElem? (i := 75) rfl)) rfl
theorem w_1036 : Cond.methodLink "Ballothall$BallotBox" 59 ⟨"java/lang/Math", "max", "(II)I"⟩ ∈ WG := wg_t (wu5 (List.mem_of_getElem? (i := 76) rfl)) rfl
theorem w_1039 : Cond.instanceMethod ⟨"Ballothall$BallotBox", "kindOfTrial", "()I"⟩ ∈ WG := wg_t (wu5 (List.mem_of_getElem? (i := 79) rfl)) rfl
theorem w_1040 : Cond.code ⟨"Ballothall$BallotBox", "kindOfTrial", "()I"⟩ prog_2_method_9_code 2 (some .int) ∈ WG := wg_t (wu5 (List.mem_of_getElem? (i := 80) rfl)) rfl
theorem w_1041 : Cond.methodLink "Ballothall$BallotBox" 68 ⟨"Ballothall$BallotBox", "isLikeTrial", "(I)Z"⟩ ∈ WG := wg_t (wu5 (List.mem_of_getElem? (i := 81) rfl)) rfl
theorem w_1043 : Cond.instanceMethod ⟨"Ballothall$BallotBox", "isLikeTrial", "(I)Z"⟩ ∈ WG := wg_t (wu5 (List.mem_of_getElem? (i := 83) rfl)) rfl
theorem w_1044 : Cond.code ⟨"Ballothall$BallotBox", "isLikeTrial", "(I)Z"⟩ prog_2_method_10_code 3 (some .boolean) ∈ WG := wg_t (wu5 (List.mem_of_getElem? (i := 84) rfl)) rfl
theorem w_1047 : Cond.instanceMethod ⟨"Ballothall$BallotBox", "keepTrial", "()I"⟩ ∈ WG := wg_t (wu5 (List.mem_of_getElem? (i := 87) rfl)) rfl
theorem w_1048 : Cond.code ⟨"Ballothall$BallotBox", "keepTrial", "()I"⟩ prog_2_method_11_code 2 (some .int) ∈ WG := wg_t (wu5 (List.mem_of_getElem? (i := 88) rfl)) rfl
theorem w_1049 : Cond.methodLink "Ballothall$BallotBox" 72 ⟨"java/lang/System", "arraycopy", "(Ljava/lang/Object;ILjava/lang/Object;II)V"⟩ ∈ WG := wg_t (wu5 (List.mem_of_getElem? (i := 89) rfl)) rfl
theorem w_1050 : Cond.constant "Ballothall" 126 1000000 ∈ WG := wg_t (wu5 (List.mem_of_getElem? (i := 90) rfl)) rfl
theorem w_1051 : Cond.methodLink "BallothallLaw" 65 ⟨"Ballothall", "countOf", "(I)I"⟩ ∈ WG := wg_t (wu5 (List.mem_of_getElem? (i := 91) rfl)) rfl
theorem w_1052 : Cond.instanceMethod ⟨"Ballothall", "countOf", "(I)I"⟩ ∈ WG := wg_t (wu5 (List.mem_of_getElem? (i := 92) rfl)) rfl
theorem w_1053 : Cond.selects "Ballothall" ⟨"Ballothall", "countOf", "(I)I"⟩ ⟨"Ballothall", "countOf", "(I)I"⟩ ∈ WG := wg_t (wu5 (List.mem_of_getElem? (i := 93) rfl)) rfl
theorem w_1054 : Cond.code ⟨"Ballothall", "countOf", "(I)I"⟩ prog_1_method_7_code 2 (some .int) ∈ WG := wg_t (wu5 (List.mem_of_getElem? (i := 94) rfl)) rfl
theorem w_1055 : Cond.methodLink "BallothallLaw" 68 ⟨"Ballothall", "kindAt", "(IIZ)I"⟩ ∈ WG := wg_t (wu5 (List.mem_of_getElem? (i := 95) rfl)) rfl
theorem w_1056 : Cond.instanceMethod ⟨"Ballothall", "kindAt", "(IIZ)I"⟩ ∈ WG := wg_t (wu5 (List.mem_of_getElem? (i := 96) rfl)) rfl
theorem w_1057 : Cond.selects "Ballothall" ⟨"Ballothall", "kindAt", "(IIZ)I"⟩ ⟨"Ballothall", "kindAt", "(IIZ)I"⟩ ∈ WG := wg_t (wu5 (List.mem_of_getElem? (i := 97) rfl)) rfl
theorem w_1058 : Cond.code ⟨"Ballothall", "kindAt", "(IIZ)I"⟩ prog_1_method_8_code 4 (some .int) ∈ WG := wg_t (wu5 (List.mem_of_getElem? (i := 98) rfl)) rfl
theorem w_1061 : Cond.instanceMethod ⟨"Ballothall$BallotBox", "rankOf", "(II)I"⟩ ∈ WG := wg_t (wu5 (List.mem_of_getElem? (i := 101) rfl)) rfl
theorem w_1062 : Cond.code ⟨"Ballothall$BallotBox", "rankOf", "(II)I"⟩ prog_2_method_12_code 4 (some .int) ∈ WG := wg_t (wu5 (List.mem_of_getElem? (i := 102) rfl)) rfl
theorem w_1063 : Cond.methodLink "BallothallLaw" 241 ⟨"BallothallLaw", "transferable", "(LBallothall;LBallothallLaw$Box;[I)Z"⟩ ∈ WG := wg_t (wu5 (List.mem_of_getElem? (i := 103) rfl)) rfl
theorem w_1064 : Cond.static ⟨"BallothallLaw", "transferable", "(LBallothall;LBallothallLaw$Box;[I)Z"⟩ ∈ WG := wg_t (wu5 (List.mem_of_getElem? (i := 104) rfl)) rfl
theorem w_1065 : Cond.code ⟨"BallothallLaw", "transferable", "(LBallothall;LBallothallLaw$Box;[I)Z"⟩ method_5_code 14 (some .boolean) ∈ WG := wg_t (wu5 (List.mem_of_getElem? (i := 105) rfl)) rfl
theorem w_1066 : Cond.methodLink "BallothallLaw" 72 ⟨"Ballothall", "transferable", "(I)I"⟩ ∈ WG := wg_t (wu5 (List.mem_of_getElem? (i := 106) rfl)) rfl
theorem w_1067 : Cond.instanceMethod ⟨"Ballothall", "transferable", "(I)I"⟩ ∈ WG := wg_t (wu5 (List.mem_of_getElem? (i := 107) rfl)) rfl
theorem w_1068 : Cond.selects "Ballothall" ⟨"Ballothall", "transferable", "(I)I"⟩ ⟨"Ballothall", "transferable", "(I)I"⟩ ∈ WG := wg_t (wu5 (List.mem_of_getElem? (i := 108) rfl)) rfl
theorem w_1069 : Cond.code ⟨"Ballothall", "transferable", "(I)I"⟩ prog_1_method_17_code 3 (some .int) ∈ WG := wg_t (wu5 (List.mem_of_getElem? (i := 109) rfl)) rfl
theorem w_1073 : Cond.instanceMethod ⟨"Ballothall$Counting", "holdCount", "(I)I"⟩ ∈ WG := wg_t (wu5 (List.mem_of_getElem? (i := 113) rfl)) rfl
theorem w_1074 : Cond.code ⟨"Ballothall$Counting", "holdCount", "(I)I"⟩ prog_5_method_5_code 6 (some .int) ∈ WG := wg_t (wu5 (List.mem_of_getElem? (i := 114) rfl)) rfl
theorem w_1076 : Cond.instanceMethod ⟨"Ballothall$Count", "<init>", "()V"⟩ ∈ WG := wg_t (wu5 (List.mem_of_getElem? (i := 116) rfl)) rfl
theorem w_1077 : Cond.code ⟨"Ballothall$Count", "<init>", "()V"⟩ prog_4_method_1_code 1 none ∈ WG := wg_t (wu5 (List.mem_of_getElem? (i := 117) rfl)) rfl
theorem w_1078 : Cond.methodLink "Ballothall$Count" 3 ⟨"java/lang/Object", "<init>", "()V"⟩ ∈ WG := wg_t (wu5 (List.mem_of_getElem? (i := 118) rfl)) rfl
theorem w_1090 : Cond.fieldLink "Ballothall$Count" 9 "Ballothall$Count" "ballotsOfKind" "[I" ∈ WG := wg_t (wu5 (List.mem_of_getElem? (i := 130) rfl)) rfl
theorem w_1093 : Cond.fieldLink "Ballothall$Count" 15 "Ballothall$Count" "elected" "[I" ∈ WG := wg_t (wu5 (List.mem_of_getElem? (i := 133) rfl)) rfl
theorem w_1096 : Cond.fieldLink "Ballothall$Count" 18 "Ballothall$Count" "excluded" "[I" ∈ WG := wg_t (wu5 (List.mem_of_getElem? (i := 136) rfl)) rfl
theorem w_1098 : Cond.fieldLink "Ballothall$Count" 21 "Ballothall$Count" "limb" "[I" ∈ WG := wg_t (wu5 (List.mem_of_getElem? (i := 138) rfl)) rfl
theorem w_1121 : Cond.methodLink "Ballothall$Counting" 64 ⟨"Ballothall$Counting", "start", "(LBallothall$Count;I)V"⟩ ∈ WG := wg_t (wu5 (List.mem_of_getElem? (i := 161) rfl)) rfl
theorem w_1123 : Cond.instanceMethod ⟨"Ballothall$Counting", "start", "(LBallothall$Count;I)V"⟩ ∈ WG := wg_t (wu5 (List.mem_of_getElem? (i := 163) rfl)) rfl
theorem w_1124 : Cond.code ⟨"Ballothall$Counting", "start", "(LBallothall$Count;I)V"⟩ prog_5_method_6_code 7 none ∈ WG := wg_t (wu5 (List.mem_of_getElem? (i := 164) rfl)) rfl
theorem w_1126 : Cond.methodLink "Ballothall$Counting" 120 ⟨"java/lang/System", "arraycopy", "(Ljava/lang/Object;ILjava/lang/Object;II)V"⟩ ∈ WG := wg_t (wu5 (List.mem_of_getElem? (i := 166) rfl)) rfl
theorem w_1129 : Cond.methodLink "Ballothall$Counting" 137 ⟨"Ballothall$Counting", "weightOf", "(II)LBallothall$Natural;"⟩ ∈ WG := wg_t (wu5 (List.mem_of_getElem? (i := 169) rfl)) rfl
theorem w_1131 : Cond.instanceMethod ⟨"Ballothall$Counting", "weightOf", "(II)LBallothall$Natural;"⟩ ∈ WG := wg_t (wu5 (List.mem_of_getElem? (i := 171) rfl)) rfl
theorem w_1132 : Cond.code ⟨"Ballothall$Counting", "weightOf", "(II)LBallothall$Natural;"⟩ prog_5_method_4_code 4 (some (.object "Ballothall$Natural")) ∈ WG := wg_t (wu5 (List.mem_of_getElem? (i := 172) rfl)) rfl
theorem w_1133 : Cond.methodLink "Ballothall$Counting" 141 ⟨"Ballothall$Counting", "passOn", "(I)V"⟩ ∈ WG := wg_t (wu5 (List.mem_of_getElem? (i := 173) rfl)) rfl
theorem w_1135 : Cond.instanceMethod ⟨"Ballothall$Counting", "passOn", "(I)V"⟩ ∈ WG := wg_t (wu5 (List.mem_of_getElem? (i := 175) rfl)) rfl
theorem w_1136 : Cond.code ⟨"Ballothall$Counting", "passOn", "(I)V"⟩ prog_5_method_7_code 4 none ∈ WG := wg_t (wu5 (List.mem_of_getElem? (i := 176) rfl)) rfl
theorem w_1138 : Cond.methodLink "Ballothall$Counting" 152 ⟨"java/lang/Integer", "bitCount", "(I)I"⟩ ∈ WG := wg_t (wu5 (List.mem_of_getElem? (i := 178) rfl)) rfl
theorem w_1141 : Cond.instanceMethod ⟨"Ballothall$Natural", "divideSmall", "(I)I"⟩ ∈ WG := wg_t (wu5 (List.mem_of_getElem? (i := 181) rfl)) rfl
theorem w_1142 : Cond.code ⟨"Ballothall$Natural", "divideSmall", "(I)I"⟩ prog_10_method_13_code 7 (some .int) ∈ WG := wg_t (wu5 (List.mem_of_getElem? (i := 182) rfl)) rfl
theorem w_1144 : Cond.methodLink "Ballothall$Counting" 68 ⟨"Ballothall$Counting", "keepMoment", "(LBallothall$Count;)V"⟩ ∈ WG := wg_t (wu5 (List.mem_of_getElem? (i := 184) rfl)) rfl
theorem w_1146 : Cond.instanceMethod ⟨"Ballothall$Counting", "keepMoment", "(LBallothall$Count;)V"⟩ ∈ WG := wg_t (wu5 (List.mem_of_getElem? (i := 186) rfl)) rfl
theorem w_1147 : Cond.code ⟨"Ballothall$Counting", "keepMoment", "(LBallothall$Count;)V"⟩ prog_5_method_8_code 4 none ∈ WG := wg_t (wu5 (List.mem_of_getElem? (i := 187) rfl)) rfl
theorem w_1150 : Cond.instanceMethod ⟨"Ballothall$Natural", "store", "([II)V"⟩ ∈ WG := wg_t (wu5 (List.mem_of_getElem? (i := 190) rfl)) rfl
theorem w_1151 : Cond.code ⟨"Ballothall$Natural", "store", "([II)V"⟩ prog_10_method_4_code 4 none ∈ WG := wg_t (wu5 (List.mem_of_getElem? (i := 191) rfl)) rfl
theorem w_1152 : Cond.methodLink "Ballothall$Counting" 83 ⟨"Ballothall$Counting", "greatestPile", "()I"⟩ ∈ WG := wg_t (wu5 (List.mem_of_getElem? (i := 192) rfl)) rfl
theorem w_1154 : Cond.instanceMethod ⟨"Ballothall$Counting", "greatestPile", "()I"⟩ ∈ WG := wg_t (wu5 (List.mem_of_getElem? (i := 194) rfl)) rfl
theorem w_1155 : Cond.code ⟨"Ballothall$Counting", "greatestPile", "()I"⟩ prog_5_method_10_code 3 (some .int) ∈ WG := wg_t (wu5 (List.mem_of_getElem? (i := 195) rfl)) rfl
theorem w_1156 : Cond.methodLink "Ballothall$Counting" 194 ⟨"Ballothall$Counting", "isAhead", "(II)Z"⟩ ∈ WG := wg_t (wu5 (List.mem_of_getElem? (i := 196) rfl)) rfl
theorem w_1158 : Cond.instanceMethod ⟨"Ballothall$Counting", "isAhead", "(II)Z"⟩ ∈ WG := wg_t (wu5 (List.mem_of_getElem? (i := 198) rfl)) rfl
theorem w_1159 : Cond.code ⟨"Ballothall$Counting", "isAhead", "(II)Z"⟩ prog_5_method_12_code 4 (some .boolean) ∈ WG := wg_t (wu5 (List.mem_of_getElem? (i := 199) rfl)) rfl
theorem w_1162 : Cond.instanceMethod ⟨"Ballothall$BallotBox", "winsLot", "(II)Z"⟩ ∈ WG := wg_t (wu5 (List.mem_of_getElem? (i := 202) rfl)) rfl
theorem w_1163 : Cond.code ⟨"Ballothall$BallotBox", "winsLot", "(II)Z"⟩ prog_2_method_3_code 3 (some .boolean) ∈ WG := wg_t (wu5 (List.mem_of_getElem? (i := 203) rfl)) rfl
theorem w_1164 : Cond.methodLink "Ballothall$Counting" 87 ⟨"Ballothall$Counting", "takeStep", "(LBallothall$Count;II)Z"⟩ ∈ WG := wg_t (wu5 (List.mem_of_getElem? (i := 204) rfl)) rfl
theorem w_1166 : Cond.instanceMethod ⟨"Ballothall$Counting", "takeStep", "(LBallothall$Count;II)Z"⟩ ∈ WG := wg_t (wu5 (List.mem_of_getElem? (i := 206) rfl)) rfl
theorem w_1167 : Cond.code ⟨"Ballothall$Counting", "takeStep", "(LBallothall$Count;II)Z"⟩ prog_5_method_9_code 5 (some .boolean) ∈ WG := wg_t (wu5 (List.mem_of_getElem? (i := 207) rfl)) rfl
theorem w_1168 : Cond.methodLink "Ballothall$Counting" 175 ⟨"Ballothall$Counting", "elect", "(LBallothall$Count;I)V"⟩ ∈ WG := wg_t (wu5 (List.mem_of_getElem? (i := 208) rfl)) rfl
theorem w_1170 : Cond.instanceMethod ⟨"Ballothall$Counting", "elect", "(LBallothall$Count;I)V"⟩ ∈ WG := wg_t (wu5 (List.mem_of_getElem? (i := 210) rfl)) rfl
theorem w_1171 : Cond.code ⟨"Ballothall$Counting", "elect", "(LBallothall$Count;I)V"⟩ prog_5_method_13_code 3 none ∈ WG := wg_t (wu5 (List.mem_of_getElem? (i := 211) rfl)) rfl
theorem w_1174 : Cond.instanceMethod ⟨"Ballothall$Natural", "copyFrom", "(LBallothall$Natural;)V"⟩ ∈ WG := wg_t (wu5 (List.mem_of_getElem? (i := 214) rfl)) rfl
theorem w_1175 : Cond.code ⟨"Ballothall$Natural", "copyFrom", "(LBallothall$Natural;)V"⟩ prog_10_method_3_code 2 none ∈ WG := wg_t (wu5 (List.mem_of_getElem? (i := 215) rfl)) rfl
theorem w_1176 : Cond.methodLink "Ballothall$Counting" 188 ⟨"Ballothall$Counting", "smallestPile", "()I"⟩ ∈ WG := wg_t (wu5 (List.mem_of_getElem? (i := 216) rfl)) rfl
theorem w_1178 : Cond.instanceMethod ⟨"Ballothall$Counting", "smallestPile", "()I"⟩ ∈ WG := wg_t (wu5 (List.mem_of_getElem? (i := 218) rfl)) rfl
theorem w_1179 : Cond.code ⟨"Ballothall$Counting", "smallestPile", "()I"⟩ prog_5_method_11_code 3 (some .int) ∈ WG := wg_t (wu5 (List.mem_of_getElem? (i := 219) rfl)) rfl
theorem w_1180 : Cond.methodLink "Ballothall$Counting" 191 ⟨"Ballothall$Counting", "exclude", "(LBallothall$Count;I)V"⟩ ∈ WG := wg_t (wu5 (List.mem_of_getElem? (i := 220) rfl)) rfl
theorem w_1182 : Cond.instanceMethod ⟨"Ballothall$Counting", "exclude", "(LBallothall$Count;I)V"⟩ ∈ WG := wg_t (wu5 (List.mem_of_getElem? (i := 222) rfl)) rfl
theorem w_1183 : Cond.code ⟨"Ballothall$Counting", "exclude", "(LBallothall$Count;I)V"⟩ prog_5_method_14_code 4 none ∈ WG := wg_t (wu5 (List.mem_of_getElem? (i := 223) rfl)) rfl
theorem w_1184 : Cond.methodLink "Ballothall$Counting" 91 ⟨"Ballothall$Counting", "passSurplus", "(I)V"⟩ ∈ WG := wg_t (wu5 (List.mem_of_getElem? (i := 224) rfl)) rfl
theorem w_1186 : Cond.instanceMethod ⟨"Ballothall$Counting", "passSurplus", "(I)V"⟩ ∈ WG := wg_t (wu5 (List.mem_of_getElem? (i := 226) rfl)) rfl
theorem w_1187 : Cond.code ⟨"Ballothall$Counting", "passSurplus", "(I)V"⟩ prog_5_method_15_code 3 none ∈ WG := wg_t (wu5 (List.mem_of_getElem? (i := 227) rfl)) rfl
theorem w_1190 : Cond.instanceMethod ⟨"Ballothall$Natural", "subtract", "(LBallothall$Natural;)V"⟩ ∈ WG := wg_t (wu5 (List.mem_of_getElem? (i := 230) rfl)) rfl
theorem w_1191 : Cond.code ⟨"Ballothall$Natural", "subtract", "(LBallothall$Natural;)V"⟩ prog_10_method_11_code 5 none ∈ WG := wg_t (wu5 (List.mem_of_getElem? (i := 231) rfl)) rfl
theorem w_1192 : Cond.methodLink "Ballothall$Counting" 209 ⟨"Ballothall$Counting", "reduce", "()V"⟩ ∈ WG := wg_t (wu5 (List.mem_of_getElem? (i := 232) rfl)) rfl
theorem w_1194 : Cond.instanceMethod ⟨"Ballothall$Counting", "reduce", "()V"⟩ ∈ WG := wg_t (wu5 (List.mem_of_getElem? (i := 234) rfl)) rfl
theorem w_1195 : Cond.code ⟨"Ballothall$Counting", "reduce", "()V"⟩ prog_5_method_19_code 5 none ∈ WG := wg_t (wu5 (List.mem_of_getElem? (i := 235) rfl)) rfl
theorem w_1198 : Cond.instanceMethod ⟨"Ballothall$Natural", "divide", "(LBallothall$Natural;LBallothall$Natural;LBallothall$Natural;)V"⟩ ∈ WG := wg_t (wu5 (List.mem_of_getElem? (i := 238) rfl)) rfl
theorem w_1199 : Cond.code ⟨"Ballothall$Natural", "divide", "(LBallothall$Natural;LBallothall$Natural;LBallothall$Natural;)V"⟩ prog_10_method_15_code 6 none ∈ WG := wg_t (wu5 (List.mem_of_getElem? (i := 239) rfl)) rfl
theorem w_1200 : Cond.methodLink "Ballothall$Natural" 51 ⟨"Ballothall$Natural", "copyFrom", "(LBallothall$Natural;)V"⟩ ∈ WG := wg_t (wu6 (List.mem_of_getElem? (i := 0) rfl)) rfl
theorem w_1201 : Cond.methodLink "Ballothall$Natural" 55 ⟨"Ballothall$Natural", "divideSmall", "(I)I"⟩ ∈ WG := wg_t (wu6 (List.mem_of_getElem? (i := 1) rfl)) rfl
theorem w_1202 : Cond.methodLink "Ballothall$Natural" 58 ⟨"Ballothall$Natural", "become", "(J)V"⟩ ∈ WG := wg_t (wu6 (List.mem_of_getElem? (i := 2) rfl)) rfl
theorem w_1203 : Cond.methodLink "Ballothall$Natural" 62 ⟨"Ballothall$Natural", "multiplySmall", "(I)V"⟩ ∈ WG := wg_t (wu6 (List.mem_of_getElem? (i := 3) rfl)) rfl
theorem w_1204 : Cond.methodLink "Ballothall$Natural" 45 ⟨"java/util/Arrays", "fill", "([II)V"⟩ ∈ WG := wg_t (wu6 (List.mem_of_getElem? (i := 4) rfl)) rfl
theorem w_1205 : Cond.methodLink "Ballothall$Natural" 65 ⟨"Ballothall$Natural", "takeMultiple", "(LBallothall$Natural;I)I"⟩ ∈ WG := wg_t (wu6 (List.mem_of_getElem? (i := 5) rfl)) rfl
theorem w_1207 : Cond.instanceMethod ⟨"Ballothall$Natural", "takeMultiple", "(LBallothall$Natural;I)I"⟩ ∈ WG := wg_t (wu6 (List.mem_of_getElem? (i := 7) rfl)) rfl
theorem w_1208 : Cond.code ⟨"Ballothall$Natural", "takeMultiple", "(LBallothall$Natural;I)I"⟩ prog_10_method_16_code 13 (some .int) ∈ WG := wg_t (wu6 (List.mem_of_getElem? (i := 8) rfl)) rfl
theorem w_1209 : Cond.methodLink "Ballothall$Natural" 69 ⟨"java/lang/Math", "min", "(JJ)J"⟩ ∈ WG := wg_t (wu6 (List.mem_of_getElem? (i := 9) rfl)) rfl
theorem w_1210 : Cond.methodLink "Ballothall$Natural" 72 ⟨"Ballothall$Natural", "subtractMultiple", "(LBallothall$Natural;IJ)J"⟩ ∈ WG := wg_t (wu6 (List.mem_of_getElem? (i := 10) rfl)) rfl
theorem w_1212 : Cond.instanceMethod ⟨"Ballothall$Natural", "subtractMultiple", "(LBallothall$Natural;IJ)J"⟩ ∈ WG := wg_t (wu6 (List.mem_of_getElem? (i := 12) rfl)) rfl
theorem w_1213 : Cond.code ⟨"Ballothall$Natural", "subtractMultiple", "(LBallothall$Natural;IJ)J"⟩ prog_10_method_17_code 8 (some .long) ∈ WG := wg_t (wu6 (List.mem_of_getElem? (i := 13) rfl)) rfl
theorem w_1214 : Cond.constantLong "Ballothall$Natural" 76 (-1) ∈ WG := wg_t (wu6 (List.mem_of_getElem? (i := 14) rfl)) rfl
theorem w_1217 : Cond.instanceMethod ⟨"Ballothall$Natural", "isOne", "()Z"⟩ ∈ WG := wg_t (wu6 (List.mem_of_getElem? (i := 17) rfl)) rfl
theorem w_1218 : Cond.code ⟨"Ballothall$Natural", "isOne", "()Z"⟩ prog_10_method_8_code 1 (some .boolean) ∈ WG := wg_t (wu6 (List.mem_of_getElem? (i := 18) rfl)) rfl
theorem w_1219 : Cond.methodLink "Ballothall$Counting" 212 ⟨"Ballothall$Counting", "multiplyAll", "(LBallothall$Natural;)V"⟩ ∈ WG := wg_t (wu6 (List.mem_of_getElem? (i := 19) rfl)) rfl
theorem w_1221 : Cond.instanceMethod ⟨"Ballothall$Counting", "multiplyAll", "(LBallothall$Natural;)V"⟩ ∈ WG := wg_t (wu6 (List.mem_of_getElem? (i := 21) rfl)) rfl
theorem w_1222 : Cond.code ⟨"Ballothall$Counting", "multiplyAll", "(LBallothall$Natural;)V"⟩ prog_5_method_16_code 4 none ∈ WG := wg_t (wu6 (List.mem_of_getElem? (i := 22) rfl)) rfl
theorem w_1223 : Cond.methodLink "Ballothall$Counting" 219 ⟨"Ballothall$Counting", "multiply", "(LBallothall$Natural;LBallothall$Natural;)V"⟩ ∈ WG := wg_t (wu6 (List.mem_of_getElem? (i := 23) rfl)) rfl
theorem w_1225 : Cond.instanceMethod ⟨"Ballothall$Counting", "multiply", "(LBallothall$Natural;LBallothall$Natural;)V"⟩ ∈ WG := wg_t (wu6 (List.mem_of_getElem? (i := 25) rfl)) rfl
theorem w_1226 : Cond.code ⟨"Ballothall$Counting", "multiply", "(LBallothall$Natural;LBallothall$Natural;)V"⟩ prog_5_method_17_code 3 none ∈ WG := wg_t (wu6 (List.mem_of_getElem? (i := 26) rfl)) rfl
theorem w_1229 : Cond.instanceMethod ⟨"Ballothall$Natural", "multiply", "(LBallothall$Natural;LBallothall$Natural;)V"⟩ ∈ WG := wg_t (wu6 (List.mem_of_getElem? (i := 29) rfl)) rfl
theorem w_1230 : Cond.code ⟨"Ballothall$Natural", "multiply", "(LBallothall$Natural;LBallothall$Natural;)V"⟩ prog_10_method_14_code 7 none ∈ WG := wg_t (wu6 (List.mem_of_getElem? (i := 30) rfl)) rfl
theorem w_1231 : Cond.methodLink "BallothallLaw" 75 ⟨"Ballothall", "electedAt", "(I)I"⟩ ∈ WG := wg_t (wu6 (List.mem_of_getElem? (i := 31) rfl)) rfl
theorem w_1232 : Cond.instanceMethod ⟨"Ballothall", "electedAt", "(I)I"⟩ ∈ WG := wg_t (wu6 (List.mem_of_getElem? (i := 32) rfl)) rfl
theorem w_1233 : Cond.selects "Ballothall" ⟨"Ballothall", "electedAt", "(I)I"⟩ ⟨"Ballothall", "electedAt", "(I)I"⟩ ∈ WG := wg_t (wu6 (List.mem_of_getElem? (i := 33) rfl)) rfl
theorem w_1234 : Cond.code ⟨"Ballothall", "electedAt", "(I)I"⟩ prog_1_method_19_code 3 (some .int) ∈ WG := wg_t (wu6 (List.mem_of_getElem? (i := 34) rfl)) rfl
theorem w_1251 : Cond.methodLink "BallothallLaw" 81 ⟨"Ballothall", "quota", "()I"⟩ ∈ WG := wg_t (wu6 (List.mem_of_getElem? (i := 51) rfl)) rfl
theorem w_1252 : Cond.instanceMethod ⟨"Ballothall", "quota", "()I"⟩ ∈ WG := wg_t (wu6 (List.mem_of_getElem? (i := 52) rfl)) rfl
theorem w_1253 : Cond.selects "Ballothall" ⟨"Ballothall", "quota", "()I"⟩ ⟨"Ballothall", "quota", "()I"⟩ ∈ WG := wg_t (wu6 (List.mem_of_getElem? (i := 53) rfl)) rfl
theorem w_1254 : Cond.code ⟨"Ballothall", "quota", "()I"⟩ prog_1_method_18_code 2 (some .int) ∈ WG := wg_t (wu6 (List.mem_of_getElem? (i := 54) rfl)) rfl
theorem w_1255 : Cond.methodLink "BallothallLaw" 84 ⟨"java/lang/Math", "min", "(II)I"⟩ ∈ WG := wg_t (wu6 (List.mem_of_getElem? (i := 55) rfl)) rfl
theorem w_1256 : Cond.methodLink "BallothallLaw" 90 ⟨"java/lang/Integer", "bitCount", "(I)I"⟩ ∈ WG := wg_t (wu6 (List.mem_of_getElem? (i := 56) rfl)) rfl
theorem w_1257 : Cond.methodLink "BallothallLaw" 95 ⟨"BallothallLaw$Box", "solid", "(I)I"⟩ ∈ WG := wg_t (wu6 (List.mem_of_getElem? (i := 57) rfl)) rfl
theorem w_1258 : Cond.instanceMethod ⟨"BallothallLaw$Box", "solid", "(I)I"⟩ ∈ WG := wg_t (wu6 (List.mem_of_getElem? (i := 58) rfl)) rfl
theorem w_1259 : Cond.selects "BallothallLaw$Box" ⟨"BallothallLaw$Box", "solid", "(I)I"⟩ ⟨"BallothallLaw$Box", "solid", "(I)I"⟩ ∈ WG := wg_t (wu6 (List.mem_of_getElem? (i := 59) rfl)) rfl
theorem w_1260 : Cond.code ⟨"BallothallLaw$Box", "solid", "(I)I"⟩ prog_14_method_4_code 7 (some .int) ∈ WG := wg_t (wu6 (List.mem_of_getElem? (i := 60) rfl)) rfl
theorem w_1261 : Cond.methodLink "BallothallLaw" 98 ⟨"Ballothall", "solidQuotas", "(I)I"⟩ ∈ WG := wg_t (wu6 (List.mem_of_getElem? (i := 61) rfl)) rfl
theorem w_1262 : Cond.instanceMethod ⟨"Ballothall", "solidQuotas", "(I)I"⟩ ∈ WG := wg_t (wu6 (List.mem_of_getElem? (i := 62) rfl)) rfl
theorem w_1263 : Cond.selects "Ballothall" ⟨"Ballothall", "solidQuotas", "(I)I"⟩ ⟨"Ballothall", "solidQuotas", "(I)I"⟩ ∈ WG := wg_t (wu6 (List.mem_of_getElem? (i := 63) rfl)) rfl
theorem w_1264 : Cond.code ⟨"Ballothall", "solidQuotas", "(I)I"⟩ prog_1_method_24_code 3 (some .int) ∈ WG := wg_t (wu6 (List.mem_of_getElem? (i := 64) rfl)) rfl
theorem w_1266 : Cond.methodLink "BallothallLaw" 101 ⟨"Ballothall", "writePile", "(II)I"⟩ ∈ WG := wg_t (wu6 (List.mem_of_getElem? (i := 66) rfl)) rfl
theorem w_1267 : Cond.instanceMethod ⟨"Ballothall", "writePile", "(II)I"⟩ ∈ WG := wg_t (wu6 (List.mem_of_getElem? (i := 67) rfl)) rfl
theorem w_1268 : Cond.selects "Ballothall" ⟨"Ballothall", "writePile", "(II)I"⟩ ⟨"Ballothall", "writePile", "(II)I"⟩ ∈ WG := wg_t (wu6 (List.mem_of_getElem? (i := 68) rfl)) rfl
theorem w_1269 : Cond.code ⟨"Ballothall", "writePile", "(II)I"⟩ prog_1_method_22_code 4 (some .int) ∈ WG := wg_t (wu6 (List.mem_of_getElem? (i := 69) rfl)) rfl
theorem w_1273 : Cond.methodLink "Ballothall" 234 ⟨"Ballothall", "appendNumber", "(LBallothall$Natural;)V"⟩ ∈ WG := wg_t (wu6 (List.mem_of_getElem? (i := 73) rfl)) rfl
theorem w_1275 : Cond.instanceMethod ⟨"Ballothall", "appendNumber", "(LBallothall$Natural;)V"⟩ ∈ WG := wg_t (wu6 (List.mem_of_getElem? (i := 75) rfl)) rfl
theorem w_1276 : Cond.code ⟨"Ballothall", "appendNumber", "(LBallothall$Natural;)V"⟩ prog_1_method_64_code 6 none ∈ WG := wg_t (wu6 (List.mem_of_getElem? (i := 76) rfl)) rfl
theorem w_1278 : Cond.methodLink "Ballothall" 247 ⟨"Ballothall", "appendByte", "(I)V"⟩ ∈ WG := wg_t (wu6 (List.mem_of_getElem? (i := 78) rfl)) rfl
theorem w_1280 : Cond.instanceMethod ⟨"Ballothall", "appendByte", "(I)V"⟩ ∈ WG := wg_t (wu6 (List.mem_of_getElem? (i := 80) rfl)) rfl
theorem w_1281 : Cond.code ⟨"Ballothall", "appendByte", "(I)V"⟩ prog_1_method_63_code 2 none ∈ WG := wg_t (wu6 (List.mem_of_getElem? (i := 81) rfl)) rfl
theorem w_1283 : Cond.methodLink "BallothallLaw" 104 ⟨"BallothallLaw", "reads", "(LBallothall;I)J"⟩ ∈ WG := wg_t (wu6 (List.mem_of_getElem? (i := 83) rfl)) rfl
theorem w_1284 : Cond.static ⟨"BallothallLaw", "reads", "(LBallothall;I)J"⟩ ∈ WG := wg_t (wu6 (List.mem_of_getElem? (i := 84) rfl)) rfl
theorem w_1285 : Cond.code ⟨"BallothallLaw", "reads", "(LBallothall;I)J"⟩ method_6_code 9 (some .long) ∈ WG := wg_t (wu6 (List.mem_of_getElem? (i := 85) rfl)) rfl
theorem w_1286 : Cond.methodLink "BallothallLaw" 111 ⟨"Ballothall", "outputByte", "(I)I"⟩ ∈ WG := wg_t (wu6 (List.mem_of_getElem? (i := 86) rfl)) rfl
theorem w_1287 : Cond.instanceMethod ⟨"Ballothall", "outputByte", "(I)I"⟩ ∈ WG := wg_t (wu6 (List.mem_of_getElem? (i := 87) rfl)) rfl
theorem w_1288 : Cond.selects "Ballothall" ⟨"Ballothall", "outputByte", "(I)I"⟩ ⟨"Ballothall", "outputByte", "(I)I"⟩ ∈ WG := wg_t (wu6 (List.mem_of_getElem? (i := 88) rfl)) rfl
theorem w_1289 : Cond.code ⟨"Ballothall", "outputByte", "(I)I"⟩ prog_1_method_23_code 2 (some .int) ∈ WG := wg_t (wu6 (List.mem_of_getElem? (i := 89) rfl)) rfl
theorem w_1290 : Cond.constantLong "BallothallLaw" 114 10 ∈ WG := wg_t (wu6 (List.mem_of_getElem? (i := 90) rfl)) rfl
theorem w_1291 : Cond.constantLong "BallothallLaw" 116 48 ∈ WG := wg_t (wu6 (List.mem_of_getElem? (i := 91) rfl)) rfl
theorem w_1292 : Cond.constantLong "BallothallLaw" 118 840 ∈ WG := wg_t (wu6 (List.mem_of_getElem? (i := 92) rfl)) rfl
theorem w_1293 : Cond.methodLink "BallothallLaw" 108 ⟨"Ballothall", "steps", "()I"⟩ ∈ WG := wg_t (wu6 (List.mem_of_getElem? (i := 93) rfl)) rfl
theorem w_1294 : Cond.instanceMethod ⟨"Ballothall", "steps", "()I"⟩ ∈ WG := wg_t (wu6 (List.mem_of_getElem? (i := 94) rfl)) rfl
theorem w_1295 : Cond.selects "Ballothall" ⟨"Ballothall", "steps", "()I"⟩ ⟨"Ballothall", "steps", "()I"⟩ ∈ WG := wg_t (wu6 (List.mem_of_getElem? (i := 95) rfl)) rfl
theorem w_1296 : Cond.code ⟨"Ballothall", "steps", "()I"⟩ prog_1_method_21_code 2 (some .int) ∈ WG := wg_t (wu6 (List.mem_of_getElem? (i := 96) rfl)) rfl
theorem w_1297 : Cond.methodLink "BallothallLaw" 243 ⟨"BallothallLaw", "pairs", "(LBallothall;LBallothallLaw$Box;)Z"⟩ ∈ WG := wg_t (wu6 (List.mem_of_getElem? (i := 97) rfl)) rfl
theorem w_1298 : Cond.static ⟨"BallothallLaw", "pairs", "(LBallothall;LBallothallLaw$Box;)Z"⟩ ∈ WG := wg_t (wu6 (List.mem_of_getElem? (i := 98) rfl)) rfl
theorem w_1299 : Cond.code ⟨"BallothallLaw", "pairs", "(LBallothall;LBallothallLaw$Box;)Z"⟩ method_7_code 12 (some .boolean) ∈ WG := wg_t (wu6 (List.mem_of_getElem? (i := 99) rfl)) rfl
theorem w_1300 : Cond.classLink "BallothallLaw" 120 "[[I" ∈ WG := wg_t (wu6 (List.mem_of_getElem? (i := 100) rfl)) rfl
theorem w_1301 : Cond.methodLink "BallothallLaw" 121 ⟨"BallothallLaw$Box", "ahead", "(II)I"⟩ ∈ WG := wg_t (wu6 (List.mem_of_getElem? (i := 101) rfl)) rfl
theorem w_1302 : Cond.instanceMethod ⟨"BallothallLaw$Box", "ahead", "(II)I"⟩ ∈ WG := wg_t (wu6 (List.mem_of_getElem? (i := 102) rfl)) rfl
theorem w_1303 : Cond.selects "BallothallLaw$Box" ⟨"BallothallLaw$Box", "ahead", "(II)I"⟩ ⟨"BallothallLaw$Box", "ahead", "(II)I"⟩ ∈ WG := wg_t (wu6 (List.mem_of_getElem? (i := 103) rfl)) rfl
theorem w_1304 : Cond.code ⟨"BallothallLaw$Box", "ahead", "(II)I"⟩ prog_14_method_2_code 5 (some .int) ∈ WG := wg_t (wu6 (List.mem_of_getElem? (i := 104) rfl)) rfl
theorem w_1305 : Cond.methodLink "BallothallLaw" 124 ⟨"Ballothall", "ahead", "(II)I"⟩ ∈ WG := wg_t (wu6 (List.mem_of_getElem? (i := 105) rfl)) rfl
theorem w_1306 : Cond.instanceMethod ⟨"Ballothall", "ahead", "(II)I"⟩ ∈ WG := wg_t (wu6 (List.mem_of_getElem? (i := 106) rfl)) rfl
theorem w_1307 : Cond.selects "Ballothall" ⟨"Ballothall", "ahead", "(II)I"⟩ ⟨"Ballothall", "ahead", "(II)I"⟩ ∈ WG := wg_t (wu6 (List.mem_of_getElem? (i := 107) rfl)) rfl
theorem w_1308 : Cond.code ⟨"Ballothall", "ahead", "(II)I"⟩ prog_1_method_25_code 3 (some .int) ∈ WG := wg_t (wu6 (List.mem_of_getElem? (i := 108) rfl)) rfl
theorem w_1310 : Cond.methodLink "BallothallLaw" 125 ⟨"Ballothall", "beatingSet", "()I"⟩ ∈ WG := wg_t (wu6 (List.mem_of_getElem? (i := 110) rfl)) rfl
theorem w_1311 : Cond.instanceMethod ⟨"Ballothall", "beatingSet", "()I"⟩ ∈ WG := wg_t (wu6 (List.mem_of_getElem? (i := 111) rfl)) rfl
theorem w_1312 : Cond.selects "Ballothall" ⟨"Ballothall", "beatingSet", "()I"⟩ ⟨"Ballothall", "beatingSet", "()I"⟩ ∈ WG := wg_t (wu6 (List.mem_of_getElem? (i := 112) rfl)) rfl
theorem w_1313 : Cond.code ⟨"Ballothall", "beatingSet", "()I"⟩ prog_1_method_29_code 1 (some .int) ∈ WG := wg_t (wu6 (List.mem_of_getElem? (i := 113) rfl)) rfl
theorem w_1316 : Cond.instanceMethod ⟨"Ballothall$Poll", "smallestBeatingSet", "()I"⟩ ∈ WG := wg_t (wu6 (List.mem_of_getElem? (i := 116) rfl)) rfl
theorem w_1317 : Cond.code ⟨"Ballothall$Poll", "smallestBeatingSet", "()I"⟩ prog_11_method_10_code 3 (some .int) ∈ WG := wg_t (wu6 (List.mem_of_getElem? (i := 117) rfl)) rfl
theorem w_1318 : Cond.methodLink "Ballothall$Poll" 103 ⟨"java/lang/Integer", "bitCount", "(I)I"⟩ ∈ WG := wg_t (wu6 (List.mem_of_getElem? (i := 118) rfl)) rfl
theorem w_1319 : Cond.methodLink "Ballothall$Poll" 109 ⟨"Ballothall$Poll", "isBeatingSet", "(I)Z"⟩ ∈ WG := wg_t (wu6 (List.mem_of_getElem? (i := 119) rfl)) rfl
theorem w_1321 : Cond.instanceMethod ⟨"Ballothall$Poll", "isBeatingSet", "(I)Z"⟩ ∈ WG := wg_t (wu6 (List.mem_of_getElem? (i := 121) rfl)) rfl
theorem w_1322 : Cond.code ⟨"Ballothall$Poll", "isBeatingSet", "(I)Z"⟩ prog_11_method_11_code 3 (some .boolean) ∈ WG := wg_t (wu6 (List.mem_of_getElem? (i := 122) rfl)) rfl
theorem w_1323 : Cond.methodLink "BallothallLaw" 128 ⟨"BallothallLaw", "way", "([[IIII)I"⟩ ∈ WG := wg_t (wu6 (List.mem_of_getElem? (i := 123) rfl)) rfl
theorem w_1324 : Cond.static ⟨"BallothallLaw", "way", "([[IIII)I"⟩ ∈ WG := wg_t (wu6 (List.mem_of_getElem? (i := 124) rfl)) rfl
theorem w_1325 : Cond.code ⟨"BallothallLaw", "way", "([[IIII)I"⟩ method_8_code 7 (some .int) ∈ WG := wg_t (wu6 (List.mem_of_getElem? (i := 125) rfl)) rfl
theorem w_1326 : Cond.methodLink "BallothallLaw" 148 ⟨"java/lang/Math", "max", "(II)I"⟩ ∈ WG := wg_t (wu6 (List.mem_of_getElem? (i := 126) rfl)) rfl
theorem w_1327 : Cond.methodLink "BallothallLaw" 132 ⟨"Ballothall", "strongestPath", "(II)I"⟩ ∈ WG := wg_t (wu6 (List.mem_of_getElem? (i := 127) rfl)) rfl
theorem w_1328 : Cond.instanceMethod ⟨"Ballothall", "strongestPath", "(II)I"⟩ ∈ WG := wg_t (wu6 (List.mem_of_getElem? (i := 128) rfl)) rfl
theorem w_1329 : Cond.selects "Ballothall" ⟨"Ballothall", "strongestPath", "(II)I"⟩ ⟨"Ballothall", "strongestPath", "(II)I"⟩ ∈ WG := wg_t (wu6 (List.mem_of_getElem? (i := 129) rfl)) rfl
theorem w_1330 : Cond.code ⟨"Ballothall", "strongestPath", "(II)I"⟩ prog_1_method_27_code 3 (some .int) ∈ WG := wg_t (wu6 (List.mem_of_getElem? (i := 130) rfl)) rfl
theorem w_1333 : Cond.methodLink "BallothallLaw" 135 ⟨"Ballothall", "beatsAll", "()I"⟩ ∈ WG := wg_t (wu6 (List.mem_of_getElem? (i := 133) rfl)) rfl
theorem w_1334 : Cond.instanceMethod ⟨"Ballothall", "beatsAll", "()I"⟩ ∈ WG := wg_t (wu6 (List.mem_of_getElem? (i := 134) rfl)) rfl
theorem w_1335 : Cond.selects "Ballothall" ⟨"Ballothall", "beatsAll", "()I"⟩ ⟨"Ballothall", "beatsAll", "()I"⟩ ∈ WG := wg_t (wu6 (List.mem_of_getElem? (i := 135) rfl)) rfl
theorem w_1336 : Cond.code ⟨"Ballothall", "beatsAll", "()I"⟩ prog_1_method_26_code 1 (some .int) ∈ WG := wg_t (wu6 (List.mem_of_getElem? (i := 136) rfl)) rfl
theorem w_1337 : Cond.methodLink "BallothallLaw" 138 ⟨"Ballothall", "consensusAt", "(I)I"⟩ ∈ WG := wg_t (wu6 (List.mem_of_getElem? (i := 137) rfl)) rfl
theorem w_1338 : Cond.instanceMethod ⟨"Ballothall", "consensusAt", "(I)I"⟩ ∈ WG := wg_t (wu6 (List.mem_of_getElem? (i := 138) rfl)) rfl
theorem w_1339 : Cond.selects "Ballothall" ⟨"Ballothall", "consensusAt", "(I)I"⟩ ⟨"Ballothall", "consensusAt", "(I)I"⟩ ∈ WG := wg_t (wu6 (List.mem_of_getElem? (i := 139) rfl)) rfl
theorem w_1340 : Cond.code ⟨"Ballothall", "consensusAt", "(I)I"⟩ prog_1_method_30_code 2 (some .int) ∈ WG := wg_t (wu6 (List.mem_of_getElem? (i := 140) rfl)) rfl
theorem w_1341 : Cond.methodLink "Ballothall" 172 ⟨"Ballothall", "needPlace", "(II)V"⟩ ∈ WG := wg_t (wu6 (List.mem_of_getElem? (i := 141) rfl)) rfl
theorem w_1342 : Cond.static ⟨"Ballothall", "needPlace", "(II)V"⟩ ∈ WG := wg_t (wu6 (List.mem_of_getElem? (i := 142) rfl)) rfl
theorem w_1343 : Cond.code ⟨"Ballothall", "needPlace", "(II)V"⟩ prog_1_method_59_code 2 none ∈ WG := wg_t (wu6 (List.mem_of_getElem? (i := 143) rfl)) rfl
theorem w_1345 : Cond.methodLink "BallothallLaw" 141 ⟨"Ballothall", "pathWinners", "()I"⟩ ∈ WG := wg_t (wu6 (List.mem_of_getElem? (i := 145) rfl)) rfl
theorem w_1346 : Cond.instanceMethod ⟨"Ballothall", "pathWinners", "()I"⟩ ∈ WG := wg_t (wu6 (List.mem_of_getElem? (i := 146) rfl)) rfl
theorem w_1347 : Cond.selects "Ballothall" ⟨"Ballothall", "pathWinners", "()I"⟩ ⟨"Ballothall", "pathWinners", "()I"⟩ ∈ WG := wg_t (wu6 (List.mem_of_getElem? (i := 147) rfl)) rfl
theorem w_1348 : Cond.code ⟨"Ballothall", "pathWinners", "()I"⟩ prog_1_method_28_code 1 (some .int) ∈ WG := wg_t (wu6 (List.mem_of_getElem? (i := 148) rfl)) rfl
theorem w_1349 : Cond.methodLink "BallothallLaw" 144 ⟨"Ballothall", "consensusDistance", "()J"⟩ ∈ WG := wg_t (wu6 (List.mem_of_getElem? (i := 149) rfl)) rfl
theorem w_1350 : Cond.instanceMethod ⟨"Ballothall", "consensusDistance", "()J"⟩ ∈ WG := wg_t (wu6 (List.mem_of_getElem? (i := 150) rfl)) rfl
theorem w_1351 : Cond.selects "Ballothall" ⟨"Ballothall", "consensusDistance", "()J"⟩ ⟨"Ballothall", "consensusDistance", "()J"⟩ ∈ WG := wg_t (wu6 (List.mem_of_getElem? (i := 151) rfl)) rfl
theorem w_1352 : Cond.code ⟨"Ballothall", "consensusDistance", "()J"⟩ prog_1_method_31_code 1 (some .long) ∈ WG := wg_t (wu6 (List.mem_of_getElem? (i := 152) rfl)) rfl
theorem w_1353 : Cond.methodLink "BallothallLaw" 247 ⟨"BallothallLaw", "gains", "(LBallothall;LBallothallLaw$Box;[I)Z"⟩ ∈ WG := wg_t (wu6 (List.mem_of_getElem? (i := 153) rfl)) rfl
theorem w_1354 : Cond.static ⟨"BallothallLaw", "gains", "(LBallothall;LBallothallLaw$Box;[I)Z"⟩ ∈ WG := wg_t (wu6 (List.mem_of_getElem? (i := 154) rfl)) rfl
theorem w_1355 : Cond.code ⟨"BallothallLaw", "gains", "(LBallothall;LBallothallLaw$Box;[I)Z"⟩ method_9_code 11 (some .boolean) ∈ WG := wg_t (wu6 (List.mem_of_getElem? (i := 155) rfl)) rfl
theorem w_1356 : Cond.methodLink "BallothallLaw" 151 ⟨"Ballothall", "gain", "(I)I"⟩ ∈ WG := wg_t (wu6 (List.mem_of_getElem? (i := 156) rfl)) rfl
theorem w_1357 : Cond.instanceMethod ⟨"Ballothall", "gain", "(I)I"⟩ ∈ WG := wg_t (wu6 (List.mem_of_getElem? (i := 157) rfl)) rfl
theorem w_1358 : Cond.selects "Ballothall" ⟨"Ballothall", "gain", "(I)I"⟩ ⟨"Ballothall", "gain", "(I)I"⟩ ∈ WG := wg_t (wu6 (List.mem_of_getElem? (i := 158) rfl)) rfl
theorem w_1359 : Cond.code ⟨"Ballothall", "gain", "(I)I"⟩ prog_1_method_36_code 2 (some .int) ∈ WG := wg_t (wu6 (List.mem_of_getElem? (i := 159) rfl)) rfl
theorem w_1360 : Cond.methodLink "Ballothall" 324 ⟨"Ballothall", "needFewCandidates", "()V"⟩ ∈ WG := wg_t (wu6 (List.mem_of_getElem? (i := 160) rfl)) rfl
theorem w_1362 : Cond.instanceMethod ⟨"Ballothall", "needFewCandidates", "()V"⟩ ∈ WG := wg_t (wu6 (List.mem_of_getElem? (i := 162) rfl)) rfl
theorem w_1363 : Cond.code ⟨"Ballothall", "needFewCandidates", "()V"⟩ prog_1_method_60_code 1 none ∈ WG := wg_t (wu6 (List.mem_of_getElem? (i := 163) rfl)) rfl
theorem w_1367 : Cond.instanceMethod ⟨"Ballothall$FalseBallot", "findKind", "(I)I"⟩ ∈ WG := wg_t (wu6 (List.mem_of_getElem? (i := 167) rfl)) rfl
theorem w_1368 : Cond.code ⟨"Ballothall$FalseBallot", "findKind", "(I)I"⟩ prog_7_method_2_code 5 (some .int) ∈ WG := wg_t (wu6 (List.mem_of_getElem? (i := 168) rfl)) rfl
theorem w_1373 : Cond.instanceMethod ⟨"Ballothall$Poll", "bestBy", "(I)I"⟩ ∈ WG := wg_t (wu6 (List.mem_of_getElem? (i := 173) rfl)) rfl
theorem w_1374 : Cond.code ⟨"Ballothall$Poll", "bestBy", "(I)I"⟩ prog_11_method_19_code 2 (some .int) ∈ WG := wg_t (wu6 (List.mem_of_getElem? (i := 174) rfl)) rfl
theorem w_1375 : Cond.methodLink "Ballothall$Poll" 139 ⟨"Ballothall$Poll", "lastOfRunoff", "()I"⟩ ∈ WG := wg_t (wu6 (List.mem_of_getElem? (i := 175) rfl)) rfl
theorem w_1377 : Cond.instanceMethod ⟨"Ballothall$Poll", "lastOfRunoff", "()I"⟩ ∈ WG := wg_t (wu6 (List.mem_of_getElem? (i := 177) rfl)) rfl
theorem w_1378 : Cond.code ⟨"Ballothall$Poll", "lastOfRunoff", "()I"⟩ prog_11_method_25_code 5 (some .int) ∈ WG := wg_t (wu6 (List.mem_of_getElem? (i := 178) rfl)) rfl
theorem w_1379 : Cond.methodLink "Ballothall$Poll" 163 ⟨"Ballothall$Poll", "scoreTopsOf", "(I)V"⟩ ∈ WG := wg_t (wu6 (List.mem_of_getElem? (i := 179) rfl)) rfl
theorem w_1381 : Cond.instanceMethod ⟨"Ballothall$Poll", "scoreTopsOf", "(I)V"⟩ ∈ WG := wg_t (wu6 (List.mem_of_getElem? (i := 181) rfl)) rfl
theorem w_1382 : Cond.code ⟨"Ballothall$Poll", "scoreTopsOf", "(I)V"⟩ prog_11_method_26_code 4 none ∈ WG := wg_t (wu6 (List.mem_of_getElem? (i := 182) rfl)) rfl
theorem w_1383 : Cond.methodLink "Ballothall$Poll" 169 ⟨"java/util/Arrays", "fill", "([JJ)V"⟩ ∈ WG := wg_t (wu6 (List.mem_of_getElem? (i := 183) rfl)) rfl
theorem w_1384 : Cond.static ⟨"java/util/Arrays", "fill", "([JJ)V"⟩ ∈ WG := wg_t (wu6 (List.mem_of_getElem? (i := 184) rfl)) rfl
theorem w_1385 : Cond.code ⟨"java/util/Arrays", "fill", "([JJ)V"⟩ prog_43_method_101_code 5 none ∈ WG := wg_t (wu6 (List.mem_of_getElem? (i := 185) rfl)) rfl
theorem w_1386 : Cond.methodLink "Ballothall$Poll" 166 ⟨"Ballothall$Poll", "smallestOf", "(I)I"⟩ ∈ WG := wg_t (wu6 (List.mem_of_getElem? (i := 186) rfl)) rfl
theorem w_1388 : Cond.instanceMethod ⟨"Ballothall$Poll", "smallestOf", "(I)I"⟩ ∈ WG := wg_t (wu6 (List.mem_of_getElem? (i := 188) rfl)) rfl
theorem w_1389 : Cond.code ⟨"Ballothall$Poll", "smallestOf", "(I)I"⟩ prog_11_method_24_code 4 (some .int) ∈ WG := wg_t (wu6 (List.mem_of_getElem? (i := 189) rfl)) rfl
theorem w_1391 : Cond.methodLink "Ballothall$Poll" 146 ⟨"Ballothall$Poll", "bestByLot", "(I)I"⟩ ∈ WG := wg_t (wu6 (List.mem_of_getElem? (i := 191) rfl)) rfl
theorem w_1393 : Cond.instanceMethod ⟨"Ballothall$Poll", "bestByLot", "(I)I"⟩ ∈ WG := wg_t (wu6 (List.mem_of_getElem? (i := 193) rfl)) rfl
theorem w_1394 : Cond.code ⟨"Ballothall$Poll", "bestByLot", "(I)I"⟩ prog_11_method_22_code 4 (some .int) ∈ WG := wg_t (wu6 (List.mem_of_getElem? (i := 194) rfl)) rfl
theorem w_1395 : Cond.methodLink "Ballothall$Poll" 143 ⟨"Ballothall$Poll", "winnersByPaths", "()I"⟩ ∈ WG := wg_t (wu6 (List.mem_of_getElem? (i := 195) rfl)) rfl
theorem w_1396 : Cond.methodLink "Ballothall$Poll" 149 ⟨"Ballothall$Poll", "findScores", "(I)V"⟩ ∈ WG := wg_t (wu6 (List.mem_of_getElem? (i := 196) rfl)) rfl
theorem w_1398 : Cond.instanceMethod ⟨"Ballothall$Poll", "findScores", "(I)V"⟩ ∈ WG := wg_t (wu6 (List.mem_of_getElem? (i := 198) rfl)) rfl
theorem w_1399 : Cond.code ⟨"Ballothall$Poll", "findScores", "(I)V"⟩ prog_11_method_20_code 3 none ∈ WG := wg_t (wu6 (List.mem_of_getElem? (i := 199) rfl)) rfl
theorem w_1400 : Cond.methodLink "Ballothall$Poll" 156 ⟨"Ballothall$Poll", "pointsOf", "(I)J"⟩ ∈ WG := wg_t (wu6 (List.mem_of_getElem? (i := 200) rfl)) rfl
theorem w_1402 : Cond.instanceMethod ⟨"Ballothall$Poll", "pointsOf", "(I)J"⟩ ∈ WG := wg_t (wu6 (List.mem_of_getElem? (i := 202) rfl)) rfl
theorem w_1403 : Cond.code ⟨"Ballothall$Poll", "pointsOf", "(I)J"⟩ prog_11_method_21_code 5 (some .long) ∈ WG := wg_t (wu6 (List.mem_of_getElem? (i := 203) rfl)) rfl
theorem w_1404 : Cond.methodLink "Ballothall$Poll" 153 ⟨"Ballothall$Poll", "greatestOf", "(I)I"⟩ ∈ WG := wg_t (wu6 (List.mem_of_getElem? (i := 204) rfl)) rfl
theorem w_1406 : Cond.instanceMethod ⟨"Ballothall$Poll", "greatestOf", "(I)I"⟩ ∈ WG := wg_t (wu6 (List.mem_of_getElem? (i := 206) rfl)) rfl
theorem w_1407 : Cond.code ⟨"Ballothall$Poll", "greatestOf", "(I)I"⟩ prog_11_method_23_code 4 (some .int) ∈ WG := wg_t (wu6 (List.mem_of_getElem? (i := 207) rfl)) rfl
theorem w_1408 : Cond.methodLink "Ballothall$FalseBallot" 46 ⟨"Ballothall$FalseBallot", "aheadOf", "(II)I"⟩ ∈ WG := wg_t (wu6 (List.mem_of_getElem? (i := 208) rfl)) rfl
theorem w_1410 : Cond.instanceMethod ⟨"Ballothall$FalseBallot", "aheadOf", "(II)I"⟩ ∈ WG := wg_t (wu6 (List.mem_of_getElem? (i := 210) rfl)) rfl
theorem w_1411 : Cond.code ⟨"Ballothall$FalseBallot", "aheadOf", "(II)I"⟩ prog_7_method_3_code 6 (some .int) ∈ WG := wg_t (wu6 (List.mem_of_getElem? (i := 211) rfl)) rfl
theorem w_1414 : Cond.methodLink "Ballothall$FalseBallot" 54 ⟨"Ballothall$FalseBallot", "findOrder", "(II)Z"⟩ ∈ WG := wg_t (wu6 (List.mem_of_getElem? (i := 214) rfl)) rfl
theorem w_1416 : Cond.instanceMethod ⟨"Ballothall$FalseBallot", "findOrder", "(II)Z"⟩ ∈ WG := wg_t (wu6 (List.mem_of_getElem? (i := 216) rfl)) rfl
theorem w_1417 : Cond.code ⟨"Ballothall$FalseBallot", "findOrder", "(II)Z"⟩ prog_7_method_4_code 7 (some .boolean) ∈ WG := wg_t (wu6 (List.mem_of_getElem? (i := 217) rfl)) rfl
theorem w_1419 : Cond.methodLink "Ballothall$FalseBallot" 72 ⟨"Ballothall$FalseBallot", "writeTrial", "()V"⟩ ∈ WG := wg_t (wu6 (List.mem_of_getElem? (i := 219) rfl)) rfl
theorem w_1421 : Cond.instanceMethod ⟨"Ballothall$FalseBallot", "writeTrial", "()V"⟩ ∈ WG := wg_t (wu6 (List.mem_of_getElem? (i := 221) rfl)) rfl
theorem w_1422 : Cond.code ⟨"Ballothall$FalseBallot", "writeTrial", "()V"⟩ prog_7_method_5_code 2 none ∈ WG := wg_t (wu6 (List.mem_of_getElem? (i := 222) rfl)) rfl
theorem w_1426 : Cond.methodLink "Ballothall$FalseBallot" 78 ⟨"Ballothall$FalseBallot", "goToNextOrder", "()V"⟩ ∈ WG := wg_t (wu6 (List.mem_of_getElem? (i := 226) rfl)) rfl
theorem w_1428 : Cond.instanceMethod ⟨"Ballothall$FalseBallot", "goToNextOrder", "()V"⟩ ∈ WG := wg_t (wu6 (List.mem_of_getElem? (i := 228) rfl)) rfl
theorem w_1429 : Cond.code ⟨"Ballothall$FalseBallot", "goToNextOrder", "()V"⟩ prog_7_method_6_code 6 none ∈ WG := wg_t (wu6 (List.mem_of_getElem? (i := 229) rfl)) rfl
theorem w_1430 : Cond.methodLink "Ballothall$FalseBallot" 91 ⟨"Ballothall$FalseBallot", "swap", "(II)V"⟩ ∈ WG := wg_t (wu6 (List.mem_of_getElem? (i := 230) rfl)) rfl
theorem w_1432 : Cond.instanceMethod ⟨"Ballothall$FalseBallot", "swap", "(II)V"⟩ ∈ WG := wg_t (wu6 (List.mem_of_getElem? (i := 232) rfl)) rfl
theorem w_1433 : Cond.code ⟨"Ballothall$FalseBallot", "swap", "(II)V"⟩ prog_7_method_7_code 4 none ∈ WG := wg_t (wu6 (List.mem_of_getElem? (i := 233) rfl)) rfl
theorem w_1434 : Cond.methodLink "BallothallLaw" 154 ⟨"Ballothall", "winner", "(I)I"⟩ ∈ WG := wg_t (wu6 (List.mem_of_getElem? (i := 234) rfl)) rfl
theorem w_1435 : Cond.instanceMethod ⟨"Ballothall", "winner", "(I)I"⟩ ∈ WG := wg_t (wu6 (List.mem_of_getElem? (i := 235) rfl)) rfl
theorem w_1436 : Cond.selects "Ballothall" ⟨"Ballothall", "winner", "(I)I"⟩ ⟨"Ballothall", "winner", "(I)I"⟩ ∈ WG := wg_t (wu6 (List.mem_of_getElem? (i := 236) rfl)) rfl
theorem w_1437 : Cond.code ⟨"Ballothall", "winner", "(I)I"⟩ prog_1_method_32_code 2 (some .int) ∈ WG := wg_t (wu6 (List.mem_of_getElem? (i := 237) rfl)) rfl
theorem w_1441 : Cond.methodLink "BallothallLaw" 161 ⟨"java/lang/StringBuilder", "append", "(Ljava/lang/String;)Ljava/lang/StringBuilder;"⟩ ∈ WG := wg_t (wu7 (List.mem_of_getElem? (i := 1) rfl)) rfl
theorem w_1442 : Cond.instanceMethod ⟨"java/lang/StringBuilder", "append", "(Ljava/lang/String;)Ljava/lang/StringBuilder;"⟩ ∈ WG := wg_t (wu7 (List.mem_of_getElem? (i := 2) rfl)) rfl
theorem w_1443 : Cond.selects "java/lang/StringBuilder" ⟨"java/lang/StringBuilder", "append", "(Ljava/lang/String;)Ljava/lang/StringBuilder;"⟩ ⟨"java/lang/StringBuilder", "append", "(Ljava/lang/String;)Ljava/lang/StringBuilder;"⟩ ∈ WG := wg_t (wu7 (List.mem_of_getElem? (i := 3) rfl)) rfl
theorem w_1444 : Cond.code ⟨"java/lang/StringBuilder", "append", "(Ljava/lang/String;)Ljava/lang/StringBuilder;"⟩ prog_36_method_7_code 2 (some (.object "java/lang/StringBuilder")) ∈ WG := wg_t (wu7 (List.mem_of_getElem? (i := 4) rfl)) rfl
theorem w_1445 : Cond.methodLink "java/lang/StringBuilder" 29 ⟨"java/lang/AbstractStringBuilder", "append", "(Ljava/lang/String;)Ljava/lang/AbstractStringBuilder;"⟩ ∈ WG := wg_t (wu7 (List.mem_of_getElem? (i := 5) rfl)) rfl
theorem w_1446 : Cond.instanceMethod ⟨"java/lang/AbstractStringBuilder", "append", "(Ljava/lang/String;)Ljava/lang/AbstractStringBuilder;"⟩ ∈ WG := wg_t (wu7 (List.mem_of_getElem? (i := 6) rfl)) rfl
theorem w_1447 : Cond.code ⟨"java/lang/AbstractStringBuilder", "append", "(Ljava/lang/String;)Ljava/lang/AbstractStringBuilder;"⟩ prog_23_method_22_code 3 (some (.object "java/lang/AbstractStringBuilder")) ∈ WG := wg_t (wu7 (List.mem_of_getElem? (i := 7) rfl)) rfl
theorem w_1464 : Cond.methodLink "java/lang/AbstractStringBuilder" 32 ⟨"java/lang/String", "length", "()I"⟩ ∈ WG := wg_t (wu7 (List.mem_of_getElem? (i := 24) rfl)) rfl
theorem w_1465 : Cond.methodLink "java/lang/AbstractStringBuilder" 208 ⟨"java/lang/AbstractStringBuilder", "putStringAt", "(ILjava/lang/String;)V"⟩ ∈ WG := wg_t (wu7 (List.mem_of_getElem? (i := 25) rfl)) rfl
theorem w_1467 : Cond.instanceMethod ⟨"java/lang/AbstractStringBuilder", "putStringAt", "(ILjava/lang/String;)V"⟩ ∈ WG := wg_t (wu7 (List.mem_of_getElem? (i := 27) rfl)) rfl
theorem w_1468 : Cond.code ⟨"java/lang/AbstractStringBuilder", "putStringAt", "(ILjava/lang/String;)V"⟩ prog_23_method_73_code 3 none ∈ WG := wg_t (wu7 (List.mem_of_getElem? (i := 28) rfl)) rfl
theorem w_1469 : Cond.methodLink "java/lang/AbstractStringBuilder" 397 ⟨"java/lang/AbstractStringBuilder", "inflateIfNeededFor", "(Ljava/lang/String;)V"⟩ ∈ WG := wg_t (wu7 (List.mem_of_getElem? (i := 29) rfl)) rfl
theorem w_1471 : Cond.instanceMethod ⟨"java/lang/AbstractStringBuilder", "inflateIfNeededFor", "(Ljava/lang/String;)V"⟩ ∈ WG := wg_t (wu7 (List.mem_of_getElem? (i := 31) rfl)) rfl
theorem w_1472 : Cond.code ⟨"java/lang/AbstractStringBuilder", "inflateIfNeededFor", "(Ljava/lang/String;)V"⟩ prog_23_method_71_code 2 none ∈ WG := wg_t (wu7 (List.mem_of_getElem? (i := 32) rfl)) rfl
theorem w_1473 : Cond.methodLink "java/lang/AbstractStringBuilder" 40 ⟨"java/lang/String", "coder", "()B"⟩ ∈ WG := wg_t (wu7 (List.mem_of_getElem? (i := 33) rfl)) rfl
theorem w_1474 : Cond.methodLink "java/lang/AbstractStringBuilder" 399 ⟨"java/lang/String", "getBytes", "([BIB)V"⟩ ∈ WG := wg_t (wu7 (List.mem_of_getElem? (i := 34) rfl)) rfl
theorem w_1475 : Cond.instanceMethod ⟨"java/lang/String", "getBytes", "([BIB)V"⟩ ∈ WG := wg_t (wu7 (List.mem_of_getElem? (i := 35) rfl)) rfl
theorem w_1476 : Cond.selects "java/lang/String" ⟨"java/lang/String", "getBytes", "([BIB)V"⟩ ⟨"java/lang/String", "getBytes", "([BIB)V"⟩ ∈ WG := wg_t (wu7 (List.mem_of_getElem? (i := 36) rfl)) rfl
theorem w_1477 : Cond.code ⟨"java/lang/String", "getBytes", "([BIB)V"⟩ prog_35_method_147_code 4 none ∈ WG := wg_t (wu7 (List.mem_of_getElem? (i := 37) rfl)) rfl
theorem w_1478 : Cond.methodLink "java/lang/String" 212 ⟨"java/lang/System", "arraycopy", "(Ljava/lang/Object;ILjava/lang/Object;II)V"⟩ ∈ WG := wg_t (wu7 (List.mem_of_getElem? (i := 38) rfl)) rfl
theorem w_1480 : Cond.methodLink "BallothallLaw" 164 ⟨"Ballothall", "gainAt", "(II)I"⟩ ∈ WG := wg_t (wu7 (List.mem_of_getElem? (i := 40) rfl)) rfl
theorem w_1481 : Cond.instanceMethod ⟨"Ballothall", "gainAt", "(II)I"⟩ ∈ WG := wg_t (wu7 (List.mem_of_getElem? (i := 41) rfl)) rfl
theorem w_1482 : Cond.selects "Ballothall" ⟨"Ballothall", "gainAt", "(II)I"⟩ ⟨"Ballothall", "gainAt", "(II)I"⟩ ∈ WG := wg_t (wu7 (List.mem_of_getElem? (i := 42) rfl)) rfl
theorem w_1483 : Cond.code ⟨"Ballothall", "gainAt", "(II)I"⟩ prog_1_method_37_code 3 (some .int) ∈ WG := wg_t (wu7 (List.mem_of_getElem? (i := 43) rfl)) rfl
theorem w_1484 : Cond.methodLink "BallothallLaw" 167 ⟨"Ballothall", "takeBack", "(II)I"⟩ ∈ WG := wg_t (wu7 (List.mem_of_getElem? (i := 44) rfl)) rfl
theorem w_1485 : Cond.instanceMethod ⟨"Ballothall", "takeBack", "(II)I"⟩ ∈ WG := wg_t (wu7 (List.mem_of_getElem? (i := 45) rfl)) rfl
theorem w_1486 : Cond.selects "Ballothall" ⟨"Ballothall", "takeBack", "(II)I"⟩ ⟨"Ballothall", "takeBack", "(II)I"⟩ ∈ WG := wg_t (wu7 (List.mem_of_getElem? (i := 46) rfl)) rfl
theorem w_1487 : Cond.code ⟨"Ballothall", "takeBack", "(II)I"⟩ prog_1_method_6_code 3 (some .int) ∈ WG := wg_t (wu7 (List.mem_of_getElem? (i := 47) rfl)) rfl
theorem w_1488 : Cond.methodLink "BallothallLaw" 170 ⟨"Ballothall", "undo", "()I"⟩ ∈ WG := wg_t (wu7 (List.mem_of_getElem? (i := 48) rfl)) rfl
theorem w_1489 : Cond.instanceMethod ⟨"Ballothall", "undo", "()I"⟩ ∈ WG := wg_t (wu7 (List.mem_of_getElem? (i := 49) rfl)) rfl
theorem w_1490 : Cond.selects "Ballothall" ⟨"Ballothall", "undo", "()I"⟩ ⟨"Ballothall", "undo", "()I"⟩ ∈ WG := wg_t (wu7 (List.mem_of_getElem? (i := 50) rfl)) rfl
theorem w_1491 : Cond.code ⟨"Ballothall", "undo", "()I"⟩ prog_1_method_50_code 1 (some .int) ∈ WG := wg_t (wu7 (List.mem_of_getElem? (i := 51) rfl)) rfl
theorem w_1492 : Cond.methodLink "Ballothall" 371 ⟨"Ballothall", "takeChangeBack", "(III)V"⟩ ∈ WG := wg_t (wu7 (List.mem_of_getElem? (i := 52) rfl)) rfl
theorem w_1494 : Cond.instanceMethod ⟨"Ballothall", "takeChangeBack", "(III)V"⟩ ∈ WG := wg_t (wu7 (List.mem_of_getElem? (i := 54) rfl)) rfl
theorem w_1495 : Cond.code ⟨"Ballothall", "takeChangeBack", "(III)V"⟩ prog_1_method_62_code 4 none ∈ WG := wg_t (wu7 (List.mem_of_getElem? (i := 55) rfl)) rfl
theorem w_1498 : Cond.instanceMethod ⟨"Ballothall$Counting", "goBack", "()V"⟩ ∈ WG := wg_t (wu7 (List.mem_of_getElem? (i := 58) rfl)) rfl
theorem w_1499 : Cond.code ⟨"Ballothall$Counting", "goBack", "()V"⟩ prog_5_method_3_code 1 none ∈ WG := wg_t (wu7 (List.mem_of_getElem? (i := 59) rfl)) rfl
theorem w_1502 : Cond.instanceMethod ⟨"Ballothall$Lists", "takeChangeBack", "(III)V"⟩ ∈ WG := wg_t (wu7 (List.mem_of_getElem? (i := 62) rfl)) rfl
theorem w_1503 : Cond.code ⟨"Ballothall$Lists", "takeChangeBack", "(III)V"⟩ prog_9_method_11_code 4 none ∈ WG := wg_t (wu7 (List.mem_of_getElem? (i := 63) rfl)) rfl
theorem w_1504 : Cond.methodLink "BallothallLaw" 250 ⟨"BallothallLaw", "seats", "([I)Z"⟩ ∈ WG := wg_t (wu7 (List.mem_of_getElem? (i := 64) rfl)) rfl
theorem w_1505 : Cond.static ⟨"BallothallLaw", "seats", "([I)Z"⟩ ∈ WG := wg_t (wu7 (List.mem_of_getElem? (i := 65) rfl)) rfl
theorem w_1506 : Cond.code ⟨"BallothallLaw", "seats", "([I)Z"⟩ method_11_code 20 (some .boolean) ∈ WG := wg_t (wu7 (List.mem_of_getElem? (i := 66) rfl)) rfl
theorem w_1507 : Cond.constant "BallothallLaw" 174 100000 ∈ WG := wg_t (wu7 (List.mem_of_getElem? (i := 67) rfl)) rfl
theorem w_1508 : Cond.methodLink "BallothallLaw" 175 ⟨"Ballothall", "list", "(I)I"⟩ ∈ WG := wg_t (wu7 (List.mem_of_getElem? (i := 68) rfl)) rfl
theorem w_1509 : Cond.instanceMethod ⟨"Ballothall", "list", "(I)I"⟩ ∈ WG := wg_t (wu7 (List.mem_of_getElem? (i := 69) rfl)) rfl
theorem w_1510 : Cond.selects "Ballothall" ⟨"Ballothall", "list", "(I)I"⟩ ⟨"Ballothall", "list", "(I)I"⟩ ∈ WG := wg_t (wu7 (List.mem_of_getElem? (i := 70) rfl)) rfl
theorem w_1511 : Cond.code ⟨"Ballothall", "list", "(I)I"⟩ prog_1_method_10_code 3 (some .int) ∈ WG := wg_t (wu7 (List.mem_of_getElem? (i := 71) rfl)) rfl
theorem w_1512 : Cond.constant "Ballothall" 138 10000000 ∈ WG := wg_t (wu7 (List.mem_of_getElem? (i := 72) rfl)) rfl
theorem w_1515 : Cond.instanceMethod ⟨"Ballothall$Lists", "append", "(I)I"⟩ ∈ WG := wg_t (wu7 (List.mem_of_getElem? (i := 75) rfl)) rfl
theorem w_1516 : Cond.code ⟨"Ballothall$Lists", "append", "(I)I"⟩ prog_9_method_2_code 3 (some .int) ∈ WG := wg_t (wu7 (List.mem_of_getElem? (i := 76) rfl)) rfl
theorem w_1517 : Cond.methodLink "BallothallLaw" 182 ⟨"Ballothall", "seats", "(III)I"⟩ ∈ WG := wg_t (wu7 (List.mem_of_getElem? (i := 77) rfl)) rfl
theorem w_1518 : Cond.instanceMethod ⟨"Ballothall", "seats", "(III)I"⟩ ∈ WG := wg_t (wu7 (List.mem_of_getElem? (i := 78) rfl)) rfl
theorem w_1519 : Cond.selects "Ballothall" ⟨"Ballothall", "seats", "(III)I"⟩ ⟨"Ballothall", "seats", "(III)I"⟩ ∈ WG := wg_t (wu7 (List.mem_of_getElem? (i := 79) rfl)) rfl
theorem w_1520 : Cond.code ⟨"Ballothall", "seats", "(III)I"⟩ prog_1_method_13_code 5 (some .int) ∈ WG := wg_t (wu7 (List.mem_of_getElem? (i := 80) rfl)) rfl
theorem w_1523 : Cond.instanceMethod ⟨"Ballothall$Lists", "spread", "(III)I"⟩ ∈ WG := wg_t (wu7 (List.mem_of_getElem? (i := 83) rfl)) rfl
theorem w_1524 : Cond.code ⟨"Ballothall$Lists", "spread", "(III)I"⟩ prog_9_method_5_code 7 (some .int) ∈ WG := wg_t (wu7 (List.mem_of_getElem? (i := 84) rfl)) rfl
theorem w_1527 : Cond.instanceMethod ⟨"Ballothall$Division", "clear", "()V"⟩ ∈ WG := wg_t (wu7 (List.mem_of_getElem? (i := 87) rfl)) rfl
theorem w_1528 : Cond.code ⟨"Ballothall$Division", "clear", "()V"⟩ prog_6_method_2_code 1 none ∈ WG := wg_t (wu7 (List.mem_of_getElem? (i := 88) rfl)) rfl
theorem w_1529 : Cond.methodLink "Ballothall$Lists" 58 ⟨"Ballothall$Lists", "isFirstOfUnit", "(I)Z"⟩ ∈ WG := wg_t (wu7 (List.mem_of_getElem? (i := 89) rfl)) rfl
theorem w_1531 : Cond.instanceMethod ⟨"Ballothall$Lists", "isFirstOfUnit", "(I)Z"⟩ ∈ WG := wg_t (wu7 (List.mem_of_getElem? (i := 91) rfl)) rfl
theorem w_1532 : Cond.code ⟨"Ballothall$Lists", "isFirstOfUnit", "(I)Z"⟩ prog_9_method_6_code 3 (some .boolean) ∈ WG := wg_t (wu7 (List.mem_of_getElem? (i := 92) rfl)) rfl
theorem w_1533 : Cond.methodLink "Ballothall$Lists" 89 ⟨"Ballothall$Lists", "isSameUnit", "(II)Z"⟩ ∈ WG := wg_t (wu7 (List.mem_of_getElem? (i := 93) rfl)) rfl
theorem w_1535 : Cond.instanceMethod ⟨"Ballothall$Lists", "isSameUnit", "(II)Z"⟩ ∈ WG := wg_t (wu7 (List.mem_of_getElem? (i := 95) rfl)) rfl
theorem w_1536 : Cond.code ⟨"Ballothall$Lists", "isSameUnit", "(II)Z"⟩ prog_9_method_4_code 3 (some .boolean) ∈ WG := wg_t (wu7 (List.mem_of_getElem? (i := 96) rfl)) rfl
theorem w_1537 : Cond.methodLink "Ballothall$Lists" 62 ⟨"Ballothall$Lists", "appendUnit", "(IJ)V"⟩ ∈ WG := wg_t (wu7 (List.mem_of_getElem? (i := 97) rfl)) rfl
theorem w_1539 : Cond.instanceMethod ⟨"Ballothall$Lists", "appendUnit", "(IJ)V"⟩ ∈ WG := wg_t (wu7 (List.mem_of_getElem? (i := 99) rfl)) rfl
theorem w_1540 : Cond.code ⟨"Ballothall$Lists", "appendUnit", "(IJ)V"⟩ prog_9_method_7_code 8 none ∈ WG := wg_t (wu7 (List.mem_of_getElem? (i := 100) rfl)) rfl
theorem w_1541 : Cond.constantLong "Ballothall$Lists" 93 100 ∈ WG := wg_t (wu7 (List.mem_of_getElem? (i := 101) rfl)) rfl
theorem w_1544 : Cond.instanceMethod ⟨"Ballothall$Division", "append", "(IJI)V"⟩ ∈ WG := wg_t (wu7 (List.mem_of_getElem? (i := 104) rfl)) rfl
theorem w_1545 : Cond.code ⟨"Ballothall$Division", "append", "(IJI)V"⟩ prog_6_method_3_code 5 none ∈ WG := wg_t (wu7 (List.mem_of_getElem? (i := 105) rfl)) rfl
theorem w_1548 : Cond.instanceMethod ⟨"Ballothall$Division", "distribute", "(II)V"⟩ ∈ WG := wg_t (wu7 (List.mem_of_getElem? (i := 108) rfl)) rfl
theorem w_1549 : Cond.code ⟨"Ballothall$Division", "distribute", "(II)V"⟩ prog_6_method_5_code 6 none ∈ WG := wg_t (wu7 (List.mem_of_getElem? (i := 109) rfl)) rfl
theorem w_1550 : Cond.methodLink "Ballothall$Division" 38 ⟨"Ballothall$Division", "distributeByRemainders", "(I)V"⟩ ∈ WG := wg_t (wu7 (List.mem_of_getElem? (i := 110) rfl)) rfl
theorem w_1552 : Cond.instanceMethod ⟨"Ballothall$Division", "distributeByRemainders", "(I)V"⟩ ∈ WG := wg_t (wu7 (List.mem_of_getElem? (i := 112) rfl)) rfl
theorem w_1553 : Cond.code ⟨"Ballothall$Division", "distributeByRemainders", "(I)V"⟩ prog_6_method_9_code 8 none ∈ WG := wg_t (wu7 (List.mem_of_getElem? (i := 113) rfl)) rfl
theorem w_1554 : Cond.methodLink "Ballothall$Division" 46 ⟨"Ballothall$Division", "give", "(I)V"⟩ ∈ WG := wg_t (wu7 (List.mem_of_getElem? (i := 114) rfl)) rfl
theorem w_1556 : Cond.instanceMethod ⟨"Ballothall$Division", "give", "(I)V"⟩ ∈ WG := wg_t (wu7 (List.mem_of_getElem? (i := 116) rfl)) rfl
theorem w_1557 : Cond.code ⟨"Ballothall$Division", "give", "(I)V"⟩ prog_6_method_4_code 2 none ∈ WG := wg_t (wu7 (List.mem_of_getElem? (i := 117) rfl)) rfl
theorem w_1558 : Cond.methodLink "Ballothall$Division" 59 ⟨"Ballothall$Division", "giveToGreatestRemainder", "()V"⟩ ∈ WG := wg_t (wu7 (List.mem_of_getElem? (i := 118) rfl)) rfl
theorem w_1560 : Cond.instanceMethod ⟨"Ballothall$Division", "giveToGreatestRemainder", "()V"⟩ ∈ WG := wg_t (wu7 (List.mem_of_getElem? (i := 120) rfl)) rfl
theorem w_1561 : Cond.code ⟨"Ballothall$Division", "giveToGreatestRemainder", "()V"⟩ prog_6_method_10_code 3 none ∈ WG := wg_t (wu7 (List.mem_of_getElem? (i := 121) rfl)) rfl
theorem w_1562 : Cond.methodLink "Ballothall$Division" 53 ⟨"Ballothall$Division", "winsTie", "(II)Z"⟩ ∈ WG := wg_t (wu7 (List.mem_of_getElem? (i := 122) rfl)) rfl
theorem w_1564 : Cond.instanceMethod ⟨"Ballothall$Division", "winsTie", "(II)Z"⟩ ∈ WG := wg_t (wu7 (List.mem_of_getElem? (i := 124) rfl)) rfl
theorem w_1565 : Cond.code ⟨"Ballothall$Division", "winsTie", "(II)Z"⟩ prog_6_method_7_code 3 (some .boolean) ∈ WG := wg_t (wu7 (List.mem_of_getElem? (i := 125) rfl)) rfl
theorem w_1566 : Cond.constantLong "Ballothall$Division" 62 (-1) ∈ WG := wg_t (wu7 (List.mem_of_getElem? (i := 126) rfl)) rfl
theorem w_1567 : Cond.methodLink "Ballothall$Division" 42 ⟨"Ballothall$Division", "hasGreaterQuotient", "(III)Z"⟩ ∈ WG := wg_t (wu7 (List.mem_of_getElem? (i := 127) rfl)) rfl
theorem w_1569 : Cond.instanceMethod ⟨"Ballothall$Division", "hasGreaterQuotient", "(III)Z"⟩ ∈ WG := wg_t (wu7 (List.mem_of_getElem? (i := 129) rfl)) rfl
theorem w_1570 : Cond.code ⟨"Ballothall$Division", "hasGreaterQuotient", "(III)Z"⟩ prog_6_method_6_code 8 (some .boolean) ∈ WG := wg_t (wu7 (List.mem_of_getElem? (i := 130) rfl)) rfl
theorem w_1571 : Cond.methodLink "Ballothall$Division" 49 ⟨"Ballothall$Division", "divisor", "(II)J"⟩ ∈ WG := wg_t (wu7 (List.mem_of_getElem? (i := 131) rfl)) rfl
theorem w_1573 : Cond.instanceMethod ⟨"Ballothall$Division", "divisor", "(II)J"⟩ ∈ WG := wg_t (wu7 (List.mem_of_getElem? (i := 133) rfl)) rfl
theorem w_1574 : Cond.code ⟨"Ballothall$Division", "divisor", "(II)J"⟩ prog_6_method_8_code 3 (some .long) ∈ WG := wg_t (wu7 (List.mem_of_getElem? (i := 134) rfl)) rfl
theorem w_1575 : Cond.constantLong "Ballothall$Division" 57 14 ∈ WG := wg_t (wu7 (List.mem_of_getElem? (i := 135) rfl)) rfl
theorem w_1576 : Cond.methodLink "Ballothall$Lists" 70 ⟨"java/util/Arrays", "fill", "([II)V"⟩ ∈ WG := wg_t (wu7 (List.mem_of_getElem? (i := 136) rfl)) rfl
theorem w_1577 : Cond.methodLink "Ballothall$Lists" 85 ⟨"Ballothall$Lists", "spreadInside", "(III)V"⟩ ∈ WG := wg_t (wu7 (List.mem_of_getElem? (i := 137) rfl)) rfl
theorem w_1579 : Cond.instanceMethod ⟨"Ballothall$Lists", "spreadInside", "(III)V"⟩ ∈ WG := wg_t (wu7 (List.mem_of_getElem? (i := 139) rfl)) rfl
theorem w_1580 : Cond.code ⟨"Ballothall$Lists", "spreadInside", "(III)V"⟩ prog_9_method_8_code 5 none ∈ WG := wg_t (wu7 (List.mem_of_getElem? (i := 140) rfl)) rfl
theorem w_1583 : Cond.instanceMethod ⟨"Ballothall$Lists", "keepSpread", "()V"⟩ ∈ WG := wg_t (wu7 (List.mem_of_getElem? (i := 143) rfl)) rfl
theorem w_1584 : Cond.code ⟨"Ballothall$Lists", "keepSpread", "()V"⟩ prog_9_method_9_code 2 none ∈ WG := wg_t (wu7 (List.mem_of_getElem? (i := 144) rfl)) rfl
theorem w_1585 : Cond.methodLink "Ballothall$Lists" 102 ⟨"java/lang/Math", "min", "(II)I"⟩ ∈ WG := wg_t (wu7 (List.mem_of_getElem? (i := 145) rfl)) rfl
theorem w_1586 : Cond.methodLink "Ballothall$Lists" 117 ⟨"java/lang/System", "arraycopy", "(Ljava/lang/Object;ILjava/lang/Object;II)V"⟩ ∈ WG := wg_t (wu7 (List.mem_of_getElem? (i := 146) rfl)) rfl
theorem w_1587 : Cond.methodLink "BallothallLaw" 186 ⟨"Ballothall", "seatsOf", "(I)I"⟩ ∈ WG := wg_t (wu7 (List.mem_of_getElem? (i := 147) rfl)) rfl
theorem w_1588 : Cond.instanceMethod ⟨"Ballothall", "seatsOf", "(I)I"⟩ ∈ WG := wg_t (wu7 (List.mem_of_getElem? (i := 148) rfl)) rfl
theorem w_1589 : Cond.selects "Ballothall" ⟨"Ballothall", "seatsOf", "(I)I"⟩ ⟨"Ballothall", "seatsOf", "(I)I"⟩ ∈ WG := wg_t (wu7 (List.mem_of_getElem? (i := 149) rfl)) rfl
theorem w_1590 : Cond.code ⟨"Ballothall", "seatsOf", "(I)I"⟩ prog_1_method_14_code 2 (some .int) ∈ WG := wg_t (wu7 (List.mem_of_getElem? (i := 150) rfl)) rfl
theorem w_1592 : Cond.methodLink "BallothallLaw" 189 ⟨"BallothallLaw", "divisor", "(II)I"⟩ ∈ WG := wg_t (wu7 (List.mem_of_getElem? (i := 152) rfl)) rfl
theorem w_1593 : Cond.static ⟨"BallothallLaw", "divisor", "(II)I"⟩ ∈ WG := wg_t (wu7 (List.mem_of_getElem? (i := 153) rfl)) rfl
theorem w_1594 : Cond.code ⟨"BallothallLaw", "divisor", "(II)I"⟩ method_10_code 2 (some .int) ∈ WG := wg_t (wu7 (List.mem_of_getElem? (i := 154) rfl)) rfl
theorem w_1595 : Cond.methodLink "BallothallLaw" 192 ⟨"Ballothall", "seatAt", "(I)I"⟩ ∈ WG := wg_t (wu7 (List.mem_of_getElem? (i := 155) rfl)) rfl
theorem w_1596 : Cond.instanceMethod ⟨"Ballothall", "seatAt", "(I)I"⟩ ∈ WG := wg_t (wu7 (List.mem_of_getElem? (i := 156) rfl)) rfl
theorem w_1597 : Cond.selects "Ballothall" ⟨"Ballothall", "seatAt", "(I)I"⟩ ⟨"Ballothall", "seatAt", "(I)I"⟩ ∈ WG := wg_t (wu7 (List.mem_of_getElem? (i := 157) rfl)) rfl
theorem w_1598 : Cond.code ⟨"Ballothall", "seatAt", "(I)I"⟩ prog_1_method_15_code 3 (some .int) ∈ WG := wg_t (wu7 (List.mem_of_getElem? (i := 158) rfl)) rfl
theorem w_1599 : Cond.methodLink "BallothallLaw" 195 ⟨"Ballothall", "ally", "(II)I"⟩ ∈ WG := wg_t (wu7 (List.mem_of_getElem? (i := 159) rfl)) rfl
theorem w_1600 : Cond.instanceMethod ⟨"Ballothall", "ally", "(II)I"⟩ ∈ WG := wg_t (wu7 (List.mem_of_getElem? (i := 160) rfl)) rfl
theorem w_1601 : Cond.selects "Ballothall" ⟨"Ballothall", "ally", "(II)I"⟩ ⟨"Ballothall", "ally", "(II)I"⟩ ∈ WG := wg_t (wu7 (List.mem_of_getElem? (i := 161) rfl)) rfl
theorem w_1602 : Cond.code ⟨"Ballothall", "ally", "(II)I"⟩ prog_1_method_12_code 4 (some .int) ∈ WG := wg_t (wu7 (List.mem_of_getElem? (i := 162) rfl)) rfl
theorem w_1603 : Cond.methodLink "BallothallLaw" 253 ⟨"BallothallLaw", "districts", "([I)Z"⟩ ∈ WG := wg_t (wu7 (List.mem_of_getElem? (i := 163) rfl)) rfl
theorem w_1604 : Cond.static ⟨"BallothallLaw", "districts", "([I)Z"⟩ ∈ WG := wg_t (wu7 (List.mem_of_getElem? (i := 164) rfl)) rfl
theorem w_1605 : Cond.code ⟨"BallothallLaw", "districts", "([I)Z"⟩ method_12_code 13 (some .boolean) ∈ WG := wg_t (wu7 (List.mem_of_getElem? (i := 165) rfl)) rfl
theorem w_1606 : Cond.methodLink "BallothallLaw" 201 ⟨"Ballothall", "ward", "(III)I"⟩ ∈ WG := wg_t (wu7 (List.mem_of_getElem? (i := 166) rfl)) rfl
theorem w_1607 : Cond.instanceMethod ⟨"Ballothall", "ward", "(III)I"⟩ ∈ WG := wg_t (wu7 (List.mem_of_getElem? (i := 167) rfl)) rfl
theorem w_1608 : Cond.selects "Ballothall" ⟨"Ballothall", "ward", "(III)I"⟩ ⟨"Ballothall", "ward", "(III)I"⟩ ∈ WG := wg_t (wu7 (List.mem_of_getElem? (i := 168) rfl)) rfl
theorem w_1609 : Cond.code ⟨"Ballothall", "ward", "(III)I"⟩ prog_1_method_41_code 5 (some .int) ∈ WG := wg_t (wu7 (List.mem_of_getElem? (i := 169) rfl)) rfl
theorem w_1612 : Cond.instanceMethod ⟨"Ballothall$Wards", "append", "(III)I"⟩ ∈ WG := wg_t (wu7 (List.mem_of_getElem? (i := 172) rfl)) rfl
theorem w_1613 : Cond.code ⟨"Ballothall$Wards", "append", "(III)I"⟩ prog_12_method_2_code 5 (some .int) ∈ WG := wg_t (wu7 (List.mem_of_getElem? (i := 173) rfl)) rfl
theorem w_1614 : Cond.methodLink "BallothallLaw" 204 ⟨"Ballothall", "greatestDistrict", "(I)I"⟩ ∈ WG := wg_t (wu7 (List.mem_of_getElem? (i := 174) rfl)) rfl
theorem w_1615 : Cond.instanceMethod ⟨"Ballothall", "greatestDistrict", "(I)I"⟩ ∈ WG := wg_t (wu7 (List.mem_of_getElem? (i := 175) rfl)) rfl
theorem w_1616 : Cond.selects "Ballothall" ⟨"Ballothall", "greatestDistrict", "(I)I"⟩ ⟨"Ballothall", "greatestDistrict", "(I)I"⟩ ∈ WG := wg_t (wu7 (List.mem_of_getElem? (i := 176) rfl)) rfl
theorem w_1617 : Cond.code ⟨"Ballothall", "greatestDistrict", "(I)I"⟩ prog_1_method_42_code 2 (some .int) ∈ WG := wg_t (wu7 (List.mem_of_getElem? (i := 177) rfl)) rfl
theorem w_1620 : Cond.instanceMethod ⟨"Ballothall$Wards", "divide", "(I)I"⟩ ∈ WG := wg_t (wu7 (List.mem_of_getElem? (i := 180) rfl)) rfl
theorem w_1621 : Cond.code ⟨"Ballothall$Wards", "divide", "(I)I"⟩ prog_12_method_3_code 5 (some .int) ∈ WG := wg_t (wu7 (List.mem_of_getElem? (i := 181) rfl)) rfl
theorem w_1622 : Cond.methodLink "Ballothall$Wards" 30 ⟨"Ballothall$Wards", "greatestOf", "(II)I"⟩ ∈ WG := wg_t (wu7 (List.mem_of_getElem? (i := 182) rfl)) rfl
theorem w_1624 : Cond.instanceMethod ⟨"Ballothall$Wards", "greatestOf", "(II)I"⟩ ∈ WG := wg_t (wu7 (List.mem_of_getElem? (i := 184) rfl)) rfl
theorem w_1625 : Cond.code ⟨"Ballothall$Wards", "greatestOf", "(II)I"⟩ prog_12_method_4_code 6 (some .int) ∈ WG := wg_t (wu7 (List.mem_of_getElem? (i := 185) rfl)) rfl
theorem w_1626 : Cond.constant "Ballothall$Wards" 38 1600001 ∈ WG := wg_t (wu7 (List.mem_of_getElem? (i := 186) rfl)) rfl
theorem w_1627 : Cond.methodLink "Ballothall$Wards" 39 ⟨"Ballothall$Wards", "greatestBehind", "(II)I"⟩ ∈ WG := wg_t (wu7 (List.mem_of_getElem? (i := 187) rfl)) rfl
theorem w_1629 : Cond.instanceMethod ⟨"Ballothall$Wards", "greatestBehind", "(II)I"⟩ ∈ WG := wg_t (wu7 (List.mem_of_getElem? (i := 189) rfl)) rfl
theorem w_1630 : Cond.code ⟨"Ballothall$Wards", "greatestBehind", "(II)I"⟩ prog_12_method_5_code 3 (some .int) ∈ WG := wg_t (wu7 (List.mem_of_getElem? (i := 190) rfl)) rfl
theorem w_1631 : Cond.methodLink "Ballothall$Wards" 42 ⟨"java/lang/Math", "max", "(II)I"⟩ ∈ WG := wg_t (wu7 (List.mem_of_getElem? (i := 191) rfl)) rfl
theorem w_1632 : Cond.methodLink "Ballothall$Wards" 47 ⟨"java/lang/Math", "min", "(II)I"⟩ ∈ WG := wg_t (wu7 (List.mem_of_getElem? (i := 192) rfl)) rfl
theorem w_1633 : Cond.methodLink "Ballothall$Wards" 34 ⟨"Ballothall$Wards", "firstEnd", "(III)I"⟩ ∈ WG := wg_t (wu7 (List.mem_of_getElem? (i := 193) rfl)) rfl
theorem w_1635 : Cond.instanceMethod ⟨"Ballothall$Wards", "firstEnd", "(III)I"⟩ ∈ WG := wg_t (wu7 (List.mem_of_getElem? (i := 195) rfl)) rfl
theorem w_1636 : Cond.code ⟨"Ballothall$Wards", "firstEnd", "(III)I"⟩ prog_12_method_6_code 5 (some .int) ∈ WG := wg_t (wu7 (List.mem_of_getElem? (i := 196) rfl)) rfl
theorem w_1637 : Cond.methodLink "BallothallLaw" 207 ⟨"Ballothall", "districtEnd", "(II)I"⟩ ∈ WG := wg_t (wu7 (List.mem_of_getElem? (i := 197) rfl)) rfl
theorem w_1638 : Cond.instanceMethod ⟨"Ballothall", "districtEnd", "(II)I"⟩ ∈ WG := wg_t (wu7 (List.mem_of_getElem? (i := 198) rfl)) rfl
theorem w_1639 : Cond.selects "Ballothall" ⟨"Ballothall", "districtEnd", "(II)I"⟩ ⟨"Ballothall", "districtEnd", "(II)I"⟩ ∈ WG := wg_t (wu7 (List.mem_of_getElem? (i := 199) rfl)) rfl
theorem w_1640 : Cond.code ⟨"Ballothall", "districtEnd", "(II)I"⟩ prog_1_method_43_code 3 (some .int) ∈ WG := wg_t (wu7 (List.mem_of_getElem? (i := 200) rfl)) rfl
theorem w_1641 : Cond.methodLink "BallothallLaw" 210 ⟨"Ballothall", "districtsWon", "(II)I"⟩ ∈ WG := wg_t (wu7 (List.mem_of_getElem? (i := 201) rfl)) rfl
theorem w_1642 : Cond.instanceMethod ⟨"Ballothall", "districtsWon", "(II)I"⟩ ∈ WG := wg_t (wu7 (List.mem_of_getElem? (i := 202) rfl)) rfl
theorem w_1643 : Cond.selects "Ballothall" ⟨"Ballothall", "districtsWon", "(II)I"⟩ ⟨"Ballothall", "districtsWon", "(II)I"⟩ ∈ WG := wg_t (wu7 (List.mem_of_getElem? (i := 203) rfl)) rfl
theorem w_1644 : Cond.code ⟨"Ballothall", "districtsWon", "(II)I"⟩ prog_1_method_44_code 5 (some .int) ∈ WG := wg_t (wu7 (List.mem_of_getElem? (i := 204) rfl)) rfl
theorem w_1647 : Cond.instanceMethod ⟨"Ballothall$Wards", "votesIn", "(II)I"⟩ ∈ WG := wg_t (wu7 (List.mem_of_getElem? (i := 207) rfl)) rfl
theorem w_1648 : Cond.code ⟨"Ballothall$Wards", "votesIn", "(II)I"⟩ prog_12_method_7_code 5 (some .int) ∈ WG := wg_t (wu7 (List.mem_of_getElem? (i := 208) rfl)) rfl
theorem w_1649 : Cond.methodLink "BallothallLaw" 213 ⟨"Ballothall", "wasted", "(II)I"⟩ ∈ WG := wg_t (wu7 (List.mem_of_getElem? (i := 209) rfl)) rfl
theorem w_1650 : Cond.instanceMethod ⟨"Ballothall", "wasted", "(II)I"⟩ ∈ WG := wg_t (wu7 (List.mem_of_getElem? (i := 210) rfl)) rfl
theorem w_1651 : Cond.selects "Ballothall" ⟨"Ballothall", "wasted", "(II)I"⟩ ⟨"Ballothall", "wasted", "(II)I"⟩ ∈ WG := wg_t (wu7 (List.mem_of_getElem? (i := 211) rfl)) rfl
theorem w_1652 : Cond.code ⟨"Ballothall", "wasted", "(II)I"⟩ prog_1_method_45_code 7 (some .int) ∈ WG := wg_t (wu7 (List.mem_of_getElem? (i := 212) rfl)) rfl
theorem w_1653 : Cond.methodLink "BallothallLaw" 256 ⟨"BallothallLaw", "council", "([I)Z"⟩ ∈ WG := wg_t (wu7 (List.mem_of_getElem? (i := 213) rfl)) rfl
theorem w_1654 : Cond.static ⟨"BallothallLaw", "council", "([I)Z"⟩ ∈ WG := wg_t (wu7 (List.mem_of_getElem? (i := 214) rfl)) rfl
theorem w_1655 : Cond.code ⟨"BallothallLaw", "council", "([I)Z"⟩ method_13_code 17 (some .boolean) ∈ WG := wg_t (wu7 (List.mem_of_getElem? (i := 215) rfl)) rfl
theorem w_1656 : Cond.methodLink "BallothallLaw" 216 ⟨"Ballothall", "member", "(I)I"⟩ ∈ WG := wg_t (wu7 (List.mem_of_getElem? (i := 216) rfl)) rfl
theorem w_1657 : Cond.instanceMethod ⟨"Ballothall", "member", "(I)I"⟩ ∈ WG := wg_t (wu7 (List.mem_of_getElem? (i := 217) rfl)) rfl
theorem w_1658 : Cond.selects "Ballothall" ⟨"Ballothall", "member", "(I)I"⟩ ⟨"Ballothall", "member", "(I)I"⟩ ∈ WG := wg_t (wu7 (List.mem_of_getElem? (i := 218) rfl)) rfl
theorem w_1659 : Cond.code ⟨"Ballothall", "member", "(I)I"⟩ prog_1_method_46_code 3 (some .int) ∈ WG := wg_t (wu7 (List.mem_of_getElem? (i := 219) rfl)) rfl
theorem w_1662 : Cond.instanceMethod ⟨"Ballothall$Council", "append", "(I)I"⟩ ∈ WG := wg_t (wu7 (List.mem_of_getElem? (i := 222) rfl)) rfl
theorem w_1663 : Cond.code ⟨"Ballothall$Council", "append", "(I)I"⟩ prog_3_method_2_code 3 (some .int) ∈ WG := wg_t (wu7 (List.mem_of_getElem? (i := 223) rfl)) rfl
theorem w_1664 : Cond.methodLink "BallothallLaw" 219 ⟨"Ballothall", "setQuota", "(I)I"⟩ ∈ WG := wg_t (wu7 (List.mem_of_getElem? (i := 224) rfl)) rfl
theorem w_1665 : Cond.instanceMethod ⟨"Ballothall", "setQuota", "(I)I"⟩ ∈ WG := wg_t (wu7 (List.mem_of_getElem? (i := 225) rfl)) rfl
theorem w_1666 : Cond.selects "Ballothall" ⟨"Ballothall", "setQuota", "(I)I"⟩ ⟨"Ballothall", "setQuota", "(I)I"⟩ ∈ WG := wg_t (wu7 (List.mem_of_getElem? (i := 226) rfl)) rfl
theorem w_1667 : Cond.code ⟨"Ballothall", "setQuota", "(I)I"⟩ prog_1_method_47_code 3 (some .int) ∈ WG := wg_t (wu7 (List.mem_of_getElem? (i := 227) rfl)) rfl
theorem w_1668 : Cond.methodLink "BallothallLaw" 222 ⟨"Ballothall", "ordersTurned", "(I)J"⟩ ∈ WG := wg_t (wu7 (List.mem_of_getElem? (i := 228) rfl)) rfl
theorem w_1669 : Cond.instanceMethod ⟨"Ballothall", "ordersTurned", "(I)J"⟩ ∈ WG := wg_t (wu7 (List.mem_of_getElem? (i := 229) rfl)) rfl
theorem w_1670 : Cond.selects "Ballothall" ⟨"Ballothall", "ordersTurned", "(I)J"⟩ ⟨"Ballothall", "ordersTurned", "(I)J"⟩ ∈ WG := wg_t (wu7 (List.mem_of_getElem? (i := 230) rfl)) rfl
theorem w_1671 : Cond.code ⟨"Ballothall", "ordersTurned", "(I)J"⟩ prog_1_method_49_code 2 (some .long) ∈ WG := wg_t (wu7 (List.mem_of_getElem? (i := 231) rfl)) rfl
theorem w_1674 : Cond.methodLink "BallothallLaw" 226 ⟨"Ballothall", "swings", "(I)I"⟩ ∈ WG := wg_t (wu7 (List.mem_of_getElem? (i := 234) rfl)) rfl
theorem w_1675 : Cond.instanceMethod ⟨"Ballothall", "swings", "(I)I"⟩ ∈ WG := wg_t (wu7 (List.mem_of_getElem? (i := 235) rfl)) rfl
theorem w_1676 : Cond.selects "Ballothall" ⟨"Ballothall", "swings", "(I)I"⟩ ⟨"Ballothall", "swings", "(I)I"⟩ ∈ WG := wg_t (wu7 (List.mem_of_getElem? (i := 236) rfl)) rfl
theorem w_1677 : Cond.code ⟨"Ballothall", "swings", "(I)I"⟩ prog_1_method_48_code 2 (some .int) ∈ WG := wg_t (wu7 (List.mem_of_getElem? (i := 237) rfl)) rfl
theorem w_1680 : Cond.instanceMethod ⟨"Ballothall$Council", "setsSwungBy", "(I)I"⟩ ∈ WG := wg_t (wu8 (List.mem_of_getElem? (i := 0) rfl)) rfl
theorem w_1681 : Cond.code ⟨"Ballothall$Council", "setsSwungBy", "(I)I"⟩ prog_3_method_5_code 4 (some .int) ∈ WG := wg_t (wu8 (List.mem_of_getElem? (i := 1) rfl)) rfl
theorem w_1683 : Cond.sameMethod "java/lang/AbstractStringBuilder" "java/lang/AbstractStringBuilder" "append" "(C)Ljava/lang/AbstractStringBuilder;" ∈ WG := wg_t (wu8 (List.mem_of_getElem? (i := 3) rfl)) rfl
theorem w_1687 : Cond.sameMethod "java/lang/AbstractStringBuilder" "java/lang/AbstractStringBuilder" "append" "(Ljava/lang/String;)Ljava/lang/AbstractStringBuilder;" ∈ WG := wg_t (wu8 (List.mem_of_getElem? (i := 7) rfl)) rfl
theorem w_s_030e9c : Cond.selects "Ballothall$Division" ⟨"Ballothall$Division", "clear", "()V"⟩ ⟨"Ballothall$Division", "clear", "()V"⟩ ∈ WG := wg_s (List.mem_map.mpr ⟨_, wp7 (List.mem_of_getElem? (i := 3) rfl), rfl⟩) rfl
theorem w_s_0765de : Cond.selects "Ballothall$Poll" ⟨"Ballothall$Poll", "bestBy", "(I)I"⟩ ⟨"Ballothall$Poll", "bestBy", "(I)I"⟩ ∈ WG := wg_s (List.mem_map.mpr ⟨_, wp6 (List.mem_of_getElem? (i := 1) rfl), rfl⟩) rfl
theorem w_s_0b6f71 : Cond.selects "Ballothall$BallotBox" ⟨"Ballothall$BallotBox", "findSupport", "([III)V"⟩ ⟨"Ballothall$BallotBox", "findSupport", "([III)V"⟩ ∈ WG := wg_s (List.mem_map.mpr ⟨_, wp2 (List.mem_of_getElem? (i := 2) rfl), rfl⟩) rfl
theorem w_s_13b3b8 : Cond.selects "Ballothall$Council" ⟨"Ballothall$Council", "findSums", "()V"⟩ ⟨"Ballothall$Council", "findSums", "()V"⟩ ∈ WG := wg_s (List.mem_map.mpr ⟨_, wp3 (List.mem_of_getElem? (i := 7) rfl), rfl⟩) rfl
theorem w_s_191f81 : Cond.selects "Ballothall$Lists" ⟨"Ballothall$Lists", "isSameUnit", "(II)Z"⟩ ⟨"Ballothall$Lists", "isSameUnit", "(II)Z"⟩ ∈ WG := wg_s (List.mem_map.mpr ⟨_, wp7 (List.mem_of_getElem? (i := 5) rfl), rfl⟩) rfl
theorem w_s_198351 : Cond.selects "Ballothall$Division" ⟨"Ballothall$Division", "append", "(IJI)V"⟩ ⟨"Ballothall$Division", "append", "(IJI)V"⟩ ∈ WG := wg_s (List.mem_map.mpr ⟨_, wp7 (List.mem_of_getElem? (i := 7) rfl), rfl⟩) rfl
theorem w_s_1c537b : Cond.selects "Ballothall$Counting" ⟨"Ballothall$Counting", "isAhead", "(II)Z"⟩ ⟨"Ballothall$Counting", "isAhead", "(II)Z"⟩ ∈ WG := wg_s (List.mem_map.mpr ⟨_, wp4 (List.mem_of_getElem? (i := 10) rfl), rfl⟩) rfl
theorem w_s_1dc2e3 : Cond.selects "Ballothall$Poll" ⟨"Ballothall$Poll", "pointsOf", "(I)J"⟩ ⟨"Ballothall$Poll", "pointsOf", "(I)J"⟩ ∈ WG := wg_s (List.mem_map.mpr ⟨_, wp6 (List.mem_of_getElem? (i := 7) rfl), rfl⟩) rfl
theorem w_s_1f3306 : Cond.selects "Ballothall$Counting" ⟨"Ballothall$Counting", "unbalancedSteps", "(LBallothall$Count;)I"⟩ ⟨"Ballothall$Counting", "unbalancedSteps", "(LBallothall$Count;)I"⟩ ∈ WG := wg_s (List.mem_map.mpr ⟨_, wp1 (List.mem_of_getElem? (i := 8) rfl), rfl⟩) rfl
theorem w_s_1f7b0f : Cond.selects "Ballothall$Natural" ⟨"Ballothall$Natural", "divide", "(LBallothall$Natural;LBallothall$Natural;LBallothall$Natural;)V"⟩ ⟨"Ballothall$Natural", "divide", "(LBallothall$Natural;LBallothall$Natural;LBallothall$Natural;)V"⟩ ∈ WG := wg_s (List.mem_map.mpr ⟨_, wp5 (List.mem_of_getElem? (i := 4) rfl), rfl⟩) rfl
theorem w_s_1f7bc1 : Cond.selects "Ballothall$Counting" ⟨"Ballothall$Counting", "loadPile", "(LBallothall$Count;II)V"⟩ ⟨"Ballothall$Counting", "loadPile", "(LBallothall$Count;II)V"⟩ ∈ WG := wg_s (List.mem_map.mpr ⟨_, wp1 (List.mem_of_getElem? (i := 10) rfl), rfl⟩) rfl
theorem w_s_21c489 : Cond.selects "Ballothall$Natural" ⟨"Ballothall$Natural", "limbAt", "(I)I"⟩ ⟨"Ballothall$Natural", "limbAt", "(I)I"⟩ ∈ WG := wg_s (List.mem_map.mpr ⟨_, wp1 (List.mem_of_getElem? (i := 15) rfl), rfl⟩) rfl
theorem w_s_226bdf : Cond.selects "Ballothall$Poll" ⟨"Ballothall$Poll", "changePairs", "(III)V"⟩ ⟨"Ballothall$Poll", "changePairs", "(III)V"⟩ ∈ WG := wg_s (List.mem_map.mpr ⟨_, wp2 (List.mem_of_getElem? (i := 9) rfl), rfl⟩) rfl
theorem w_s_229dc4 : Cond.selects "Ballothall$Poll" ⟨"Ballothall$Poll", "open", "(I)V"⟩ ⟨"Ballothall$Poll", "open", "(I)V"⟩ ∈ WG := wg_s (List.mem_map.mpr ⟨_, wp2 (List.mem_of_getElem? (i := 5) rfl), rfl⟩) rfl
theorem w_s_24c8d7 : Cond.selects "Ballothall$Poll" ⟨"Ballothall$Poll", "findScores", "(I)V"⟩ ⟨"Ballothall$Poll", "findScores", "(I)V"⟩ ∈ WG := wg_s (List.mem_map.mpr ⟨_, wp6 (List.mem_of_getElem? (i := 6) rfl), rfl⟩) rfl
theorem w_s_2dcc45 : Cond.selects "Ballothall$Natural" ⟨"Ballothall$Natural", "subtractMultiple", "(LBallothall$Natural;IJ)J"⟩ ⟨"Ballothall$Natural", "subtractMultiple", "(LBallothall$Natural;IJ)J"⟩ ∈ WG := wg_s (List.mem_map.mpr ⟨_, wp5 (List.mem_of_getElem? (i := 6) rfl), rfl⟩) rfl
theorem w_s_2e2987 : Cond.selects "Ballothall$Wards" ⟨"Ballothall$Wards", "firstEnd", "(III)I"⟩ ⟨"Ballothall$Wards", "firstEnd", "(III)I"⟩ ∈ WG := wg_s (List.mem_map.mpr ⟨_, wp8 (List.mem_of_getElem? (i := 5) rfl), rfl⟩) rfl
theorem w_s_2ec4e5 : Cond.selects "Ballothall" ⟨"Ballothall", "isBeaterOfAllMissed", "()Z"⟩ ⟨"Ballothall", "isBeaterOfAllMissed", "()Z"⟩ ∈ WG := wg_s (List.mem_map.mpr ⟨_, wp2 (List.mem_of_getElem? (i := 3) rfl), rfl⟩) rfl
theorem w_s_2f4554 : Cond.selects "Ballothall$BallotBox" ⟨"Ballothall$BallotBox", "keepTrial", "()I"⟩ ⟨"Ballothall$BallotBox", "keepTrial", "()I"⟩ ∈ WG := wg_s (List.mem_map.mpr ⟨_, wp4 (List.mem_of_getElem? (i := 0) rfl), rfl⟩) rfl
theorem w_s_300997 : Cond.selects "Ballothall$Poll" ⟨"Ballothall$Poll", "smallestBeatingSet", "()I"⟩ ⟨"Ballothall$Poll", "smallestBeatingSet", "()I"⟩ ∈ WG := wg_s (List.mem_map.mpr ⟨_, wp5 (List.mem_of_getElem? (i := 13) rfl), rfl⟩) rfl
theorem w_s_37d15a : Cond.selects "Ballothall$Natural" ⟨"Ballothall$Natural", "load", "([II)V"⟩ ⟨"Ballothall$Natural", "load", "([II)V"⟩ ∈ WG := wg_s (List.mem_map.mpr ⟨_, wp1 (List.mem_of_getElem? (i := 12) rfl), rfl⟩) rfl
theorem w_s_391181 : Cond.selects "Ballothall$Counting" ⟨"Ballothall$Counting", "takeStep", "(LBallothall$Count;II)Z"⟩ ⟨"Ballothall$Counting", "takeStep", "(LBallothall$Count;II)Z"⟩ ∈ WG := wg_s (List.mem_map.mpr ⟨_, wp4 (List.mem_of_getElem? (i := 12) rfl), rfl⟩) rfl
theorem w_s_393b57 : Cond.selects "Ballothall$Counting" ⟨"Ballothall$Counting", "reduce", "()V"⟩ ⟨"Ballothall$Counting", "reduce", "()V"⟩ ∈ WG := wg_s (List.mem_map.mpr ⟨_, wp5 (List.mem_of_getElem? (i := 3) rfl), rfl⟩) rfl
theorem w_s_3a49be : Cond.selects "Ballothall$Poll" ⟨"Ballothall$Poll", "beats", "(II)Z"⟩ ⟨"Ballothall$Poll", "beats", "(II)Z"⟩ ∈ WG := wg_s (List.mem_map.mpr ⟨_, wp2 (List.mem_of_getElem? (i := 12) rfl), rfl⟩) rfl
theorem w_s_3c522a : Cond.selects "Ballothall$Counting" ⟨"Ballothall$Counting", "exclude", "(LBallothall$Count;I)V"⟩ ⟨"Ballothall$Counting", "exclude", "(LBallothall$Count;I)V"⟩ ∈ WG := wg_s (List.mem_map.mpr ⟨_, wp5 (List.mem_of_getElem? (i := 0) rfl), rfl⟩) rfl
theorem w_s_3d0b7a : Cond.selects "Ballothall$Natural" ⟨"Ballothall$Natural", "isOne", "()Z"⟩ ⟨"Ballothall$Natural", "isOne", "()Z"⟩ ∈ WG := wg_s (List.mem_map.mpr ⟨_, wp5 (List.mem_of_getElem? (i := 7) rfl), rfl⟩) rfl
theorem w_s_3d2a4d : Cond.selects "Ballothall$Poll" ⟨"Ballothall$Poll", "findPaths", "()V"⟩ ⟨"Ballothall$Poll", "findPaths", "()V"⟩ ∈ WG := wg_s (List.mem_map.mpr ⟨_, wp3 (List.mem_of_getElem? (i := 1) rfl), rfl⟩) rfl
theorem w_s_3e9bc1 : Cond.selects "Ballothall$Division" ⟨"Ballothall$Division", "distributeByRemainders", "(I)V"⟩ ⟨"Ballothall$Division", "distributeByRemainders", "(I)V"⟩ ∈ WG := wg_s (List.mem_map.mpr ⟨_, wp7 (List.mem_of_getElem? (i := 9) rfl), rfl⟩) rfl
theorem w_s_3f5817 : Cond.selects "Ballothall$Wards" ⟨"Ballothall$Wards", "greatestOf", "(II)I"⟩ ⟨"Ballothall$Wards", "greatestOf", "(II)I"⟩ ∈ WG := wg_s (List.mem_map.mpr ⟨_, wp8 (List.mem_of_getElem? (i := 3) rfl), rfl⟩) rfl
theorem w_s_404c81 : Cond.selects "Ballothall$Poll" ⟨"Ballothall$Poll", "lastOfRunoff", "()I"⟩ ⟨"Ballothall$Poll", "lastOfRunoff", "()I"⟩ ∈ WG := wg_s (List.mem_map.mpr ⟨_, wp6 (List.mem_of_getElem? (i := 2) rfl), rfl⟩) rfl
theorem w_s_4247c6 : Cond.selects "Ballothall$FalseBallot" ⟨"Ballothall$FalseBallot", "swap", "(II)V"⟩ ⟨"Ballothall$FalseBallot", "swap", "(II)V"⟩ ∈ WG := wg_s (List.mem_map.mpr ⟨_, wp6 (List.mem_of_getElem? (i := 13) rfl), rfl⟩) rfl
theorem w_s_46a037 : Cond.selects "Ballothall" ⟨"Ballothall", "takeChangeBack", "(III)V"⟩ ⟨"Ballothall", "takeChangeBack", "(III)V"⟩ ∈ WG := wg_s (List.mem_map.mpr ⟨_, wp6 (List.mem_of_getElem? (i := 14) rfl), rfl⟩) rfl
theorem w_s_46c41a : Cond.selects "Ballothall$Lists" ⟨"Ballothall$Lists", "latest", "()LBallothall$KeptSeats;"⟩ ⟨"Ballothall$Lists", "latest", "()LBallothall$KeptSeats;"⟩ ∈ WG := wg_s (List.mem_map.mpr ⟨_, wp1 (List.mem_of_getElem? (i := 4) rfl), rfl⟩) rfl
theorem w_s_49da49 : Cond.selects "Ballothall$BallotBox" ⟨"Ballothall$BallotBox", "kindOfTrial", "()I"⟩ ⟨"Ballothall$BallotBox", "kindOfTrial", "()I"⟩ ∈ WG := wg_s (List.mem_map.mpr ⟨_, wp3 (List.mem_of_getElem? (i := 14) rfl), rfl⟩) rfl
theorem w_s_4a352f : Cond.selects "Ballothall$Count" ⟨"Ballothall$Count", "placeOf", "(II)I"⟩ ⟨"Ballothall$Count", "placeOf", "(II)I"⟩ ∈ WG := wg_s (List.mem_map.mpr ⟨_, wp1 (List.mem_of_getElem? (i := 11) rfl), rfl⟩) rfl
theorem w_s_4aec52 : Cond.selects "Ballothall$BallotBox" ⟨"Ballothall$BallotBox", "rankOnTrial", "(IZ)V"⟩ ⟨"Ballothall$BallotBox", "rankOnTrial", "(IZ)V"⟩ ∈ WG := wg_s (List.mem_map.mpr ⟨_, wp3 (List.mem_of_getElem? (i := 13) rfl), rfl⟩) rfl
theorem w_s_4d3fdf : Cond.selects "Ballothall$Poll" ⟨"Ballothall$Poll", "firstOfConsensus", "(I)I"⟩ ⟨"Ballothall$Poll", "firstOfConsensus", "(I)I"⟩ ∈ WG := wg_s (List.mem_map.mpr ⟨_, wp3 (List.mem_of_getElem? (i := 5) rfl), rfl⟩) rfl
theorem w_s_516c18 : Cond.selects "Ballothall$Poll" ⟨"Ballothall$Poll", "beaterOfAll", "()I"⟩ ⟨"Ballothall$Poll", "beaterOfAll", "()I"⟩ ∈ WG := wg_s (List.mem_map.mpr ⟨_, wp2 (List.mem_of_getElem? (i := 10) rfl), rfl⟩) rfl
theorem w_s_51b801 : Cond.selects "Ballothall$BallotBox" ⟨"Ballothall$BallotBox", "isLikeTrial", "(I)Z"⟩ ⟨"Ballothall$BallotBox", "isLikeTrial", "(I)Z"⟩ ∈ WG := wg_s (List.mem_map.mpr ⟨_, wp3 (List.mem_of_getElem? (i := 15) rfl), rfl⟩) rfl
theorem w_s_55265e : Cond.selects "Ballothall$Natural" ⟨"Ballothall$Natural", "takeMultiple", "(LBallothall$Natural;I)I"⟩ ⟨"Ballothall$Natural", "takeMultiple", "(LBallothall$Natural;I)I"⟩ ∈ WG := wg_s (List.mem_map.mpr ⟨_, wp5 (List.mem_of_getElem? (i := 5) rfl), rfl⟩) rfl
theorem w_s_5622d0 : Cond.selects "Ballothall$Counting" ⟨"Ballothall$Counting", "greatestPile", "()I"⟩ ⟨"Ballothall$Counting", "greatestPile", "()I"⟩ ∈ WG := wg_s (List.mem_map.mpr ⟨_, wp4 (List.mem_of_getElem? (i := 9) rfl), rfl⟩) rfl
theorem w_s_568b18 : Cond.selects "Ballothall$Counting" ⟨"Ballothall$Counting", "keepMoment", "(LBallothall$Count;)V"⟩ ⟨"Ballothall$Counting", "keepMoment", "(LBallothall$Count;)V"⟩ ∈ WG := wg_s (List.mem_map.mpr ⟨_, wp4 (List.mem_of_getElem? (i := 7) rfl), rfl⟩) rfl
theorem w_s_5a2a50 : Cond.selects "Ballothall$Natural" ⟨"Ballothall$Natural", "become", "(J)V"⟩ ⟨"Ballothall$Natural", "become", "(J)V"⟩ ∈ WG := wg_s (List.mem_map.mpr ⟨_, wp1 (List.mem_of_getElem? (i := 9) rfl), rfl⟩) rfl
theorem w_s_633945 : Cond.selects "Ballothall$Counting" ⟨"Ballothall$Counting", "holdCount", "(I)I"⟩ ⟨"Ballothall$Counting", "holdCount", "(I)I"⟩ ∈ WG := wg_s (List.mem_map.mpr ⟨_, wp4 (List.mem_of_getElem? (i := 2) rfl), rfl⟩) rfl
theorem w_s_684333 : Cond.selects "Ballothall" ⟨"Ballothall", "appendNumber", "(LBallothall$Natural;)V"⟩ ⟨"Ballothall", "appendNumber", "(LBallothall$Natural;)V"⟩ ∈ WG := wg_s (List.mem_map.mpr ⟨_, wp5 (List.mem_of_getElem? (i := 11) rfl), rfl⟩) rfl
theorem w_s_68a06f : Cond.selects "Ballothall$Natural" ⟨"Ballothall$Natural", "multiply", "(LBallothall$Natural;LBallothall$Natural;)V"⟩ ⟨"Ballothall$Natural", "multiply", "(LBallothall$Natural;LBallothall$Natural;)V"⟩ ∈ WG := wg_s (List.mem_map.mpr ⟨_, wp5 (List.mem_of_getElem? (i := 10) rfl), rfl⟩) rfl
theorem w_s_69df24 : Cond.selects "Ballothall$Counting" ⟨"Ballothall$Counting", "multiplyAll", "(LBallothall$Natural;)V"⟩ ⟨"Ballothall$Counting", "multiplyAll", "(LBallothall$Natural;)V"⟩ ∈ WG := wg_s (List.mem_map.mpr ⟨_, wp5 (List.mem_of_getElem? (i := 8) rfl), rfl⟩) rfl
theorem w_s_6bacc3 : Cond.selects "Ballothall$Counting" ⟨"Ballothall$Counting", "passOn", "(I)V"⟩ ⟨"Ballothall$Counting", "passOn", "(I)V"⟩ ∈ WG := wg_s (List.mem_map.mpr ⟨_, wp4 (List.mem_of_getElem? (i := 5) rfl), rfl⟩) rfl
theorem w_s_6c3bf2 : Cond.selects "Ballothall$Poll" ⟨"Ballothall$Poll", "greatestOf", "(I)I"⟩ ⟨"Ballothall$Poll", "greatestOf", "(I)I"⟩ ∈ WG := wg_s (List.mem_map.mpr ⟨_, wp6 (List.mem_of_getElem? (i := 8) rfl), rfl⟩) rfl
theorem w_s_6c9cb1 : Cond.selects "Ballothall$Division" ⟨"Ballothall$Division", "giveToGreatestRemainder", "()V"⟩ ⟨"Ballothall$Division", "giveToGreatestRemainder", "()V"⟩ ∈ WG := wg_s (List.mem_map.mpr ⟨_, wp7 (List.mem_of_getElem? (i := 11) rfl), rfl⟩) rfl
theorem w_s_6d1705 : Cond.selects "Ballothall$BallotBox" ⟨"Ballothall$BallotBox", "rankOf", "(II)I"⟩ ⟨"Ballothall$BallotBox", "rankOf", "(II)I"⟩ ∈ WG := wg_s (List.mem_map.mpr ⟨_, wp4 (List.mem_of_getElem? (i := 1) rfl), rfl⟩) rfl
theorem w_s_705804 : Cond.selects "Ballothall$Division" ⟨"Ballothall$Division", "hasGreaterQuotient", "(III)Z"⟩ ⟨"Ballothall$Division", "hasGreaterQuotient", "(III)Z"⟩ ∈ WG := wg_s (List.mem_map.mpr ⟨_, wp7 (List.mem_of_getElem? (i := 13) rfl), rfl⟩) rfl
theorem w_s_74d3de : Cond.selects "Ballothall$Division" ⟨"Ballothall$Division", "divisor", "(II)J"⟩ ⟨"Ballothall$Division", "divisor", "(II)J"⟩ ∈ WG := wg_s (List.mem_map.mpr ⟨_, wp7 (List.mem_of_getElem? (i := 14) rfl), rfl⟩) rfl
theorem w_s_776300 : Cond.selects "Ballothall$Poll" ⟨"Ballothall$Poll", "pair", "(II)I"⟩ ⟨"Ballothall$Poll", "pair", "(II)I"⟩ ∈ WG := wg_s (List.mem_map.mpr ⟨_, wp2 (List.mem_of_getElem? (i := 13) rfl), rfl⟩) rfl
theorem w_s_7c0c97 : Cond.selects "Ballothall$Poll" ⟨"Ballothall$Poll", "scoreTopsOf", "(I)V"⟩ ⟨"Ballothall$Poll", "scoreTopsOf", "(I)V"⟩ ∈ WG := wg_s (List.mem_map.mpr ⟨_, wp6 (List.mem_of_getElem? (i := 3) rfl), rfl⟩) rfl
theorem w_s_7c1b22 : Cond.selects "Ballothall$BallotBox" ⟨"Ballothall$BallotBox", "clearTrial", "()V"⟩ ⟨"Ballothall$BallotBox", "clearTrial", "()V"⟩ ∈ WG := wg_s (List.mem_map.mpr ⟨_, wp3 (List.mem_of_getElem? (i := 12) rfl), rfl⟩) rfl
theorem w_s_84fd95 : Cond.selects "Ballothall$Division" ⟨"Ballothall$Division", "winsTie", "(II)Z"⟩ ⟨"Ballothall$Division", "winsTie", "(II)Z"⟩ ∈ WG := wg_s (List.mem_map.mpr ⟨_, wp7 (List.mem_of_getElem? (i := 12) rfl), rfl⟩) rfl
theorem w_s_85fec9 : Cond.selects "Ballothall$BallotBox" ⟨"Ballothall$BallotBox", "winsLot", "(II)Z"⟩ ⟨"Ballothall$BallotBox", "winsLot", "(II)Z"⟩ ∈ WG := wg_s (List.mem_map.mpr ⟨_, wp4 (List.mem_of_getElem? (i := 11) rfl), rfl⟩) rfl
theorem w_s_86d8f3 : Cond.selects "Ballothall$Counting" ⟨"Ballothall$Counting", "smallestPile", "()I"⟩ ⟨"Ballothall$Counting", "smallestPile", "()I"⟩ ∈ WG := wg_s (List.mem_map.mpr ⟨_, wp4 (List.mem_of_getElem? (i := 15) rfl), rfl⟩) rfl
theorem w_s_8750fd : Cond.selects "Ballothall$FalseBallot" ⟨"Ballothall$FalseBallot", "goToNextOrder", "()V"⟩ ⟨"Ballothall$FalseBallot", "goToNextOrder", "()V"⟩ ∈ WG := wg_s (List.mem_map.mpr ⟨_, wp6 (List.mem_of_getElem? (i := 12) rfl), rfl⟩) rfl
theorem w_s_87a59c : Cond.selects "Ballothall$Poll" ⟨"Ballothall$Poll", "winnersByPaths", "()I"⟩ ⟨"Ballothall$Poll", "winnersByPaths", "()I"⟩ ∈ WG := wg_s (List.mem_map.mpr ⟨_, wp3 (List.mem_of_getElem? (i := 0) rfl), rfl⟩) rfl
theorem w_s_897e6a : Cond.selects "Ballothall$FalseBallot" ⟨"Ballothall$FalseBallot", "writeTrial", "()V"⟩ ⟨"Ballothall$FalseBallot", "writeTrial", "()V"⟩ ∈ WG := wg_s (List.mem_map.mpr ⟨_, wp6 (List.mem_of_getElem? (i := 11) rfl), rfl⟩) rfl
theorem w_s_8b8b67 : Cond.selects "Ballothall$BallotBox" ⟨"Ballothall$BallotBox", "everybody", "()I"⟩ ⟨"Ballothall$BallotBox", "everybody", "()I"⟩ ∈ WG := wg_s (List.mem_map.mpr ⟨_, wp2 (List.mem_of_getElem? (i := 4) rfl), rfl⟩) rfl
theorem w_s_8c9b61 : Cond.selects "Ballothall$Natural" ⟨"Ballothall$Natural", "copyFrom", "(LBallothall$Natural;)V"⟩ ⟨"Ballothall$Natural", "copyFrom", "(LBallothall$Natural;)V"⟩ ∈ WG := wg_s (List.mem_map.mpr ⟨_, wp4 (List.mem_of_getElem? (i := 14) rfl), rfl⟩) rfl
theorem w_s_8d192b : Cond.selects "Ballothall$Division" ⟨"Ballothall$Division", "give", "(I)V"⟩ ⟨"Ballothall$Division", "give", "(I)V"⟩ ∈ WG := wg_s (List.mem_map.mpr ⟨_, wp7 (List.mem_of_getElem? (i := 10) rfl), rfl⟩) rfl
theorem w_s_8e50a8 : Cond.selects "Ballothall$FalseBallot" ⟨"Ballothall$FalseBallot", "aheadOf", "(II)I"⟩ ⟨"Ballothall$FalseBallot", "aheadOf", "(II)I"⟩ ∈ WG := wg_s (List.mem_map.mpr ⟨_, wp6 (List.mem_of_getElem? (i := 9) rfl), rfl⟩) rfl
theorem w_s_8e7085 : Cond.selects "Ballothall$Natural" ⟨"Ballothall$Natural", "trimTo", "(I)V"⟩ ⟨"Ballothall$Natural", "trimTo", "(I)V"⟩ ∈ WG := wg_s (List.mem_map.mpr ⟨_, wp1 (List.mem_of_getElem? (i := 13) rfl), rfl⟩) rfl
theorem w_s_8ff029 : Cond.selects "Ballothall" ⟨"Ballothall", "appendByte", "(I)V"⟩ ⟨"Ballothall", "appendByte", "(I)V"⟩ ∈ WG := wg_s (List.mem_map.mpr ⟨_, wp5 (List.mem_of_getElem? (i := 12) rfl), rfl⟩) rfl
theorem w_s_90e319 : Cond.selects "Ballothall$Counting" ⟨"Ballothall$Counting", "elect", "(LBallothall$Count;I)V"⟩ ⟨"Ballothall$Counting", "elect", "(LBallothall$Count;I)V"⟩ ∈ WG := wg_s (List.mem_map.mpr ⟨_, wp4 (List.mem_of_getElem? (i := 13) rfl), rfl⟩) rfl
theorem w_s_93fc6e : Cond.selects "Ballothall$FalseBallot" ⟨"Ballothall$FalseBallot", "findKind", "(I)I"⟩ ⟨"Ballothall$FalseBallot", "findKind", "(I)I"⟩ ∈ WG := wg_s (List.mem_map.mpr ⟨_, wp6 (List.mem_of_getElem? (i := 0) rfl), rfl⟩) rfl
theorem w_s_a1b3b1 : Cond.selects "Ballothall$Poll" ⟨"Ballothall$Poll", "distanceWithFirst", "(II)J"⟩ ⟨"Ballothall$Poll", "distanceWithFirst", "(II)J"⟩ ∈ WG := wg_s (List.mem_map.mpr ⟨_, wp2 (List.mem_of_getElem? (i := 15) rfl), rfl⟩) rfl
theorem w_s_a3b725 : Cond.selects "Ballothall$Lists" ⟨"Ballothall$Lists", "appendUnit", "(IJ)V"⟩ ⟨"Ballothall$Lists", "appendUnit", "(IJ)V"⟩ ∈ WG := wg_s (List.mem_map.mpr ⟨_, wp7 (List.mem_of_getElem? (i := 6) rfl), rfl⟩) rfl
theorem w_s_a51fc7 : Cond.selects "Ballothall$Lists" ⟨"Ballothall$Lists", "isUnjust", "()Z"⟩ ⟨"Ballothall$Lists", "isUnjust", "()Z"⟩ ∈ WG := wg_s (List.mem_map.mpr ⟨_, wp1 (List.mem_of_getElem? (i := 3) rfl), rfl⟩) rfl
theorem w_s_a6a853 : Cond.selects "Ballothall$Counting" ⟨"Ballothall$Counting", "multiply", "(LBallothall$Natural;LBallothall$Natural;)V"⟩ ⟨"Ballothall$Counting", "multiply", "(LBallothall$Natural;LBallothall$Natural;)V"⟩ ∈ WG := wg_s (List.mem_map.mpr ⟨_, wp5 (List.mem_of_getElem? (i := 9) rfl), rfl⟩) rfl
theorem w_s_a85b93 : Cond.selects "Ballothall$Wards" ⟨"Ballothall$Wards", "votesIn", "(II)I"⟩ ⟨"Ballothall$Wards", "votesIn", "(II)I"⟩ ∈ WG := wg_s (List.mem_map.mpr ⟨_, wp8 (List.mem_of_getElem? (i := 6) rfl), rfl⟩) rfl
theorem w_s_aa5e63 : Cond.selects "Ballothall$BallotBox" ⟨"Ballothall$BallotBox", "appendSign", "(I)V"⟩ ⟨"Ballothall$BallotBox", "appendSign", "(I)V"⟩ ∈ WG := wg_s (List.mem_map.mpr ⟨_, wp3 (List.mem_of_getElem? (i := 10) rfl), rfl⟩) rfl
theorem w_s_ad1675 : Cond.selects "Ballothall$Counting" ⟨"Ballothall$Counting", "latest", "()LBallothall$Count;"⟩ ⟨"Ballothall$Counting", "latest", "()LBallothall$Count;"⟩ ∈ WG := wg_s (List.mem_map.mpr ⟨_, wp1 (List.mem_of_getElem? (i := 7) rfl), rfl⟩) rfl
theorem w_s_aea49b : Cond.selects "Ballothall$Lists" ⟨"Ballothall$Lists", "keepSpread", "()V"⟩ ⟨"Ballothall$Lists", "keepSpread", "()V"⟩ ∈ WG := wg_s (List.mem_map.mpr ⟨_, wp8 (List.mem_of_getElem? (i := 0) rfl), rfl⟩) rfl
theorem w_s_aea976 : Cond.selects "Ballothall$Counting" ⟨"Ballothall$Counting", "goBack", "()V"⟩ ⟨"Ballothall$Counting", "goBack", "()V"⟩ ∈ WG := wg_s (List.mem_map.mpr ⟨_, wp6 (List.mem_of_getElem? (i := 15) rfl), rfl⟩) rfl
theorem w_s_af83a0 : Cond.selects "Ballothall$Lists" ⟨"Ballothall$Lists", "isFirstOfUnit", "(I)Z"⟩ ⟨"Ballothall$Lists", "isFirstOfUnit", "(I)Z"⟩ ∈ WG := wg_s (List.mem_map.mpr ⟨_, wp7 (List.mem_of_getElem? (i := 4) rfl), rfl⟩) rfl
theorem w_s_af9e07 : Cond.selects "Ballothall$Wards" ⟨"Ballothall$Wards", "divide", "(I)I"⟩ ⟨"Ballothall$Wards", "divide", "(I)I"⟩ ∈ WG := wg_s (List.mem_map.mpr ⟨_, wp8 (List.mem_of_getElem? (i := 2) rfl), rfl⟩) rfl
theorem w_s_b213f0 : Cond.selects "Ballothall$BallotBox" ⟨"Ballothall$BallotBox", "topOf", "(II)I"⟩ ⟨"Ballothall$BallotBox", "topOf", "(II)I"⟩ ∈ WG := wg_s (List.mem_map.mpr ⟨_, wp2 (List.mem_of_getElem? (i := 8) rfl), rfl⟩) rfl
theorem w_s_b275fa : Cond.selects "Ballothall$Counting" ⟨"Ballothall$Counting", "weightOf", "(II)LBallothall$Natural;"⟩ ⟨"Ballothall$Counting", "weightOf", "(II)LBallothall$Natural;"⟩ ∈ WG := wg_s (List.mem_map.mpr ⟨_, wp4 (List.mem_of_getElem? (i := 4) rfl), rfl⟩) rfl
theorem w_s_b6ce20 : Cond.selects "Ballothall$Council" ⟨"Ballothall$Council", "ordersTurnedBy", "(I)J"⟩ ⟨"Ballothall$Council", "ordersTurnedBy", "(I)J"⟩ ∈ WG := wg_s (List.mem_map.mpr ⟨_, wp3 (List.mem_of_getElem? (i := 8) rfl), rfl⟩) rfl
theorem w_s_b73280 : Cond.selects "Ballothall$Poll" ⟨"Ballothall$Poll", "isBeatingSet", "(I)Z"⟩ ⟨"Ballothall$Poll", "isBeatingSet", "(I)Z"⟩ ∈ WG := wg_s (List.mem_map.mpr ⟨_, wp5 (List.mem_of_getElem? (i := 14) rfl), rfl⟩) rfl
theorem w_s_b783c0 : Cond.selects "Ballothall$Natural" ⟨"Ballothall$Natural", "divideSmall", "(I)I"⟩ ⟨"Ballothall$Natural", "divideSmall", "(I)I"⟩ ∈ WG := wg_s (List.mem_map.mpr ⟨_, wp4 (List.mem_of_getElem? (i := 6) rfl), rfl⟩) rfl
theorem w_s_b872b3 : Cond.selects "Ballothall" ⟨"Ballothall", "remember", "(III)V"⟩ ⟨"Ballothall", "remember", "(III)V"⟩ ∈ WG := wg_s (List.mem_map.mpr ⟨_, wp1 (List.mem_of_getElem? (i := 1) rfl), rfl⟩) rfl
theorem w_s_b9deda : Cond.selects "Ballothall$Poll" ⟨"Ballothall$Poll", "bestByLot", "(I)I"⟩ ⟨"Ballothall$Poll", "bestByLot", "(I)I"⟩ ∈ WG := wg_s (List.mem_map.mpr ⟨_, wp6 (List.mem_of_getElem? (i := 5) rfl), rfl⟩) rfl
theorem w_s_bfc401 : Cond.selects "Ballothall" ⟨"Ballothall", "needFewCandidates", "()V"⟩ ⟨"Ballothall", "needFewCandidates", "()V"⟩ ∈ WG := wg_s (List.mem_map.mpr ⟨_, wp5 (List.mem_of_getElem? (i := 15) rfl), rfl⟩) rfl
theorem w_s_c26e58 : Cond.selects "Ballothall$FalseBallot" ⟨"Ballothall$FalseBallot", "findOrder", "(II)Z"⟩ ⟨"Ballothall$FalseBallot", "findOrder", "(II)Z"⟩ ∈ WG := wg_s (List.mem_map.mpr ⟨_, wp6 (List.mem_of_getElem? (i := 10) rfl), rfl⟩) rfl
theorem w_s_c4bf49 : Cond.selects "Ballothall$Wards" ⟨"Ballothall$Wards", "append", "(III)I"⟩ ⟨"Ballothall$Wards", "append", "(III)I"⟩ ∈ WG := wg_s (List.mem_map.mpr ⟨_, wp8 (List.mem_of_getElem? (i := 1) rfl), rfl⟩) rfl
theorem w_s_c7eea3 : Cond.selects "Ballothall$Natural" ⟨"Ballothall$Natural", "compareWith", "(LBallothall$Natural;)I"⟩ ⟨"Ballothall$Natural", "compareWith", "(LBallothall$Natural;)I"⟩ ∈ WG := wg_s (List.mem_map.mpr ⟨_, wp2 (List.mem_of_getElem? (i := 1) rfl), rfl⟩) rfl
theorem w_s_c92924 : Cond.selects "Ballothall$Lists" ⟨"Ballothall$Lists", "spreadInside", "(III)V"⟩ ⟨"Ballothall$Lists", "spreadInside", "(III)V"⟩ ∈ WG := wg_s (List.mem_map.mpr ⟨_, wp7 (List.mem_of_getElem? (i := 15) rfl), rfl⟩) rfl
theorem w_s_cb37ef : Cond.selects "Ballothall$Poll" ⟨"Ballothall$Poll", "consensusPlace", "(I)I"⟩ ⟨"Ballothall$Poll", "consensusPlace", "(I)I"⟩ ∈ WG := wg_s (List.mem_map.mpr ⟨_, wp3 (List.mem_of_getElem? (i := 4) rfl), rfl⟩) rfl
theorem w_s_cb71bb : Cond.selects "Ballothall$Division" ⟨"Ballothall$Division", "distribute", "(II)V"⟩ ⟨"Ballothall$Division", "distribute", "(II)V"⟩ ∈ WG := wg_s (List.mem_map.mpr ⟨_, wp7 (List.mem_of_getElem? (i := 8) rfl), rfl⟩) rfl
theorem w_s_cd90bd : Cond.selects "Ballothall$Council" ⟨"Ballothall$Council", "setsSwungBy", "(I)I"⟩ ⟨"Ballothall$Council", "setsSwungBy", "(I)I"⟩ ∈ WG := wg_s (List.mem_map.mpr ⟨_, wp8 (List.mem_of_getElem? (i := 8) rfl), rfl⟩) rfl
theorem w_s_ce08ed : Cond.selects "Ballothall$Council" ⟨"Ballothall$Council", "isSwung", "(II)Z"⟩ ⟨"Ballothall$Council", "isSwung", "(II)Z"⟩ ∈ WG := wg_s (List.mem_map.mpr ⟨_, wp3 (List.mem_of_getElem? (i := 9) rfl), rfl⟩) rfl
theorem w_s_d035ed : Cond.selects "Ballothall$Poll" ⟨"Ballothall$Poll", "change", "(II)V"⟩ ⟨"Ballothall$Poll", "change", "(II)V"⟩ ∈ WG := wg_s (List.mem_map.mpr ⟨_, wp2 (List.mem_of_getElem? (i := 6) rfl), rfl⟩) rfl
theorem w_s_d32e6f : Cond.selects "Ballothall$Poll" ⟨"Ballothall$Poll", "findDistances", "()V"⟩ ⟨"Ballothall$Poll", "findDistances", "()V"⟩ ∈ WG := wg_s (List.mem_map.mpr ⟨_, wp2 (List.mem_of_getElem? (i := 14) rfl), rfl⟩) rfl
theorem w_s_d5ed60 : Cond.selects "Ballothall$Council" ⟨"Ballothall$Council", "isOrderMissed", "()Z"⟩ ⟨"Ballothall$Council", "isOrderMissed", "()Z"⟩ ∈ WG := wg_s (List.mem_map.mpr ⟨_, wp3 (List.mem_of_getElem? (i := 6) rfl), rfl⟩) rfl
theorem w_s_de34cc : Cond.selects "Ballothall$Lists" ⟨"Ballothall$Lists", "spread", "(III)I"⟩ ⟨"Ballothall$Lists", "spread", "(III)I"⟩ ∈ WG := wg_s (List.mem_map.mpr ⟨_, wp7 (List.mem_of_getElem? (i := 2) rfl), rfl⟩) rfl
theorem w_s_df56a8 : Cond.selects "Ballothall$Poll" ⟨"Ballothall$Poll", "smallestOf", "(I)I"⟩ ⟨"Ballothall$Poll", "smallestOf", "(I)I"⟩ ∈ WG := wg_s (List.mem_map.mpr ⟨_, wp6 (List.mem_of_getElem? (i := 4) rfl), rfl⟩) rfl
theorem w_s_e0fb07 : Cond.selects "Ballothall$Poll" ⟨"Ballothall$Poll", "widenPaths", "(II)V"⟩ ⟨"Ballothall$Poll", "widenPaths", "(II)V"⟩ ∈ WG := wg_s (List.mem_map.mpr ⟨_, wp3 (List.mem_of_getElem? (i := 3) rfl), rfl⟩) rfl
theorem w_s_e198c6 : Cond.selects "Ballothall$Poll" ⟨"Ballothall$Poll", "findBeaten", "()V"⟩ ⟨"Ballothall$Poll", "findBeaten", "()V"⟩ ∈ WG := wg_s (List.mem_map.mpr ⟨_, wp2 (List.mem_of_getElem? (i := 11) rfl), rfl⟩) rfl
theorem w_s_e1a3ad : Cond.selects "Ballothall" ⟨"Ballothall", "countErrors", "()I"⟩ ⟨"Ballothall", "countErrors", "()I"⟩ ∈ WG := wg_s (List.mem_map.mpr ⟨_, wp1 (List.mem_of_getElem? (i := 6) rfl), rfl⟩) rfl
theorem w_s_e3f01b : Cond.selects "Ballothall$Counting" ⟨"Ballothall$Counting", "passSurplus", "(I)V"⟩ ⟨"Ballothall$Counting", "passSurplus", "(I)V"⟩ ∈ WG := wg_s (List.mem_map.mpr ⟨_, wp5 (List.mem_of_getElem? (i := 1) rfl), rfl⟩) rfl
theorem w_s_e4f459 : Cond.selects "Ballothall$Lists" ⟨"Ballothall$Lists", "isAsThen", "(I)Z"⟩ ⟨"Ballothall$Lists", "isAsThen", "(I)Z"⟩ ∈ WG := wg_s (List.mem_map.mpr ⟨_, wp1 (List.mem_of_getElem? (i := 5) rfl), rfl⟩) rfl
theorem w_s_e5ba2a : Cond.selects "Ballothall$Natural" ⟨"Ballothall$Natural", "store", "([II)V"⟩ ⟨"Ballothall$Natural", "store", "([II)V"⟩ ∈ WG := wg_s (List.mem_map.mpr ⟨_, wp4 (List.mem_of_getElem? (i := 8) rfl), rfl⟩) rfl
theorem w_s_e9d9cd : Cond.selects "Ballothall$Lists" ⟨"Ballothall$Lists", "append", "(I)I"⟩ ⟨"Ballothall$Lists", "append", "(I)I"⟩ ∈ WG := wg_s (List.mem_map.mpr ⟨_, wp7 (List.mem_of_getElem? (i := 1) rfl), rfl⟩) rfl
theorem w_s_eb7ceb : Cond.selects "Ballothall$Council" ⟨"Ballothall$Council", "append", "(I)I"⟩ ⟨"Ballothall$Council", "append", "(I)I"⟩ ∈ WG := wg_s (List.mem_map.mpr ⟨_, wp8 (List.mem_of_getElem? (i := 7) rfl), rfl⟩) rfl
theorem w_s_eead96 : Cond.selects "Ballothall$Natural" ⟨"Ballothall$Natural", "subtract", "(LBallothall$Natural;)V"⟩ ⟨"Ballothall$Natural", "subtract", "(LBallothall$Natural;)V"⟩ ∈ WG := wg_s (List.mem_map.mpr ⟨_, wp5 (List.mem_of_getElem? (i := 2) rfl), rfl⟩) rfl
theorem w_s_f32dd6 : Cond.selects "Ballothall$Natural" ⟨"Ballothall$Natural", "multiplySmall", "(I)V"⟩ ⟨"Ballothall$Natural", "multiplySmall", "(I)V"⟩ ∈ WG := wg_s (List.mem_map.mpr ⟨_, wp2 (List.mem_of_getElem? (i := 0) rfl), rfl⟩) rfl
theorem w_s_f38dc3 : Cond.selects "Ballothall$Natural" ⟨"Ballothall$Natural", "add", "(LBallothall$Natural;)V"⟩ ⟨"Ballothall$Natural", "add", "(LBallothall$Natural;)V"⟩ ∈ WG := wg_s (List.mem_map.mpr ⟨_, wp1 (List.mem_of_getElem? (i := 14) rfl), rfl⟩) rfl
theorem w_s_f62a93 : Cond.selects "Ballothall$Counting" ⟨"Ballothall$Counting", "start", "(LBallothall$Count;I)V"⟩ ⟨"Ballothall$Counting", "start", "(LBallothall$Count;I)V"⟩ ∈ WG := wg_s (List.mem_map.mpr ⟨_, wp4 (List.mem_of_getElem? (i := 3) rfl), rfl⟩) rfl
theorem w_s_f68c3b : Cond.selects "Ballothall$Poll" ⟨"Ballothall$Poll", "path", "(II)I"⟩ ⟨"Ballothall$Poll", "path", "(II)I"⟩ ∈ WG := wg_s (List.mem_map.mpr ⟨_, wp3 (List.mem_of_getElem? (i := 2) rfl), rfl⟩) rfl
theorem w_s_f7e76e : Cond.selects "Ballothall$Lists" ⟨"Ballothall$Lists", "takeChangeBack", "(III)V"⟩ ⟨"Ballothall$Lists", "takeChangeBack", "(III)V"⟩ ∈ WG := wg_s (List.mem_map.mpr ⟨_, wp7 (List.mem_of_getElem? (i := 0) rfl), rfl⟩) rfl
theorem w_s_f89072 : Cond.selects "Ballothall$Wards" ⟨"Ballothall$Wards", "greatestBehind", "(II)I"⟩ ⟨"Ballothall$Wards", "greatestBehind", "(II)I"⟩ ∈ WG := wg_s (List.mem_map.mpr ⟨_, wp8 (List.mem_of_getElem? (i := 4) rfl), rfl⟩) rfl
theorem w_s_f90180 : Cond.selects "Ballothall$BallotBox" ⟨"Ballothall$BallotBox", "readTrial", "()I"⟩ ⟨"Ballothall$BallotBox", "readTrial", "()I"⟩ ∈ WG := wg_s (List.mem_map.mpr ⟨_, wp3 (List.mem_of_getElem? (i := 11) rfl), rfl⟩) rfl
theorem w_s_fbd9d2 : Cond.selects "Ballothall$BallotBox" ⟨"Ballothall$BallotBox", "soleTopOf", "(II)I"⟩ ⟨"Ballothall$BallotBox", "soleTopOf", "(II)I"⟩ ∈ WG := wg_s (List.mem_map.mpr ⟨_, wp2 (List.mem_of_getElem? (i := 7) rfl), rfl⟩) rfl
theorem w_s_fcecd2 : Cond.selects "Ballothall$BallotBox" ⟨"Ballothall$BallotBox", "ballotsOf", "([II)I"⟩ ⟨"Ballothall$BallotBox", "ballotsOf", "([II)I"⟩ ∈ WG := wg_s (List.mem_map.mpr ⟨_, wp1 (List.mem_of_getElem? (i := 2) rfl), rfl⟩) rfl
theorem n_42 : Cond.methodLinkNest "Ballothall" 11 ⟨"Ballothall$BallotBox", "<init>", "()V"⟩ "Ballothall" ∈ lw_tbl := List.mem_append_right _ (wu1 (List.mem_of_getElem? (i := 42) rfl))
theorem n_49 : Cond.fieldLinkNest "Ballothall" 102 "Ballothall$BallotBox" "signs" "I" "Ballothall" ∈ lw_tbl := List.mem_append_right _ (wu1 (List.mem_of_getElem? (i := 49) rfl))
theorem n_52 : Cond.fieldLinkNest "Ballothall" 75 "Ballothall$BallotBox" "candidates" "I" "Ballothall" ∈ lw_tbl := List.mem_append_right _ (wu1 (List.mem_of_getElem? (i := 52) rfl))
theorem n_53 : Cond.fieldLinkNest "Ballothall$Poll" 84 "Ballothall$BallotBox" "candidates" "I" "Ballothall" ∈ lw_tbl := List.mem_append_right _ (wu1 (List.mem_of_getElem? (i := 53) rfl))
theorem n_54 : Cond.fieldLinkNest "Ballothall$FalseBallot" 69 "Ballothall$BallotBox" "candidates" "I" "Ballothall" ∈ lw_tbl := List.mem_append_right _ (wu1 (List.mem_of_getElem? (i := 54) rfl))
theorem n_55 : Cond.fieldLinkNest "Ballothall$Counting" 72 "Ballothall$BallotBox" "candidates" "I" "Ballothall" ∈ lw_tbl := List.mem_append_right _ (wu1 (List.mem_of_getElem? (i := 55) rfl))
theorem n_56 : Cond.fieldLinkNest "Ballothall$FalseBallot" 39 "Ballothall$BallotBox" "kinds" "I" "Ballothall" ∈ lw_tbl := List.mem_append_right _ (wu1 (List.mem_of_getElem? (i := 56) rfl))
theorem n_57 : Cond.fieldLinkNest "Ballothall$Poll" 57 "Ballothall$BallotBox" "kinds" "I" "Ballothall" ∈ lw_tbl := List.mem_append_right _ (wu1 (List.mem_of_getElem? (i := 57) rfl))
theorem n_58 : Cond.fieldLinkNest "Ballothall" 117 "Ballothall$BallotBox" "kinds" "I" "Ballothall" ∈ lw_tbl := List.mem_append_right _ (wu1 (List.mem_of_getElem? (i := 58) rfl))
theorem n_59 : Cond.fieldLinkNest "Ballothall$Counting" 96 "Ballothall$BallotBox" "kinds" "I" "Ballothall" ∈ lw_tbl := List.mem_append_right _ (wu1 (List.mem_of_getElem? (i := 59) rfl))
theorem n_62 : Cond.fieldLinkNest "Ballothall" 83 "Ballothall$BallotBox" "lot" "[I" "Ballothall" ∈ lw_tbl := List.mem_append_right _ (wu1 (List.mem_of_getElem? (i := 62) rfl))
theorem n_64 : Cond.fieldLinkNest "Ballothall$FalseBallot" 43 "Ballothall$BallotBox" "count" "[I" "Ballothall" ∈ lw_tbl := List.mem_append_right _ (wu1 (List.mem_of_getElem? (i := 64) rfl))
theorem n_65 : Cond.fieldLinkNest "Ballothall$Poll" 62 "Ballothall$BallotBox" "count" "[I" "Ballothall" ∈ lw_tbl := List.mem_append_right _ (wu1 (List.mem_of_getElem? (i := 65) rfl))
theorem n_66 : Cond.fieldLinkNest "Ballothall" 123 "Ballothall$BallotBox" "count" "[I" "Ballothall" ∈ lw_tbl := List.mem_append_right _ (wu1 (List.mem_of_getElem? (i := 66) rfl))
theorem n_67 : Cond.fieldLinkNest "Ballothall$Counting" 100 "Ballothall$BallotBox" "count" "[I" "Ballothall" ∈ lw_tbl := List.mem_append_right _ (wu1 (List.mem_of_getElem? (i := 67) rfl))
theorem n_69 : Cond.fieldLinkNest "Ballothall$Poll" 87 "Ballothall$BallotBox" "approved" "[I" "Ballothall" ∈ lw_tbl := List.mem_append_right _ (wu1 (List.mem_of_getElem? (i := 69) rfl))
theorem n_70 : Cond.fieldLinkNest "Ballothall$FalseBallot" 88 "Ballothall$BallotBox" "approved" "[I" "Ballothall" ∈ lw_tbl := List.mem_append_right _ (wu1 (List.mem_of_getElem? (i := 70) rfl))
theorem n_71 : Cond.fieldLinkNest "Ballothall" 131 "Ballothall$BallotBox" "approved" "[I" "Ballothall" ∈ lw_tbl := List.mem_append_right _ (wu1 (List.mem_of_getElem? (i := 71) rfl))
theorem n_73 : Cond.fieldLinkNest "Ballothall$Poll" 73 "Ballothall$BallotBox" "groups" "[I" "Ballothall" ∈ lw_tbl := List.mem_append_right _ (wu1 (List.mem_of_getElem? (i := 73) rfl))
theorem n_75 : Cond.fieldLinkNest "Ballothall$FalseBallot" 61 "Ballothall$BallotBox" "group" "[[I" "Ballothall" ∈ lw_tbl := List.mem_append_right _ (wu1 (List.mem_of_getElem? (i := 75) rfl))
theorem n_76 : Cond.fieldLinkNest "Ballothall$Poll" 76 "Ballothall$BallotBox" "group" "[[I" "Ballothall" ∈ lw_tbl := List.mem_append_right _ (wu1 (List.mem_of_getElem? (i := 76) rfl))
theorem n_78 : Cond.fieldLinkNest "Ballothall" 259 "Ballothall$BallotBox" "support" "[I" "Ballothall" ∈ lw_tbl := List.mem_append_right _ (wu1 (List.mem_of_getElem? (i := 78) rfl))
theorem n_103 : Cond.methodLinkNest "Ballothall" 18 ⟨"Ballothall$Poll", "<init>", "(LBallothall$BallotBox;)V"⟩ "Ballothall" ∈ lw_tbl := List.mem_append_right _ (wu1 (List.mem_of_getElem? (i := 103) rfl))
theorem n_119 : Cond.fieldLinkNest "Ballothall" 299 "Ballothall$Poll" "distance" "[J" "Ballothall" ∈ lw_tbl := List.mem_append_right _ (wu1 (List.mem_of_getElem? (i := 119) rfl))
theorem n_148 : Cond.methodLinkNest "Ballothall" 27 ⟨"Ballothall$FalseBallot", "<init>", "(LBallothall$BallotBox;LBallothall$Poll;)V"⟩ "Ballothall" ∈ lw_tbl := List.mem_append_right _ (wu1 (List.mem_of_getElem? (i := 148) rfl))
theorem n_155 : Cond.fieldLinkNest "Ballothall" 330 "Ballothall$FalseBallot" "order" "[I" "Ballothall" ∈ lw_tbl := List.mem_append_right _ (wu1 (List.mem_of_getElem? (i := 155) rfl))
theorem n_165 : Cond.methodLinkNest "Ballothall" 36 ⟨"Ballothall$Lists", "<init>", "()V"⟩ "Ballothall" ∈ lw_tbl := List.mem_append_right _ (wu1 (List.mem_of_getElem? (i := 165) rfl))
theorem n_171 : Cond.methodLinkNest "Ballothall$Lists" 23 ⟨"Ballothall$Division", "<init>", "()V"⟩ "Ballothall" ∈ lw_tbl := List.mem_append_right _ (wu1 (List.mem_of_getElem? (i := 171) rfl))
theorem n_176 : Cond.fieldLinkNest "Ballothall$Lists" 76 "Ballothall$Division" "parties" "I" "Ballothall" ∈ lw_tbl := List.mem_append_right _ (wu1 (List.mem_of_getElem? (i := 176) rfl))
theorem n_178 : Cond.fieldLinkNest "Ballothall$Lists" 99 "Ballothall$Division" "given" "I" "Ballothall" ∈ lw_tbl := List.mem_append_right _ (wu1 (List.mem_of_getElem? (i := 178) rfl))
theorem n_180 : Cond.fieldLinkNest "Ballothall$Lists" 79 "Ballothall$Division" "number" "[I" "Ballothall" ∈ lw_tbl := List.mem_append_right _ (wu1 (List.mem_of_getElem? (i := 180) rfl))
theorem n_184 : Cond.fieldLinkNest "Ballothall$Lists" 82 "Ballothall$Division" "seats" "[I" "Ballothall" ∈ lw_tbl := List.mem_append_right _ (wu1 (List.mem_of_getElem? (i := 184) rfl))
theorem n_187 : Cond.fieldLinkNest "Ballothall$Lists" 113 "Ballothall$Division" "order" "[I" "Ballothall" ∈ lw_tbl := List.mem_append_right _ (wu1 (List.mem_of_getElem? (i := 187) rfl))
theorem n_208 : Cond.methodLinkNest "Ballothall$Lists" 43 ⟨"Ballothall$KeptSeats", "<init>", "()V"⟩ "Ballothall" ∈ lw_tbl := List.mem_append_right _ (wu1 (List.mem_of_getElem? (i := 208) rfl))
theorem n_212 : Cond.fieldLinkNest "Ballothall$Lists" 108 "Ballothall$KeptSeats" "given" "I" "Ballothall" ∈ lw_tbl := List.mem_append_right _ (wu1 (List.mem_of_getElem? (i := 212) rfl))
theorem n_213 : Cond.fieldLinkNest "Ballothall" 169 "Ballothall$KeptSeats" "given" "I" "Ballothall" ∈ lw_tbl := List.mem_append_right _ (wu1 (List.mem_of_getElem? (i := 213) rfl))
theorem n_214 : Cond.fieldLinkNest "Ballothall$Lists" 109 "Ballothall$KeptSeats" "isAllied" "Z" "Ballothall" ∈ lw_tbl := List.mem_append_right _ (wu1 (List.mem_of_getElem? (i := 214) rfl))
theorem n_215 : Cond.fieldLinkNest "Ballothall" 165 "Ballothall$KeptSeats" "isAllied" "Z" "Ballothall" ∈ lw_tbl := List.mem_append_right _ (wu1 (List.mem_of_getElem? (i := 215) rfl))
theorem n_216 : Cond.fieldLinkNest "Ballothall$Lists" 110 "Ballothall$KeptSeats" "lists" "I" "Ballothall" ∈ lw_tbl := List.mem_append_right _ (wu1 (List.mem_of_getElem? (i := 216) rfl))
theorem n_218 : Cond.fieldLinkNest "Ballothall$Lists" 116 "Ballothall$KeptSeats" "order" "[I" "Ballothall" ∈ lw_tbl := List.mem_append_right _ (wu1 (List.mem_of_getElem? (i := 218) rfl))
theorem n_219 : Cond.fieldLinkNest "Ballothall" 175 "Ballothall$KeptSeats" "order" "[I" "Ballothall" ∈ lw_tbl := List.mem_append_right _ (wu1 (List.mem_of_getElem? (i := 219) rfl))
theorem n_221 : Cond.fieldLinkNest "Ballothall$Lists" 123 "Ballothall$KeptSeats" "got" "[I" "Ballothall" ∈ lw_tbl := List.mem_append_right _ (wu1 (List.mem_of_getElem? (i := 221) rfl))
theorem n_222 : Cond.fieldLinkNest "Ballothall" 160 "Ballothall$KeptSeats" "got" "[I" "Ballothall" ∈ lw_tbl := List.mem_append_right _ (wu1 (List.mem_of_getElem? (i := 222) rfl))
theorem n_224 : Cond.fieldLinkNest "Ballothall$Lists" 124 "Ballothall$KeptSeats" "votes" "[I" "Ballothall" ∈ lw_tbl := List.mem_append_right _ (wu1 (List.mem_of_getElem? (i := 224) rfl))
theorem n_226 : Cond.fieldLinkNest "Ballothall$Lists" 125 "Ballothall$KeptSeats" "alliance" "[I" "Ballothall" ∈ lw_tbl := List.mem_append_right _ (wu1 (List.mem_of_getElem? (i := 226) rfl))
theorem n_243 : Cond.fieldLinkNest "Ballothall" 90 "Ballothall$Lists" "size" "I" "Ballothall" ∈ lw_tbl := List.mem_append_right _ (wu2 (List.mem_of_getElem? (i := 3) rfl))
theorem n_246 : Cond.fieldLinkNest "Ballothall" 146 "Ballothall$Lists" "alliance" "[I" "Ballothall" ∈ lw_tbl := List.mem_append_right _ (wu2 (List.mem_of_getElem? (i := 6) rfl))
theorem n_248 : Cond.fieldLinkNest "Ballothall" 99 "Ballothall$Lists" "lot" "[I" "Ballothall" ∈ lw_tbl := List.mem_append_right _ (wu2 (List.mem_of_getElem? (i := 8) rfl))
theorem n_281 : Cond.methodLinkNest "Ballothall" 43 ⟨"Ballothall$Counting", "<init>", "(LBallothall$BallotBox;)V"⟩ "Ballothall" ∈ lw_tbl := List.mem_append_right _ (wu2 (List.mem_of_getElem? (i := 41) rfl))
theorem n_290 : Cond.methodLinkNest "Ballothall$Counting" 26 ⟨"Ballothall$Natural", "<init>", "()V"⟩ "Ballothall" ∈ lw_tbl := List.mem_append_right _ (wu2 (List.mem_of_getElem? (i := 50) rfl))
theorem n_296 : Cond.fieldLinkNest "Ballothall$Counting" 220 "Ballothall$Natural" "size" "I" "Ballothall" ∈ lw_tbl := List.mem_append_right _ (wu2 (List.mem_of_getElem? (i := 56) rfl))
theorem n_297 : Cond.fieldLinkNest "Ballothall" 411 "Ballothall$Natural" "size" "I" "Ballothall" ∈ lw_tbl := List.mem_append_right _ (wu2 (List.mem_of_getElem? (i := 57) rfl))
theorem n_313 : Cond.fieldLinkNest "Ballothall" 230 "Ballothall$Counting" "numerator" "LBallothall$Natural;" "Ballothall" ∈ lw_tbl := List.mem_append_right _ (wu2 (List.mem_of_getElem? (i := 73) rfl))
theorem n_315 : Cond.fieldLinkNest "Ballothall" 238 "Ballothall$Counting" "denominator" "LBallothall$Natural;" "Ballothall" ∈ lw_tbl := List.mem_append_right _ (wu2 (List.mem_of_getElem? (i := 75) rfl))
theorem n_353 : Cond.methodLinkNest "Ballothall" 50 ⟨"Ballothall$Wards", "<init>", "()V"⟩ "Ballothall" ∈ lw_tbl := List.mem_append_right _ (wu2 (List.mem_of_getElem? (i := 113) rfl))
theorem n_359 : Cond.fieldLinkNest "Ballothall" 340 "Ballothall$Wards" "size" "I" "Ballothall" ∈ lw_tbl := List.mem_append_right _ (wu2 (List.mem_of_getElem? (i := 119) rfl))
theorem n_364 : Cond.fieldLinkNest "Ballothall" 346 "Ballothall$Wards" "end" "[I" "Ballothall" ∈ lw_tbl := List.mem_append_right _ (wu2 (List.mem_of_getElem? (i := 124) rfl))
theorem n_378 : Cond.methodLinkNest "Ballothall" 57 ⟨"Ballothall$Council", "<init>", "()V"⟩ "Ballothall" ∈ lw_tbl := List.mem_append_right _ (wu2 (List.mem_of_getElem? (i := 138) rfl))
theorem n_383 : Cond.fieldLinkNest "Ballothall" 352 "Ballothall$Council" "size" "I" "Ballothall" ∈ lw_tbl := List.mem_append_right _ (wu2 (List.mem_of_getElem? (i := 143) rfl))
theorem n_385 : Cond.fieldLinkNest "Ballothall" 354 "Ballothall$Council" "quota" "I" "Ballothall" ∈ lw_tbl := List.mem_append_right _ (wu2 (List.mem_of_getElem? (i := 145) rfl))
theorem n_569 : Cond.methodLinkNest "Ballothall" 134 ⟨"Ballothall$BallotBox", "ballotsOf", "([II)I"⟩ "Ballothall" ∈ lw_tbl := List.mem_append_right _ (wu3 (List.mem_of_getElem? (i := 89) rfl))
theorem n_577 : Cond.methodLinkNest "Ballothall" 379 ⟨"Ballothall$Lists", "isUnjust", "()Z"⟩ "Ballothall" ∈ lw_tbl := List.mem_append_right _ (wu3 (List.mem_of_getElem? (i := 97) rfl))
theorem n_593 : Cond.methodLinkNest "Ballothall" 191 ⟨"Ballothall$Counting", "latest", "()LBallothall$Count;"⟩ "Ballothall" ∈ lw_tbl := List.mem_append_right _ (wu3 (List.mem_of_getElem? (i := 113) rfl))
theorem n_597 : Cond.methodLinkNest "Ballothall" 413 ⟨"Ballothall$Counting", "unbalancedSteps", "(LBallothall$Count;)I"⟩ "Ballothall" ∈ lw_tbl := List.mem_append_right _ (wu3 (List.mem_of_getElem? (i := 117) rfl))
theorem n_601 : Cond.methodLinkNest "Ballothall$Counting" 129 ⟨"Ballothall$Natural", "become", "(J)V"⟩ "Ballothall" ∈ lw_tbl := List.mem_append_right _ (wu3 (List.mem_of_getElem? (i := 121) rfl))
theorem n_610 : Cond.methodLinkNest "Ballothall$Counting" 168 ⟨"Ballothall$Count", "placeOf", "(II)I"⟩ "Ballothall" ∈ lw_tbl := List.mem_append_right _ (wu3 (List.mem_of_getElem? (i := 130) rfl))
theorem n_615 : Cond.methodLinkNest "Ballothall$Counting" 223 ⟨"Ballothall$Natural", "load", "([II)V"⟩ "Ballothall" ∈ lw_tbl := List.mem_append_right _ (wu3 (List.mem_of_getElem? (i := 135) rfl))
theorem n_627 : Cond.methodLinkNest "Ballothall$Counting" 148 ⟨"Ballothall$Natural", "add", "(LBallothall$Natural;)V"⟩ "Ballothall" ∈ lw_tbl := List.mem_append_right _ (wu3 (List.mem_of_getElem? (i := 147) rfl))
theorem n_639 : Cond.methodLinkNest "Ballothall$Counting" 181 ⟨"Ballothall$Natural", "multiplySmall", "(I)V"⟩ "Ballothall" ∈ lw_tbl := List.mem_append_right _ (wu3 (List.mem_of_getElem? (i := 159) rfl))
theorem n_643 : Cond.methodLinkNest "Ballothall$Counting" 184 ⟨"Ballothall$Natural", "compareWith", "(LBallothall$Natural;)I"⟩ "Ballothall" ∈ lw_tbl := List.mem_append_right _ (wu3 (List.mem_of_getElem? (i := 163) rfl))
theorem n_647 : Cond.methodLinkNest "Ballothall" 255 ⟨"Ballothall$BallotBox", "findSupport", "([III)V"⟩ "Ballothall" ∈ lw_tbl := List.mem_append_right _ (wu3 (List.mem_of_getElem? (i := 167) rfl))
theorem n_665 : Cond.methodLinkNest "Ballothall" 250 ⟨"Ballothall$BallotBox", "everybody", "()I"⟩ "Ballothall" ∈ lw_tbl := List.mem_append_right _ (wu3 (List.mem_of_getElem? (i := 185) rfl))
theorem n_669 : Cond.methodLinkNest "Ballothall" 272 ⟨"Ballothall$Poll", "open", "(I)V"⟩ "Ballothall" ∈ lw_tbl := List.mem_append_right _ (wu3 (List.mem_of_getElem? (i := 189) rfl))
theorem n_678 : Cond.methodLinkNest "Ballothall$Poll" 69 ⟨"Ballothall$BallotBox", "soleTopOf", "(II)I"⟩ "Ballothall" ∈ lw_tbl := List.mem_append_right _ (wu3 (List.mem_of_getElem? (i := 198) rfl))
theorem n_691 : Cond.methodLinkNest "Ballothall$Poll" 90 ⟨"Ballothall", "has", "(II)Z"⟩ "Ballothall" ∈ lw_tbl := List.mem_append_right _ (wu3 (List.mem_of_getElem? (i := 211) rfl))
theorem n_694 : Cond.methodLinkNest "Ballothall" 278 ⟨"Ballothall$Poll", "beaterOfAll", "()I"⟩ "Ballothall" ∈ lw_tbl := List.mem_append_right _ (wu3 (List.mem_of_getElem? (i := 214) rfl))
theorem n_710 : Cond.methodLinkNest "Ballothall" 293 ⟨"Ballothall$Poll", "findDistances", "()V"⟩ "Ballothall" ∈ lw_tbl := List.mem_append_right _ (wu3 (List.mem_of_getElem? (i := 230) rfl))
theorem n_722 : Cond.methodLinkNest "Ballothall" 287 ⟨"Ballothall$Poll", "winnersByPaths", "()I"⟩ "Ballothall" ∈ lw_tbl := List.mem_append_right _ (wu4 (List.mem_of_getElem? (i := 2) rfl))
theorem n_739 : Cond.methodLinkNest "Ballothall" 296 ⟨"Ballothall$Poll", "consensusPlace", "(I)I"⟩ "Ballothall" ∈ lw_tbl := List.mem_append_right _ (wu4 (List.mem_of_getElem? (i := 19) rfl))
theorem n_747 : Cond.methodLinkNest "Ballothall" 388 ⟨"Ballothall$Council", "isOrderMissed", "()Z"⟩ "Ballothall" ∈ lw_tbl := List.mem_append_right _ (wu4 (List.mem_of_getElem? (i := 27) rfl))
theorem n_763 : Cond.methodLinkNest "Ballothall$Council" 25 ⟨"Ballothall", "has", "(II)Z"⟩ "Ballothall" ∈ lw_tbl := List.mem_append_right _ (wu4 (List.mem_of_getElem? (i := 43) rfl))
theorem n_765 : Cond.fieldLinkNest "Ballothall$Council" 38 "Ballothall" "FACTORIAL" "[J" "Ballothall" ∈ lw_tbl := List.mem_append_right _ (wu4 (List.mem_of_getElem? (i := 45) rfl))
theorem n_775 : Cond.fieldLinkNest "BallothallLaw" 24 "BallothallLaw$Box" "n" "I" "BallothallLaw" ∈ lw_tbl := List.mem_append_right _ (wu4 (List.mem_of_getElem? (i := 55) rfl))
theorem n_777 : Cond.fieldLinkNest "BallothallLaw" 57 "BallothallLaw$Box" "ranks" "[[I" "BallothallLaw" ∈ lw_tbl := List.mem_append_right _ (wu4 (List.mem_of_getElem? (i := 57) rfl))
theorem n_779 : Cond.fieldLinkNest "BallothallLaw" 61 "BallothallLaw$Box" "many" "[I" "BallothallLaw" ∈ lw_tbl := List.mem_append_right _ (wu4 (List.mem_of_getElem? (i := 59) rfl))
theorem n_781 : Cond.fieldLinkNest "BallothallLaw" 54 "BallothallLaw$Box" "kinds" "I" "BallothallLaw" ∈ lw_tbl := List.mem_append_right _ (wu4 (List.mem_of_getElem? (i := 61) rfl))
theorem n_1014 : Cond.methodLinkNest "Ballothall" 105 ⟨"Ballothall$BallotBox", "appendSign", "(I)V"⟩ "Ballothall" ∈ lw_tbl := List.mem_append_right _ (wu5 (List.mem_of_getElem? (i := 54) rfl))
theorem n_1023 : Cond.methodLinkNest "Ballothall" 110 ⟨"Ballothall$BallotBox", "readTrial", "()I"⟩ "Ballothall" ∈ lw_tbl := List.mem_append_right _ (wu5 (List.mem_of_getElem? (i := 63) rfl))
theorem n_1031 : Cond.methodLinkNest "Ballothall$BallotBox" 45 ⟨"Ballothall", "has", "(II)Z"⟩ "Ballothall" ∈ lw_tbl := List.mem_append_right _ (wu5 (List.mem_of_getElem? (i := 71) rfl))
theorem n_1037 : Cond.methodLinkNest "Ballothall" 114 ⟨"Ballothall$BallotBox", "kindOfTrial", "()I"⟩ "Ballothall" ∈ lw_tbl := List.mem_append_right _ (wu5 (List.mem_of_getElem? (i := 77) rfl))
theorem n_1045 : Cond.methodLinkNest "Ballothall" 120 ⟨"Ballothall$BallotBox", "keepTrial", "()I"⟩ "Ballothall" ∈ lw_tbl := List.mem_append_right _ (wu5 (List.mem_of_getElem? (i := 85) rfl))
theorem n_1059 : Cond.methodLinkNest "Ballothall" 127 ⟨"Ballothall$BallotBox", "rankOf", "(II)I"⟩ "Ballothall" ∈ lw_tbl := List.mem_append_right _ (wu5 (List.mem_of_getElem? (i := 99) rfl))
theorem n_1071 : Cond.methodLinkNest "Ballothall" 188 ⟨"Ballothall$Counting", "holdCount", "(I)I"⟩ "Ballothall" ∈ lw_tbl := List.mem_append_right _ (wu5 (List.mem_of_getElem? (i := 111) rfl))
theorem n_1075 : Cond.methodLinkNest "Ballothall$Counting" 63 ⟨"Ballothall$Count", "<init>", "()V"⟩ "Ballothall" ∈ lw_tbl := List.mem_append_right _ (wu5 (List.mem_of_getElem? (i := 115) rfl))
theorem n_1079 : Cond.fieldLinkNest "Ballothall$Counting" 111 "Ballothall$Count" "quota" "I" "Ballothall" ∈ lw_tbl := List.mem_append_right _ (wu5 (List.mem_of_getElem? (i := 119) rfl))
theorem n_1080 : Cond.fieldLinkNest "Ballothall" 194 "Ballothall$Count" "quota" "I" "Ballothall" ∈ lw_tbl := List.mem_append_right _ (wu5 (List.mem_of_getElem? (i := 120) rfl))
theorem n_1081 : Cond.fieldLinkNest "Ballothall$Counting" 95 "Ballothall$Count" "candidates" "I" "Ballothall" ∈ lw_tbl := List.mem_append_right _ (wu5 (List.mem_of_getElem? (i := 121) rfl))
theorem n_1082 : Cond.fieldLinkNest "Ballothall" 412 "Ballothall$Count" "candidates" "I" "Ballothall" ∈ lw_tbl := List.mem_append_right _ (wu5 (List.mem_of_getElem? (i := 122) rfl))
theorem n_1083 : Cond.fieldLinkNest "Ballothall$Counting" 99 "Ballothall$Count" "kinds" "I" "Ballothall" ∈ lw_tbl := List.mem_append_right _ (wu5 (List.mem_of_getElem? (i := 123) rfl))
theorem n_1084 : Cond.fieldLinkNest "Ballothall" 420 "Ballothall$Count" "kinds" "I" "Ballothall" ∈ lw_tbl := List.mem_append_right _ (wu5 (List.mem_of_getElem? (i := 124) rfl))
theorem n_1085 : Cond.fieldLinkNest "Ballothall$Counting" 108 "Ballothall$Count" "ballots" "I" "Ballothall" ∈ lw_tbl := List.mem_append_right _ (wu5 (List.mem_of_getElem? (i := 125) rfl))
theorem n_1086 : Cond.fieldLinkNest "Ballothall$Counting" 77 "Ballothall$Count" "elections" "I" "Ballothall" ∈ lw_tbl := List.mem_append_right _ (wu5 (List.mem_of_getElem? (i := 126) rfl))
theorem n_1087 : Cond.fieldLinkNest "Ballothall" 199 "Ballothall$Count" "elections" "I" "Ballothall" ∈ lw_tbl := List.mem_append_right _ (wu5 (List.mem_of_getElem? (i := 127) rfl))
theorem n_1088 : Cond.fieldLinkNest "Ballothall$Counting" 114 "Ballothall$Count" "exclusions" "I" "Ballothall" ∈ lw_tbl := List.mem_append_right _ (wu5 (List.mem_of_getElem? (i := 128) rfl))
theorem n_1089 : Cond.fieldLinkNest "Ballothall" 210 "Ballothall$Count" "exclusions" "I" "Ballothall" ∈ lw_tbl := List.mem_append_right _ (wu5 (List.mem_of_getElem? (i := 129) rfl))
theorem n_1091 : Cond.fieldLinkNest "Ballothall$Counting" 117 "Ballothall$Count" "ballotsOfKind" "[I" "Ballothall" ∈ lw_tbl := List.mem_append_right _ (wu5 (List.mem_of_getElem? (i := 131) rfl))
theorem n_1092 : Cond.fieldLinkNest "Ballothall" 417 "Ballothall$Count" "ballotsOfKind" "[I" "Ballothall" ∈ lw_tbl := List.mem_append_right _ (wu5 (List.mem_of_getElem? (i := 132) rfl))
theorem n_1094 : Cond.fieldLinkNest "Ballothall$Counting" 200 "Ballothall$Count" "elected" "[I" "Ballothall" ∈ lw_tbl := List.mem_append_right _ (wu5 (List.mem_of_getElem? (i := 134) rfl))
theorem n_1095 : Cond.fieldLinkNest "Ballothall" 207 "Ballothall$Count" "elected" "[I" "Ballothall" ∈ lw_tbl := List.mem_append_right _ (wu5 (List.mem_of_getElem? (i := 135) rfl))
theorem n_1097 : Cond.fieldLinkNest "Ballothall$Counting" 203 "Ballothall$Count" "excluded" "[I" "Ballothall" ∈ lw_tbl := List.mem_append_right _ (wu5 (List.mem_of_getElem? (i := 137) rfl))
theorem n_1099 : Cond.fieldLinkNest "Ballothall$Counting" 165 "Ballothall$Count" "limb" "[I" "Ballothall" ∈ lw_tbl := List.mem_append_right _ (wu5 (List.mem_of_getElem? (i := 139) rfl))
theorem n_1125 : Cond.methodLinkNest "Ballothall$Counting" 104 ⟨"Ballothall$BallotBox", "ballotsOf", "([II)I"⟩ "Ballothall" ∈ lw_tbl := List.mem_append_right _ (wu5 (List.mem_of_getElem? (i := 165) rfl))
theorem n_1127 : Cond.methodLinkNest "Ballothall$Counting" 126 ⟨"Ballothall$BallotBox", "everybody", "()I"⟩ "Ballothall" ∈ lw_tbl := List.mem_append_right _ (wu5 (List.mem_of_getElem? (i := 167) rfl))
theorem n_1128 : Cond.fieldLinkNest "Ballothall$Counting" 133 "Ballothall" "FACTORIAL" "[J" "Ballothall" ∈ lw_tbl := List.mem_append_right _ (wu5 (List.mem_of_getElem? (i := 168) rfl))
theorem n_1137 : Cond.methodLinkNest "Ballothall$Counting" 144 ⟨"Ballothall$BallotBox", "topOf", "(II)I"⟩ "Ballothall" ∈ lw_tbl := List.mem_append_right _ (wu5 (List.mem_of_getElem? (i := 177) rfl))
theorem n_1139 : Cond.methodLinkNest "Ballothall$Counting" 158 ⟨"Ballothall$Natural", "divideSmall", "(I)I"⟩ "Ballothall" ∈ lw_tbl := List.mem_append_right _ (wu5 (List.mem_of_getElem? (i := 179) rfl))
theorem n_1143 : Cond.methodLinkNest "Ballothall$Counting" 161 ⟨"Ballothall", "has", "(II)Z"⟩ "Ballothall" ∈ lw_tbl := List.mem_append_right _ (wu5 (List.mem_of_getElem? (i := 183) rfl))
theorem n_1148 : Cond.methodLinkNest "Ballothall$Counting" 171 ⟨"Ballothall$Natural", "store", "([II)V"⟩ "Ballothall" ∈ lw_tbl := List.mem_append_right _ (wu5 (List.mem_of_getElem? (i := 188) rfl))
theorem n_1160 : Cond.methodLinkNest "Ballothall$Counting" 197 ⟨"Ballothall$BallotBox", "winsLot", "(II)Z"⟩ "Ballothall" ∈ lw_tbl := List.mem_append_right _ (wu5 (List.mem_of_getElem? (i := 200) rfl))
theorem n_1172 : Cond.methodLinkNest "Ballothall$Counting" 178 ⟨"Ballothall$Natural", "copyFrom", "(LBallothall$Natural;)V"⟩ "Ballothall" ∈ lw_tbl := List.mem_append_right _ (wu5 (List.mem_of_getElem? (i := 212) rfl))
theorem n_1188 : Cond.methodLinkNest "Ballothall$Counting" 206 ⟨"Ballothall$Natural", "subtract", "(LBallothall$Natural;)V"⟩ "Ballothall" ∈ lw_tbl := List.mem_append_right _ (wu5 (List.mem_of_getElem? (i := 228) rfl))
theorem n_1196 : Cond.methodLinkNest "Ballothall$Counting" 226 ⟨"Ballothall$Natural", "divide", "(LBallothall$Natural;LBallothall$Natural;LBallothall$Natural;)V"⟩ "Ballothall" ∈ lw_tbl := List.mem_append_right _ (wu5 (List.mem_of_getElem? (i := 236) rfl))
theorem n_1215 : Cond.methodLinkNest "Ballothall$Counting" 230 ⟨"Ballothall$Natural", "isOne", "()Z"⟩ "Ballothall" ∈ lw_tbl := List.mem_append_right _ (wu6 (List.mem_of_getElem? (i := 15) rfl))
theorem n_1227 : Cond.methodLinkNest "Ballothall$Counting" 215 ⟨"Ballothall$Natural", "multiply", "(LBallothall$Natural;LBallothall$Natural;)V"⟩ "Ballothall" ∈ lw_tbl := List.mem_append_right _ (wu6 (List.mem_of_getElem? (i := 27) rfl))
theorem n_1271 : Cond.methodLinkNest "Ballothall" 220 ⟨"Ballothall$Counting", "loadPile", "(LBallothall$Count;II)V"⟩ "Ballothall" ∈ lw_tbl := List.mem_append_right _ (wu6 (List.mem_of_getElem? (i := 71) rfl))
theorem n_1272 : Cond.methodLinkNest "Ballothall" 224 ⟨"Ballothall$Counting", "reduce", "()V"⟩ "Ballothall" ∈ lw_tbl := List.mem_append_right _ (wu6 (List.mem_of_getElem? (i := 72) rfl))
theorem n_1277 : Cond.methodLinkNest "Ballothall" 408 ⟨"Ballothall$Natural", "divideSmall", "(I)I"⟩ "Ballothall" ∈ lw_tbl := List.mem_append_right _ (wu6 (List.mem_of_getElem? (i := 77) rfl))
theorem n_1282 : Cond.methodLinkNest "Ballothall" 241 ⟨"Ballothall$Natural", "isOne", "()Z"⟩ "Ballothall" ∈ lw_tbl := List.mem_append_right _ (wu6 (List.mem_of_getElem? (i := 82) rfl))
theorem n_1309 : Cond.methodLinkNest "Ballothall" 275 ⟨"Ballothall$Poll", "pair", "(II)I"⟩ "Ballothall" ∈ lw_tbl := List.mem_append_right _ (wu6 (List.mem_of_getElem? (i := 109) rfl))
theorem n_1314 : Cond.methodLinkNest "Ballothall" 290 ⟨"Ballothall$Poll", "smallestBeatingSet", "()I"⟩ "Ballothall" ∈ lw_tbl := List.mem_append_right _ (wu6 (List.mem_of_getElem? (i := 114) rfl))
theorem n_1331 : Cond.methodLinkNest "Ballothall" 281 ⟨"Ballothall$Poll", "findPaths", "()V"⟩ "Ballothall" ∈ lw_tbl := List.mem_append_right _ (wu6 (List.mem_of_getElem? (i := 131) rfl))
theorem n_1332 : Cond.methodLinkNest "Ballothall" 284 ⟨"Ballothall$Poll", "path", "(II)I"⟩ "Ballothall" ∈ lw_tbl := List.mem_append_right _ (wu6 (List.mem_of_getElem? (i := 132) rfl))
theorem n_1365 : Cond.methodLinkNest "Ballothall" 327 ⟨"Ballothall$FalseBallot", "findKind", "(I)I"⟩ "Ballothall" ∈ lw_tbl := List.mem_append_right _ (wu6 (List.mem_of_getElem? (i := 165) rfl))
theorem n_1369 : Cond.methodLinkNest "Ballothall$FalseBallot" 23 ⟨"Ballothall$BallotBox", "everybody", "()I"⟩ "Ballothall" ∈ lw_tbl := List.mem_append_right _ (wu6 (List.mem_of_getElem? (i := 169) rfl))
theorem n_1370 : Cond.methodLinkNest "Ballothall$FalseBallot" 29 ⟨"Ballothall$Poll", "open", "(I)V"⟩ "Ballothall" ∈ lw_tbl := List.mem_append_right _ (wu6 (List.mem_of_getElem? (i := 170) rfl))
theorem n_1371 : Cond.methodLinkNest "Ballothall$FalseBallot" 35 ⟨"Ballothall$Poll", "bestBy", "(I)I"⟩ "Ballothall" ∈ lw_tbl := List.mem_append_right _ (wu6 (List.mem_of_getElem? (i := 171) rfl))
theorem n_1390 : Cond.methodLinkNest "Ballothall$Poll" 160 ⟨"Ballothall$BallotBox", "winsLot", "(II)Z"⟩ "Ballothall" ∈ lw_tbl := List.mem_append_right _ (wu6 (List.mem_of_getElem? (i := 190) rfl))
theorem n_1412 : Cond.methodLinkNest "Ballothall$FalseBallot" 58 ⟨"Ballothall$BallotBox", "rankOf", "(II)I"⟩ "Ballothall" ∈ lw_tbl := List.mem_append_right _ (wu6 (List.mem_of_getElem? (i := 212) rfl))
theorem n_1413 : Cond.methodLinkNest "Ballothall$FalseBallot" 50 ⟨"Ballothall$Poll", "change", "(II)V"⟩ "Ballothall" ∈ lw_tbl := List.mem_append_right _ (wu6 (List.mem_of_getElem? (i := 213) rfl))
theorem n_1418 : Cond.fieldLinkNest "Ballothall$FalseBallot" 65 "Ballothall" "FACTORIAL" "[J" "Ballothall" ∈ lw_tbl := List.mem_append_right _ (wu6 (List.mem_of_getElem? (i := 218) rfl))
theorem n_1423 : Cond.methodLinkNest "Ballothall$FalseBallot" 81 ⟨"Ballothall$BallotBox", "clearTrial", "()V"⟩ "Ballothall" ∈ lw_tbl := List.mem_append_right _ (wu6 (List.mem_of_getElem? (i := 223) rfl))
theorem n_1424 : Cond.methodLinkNest "Ballothall$FalseBallot" 84 ⟨"Ballothall$BallotBox", "rankOnTrial", "(IZ)V"⟩ "Ballothall" ∈ lw_tbl := List.mem_append_right _ (wu6 (List.mem_of_getElem? (i := 224) rfl))
theorem n_1425 : Cond.methodLinkNest "Ballothall$FalseBallot" 75 ⟨"Ballothall", "has", "(II)Z"⟩ "Ballothall" ∈ lw_tbl := List.mem_append_right _ (wu6 (List.mem_of_getElem? (i := 225) rfl))
theorem n_1438 : Cond.methodLinkNest "Ballothall" 303 ⟨"Ballothall$Poll", "bestBy", "(I)I"⟩ "Ballothall" ∈ lw_tbl := List.mem_append_right _ (wu6 (List.mem_of_getElem? (i := 238) rfl))
theorem n_1496 : Cond.methodLinkNest "Ballothall" 404 ⟨"Ballothall$Counting", "goBack", "()V"⟩ "Ballothall" ∈ lw_tbl := List.mem_append_right _ (wu7 (List.mem_of_getElem? (i := 56) rfl))
theorem n_1500 : Cond.methodLinkNest "Ballothall" 407 ⟨"Ballothall$Lists", "takeChangeBack", "(III)V"⟩ "Ballothall" ∈ lw_tbl := List.mem_append_right _ (wu7 (List.mem_of_getElem? (i := 60) rfl))
theorem n_1513 : Cond.methodLinkNest "Ballothall" 139 ⟨"Ballothall$Lists", "append", "(I)I"⟩ "Ballothall" ∈ lw_tbl := List.mem_append_right _ (wu7 (List.mem_of_getElem? (i := 73) rfl))
theorem n_1521 : Cond.methodLinkNest "Ballothall" 149 ⟨"Ballothall$Lists", "spread", "(III)I"⟩ "Ballothall" ∈ lw_tbl := List.mem_append_right _ (wu7 (List.mem_of_getElem? (i := 81) rfl))
theorem n_1525 : Cond.methodLinkNest "Ballothall$Lists" 51 ⟨"Ballothall$Division", "clear", "()V"⟩ "Ballothall" ∈ lw_tbl := List.mem_append_right _ (wu7 (List.mem_of_getElem? (i := 85) rfl))
theorem n_1542 : Cond.methodLinkNest "Ballothall$Lists" 95 ⟨"Ballothall$Division", "append", "(IJI)V"⟩ "Ballothall" ∈ lw_tbl := List.mem_append_right _ (wu7 (List.mem_of_getElem? (i := 102) rfl))
theorem n_1546 : Cond.methodLinkNest "Ballothall$Lists" 66 ⟨"Ballothall$Division", "distribute", "(II)V"⟩ "Ballothall" ∈ lw_tbl := List.mem_append_right _ (wu7 (List.mem_of_getElem? (i := 106) rfl))
theorem n_1581 : Cond.methodLinkNest "Ballothall" 153 ⟨"Ballothall$Lists", "keepSpread", "()V"⟩ "Ballothall" ∈ lw_tbl := List.mem_append_right _ (wu7 (List.mem_of_getElem? (i := 141) rfl))
theorem n_1591 : Cond.methodLinkNest "Ballothall" 156 ⟨"Ballothall$Lists", "latest", "()LBallothall$KeptSeats;"⟩ "Ballothall" ∈ lw_tbl := List.mem_append_right _ (wu7 (List.mem_of_getElem? (i := 151) rfl))
theorem n_1610 : Cond.methodLinkNest "Ballothall" 341 ⟨"Ballothall$Wards", "append", "(III)I"⟩ "Ballothall" ∈ lw_tbl := List.mem_append_right _ (wu7 (List.mem_of_getElem? (i := 170) rfl))
theorem n_1618 : Cond.methodLinkNest "Ballothall" 343 ⟨"Ballothall$Wards", "divide", "(I)I"⟩ "Ballothall" ∈ lw_tbl := List.mem_append_right _ (wu7 (List.mem_of_getElem? (i := 178) rfl))
theorem n_1645 : Cond.methodLinkNest "Ballothall" 349 ⟨"Ballothall$Wards", "votesIn", "(II)I"⟩ "Ballothall" ∈ lw_tbl := List.mem_append_right _ (wu7 (List.mem_of_getElem? (i := 205) rfl))
theorem n_1660 : Cond.methodLinkNest "Ballothall" 353 ⟨"Ballothall$Council", "append", "(I)I"⟩ "Ballothall" ∈ lw_tbl := List.mem_append_right _ (wu7 (List.mem_of_getElem? (i := 220) rfl))
theorem n_1672 : Cond.methodLinkNest "Ballothall" 355 ⟨"Ballothall$Council", "findSums", "()V"⟩ "Ballothall" ∈ lw_tbl := List.mem_append_right _ (wu7 (List.mem_of_getElem? (i := 232) rfl))
theorem n_1673 : Cond.methodLinkNest "Ballothall" 361 ⟨"Ballothall$Council", "ordersTurnedBy", "(I)J"⟩ "Ballothall" ∈ lw_tbl := List.mem_append_right _ (wu7 (List.mem_of_getElem? (i := 233) rfl))
theorem n_1678 : Cond.methodLinkNest "Ballothall" 358 ⟨"Ballothall$Council", "setsSwungBy", "(I)I"⟩ "Ballothall" ∈ lw_tbl := List.mem_append_right _ (wu7 (List.mem_of_getElem? (i := 238) rfl))
theorem md_01358e : md_ok ⟨"Ballothall$Counting", "loadPile", "(LBallothall$Count;II)V"⟩ 3 := by decide +kernel
theorem md_02852a : md_ok ⟨"BallothallLaw", "pairs", "(LBallothall;LBallothallLaw$Box;)Z"⟩ 2 := by decide +kernel
theorem md_052a9f : md_ok ⟨"java/lang/String", "<init>", "(Ljava/lang/AbstractStringBuilder;Ljava/lang/Void;)V"⟩ 2 := by decide +kernel
theorem md_056ea1 : md_ok ⟨"Ballothall$Poll", "beaterOfAll", "()I"⟩ 0 := by decide +kernel
theorem md_0a866a : md_ok ⟨"Ballothall$Natural", "trimTo", "(I)V"⟩ 1 := by decide +kernel
theorem md_0e0b7f : md_ok ⟨"Ballothall$FalseBallot", "findOrder", "(II)Z"⟩ 2 := by decide +kernel
theorem md_0ebbab : md_ok ⟨"Ballothall", "wasted", "(II)I"⟩ 2 := by decide +kernel
theorem md_0f6454 : md_ok ⟨"Ballothall$Natural", "subtractMultiple", "(LBallothall$Natural;IJ)J"⟩ 3 := by decide +kernel
theorem md_0f833a : md_ok ⟨"Ballothall$BallotBox", "soleTopOf", "(II)I"⟩ 2 := by decide +kernel
theorem md_1045bf : md_ok ⟨"Ballothall$Lists", "<init>", "()V"⟩ 0 := by decide +kernel
theorem md_114b2c : md_ok ⟨"Ballothall$Poll", "winnersByPaths", "()I"⟩ 0 := by decide +kernel
theorem md_12822f : md_ok ⟨"Ballothall$BallotBox", "clearTrial", "()V"⟩ 0 := by decide +kernel
theorem md_149093 : md_ok ⟨"Ballothall$Natural", "limbAt", "(I)I"⟩ 1 := by decide +kernel
theorem md_16e5ac : md_ok ⟨"Ballothall", "solidQuotas", "(I)I"⟩ 1 := by decide +kernel
theorem md_199d8f : md_ok ⟨"BallothallLaw", "next", "([II)I"⟩ 2 := by decide +kernel
theorem md_19d04e : md_ok ⟨"java/lang/AbstractStringBuilder", "length", "()I"⟩ 0 := by decide +kernel
theorem md_1acac4 : md_ok ⟨"Ballothall$Natural", "subtract", "(LBallothall$Natural;)V"⟩ 1 := by decide +kernel
theorem md_1d44b6 : md_ok ⟨"Ballothall$Counting", "goBack", "()V"⟩ 0 := by decide +kernel
theorem md_1e440e : md_ok ⟨"Ballothall$Poll", "lastOfRunoff", "()I"⟩ 0 := by decide +kernel
theorem md_1e44e2 : md_ok ⟨"BallothallLaw$Box", "<init>", "(I)V"⟩ 1 := by decide +kernel
theorem md_1e5622 : md_ok ⟨"Ballothall", "steps", "()I"⟩ 0 := by decide +kernel
theorem md_1f245a : md_ok ⟨"Ballothall", "ally", "(II)I"⟩ 2 := by decide +kernel
theorem md_202b03 : md_ok ⟨"Ballothall$FalseBallot", "goToNextOrder", "()V"⟩ 0 := by decide +kernel
theorem md_21582b : md_ok ⟨"java/util/Arrays", "copyOfRange", "([BII)[B"⟩ 3 := by decide +kernel
theorem md_21fd83 : md_ok ⟨"BallothallLaw", "council", "([I)Z"⟩ 1 := by decide +kernel
theorem md_22f6df : md_ok ⟨"Ballothall", "<init>", "()V"⟩ 0 := by decide +kernel
theorem md_2413b1 : md_ok ⟨"Ballothall$Poll", "consensusPlace", "(I)I"⟩ 1 := by decide +kernel
theorem md_253369 : md_ok ⟨"java/util/Arrays", "checkLength", "(II)V"⟩ 2 := by decide +kernel
theorem md_26545c : md_ok ⟨"Ballothall", "has", "(II)Z"⟩ 2 := by decide +kernel
theorem md_26c06b : md_ok ⟨"Ballothall$Poll", "greatestOf", "(I)I"⟩ 1 := by decide +kernel
theorem md_27e5a0 : md_ok ⟨"Ballothall$Council", "ordersTurnedBy", "(I)J"⟩ 1 := by decide +kernel
theorem md_2866d7 : md_ok ⟨"Ballothall$Wards", "votesIn", "(II)I"⟩ 2 := by decide +kernel
theorem md_29a091 : md_ok ⟨"java/lang/String", "checkIndex", "(II)V"⟩ 2 := by decide +kernel
theorem md_2a0790 : md_ok ⟨"Ballothall$Wards", "greatestBehind", "(II)I"⟩ 2 := by decide +kernel
theorem md_2b9f88 : md_ok ⟨"Ballothall$Poll", "bestBy", "(I)I"⟩ 1 := by decide +kernel
theorem md_2bc459 : md_ok ⟨"Ballothall$Lists", "appendUnit", "(IJ)V"⟩ 2 := by decide +kernel
theorem md_2bddb0 : md_ok ⟨"Ballothall", "countOf", "(I)I"⟩ 1 := by decide +kernel
theorem md_2d1de3 : md_ok ⟨"Ballothall$Counting", "keepMoment", "(LBallothall$Count;)V"⟩ 1 := by decide +kernel
theorem md_2e2af1 : md_ok ⟨"Ballothall$Poll", "firstOfConsensus", "(I)I"⟩ 1 := by decide +kernel
theorem md_2eb54e : md_ok ⟨"java/lang/String", "<init>", "(Ljava/lang/StringBuilder;)V"⟩ 1 := by decide +kernel
theorem md_2f75ac : md_ok ⟨"Ballothall$Poll", "path", "(II)I"⟩ 2 := by decide +kernel
theorem md_2fea24 : md_ok ⟨"Ballothall$Natural", "store", "([II)V"⟩ 2 := by decide +kernel
theorem md_306e32 : md_ok ⟨"Ballothall$Division", "give", "(I)V"⟩ 1 := by decide +kernel
theorem md_322545 : md_ok ⟨"Ballothall$Poll", "bestByLot", "(I)I"⟩ 1 := by decide +kernel
theorem md_338f64 : md_ok ⟨"Ballothall$Lists", "isUnjust", "()Z"⟩ 0 := by decide +kernel
theorem md_33d152 : md_ok ⟨"Ballothall$Counting", "elect", "(LBallothall$Count;I)V"⟩ 2 := by decide +kernel
theorem md_341141 : md_ok ⟨"java/lang/StringBuilder", "append", "(Ljava/lang/String;)Ljava/lang/StringBuilder;"⟩ 1 := by decide +kernel
theorem md_34308f : md_ok ⟨"Ballothall$Natural", "become", "(J)V"⟩ 1 := by decide +kernel
theorem md_357667 : md_ok ⟨"java/util/Arrays", "fill", "([JJ)V"⟩ 2 := by decide +kernel
theorem md_35cf58 : md_ok ⟨"Ballothall$Division", "append", "(IJI)V"⟩ 3 := by decide +kernel
theorem md_37bd88 : md_ok ⟨"Ballothall", "writePile", "(II)I"⟩ 2 := by decide +kernel
theorem md_388751 : md_ok ⟨"java/lang/AbstractStringBuilder", "ensureCapacityInternal", "(I)V"⟩ 1 := by decide +kernel
theorem md_38a853 : md_ok ⟨"Ballothall", "needFewCandidates", "()V"⟩ 0 := by decide +kernel
theorem md_3dc001 : md_ok ⟨"BallothallLaw", "seats", "([I)Z"⟩ 1 := by decide +kernel
theorem md_3faff7 : md_ok ⟨"Ballothall$Counting", "reduce", "()V"⟩ 0 := by decide +kernel
theorem md_40d48f : md_ok ⟨"java/lang/StringLatin1", "canEncode", "(C)Z"⟩ 1 := by decide +kernel
theorem md_40f91f : md_ok ⟨"Ballothall$Poll", "changePairs", "(III)V"⟩ 3 := by decide +kernel
theorem md_410014 : md_ok ⟨"BallothallLaw", "reads", "(LBallothall;I)J"⟩ 2 := by decide +kernel
theorem md_41465a : md_ok ⟨"Ballothall", "ordersTurned", "(I)J"⟩ 1 := by decide +kernel
theorem md_4155ed : md_ok ⟨"Ballothall$Poll", "widenPaths", "(II)V"⟩ 2 := by decide +kernel
theorem md_432139 : md_ok ⟨"Ballothall$Poll", "isBeatingSet", "(I)Z"⟩ 1 := by decide +kernel
theorem md_45ab82 : md_ok ⟨"Ballothall$BallotBox", "readTrial", "()I"⟩ 0 := by decide +kernel
theorem md_47adca : md_ok ⟨"Ballothall", "beatingSet", "()I"⟩ 0 := by decide +kernel
theorem md_482545 : md_ok ⟨"java/lang/String", "isLatin1", "()Z"⟩ 0 := by decide +kernel
theorem md_4ae834 : md_ok ⟨"Ballothall", "isBeaterOfAllMissed", "()Z"⟩ 0 := by decide +kernel
theorem md_4b14b3 : md_ok ⟨"Ballothall$Poll", "findDistances", "()V"⟩ 0 := by decide +kernel
theorem md_4ba11b : md_ok ⟨"Ballothall$Count", "placeOf", "(II)I"⟩ 2 := by decide +kernel
theorem md_4c9505 : md_ok ⟨"Ballothall", "gainAt", "(II)I"⟩ 2 := by decide +kernel
theorem md_4dddda : md_ok ⟨"Ballothall$Division", "clear", "()V"⟩ 0 := by decide +kernel
theorem md_4de701 : md_ok ⟨"Ballothall$Council", "setsSwungBy", "(I)I"⟩ 1 := by decide +kernel
theorem md_4f41a0 : md_ok ⟨"Ballothall", "seatAt", "(I)I"⟩ 1 := by decide +kernel
theorem md_500319 : md_ok ⟨"BallothallLaw", "way", "([[IIII)I"⟩ 4 := by decide +kernel
theorem md_50e65b : md_ok ⟨"Ballothall$Division", "hasGreaterQuotient", "(III)Z"⟩ 3 := by decide +kernel
theorem md_515737 : md_ok ⟨"java/lang/StringBuilder", "append", "(C)Ljava/lang/StringBuilder;"⟩ 1 := by decide +kernel
theorem md_519134 : md_ok ⟨"Ballothall", "needRange", "(III)V"⟩ 3 := by decide +kernel
theorem md_524278 : md_ok ⟨"Ballothall$Poll", "<init>", "(LBallothall$BallotBox;)V"⟩ 1 := by decide +kernel
theorem md_5369b4 : md_ok ⟨"Ballothall", "allBallots", "()I"⟩ 0 := by decide +kernel
theorem md_53dc2a : md_ok ⟨"java/lang/String", "charAt", "(I)C"⟩ 1 := by decide +kernel
theorem md_541664 : md_ok ⟨"Ballothall", "needPlace", "(II)V"⟩ 2 := by decide +kernel
theorem md_54b855 : md_ok ⟨"Ballothall", "winner", "(I)I"⟩ 1 := by decide +kernel
theorem md_552285 : md_ok ⟨"BallothallLaw", "transferable", "(LBallothall;LBallothallLaw$Box;[I)Z"⟩ 3 := by decide +kernel
theorem md_5a94c2 : md_ok ⟨"Ballothall$Poll", "pair", "(II)I"⟩ 2 := by decide +kernel
theorem md_5da404 : md_ok ⟨"jdk/internal/util/Preconditions", "checkIndex", "(IILjava/util/function/BiFunction;)I"⟩ 3 := by decide +kernel
theorem md_5dd7f4 : md_ok ⟨"java/lang/AbstractStringBuilder", "<init>", "(I)V"⟩ 1 := by decide +kernel
theorem md_60bc9b : md_ok ⟨"Ballothall$Poll", "open", "(I)V"⟩ 1 := by decide +kernel
theorem md_60fcd1 : md_ok ⟨"Ballothall", "appendNumber", "(LBallothall$Natural;)V"⟩ 1 := by decide +kernel
theorem md_6100f0 : md_ok ⟨"java/lang/AbstractStringBuilder", "putStringAt", "(ILjava/lang/String;)V"⟩ 2 := by decide +kernel
theorem md_637b91 : md_ok ⟨"Ballothall", "beatsAll", "()I"⟩ 0 := by decide +kernel
theorem md_65df08 : md_ok ⟨"Ballothall$Counting", "multiplyAll", "(LBallothall$Natural;)V"⟩ 1 := by decide +kernel
theorem md_664187 : md_ok ⟨"Ballothall$Natural", "multiplySmall", "(I)V"⟩ 1 := by decide +kernel
theorem md_66c04b : md_ok ⟨"BallothallLaw", "districts", "([I)Z"⟩ 1 := by decide +kernel
theorem md_68420c : md_ok ⟨"Ballothall$Natural", "copyFrom", "(LBallothall$Natural;)V"⟩ 1 := by decide +kernel
theorem md_689494 : md_ok ⟨"Ballothall", "quota", "()I"⟩ 0 := by decide +kernel
theorem md_68b2be : md_ok ⟨"Ballothall$Division", "giveToGreatestRemainder", "()V"⟩ 0 := by decide +kernel
theorem md_69156a : md_ok ⟨"java/util/Arrays", "copyOfRangeByte", "([BII)[B"⟩ 3 := by decide +kernel
theorem md_6c3977 : md_ok ⟨"Ballothall$Lists", "isSameUnit", "(II)Z"⟩ 2 := by decide +kernel
theorem md_6cb26b : md_ok ⟨"Ballothall", "needIndex", "(II)V"⟩ 2 := by decide +kernel
theorem md_6f4f77 : md_ok ⟨"BallothallLaw", "ballots", "(LBallothall;LBallothallLaw$Box;[I)Z"⟩ 3 := by decide +kernel
theorem md_6f592a : md_ok ⟨"java/lang/AbstractStringBuilder", "inflateIfNeededFor", "(Ljava/lang/String;)V"⟩ 1 := by decide +kernel
theorem md_6f7cc1 : md_ok ⟨"Ballothall$Counting", "latest", "()LBallothall$Count;"⟩ 0 := by decide +kernel
theorem md_6fdd17 : md_ok ⟨"Ballothall", "seatsOf", "(I)I"⟩ 1 := by decide +kernel
theorem md_7079fc : md_ok ⟨"Ballothall$BallotBox", "rankOnTrial", "(IZ)V"⟩ 2 := by decide +kernel
theorem md_728352 : md_ok ⟨"Ballothall$Wards", "<init>", "()V"⟩ 0 := by decide +kernel
theorem md_72d9bf : md_ok ⟨"Ballothall$Natural", "<init>", "()V"⟩ 0 := by decide +kernel
theorem md_755902 : md_ok ⟨"Ballothall$Poll", "beats", "(II)Z"⟩ 2 := by decide +kernel
theorem md_7585f7 : md_ok ⟨"java/lang/AbstractStringBuilder", "getValue", "()[B"⟩ 0 := by decide +kernel
theorem md_759e51 : md_ok ⟨"Ballothall$Counting", "weightOf", "(II)LBallothall$Natural;"⟩ 2 := by decide +kernel
theorem md_774b9e : md_ok ⟨"Ballothall$Counting", "passOn", "(I)V"⟩ 1 := by decide +kernel
theorem md_77b7c9 : md_ok ⟨"Ballothall$Division", "winsTie", "(II)Z"⟩ 2 := by decide +kernel
theorem md_7a7bfb : md_ok ⟨"Ballothall$Counting", "takeStep", "(LBallothall$Count;II)Z"⟩ 3 := by decide +kernel
theorem md_7af0bb : md_ok ⟨"Ballothall", "remember", "(III)V"⟩ 3 := by decide +kernel
theorem md_7b5a11 : md_ok ⟨"Ballothall$Lists", "isAsThen", "(I)Z"⟩ 1 := by decide +kernel
theorem md_7e6362 : md_ok ⟨"Ballothall", "setLot", "(ZII)I"⟩ 3 := by decide +kernel
theorem md_7e8d41 : md_ok ⟨"BallothallLaw", "type", "(LBallothall;Ljava/lang/String;)V"⟩ 2 := by decide +kernel
theorem md_7edbe8 : md_ok ⟨"Ballothall", "ballots", "(I)I"⟩ 1 := by decide +kernel
theorem md_813ec5 : md_ok ⟨"Ballothall$Division", "<init>", "()V"⟩ 0 := by decide +kernel
theorem md_82c0f2 : md_ok ⟨"Ballothall$Natural", "multiply", "(LBallothall$Natural;LBallothall$Natural;)V"⟩ 2 := by decide +kernel
theorem md_843631 : md_ok ⟨"Ballothall$Council", "append", "(I)I"⟩ 1 := by decide +kernel
theorem md_844b65 : md_ok ⟨"java/lang/AbstractStringBuilder", "append", "(C)Ljava/lang/AbstractStringBuilder;"⟩ 1 := by decide +kernel
theorem md_8638f0 : md_ok ⟨"Ballothall$Counting", "unbalancedSteps", "(LBallothall$Count;)I"⟩ 1 := by decide +kernel
theorem md_8882e3 : md_ok ⟨"Ballothall", "strongestPath", "(II)I"⟩ 2 := by decide +kernel
theorem md_88ef4b : md_ok ⟨"Ballothall$Natural", "takeMultiple", "(LBallothall$Natural;I)I"⟩ 2 := by decide +kernel
theorem md_895fca : md_ok ⟨"Ballothall", "candidate", "()I"⟩ 0 := by decide +kernel
theorem md_8ab3bc : md_ok ⟨"Ballothall", "countErrors", "()I"⟩ 0 := by decide +kernel
theorem md_8c59c6 : md_ok ⟨"Ballothall", "ward", "(III)I"⟩ 3 := by decide +kernel
theorem md_8e4222 : md_ok ⟨"BallothallLaw$Box", "ahead", "(II)I"⟩ 2 := by decide +kernel
theorem md_91408d : md_ok ⟨"Ballothall$Division", "divisor", "(II)J"⟩ 2 := by decide +kernel
theorem md_950878 : md_ok ⟨"Ballothall$FalseBallot", "swap", "(II)V"⟩ 2 := by decide +kernel
theorem md_97847b : md_ok ⟨"Ballothall$Division", "distributeByRemainders", "(I)V"⟩ 1 := by decide +kernel
theorem md_98d1bc : md_ok ⟨"Ballothall$Council", "<init>", "()V"⟩ 0 := by decide +kernel
theorem md_9916ed : md_ok ⟨"Ballothall$Natural", "load", "([II)V"⟩ 2 := by decide +kernel
theorem md_99b449 : md_ok ⟨"Ballothall$Council", "isSwung", "(II)Z"⟩ 2 := by decide +kernel
theorem md_9be7b3 : md_ok ⟨"Ballothall$BallotBox", "kindOfTrial", "()I"⟩ 0 := by decide +kernel
theorem md_9c876f : md_ok ⟨"Ballothall$Counting", "multiply", "(LBallothall$Natural;LBallothall$Natural;)V"⟩ 2 := by decide +kernel
theorem md_9cd0b2 : md_ok ⟨"Ballothall$Council", "isOrderMissed", "()Z"⟩ 0 := by decide +kernel
theorem md_9cd983 : md_ok ⟨"java/lang/StringBuilder", "<init>", "()V"⟩ 0 := by decide +kernel
theorem md_9e18c6 : md_ok ⟨"Ballothall", "districtsWon", "(II)I"⟩ 2 := by decide +kernel
theorem md_9e8065 : md_ok ⟨"java/lang/String", "coder", "()B"⟩ 0 := by decide +kernel
theorem md_9eb116 : md_ok ⟨"Ballothall$Lists", "spread", "(III)I"⟩ 3 := by decide +kernel
theorem md_9f0e03 : md_ok ⟨"Ballothall$Division", "distribute", "(II)V"⟩ 2 := by decide +kernel
theorem md_9f64f5 : md_ok ⟨"BallothallLaw$Box", "solid", "(I)I"⟩ 1 := by decide +kernel
theorem md_9fa829 : md_ok ⟨"java/lang/String", "getBytes", "([BIB)V"⟩ 3 := by decide +kernel
theorem md_a0f53c : md_ok ⟨"Ballothall", "districtEnd", "(II)I"⟩ 2 := by decide +kernel
theorem md_a3a12c : md_ok ⟨"java/lang/String", "length", "()I"⟩ 0 := by decide +kernel
theorem md_a55234 : md_ok ⟨"Ballothall$Lists", "keepSpread", "()V"⟩ 0 := by decide +kernel
theorem md_a55e97 : md_ok ⟨"Ballothall$Wards", "greatestOf", "(II)I"⟩ 2 := by decide +kernel
theorem md_a5a18a : md_ok ⟨"Ballothall$FalseBallot", "<init>", "(LBallothall$BallotBox;LBallothall$Poll;)V"⟩ 2 := by decide +kernel
theorem md_a5c5f2 : md_ok ⟨"Ballothall$Poll", "findBeaten", "()V"⟩ 0 := by decide +kernel
theorem md_a689da : md_ok ⟨"Ballothall$KeptSeats", "<init>", "()V"⟩ 0 := by decide +kernel
theorem md_a7df80 : md_ok ⟨"Ballothall$Counting", "smallestPile", "()I"⟩ 0 := by decide +kernel
theorem md_a89aae : md_ok ⟨"Ballothall$Poll", "scoreTopsOf", "(I)V"⟩ 1 := by decide +kernel
theorem md_a8ce1c : md_ok ⟨"java/lang/StringBuilder", "toString", "()Ljava/lang/String;"⟩ 0 := by decide +kernel
theorem md_a90649 : md_ok ⟨"java/lang/StringLatin1", "charAt", "([BI)C"⟩ 2 := by decide +kernel
theorem md_aa27a3 : md_ok ⟨"Ballothall$BallotBox", "winsLot", "(II)Z"⟩ 2 := by decide +kernel
theorem md_aaaef5 : md_ok ⟨"Ballothall$Poll", "distanceWithFirst", "(II)J"⟩ 2 := by decide +kernel
theorem md_b0ab85 : md_ok ⟨"Ballothall", "consensusAt", "(I)I"⟩ 1 := by decide +kernel
theorem md_b238c2 : md_ok ⟨"Ballothall", "appendByte", "(I)V"⟩ 1 := by decide +kernel
theorem md_b41941 : md_ok ⟨"Ballothall$FalseBallot", "findKind", "(I)I"⟩ 1 := by decide +kernel
theorem md_b59579 : md_ok ⟨"Ballothall$BallotBox", "everybody", "()I"⟩ 0 := by decide +kernel
theorem md_b5a701 : md_ok ⟨"Ballothall$Lists", "spreadInside", "(III)V"⟩ 3 := by decide +kernel
theorem md_b5f468 : md_ok ⟨"Ballothall$Poll", "findPaths", "()V"⟩ 0 := by decide +kernel
theorem md_b67c3a : md_ok ⟨"Ballothall", "kindAt", "(IIZ)I"⟩ 3 := by decide +kernel
theorem md_b6fc12 : md_ok ⟨"Ballothall$Lists", "takeChangeBack", "(III)V"⟩ 3 := by decide +kernel
theorem md_b749d4 : md_ok ⟨"Ballothall$Lists", "append", "(I)I"⟩ 1 := by decide +kernel
theorem md_b91f95 : md_ok ⟨"Ballothall$BallotBox", "keepTrial", "()I"⟩ 0 := by decide +kernel
theorem md_ba9fe6 : md_ok ⟨"Ballothall$Poll", "smallestOf", "(I)I"⟩ 1 := by decide +kernel
theorem md_bc486d : md_ok ⟨"Ballothall$Council", "findSums", "()V"⟩ 0 := by decide +kernel
theorem md_be21d8 : md_ok ⟨"Ballothall$Poll", "smallestBeatingSet", "()I"⟩ 0 := by decide +kernel
theorem md_c007fa : md_ok ⟨"Ballothall$BallotBox", "findSupport", "([III)V"⟩ 3 := by decide +kernel
theorem md_c1a91d : md_ok ⟨"Ballothall", "ahead", "(II)I"⟩ 2 := by decide +kernel
theorem md_c271c2 : md_ok ⟨"Ballothall$Natural", "divide", "(LBallothall$Natural;LBallothall$Natural;LBallothall$Natural;)V"⟩ 3 := by decide +kernel
theorem md_c50573 : md_ok ⟨"Ballothall$Natural", "add", "(LBallothall$Natural;)V"⟩ 1 := by decide +kernel
theorem md_c6b535 : md_ok ⟨"Ballothall$Natural", "compareWith", "(LBallothall$Natural;)I"⟩ 1 := by decide +kernel
theorem md_c7d969 : md_ok ⟨"Ballothall", "list", "(I)I"⟩ 1 := by decide +kernel
theorem md_ca594d : md_ok ⟨"Ballothall$Counting", "exclude", "(LBallothall$Count;I)V"⟩ 2 := by decide +kernel
theorem md_caa1ec : md_ok ⟨"Ballothall", "member", "(I)I"⟩ 1 := by decide +kernel
theorem md_cb0049 : md_ok ⟨"Ballothall$Lists", "latest", "()LBallothall$KeptSeats;"⟩ 0 := by decide +kernel
theorem md_cb7d56 : md_ok ⟨"Ballothall$Counting", "greatestPile", "()I"⟩ 0 := by decide +kernel
theorem md_ce4f47 : md_ok ⟨"Ballothall", "greatestDistrict", "(I)I"⟩ 1 := by decide +kernel
theorem md_cf0c6c : md_ok ⟨"Ballothall$BallotBox", "<init>", "()V"⟩ 0 := by decide +kernel
theorem md_d00e86 : md_ok ⟨"java/lang/AbstractStringBuilder", "append", "(Ljava/lang/String;)Ljava/lang/AbstractStringBuilder;"⟩ 1 := by decide +kernel
theorem md_d03cf9 : md_ok ⟨"Ballothall", "takeChangeBack", "(III)V"⟩ 3 := by decide +kernel
theorem md_d05815 : md_ok ⟨"Ballothall", "takeBack", "(II)I"⟩ 2 := by decide +kernel
theorem md_d21c8e : md_ok ⟨"Ballothall", "pathWinners", "()I"⟩ 0 := by decide +kernel
theorem md_d241c4 : md_ok ⟨"java/lang/AbstractStringBuilder", "isLatin1", "()Z"⟩ 0 := by decide +kernel
theorem md_d4a1f1 : md_ok ⟨"java/lang/StringBuilder", "length", "()I"⟩ 0 := by decide +kernel
theorem md_d51d3b : md_ok ⟨"Ballothall$Wards", "append", "(III)I"⟩ 3 := by decide +kernel
theorem md_d65014 : md_ok ⟨"Ballothall", "errors", "()I"⟩ 0 := by decide +kernel
theorem md_d775df : md_ok ⟨"Ballothall$Poll", "change", "(II)V"⟩ 2 := by decide +kernel
theorem md_d7c82f : md_ok ⟨"Ballothall", "consensusDistance", "()J"⟩ 0 := by decide +kernel
theorem md_d7e64c : md_ok ⟨"Ballothall$Wards", "divide", "(I)I"⟩ 1 := by decide +kernel
theorem md_db4417 : md_ok ⟨"Ballothall", "electedAt", "(I)I"⟩ 1 := by decide +kernel
theorem md_dbe0d3 : md_ok ⟨"BallothallLaw$Box", "all", "()I"⟩ 0 := by decide +kernel
theorem md_dc78b4 : md_ok ⟨"Ballothall", "setQuota", "(I)I"⟩ 1 := by decide +kernel
theorem md_dc8747 : md_ok ⟨"Ballothall", "undo", "()I"⟩ 0 := by decide +kernel
theorem md_dc90bd : md_ok ⟨"Ballothall$BallotBox", "appendSign", "(I)V"⟩ 1 := by decide +kernel
theorem md_ddec8b : md_ok ⟨"Ballothall$BallotBox", "topOf", "(II)I"⟩ 2 := by decide +kernel
theorem md_de1341 : md_ok ⟨"Ballothall", "type", "(J)I"⟩ 1 := by decide +kernel
theorem md_de5466 : md_ok ⟨"Ballothall$Poll", "pointsOf", "(I)J"⟩ 1 := by decide +kernel
theorem md_e09a59 : md_ok ⟨"Ballothall$Counting", "start", "(LBallothall$Count;I)V"⟩ 2 := by decide +kernel
theorem md_e2c87f : md_ok ⟨"Ballothall$Count", "<init>", "()V"⟩ 0 := by decide +kernel
theorem md_e55fb8 : md_ok ⟨"Ballothall$Counting", "passSurplus", "(I)V"⟩ 1 := by decide +kernel
theorem md_e57826 : md_ok ⟨"Ballothall$Natural", "isOne", "()Z"⟩ 0 := by decide +kernel
theorem md_e8f65d : md_ok ⟨"java/util/Arrays", "fill", "([II)V"⟩ 2 := by decide +kernel
theorem md_e91d6f : md_ok ⟨"Ballothall$Counting", "isAhead", "(II)Z"⟩ 2 := by decide +kernel
theorem md_e931a9 : md_ok ⟨"Ballothall$Natural", "divideSmall", "(I)I"⟩ 1 := by decide +kernel
theorem md_eafa96 : md_ok ⟨"Ballothall$FalseBallot", "aheadOf", "(II)I"⟩ 2 := by decide +kernel
theorem md_eafe8c : md_ok ⟨"java/lang/Integer", "bitCount", "(I)I"⟩ 1 := by decide +kernel
theorem md_ebdc38 : md_ok ⟨"Ballothall$BallotBox", "ballotsOf", "([II)I"⟩ 2 := by decide +kernel
theorem md_ec9fa9 : md_ok ⟨"Ballothall", "needRoom", "(II)V"⟩ 2 := by decide +kernel
theorem md_ed76b8 : md_ok ⟨"Ballothall$BallotBox", "isLikeTrial", "(I)Z"⟩ 1 := by decide +kernel
theorem md_ed8a19 : md_ok ⟨"Ballothall", "transferable", "(I)I"⟩ 1 := by decide +kernel
theorem md_f30417 : md_ok ⟨"Ballothall$Poll", "findScores", "(I)V"⟩ 1 := by decide +kernel
theorem md_f3ef4d : md_ok ⟨"BallothallLaw", "gains", "(LBallothall;LBallothallLaw$Box;[I)Z"⟩ 3 := by decide +kernel
theorem md_f4341f : md_ok ⟨"Ballothall$BallotBox", "rankOf", "(II)I"⟩ 2 := by decide +kernel
theorem md_f590f3 : md_ok ⟨"Ballothall$Counting", "<init>", "(LBallothall$BallotBox;)V"⟩ 1 := by decide +kernel
theorem md_f62da8 : md_ok ⟨"Ballothall$Wards", "firstEnd", "(III)I"⟩ 3 := by decide +kernel
theorem md_fa4516 : md_ok ⟨"Ballothall$Counting", "holdCount", "(I)I"⟩ 1 := by decide +kernel
theorem md_fa578c : md_ok ⟨"Ballothall", "swings", "(I)I"⟩ 1 := by decide +kernel
theorem md_fa5ec4 : md_ok ⟨"Ballothall", "outputByte", "(I)I"⟩ 1 := by decide +kernel
theorem md_fbc403 : md_ok ⟨"Ballothall", "seats", "(III)I"⟩ 3 := by decide +kernel
theorem md_fbcadc : md_ok ⟨"Ballothall", "gain", "(I)I"⟩ 1 := by decide +kernel
theorem md_fc3851 : md_ok ⟨"Ballothall$FalseBallot", "writeTrial", "()V"⟩ 0 := by decide +kernel
theorem md_fd11b7 : md_ok ⟨"BallothallLaw", "divisor", "(II)I"⟩ 2 := by decide +kernel
theorem md_fff193 : md_ok ⟨"Ballothall$Lists", "isFirstOfUnit", "(I)Z"⟩ 1 := by decide +kernel
theorem w_min : Cond.code Lib.Math.min.name Lib.Math.min.code 2 (some .int) ∈ WG := wg_t (by decide +kernel) rfl
theorem w_max : Cond.code Lib.Math.max.name Lib.Math.max.code 2 (some .int) ∈ WG := wg_t (by decide +kernel) rfl
theorem w_minL : Cond.code Lib.MathLoose.min_long.x Lib.MathLoose.min_long.code 4 (some .long) ∈ WG := wg_t (by decide +kernel) rfl
