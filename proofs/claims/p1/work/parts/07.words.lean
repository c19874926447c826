/-! words of the tables by their places (printed by wip/p1/gen) -/
theorem wu1 {w : Cond} (h : w ∈ tables_1_1) : w ∈ tables_1 := List.mem_append_left _ h
theorem wu2 {w : Cond} (h : w ∈ tables_1_2) : w ∈ tables_1 := List.mem_append_right _ (List.mem_append_left _ h)
theorem wu3 {w : Cond} (h : w ∈ tables_1_3) : w ∈ tables_1 := List.mem_append_right _ (List.mem_append_right _ (List.mem_append_left _ h))
theorem wu4 {w : Cond} (h : w ∈ tables_1_4) : w ∈ tables_1 := List.mem_append_right _ (List.mem_append_right _ (List.mem_append_right _ (List.mem_append_left _ h)))
theorem wu5 {w : Cond} (h : w ∈ tables_1_5) : w ∈ tables_1 := List.mem_append_right _ (List.mem_append_right _ (List.mem_append_right _ (List.mem_append_right _ (List.mem_append_left _ h))))
theorem wu6 {w : Cond} (h : w ∈ tables_1_6) : w ∈ tables_1 := List.mem_append_right _ (List.mem_append_right _ (List.mem_append_right _ (List.mem_append_right _ (List.mem_append_right _ (List.mem_append_left _ h)))))
theorem wu7 {w : Cond} (h : w ∈ tables_1_7) : w ∈ tables_1 := List.mem_append_right _ (List.mem_append_right _ (List.mem_append_right _ (List.mem_append_right _ (List.mem_append_right _ (List.mem_append_right _ (List.mem_append_left _ h))))))
theorem wu8 {w : Cond} (h : w ∈ tables_1_8) : w ∈ tables_1 := List.mem_append_right _ (List.mem_append_right _ (List.mem_append_right _ (List.mem_append_right _ (List.mem_append_right _ (List.mem_append_right _ (List.mem_append_right _ (List.mem_append_left _ h)))))))
theorem wu9 {w : Cond} (h : w ∈ tables_1_9) : w ∈ tables_1 := List.mem_append_right _ (List.mem_append_right _ (List.mem_append_right _ (List.mem_append_right _ (List.mem_append_right _ (List.mem_append_right _ (List.mem_append_right _ (List.mem_append_right _ (List.mem_append_left _ h))))))))
theorem wu10 {w : Cond} (h : w ∈ tables_1_10) : w ∈ tables_1 := List.mem_append_right _ (List.mem_append_right _ (List.mem_append_right _ (List.mem_append_right _ (List.mem_append_right _ (List.mem_append_right _ (List.mem_append_right _ (List.mem_append_right _ (List.mem_append_right _ (List.mem_append_left _ h)))))))))
theorem wu11 {w : Cond} (h : w ∈ tables_1_11) : w ∈ tables_1 := List.mem_append_right _ (List.mem_append_right _ (List.mem_append_right _ (List.mem_append_right _ (List.mem_append_right _ (List.mem_append_right _ (List.mem_append_right _ (List.mem_append_right _ (List.mem_append_right _ (List.mem_append_right _ (h))))))))))
theorem wp1 {w : MethodName × Nat} (h : w ∈ lw_privs_1) : w ∈ lw_privs := List.mem_append_left _ h
theorem wp2 {w : MethodName × Nat} (h : w ∈ lw_privs_2) : w ∈ lw_privs := List.mem_append_right _ (List.mem_append_left _ h)
theorem wp3 {w : MethodName × Nat} (h : w ∈ lw_privs_3) : w ∈ lw_privs := List.mem_append_right _ (List.mem_append_right _ (List.mem_append_left _ h))
theorem wp4 {w : MethodName × Nat} (h : w ∈ lw_privs_4) : w ∈ lw_privs := List.mem_append_right _ (List.mem_append_right _ (List.mem_append_right _ (List.mem_append_left _ h)))
theorem wp5 {w : MethodName × Nat} (h : w ∈ lw_privs_5) : w ∈ lw_privs := List.mem_append_right _ (List.mem_append_right _ (List.mem_append_right _ (List.mem_append_right _ (List.mem_append_left _ h))))
theorem wp6 {w : MethodName × Nat} (h : w ∈ lw_privs_6) : w ∈ lw_privs := List.mem_append_right _ (List.mem_append_right _ (List.mem_append_right _ (List.mem_append_right _ (List.mem_append_right _ (List.mem_append_left _ h)))))
theorem wp7 {w : MethodName × Nat} (h : w ∈ lw_privs_7) : w ∈ lw_privs := List.mem_append_right _ (List.mem_append_right _ (List.mem_append_right _ (List.mem_append_right _ (List.mem_append_right _ (List.mem_append_right _ (List.mem_append_left _ h))))))
theorem wp8 {w : MethodName × Nat} (h : w ∈ lw_privs_8) : w ∈ lw_privs := List.mem_append_right _ (List.mem_append_right _ (List.mem_append_right _ (List.mem_append_right _ (List.mem_append_right _ (List.mem_append_right _ (List.mem_append_right _ (List.mem_append_left _ h)))))))
theorem wp9 {w : MethodName × Nat} (h : w ∈ lw_privs_9) : w ∈ lw_privs := List.mem_append_right _ (List.mem_append_right _ (List.mem_append_right _ (List.mem_append_right _ (List.mem_append_right _ (List.mem_append_right _ (List.mem_append_right _ (List.mem_append_right _ (List.mem_append_left _ h))))))))
theorem wp10 {w : MethodName × Nat} (h : w ∈ lw_privs_10) : w ∈ lw_privs := List.mem_append_right _ (List.mem_append_right _ (List.mem_append_right _ (List.mem_append_right _ (List.mem_append_right _ (List.mem_append_right _ (List.mem_append_right _ (List.mem_append_right _ (List.mem_append_right _ (List.mem_append_left _ h)))))))))
theorem wp11 {w : MethodName × Nat} (h : w ∈ lw_privs_11) : w ∈ lw_privs := List.mem_append_right _ (List.mem_append_right _ (List.mem_append_right _ (List.mem_append_right _ (List.mem_append_right _ (List.mem_append_right _ (List.mem_append_right _ (List.mem_append_right _ (List.mem_append_right _ (List.mem_append_right _ (h))))))))))
theorem w_0 : Cond.initialized "BallothallLaw" ∈ WG := wg_t (wu1 (List.mem_of_getElem? (i := 0) rfl)) rfl
theorem w_1 : Cond.initialized "Ballothall" ∈ WG := wg_t (wu1 (List.mem_of_getElem? (i := 1) rfl)) rfl
theorem w_2 : Cond.initialized "Ballothall$BallotBox" ∈ WG := wg_t (wu1 (List.mem_of_getElem? (i := 2) rfl)) rfl
theorem w_3 : Cond.initialized "Ballothall$Poll" ∈ WG := wg_t (wu1 (List.mem_of_getElem? (i := 3) rfl)) rfl
theorem w_4 : Cond.initialized "Ballothall$FalseBallot" ∈ WG := wg_t (wu1 (List.mem_of_getElem? (i := 4) rfl)) rfl
theorem w_5 : Cond.initialized "Ballothall$Lists" ∈ WG := wg_t (wu1 (List.mem_of_getElem? (i := 5) rfl)) rfl
theorem w_6 : Cond.initialized "Ballothall$Division" ∈ WG := wg_t (wu1 (List.mem_of_getElem? (i := 6) rfl)) rfl
theorem w_7 : Cond.initialized "Ballothall$KeptSeats" ∈ WG := wg_t (wu1 (List.mem_of_getElem? (i := 7) rfl)) rfl
theorem w_8 : Cond.initialized "Ballothall$Counting" ∈ WG := wg_t (wu1 (List.mem_of_getElem? (i := 8) rfl)) rfl
theorem w_9 : Cond.initialized "Ballothall$Natural" ∈ WG := wg_t (wu1 (List.mem_of_getElem? (i := 9) rfl)) rfl
theorem w_10 : Cond.initialized "Ballothall$Wards" ∈ WG := wg_t (wu1 (List.mem_of_getElem? (i := 10) rfl)) rfl
theorem w_11 : Cond.initialized "Ballothall$Council" ∈ WG := wg_t (wu1 (List.mem_of_getElem? (i := 11) rfl)) rfl
theorem w_12 : Cond.initialized "BallothallModel" ∈ WG := wg_t (wu1 (List.mem_of_getElem? (i := 12) rfl)) rfl
theorem w_13 : Cond.initialized "BallothallModel$State" ∈ WG := wg_t (wu1 (List.mem_of_getElem? (i := 13) rfl)) rfl
theorem w_17 : Cond.initialized "java/lang/IllegalStateException" ∈ WG := wg_t (wu1 (List.mem_of_getElem? (i := 17) rfl)) rfl
theorem w_18 : Cond.initialized "java/lang/Math" ∈ WG := wg_t (wu1 (List.mem_of_getElem? (i := 18) rfl)) rfl
theorem w_19 : Cond.initialized "java/lang/System" ∈ WG := wg_t (wu1 (List.mem_of_getElem? (i := 19) rfl)) rfl
theorem w_20 : Cond.initialized "java/lang/IndexOutOfBoundsException" ∈ WG := wg_t (wu1 (List.mem_of_getElem? (i := 20) rfl)) rfl
theorem w_21 : Cond.initialized "java/lang/IllegalArgumentException" ∈ WG := wg_t (wu1 (List.mem_of_getElem? (i := 21) rfl)) rfl
theorem w_22 : Cond.initialized "java/util/Arrays" ∈ WG := wg_t (wu1 (List.mem_of_getElem? (i := 22) rfl)) rfl
theorem w_23 : Cond.initialized "BallothallModel$Kind" ∈ WG := wg_t (wu1 (List.mem_of_getElem? (i := 23) rfl)) rfl
theorem w_24 : Cond.initialized "BallothallModel$Seats" ∈ WG := wg_t (wu1 (List.mem_of_getElem? (i := 24) rfl)) rfl
theorem w_25 : Cond.initialized "BallothallModel$Sharing" ∈ WG := wg_t (wu1 (List.mem_of_getElem? (i := 25) rfl)) rfl
theorem w_26 : Cond.initialized "java/util/NoSuchElementException" ∈ WG := wg_t (wu1 (List.mem_of_getElem? (i := 26) rfl)) rfl
theorem w_28 : Cond.initialized "java/lang/Integer" ∈ WG := wg_t (wu1 (List.mem_of_getElem? (i := 28) rfl)) rfl
theorem w_36 : Cond.initialized "BallothallModel$Poll" ∈ WG := wg_t (wu1 (List.mem_of_getElem? (i := 36) rfl)) rfl
theorem w_37 : Cond.classLink "BallothallLaw" 8 "Ballothall" ∈ WG := wg_t (wu1 (List.mem_of_getElem? (i := 37) rfl)) rfl
theorem w_38 : Cond.instantiable "Ballothall" 14 ∈ WG := wg_t (wu1 (List.mem_of_getElem? (i := 38) rfl)) rfl
theorem w_39 : Cond.methodLink "BallothallLaw" 150 ⟨"Ballothall", "<init>", "()V"⟩ ∈ WG := wg_t (wu1 (List.mem_of_getElem? (i := 39) rfl)) rfl
theorem w_40 : Cond.instanceMethod ⟨"Ballothall", "<init>", "()V"⟩ ∈ WG := wg_t (wu1 (List.mem_of_getElem? (i := 40) rfl)) rfl
theorem w_41 : Cond.code ⟨"Ballothall", "<init>", "()V"⟩ prog_1_method_1_code 1 none ∈ WG := wg_t (wu1 (List.mem_of_getElem? (i := 41) rfl)) rfl
theorem w_42 : Cond.methodLink "Ballothall" 3 ⟨"java/lang/Object", "<init>", "()V"⟩ ∈ WG := wg_t (wu1 (List.mem_of_getElem? (i := 42) rfl)) rfl
theorem w_43 : Cond.instanceMethod ⟨"java/lang/Object", "<init>", "()V"⟩ ∈ WG := wg_t (wu1 (List.mem_of_getElem? (i := 43) rfl)) rfl
theorem w_45 : Cond.classLink "Ballothall" 9 "Ballothall$BallotBox" ∈ WG := wg_t (wu1 (List.mem_of_getElem? (i := 45) rfl)) rfl
theorem w_46 : Cond.instantiable "Ballothall$BallotBox" 10 ∈ WG := wg_t (wu1 (List.mem_of_getElem? (i := 46) rfl)) rfl
theorem w_48 : Cond.instanceMethod ⟨"Ballothall$BallotBox", "<init>", "()V"⟩ ∈ WG := wg_t (wu1 (List.mem_of_getElem? (i := 48) rfl)) rfl
theorem w_49 : Cond.code ⟨"Ballothall$BallotBox", "<init>", "()V"⟩ prog_2_method_1_code 1 none ∈ WG := wg_t (wu1 (List.mem_of_getElem? (i := 49) rfl)) rfl
theorem w_50 : Cond.methodLink "Ballothall$BallotBox" 3 ⟨"java/lang/Object", "<init>", "()V"⟩ ∈ WG := wg_t (wu1 (List.mem_of_getElem? (i := 50) rfl)) rfl
theorem w_51 : Cond.classLink "Ballothall$BallotBox" 27 "[[I" ∈ WG := wg_t (wu1 (List.mem_of_getElem? (i := 51) rfl)) rfl
theorem w_53 : Cond.fieldLink "Ballothall$BallotBox" 9 "Ballothall$BallotBox" "sign" "[I" ∈ WG := wg_t (wu1 (List.mem_of_getElem? (i := 53) rfl)) rfl
theorem w_55 : Cond.fieldLink "Ballothall$BallotBox" 39 "Ballothall$BallotBox" "signs" "I" ∈ WG := wg_t (wu1 (List.mem_of_getElem? (i := 55) rfl)) rfl
theorem w_56 : Cond.fieldLink "Ballothall$BallotBox" 35 "Ballothall$BallotBox" "candidates" "I" ∈ WG := wg_t (wu1 (List.mem_of_getElem? (i := 56) rfl)) rfl
theorem w_65 : Cond.fieldLink "Ballothall$BallotBox" 65 "Ballothall$BallotBox" "kinds" "I" ∈ WG := wg_t (wu1 (List.mem_of_getElem? (i := 65) rfl)) rfl
theorem w_66 : Cond.fieldLink "Ballothall$BallotBox" 15 "Ballothall$BallotBox" "lot" "[I" ∈ WG := wg_t (wu1 (List.mem_of_getElem? (i := 66) rfl)) rfl
theorem w_68 : Cond.fieldLink "Ballothall$BallotBox" 18 "Ballothall$BallotBox" "count" "[I" ∈ WG := wg_t (wu1 (List.mem_of_getElem? (i := 68) rfl)) rfl
theorem w_73 : Cond.fieldLink "Ballothall$BallotBox" 21 "Ballothall$BallotBox" "approved" "[I" ∈ WG := wg_t (wu1 (List.mem_of_getElem? (i := 73) rfl)) rfl
theorem w_77 : Cond.fieldLink "Ballothall$BallotBox" 24 "Ballothall$BallotBox" "groups" "[I" ∈ WG := wg_t (wu1 (List.mem_of_getElem? (i := 77) rfl)) rfl
theorem w_79 : Cond.fieldLink "Ballothall$BallotBox" 29 "Ballothall$BallotBox" "group" "[[I" ∈ WG := wg_t (wu1 (List.mem_of_getElem? (i := 79) rfl)) rfl
theorem w_82 : Cond.fieldLink "Ballothall$BallotBox" 32 "Ballothall$BallotBox" "support" "[I" ∈ WG := wg_t (wu1 (List.mem_of_getElem? (i := 82) rfl)) rfl
theorem w_105 : Cond.arrayClass .int ∈ WG := wg_t (wu1 (List.mem_of_getElem? (i := 105) rfl)) rfl
theorem w_106 : Cond.classLink "Ballothall" 16 "Ballothall$Poll" ∈ WG := wg_t (wu1 (List.mem_of_getElem? (i := 106) rfl)) rfl
theorem w_107 : Cond.instantiable "Ballothall$Poll" 12 ∈ WG := wg_t (wu1 (List.mem_of_getElem? (i := 107) rfl)) rfl
theorem w_109 : Cond.instanceMethod ⟨"Ballothall$Poll", "<init>", "(LBallothall$BallotBox;)V"⟩ ∈ WG := wg_t (wu1 (List.mem_of_getElem? (i := 109) rfl)) rfl
theorem w_110 : Cond.code ⟨"Ballothall$Poll", "<init>", "(LBallothall$BallotBox;)V"⟩ prog_11_method_1_code 2 none ∈ WG := wg_t (wu1 (List.mem_of_getElem? (i := 110) rfl)) rfl
theorem w_111 : Cond.methodLink "Ballothall$Poll" 3 ⟨"java/lang/Object", "<init>", "()V"⟩ ∈ WG := wg_t (wu1 (List.mem_of_getElem? (i := 111) rfl)) rfl
theorem w_112 : Cond.fieldLink "Ballothall$Poll" 40 "Ballothall$Poll" "box" "LBallothall$BallotBox;" ∈ WG := wg_t (wu1 (List.mem_of_getElem? (i := 112) rfl)) rfl
theorem w_113 : Cond.fieldLink "Ballothall$Poll" 44 "Ballothall$Poll" "present" "I" ∈ WG := wg_t (wu1 (List.mem_of_getElem? (i := 113) rfl)) rfl
theorem w_114 : Cond.fieldLink "Ballothall$Poll" 48 "Ballothall$Poll" "ballots" "I" ∈ WG := wg_t (wu1 (List.mem_of_getElem? (i := 114) rfl)) rfl
theorem w_115 : Cond.fieldLink "Ballothall$Poll" 9 "Ballothall$Poll" "weight" "[I" ∈ WG := wg_t (wu1 (List.mem_of_getElem? (i := 115) rfl)) rfl
theorem w_116 : Cond.fieldLink "Ballothall$Poll" 15 "Ballothall$Poll" "firsts" "[I" ∈ WG := wg_t (wu1 (List.mem_of_getElem? (i := 116) rfl)) rfl
theorem w_117 : Cond.fieldLink "Ballothall$Poll" 18 "Ballothall$Poll" "approvals" "[I" ∈ WG := wg_t (wu1 (List.mem_of_getElem? (i := 117) rfl)) rfl
theorem w_118 : Cond.fieldLink "Ballothall$Poll" 21 "Ballothall$Poll" "pairs" "[I" ∈ WG := wg_t (wu1 (List.mem_of_getElem? (i := 118) rfl)) rfl
theorem w_119 : Cond.fieldLink "Ballothall$Poll" 24 "Ballothall$Poll" "beaten" "[I" ∈ WG := wg_t (wu1 (List.mem_of_getElem? (i := 119) rfl)) rfl
theorem w_120 : Cond.fieldLink "Ballothall$Poll" 27 "Ballothall$Poll" "paths" "[I" ∈ WG := wg_t (wu1 (List.mem_of_getElem? (i := 120) rfl)) rfl
theorem w_121 : Cond.fieldLink "Ballothall$Poll" 30 "Ballothall$Poll" "score" "[J" ∈ WG := wg_t (wu1 (List.mem_of_getElem? (i := 121) rfl)) rfl
theorem w_123 : Cond.fieldLink "Ballothall$Poll" 34 "Ballothall$Poll" "order" "[I" ∈ WG := wg_t (wu1 (List.mem_of_getElem? (i := 123) rfl)) rfl
theorem w_125 : Cond.fieldLink "Ballothall$Poll" 37 "Ballothall$Poll" "distance" "[J" ∈ WG := wg_t (wu1 (List.mem_of_getElem? (i := 125) rfl)) rfl
theorem w_152 : Cond.arrayClass .long ∈ WG := wg_t (wu1 (List.mem_of_getElem? (i := 152) rfl)) rfl
theorem w_153 : Cond.classLink "Ballothall" 25 "Ballothall$FalseBallot" ∈ WG := wg_t (wu1 (List.mem_of_getElem? (i := 153) rfl)) rfl
theorem w_154 : Cond.instantiable "Ballothall$FalseBallot" 3 ∈ WG := wg_t (wu1 (List.mem_of_getElem? (i := 154) rfl)) rfl
theorem w_156 : Cond.instanceMethod ⟨"Ballothall$FalseBallot", "<init>", "(LBallothall$BallotBox;LBallothall$Poll;)V"⟩ ∈ WG := wg_t (wu1 (List.mem_of_getElem? (i := 156) rfl)) rfl
theorem w_157 : Cond.code ⟨"Ballothall$FalseBallot", "<init>", "(LBallothall$BallotBox;LBallothall$Poll;)V"⟩ prog_7_method_1_code 3 none ∈ WG := wg_t (wu1 (List.mem_of_getElem? (i := 157) rfl)) rfl
theorem w_158 : Cond.methodLink "Ballothall$FalseBallot" 3 ⟨"java/lang/Object", "<init>", "()V"⟩ ∈ WG := wg_t (wu1 (List.mem_of_getElem? (i := 158) rfl)) rfl
theorem w_159 : Cond.fieldLink "Ballothall$FalseBallot" 15 "Ballothall$FalseBallot" "box" "LBallothall$BallotBox;" ∈ WG := wg_t (wu1 (List.mem_of_getElem? (i := 159) rfl)) rfl
theorem w_160 : Cond.fieldLink "Ballothall$FalseBallot" 19 "Ballothall$FalseBallot" "poll" "LBallothall$Poll;" ∈ WG := wg_t (wu1 (List.mem_of_getElem? (i := 160) rfl)) rfl
theorem w_161 : Cond.fieldLink "Ballothall$FalseBallot" 9 "Ballothall$FalseBallot" "order" "[I" ∈ WG := wg_t (wu1 (List.mem_of_getElem? (i := 161) rfl)) rfl
theorem w_170 : Cond.classLink "Ballothall" 34 "Ballothall$Lists" ∈ WG := wg_t (wu1 (List.mem_of_getElem? (i := 170) rfl)) rfl
theorem w_171 : Cond.instantiable "Ballothall$Lists" 11 ∈ WG := wg_t (wu1 (List.mem_of_getElem? (i := 171) rfl)) rfl
theorem w_173 : Cond.instanceMethod ⟨"Ballothall$Lists", "<init>", "()V"⟩ ∈ WG := wg_t (wu1 (List.mem_of_getElem? (i := 173) rfl)) rfl
theorem w_174 : Cond.code ⟨"Ballothall$Lists", "<init>", "()V"⟩ prog_9_method_1_code 2 none ∈ WG := wg_t (wu1 (List.mem_of_getElem? (i := 174) rfl)) rfl
theorem w_175 : Cond.methodLink "Ballothall$Lists" 3 ⟨"java/lang/Object", "<init>", "()V"⟩ ∈ WG := wg_t (wu1 (List.mem_of_getElem? (i := 175) rfl)) rfl
theorem w_176 : Cond.classLink "Ballothall$Lists" 21 "Ballothall$Division" ∈ WG := wg_t (wu1 (List.mem_of_getElem? (i := 176) rfl)) rfl
theorem w_177 : Cond.instantiable "Ballothall$Division" 8 ∈ WG := wg_t (wu1 (List.mem_of_getElem? (i := 177) rfl)) rfl
theorem w_179 : Cond.instanceMethod ⟨"Ballothall$Division", "<init>", "()V"⟩ ∈ WG := wg_t (wu1 (List.mem_of_getElem? (i := 179) rfl)) rfl
theorem w_180 : Cond.code ⟨"Ballothall$Division", "<init>", "()V"⟩ prog_6_method_1_code 1 none ∈ WG := wg_t (wu1 (List.mem_of_getElem? (i := 180) rfl)) rfl
theorem w_181 : Cond.methodLink "Ballothall$Division" 3 ⟨"java/lang/Object", "<init>", "()V"⟩ ∈ WG := wg_t (wu1 (List.mem_of_getElem? (i := 181) rfl)) rfl
theorem w_182 : Cond.fieldLink "Ballothall$Division" 31 "Ballothall$Division" "parties" "I" ∈ WG := wg_t (wu1 (List.mem_of_getElem? (i := 182) rfl)) rfl
theorem w_184 : Cond.fieldLink "Ballothall$Division" 35 "Ballothall$Division" "given" "I" ∈ WG := wg_t (wu1 (List.mem_of_getElem? (i := 184) rfl)) rfl
theorem w_186 : Cond.fieldLink "Ballothall$Division" 9 "Ballothall$Division" "number" "[I" ∈ WG := wg_t (wu1 (List.mem_of_getElem? (i := 186) rfl)) rfl
theorem w_188 : Cond.fieldLink "Ballothall$Division" 15 "Ballothall$Division" "votes" "[J" ∈ WG := wg_t (wu1 (List.mem_of_getElem? (i := 188) rfl)) rfl
theorem w_189 : Cond.fieldLink "Ballothall$Division" 19 "Ballothall$Division" "lot" "[I" ∈ WG := wg_t (wu1 (List.mem_of_getElem? (i := 189) rfl)) rfl
theorem w_190 : Cond.fieldLink "Ballothall$Division" 22 "Ballothall$Division" "seats" "[I" ∈ WG := wg_t (wu1 (List.mem_of_getElem? (i := 190) rfl)) rfl
theorem w_192 : Cond.fieldLink "Ballothall$Division" 25 "Ballothall$Division" "remainder" "[J" ∈ WG := wg_t (wu1 (List.mem_of_getElem? (i := 192) rfl)) rfl
theorem w_193 : Cond.fieldLink "Ballothall$Division" 28 "Ballothall$Division" "order" "[I" ∈ WG := wg_t (wu1 (List.mem_of_getElem? (i := 193) rfl)) rfl
theorem w_212 : Cond.classLink "Ballothall$Lists" 37 "Ballothall$KeptSeats" ∈ WG := wg_t (wu1 (List.mem_of_getElem? (i := 212) rfl)) rfl
theorem w_214 : Cond.instantiable "Ballothall$KeptSeats" 7 ∈ WG := wg_t (wu1 (List.mem_of_getElem? (i := 214) rfl)) rfl
theorem w_216 : Cond.instanceMethod ⟨"Ballothall$KeptSeats", "<init>", "()V"⟩ ∈ WG := wg_t (wu1 (List.mem_of_getElem? (i := 216) rfl)) rfl
theorem w_217 : Cond.code ⟨"Ballothall$KeptSeats", "<init>", "()V"⟩ prog_8_method_1_code 1 none ∈ WG := wg_t (wu1 (List.mem_of_getElem? (i := 217) rfl)) rfl
theorem w_218 : Cond.methodLink "Ballothall$KeptSeats" 3 ⟨"java/lang/Object", "<init>", "()V"⟩ ∈ WG := wg_t (wu1 (List.mem_of_getElem? (i := 218) rfl)) rfl
theorem w_224 : Cond.fieldLink "Ballothall$KeptSeats" 9 "Ballothall$KeptSeats" "order" "[I" ∈ WG := wg_t (wu1 (List.mem_of_getElem? (i := 224) rfl)) rfl
theorem w_227 : Cond.fieldLink "Ballothall$KeptSeats" 15 "Ballothall$KeptSeats" "got" "[I" ∈ WG := wg_t (wu1 (List.mem_of_getElem? (i := 227) rfl)) rfl
theorem w_230 : Cond.fieldLink "Ballothall$KeptSeats" 18 "Ballothall$KeptSeats" "votes" "[I" ∈ WG := wg_t (wu1 (List.mem_of_getElem? (i := 230) rfl)) rfl
theorem w_232 : Cond.fieldLink "Ballothall$KeptSeats" 21 "Ballothall$KeptSeats" "alliance" "[I" ∈ WG := wg_t (wu1 (List.mem_of_getElem? (i := 232) rfl)) rfl
theorem w_249 : Cond.fieldLink "Ballothall$Lists" 44 "Ballothall$Lists" "size" "I" ∈ WG := wg_t (wu2 (List.mem_of_getElem? (i := 9) rfl)) rfl
theorem w_251 : Cond.fieldLink "Ballothall$Lists" 9 "Ballothall$Lists" "votes" "[I" ∈ WG := wg_t (wu2 (List.mem_of_getElem? (i := 11) rfl)) rfl
theorem w_253 : Cond.fieldLink "Ballothall$Lists" 15 "Ballothall$Lists" "alliance" "[I" ∈ WG := wg_t (wu2 (List.mem_of_getElem? (i := 13) rfl)) rfl
theorem w_255 : Cond.fieldLink "Ballothall$Lists" 18 "Ballothall$Lists" "lot" "[I" ∈ WG := wg_t (wu2 (List.mem_of_getElem? (i := 15) rfl)) rfl
theorem w_257 : Cond.fieldLink "Ballothall$Lists" 24 "Ballothall$Lists" "units" "LBallothall$Division;" ∈ WG := wg_t (wu2 (List.mem_of_getElem? (i := 17) rfl)) rfl
theorem w_258 : Cond.fieldLink "Ballothall$Lists" 28 "Ballothall$Lists" "inside" "LBallothall$Division;" ∈ WG := wg_t (wu2 (List.mem_of_getElem? (i := 18) rfl)) rfl
theorem w_259 : Cond.fieldLink "Ballothall$Lists" 54 "Ballothall$Lists" "isAllied" "Z" ∈ WG := wg_t (wu2 (List.mem_of_getElem? (i := 19) rfl)) rfl
theorem w_260 : Cond.fieldLink "Ballothall$Lists" 31 "Ballothall$Lists" "got" "[I" ∈ WG := wg_t (wu2 (List.mem_of_getElem? (i := 20) rfl)) rfl
theorem w_261 : Cond.fieldLink "Ballothall$Lists" 34 "Ballothall$Lists" "gotBefore" "[I" ∈ WG := wg_t (wu2 (List.mem_of_getElem? (i := 21) rfl)) rfl
theorem w_262 : Cond.fieldLink "Ballothall$Lists" 39 "Ballothall$Lists" "kept" "[LBallothall$KeptSeats;" ∈ WG := wg_t (wu2 (List.mem_of_getElem? (i := 22) rfl)) rfl
theorem w_263 : Cond.fieldLink "Ballothall$Lists" 48 "Ballothall$Lists" "newest" "I" ∈ WG := wg_t (wu2 (List.mem_of_getElem? (i := 23) rfl)) rfl
theorem w_287 : Cond.classLink "Ballothall" 41 "Ballothall$Counting" ∈ WG := wg_t (wu2 (List.mem_of_getElem? (i := 47) rfl)) rfl
theorem w_288 : Cond.instantiable "Ballothall$Counting" 15 ∈ WG := wg_t (wu2 (List.mem_of_getElem? (i := 48) rfl)) rfl
theorem w_290 : Cond.instanceMethod ⟨"Ballothall$Counting", "<init>", "(LBallothall$BallotBox;)V"⟩ ∈ WG := wg_t (wu2 (List.mem_of_getElem? (i := 50) rfl)) rfl
theorem w_291 : Cond.code ⟨"Ballothall$Counting", "<init>", "(LBallothall$BallotBox;)V"⟩ prog_5_method_1_code 3 none ∈ WG := wg_t (wu2 (List.mem_of_getElem? (i := 51) rfl)) rfl
theorem w_292 : Cond.methodLink "Ballothall$Counting" 3 ⟨"java/lang/Object", "<init>", "()V"⟩ ∈ WG := wg_t (wu2 (List.mem_of_getElem? (i := 52) rfl)) rfl
theorem w_293 : Cond.classLink "Ballothall$Counting" 9 "Ballothall$Count" ∈ WG := wg_t (wu2 (List.mem_of_getElem? (i := 53) rfl)) rfl
theorem w_295 : Cond.classLink "Ballothall$Counting" 17 "Ballothall$Natural" ∈ WG := wg_t (wu2 (List.mem_of_getElem? (i := 55) rfl)) rfl
theorem w_297 : Cond.instantiable "Ballothall$Natural" 2 ∈ WG := wg_t (wu2 (List.mem_of_getElem? (i := 57) rfl)) rfl
theorem w_299 : Cond.instanceMethod ⟨"Ballothall$Natural", "<init>", "()V"⟩ ∈ WG := wg_t (wu2 (List.mem_of_getElem? (i := 59) rfl)) rfl
theorem w_300 : Cond.code ⟨"Ballothall$Natural", "<init>", "()V"⟩ prog_10_method_1_code 1 none ∈ WG := wg_t (wu2 (List.mem_of_getElem? (i := 60) rfl)) rfl
theorem w_301 : Cond.methodLink "Ballothall$Natural" 3 ⟨"java/lang/Object", "<init>", "()V"⟩ ∈ WG := wg_t (wu2 (List.mem_of_getElem? (i := 61) rfl)) rfl
theorem w_302 : Cond.fieldLink "Ballothall$Natural" 9 "Ballothall$Natural" "limb" "[I" ∈ WG := wg_t (wu2 (List.mem_of_getElem? (i := 62) rfl)) rfl
theorem w_311 : Cond.fieldLink "Ballothall$Counting" 55 "Ballothall$Counting" "box" "LBallothall$BallotBox;" ∈ WG := wg_t (wu2 (List.mem_of_getElem? (i := 71) rfl)) rfl
theorem w_312 : Cond.fieldLink "Ballothall$Counting" 11 "Ballothall$Counting" "kept" "[LBallothall$Count;" ∈ WG := wg_t (wu2 (List.mem_of_getElem? (i := 72) rfl)) rfl
theorem w_313 : Cond.fieldLink "Ballothall$Counting" 59 "Ballothall$Counting" "newest" "I" ∈ WG := wg_t (wu2 (List.mem_of_getElem? (i := 73) rfl)) rfl
theorem w_315 : Cond.fieldLink "Ballothall$Counting" 19 "Ballothall$Counting" "weight" "[LBallothall$Natural;" ∈ WG := wg_t (wu2 (List.mem_of_getElem? (i := 75) rfl)) rfl
theorem w_316 : Cond.fieldLink "Ballothall$Counting" 23 "Ballothall$Counting" "pile" "[LBallothall$Natural;" ∈ WG := wg_t (wu2 (List.mem_of_getElem? (i := 76) rfl)) rfl
theorem w_317 : Cond.fieldLink "Ballothall$Counting" 27 "Ballothall$Counting" "common" "LBallothall$Natural;" ∈ WG := wg_t (wu2 (List.mem_of_getElem? (i := 77) rfl)) rfl
theorem w_318 : Cond.fieldLink "Ballothall$Counting" 31 "Ballothall$Counting" "amount" "LBallothall$Natural;" ∈ WG := wg_t (wu2 (List.mem_of_getElem? (i := 78) rfl)) rfl
theorem w_319 : Cond.fieldLink "Ballothall$Counting" 34 "Ballothall$Counting" "held" "LBallothall$Natural;" ∈ WG := wg_t (wu2 (List.mem_of_getElem? (i := 79) rfl)) rfl
theorem w_320 : Cond.fieldLink "Ballothall$Counting" 37 "Ballothall$Counting" "numerator" "LBallothall$Natural;" ∈ WG := wg_t (wu2 (List.mem_of_getElem? (i := 80) rfl)) rfl
theorem w_322 : Cond.fieldLink "Ballothall$Counting" 40 "Ballothall$Counting" "denominator" "LBallothall$Natural;" ∈ WG := wg_t (wu2 (List.mem_of_getElem? (i := 82) rfl)) rfl
theorem w_324 : Cond.fieldLink "Ballothall$Counting" 43 "Ballothall$Counting" "greater" "LBallothall$Natural;" ∈ WG := wg_t (wu2 (List.mem_of_getElem? (i := 84) rfl)) rfl
theorem w_325 : Cond.fieldLink "Ballothall$Counting" 46 "Ballothall$Counting" "smaller" "LBallothall$Natural;" ∈ WG := wg_t (wu2 (List.mem_of_getElem? (i := 85) rfl)) rfl
theorem w_326 : Cond.fieldLink "Ballothall$Counting" 49 "Ballothall$Counting" "quotient" "LBallothall$Natural;" ∈ WG := wg_t (wu2 (List.mem_of_getElem? (i := 86) rfl)) rfl
theorem w_327 : Cond.fieldLink "Ballothall$Counting" 52 "Ballothall$Counting" "scratch" "LBallothall$Natural;" ∈ WG := wg_t (wu2 (List.mem_of_getElem? (i := 87) rfl)) rfl
theorem w_359 : Cond.classLink "Ballothall" 48 "Ballothall$Wards" ∈ WG := wg_t (wu2 (List.mem_of_getElem? (i := 119) rfl)) rfl
theorem w_360 : Cond.instantiable "Ballothall$Wards" 5 ∈ WG := wg_t (wu2 (List.mem_of_getElem? (i := 120) rfl)) rfl
theorem w_362 : Cond.instanceMethod ⟨"Ballothall$Wards", "<init>", "()V"⟩ ∈ WG := wg_t (wu2 (List.mem_of_getElem? (i := 122) rfl)) rfl
theorem w_363 : Cond.code ⟨"Ballothall$Wards", "<init>", "()V"⟩ prog_12_method_1_code 1 none ∈ WG := wg_t (wu2 (List.mem_of_getElem? (i := 123) rfl)) rfl
theorem w_364 : Cond.methodLink "Ballothall$Wards" 3 ⟨"java/lang/Object", "<init>", "()V"⟩ ∈ WG := wg_t (wu2 (List.mem_of_getElem? (i := 124) rfl)) rfl
theorem w_365 : Cond.classLink "Ballothall$Wards" 15 "[[I" ∈ WG := wg_t (wu2 (List.mem_of_getElem? (i := 125) rfl)) rfl
theorem w_366 : Cond.fieldLink "Ballothall$Wards" 26 "Ballothall$Wards" "size" "I" ∈ WG := wg_t (wu2 (List.mem_of_getElem? (i := 126) rfl)) rfl
theorem w_368 : Cond.fieldLink "Ballothall$Wards" 9 "Ballothall$Wards" "heads" "[I" ∈ WG := wg_t (wu2 (List.mem_of_getElem? (i := 128) rfl)) rfl
theorem w_369 : Cond.fieldLink "Ballothall$Wards" 17 "Ballothall$Wards" "votes" "[[I" ∈ WG := wg_t (wu2 (List.mem_of_getElem? (i := 129) rfl)) rfl
theorem w_370 : Cond.fieldLink "Ballothall$Wards" 20 "Ballothall$Wards" "greatest" "[[I" ∈ WG := wg_t (wu2 (List.mem_of_getElem? (i := 130) rfl)) rfl
theorem w_371 : Cond.fieldLink "Ballothall$Wards" 23 "Ballothall$Wards" "end" "[I" ∈ WG := wg_t (wu2 (List.mem_of_getElem? (i := 131) rfl)) rfl
theorem w_384 : Cond.classLink "Ballothall" 55 "Ballothall$Council" ∈ WG := wg_t (wu2 (List.mem_of_getElem? (i := 144) rfl)) rfl
theorem w_385 : Cond.instantiable "Ballothall$Council" 4 ∈ WG := wg_t (wu2 (List.mem_of_getElem? (i := 145) rfl)) rfl
theorem w_387 : Cond.instanceMethod ⟨"Ballothall$Council", "<init>", "()V"⟩ ∈ WG := wg_t (wu2 (List.mem_of_getElem? (i := 147) rfl)) rfl
theorem w_388 : Cond.code ⟨"Ballothall$Council", "<init>", "()V"⟩ prog_3_method_1_code 1 none ∈ WG := wg_t (wu2 (List.mem_of_getElem? (i := 148) rfl)) rfl
theorem w_389 : Cond.methodLink "Ballothall$Council" 3 ⟨"java/lang/Object", "<init>", "()V"⟩ ∈ WG := wg_t (wu2 (List.mem_of_getElem? (i := 149) rfl)) rfl
theorem w_390 : Cond.fieldLink "Ballothall$Council" 22 "Ballothall$Council" "size" "I" ∈ WG := wg_t (wu2 (List.mem_of_getElem? (i := 150) rfl)) rfl
theorem w_392 : Cond.fieldLink "Ballothall$Council" 9 "Ballothall$Council" "quota" "I" ∈ WG := wg_t (wu2 (List.mem_of_getElem? (i := 152) rfl)) rfl
theorem w_394 : Cond.fieldLink "Ballothall$Council" 15 "Ballothall$Council" "weight" "[I" ∈ WG := wg_t (wu2 (List.mem_of_getElem? (i := 154) rfl)) rfl
theorem w_396 : Cond.fieldLink "Ballothall$Council" 19 "Ballothall$Council" "sum" "[I" ∈ WG := wg_t (wu2 (List.mem_of_getElem? (i := 156) rfl)) rfl
theorem w_406 : Cond.fieldLink "Ballothall" 12 "Ballothall" "box" "LBallothall$BallotBox;" ∈ WG := wg_t (wu2 (List.mem_of_getElem? (i := 166) rfl)) rfl
theorem w_407 : Cond.fieldLink "Ballothall" 21 "Ballothall" "poll" "LBallothall$Poll;" ∈ WG := wg_t (wu2 (List.mem_of_getElem? (i := 167) rfl)) rfl
theorem w_408 : Cond.fieldLink "Ballothall" 30 "Ballothall" "falseBallot" "LBallothall$FalseBallot;" ∈ WG := wg_t (wu2 (List.mem_of_getElem? (i := 168) rfl)) rfl
theorem w_409 : Cond.fieldLink "Ballothall" 37 "Ballothall" "lists" "LBallothall$Lists;" ∈ WG := wg_t (wu2 (List.mem_of_getElem? (i := 169) rfl)) rfl
theorem w_410 : Cond.fieldLink "Ballothall" 44 "Ballothall" "counting" "LBallothall$Counting;" ∈ WG := wg_t (wu2 (List.mem_of_getElem? (i := 170) rfl)) rfl
theorem w_411 : Cond.fieldLink "Ballothall" 51 "Ballothall" "wards" "LBallothall$Wards;" ∈ WG := wg_t (wu2 (List.mem_of_getElem? (i := 171) rfl)) rfl
theorem w_412 : Cond.fieldLink "Ballothall" 58 "Ballothall" "council" "LBallothall$Council;" ∈ WG := wg_t (wu2 (List.mem_of_getElem? (i := 172) rfl)) rfl
theorem w_413 : Cond.fieldLink "Ballothall" 62 "Ballothall" "changeWhat" "[I" ∈ WG := wg_t (wu2 (List.mem_of_getElem? (i := 173) rfl)) rfl
theorem w_414 : Cond.fieldLink "Ballothall" 66 "Ballothall" "changeWhere" "[I" ∈ WG := wg_t (wu2 (List.mem_of_getElem? (i := 174) rfl)) rfl
theorem w_415 : Cond.fieldLink "Ballothall" 69 "Ballothall" "changeBefore" "[I" ∈ WG := wg_t (wu2 (List.mem_of_getElem? (i := 175) rfl)) rfl
theorem w_416 : Cond.fieldLink "Ballothall" 368 "Ballothall" "newestChange" "I" ∈ WG := wg_t (wu2 (List.mem_of_getElem? (i := 176) rfl)) rfl
theorem w_417 : Cond.fieldLink "Ballothall" 365 "Ballothall" "changes" "I" ∈ WG := wg_t (wu2 (List.mem_of_getElem? (i := 177) rfl)) rfl
theorem w_418 : Cond.fieldLink "Ballothall" 72 "Ballothall" "output" "[I" ∈ WG := wg_t (wu2 (List.mem_of_getElem? (i := 178) rfl)) rfl
theorem w_419 : Cond.fieldLink "Ballothall" 227 "Ballothall" "outputLength" "I" ∈ WG := wg_t (wu2 (List.mem_of_getElem? (i := 179) rfl)) rfl
theorem w_449 : Cond.methodLink "BallothallLaw" 188 ⟨"Ballothall", "allBallots", "()I"⟩ ∈ WG := wg_t (wu2 (List.mem_of_getElem? (i := 209) rfl)) rfl
theorem w_450 : Cond.instanceMethod ⟨"Ballothall", "allBallots", "()I"⟩ ∈ WG := wg_t (wu2 (List.mem_of_getElem? (i := 210) rfl)) rfl
theorem w_451 : Cond.selects "Ballothall" ⟨"Ballothall", "allBallots", "()I"⟩ ⟨"Ballothall", "allBallots", "()I"⟩ ∈ WG := wg_t (wu2 (List.mem_of_getElem? (i := 211) rfl)) rfl
theorem w_452 : Cond.code ⟨"Ballothall", "allBallots", "()I"⟩ prog_1_method_9_code 1 (some .int) ∈ WG := wg_t (wu2 (List.mem_of_getElem? (i := 212) rfl)) rfl
theorem w_455 : Cond.instanceMethod ⟨"Ballothall$BallotBox", "ballotsOf", "([II)I"⟩ ∈ WG := wg_t (wu2 (List.mem_of_getElem? (i := 215) rfl)) rfl
theorem w_456 : Cond.code ⟨"Ballothall$BallotBox", "ballotsOf", "([II)I"⟩ prog_2_method_4_code 5 (some .int) ∈ WG := wg_t (wu2 (List.mem_of_getElem? (i := 216) rfl)) rfl
theorem w_457 : Cond.methodLink "BallothallLaw" 217 ⟨"Ballothall", "quota", "()I"⟩ ∈ WG := wg_t (wu2 (List.mem_of_getElem? (i := 217) rfl)) rfl
theorem w_458 : Cond.instanceMethod ⟨"Ballothall", "quota", "()I"⟩ ∈ WG := wg_t (wu2 (List.mem_of_getElem? (i := 218) rfl)) rfl
theorem w_459 : Cond.selects "Ballothall" ⟨"Ballothall", "quota", "()I"⟩ ⟨"Ballothall", "quota", "()I"⟩ ∈ WG := wg_t (wu2 (List.mem_of_getElem? (i := 219) rfl)) rfl
theorem w_460 : Cond.code ⟨"Ballothall", "quota", "()I"⟩ prog_1_method_18_code 2 (some .int) ∈ WG := wg_t (wu2 (List.mem_of_getElem? (i := 220) rfl)) rfl
theorem w_463 : Cond.instanceMethod ⟨"Ballothall$Counting", "latest", "()LBallothall$Count;"⟩ ∈ WG := wg_t (wu2 (List.mem_of_getElem? (i := 223) rfl)) rfl
theorem w_464 : Cond.code ⟨"Ballothall$Counting", "latest", "()LBallothall$Count;"⟩ prog_5_method_2_code 1 (some (.object "Ballothall$Count")) ∈ WG := wg_t (wu2 (List.mem_of_getElem? (i := 224) rfl)) rfl
theorem w_465 : Cond.methodLink "BallothallLaw" 227 ⟨"Ballothall", "steps", "()I"⟩ ∈ WG := wg_t (wu2 (List.mem_of_getElem? (i := 225) rfl)) rfl
theorem w_466 : Cond.instanceMethod ⟨"Ballothall", "steps", "()I"⟩ ∈ WG := wg_t (wu2 (List.mem_of_getElem? (i := 226) rfl)) rfl
theorem w_467 : Cond.selects "Ballothall" ⟨"Ballothall", "steps", "()I"⟩ ⟨"Ballothall", "steps", "()I"⟩ ∈ WG := wg_t (wu2 (List.mem_of_getElem? (i := 227) rfl)) rfl
theorem w_468 : Cond.code ⟨"Ballothall", "steps", "()I"⟩ prog_1_method_21_code 2 (some .int) ∈ WG := wg_t (wu2 (List.mem_of_getElem? (i := 228) rfl)) rfl
theorem w_469 : Cond.methodLink "BallothallLaw" 234 ⟨"Ballothall", "outputByte", "(I)I"⟩ ∈ WG := wg_t (wu2 (List.mem_of_getElem? (i := 229) rfl)) rfl
theorem w_470 : Cond.instanceMethod ⟨"Ballothall", "outputByte", "(I)I"⟩ ∈ WG := wg_t (wu2 (List.mem_of_getElem? (i := 230) rfl)) rfl
theorem w_471 : Cond.selects "Ballothall" ⟨"Ballothall", "outputByte", "(I)I"⟩ ⟨"Ballothall", "outputByte", "(I)I"⟩ ∈ WG := wg_t (wu2 (List.mem_of_getElem? (i := 231) rfl)) rfl
theorem w_472 : Cond.code ⟨"Ballothall", "outputByte", "(I)I"⟩ prog_1_method_23_code 2 (some .int) ∈ WG := wg_t (wu2 (List.mem_of_getElem? (i := 232) rfl)) rfl
theorem w_473 : Cond.methodLink "BallothallLaw" 244 ⟨"Ballothall", "beatsAll", "()I"⟩ ∈ WG := wg_t (wu2 (List.mem_of_getElem? (i := 233) rfl)) rfl
theorem w_474 : Cond.instanceMethod ⟨"Ballothall", "beatsAll", "()I"⟩ ∈ WG := wg_t (wu2 (List.mem_of_getElem? (i := 234) rfl)) rfl
theorem w_475 : Cond.selects "Ballothall" ⟨"Ballothall", "beatsAll", "()I"⟩ ⟨"Ballothall", "beatsAll", "()I"⟩ ∈ WG := wg_t (wu2 (List.mem_of_getElem? (i := 235) rfl)) rfl
theorem w_476 : Cond.code ⟨"Ballothall", "beatsAll", "()I"⟩ prog_1_method_26_code 1 (some .int) ∈ WG := wg_t (wu2 (List.mem_of_getElem? (i := 236) rfl)) rfl
theorem w_479 : Cond.instanceMethod ⟨"Ballothall$BallotBox", "everybody", "()I"⟩ ∈ WG := wg_t (wu2 (List.mem_of_getElem? (i := 239) rfl)) rfl
theorem w_480 : Cond.code ⟨"Ballothall$BallotBox", "everybody", "()I"⟩ prog_2_method_2_code 1 (some .int) ∈ WG := wg_t (wu3 (List.mem_of_getElem? (i := 0) rfl)) rfl
theorem w_483 : Cond.instanceMethod ⟨"Ballothall$Poll", "open", "(I)V"⟩ ∈ WG := wg_t (wu3 (List.mem_of_getElem? (i := 3) rfl)) rfl
theorem w_484 : Cond.code ⟨"Ballothall$Poll", "open", "(I)V"⟩ prog_11_method_2_code 3 none ∈ WG := wg_t (wu3 (List.mem_of_getElem? (i := 4) rfl)) rfl
theorem w_485 : Cond.methodLink "Ballothall$Poll" 51 ⟨"java/util/Arrays", "fill", "([II)V"⟩ ∈ WG := wg_t (wu3 (List.mem_of_getElem? (i := 5) rfl)) rfl
theorem w_486 : Cond.static ⟨"java/util/Arrays", "fill", "([II)V"⟩ ∈ WG := wg_t (wu3 (List.mem_of_getElem? (i := 6) rfl)) rfl
theorem w_487 : Cond.code ⟨"java/util/Arrays", "fill", "([II)V"⟩ prog_37_method_103_code 4 none ∈ WG := wg_t (wu3 (List.mem_of_getElem? (i := 7) rfl)) rfl
theorem w_490 : Cond.instanceMethod ⟨"Ballothall$Poll", "change", "(II)V"⟩ ∈ WG := wg_t (wu3 (List.mem_of_getElem? (i := 10) rfl)) rfl
theorem w_491 : Cond.code ⟨"Ballothall$Poll", "change", "(II)V"⟩ prog_11_method_3_code 7 none ∈ WG := wg_t (wu3 (List.mem_of_getElem? (i := 11) rfl)) rfl
theorem w_494 : Cond.instanceMethod ⟨"Ballothall$BallotBox", "soleTopOf", "(II)I"⟩ ∈ WG := wg_t (wu3 (List.mem_of_getElem? (i := 14) rfl)) rfl
theorem w_495 : Cond.code ⟨"Ballothall$BallotBox", "soleTopOf", "(II)I"⟩ prog_2_method_14_code 4 (some .int) ∈ WG := wg_t (wu3 (List.mem_of_getElem? (i := 15) rfl)) rfl
theorem w_496 : Cond.methodLink "Ballothall$BallotBox" 78 ⟨"Ballothall$BallotBox", "topOf", "(II)I"⟩ ∈ WG := wg_t (wu3 (List.mem_of_getElem? (i := 16) rfl)) rfl
theorem w_498 : Cond.instanceMethod ⟨"Ballothall$BallotBox", "topOf", "(II)I"⟩ ∈ WG := wg_t (wu3 (List.mem_of_getElem? (i := 18) rfl)) rfl
theorem w_499 : Cond.code ⟨"Ballothall$BallotBox", "topOf", "(II)I"⟩ prog_2_method_13_code 5 (some .int) ∈ WG := wg_t (wu3 (List.mem_of_getElem? (i := 19) rfl)) rfl
theorem w_500 : Cond.methodLink "Ballothall$BallotBox" 81 ⟨"java/lang/Integer", "bitCount", "(I)I"⟩ ∈ WG := wg_t (wu3 (List.mem_of_getElem? (i := 20) rfl)) rfl
theorem w_501 : Cond.static ⟨"java/lang/Integer", "bitCount", "(I)I"⟩ ∈ WG := wg_t (wu3 (List.mem_of_getElem? (i := 21) rfl)) rfl
theorem w_502 : Cond.code ⟨"java/lang/Integer", "bitCount", "(I)I"⟩ prog_27_method_49_code 1 (some .int) ∈ WG := wg_t (wu3 (List.mem_of_getElem? (i := 22) rfl)) rfl
theorem w_503 : Cond.constant "java/lang/Integer" 265 1431655765 ∈ WG := wg_t (wu3 (List.mem_of_getElem? (i := 23) rfl)) rfl
theorem w_504 : Cond.constant "java/lang/Integer" 266 858993459 ∈ WG := wg_t (wu3 (List.mem_of_getElem? (i := 24) rfl)) rfl
theorem w_505 : Cond.constant "java/lang/Integer" 267 252645135 ∈ WG := wg_t (wu3 (List.mem_of_getElem? (i := 25) rfl)) rfl
theorem w_515 : Cond.instanceMethod ⟨"Ballothall$Poll", "beaterOfAll", "()I"⟩ ∈ WG := wg_t (wu3 (List.mem_of_getElem? (i := 35) rfl)) rfl
theorem w_516 : Cond.code ⟨"Ballothall$Poll", "beaterOfAll", "()I"⟩ prog_11_method_9_code 2 (some .int) ∈ WG := wg_t (wu3 (List.mem_of_getElem? (i := 36) rfl)) rfl
theorem w_517 : Cond.methodLink "Ballothall$Poll" 100 ⟨"Ballothall$Poll", "findBeaten", "()V"⟩ ∈ WG := wg_t (wu3 (List.mem_of_getElem? (i := 37) rfl)) rfl
theorem w_519 : Cond.instanceMethod ⟨"Ballothall$Poll", "findBeaten", "()V"⟩ ∈ WG := wg_t (wu3 (List.mem_of_getElem? (i := 39) rfl)) rfl
theorem w_520 : Cond.code ⟨"Ballothall$Poll", "findBeaten", "()V"⟩ prog_11_method_8_code 3 none ∈ WG := wg_t (wu3 (List.mem_of_getElem? (i := 40) rfl)) rfl
theorem w_529 : Cond.methodLink "BallothallLaw" 251 ⟨"Ballothall", "pathWinners", "()I"⟩ ∈ WG := wg_t (wu3 (List.mem_of_getElem? (i := 49) rfl)) rfl
theorem w_530 : Cond.instanceMethod ⟨"Ballothall", "pathWinners", "()I"⟩ ∈ WG := wg_t (wu3 (List.mem_of_getElem? (i := 50) rfl)) rfl
theorem w_531 : Cond.selects "Ballothall" ⟨"Ballothall", "pathWinners", "()I"⟩ ⟨"Ballothall", "pathWinners", "()I"⟩ ∈ WG := wg_t (wu3 (List.mem_of_getElem? (i := 51) rfl)) rfl
theorem w_532 : Cond.code ⟨"Ballothall", "pathWinners", "()I"⟩ prog_1_method_28_code 1 (some .int) ∈ WG := wg_t (wu3 (List.mem_of_getElem? (i := 52) rfl)) rfl
theorem w_535 : Cond.instanceMethod ⟨"Ballothall$Poll", "winnersByPaths", "()I"⟩ ∈ WG := wg_t (wu3 (List.mem_of_getElem? (i := 55) rfl)) rfl
theorem w_536 : Cond.code ⟨"Ballothall$Poll", "winnersByPaths", "()I"⟩ prog_11_method_14_code 4 (some .int) ∈ WG := wg_t (wu3 (List.mem_of_getElem? (i := 56) rfl)) rfl
theorem w_537 : Cond.methodLink "Ballothall$Poll" 124 ⟨"Ballothall$Poll", "findPaths", "()V"⟩ ∈ WG := wg_t (wu3 (List.mem_of_getElem? (i := 57) rfl)) rfl
theorem w_539 : Cond.instanceMethod ⟨"Ballothall$Poll", "findPaths", "()V"⟩ ∈ WG := wg_t (wu3 (List.mem_of_getElem? (i := 59) rfl)) rfl
theorem w_540 : Cond.code ⟨"Ballothall$Poll", "findPaths", "()V"⟩ prog_11_method_12_code 3 none ∈ WG := wg_t (wu3 (List.mem_of_getElem? (i := 60) rfl)) rfl
theorem w_550 : Cond.static ⟨"java/lang/Math", "min", "(II)I"⟩ ∈ WG := wg_t (wu3 (List.mem_of_getElem? (i := 70) rfl)) rfl
theorem w_552 : Cond.methodLink "BallothallLaw" 255 ⟨"Ballothall", "beatingSet", "()I"⟩ ∈ WG := wg_t (wu3 (List.mem_of_getElem? (i := 72) rfl)) rfl
theorem w_553 : Cond.instanceMethod ⟨"Ballothall", "beatingSet", "()I"⟩ ∈ WG := wg_t (wu3 (List.mem_of_getElem? (i := 73) rfl)) rfl
theorem w_554 : Cond.selects "Ballothall" ⟨"Ballothall", "beatingSet", "()I"⟩ ⟨"Ballothall", "beatingSet", "()I"⟩ ∈ WG := wg_t (wu3 (List.mem_of_getElem? (i := 74) rfl)) rfl
theorem w_555 : Cond.code ⟨"Ballothall", "beatingSet", "()I"⟩ prog_1_method_29_code 1 (some .int) ∈ WG := wg_t (wu3 (List.mem_of_getElem? (i := 75) rfl)) rfl
theorem w_558 : Cond.instanceMethod ⟨"Ballothall$Poll", "smallestBeatingSet", "()I"⟩ ∈ WG := wg_t (wu3 (List.mem_of_getElem? (i := 78) rfl)) rfl
theorem w_559 : Cond.code ⟨"Ballothall$Poll", "smallestBeatingSet", "()I"⟩ prog_11_method_10_code 3 (some .int) ∈ WG := wg_t (wu3 (List.mem_of_getElem? (i := 79) rfl)) rfl
theorem w_565 : Cond.methodLink "BallothallLaw" 262 ⟨"Ballothall", "consensusDistance", "()J"⟩ ∈ WG := wg_t (wu3 (List.mem_of_getElem? (i := 85) rfl)) rfl
theorem w_566 : Cond.instanceMethod ⟨"Ballothall", "consensusDistance", "()J"⟩ ∈ WG := wg_t (wu3 (List.mem_of_getElem? (i := 86) rfl)) rfl
theorem w_567 : Cond.selects "Ballothall" ⟨"Ballothall", "consensusDistance", "()J"⟩ ⟨"Ballothall", "consensusDistance", "()J"⟩ ∈ WG := wg_t (wu3 (List.mem_of_getElem? (i := 87) rfl)) rfl
theorem w_568 : Cond.code ⟨"Ballothall", "consensusDistance", "()J"⟩ prog_1_method_31_code 1 (some .long) ∈ WG := wg_t (wu3 (List.mem_of_getElem? (i := 88) rfl)) rfl
theorem w_571 : Cond.instanceMethod ⟨"Ballothall$Poll", "findDistances", "()V"⟩ ∈ WG := wg_t (wu3 (List.mem_of_getElem? (i := 91) rfl)) rfl
theorem w_572 : Cond.code ⟨"Ballothall$Poll", "findDistances", "()V"⟩ prog_11_method_15_code 7 none ∈ WG := wg_t (wu3 (List.mem_of_getElem? (i := 92) rfl)) rfl
theorem w_581 : Cond.methodLink "BallothallLaw" 291 ⟨"Ballothall", "safeAfter", "()I"⟩ ∈ WG := wg_t (wu3 (List.mem_of_getElem? (i := 101) rfl)) rfl
theorem w_582 : Cond.instanceMethod ⟨"Ballothall", "safeAfter", "()I"⟩ ∈ WG := wg_t (wu3 (List.mem_of_getElem? (i := 102) rfl)) rfl
theorem w_583 : Cond.selects "Ballothall" ⟨"Ballothall", "safeAfter", "()I"⟩ ⟨"Ballothall", "safeAfter", "()I"⟩ ∈ WG := wg_t (wu3 (List.mem_of_getElem? (i := 103) rfl)) rfl
theorem w_584 : Cond.code ⟨"Ballothall", "safeAfter", "()I"⟩ prog_1_method_40_code 4 (some .int) ∈ WG := wg_t (wu3 (List.mem_of_getElem? (i := 104) rfl)) rfl
theorem w_587 : Cond.instanceMethod ⟨"Ballothall$Poll", "bestBy", "(I)I"⟩ ∈ WG := wg_t (wu3 (List.mem_of_getElem? (i := 107) rfl)) rfl
theorem w_588 : Cond.code ⟨"Ballothall$Poll", "bestBy", "(I)I"⟩ prog_11_method_19_code 2 (some .int) ∈ WG := wg_t (wu3 (List.mem_of_getElem? (i := 108) rfl)) rfl
theorem w_630 : Cond.static ⟨"java/lang/Math", "max", "(II)I"⟩ ∈ WG := wg_t (wu3 (List.mem_of_getElem? (i := 150) rfl)) rfl
theorem w_632 : Cond.methodLink "BallothallLaw" 322 ⟨"Ballothall", "undo", "()I"⟩ ∈ WG := wg_t (wu3 (List.mem_of_getElem? (i := 152) rfl)) rfl
theorem w_633 : Cond.instanceMethod ⟨"Ballothall", "undo", "()I"⟩ ∈ WG := wg_t (wu3 (List.mem_of_getElem? (i := 153) rfl)) rfl
theorem w_634 : Cond.selects "Ballothall" ⟨"Ballothall", "undo", "()I"⟩ ⟨"Ballothall", "undo", "()I"⟩ ∈ WG := wg_t (wu3 (List.mem_of_getElem? (i := 154) rfl)) rfl
theorem w_635 : Cond.code ⟨"Ballothall", "undo", "()I"⟩ prog_1_method_50_code 1 (some .int) ∈ WG := wg_t (wu3 (List.mem_of_getElem? (i := 155) rfl)) rfl
theorem w_648 : Cond.methodLink "BallothallLaw" 326 ⟨"Ballothall", "checksum", "()J"⟩ ∈ WG := wg_t (wu3 (List.mem_of_getElem? (i := 168) rfl)) rfl
theorem w_649 : Cond.instanceMethod ⟨"Ballothall", "checksum", "()J"⟩ ∈ WG := wg_t (wu3 (List.mem_of_getElem? (i := 169) rfl)) rfl
theorem w_650 : Cond.selects "Ballothall" ⟨"Ballothall", "checksum", "()J"⟩ ⟨"Ballothall", "checksum", "()J"⟩ ∈ WG := wg_t (wu3 (List.mem_of_getElem? (i := 170) rfl)) rfl
theorem w_651 : Cond.code ⟨"Ballothall", "checksum", "()J"⟩ prog_1_method_51_code 5 (some .long) ∈ WG := wg_t (wu3 (List.mem_of_getElem? (i := 171) rfl)) rfl
theorem w_655 : Cond.instanceMethod ⟨"Ballothall$Lists", "latest", "()LBallothall$KeptSeats;"⟩ ∈ WG := wg_t (wu3 (List.mem_of_getElem? (i := 175) rfl)) rfl
theorem w_656 : Cond.code ⟨"Ballothall$Lists", "latest", "()LBallothall$KeptSeats;"⟩ prog_9_method_3_code 1 (some (.object "Ballothall$KeptSeats")) ∈ WG := wg_t (wu3 (List.mem_of_getElem? (i := 176) rfl)) rfl
theorem w_657 : Cond.methodLink "BallothallLaw" 337 ⟨"Ballothall", "errors", "()I"⟩ ∈ WG := wg_t (wu3 (List.mem_of_getElem? (i := 177) rfl)) rfl
theorem w_658 : Cond.instanceMethod ⟨"Ballothall", "errors", "()I"⟩ ∈ WG := wg_t (wu3 (List.mem_of_getElem? (i := 178) rfl)) rfl
theorem w_659 : Cond.selects "Ballothall" ⟨"Ballothall", "errors", "()I"⟩ ⟨"Ballothall", "errors", "()I"⟩ ∈ WG := wg_t (wu3 (List.mem_of_getElem? (i := 179) rfl)) rfl
theorem w_660 : Cond.code ⟨"Ballothall", "errors", "()I"⟩ prog_1_method_54_code 1 (some .int) ∈ WG := wg_t (wu3 (List.mem_of_getElem? (i := 180) rfl)) rfl
theorem w_663 : Cond.instanceMethod ⟨"Ballothall$Lists", "isUnjust", "()Z"⟩ ∈ WG := wg_t (wu3 (List.mem_of_getElem? (i := 183) rfl)) rfl
theorem w_664 : Cond.code ⟨"Ballothall$Lists", "isUnjust", "()Z"⟩ prog_9_method_12_code 4 (some .boolean) ∈ WG := wg_t (wu3 (List.mem_of_getElem? (i := 184) rfl)) rfl
theorem w_665 : Cond.methodLink "Ballothall$Lists" 130 ⟨"Ballothall$Lists", "latest", "()LBallothall$KeptSeats;"⟩ ∈ WG := wg_t (wu3 (List.mem_of_getElem? (i := 185) rfl)) rfl
theorem w_670 : Cond.methodLink "Ballothall" 382 ⟨"Ballothall", "countErrors", "()I"⟩ ∈ WG := wg_t (wu3 (List.mem_of_getElem? (i := 190) rfl)) rfl
theorem w_672 : Cond.instanceMethod ⟨"Ballothall", "countErrors", "()I"⟩ ∈ WG := wg_t (wu3 (List.mem_of_getElem? (i := 192) rfl)) rfl
theorem w_673 : Cond.code ⟨"Ballothall", "countErrors", "()I"⟩ prog_1_method_65_code 7 (some .int) ∈ WG := wg_t (wu3 (List.mem_of_getElem? (i := 193) rfl)) rfl
theorem w_690 : Cond.instantiable "Ballothall$Count" 10 ∈ WG := wg_t (wu3 (List.mem_of_getElem? (i := 210) rfl)) rfl
theorem w_697 : Cond.static ⟨"java/lang/System", "arraycopy", "(Ljava/lang/Object;ILjava/lang/Object;II)V"⟩ ∈ WG := wg_t (wu3 (List.mem_of_getElem? (i := 217) rfl)) rfl
theorem w_698 : Cond.native ⟨"java/lang/System", "arraycopy", "(Ljava/lang/Object;ILjava/lang/Object;II)V"⟩ ∈ WG := wg_t (wu3 (List.mem_of_getElem? (i := 218) rfl)) rfl
theorem w_726 : Cond.methodLink "Ballothall$BallotBox" 53 ⟨"java/util/Arrays", "fill", "([II)V"⟩ ∈ WG := wg_t (wu4 (List.mem_of_getElem? (i := 6) rfl)) rfl
theorem w_729 : Cond.methodLink "Ballothall" 385 ⟨"Ballothall", "isBeaterOfAllMissed", "()Z"⟩ ∈ WG := wg_t (wu4 (List.mem_of_getElem? (i := 9) rfl)) rfl
theorem w_731 : Cond.instanceMethod ⟨"Ballothall", "isBeaterOfAllMissed", "()Z"⟩ ∈ WG := wg_t (wu4 (List.mem_of_getElem? (i := 11) rfl)) rfl
theorem w_732 : Cond.code ⟨"Ballothall", "isBeaterOfAllMissed", "()Z"⟩ prog_1_method_66_code 2 (some .boolean) ∈ WG := wg_t (wu4 (List.mem_of_getElem? (i := 12) rfl)) rfl
theorem w_743 : Cond.instanceMethod ⟨"Ballothall$Council", "isOrderMissed", "()Z"⟩ ∈ WG := wg_t (wu4 (List.mem_of_getElem? (i := 23) rfl)) rfl
theorem w_744 : Cond.code ⟨"Ballothall$Council", "isOrderMissed", "()Z"⟩ prog_3_method_7_code 4 (some .boolean) ∈ WG := wg_t (wu4 (List.mem_of_getElem? (i := 24) rfl)) rfl
theorem w_745 : Cond.methodLink "Ballothall$Council" 42 ⟨"Ballothall$Council", "findSums", "()V"⟩ ∈ WG := wg_t (wu4 (List.mem_of_getElem? (i := 25) rfl)) rfl
theorem w_747 : Cond.instanceMethod ⟨"Ballothall$Council", "findSums", "()V"⟩ ∈ WG := wg_t (wu4 (List.mem_of_getElem? (i := 27) rfl)) rfl
theorem w_748 : Cond.code ⟨"Ballothall$Council", "findSums", "()V"⟩ prog_3_method_3_code 3 none ∈ WG := wg_t (wu4 (List.mem_of_getElem? (i := 28) rfl)) rfl
theorem w_761 : Cond.methodLink "BallothallLaw" 154 ⟨"BallothallLaw", "candidate", "(LBallothall;[J)I"⟩ ∈ WG := wg_t (wu4 (List.mem_of_getElem? (i := 41) rfl)) rfl
theorem w_762 : Cond.static ⟨"BallothallLaw", "candidate", "(LBallothall;[J)I"⟩ ∈ WG := wg_t (wu4 (List.mem_of_getElem? (i := 42) rfl)) rfl
theorem w_763 : Cond.codeWith ⟨"BallothallLaw", "candidate", "(LBallothall;[J)I"⟩ method_3_code 3 (some .int) [(0, 8, 11, 13)] ∈ WG := wg_t (wu4 (List.mem_of_getElem? (i := 43) rfl)) rfl
theorem w_764 : Cond.classLink "BallothallLaw" 13 "java/lang/IllegalStateException" ∈ WG := wg_t (wu4 (List.mem_of_getElem? (i := 44) rfl)) rfl
theorem w_765 : Cond.methodLink "BallothallLaw" 7 ⟨"Ballothall", "candidate", "()I"⟩ ∈ WG := wg_t (wu4 (List.mem_of_getElem? (i := 45) rfl)) rfl
theorem w_766 : Cond.instanceMethod ⟨"Ballothall", "candidate", "()I"⟩ ∈ WG := wg_t (wu4 (List.mem_of_getElem? (i := 46) rfl)) rfl
theorem w_767 : Cond.selects "Ballothall" ⟨"Ballothall", "candidate", "()I"⟩ ⟨"Ballothall", "candidate", "()I"⟩ ∈ WG := wg_t (wu4 (List.mem_of_getElem? (i := 47) rfl)) rfl
theorem w_768 : Cond.code ⟨"Ballothall", "candidate", "()I"⟩ prog_1_method_2_code 2 (some .int) ∈ WG := wg_t (wu4 (List.mem_of_getElem? (i := 48) rfl)) rfl
theorem w_769 : Cond.methodLink "Ballothall" 79 ⟨"Ballothall", "needRoom", "(II)V"⟩ ∈ WG := wg_t (wu4 (List.mem_of_getElem? (i := 49) rfl)) rfl
theorem w_770 : Cond.static ⟨"Ballothall", "needRoom", "(II)V"⟩ ∈ WG := wg_t (wu4 (List.mem_of_getElem? (i := 50) rfl)) rfl
theorem w_771 : Cond.code ⟨"Ballothall", "needRoom", "(II)V"⟩ prog_1_method_58_code 2 none ∈ WG := wg_t (wu4 (List.mem_of_getElem? (i := 51) rfl)) rfl
theorem w_772 : Cond.classLink "Ballothall" 181 "java/lang/IllegalStateException" ∈ WG := wg_t (wu4 (List.mem_of_getElem? (i := 52) rfl)) rfl
theorem w_841 : Cond.methodLink "Ballothall" 86 ⟨"Ballothall", "remember", "(III)V"⟩ ∈ WG := wg_t (wu4 (List.mem_of_getElem? (i := 121) rfl)) rfl
theorem w_843 : Cond.instanceMethod ⟨"Ballothall", "remember", "(III)V"⟩ ∈ WG := wg_t (wu4 (List.mem_of_getElem? (i := 123) rfl)) rfl
theorem w_844 : Cond.code ⟨"Ballothall", "remember", "(III)V"⟩ prog_1_method_61_code 4 none ∈ WG := wg_t (wu4 (List.mem_of_getElem? (i := 124) rfl)) rfl
theorem w_845 : Cond.methodLink "Ballothall" 267 ⟨"java/lang/Math", "min", "(II)I"⟩ ∈ WG := wg_t (wu4 (List.mem_of_getElem? (i := 125) rfl)) rfl
theorem w_846 : Cond.methodLink "BallothallLaw" 163 ⟨"BallothallLaw", "setLot", "(LBallothall;ZII[J)I"⟩ ∈ WG := wg_t (wu4 (List.mem_of_getElem? (i := 126) rfl)) rfl
theorem w_847 : Cond.static ⟨"BallothallLaw", "setLot", "(LBallothall;ZII[J)I"⟩ ∈ WG := wg_t (wu4 (List.mem_of_getElem? (i := 127) rfl)) rfl
theorem w_848 : Cond.codeWith ⟨"BallothallLaw", "setLot", "(LBallothall;ZII[J)I"⟩ method_4_code 6 (some .int) [(0, 12, 15, 19), (0, 12, 19, 21)] ∈ WG := wg_t (wu4 (List.mem_of_getElem? (i := 128) rfl)) rfl
theorem w_849 : Cond.classLink "BallothallLaw" 19 "java/lang/IndexOutOfBoundsException" ∈ WG := wg_t (wu4 (List.mem_of_getElem? (i := 129) rfl)) rfl
theorem w_850 : Cond.classLink "BallothallLaw" 21 "java/lang/IllegalArgumentException" ∈ WG := wg_t (wu4 (List.mem_of_getElem? (i := 130) rfl)) rfl
theorem w_851 : Cond.methodLink "BallothallLaw" 15 ⟨"Ballothall", "setLot", "(ZII)I"⟩ ∈ WG := wg_t (wu4 (List.mem_of_getElem? (i := 131) rfl)) rfl
theorem w_852 : Cond.instanceMethod ⟨"Ballothall", "setLot", "(ZII)I"⟩ ∈ WG := wg_t (wu4 (List.mem_of_getElem? (i := 132) rfl)) rfl
theorem w_853 : Cond.selects "Ballothall" ⟨"Ballothall", "setLot", "(ZII)I"⟩ ⟨"Ballothall", "setLot", "(ZII)I"⟩ ∈ WG := wg_t (wu4 (List.mem_of_getElem? (i := 133) rfl)) rfl
theorem w_854 : Cond.code ⟨"Ballothall", "setLot", "(ZII)I"⟩ prog_1_method_3_code 6 (some .int) ∈ WG := wg_t (wu4 (List.mem_of_getElem? (i := 134) rfl)) rfl
theorem w_855 : Cond.methodLink "Ballothall" 93 ⟨"Ballothall", "needIndex", "(II)V"⟩ ∈ WG := wg_t (wu4 (List.mem_of_getElem? (i := 135) rfl)) rfl
theorem w_856 : Cond.static ⟨"Ballothall", "needIndex", "(II)V"⟩ ∈ WG := wg_t (wu4 (List.mem_of_getElem? (i := 136) rfl)) rfl
theorem w_857 : Cond.code ⟨"Ballothall", "needIndex", "(II)V"⟩ prog_1_method_56_code 2 none ∈ WG := wg_t (wu4 (List.mem_of_getElem? (i := 137) rfl)) rfl
theorem w_858 : Cond.classLink "Ballothall" 391 "java/lang/IndexOutOfBoundsException" ∈ WG := wg_t (wu4 (List.mem_of_getElem? (i := 138) rfl)) rfl
theorem w_874 : Cond.methodLink "Ballothall" 96 ⟨"Ballothall", "needRange", "(III)V"⟩ ∈ WG := wg_t (wu4 (List.mem_of_getElem? (i := 154) rfl)) rfl
theorem w_875 : Cond.static ⟨"Ballothall", "needRange", "(III)V"⟩ ∈ WG := wg_t (wu4 (List.mem_of_getElem? (i := 155) rfl)) rfl
theorem w_876 : Cond.code ⟨"Ballothall", "needRange", "(III)V"⟩ prog_1_method_57_code 3 none ∈ WG := wg_t (wu4 (List.mem_of_getElem? (i := 156) rfl)) rfl
theorem w_877 : Cond.classLink "Ballothall" 306 "java/lang/IllegalArgumentException" ∈ WG := wg_t (wu4 (List.mem_of_getElem? (i := 157) rfl)) rfl
theorem w_905 : Cond.methodLink "BallothallLaw" 173 ⟨"BallothallLaw", "ballots", "(LBallothall;I[J)I"⟩ ∈ WG := wg_t (wu4 (List.mem_of_getElem? (i := 185) rfl)) rfl
theorem w_906 : Cond.static ⟨"BallothallLaw", "ballots", "(LBallothall;I[J)I"⟩ ∈ WG := wg_t (wu4 (List.mem_of_getElem? (i := 186) rfl)) rfl
theorem w_907 : Cond.codeWith ⟨"BallothallLaw", "ballots", "(LBallothall;I[J)I"⟩ method_6_code 4 (some .int) [(0, 9, 12, 21), (0, 9, 15, 13)] ∈ WG := wg_t (wu4 (List.mem_of_getElem? (i := 187) rfl)) rfl
theorem w_908 : Cond.methodLink "BallothallLaw" 27 ⟨"Ballothall", "ballots", "(I)I"⟩ ∈ WG := wg_t (wu4 (List.mem_of_getElem? (i := 188) rfl)) rfl
theorem w_909 : Cond.instanceMethod ⟨"Ballothall", "ballots", "(I)I"⟩ ∈ WG := wg_t (wu4 (List.mem_of_getElem? (i := 189) rfl)) rfl
theorem w_910 : Cond.selects "Ballothall" ⟨"Ballothall", "ballots", "(I)I"⟩ ⟨"Ballothall", "ballots", "(I)I"⟩ ∈ WG := wg_t (wu4 (List.mem_of_getElem? (i := 190) rfl)) rfl
theorem w_911 : Cond.code ⟨"Ballothall", "ballots", "(I)I"⟩ prog_1_method_5_code 4 (some .int) ∈ WG := wg_t (wu4 (List.mem_of_getElem? (i := 191) rfl)) rfl
theorem w_912 : Cond.constant "Ballothall" 109 100000 ∈ WG := wg_t (wu4 (List.mem_of_getElem? (i := 192) rfl)) rfl
theorem w_915 : Cond.instanceMethod ⟨"Ballothall$BallotBox", "readTrial", "()I"⟩ ∈ WG := wg_t (wu4 (List.mem_of_getElem? (i := 195) rfl)) rfl
theorem w_916 : Cond.code ⟨"Ballothall$BallotBox", "readTrial", "()I"⟩ prog_2_method_6_code 8 (some .int) ∈ WG := wg_t (wu4 (List.mem_of_getElem? (i := 196) rfl)) rfl
theorem w_917 : Cond.methodLink "Ballothall$BallotBox" 42 ⟨"Ballothall$BallotBox", "clearTrial", "()V"⟩ ∈ WG := wg_t (wu4 (List.mem_of_getElem? (i := 197) rfl)) rfl
theorem w_919 : Cond.instanceMethod ⟨"Ballothall$BallotBox", "clearTrial", "()V"⟩ ∈ WG := wg_t (wu4 (List.mem_of_getElem? (i := 199) rfl)) rfl
theorem w_920 : Cond.code ⟨"Ballothall$BallotBox", "clearTrial", "()V"⟩ prog_2_method_7_code 1 none ∈ WG := wg_t (wu4 (List.mem_of_getElem? (i := 200) rfl)) rfl
theorem w_929 : Cond.instanceMethod ⟨"Ballothall$BallotBox", "kindOfTrial", "()I"⟩ ∈ WG := wg_t (wu4 (List.mem_of_getElem? (i := 209) rfl)) rfl
theorem w_930 : Cond.code ⟨"Ballothall$BallotBox", "kindOfTrial", "()I"⟩ prog_2_method_9_code 2 (some .int) ∈ WG := wg_t (wu4 (List.mem_of_getElem? (i := 210) rfl)) rfl
theorem w_937 : Cond.instanceMethod ⟨"Ballothall$BallotBox", "keepTrial", "()I"⟩ ∈ WG := wg_t (wu4 (List.mem_of_getElem? (i := 217) rfl)) rfl
theorem w_938 : Cond.code ⟨"Ballothall$BallotBox", "keepTrial", "()I"⟩ prog_2_method_11_code 2 (some .int) ∈ WG := wg_t (wu4 (List.mem_of_getElem? (i := 218) rfl)) rfl
theorem w_939 : Cond.methodLink "Ballothall$BallotBox" 72 ⟨"java/lang/System", "arraycopy", "(Ljava/lang/Object;ILjava/lang/Object;II)V"⟩ ∈ WG := wg_t (wu4 (List.mem_of_getElem? (i := 219) rfl)) rfl
theorem w_941 : Cond.methodLink "BallothallLaw" 177 ⟨"BallothallLaw", "takeBack", "(LBallothall;II[J)I"⟩ ∈ WG := wg_t (wu4 (List.mem_of_getElem? (i := 221) rfl)) rfl
theorem w_942 : Cond.static ⟨"BallothallLaw", "takeBack", "(LBallothall;II[J)I"⟩ ∈ WG := wg_t (wu4 (List.mem_of_getElem? (i := 222) rfl)) rfl
theorem w_943 : Cond.codeWith ⟨"BallothallLaw", "takeBack", "(LBallothall;II[J)I"⟩ method_7_code 5 (some .int) [(0, 10, 13, 19), (0, 10, 17, 21)] ∈ WG := wg_t (wu4 (List.mem_of_getElem? (i := 223) rfl)) rfl
theorem w_944 : Cond.methodLink "BallothallLaw" 31 ⟨"Ballothall", "takeBack", "(II)I"⟩ ∈ WG := wg_t (wu4 (List.mem_of_getElem? (i := 224) rfl)) rfl
theorem w_945 : Cond.instanceMethod ⟨"Ballothall", "takeBack", "(II)I"⟩ ∈ WG := wg_t (wu4 (List.mem_of_getElem? (i := 225) rfl)) rfl
theorem w_946 : Cond.selects "Ballothall" ⟨"Ballothall", "takeBack", "(II)I"⟩ ⟨"Ballothall", "takeBack", "(II)I"⟩ ∈ WG := wg_t (wu4 (List.mem_of_getElem? (i := 226) rfl)) rfl
theorem w_947 : Cond.code ⟨"Ballothall", "takeBack", "(II)I"⟩ prog_1_method_6_code 3 (some .int) ∈ WG := wg_t (wu4 (List.mem_of_getElem? (i := 227) rfl)) rfl
theorem w_948 : Cond.methodLink "BallothallLaw" 181 ⟨"BallothallLaw", "countOf", "(LBallothall;I[J)I"⟩ ∈ WG := wg_t (wu4 (List.mem_of_getElem? (i := 228) rfl)) rfl
theorem w_949 : Cond.static ⟨"BallothallLaw", "countOf", "(LBallothall;I[J)I"⟩ ∈ WG := wg_t (wu4 (List.mem_of_getElem? (i := 229) rfl)) rfl
theorem w_950 : Cond.codeWith ⟨"BallothallLaw", "countOf", "(LBallothall;I[J)I"⟩ method_8_code 4 (some .int) [(0, 9, 12, 19)] ∈ WG := wg_t (wu4 (List.mem_of_getElem? (i := 230) rfl)) rfl
theorem w_951 : Cond.methodLink "BallothallLaw" 35 ⟨"Ballothall", "countOf", "(I)I"⟩ ∈ WG := wg_t (wu4 (List.mem_of_getElem? (i := 231) rfl)) rfl
theorem w_952 : Cond.instanceMethod ⟨"Ballothall", "countOf", "(I)I"⟩ ∈ WG := wg_t (wu4 (List.mem_of_getElem? (i := 232) rfl)) rfl
theorem w_953 : Cond.selects "Ballothall" ⟨"Ballothall", "countOf", "(I)I"⟩ ⟨"Ballothall", "countOf", "(I)I"⟩ ∈ WG := wg_t (wu4 (List.mem_of_getElem? (i := 233) rfl)) rfl
theorem w_954 : Cond.code ⟨"Ballothall", "countOf", "(I)I"⟩ prog_1_method_7_code 2 (some .int) ∈ WG := wg_t (wu4 (List.mem_of_getElem? (i := 234) rfl)) rfl
theorem w_955 : Cond.methodLink "BallothallLaw" 184 ⟨"BallothallLaw", "kindAt", "(LBallothall;IIZ[J)I"⟩ ∈ WG := wg_t (wu4 (List.mem_of_getElem? (i := 235) rfl)) rfl
theorem w_956 : Cond.static ⟨"BallothallLaw", "kindAt", "(LBallothall;IIZ[J)I"⟩ ∈ WG := wg_t (wu4 (List.mem_of_getElem? (i := 236) rfl)) rfl
theorem w_957 : Cond.codeWith ⟨"BallothallLaw", "kindAt", "(LBallothall;IIZ[J)I"⟩ method_9_code 6 (some .int) [(0, 12, 15, 19)] ∈ WG := wg_t (wu4 (List.mem_of_getElem? (i := 237) rfl)) rfl
theorem w_958 : Cond.methodLink "BallothallLaw" 38 ⟨"Ballothall", "kindAt", "(IIZ)I"⟩ ∈ WG := wg_t (wu4 (List.mem_of_getElem? (i := 238) rfl)) rfl
theorem w_959 : Cond.instanceMethod ⟨"Ballothall", "kindAt", "(IIZ)I"⟩ ∈ WG := wg_t (wu4 (List.mem_of_getElem? (i := 239) rfl)) rfl
theorem w_960 : Cond.selects "Ballothall" ⟨"Ballothall", "kindAt", "(IIZ)I"⟩ ⟨"Ballothall", "kindAt", "(IIZ)I"⟩ ∈ WG := wg_t (wu5 (List.mem_of_getElem? (i := 0) rfl)) rfl
theorem w_961 : Cond.code ⟨"Ballothall", "kindAt", "(IIZ)I"⟩ prog_1_method_8_code 4 (some .int) ∈ WG := wg_t (wu5 (List.mem_of_getElem? (i := 1) rfl)) rfl
theorem w_966 : Cond.methodLink "BallothallLaw" 192 ⟨"BallothallLaw", "list", "(LBallothall;I[J)I"⟩ ∈ WG := wg_t (wu5 (List.mem_of_getElem? (i := 6) rfl)) rfl
theorem w_967 : Cond.static ⟨"BallothallLaw", "list", "(LBallothall;I[J)I"⟩ ∈ WG := wg_t (wu5 (List.mem_of_getElem? (i := 7) rfl)) rfl
theorem w_968 : Cond.codeWith ⟨"BallothallLaw", "list", "(LBallothall;I[J)I"⟩ method_10_code 4 (some .int) [(0, 9, 12, 21), (0, 9, 15, 13)] ∈ WG := wg_t (wu5 (List.mem_of_getElem? (i := 8) rfl)) rfl
theorem w_969 : Cond.methodLink "BallothallLaw" 42 ⟨"Ballothall", "list", "(I)I"⟩ ∈ WG := wg_t (wu5 (List.mem_of_getElem? (i := 9) rfl)) rfl
theorem w_970 : Cond.instanceMethod ⟨"Ballothall", "list", "(I)I"⟩ ∈ WG := wg_t (wu5 (List.mem_of_getElem? (i := 10) rfl)) rfl
theorem w_971 : Cond.selects "Ballothall" ⟨"Ballothall", "list", "(I)I"⟩ ⟨"Ballothall", "list", "(I)I"⟩ ∈ WG := wg_t (wu5 (List.mem_of_getElem? (i := 11) rfl)) rfl
theorem w_972 : Cond.code ⟨"Ballothall", "list", "(I)I"⟩ prog_1_method_10_code 3 (some .int) ∈ WG := wg_t (wu5 (List.mem_of_getElem? (i := 12) rfl)) rfl
theorem w_973 : Cond.constant "Ballothall" 138 10000000 ∈ WG := wg_t (wu5 (List.mem_of_getElem? (i := 13) rfl)) rfl
theorem w_976 : Cond.instanceMethod ⟨"Ballothall$Lists", "append", "(I)I"⟩ ∈ WG := wg_t (wu5 (List.mem_of_getElem? (i := 16) rfl)) rfl
theorem w_977 : Cond.code ⟨"Ballothall$Lists", "append", "(I)I"⟩ prog_9_method_2_code 3 (some .int) ∈ WG := wg_t (wu5 (List.mem_of_getElem? (i := 17) rfl)) rfl
theorem w_978 : Cond.methodLink "BallothallLaw" 195 ⟨"BallothallLaw", "setVotes", "(LBallothall;II[J)I"⟩ ∈ WG := wg_t (wu5 (List.mem_of_getElem? (i := 18) rfl)) rfl
theorem w_979 : Cond.static ⟨"BallothallLaw", "setVotes", "(LBallothall;II[J)I"⟩ ∈ WG := wg_t (wu5 (List.mem_of_getElem? (i := 19) rfl)) rfl
theorem w_980 : Cond.codeWith ⟨"BallothallLaw", "setVotes", "(LBallothall;II[J)I"⟩ method_11_code 5 (some .int) [(0, 10, 13, 19), (0, 10, 17, 21)] ∈ WG := wg_t (wu5 (List.mem_of_getElem? (i := 20) rfl)) rfl
theorem w_981 : Cond.methodLink "BallothallLaw" 45 ⟨"Ballothall", "setVotes", "(II)I"⟩ ∈ WG := wg_t (wu5 (List.mem_of_getElem? (i := 21) rfl)) rfl
theorem w_982 : Cond.instanceMethod ⟨"Ballothall", "setVotes", "(II)I"⟩ ∈ WG := wg_t (wu5 (List.mem_of_getElem? (i := 22) rfl)) rfl
theorem w_983 : Cond.selects "Ballothall" ⟨"Ballothall", "setVotes", "(II)I"⟩ ⟨"Ballothall", "setVotes", "(II)I"⟩ ∈ WG := wg_t (wu5 (List.mem_of_getElem? (i := 23) rfl)) rfl
theorem w_984 : Cond.code ⟨"Ballothall", "setVotes", "(II)I"⟩ prog_1_method_11_code 4 (some .int) ∈ WG := wg_t (wu5 (List.mem_of_getElem? (i := 24) rfl)) rfl
theorem w_985 : Cond.methodLink "BallothallLaw" 198 ⟨"BallothallLaw", "ally", "(LBallothall;II[J)I"⟩ ∈ WG := wg_t (wu5 (List.mem_of_getElem? (i := 25) rfl)) rfl
theorem w_986 : Cond.static ⟨"BallothallLaw", "ally", "(LBallothall;II[J)I"⟩ ∈ WG := wg_t (wu5 (List.mem_of_getElem? (i := 26) rfl)) rfl
theorem w_987 : Cond.codeWith ⟨"BallothallLaw", "ally", "(LBallothall;II[J)I"⟩ method_12_code 5 (some .int) [(0, 10, 13, 19), (0, 10, 17, 21)] ∈ WG := wg_t (wu5 (List.mem_of_getElem? (i := 27) rfl)) rfl
theorem w_988 : Cond.methodLink "BallothallLaw" 48 ⟨"Ballothall", "ally", "(II)I"⟩ ∈ WG := wg_t (wu5 (List.mem_of_getElem? (i := 28) rfl)) rfl
theorem w_989 : Cond.instanceMethod ⟨"Ballothall", "ally", "(II)I"⟩ ∈ WG := wg_t (wu5 (List.mem_of_getElem? (i := 29) rfl)) rfl
theorem w_990 : Cond.selects "Ballothall" ⟨"Ballothall", "ally", "(II)I"⟩ ⟨"Ballothall", "ally", "(II)I"⟩ ∈ WG := wg_t (wu5 (List.mem_of_getElem? (i := 30) rfl)) rfl
theorem w_991 : Cond.code ⟨"Ballothall", "ally", "(II)I"⟩ prog_1_method_12_code 4 (some .int) ∈ WG := wg_t (wu5 (List.mem_of_getElem? (i := 31) rfl)) rfl
theorem w_992 : Cond.methodLink "BallothallLaw" 201 ⟨"BallothallLaw", "seats", "(LBallothall;III[J)I"⟩ ∈ WG := wg_t (wu5 (List.mem_of_getElem? (i := 32) rfl)) rfl
theorem w_993 : Cond.static ⟨"BallothallLaw", "seats", "(LBallothall;III[J)I"⟩ ∈ WG := wg_t (wu5 (List.mem_of_getElem? (i := 33) rfl)) rfl
theorem w_994 : Cond.codeWith ⟨"BallothallLaw", "seats", "(LBallothall;III[J)I"⟩ method_13_code 6 (some .int) [(0, 12, 15, 21)] ∈ WG := wg_t (wu5 (List.mem_of_getElem? (i := 34) rfl)) rfl
theorem w_995 : Cond.methodLink "BallothallLaw" 51 ⟨"Ballothall", "seats", "(III)I"⟩ ∈ WG := wg_t (wu5 (List.mem_of_getElem? (i := 35) rfl)) rfl
theorem w_996 : Cond.instanceMethod ⟨"Ballothall", "seats", "(III)I"⟩ ∈ WG := wg_t (wu5 (List.mem_of_getElem? (i := 36) rfl)) rfl
theorem w_997 : Cond.selects "Ballothall" ⟨"Ballothall", "seats", "(III)I"⟩ ⟨"Ballothall", "seats", "(III)I"⟩ ∈ WG := wg_t (wu5 (List.mem_of_getElem? (i := 37) rfl)) rfl
theorem w_998 : Cond.code ⟨"Ballothall", "seats", "(III)I"⟩ prog_1_method_13_code 5 (some .int) ∈ WG := wg_t (wu5 (List.mem_of_getElem? (i := 38) rfl)) rfl
theorem w_1001 : Cond.instanceMethod ⟨"Ballothall$Lists", "spread", "(III)I"⟩ ∈ WG := wg_t (wu5 (List.mem_of_getElem? (i := 41) rfl)) rfl
theorem w_1002 : Cond.code ⟨"Ballothall$Lists", "spread", "(III)I"⟩ prog_9_method_5_code 7 (some .int) ∈ WG := wg_t (wu5 (List.mem_of_getElem? (i := 42) rfl)) rfl
theorem w_1005 : Cond.instanceMethod ⟨"Ballothall$Division", "clear", "()V"⟩ ∈ WG := wg_t (wu5 (List.mem_of_getElem? (i := 45) rfl)) rfl
theorem w_1006 : Cond.code ⟨"Ballothall$Division", "clear", "()V"⟩ prog_6_method_2_code 1 none ∈ WG := wg_t (wu5 (List.mem_of_getElem? (i := 46) rfl)) rfl
theorem w_1026 : Cond.instanceMethod ⟨"Ballothall$Division", "distribute", "(II)V"⟩ ∈ WG := wg_t (wu5 (List.mem_of_getElem? (i := 66) rfl)) rfl
theorem w_1027 : Cond.code ⟨"Ballothall$Division", "distribute", "(II)V"⟩ prog_6_method_5_code 6 none ∈ WG := wg_t (wu5 (List.mem_of_getElem? (i := 67) rfl)) rfl
theorem w_1054 : Cond.methodLink "Ballothall$Lists" 70 ⟨"java/util/Arrays", "fill", "([II)V"⟩ ∈ WG := wg_t (wu5 (List.mem_of_getElem? (i := 94) rfl)) rfl
theorem w_1061 : Cond.instanceMethod ⟨"Ballothall$Lists", "keepSpread", "()V"⟩ ∈ WG := wg_t (wu5 (List.mem_of_getElem? (i := 101) rfl)) rfl
theorem w_1062 : Cond.code ⟨"Ballothall$Lists", "keepSpread", "()V"⟩ prog_9_method_9_code 2 none ∈ WG := wg_t (wu5 (List.mem_of_getElem? (i := 102) rfl)) rfl
theorem w_1063 : Cond.methodLink "Ballothall$Lists" 102 ⟨"java/lang/Math", "min", "(II)I"⟩ ∈ WG := wg_t (wu5 (List.mem_of_getElem? (i := 103) rfl)) rfl
theorem w_1064 : Cond.methodLink "Ballothall$Lists" 117 ⟨"java/lang/System", "arraycopy", "(Ljava/lang/Object;ILjava/lang/Object;II)V"⟩ ∈ WG := wg_t (wu5 (List.mem_of_getElem? (i := 104) rfl)) rfl
theorem w_1065 : Cond.methodLink "BallothallLaw" 205 ⟨"BallothallLaw", "seatsOf", "(LBallothall;I[J)I"⟩ ∈ WG := wg_t (wu5 (List.mem_of_getElem? (i := 105) rfl)) rfl
theorem w_1066 : Cond.static ⟨"BallothallLaw", "seatsOf", "(LBallothall;I[J)I"⟩ ∈ WG := wg_t (wu5 (List.mem_of_getElem? (i := 106) rfl)) rfl
theorem w_1067 : Cond.codeWith ⟨"BallothallLaw", "seatsOf", "(LBallothall;I[J)I"⟩ method_14_code 4 (some .int) [(0, 9, 12, 19)] ∈ WG := wg_t (wu5 (List.mem_of_getElem? (i := 107) rfl)) rfl
theorem w_1068 : Cond.methodLink "BallothallLaw" 55 ⟨"Ballothall", "seatsOf", "(I)I"⟩ ∈ WG := wg_t (wu5 (List.mem_of_getElem? (i := 108) rfl)) rfl
theorem w_1069 : Cond.instanceMethod ⟨"Ballothall", "seatsOf", "(I)I"⟩ ∈ WG := wg_t (wu5 (List.mem_of_getElem? (i := 109) rfl)) rfl
theorem w_1070 : Cond.selects "Ballothall" ⟨"Ballothall", "seatsOf", "(I)I"⟩ ⟨"Ballothall", "seatsOf", "(I)I"⟩ ∈ WG := wg_t (wu5 (List.mem_of_getElem? (i := 110) rfl)) rfl
theorem w_1071 : Cond.code ⟨"Ballothall", "seatsOf", "(I)I"⟩ prog_1_method_14_code 2 (some .int) ∈ WG := wg_t (wu5 (List.mem_of_getElem? (i := 111) rfl)) rfl
theorem w_1072 : Cond.methodLink "BallothallLaw" 208 ⟨"BallothallLaw", "seatAt", "(LBallothall;I[J)I"⟩ ∈ WG := wg_t (wu5 (List.mem_of_getElem? (i := 112) rfl)) rfl
theorem w_1073 : Cond.static ⟨"BallothallLaw", "seatAt", "(LBallothall;I[J)I"⟩ ∈ WG := wg_t (wu5 (List.mem_of_getElem? (i := 113) rfl)) rfl
theorem w_1074 : Cond.codeWith ⟨"BallothallLaw", "seatAt", "(LBallothall;I[J)I"⟩ method_15_code 4 (some .int) [(0, 9, 12, 61)] ∈ WG := wg_t (wu5 (List.mem_of_getElem? (i := 114) rfl)) rfl
theorem w_1075 : Cond.classLink "BallothallLaw" 61 "java/util/NoSuchElementException" ∈ WG := wg_t (wu5 (List.mem_of_getElem? (i := 115) rfl)) rfl
theorem w_1076 : Cond.methodLink "BallothallLaw" 58 ⟨"Ballothall", "seatAt", "(I)I"⟩ ∈ WG := wg_t (wu5 (List.mem_of_getElem? (i := 116) rfl)) rfl
theorem w_1077 : Cond.instanceMethod ⟨"Ballothall", "seatAt", "(I)I"⟩ ∈ WG := wg_t (wu5 (List.mem_of_getElem? (i := 117) rfl)) rfl
theorem w_1078 : Cond.selects "Ballothall" ⟨"Ballothall", "seatAt", "(I)I"⟩ ⟨"Ballothall", "seatAt", "(I)I"⟩ ∈ WG := wg_t (wu5 (List.mem_of_getElem? (i := 118) rfl)) rfl
theorem w_1079 : Cond.code ⟨"Ballothall", "seatAt", "(I)I"⟩ prog_1_method_15_code 3 (some .int) ∈ WG := wg_t (wu5 (List.mem_of_getElem? (i := 119) rfl)) rfl
theorem w_1080 : Cond.methodLink "Ballothall" 172 ⟨"Ballothall", "needPlace", "(II)V"⟩ ∈ WG := wg_t (wu5 (List.mem_of_getElem? (i := 120) rfl)) rfl
theorem w_1081 : Cond.static ⟨"Ballothall", "needPlace", "(II)V"⟩ ∈ WG := wg_t (wu5 (List.mem_of_getElem? (i := 121) rfl)) rfl
theorem w_1082 : Cond.code ⟨"Ballothall", "needPlace", "(II)V"⟩ prog_1_method_59_code 2 none ∈ WG := wg_t (wu5 (List.mem_of_getElem? (i := 122) rfl)) rfl
theorem w_1083 : Cond.classLink "Ballothall" 202 "java/util/NoSuchElementException" ∈ WG := wg_t (wu5 (List.mem_of_getElem? (i := 123) rfl)) rfl
theorem w_1099 : Cond.methodLink "BallothallLaw" 211 ⟨"BallothallLaw", "lossAt", "(LBallothall;I[J)I"⟩ ∈ WG := wg_t (wu5 (List.mem_of_getElem? (i := 139) rfl)) rfl
theorem w_1100 : Cond.static ⟨"BallothallLaw", "lossAt", "(LBallothall;I[J)I"⟩ ∈ WG := wg_t (wu5 (List.mem_of_getElem? (i := 140) rfl)) rfl
theorem w_1101 : Cond.codeWith ⟨"BallothallLaw", "lossAt", "(LBallothall;I[J)I"⟩ method_16_code 4 (some .int) [(0, 9, 12, 21)] ∈ WG := wg_t (wu5 (List.mem_of_getElem? (i := 141) rfl)) rfl
theorem w_1102 : Cond.methodLink "BallothallLaw" 63 ⟨"Ballothall", "lossAt", "(I)I"⟩ ∈ WG := wg_t (wu5 (List.mem_of_getElem? (i := 142) rfl)) rfl
theorem w_1103 : Cond.instanceMethod ⟨"Ballothall", "lossAt", "(I)I"⟩ ∈ WG := wg_t (wu5 (List.mem_of_getElem? (i := 143) rfl)) rfl
theorem w_1104 : Cond.selects "Ballothall" ⟨"Ballothall", "lossAt", "(I)I"⟩ ⟨"Ballothall", "lossAt", "(I)I"⟩ ∈ WG := wg_t (wu5 (List.mem_of_getElem? (i := 144) rfl)) rfl
theorem w_1105 : Cond.code ⟨"Ballothall", "lossAt", "(I)I"⟩ prog_1_method_16_code 2 (some .int) ∈ WG := wg_t (wu5 (List.mem_of_getElem? (i := 145) rfl)) rfl
theorem w_1108 : Cond.instanceMethod ⟨"Ballothall$Lists", "firstLoss", "(I)I"⟩ ∈ WG := wg_t (wu5 (List.mem_of_getElem? (i := 148) rfl)) rfl
theorem w_1109 : Cond.code ⟨"Ballothall$Lists", "firstLoss", "(I)I"⟩ prog_9_method_10_code 4 (some .int) ∈ WG := wg_t (wu5 (List.mem_of_getElem? (i := 149) rfl)) rfl
theorem w_1110 : Cond.methodLink "Ballothall$Lists" 126 ⟨"Ballothall$Lists", "spread", "(III)I"⟩ ∈ WG := wg_t (wu5 (List.mem_of_getElem? (i := 150) rfl)) rfl
theorem w_1111 : Cond.methodLink "BallothallLaw" 214 ⟨"BallothallLaw", "transferable", "(LBallothall;I[J)I"⟩ ∈ WG := wg_t (wu5 (List.mem_of_getElem? (i := 151) rfl)) rfl
theorem w_1112 : Cond.static ⟨"BallothallLaw", "transferable", "(LBallothall;I[J)I"⟩ ∈ WG := wg_t (wu5 (List.mem_of_getElem? (i := 152) rfl)) rfl
theorem w_1113 : Cond.codeWith ⟨"BallothallLaw", "transferable", "(LBallothall;I[J)I"⟩ method_17_code 4 (some .int) [(0, 9, 12, 21), (0, 9, 15, 13)] ∈ WG := wg_t (wu5 (List.mem_of_getElem? (i := 153) rfl)) rfl
theorem w_1114 : Cond.methodLink "BallothallLaw" 66 ⟨"Ballothall", "transferable", "(I)I"⟩ ∈ WG := wg_t (wu5 (List.mem_of_getElem? (i := 154) rfl)) rfl
theorem w_1115 : Cond.instanceMethod ⟨"Ballothall", "transferable", "(I)I"⟩ ∈ WG := wg_t (wu5 (List.mem_of_getElem? (i := 155) rfl)) rfl
theorem w_1116 : Cond.selects "Ballothall" ⟨"Ballothall", "transferable", "(I)I"⟩ ⟨"Ballothall", "transferable", "(I)I"⟩ ∈ WG := wg_t (wu5 (List.mem_of_getElem? (i := 156) rfl)) rfl
theorem w_1117 : Cond.code ⟨"Ballothall", "transferable", "(I)I"⟩ prog_1_method_17_code 3 (some .int) ∈ WG := wg_t (wu5 (List.mem_of_getElem? (i := 157) rfl)) rfl
theorem w_1277 : Cond.methodLink "BallothallLaw" 221 ⟨"BallothallLaw", "electedAt", "(LBallothall;I[J)I"⟩ ∈ WG := wg_t (wu6 (List.mem_of_getElem? (i := 77) rfl)) rfl
theorem w_1278 : Cond.static ⟨"BallothallLaw", "electedAt", "(LBallothall;I[J)I"⟩ ∈ WG := wg_t (wu6 (List.mem_of_getElem? (i := 78) rfl)) rfl
theorem w_1279 : Cond.codeWith ⟨"BallothallLaw", "electedAt", "(LBallothall;I[J)I"⟩ method_18_code 4 (some .int) [(0, 9, 12, 61)] ∈ WG := wg_t (wu6 (List.mem_of_getElem? (i := 79) rfl)) rfl
theorem w_1280 : Cond.methodLink "BallothallLaw" 69 ⟨"Ballothall", "electedAt", "(I)I"⟩ ∈ WG := wg_t (wu6 (List.mem_of_getElem? (i := 80) rfl)) rfl
theorem w_1281 : Cond.instanceMethod ⟨"Ballothall", "electedAt", "(I)I"⟩ ∈ WG := wg_t (wu6 (List.mem_of_getElem? (i := 81) rfl)) rfl
theorem w_1282 : Cond.selects "Ballothall" ⟨"Ballothall", "electedAt", "(I)I"⟩ ⟨"Ballothall", "electedAt", "(I)I"⟩ ∈ WG := wg_t (wu6 (List.mem_of_getElem? (i := 82) rfl)) rfl
theorem w_1283 : Cond.code ⟨"Ballothall", "electedAt", "(I)I"⟩ prog_1_method_19_code 3 (some .int) ∈ WG := wg_t (wu6 (List.mem_of_getElem? (i := 83) rfl)) rfl
theorem w_1285 : Cond.methodLink "BallothallLaw" 224 ⟨"BallothallLaw", "excludedAt", "(LBallothall;I[J)I"⟩ ∈ WG := wg_t (wu6 (List.mem_of_getElem? (i := 85) rfl)) rfl
theorem w_1286 : Cond.static ⟨"BallothallLaw", "excludedAt", "(LBallothall;I[J)I"⟩ ∈ WG := wg_t (wu6 (List.mem_of_getElem? (i := 86) rfl)) rfl
theorem w_1287 : Cond.codeWith ⟨"BallothallLaw", "excludedAt", "(LBallothall;I[J)I"⟩ method_19_code 4 (some .int) [(0, 9, 12, 61)] ∈ WG := wg_t (wu6 (List.mem_of_getElem? (i := 87) rfl)) rfl
theorem w_1288 : Cond.methodLink "BallothallLaw" 72 ⟨"Ballothall", "excludedAt", "(I)I"⟩ ∈ WG := wg_t (wu6 (List.mem_of_getElem? (i := 88) rfl)) rfl
theorem w_1289 : Cond.instanceMethod ⟨"Ballothall", "excludedAt", "(I)I"⟩ ∈ WG := wg_t (wu6 (List.mem_of_getElem? (i := 89) rfl)) rfl
theorem w_1290 : Cond.selects "Ballothall" ⟨"Ballothall", "excludedAt", "(I)I"⟩ ⟨"Ballothall", "excludedAt", "(I)I"⟩ ∈ WG := wg_t (wu6 (List.mem_of_getElem? (i := 90) rfl)) rfl
theorem w_1291 : Cond.code ⟨"Ballothall", "excludedAt", "(I)I"⟩ prog_1_method_20_code 3 (some .int) ∈ WG := wg_t (wu6 (List.mem_of_getElem? (i := 91) rfl)) rfl
theorem w_1293 : Cond.methodLink "BallothallLaw" 231 ⟨"BallothallLaw", "writePile", "(LBallothall;II[J)I"⟩ ∈ WG := wg_t (wu6 (List.mem_of_getElem? (i := 93) rfl)) rfl
theorem w_1294 : Cond.static ⟨"BallothallLaw", "writePile", "(LBallothall;II[J)I"⟩ ∈ WG := wg_t (wu6 (List.mem_of_getElem? (i := 94) rfl)) rfl
theorem w_1295 : Cond.codeWith ⟨"BallothallLaw", "writePile", "(LBallothall;II[J)I"⟩ method_20_code 5 (some .int) [(0, 10, 13, 19), (0, 10, 17, 61)] ∈ WG := wg_t (wu6 (List.mem_of_getElem? (i := 95) rfl)) rfl
theorem w_1296 : Cond.methodLink "BallothallLaw" 75 ⟨"Ballothall", "writePile", "(II)I"⟩ ∈ WG := wg_t (wu6 (List.mem_of_getElem? (i := 96) rfl)) rfl
theorem w_1297 : Cond.instanceMethod ⟨"Ballothall", "writePile", "(II)I"⟩ ∈ WG := wg_t (wu6 (List.mem_of_getElem? (i := 97) rfl)) rfl
theorem w_1298 : Cond.selects "Ballothall" ⟨"Ballothall", "writePile", "(II)I"⟩ ⟨"Ballothall", "writePile", "(II)I"⟩ ∈ WG := wg_t (wu6 (List.mem_of_getElem? (i := 98) rfl)) rfl
theorem w_1299 : Cond.code ⟨"Ballothall", "writePile", "(II)I"⟩ prog_1_method_22_code 4 (some .int) ∈ WG := wg_t (wu6 (List.mem_of_getElem? (i := 99) rfl)) rfl
theorem w_1313 : Cond.methodLink "BallothallLaw" 238 ⟨"BallothallLaw", "solidQuotas", "(LBallothall;I[J)I"⟩ ∈ WG := wg_t (wu6 (List.mem_of_getElem? (i := 113) rfl)) rfl
theorem w_1314 : Cond.static ⟨"BallothallLaw", "solidQuotas", "(LBallothall;I[J)I"⟩ ∈ WG := wg_t (wu6 (List.mem_of_getElem? (i := 114) rfl)) rfl
theorem w_1315 : Cond.codeWith ⟨"BallothallLaw", "solidQuotas", "(LBallothall;I[J)I"⟩ method_21_code 4 (some .int) [(0, 9, 12, 21), (0, 9, 15, 13)] ∈ WG := wg_t (wu6 (List.mem_of_getElem? (i := 115) rfl)) rfl
theorem w_1316 : Cond.methodLink "BallothallLaw" 78 ⟨"Ballothall", "solidQuotas", "(I)I"⟩ ∈ WG := wg_t (wu6 (List.mem_of_getElem? (i := 116) rfl)) rfl
theorem w_1317 : Cond.instanceMethod ⟨"Ballothall", "solidQuotas", "(I)I"⟩ ∈ WG := wg_t (wu6 (List.mem_of_getElem? (i := 117) rfl)) rfl
theorem w_1318 : Cond.selects "Ballothall" ⟨"Ballothall", "solidQuotas", "(I)I"⟩ ⟨"Ballothall", "solidQuotas", "(I)I"⟩ ∈ WG := wg_t (wu6 (List.mem_of_getElem? (i := 118) rfl)) rfl
theorem w_1319 : Cond.code ⟨"Ballothall", "solidQuotas", "(I)I"⟩ prog_1_method_24_code 3 (some .int) ∈ WG := wg_t (wu6 (List.mem_of_getElem? (i := 119) rfl)) rfl
theorem w_1321 : Cond.methodLink "BallothallLaw" 241 ⟨"BallothallLaw", "ahead", "(LBallothall;II[J)I"⟩ ∈ WG := wg_t (wu6 (List.mem_of_getElem? (i := 121) rfl)) rfl
theorem w_1322 : Cond.static ⟨"BallothallLaw", "ahead", "(LBallothall;II[J)I"⟩ ∈ WG := wg_t (wu6 (List.mem_of_getElem? (i := 122) rfl)) rfl
theorem w_1323 : Cond.codeWith ⟨"BallothallLaw", "ahead", "(LBallothall;II[J)I"⟩ method_22_code 5 (some .int) [(0, 10, 13, 19)] ∈ WG := wg_t (wu6 (List.mem_of_getElem? (i := 123) rfl)) rfl
theorem w_1324 : Cond.methodLink "BallothallLaw" 81 ⟨"Ballothall", "ahead", "(II)I"⟩ ∈ WG := wg_t (wu6 (List.mem_of_getElem? (i := 124) rfl)) rfl
theorem w_1325 : Cond.instanceMethod ⟨"Ballothall", "ahead", "(II)I"⟩ ∈ WG := wg_t (wu6 (List.mem_of_getElem? (i := 125) rfl)) rfl
theorem w_1326 : Cond.selects "Ballothall" ⟨"Ballothall", "ahead", "(II)I"⟩ ⟨"Ballothall", "ahead", "(II)I"⟩ ∈ WG := wg_t (wu6 (List.mem_of_getElem? (i := 126) rfl)) rfl
theorem w_1327 : Cond.code ⟨"Ballothall", "ahead", "(II)I"⟩ prog_1_method_25_code 3 (some .int) ∈ WG := wg_t (wu6 (List.mem_of_getElem? (i := 127) rfl)) rfl
theorem w_1329 : Cond.methodLink "BallothallLaw" 248 ⟨"BallothallLaw", "strongestPath", "(LBallothall;II[J)I"⟩ ∈ WG := wg_t (wu6 (List.mem_of_getElem? (i := 129) rfl)) rfl
theorem w_1330 : Cond.static ⟨"BallothallLaw", "strongestPath", "(LBallothall;II[J)I"⟩ ∈ WG := wg_t (wu6 (List.mem_of_getElem? (i := 130) rfl)) rfl
theorem w_1331 : Cond.codeWith ⟨"BallothallLaw", "strongestPath", "(LBallothall;II[J)I"⟩ method_23_code 5 (some .int) [(0, 10, 13, 19)] ∈ WG := wg_t (wu6 (List.mem_of_getElem? (i := 131) rfl)) rfl
theorem w_1332 : Cond.methodLink "BallothallLaw" 84 ⟨"Ballothall", "strongestPath", "(II)I"⟩ ∈ WG := wg_t (wu6 (List.mem_of_getElem? (i := 132) rfl)) rfl
theorem w_1333 : Cond.instanceMethod ⟨"Ballothall", "strongestPath", "(II)I"⟩ ∈ WG := wg_t (wu6 (List.mem_of_getElem? (i := 133) rfl)) rfl
theorem w_1334 : Cond.selects "Ballothall" ⟨"Ballothall", "strongestPath", "(II)I"⟩ ⟨"Ballothall", "strongestPath", "(II)I"⟩ ∈ WG := wg_t (wu6 (List.mem_of_getElem? (i := 134) rfl)) rfl
theorem w_1335 : Cond.code ⟨"Ballothall", "strongestPath", "(II)I"⟩ prog_1_method_27_code 3 (some .int) ∈ WG := wg_t (wu6 (List.mem_of_getElem? (i := 135) rfl)) rfl
theorem w_1338 : Cond.methodLink "BallothallLaw" 259 ⟨"BallothallLaw", "consensusAt", "(LBallothall;I[J)I"⟩ ∈ WG := wg_t (wu6 (List.mem_of_getElem? (i := 138) rfl)) rfl
theorem w_1339 : Cond.static ⟨"BallothallLaw", "consensusAt", "(LBallothall;I[J)I"⟩ ∈ WG := wg_t (wu6 (List.mem_of_getElem? (i := 139) rfl)) rfl
theorem w_1340 : Cond.codeWith ⟨"BallothallLaw", "consensusAt", "(LBallothall;I[J)I"⟩ method_24_code 4 (some .int) [(0, 9, 12, 61)] ∈ WG := wg_t (wu6 (List.mem_of_getElem? (i := 140) rfl)) rfl
theorem w_1341 : Cond.methodLink "BallothallLaw" 87 ⟨"Ballothall", "consensusAt", "(I)I"⟩ ∈ WG := wg_t (wu6 (List.mem_of_getElem? (i := 141) rfl)) rfl
theorem w_1342 : Cond.instanceMethod ⟨"Ballothall", "consensusAt", "(I)I"⟩ ∈ WG := wg_t (wu6 (List.mem_of_getElem? (i := 142) rfl)) rfl
theorem w_1343 : Cond.selects "Ballothall" ⟨"Ballothall", "consensusAt", "(I)I"⟩ ⟨"Ballothall", "consensusAt", "(I)I"⟩ ∈ WG := wg_t (wu6 (List.mem_of_getElem? (i := 143) rfl)) rfl
theorem w_1344 : Cond.code ⟨"Ballothall", "consensusAt", "(I)I"⟩ prog_1_method_30_code 2 (some .int) ∈ WG := wg_t (wu6 (List.mem_of_getElem? (i := 144) rfl)) rfl
theorem w_1345 : Cond.methodLink "BallothallLaw" 267 ⟨"BallothallLaw", "winner", "(LBallothall;I[J)I"⟩ ∈ WG := wg_t (wu6 (List.mem_of_getElem? (i := 145) rfl)) rfl
theorem w_1346 : Cond.static ⟨"BallothallLaw", "winner", "(LBallothall;I[J)I"⟩ ∈ WG := wg_t (wu6 (List.mem_of_getElem? (i := 146) rfl)) rfl
theorem w_1347 : Cond.codeWith ⟨"BallothallLaw", "winner", "(LBallothall;I[J)I"⟩ method_25_code 4 (some .int) [(0, 9, 12, 21)] ∈ WG := wg_t (wu6 (List.mem_of_getElem? (i := 147) rfl)) rfl
theorem w_1348 : Cond.methodLink "BallothallLaw" 90 ⟨"Ballothall", "winner", "(I)I"⟩ ∈ WG := wg_t (wu6 (List.mem_of_getElem? (i := 148) rfl)) rfl
theorem w_1349 : Cond.instanceMethod ⟨"Ballothall", "winner", "(I)I"⟩ ∈ WG := wg_t (wu6 (List.mem_of_getElem? (i := 149) rfl)) rfl
theorem w_1350 : Cond.selects "Ballothall" ⟨"Ballothall", "winner", "(I)I"⟩ ⟨"Ballothall", "winner", "(I)I"⟩ ∈ WG := wg_t (wu6 (List.mem_of_getElem? (i := 150) rfl)) rfl
theorem w_1351 : Cond.code ⟨"Ballothall", "winner", "(I)I"⟩ prog_1_method_32_code 2 (some .int) ∈ WG := wg_t (wu6 (List.mem_of_getElem? (i := 151) rfl)) rfl
theorem w_1352 : Cond.methodLink "BallothallLaw" 270 ⟨"BallothallLaw", "votesFor", "(LBallothall;II[J)I"⟩ ∈ WG := wg_t (wu6 (List.mem_of_getElem? (i := 152) rfl)) rfl
theorem w_1353 : Cond.static ⟨"BallothallLaw", "votesFor", "(LBallothall;II[J)I"⟩ ∈ WG := wg_t (wu6 (List.mem_of_getElem? (i := 153) rfl)) rfl
theorem w_1354 : Cond.codeWith ⟨"BallothallLaw", "votesFor", "(LBallothall;II[J)I"⟩ method_26_code 5 (some .int) [(0, 10, 13, 19), (0, 10, 17, 21)] ∈ WG := wg_t (wu6 (List.mem_of_getElem? (i := 154) rfl)) rfl
theorem w_1355 : Cond.methodLink "BallothallLaw" 93 ⟨"Ballothall", "votesFor", "(II)I"⟩ ∈ WG := wg_t (wu6 (List.mem_of_getElem? (i := 155) rfl)) rfl
theorem w_1356 : Cond.instanceMethod ⟨"Ballothall", "votesFor", "(II)I"⟩ ∈ WG := wg_t (wu6 (List.mem_of_getElem? (i := 156) rfl)) rfl
theorem w_1357 : Cond.selects "Ballothall" ⟨"Ballothall", "votesFor", "(II)I"⟩ ⟨"Ballothall", "votesFor", "(II)I"⟩ ∈ WG := wg_t (wu6 (List.mem_of_getElem? (i := 157) rfl)) rfl
theorem w_1358 : Cond.code ⟨"Ballothall", "votesFor", "(II)I"⟩ prog_1_method_33_code 3 (some .int) ∈ WG := wg_t (wu6 (List.mem_of_getElem? (i := 158) rfl)) rfl
theorem w_1361 : Cond.methodLink "BallothallLaw" 273 ⟨"BallothallLaw", "runoffOut", "(LBallothall;I[J)I"⟩ ∈ WG := wg_t (wu6 (List.mem_of_getElem? (i := 161) rfl)) rfl
theorem w_1362 : Cond.static ⟨"BallothallLaw", "runoffOut", "(LBallothall;I[J)I"⟩ ∈ WG := wg_t (wu6 (List.mem_of_getElem? (i := 162) rfl)) rfl
theorem w_1363 : Cond.codeWith ⟨"BallothallLaw", "runoffOut", "(LBallothall;I[J)I"⟩ method_27_code 4 (some .int) [(0, 9, 12, 61)] ∈ WG := wg_t (wu6 (List.mem_of_getElem? (i := 163) rfl)) rfl
theorem w_1364 : Cond.methodLink "BallothallLaw" 96 ⟨"Ballothall", "runoffOut", "(I)I"⟩ ∈ WG := wg_t (wu6 (List.mem_of_getElem? (i := 164) rfl)) rfl
theorem w_1365 : Cond.instanceMethod ⟨"Ballothall", "runoffOut", "(I)I"⟩ ∈ WG := wg_t (wu6 (List.mem_of_getElem? (i := 165) rfl)) rfl
theorem w_1366 : Cond.selects "Ballothall" ⟨"Ballothall", "runoffOut", "(I)I"⟩ ⟨"Ballothall", "runoffOut", "(I)I"⟩ ∈ WG := wg_t (wu6 (List.mem_of_getElem? (i := 166) rfl)) rfl
theorem w_1367 : Cond.code ⟨"Ballothall", "runoffOut", "(I)I"⟩ prog_1_method_34_code 2 (some .int) ∈ WG := wg_t (wu6 (List.mem_of_getElem? (i := 167) rfl)) rfl
theorem w_1369 : Cond.methodLink "BallothallLaw" 276 ⟨"BallothallLaw", "winnerWith", "(LBallothall;II[J)I"⟩ ∈ WG := wg_t (wu6 (List.mem_of_getElem? (i := 169) rfl)) rfl
theorem w_1370 : Cond.static ⟨"BallothallLaw", "winnerWith", "(LBallothall;II[J)I"⟩ ∈ WG := wg_t (wu6 (List.mem_of_getElem? (i := 170) rfl)) rfl
theorem w_1371 : Cond.codeWith ⟨"BallothallLaw", "winnerWith", "(LBallothall;II[J)I"⟩ method_28_code 5 (some .int) [(0, 10, 13, 21)] ∈ WG := wg_t (wu6 (List.mem_of_getElem? (i := 171) rfl)) rfl
theorem w_1372 : Cond.methodLink "BallothallLaw" 99 ⟨"Ballothall", "winnerWith", "(II)I"⟩ ∈ WG := wg_t (wu6 (List.mem_of_getElem? (i := 172) rfl)) rfl
theorem w_1373 : Cond.instanceMethod ⟨"Ballothall", "winnerWith", "(II)I"⟩ ∈ WG := wg_t (wu6 (List.mem_of_getElem? (i := 173) rfl)) rfl
theorem w_1374 : Cond.selects "Ballothall" ⟨"Ballothall", "winnerWith", "(II)I"⟩ ⟨"Ballothall", "winnerWith", "(II)I"⟩ ∈ WG := wg_t (wu6 (List.mem_of_getElem? (i := 174) rfl)) rfl
theorem w_1375 : Cond.code ⟨"Ballothall", "winnerWith", "(II)I"⟩ prog_1_method_35_code 5 (some .int) ∈ WG := wg_t (wu6 (List.mem_of_getElem? (i := 175) rfl)) rfl
theorem w_1377 : Cond.methodLink "BallothallLaw" 279 ⟨"BallothallLaw", "gain", "(LBallothall;I[J)I"⟩ ∈ WG := wg_t (wu6 (List.mem_of_getElem? (i := 177) rfl)) rfl
theorem w_1378 : Cond.static ⟨"BallothallLaw", "gain", "(LBallothall;I[J)I"⟩ ∈ WG := wg_t (wu6 (List.mem_of_getElem? (i := 178) rfl)) rfl
theorem w_1379 : Cond.codeWith ⟨"BallothallLaw", "gain", "(LBallothall;I[J)I"⟩ method_29_code 4 (some .int) [(0, 9, 12, 21), (0, 9, 15, 13)] ∈ WG := wg_t (wu6 (List.mem_of_getElem? (i := 179) rfl)) rfl
theorem w_1380 : Cond.methodLink "BallothallLaw" 102 ⟨"Ballothall", "gain", "(I)I"⟩ ∈ WG := wg_t (wu6 (List.mem_of_getElem? (i := 180) rfl)) rfl
theorem w_1381 : Cond.instanceMethod ⟨"Ballothall", "gain", "(I)I"⟩ ∈ WG := wg_t (wu6 (List.mem_of_getElem? (i := 181) rfl)) rfl
theorem w_1382 : Cond.selects "Ballothall" ⟨"Ballothall", "gain", "(I)I"⟩ ⟨"Ballothall", "gain", "(I)I"⟩ ∈ WG := wg_t (wu6 (List.mem_of_getElem? (i := 182) rfl)) rfl
theorem w_1383 : Cond.code ⟨"Ballothall", "gain", "(I)I"⟩ prog_1_method_36_code 2 (some .int) ∈ WG := wg_t (wu6 (List.mem_of_getElem? (i := 183) rfl)) rfl
theorem w_1384 : Cond.methodLink "Ballothall" 324 ⟨"Ballothall", "needFewCandidates", "()V"⟩ ∈ WG := wg_t (wu6 (List.mem_of_getElem? (i := 184) rfl)) rfl
theorem w_1386 : Cond.instanceMethod ⟨"Ballothall", "needFewCandidates", "()V"⟩ ∈ WG := wg_t (wu6 (List.mem_of_getElem? (i := 186) rfl)) rfl
theorem w_1387 : Cond.code ⟨"Ballothall", "needFewCandidates", "()V"⟩ prog_1_method_60_code 1 none ∈ WG := wg_t (wu6 (List.mem_of_getElem? (i := 187) rfl)) rfl
theorem w_1391 : Cond.instanceMethod ⟨"Ballothall$FalseBallot", "findKind", "(I)I"⟩ ∈ WG := wg_t (wu6 (List.mem_of_getElem? (i := 191) rfl)) rfl
theorem w_1392 : Cond.code ⟨"Ballothall$FalseBallot", "findKind", "(I)I"⟩ prog_7_method_2_code 5 (some .int) ∈ WG := wg_t (wu6 (List.mem_of_getElem? (i := 192) rfl)) rfl
theorem w_1422 : Cond.methodLink "BallothallLaw" 282 ⟨"BallothallLaw", "gainAt", "(LBallothall;II[J)I"⟩ ∈ WG := wg_t (wu6 (List.mem_of_getElem? (i := 222) rfl)) rfl
theorem w_1423 : Cond.static ⟨"BallothallLaw", "gainAt", "(LBallothall;II[J)I"⟩ ∈ WG := wg_t (wu6 (List.mem_of_getElem? (i := 223) rfl)) rfl
theorem w_1424 : Cond.codeWith ⟨"BallothallLaw", "gainAt", "(LBallothall;II[J)I"⟩ method_30_code 5 (some .int) [(0, 10, 13, 21), (0, 10, 17, 13), (0, 10, 21, 61)] ∈ WG := wg_t (wu6 (List.mem_of_getElem? (i := 224) rfl)) rfl
theorem w_1425 : Cond.methodLink "BallothallLaw" 105 ⟨"Ballothall", "gainAt", "(II)I"⟩ ∈ WG := wg_t (wu6 (List.mem_of_getElem? (i := 225) rfl)) rfl
theorem w_1426 : Cond.instanceMethod ⟨"Ballothall", "gainAt", "(II)I"⟩ ∈ WG := wg_t (wu6 (List.mem_of_getElem? (i := 226) rfl)) rfl
theorem w_1427 : Cond.selects "Ballothall" ⟨"Ballothall", "gainAt", "(II)I"⟩ ⟨"Ballothall", "gainAt", "(II)I"⟩ ∈ WG := wg_t (wu6 (List.mem_of_getElem? (i := 227) rfl)) rfl
theorem w_1428 : Cond.code ⟨"Ballothall", "gainAt", "(II)I"⟩ prog_1_method_37_code 3 (some .int) ∈ WG := wg_t (wu6 (List.mem_of_getElem? (i := 228) rfl)) rfl
theorem w_1429 : Cond.methodLink "BallothallLaw" 285 ⟨"BallothallLaw", "spoiler", "(LBallothall;I[J)I"⟩ ∈ WG := wg_t (wu6 (List.mem_of_getElem? (i := 229) rfl)) rfl
theorem w_1430 : Cond.static ⟨"BallothallLaw", "spoiler", "(LBallothall;I[J)I"⟩ ∈ WG := wg_t (wu6 (List.mem_of_getElem? (i := 230) rfl)) rfl
theorem w_1431 : Cond.codeWith ⟨"BallothallLaw", "spoiler", "(LBallothall;I[J)I"⟩ method_31_code 4 (some .int) [(0, 9, 12, 21)] ∈ WG := wg_t (wu6 (List.mem_of_getElem? (i := 231) rfl)) rfl
theorem w_1432 : Cond.methodLink "BallothallLaw" 108 ⟨"Ballothall", "spoiler", "(I)I"⟩ ∈ WG := wg_t (wu6 (List.mem_of_getElem? (i := 232) rfl)) rfl
theorem w_1433 : Cond.instanceMethod ⟨"Ballothall", "spoiler", "(I)I"⟩ ∈ WG := wg_t (wu6 (List.mem_of_getElem? (i := 233) rfl)) rfl
theorem w_1434 : Cond.selects "Ballothall" ⟨"Ballothall", "spoiler", "(I)I"⟩ ⟨"Ballothall", "spoiler", "(I)I"⟩ ∈ WG := wg_t (wu6 (List.mem_of_getElem? (i := 234) rfl)) rfl
theorem w_1435 : Cond.code ⟨"Ballothall", "spoiler", "(I)I"⟩ prog_1_method_38_code 4 (some .int) ∈ WG := wg_t (wu6 (List.mem_of_getElem? (i := 235) rfl)) rfl
theorem w_1436 : Cond.methodLink "BallothallLaw" 288 ⟨"BallothallLaw", "proportionalAt", "(LBallothall;I[J)I"⟩ ∈ WG := wg_t (wu6 (List.mem_of_getElem? (i := 236) rfl)) rfl
theorem w_1437 : Cond.static ⟨"BallothallLaw", "proportionalAt", "(LBallothall;I[J)I"⟩ ∈ WG := wg_t (wu6 (List.mem_of_getElem? (i := 237) rfl)) rfl
theorem w_1438 : Cond.codeWith ⟨"BallothallLaw", "proportionalAt", "(LBallothall;I[J)I"⟩ method_32_code 4 (some .int) [(0, 9, 12, 61)] ∈ WG := wg_t (wu6 (List.mem_of_getElem? (i := 238) rfl)) rfl
theorem w_1439 : Cond.methodLink "BallothallLaw" 111 ⟨"Ballothall", "proportionalAt", "(I)I"⟩ ∈ WG := wg_t (wu6 (List.mem_of_getElem? (i := 239) rfl)) rfl
theorem w_1440 : Cond.instanceMethod ⟨"Ballothall", "proportionalAt", "(I)I"⟩ ∈ WG := wg_t (wu7 (List.mem_of_getElem? (i := 0) rfl)) rfl
theorem w_1441 : Cond.selects "Ballothall" ⟨"Ballothall", "proportionalAt", "(I)I"⟩ ⟨"Ballothall", "proportionalAt", "(I)I"⟩ ∈ WG := wg_t (wu7 (List.mem_of_getElem? (i := 1) rfl)) rfl
theorem w_1442 : Cond.code ⟨"Ballothall", "proportionalAt", "(I)I"⟩ prog_1_method_39_code 2 (some .int) ∈ WG := wg_t (wu7 (List.mem_of_getElem? (i := 2) rfl)) rfl
theorem w_1451 : Cond.methodLink "BallothallLaw" 295 ⟨"BallothallLaw", "ward", "(LBallothall;III[J)I"⟩ ∈ WG := wg_t (wu7 (List.mem_of_getElem? (i := 11) rfl)) rfl
theorem w_1452 : Cond.static ⟨"BallothallLaw", "ward", "(LBallothall;III[J)I"⟩ ∈ WG := wg_t (wu7 (List.mem_of_getElem? (i := 12) rfl)) rfl
theorem w_1453 : Cond.codeWith ⟨"BallothallLaw", "ward", "(LBallothall;III[J)I"⟩ method_33_code 6 (some .int) [(0, 12, 15, 21), (0, 12, 19, 13)] ∈ WG := wg_t (wu7 (List.mem_of_getElem? (i := 13) rfl)) rfl
theorem w_1454 : Cond.methodLink "BallothallLaw" 114 ⟨"Ballothall", "ward", "(III)I"⟩ ∈ WG := wg_t (wu7 (List.mem_of_getElem? (i := 14) rfl)) rfl
theorem w_1455 : Cond.instanceMethod ⟨"Ballothall", "ward", "(III)I"⟩ ∈ WG := wg_t (wu7 (List.mem_of_getElem? (i := 15) rfl)) rfl
theorem w_1456 : Cond.selects "Ballothall" ⟨"Ballothall", "ward", "(III)I"⟩ ⟨"Ballothall", "ward", "(III)I"⟩ ∈ WG := wg_t (wu7 (List.mem_of_getElem? (i := 16) rfl)) rfl
theorem w_1457 : Cond.code ⟨"Ballothall", "ward", "(III)I"⟩ prog_1_method_41_code 5 (some .int) ∈ WG := wg_t (wu7 (List.mem_of_getElem? (i := 17) rfl)) rfl
theorem w_1460 : Cond.instanceMethod ⟨"Ballothall$Wards", "append", "(III)I"⟩ ∈ WG := wg_t (wu7 (List.mem_of_getElem? (i := 20) rfl)) rfl
theorem w_1461 : Cond.code ⟨"Ballothall$Wards", "append", "(III)I"⟩ prog_12_method_2_code 5 (some .int) ∈ WG := wg_t (wu7 (List.mem_of_getElem? (i := 21) rfl)) rfl
theorem w_1462 : Cond.methodLink "BallothallLaw" 298 ⟨"BallothallLaw", "greatestDistrict", "(LBallothall;I[J)I"⟩ ∈ WG := wg_t (wu7 (List.mem_of_getElem? (i := 22) rfl)) rfl
theorem w_1463 : Cond.static ⟨"BallothallLaw", "greatestDistrict", "(LBallothall;I[J)I"⟩ ∈ WG := wg_t (wu7 (List.mem_of_getElem? (i := 23) rfl)) rfl
theorem w_1464 : Cond.codeWith ⟨"BallothallLaw", "greatestDistrict", "(LBallothall;I[J)I"⟩ method_34_code 4 (some .int) [(0, 9, 12, 21)] ∈ WG := wg_t (wu7 (List.mem_of_getElem? (i := 24) rfl)) rfl
theorem w_1465 : Cond.methodLink "BallothallLaw" 117 ⟨"Ballothall", "greatestDistrict", "(I)I"⟩ ∈ WG := wg_t (wu7 (List.mem_of_getElem? (i := 25) rfl)) rfl
theorem w_1466 : Cond.instanceMethod ⟨"Ballothall", "greatestDistrict", "(I)I"⟩ ∈ WG := wg_t (wu7 (List.mem_of_getElem? (i := 26) rfl)) rfl
theorem w_1467 : Cond.selects "Ballothall" ⟨"Ballothall", "greatestDistrict", "(I)I"⟩ ⟨"Ballothall", "greatestDistrict", "(I)I"⟩ ∈ WG := wg_t (wu7 (List.mem_of_getElem? (i := 27) rfl)) rfl
theorem w_1468 : Cond.code ⟨"Ballothall", "greatestDistrict", "(I)I"⟩ prog_1_method_42_code 2 (some .int) ∈ WG := wg_t (wu7 (List.mem_of_getElem? (i := 28) rfl)) rfl
theorem w_1488 : Cond.methodLink "BallothallLaw" 301 ⟨"BallothallLaw", "districtEnd", "(LBallothall;II[J)I"⟩ ∈ WG := wg_t (wu7 (List.mem_of_getElem? (i := 48) rfl)) rfl
theorem w_1489 : Cond.static ⟨"BallothallLaw", "districtEnd", "(LBallothall;II[J)I"⟩ ∈ WG := wg_t (wu7 (List.mem_of_getElem? (i := 49) rfl)) rfl
theorem w_1490 : Cond.codeWith ⟨"BallothallLaw", "districtEnd", "(LBallothall;II[J)I"⟩ method_35_code 5 (some .int) [(0, 10, 13, 21), (0, 10, 17, 61)] ∈ WG := wg_t (wu7 (List.mem_of_getElem? (i := 50) rfl)) rfl
theorem w_1491 : Cond.methodLink "BallothallLaw" 120 ⟨"Ballothall", "districtEnd", "(II)I"⟩ ∈ WG := wg_t (wu7 (List.mem_of_getElem? (i := 51) rfl)) rfl
theorem w_1492 : Cond.instanceMethod ⟨"Ballothall", "districtEnd", "(II)I"⟩ ∈ WG := wg_t (wu7 (List.mem_of_getElem? (i := 52) rfl)) rfl
theorem w_1493 : Cond.selects "Ballothall" ⟨"Ballothall", "districtEnd", "(II)I"⟩ ⟨"Ballothall", "districtEnd", "(II)I"⟩ ∈ WG := wg_t (wu7 (List.mem_of_getElem? (i := 53) rfl)) rfl
theorem w_1494 : Cond.code ⟨"Ballothall", "districtEnd", "(II)I"⟩ prog_1_method_43_code 3 (some .int) ∈ WG := wg_t (wu7 (List.mem_of_getElem? (i := 54) rfl)) rfl
theorem w_1495 : Cond.methodLink "BallothallLaw" 304 ⟨"BallothallLaw", "districtsWon", "(LBallothall;II[J)I"⟩ ∈ WG := wg_t (wu7 (List.mem_of_getElem? (i := 55) rfl)) rfl
theorem w_1496 : Cond.static ⟨"BallothallLaw", "districtsWon", "(LBallothall;II[J)I"⟩ ∈ WG := wg_t (wu7 (List.mem_of_getElem? (i := 56) rfl)) rfl
theorem w_1497 : Cond.codeWith ⟨"BallothallLaw", "districtsWon", "(LBallothall;II[J)I"⟩ method_36_code 5 (some .int) [(0, 10, 13, 21)] ∈ WG := wg_t (wu7 (List.mem_of_getElem? (i := 57) rfl)) rfl
theorem w_1498 : Cond.methodLink "BallothallLaw" 123 ⟨"Ballothall", "districtsWon", "(II)I"⟩ ∈ WG := wg_t (wu7 (List.mem_of_getElem? (i := 58) rfl)) rfl
theorem w_1499 : Cond.instanceMethod ⟨"Ballothall", "districtsWon", "(II)I"⟩ ∈ WG := wg_t (wu7 (List.mem_of_getElem? (i := 59) rfl)) rfl
theorem w_1500 : Cond.selects "Ballothall" ⟨"Ballothall", "districtsWon", "(II)I"⟩ ⟨"Ballothall", "districtsWon", "(II)I"⟩ ∈ WG := wg_t (wu7 (List.mem_of_getElem? (i := 60) rfl)) rfl
theorem w_1501 : Cond.code ⟨"Ballothall", "districtsWon", "(II)I"⟩ prog_1_method_44_code 5 (some .int) ∈ WG := wg_t (wu7 (List.mem_of_getElem? (i := 61) rfl)) rfl
theorem w_1506 : Cond.methodLink "BallothallLaw" 307 ⟨"BallothallLaw", "wasted", "(LBallothall;II[J)I"⟩ ∈ WG := wg_t (wu7 (List.mem_of_getElem? (i := 66) rfl)) rfl
theorem w_1507 : Cond.static ⟨"BallothallLaw", "wasted", "(LBallothall;II[J)I"⟩ ∈ WG := wg_t (wu7 (List.mem_of_getElem? (i := 67) rfl)) rfl
theorem w_1508 : Cond.codeWith ⟨"BallothallLaw", "wasted", "(LBallothall;II[J)I"⟩ method_37_code 5 (some .int) [(0, 10, 13, 21)] ∈ WG := wg_t (wu7 (List.mem_of_getElem? (i := 68) rfl)) rfl
theorem w_1509 : Cond.methodLink "BallothallLaw" 126 ⟨"Ballothall", "wasted", "(II)I"⟩ ∈ WG := wg_t (wu7 (List.mem_of_getElem? (i := 69) rfl)) rfl
theorem w_1510 : Cond.instanceMethod ⟨"Ballothall", "wasted", "(II)I"⟩ ∈ WG := wg_t (wu7 (List.mem_of_getElem? (i := 70) rfl)) rfl
theorem w_1511 : Cond.selects "Ballothall" ⟨"Ballothall", "wasted", "(II)I"⟩ ⟨"Ballothall", "wasted", "(II)I"⟩ ∈ WG := wg_t (wu7 (List.mem_of_getElem? (i := 71) rfl)) rfl
theorem w_1512 : Cond.code ⟨"Ballothall", "wasted", "(II)I"⟩ prog_1_method_45_code 7 (some .int) ∈ WG := wg_t (wu7 (List.mem_of_getElem? (i := 72) rfl)) rfl
theorem w_1513 : Cond.methodLink "BallothallLaw" 310 ⟨"BallothallLaw", "member", "(LBallothall;I[J)I"⟩ ∈ WG := wg_t (wu7 (List.mem_of_getElem? (i := 73) rfl)) rfl
theorem w_1514 : Cond.static ⟨"BallothallLaw", "member", "(LBallothall;I[J)I"⟩ ∈ WG := wg_t (wu7 (List.mem_of_getElem? (i := 74) rfl)) rfl
theorem w_1515 : Cond.codeWith ⟨"BallothallLaw", "member", "(LBallothall;I[J)I"⟩ method_38_code 4 (some .int) [(0, 9, 12, 21), (0, 9, 15, 13)] ∈ WG := wg_t (wu7 (List.mem_of_getElem? (i := 75) rfl)) rfl
theorem w_1516 : Cond.methodLink "BallothallLaw" 129 ⟨"Ballothall", "member", "(I)I"⟩ ∈ WG := wg_t (wu7 (List.mem_of_getElem? (i := 76) rfl)) rfl
theorem w_1517 : Cond.instanceMethod ⟨"Ballothall", "member", "(I)I"⟩ ∈ WG := wg_t (wu7 (List.mem_of_getElem? (i := 77) rfl)) rfl
theorem w_1518 : Cond.selects "Ballothall" ⟨"Ballothall", "member", "(I)I"⟩ ⟨"Ballothall", "member", "(I)I"⟩ ∈ WG := wg_t (wu7 (List.mem_of_getElem? (i := 78) rfl)) rfl
theorem w_1519 : Cond.code ⟨"Ballothall", "member", "(I)I"⟩ prog_1_method_46_code 3 (some .int) ∈ WG := wg_t (wu7 (List.mem_of_getElem? (i := 79) rfl)) rfl
theorem w_1522 : Cond.instanceMethod ⟨"Ballothall$Council", "append", "(I)I"⟩ ∈ WG := wg_t (wu7 (List.mem_of_getElem? (i := 82) rfl)) rfl
theorem w_1523 : Cond.code ⟨"Ballothall$Council", "append", "(I)I"⟩ prog_3_method_2_code 3 (some .int) ∈ WG := wg_t (wu7 (List.mem_of_getElem? (i := 83) rfl)) rfl
theorem w_1524 : Cond.methodLink "BallothallLaw" 313 ⟨"BallothallLaw", "setQuota", "(LBallothall;I[J)I"⟩ ∈ WG := wg_t (wu7 (List.mem_of_getElem? (i := 84) rfl)) rfl
theorem w_1525 : Cond.static ⟨"BallothallLaw", "setQuota", "(LBallothall;I[J)I"⟩ ∈ WG := wg_t (wu7 (List.mem_of_getElem? (i := 85) rfl)) rfl
theorem w_1526 : Cond.codeWith ⟨"BallothallLaw", "setQuota", "(LBallothall;I[J)I"⟩ method_39_code 4 (some .int) [(0, 9, 12, 21)] ∈ WG := wg_t (wu7 (List.mem_of_getElem? (i := 86) rfl)) rfl
theorem w_1527 : Cond.methodLink "BallothallLaw" 132 ⟨"Ballothall", "setQuota", "(I)I"⟩ ∈ WG := wg_t (wu7 (List.mem_of_getElem? (i := 87) rfl)) rfl
theorem w_1528 : Cond.instanceMethod ⟨"Ballothall", "setQuota", "(I)I"⟩ ∈ WG := wg_t (wu7 (List.mem_of_getElem? (i := 88) rfl)) rfl
theorem w_1529 : Cond.selects "Ballothall" ⟨"Ballothall", "setQuota", "(I)I"⟩ ⟨"Ballothall", "setQuota", "(I)I"⟩ ∈ WG := wg_t (wu7 (List.mem_of_getElem? (i := 89) rfl)) rfl
theorem w_1530 : Cond.code ⟨"Ballothall", "setQuota", "(I)I"⟩ prog_1_method_47_code 3 (some .int) ∈ WG := wg_t (wu7 (List.mem_of_getElem? (i := 90) rfl)) rfl
theorem w_1531 : Cond.methodLink "BallothallLaw" 316 ⟨"BallothallLaw", "swings", "(LBallothall;I[J)I"⟩ ∈ WG := wg_t (wu7 (List.mem_of_getElem? (i := 91) rfl)) rfl
theorem w_1532 : Cond.static ⟨"BallothallLaw", "swings", "(LBallothall;I[J)I"⟩ ∈ WG := wg_t (wu7 (List.mem_of_getElem? (i := 92) rfl)) rfl
theorem w_1533 : Cond.codeWith ⟨"BallothallLaw", "swings", "(LBallothall;I[J)I"⟩ method_40_code 4 (some .int) [(0, 9, 12, 19)] ∈ WG := wg_t (wu7 (List.mem_of_getElem? (i := 93) rfl)) rfl
theorem w_1534 : Cond.methodLink "BallothallLaw" 135 ⟨"Ballothall", "swings", "(I)I"⟩ ∈ WG := wg_t (wu7 (List.mem_of_getElem? (i := 94) rfl)) rfl
theorem w_1535 : Cond.instanceMethod ⟨"Ballothall", "swings", "(I)I"⟩ ∈ WG := wg_t (wu7 (List.mem_of_getElem? (i := 95) rfl)) rfl
theorem w_1536 : Cond.selects "Ballothall" ⟨"Ballothall", "swings", "(I)I"⟩ ⟨"Ballothall", "swings", "(I)I"⟩ ∈ WG := wg_t (wu7 (List.mem_of_getElem? (i := 96) rfl)) rfl
theorem w_1537 : Cond.code ⟨"Ballothall", "swings", "(I)I"⟩ prog_1_method_48_code 2 (some .int) ∈ WG := wg_t (wu7 (List.mem_of_getElem? (i := 97) rfl)) rfl
theorem w_1543 : Cond.methodLink "BallothallLaw" 319 ⟨"BallothallLaw", "ordersTurned", "(LBallothall;I[J)I"⟩ ∈ WG := wg_t (wu7 (List.mem_of_getElem? (i := 103) rfl)) rfl
theorem w_1544 : Cond.static ⟨"BallothallLaw", "ordersTurned", "(LBallothall;I[J)I"⟩ ∈ WG := wg_t (wu7 (List.mem_of_getElem? (i := 104) rfl)) rfl
theorem w_1545 : Cond.codeWith ⟨"BallothallLaw", "ordersTurned", "(LBallothall;I[J)I"⟩ method_41_code 4 (some .int) [(0, 8, 11, 19)] ∈ WG := wg_t (wu7 (List.mem_of_getElem? (i := 105) rfl)) rfl
theorem w_1546 : Cond.methodLink "BallothallLaw" 138 ⟨"Ballothall", "ordersTurned", "(I)J"⟩ ∈ WG := wg_t (wu7 (List.mem_of_getElem? (i := 106) rfl)) rfl
theorem w_1547 : Cond.instanceMethod ⟨"Ballothall", "ordersTurned", "(I)J"⟩ ∈ WG := wg_t (wu7 (List.mem_of_getElem? (i := 107) rfl)) rfl
theorem w_1548 : Cond.selects "Ballothall" ⟨"Ballothall", "ordersTurned", "(I)J"⟩ ⟨"Ballothall", "ordersTurned", "(I)J"⟩ ∈ WG := wg_t (wu7 (List.mem_of_getElem? (i := 108) rfl)) rfl
theorem w_1549 : Cond.code ⟨"Ballothall", "ordersTurned", "(I)J"⟩ prog_1_method_49_code 2 (some .long) ∈ WG := wg_t (wu7 (List.mem_of_getElem? (i := 109) rfl)) rfl
theorem w_1551 : Cond.methodLink "BallothallLaw" 330 ⟨"BallothallLaw", "meanRank", "(LBallothall;I[D)I"⟩ ∈ WG := wg_t (wu7 (List.mem_of_getElem? (i := 111) rfl)) rfl
theorem w_1552 : Cond.static ⟨"BallothallLaw", "meanRank", "(LBallothall;I[D)I"⟩ ∈ WG := wg_t (wu7 (List.mem_of_getElem? (i := 112) rfl)) rfl
theorem w_1553 : Cond.codeWith ⟨"BallothallLaw", "meanRank", "(LBallothall;I[D)I"⟩ method_42_code 4 (some .int) [(0, 8, 11, 19)] ∈ WG := wg_t (wu7 (List.mem_of_getElem? (i := 113) rfl)) rfl
theorem w_1554 : Cond.methodLink "BallothallLaw" 142 ⟨"Ballothall", "meanRank", "(I)D"⟩ ∈ WG := wg_t (wu7 (List.mem_of_getElem? (i := 114) rfl)) rfl
theorem w_1555 : Cond.instanceMethod ⟨"Ballothall", "meanRank", "(I)D"⟩ ∈ WG := wg_t (wu7 (List.mem_of_getElem? (i := 115) rfl)) rfl
theorem w_1556 : Cond.selects "Ballothall" ⟨"Ballothall", "meanRank", "(I)D"⟩ ⟨"Ballothall", "meanRank", "(I)D"⟩ ∈ WG := wg_t (wu7 (List.mem_of_getElem? (i := 116) rfl)) rfl
theorem w_1557 : Cond.code ⟨"Ballothall", "meanRank", "(I)D"⟩ prog_1_method_52_code 5 (some .double) ∈ WG := wg_t (wu7 (List.mem_of_getElem? (i := 117) rfl)) rfl
theorem w_1558 : Cond.methodLink "BallothallLaw" 334 ⟨"BallothallLaw", "seatShare", "(LBallothall;I[D)I"⟩ ∈ WG := wg_t (wu7 (List.mem_of_getElem? (i := 118) rfl)) rfl
theorem w_1559 : Cond.static ⟨"BallothallLaw", "seatShare", "(LBallothall;I[D)I"⟩ ∈ WG := wg_t (wu7 (List.mem_of_getElem? (i := 119) rfl)) rfl
theorem w_1560 : Cond.codeWith ⟨"BallothallLaw", "seatShare", "(LBallothall;I[D)I"⟩ method_43_code 4 (some .int) [(0, 9, 12, 19)] ∈ WG := wg_t (wu7 (List.mem_of_getElem? (i := 120) rfl)) rfl
theorem w_1561 : Cond.methodLink "BallothallLaw" 146 ⟨"Ballothall", "seatShare", "(I)F"⟩ ∈ WG := wg_t (wu7 (List.mem_of_getElem? (i := 121) rfl)) rfl
theorem w_1562 : Cond.instanceMethod ⟨"Ballothall", "seatShare", "(I)F"⟩ ∈ WG := wg_t (wu7 (List.mem_of_getElem? (i := 122) rfl)) rfl
theorem w_1563 : Cond.selects "Ballothall" ⟨"Ballothall", "seatShare", "(I)F"⟩ ⟨"Ballothall", "seatShare", "(I)F"⟩ ∈ WG := wg_t (wu7 (List.mem_of_getElem? (i := 123) rfl)) rfl
theorem w_1564 : Cond.code ⟨"Ballothall", "seatShare", "(I)F"⟩ prog_1_method_53_code 3 (some .float) ∈ WG := wg_t (wu7 (List.mem_of_getElem? (i := 124) rfl)) rfl
theorem w_1565 : Cond.classLink "BallothallLaw" 151 "BallothallModel" ∈ WG := wg_t (wu7 (List.mem_of_getElem? (i := 125) rfl)) rfl
theorem w_1566 : Cond.instantiable "BallothallModel" 13 ∈ WG := wg_t (wu7 (List.mem_of_getElem? (i := 126) rfl)) rfl
theorem w_1567 : Cond.methodLink "BallothallLaw" 153 ⟨"BallothallModel", "<init>", "()V"⟩ ∈ WG := wg_t (wu7 (List.mem_of_getElem? (i := 127) rfl)) rfl
theorem w_1568 : Cond.instanceMethod ⟨"BallothallModel", "<init>", "()V"⟩ ∈ WG := wg_t (wu7 (List.mem_of_getElem? (i := 128) rfl)) rfl
theorem w_1569 : Cond.code ⟨"BallothallModel", "<init>", "()V"⟩ prog_14_method_16_code 1 none ∈ WG := wg_t (wu7 (List.mem_of_getElem? (i := 129) rfl)) rfl
theorem w_1570 : Cond.methodLink "BallothallModel" 92 ⟨"java/lang/Object", "<init>", "()V"⟩ ∈ WG := wg_t (wu7 (List.mem_of_getElem? (i := 130) rfl)) rfl
theorem w_1571 : Cond.classLink "BallothallModel" 97 "BallothallModel$State" ∈ WG := wg_t (wu7 (List.mem_of_getElem? (i := 131) rfl)) rfl
theorem w_1572 : Cond.instantiable "BallothallModel$State" 16 ∈ WG := wg_t (wu7 (List.mem_of_getElem? (i := 132) rfl)) rfl
theorem w_1574 : Cond.instanceMethod ⟨"BallothallModel$State", "<init>", "()V"⟩ ∈ WG := wg_t (wu7 (List.mem_of_getElem? (i := 134) rfl)) rfl
theorem w_1575 : Cond.code ⟨"BallothallModel$State", "<init>", "()V"⟩ prog_20_method_1_code 1 none ∈ WG := wg_t (wu7 (List.mem_of_getElem? (i := 135) rfl)) rfl
theorem w_1576 : Cond.methodLink "BallothallModel$State" 3 ⟨"java/lang/Object", "<init>", "()V"⟩ ∈ WG := wg_t (wu7 (List.mem_of_getElem? (i := 136) rfl)) rfl
theorem w_1577 : Cond.classLink "BallothallModel$State" 15 "BallothallModel$Kind" ∈ WG := wg_t (wu7 (List.mem_of_getElem? (i := 137) rfl)) rfl
theorem w_1579 : Cond.fieldLink "BallothallModel$State" 47 "BallothallModel$State" "candidates" "I" ∈ WG := wg_t (wu7 (List.mem_of_getElem? (i := 139) rfl)) rfl
theorem w_1581 : Cond.fieldLink "BallothallModel$State" 9 "BallothallModel$State" "lots" "[I" ∈ WG := wg_t (wu7 (List.mem_of_getElem? (i := 141) rfl)) rfl
theorem w_1583 : Cond.fieldLink "BallothallModel$State" 17 "BallothallModel$State" "kinds" "[LBallothallModel$Kind;" ∈ WG := wg_t (wu7 (List.mem_of_getElem? (i := 143) rfl)) rfl
theorem w_1585 : Cond.fieldLink "BallothallModel$State" 56 "BallothallModel$State" "lists" "I" ∈ WG := wg_t (wu7 (List.mem_of_getElem? (i := 145) rfl)) rfl
theorem w_1587 : Cond.fieldLink "BallothallModel$State" 21 "BallothallModel$State" "votes" "[I" ∈ WG := wg_t (wu7 (List.mem_of_getElem? (i := 147) rfl)) rfl
theorem w_1589 : Cond.fieldLink "BallothallModel$State" 24 "BallothallModel$State" "alliances" "[I" ∈ WG := wg_t (wu7 (List.mem_of_getElem? (i := 149) rfl)) rfl
theorem w_1591 : Cond.fieldLink "BallothallModel$State" 27 "BallothallModel$State" "listLots" "[I" ∈ WG := wg_t (wu7 (List.mem_of_getElem? (i := 151) rfl)) rfl
theorem w_1593 : Cond.fieldLink "BallothallModel$State" 59 "BallothallModel$State" "seats" "LBallothallModel$Seats;" ∈ WG := wg_t (wu7 (List.mem_of_getElem? (i := 153) rfl)) rfl
theorem w_1595 : Cond.fieldLink "BallothallModel$State" 63 "BallothallModel$State" "count" "LBallothallModel$Count;" ∈ WG := wg_t (wu7 (List.mem_of_getElem? (i := 155) rfl)) rfl
theorem w_1597 : Cond.fieldLink "BallothallModel$State" 67 "BallothallModel$State" "wards" "I" ∈ WG := wg_t (wu7 (List.mem_of_getElem? (i := 157) rfl)) rfl
theorem w_1599 : Cond.fieldLink "BallothallModel$State" 30 "BallothallModel$State" "heads" "[I" ∈ WG := wg_t (wu7 (List.mem_of_getElem? (i := 159) rfl)) rfl
theorem w_1601 : Cond.fieldLink "BallothallModel$State" 33 "BallothallModel$State" "votesA" "[I" ∈ WG := wg_t (wu7 (List.mem_of_getElem? (i := 161) rfl)) rfl
theorem w_1603 : Cond.fieldLink "BallothallModel$State" 36 "BallothallModel$State" "votesB" "[I" ∈ WG := wg_t (wu7 (List.mem_of_getElem? (i := 163) rfl)) rfl
theorem w_1605 : Cond.fieldLink "BallothallModel$State" 70 "BallothallModel$State" "members" "I" ∈ WG := wg_t (wu7 (List.mem_of_getElem? (i := 165) rfl)) rfl
theorem w_1607 : Cond.fieldLink "BallothallModel$State" 39 "BallothallModel$State" "weights" "[I" ∈ WG := wg_t (wu7 (List.mem_of_getElem? (i := 167) rfl)) rfl
theorem w_1609 : Cond.fieldLink "BallothallModel$State" 42 "BallothallModel$State" "quota" "I" ∈ WG := wg_t (wu7 (List.mem_of_getElem? (i := 169) rfl)) rfl
theorem w_1645 : Cond.fieldLink "BallothallModel" 100 "BallothallModel" "now" "LBallothallModel$State;" ∈ WG := wg_t (wu7 (List.mem_of_getElem? (i := 205) rfl)) rfl
theorem w_1646 : Cond.fieldLink "BallothallModel" 104 "BallothallModel" "past" "[LBallothallModel$State;" ∈ WG := wg_t (wu7 (List.mem_of_getElem? (i := 206) rfl)) rfl
theorem w_1647 : Cond.fieldLink "BallothallModel" 117 "BallothallModel" "pasts" "I" ∈ WG := wg_t (wu7 (List.mem_of_getElem? (i := 207) rfl)) rfl
theorem w_1648 : Cond.fieldLink "BallothallModel" 108 "BallothallModel" "text" "[I" ∈ WG := wg_t (wu7 (List.mem_of_getElem? (i := 208) rfl)) rfl
theorem w_1649 : Cond.fieldLink "BallothallModel" 169 "BallothallModel" "length" "I" ∈ WG := wg_t (wu7 (List.mem_of_getElem? (i := 209) rfl)) rfl
theorem w_1650 : Cond.fieldLink "BallothallModel" 111 "BallothallModel" "output" "[I" ∈ WG := wg_t (wu7 (List.mem_of_getElem? (i := 210) rfl)) rfl
theorem w_1651 : Cond.fieldLink "BallothallModel" 114 "BallothallModel" "thrown" "I" ∈ WG := wg_t (wu7 (List.mem_of_getElem? (i := 211) rfl)) rfl
theorem w_1652 : Cond.fieldLink "BallothallModel" 180 "BallothallModel" "read" "LBallothallModel$Kind;" ∈ WG := wg_t (wu7 (List.mem_of_getElem? (i := 212) rfl)) rfl
theorem w_1653 : Cond.fieldLink "BallothallModel" 172 "BallothallModel" "errorAt" "I" ∈ WG := wg_t (wu7 (List.mem_of_getElem? (i := 213) rfl)) rfl
theorem w_1654 : Cond.fieldLink "BallothallModel" 318 "BallothallModel" "shortest" "[I" ∈ WG := wg_t (wu7 (List.mem_of_getElem? (i := 214) rfl)) rfl
theorem w_1655 : Cond.fieldLink "BallothallModel" 321 "BallothallModel" "shortestDistance" "J" ∈ WG := wg_t (wu7 (List.mem_of_getElem? (i := 215) rfl)) rfl
theorem w_1656 : Cond.fieldLink "BallothallModel" 343 "BallothallModel" "gaining" "I" ∈ WG := wg_t (wu7 (List.mem_of_getElem? (i := 216) rfl)) rfl
theorem w_1685 : Cond.methodLink "BallothallLaw" 160 ⟨"BallothallModel", "thrown", "()I"⟩ ∈ WG := wg_t (wu8 (List.mem_of_getElem? (i := 5) rfl)) rfl
theorem w_1686 : Cond.instanceMethod ⟨"BallothallModel", "thrown", "()I"⟩ ∈ WG := wg_t (wu8 (List.mem_of_getElem? (i := 6) rfl)) rfl
theorem w_1687 : Cond.selects "BallothallModel" ⟨"BallothallModel", "thrown", "()I"⟩ ⟨"BallothallModel", "thrown", "()I"⟩ ∈ WG := wg_t (wu8 (List.mem_of_getElem? (i := 7) rfl)) rfl
theorem w_1688 : Cond.code ⟨"BallothallModel", "thrown", "()I"⟩ prog_14_method_17_code 1 (some .int) ∈ WG := wg_t (wu8 (List.mem_of_getElem? (i := 8) rfl)) rfl
theorem w_1689 : Cond.methodLink "BallothallLaw" 159 ⟨"BallothallModel", "candidate", "()I"⟩ ∈ WG := wg_t (wu8 (List.mem_of_getElem? (i := 9) rfl)) rfl
theorem w_1690 : Cond.instanceMethod ⟨"BallothallModel", "candidate", "()I"⟩ ∈ WG := wg_t (wu8 (List.mem_of_getElem? (i := 10) rfl)) rfl
theorem w_1691 : Cond.selects "BallothallModel" ⟨"BallothallModel", "candidate", "()I"⟩ ⟨"BallothallModel", "candidate", "()I"⟩ ∈ WG := wg_t (wu8 (List.mem_of_getElem? (i := 11) rfl)) rfl
theorem w_1692 : Cond.code ⟨"BallothallModel", "candidate", "()I"⟩ prog_14_method_26_code 1 (some .int) ∈ WG := wg_t (wu8 (List.mem_of_getElem? (i := 12) rfl)) rfl
theorem w_1693 : Cond.methodLink "BallothallModel" 150 ⟨"BallothallModel", "ends", "(ZI)Z"⟩ ∈ WG := wg_t (wu8 (List.mem_of_getElem? (i := 13) rfl)) rfl
theorem w_1695 : Cond.instanceMethod ⟨"BallothallModel", "ends", "(ZI)Z"⟩ ∈ WG := wg_t (wu8 (List.mem_of_getElem? (i := 15) rfl)) rfl
theorem w_1696 : Cond.code ⟨"BallothallModel", "ends", "(ZI)Z"⟩ prog_14_method_18_code 3 (some .boolean) ∈ WG := wg_t (wu8 (List.mem_of_getElem? (i := 16) rfl)) rfl
theorem w_1697 : Cond.methodLink "BallothallModel" 154 ⟨"BallothallModel", "keeps", "()V"⟩ ∈ WG := wg_t (wu8 (List.mem_of_getElem? (i := 17) rfl)) rfl
theorem w_1699 : Cond.instanceMethod ⟨"BallothallModel", "keeps", "()V"⟩ ∈ WG := wg_t (wu8 (List.mem_of_getElem? (i := 19) rfl)) rfl
theorem w_1700 : Cond.code ⟨"BallothallModel", "keeps", "()V"⟩ prog_14_method_19_code 2 none ∈ WG := wg_t (wu8 (List.mem_of_getElem? (i := 20) rfl)) rfl
theorem w_1701 : Cond.methodLink "BallothallModel" 120 ⟨"BallothallModel$State", "twin", "()LBallothallModel$State;"⟩ ∈ WG := wg_t (wu8 (List.mem_of_getElem? (i := 21) rfl)) rfl
theorem w_1702 : Cond.instanceMethod ⟨"BallothallModel$State", "twin", "()LBallothallModel$State;"⟩ ∈ WG := wg_t (wu8 (List.mem_of_getElem? (i := 22) rfl)) rfl
theorem w_1703 : Cond.selects "BallothallModel$State" ⟨"BallothallModel$State", "twin", "()LBallothallModel$State;"⟩ ⟨"BallothallModel$State", "twin", "()LBallothallModel$State;"⟩ ∈ WG := wg_t (wu8 (List.mem_of_getElem? (i := 23) rfl)) rfl
theorem w_1704 : Cond.code ⟨"BallothallModel$State", "twin", "()LBallothallModel$State;"⟩ prog_20_method_2_code 2 (some (.object "BallothallModel$State")) ∈ WG := wg_t (wu8 (List.mem_of_getElem? (i := 24) rfl)) rfl
theorem w_1705 : Cond.classLink "BallothallModel$State" 10 "BallothallModel$State" ∈ WG := wg_t (wu8 (List.mem_of_getElem? (i := 25) rfl)) rfl
theorem w_1706 : Cond.methodLink "BallothallModel$State" 46 ⟨"BallothallModel$State", "<init>", "()V"⟩ ∈ WG := wg_t (wu8 (List.mem_of_getElem? (i := 26) rfl)) rfl
theorem w_1707 : Cond.methodLink "BallothallModel$State" 50 ⟨"java/lang/System", "arraycopy", "(Ljava/lang/Object;ILjava/lang/Object;II)V"⟩ ∈ WG := wg_t (wu8 (List.mem_of_getElem? (i := 27) rfl)) rfl
theorem w_1708 : Cond.methodLink "BallothallLaw" 166 ⟨"BallothallModel", "setLot", "(ZII)I"⟩ ∈ WG := wg_t (wu8 (List.mem_of_getElem? (i := 28) rfl)) rfl
theorem w_1709 : Cond.instanceMethod ⟨"BallothallModel", "setLot", "(ZII)I"⟩ ∈ WG := wg_t (wu8 (List.mem_of_getElem? (i := 29) rfl)) rfl
theorem w_1710 : Cond.selects "BallothallModel" ⟨"BallothallModel", "setLot", "(ZII)I"⟩ ⟨"BallothallModel", "setLot", "(ZII)I"⟩ ∈ WG := wg_t (wu8 (List.mem_of_getElem? (i := 30) rfl)) rfl
theorem w_1711 : Cond.code ⟨"BallothallModel", "setLot", "(ZII)I"⟩ prog_14_method_27_code 6 (some .int) ∈ WG := wg_t (wu8 (List.mem_of_getElem? (i := 31) rfl)) rfl
theorem w_1712 : Cond.methodLink "BallothallModel" 157 ⟨"BallothallModel", "isList", "(I)Z"⟩ ∈ WG := wg_t (wu8 (List.mem_of_getElem? (i := 32) rfl)) rfl
theorem w_1714 : Cond.instanceMethod ⟨"BallothallModel", "isList", "(I)Z"⟩ ∈ WG := wg_t (wu8 (List.mem_of_getElem? (i := 34) rfl)) rfl
theorem w_1715 : Cond.code ⟨"BallothallModel", "isList", "(I)Z"⟩ prog_14_method_22_code 2 (some .boolean) ∈ WG := wg_t (wu8 (List.mem_of_getElem? (i := 35) rfl)) rfl
theorem w_1716 : Cond.methodLink "BallothallModel" 127 ⟨"BallothallModel", "isIn", "(III)Z"⟩ ∈ WG := wg_t (wu8 (List.mem_of_getElem? (i := 36) rfl)) rfl
theorem w_1717 : Cond.static ⟨"BallothallModel", "isIn", "(III)Z"⟩ ∈ WG := wg_t (wu8 (List.mem_of_getElem? (i := 37) rfl)) rfl
theorem w_1718 : Cond.code ⟨"BallothallModel", "isIn", "(III)Z"⟩ prog_14_method_20_code 3 (some .boolean) ∈ WG := wg_t (wu8 (List.mem_of_getElem? (i := 38) rfl)) rfl
theorem w_1719 : Cond.methodLink "BallothallModel" 161 ⟨"BallothallModel", "isCandidate", "(I)Z"⟩ ∈ WG := wg_t (wu8 (List.mem_of_getElem? (i := 39) rfl)) rfl
theorem w_1721 : Cond.instanceMethod ⟨"BallothallModel", "isCandidate", "(I)Z"⟩ ∈ WG := wg_t (wu8 (List.mem_of_getElem? (i := 41) rfl)) rfl
theorem w_1722 : Cond.code ⟨"BallothallModel", "isCandidate", "(I)Z"⟩ prog_14_method_21_code 2 (some .boolean) ∈ WG := wg_t (wu8 (List.mem_of_getElem? (i := 42) rfl)) rfl
theorem w_1728 : Cond.methodLink "BallothallLaw" 176 ⟨"BallothallModel", "ballots", "(I)I"⟩ ∈ WG := wg_t (wu8 (List.mem_of_getElem? (i := 48) rfl)) rfl
theorem w_1729 : Cond.instanceMethod ⟨"BallothallModel", "ballots", "(I)I"⟩ ∈ WG := wg_t (wu8 (List.mem_of_getElem? (i := 49) rfl)) rfl
theorem w_1730 : Cond.selects "BallothallModel" ⟨"BallothallModel", "ballots", "(I)I"⟩ ⟨"BallothallModel", "ballots", "(I)I"⟩ ∈ WG := wg_t (wu8 (List.mem_of_getElem? (i := 50) rfl)) rfl
theorem w_1731 : Cond.code ⟨"BallothallModel", "ballots", "(I)I"⟩ prog_14_method_32_code 4 (some .int) ∈ WG := wg_t (wu8 (List.mem_of_getElem? (i := 51) rfl)) rfl
theorem w_1732 : Cond.constant "BallothallModel" 188 100000 ∈ WG := wg_t (wu8 (List.mem_of_getElem? (i := 52) rfl)) rfl
theorem w_1733 : Cond.methodLink "BallothallModel" 189 ⟨"BallothallModel", "readBallot", "()V"⟩ ∈ WG := wg_t (wu8 (List.mem_of_getElem? (i := 53) rfl)) rfl
theorem w_1735 : Cond.instanceMethod ⟨"BallothallModel", "readBallot", "()V"⟩ ∈ WG := wg_t (wu8 (List.mem_of_getElem? (i := 55) rfl)) rfl
theorem w_1736 : Cond.code ⟨"BallothallModel", "readBallot", "()V"⟩ prog_14_method_29_code 8 none ∈ WG := wg_t (wu8 (List.mem_of_getElem? (i := 56) rfl)) rfl
theorem w_1737 : Cond.classLink "BallothallModel" 175 "BallothallModel$Kind" ∈ WG := wg_t (wu8 (List.mem_of_getElem? (i := 57) rfl)) rfl
theorem w_1738 : Cond.instantiable "BallothallModel$Kind" 3 ∈ WG := wg_t (wu8 (List.mem_of_getElem? (i := 58) rfl)) rfl
theorem w_1739 : Cond.methodLink "BallothallModel" 177 ⟨"BallothallModel$Kind", "<init>", "([III)V"⟩ ∈ WG := wg_t (wu8 (List.mem_of_getElem? (i := 59) rfl)) rfl
theorem w_1740 : Cond.instanceMethod ⟨"BallothallModel$Kind", "<init>", "([III)V"⟩ ∈ WG := wg_t (wu8 (List.mem_of_getElem? (i := 60) rfl)) rfl
theorem w_1741 : Cond.code ⟨"BallothallModel$Kind", "<init>", "([III)V"⟩ prog_16_method_1_code 4 none ∈ WG := wg_t (wu8 (List.mem_of_getElem? (i := 61) rfl)) rfl
theorem w_1742 : Cond.methodLink "BallothallModel$Kind" 3 ⟨"java/lang/Object", "<init>", "()V"⟩ ∈ WG := wg_t (wu8 (List.mem_of_getElem? (i := 62) rfl)) rfl
theorem w_1743 : Cond.fieldLink "BallothallModel$Kind" 9 "BallothallModel$Kind" "groups" "[I" ∈ WG := wg_t (wu8 (List.mem_of_getElem? (i := 63) rfl)) rfl
theorem w_1747 : Cond.fieldLink "BallothallModel$Kind" 15 "BallothallModel$Kind" "approved" "I" ∈ WG := wg_t (wu8 (List.mem_of_getElem? (i := 67) rfl)) rfl
theorem w_1750 : Cond.fieldLink "BallothallModel$Kind" 19 "BallothallModel$Kind" "count" "I" ∈ WG := wg_t (wu8 (List.mem_of_getElem? (i := 70) rfl)) rfl
theorem w_1761 : Cond.methodLink "BallothallModel" 192 ⟨"BallothallModel", "kindOfRead", "()I"⟩ ∈ WG := wg_t (wu8 (List.mem_of_getElem? (i := 81) rfl)) rfl
theorem w_1763 : Cond.instanceMethod ⟨"BallothallModel", "kindOfRead", "()I"⟩ ∈ WG := wg_t (wu8 (List.mem_of_getElem? (i := 83) rfl)) rfl
theorem w_1764 : Cond.code ⟨"BallothallModel", "kindOfRead", "()I"⟩ prog_14_method_30_code 2 (some .int) ∈ WG := wg_t (wu8 (List.mem_of_getElem? (i := 84) rfl)) rfl
theorem w_1769 : Cond.constant "BallothallModel" 198 1000000 ∈ WG := wg_t (wu8 (List.mem_of_getElem? (i := 89) rfl)) rfl
theorem w_1770 : Cond.methodLink "BallothallModel" 199 ⟨"BallothallModel$Kind", "with", "(I)LBallothallModel$Kind;"⟩ ∈ WG := wg_t (wu8 (List.mem_of_getElem? (i := 90) rfl)) rfl
theorem w_1771 : Cond.instanceMethod ⟨"BallothallModel$Kind", "with", "(I)LBallothallModel$Kind;"⟩ ∈ WG := wg_t (wu8 (List.mem_of_getElem? (i := 91) rfl)) rfl
theorem w_1772 : Cond.selects "BallothallModel$Kind" ⟨"BallothallModel$Kind", "with", "(I)LBallothallModel$Kind;"⟩ ⟨"BallothallModel$Kind", "with", "(I)LBallothallModel$Kind;"⟩ ∈ WG := wg_t (wu8 (List.mem_of_getElem? (i := 92) rfl)) rfl
theorem w_1773 : Cond.code ⟨"BallothallModel$Kind", "with", "(I)LBallothallModel$Kind;"⟩ prog_16_method_2_code 2 (some (.object "BallothallModel$Kind")) ∈ WG := wg_t (wu8 (List.mem_of_getElem? (i := 93) rfl)) rfl
theorem w_1774 : Cond.classLink "BallothallModel$Kind" 10 "BallothallModel$Kind" ∈ WG := wg_t (wu8 (List.mem_of_getElem? (i := 94) rfl)) rfl
theorem w_1775 : Cond.methodLink "BallothallModel$Kind" 22 ⟨"BallothallModel$Kind", "<init>", "([III)V"⟩ ∈ WG := wg_t (wu8 (List.mem_of_getElem? (i := 95) rfl)) rfl
theorem w_1776 : Cond.methodLink "BallothallModel" 203 ⟨"BallothallModel", "kindsWith", "(ILBallothallModel$Kind;)[LBallothallModel$Kind;"⟩ ∈ WG := wg_t (wu8 (List.mem_of_getElem? (i := 96) rfl)) rfl
theorem w_1778 : Cond.instanceMethod ⟨"BallothallModel", "kindsWith", "(ILBallothallModel$Kind;)[LBallothallModel$Kind;"⟩ ∈ WG := wg_t (wu8 (List.mem_of_getElem? (i := 98) rfl)) rfl
theorem w_1779 : Cond.code ⟨"BallothallModel", "kindsWith", "(ILBallothallModel$Kind;)[LBallothallModel$Kind;"⟩ prog_14_method_31_code 5 (some (.array (.object "BallothallModel$Kind"))) ∈ WG := wg_t (wu8 (List.mem_of_getElem? (i := 99) rfl)) rfl
theorem w_1780 : Cond.methodLink "BallothallModel" 11 ⟨"java/lang/Math", "max", "(II)I"⟩ ∈ WG := wg_t (wu8 (List.mem_of_getElem? (i := 100) rfl)) rfl
theorem w_1781 : Cond.methodLink "BallothallLaw" 180 ⟨"BallothallModel", "takeBack", "(II)I"⟩ ∈ WG := wg_t (wu8 (List.mem_of_getElem? (i := 101) rfl)) rfl
theorem w_1782 : Cond.instanceMethod ⟨"BallothallModel", "takeBack", "(II)I"⟩ ∈ WG := wg_t (wu8 (List.mem_of_getElem? (i := 102) rfl)) rfl
theorem w_1783 : Cond.selects "BallothallModel" ⟨"BallothallModel", "takeBack", "(II)I"⟩ ⟨"BallothallModel", "takeBack", "(II)I"⟩ ∈ WG := wg_t (wu8 (List.mem_of_getElem? (i := 103) rfl)) rfl
theorem w_1784 : Cond.code ⟨"BallothallModel", "takeBack", "(II)I"⟩ prog_14_method_33_code 4 (some .int) ∈ WG := wg_t (wu8 (List.mem_of_getElem? (i := 104) rfl)) rfl
theorem w_1785 : Cond.methodLink "BallothallModel" 207 ⟨"BallothallModel", "isKind", "(I)Z"⟩ ∈ WG := wg_t (wu8 (List.mem_of_getElem? (i := 105) rfl)) rfl
theorem w_1787 : Cond.instanceMethod ⟨"BallothallModel", "isKind", "(I)Z"⟩ ∈ WG := wg_t (wu8 (List.mem_of_getElem? (i := 107) rfl)) rfl
theorem w_1788 : Cond.code ⟨"BallothallModel", "isKind", "(I)Z"⟩ prog_14_method_23_code 2 (some .boolean) ∈ WG := wg_t (wu8 (List.mem_of_getElem? (i := 108) rfl)) rfl
theorem w_1789 : Cond.methodLink "BallothallLaw" 183 ⟨"BallothallModel", "countOf", "(I)I"⟩ ∈ WG := wg_t (wu8 (List.mem_of_getElem? (i := 109) rfl)) rfl
theorem w_1790 : Cond.instanceMethod ⟨"BallothallModel", "countOf", "(I)I"⟩ ∈ WG := wg_t (wu8 (List.mem_of_getElem? (i := 110) rfl)) rfl
theorem w_1791 : Cond.selects "BallothallModel" ⟨"BallothallModel", "countOf", "(I)I"⟩ ⟨"BallothallModel", "countOf", "(I)I"⟩ ∈ WG := wg_t (wu8 (List.mem_of_getElem? (i := 111) rfl)) rfl
theorem w_1792 : Cond.code ⟨"BallothallModel", "countOf", "(I)I"⟩ prog_14_method_34_code 2 (some .int) ∈ WG := wg_t (wu8 (List.mem_of_getElem? (i := 112) rfl)) rfl
theorem w_1793 : Cond.methodLink "BallothallLaw" 187 ⟨"BallothallModel", "kindAt", "(IIZ)I"⟩ ∈ WG := wg_t (wu8 (List.mem_of_getElem? (i := 113) rfl)) rfl
theorem w_1794 : Cond.instanceMethod ⟨"BallothallModel", "kindAt", "(IIZ)I"⟩ ∈ WG := wg_t (wu8 (List.mem_of_getElem? (i := 114) rfl)) rfl
theorem w_1795 : Cond.selects "BallothallModel" ⟨"BallothallModel", "kindAt", "(IIZ)I"⟩ ⟨"BallothallModel", "kindAt", "(IIZ)I"⟩ ∈ WG := wg_t (wu8 (List.mem_of_getElem? (i := 115) rfl)) rfl
theorem w_1796 : Cond.code ⟨"BallothallModel", "kindAt", "(IIZ)I"⟩ prog_14_method_35_code 4 (some .int) ∈ WG := wg_t (wu8 (List.mem_of_getElem? (i := 116) rfl)) rfl
theorem w_1801 : Cond.methodLink "BallothallLaw" 191 ⟨"BallothallModel", "allBallots", "()I"⟩ ∈ WG := wg_t (wu8 (List.mem_of_getElem? (i := 121) rfl)) rfl
theorem w_1802 : Cond.instanceMethod ⟨"BallothallModel", "allBallots", "()I"⟩ ∈ WG := wg_t (wu8 (List.mem_of_getElem? (i := 122) rfl)) rfl
theorem w_1803 : Cond.selects "BallothallModel" ⟨"BallothallModel", "allBallots", "()I"⟩ ⟨"BallothallModel", "allBallots", "()I"⟩ ∈ WG := wg_t (wu8 (List.mem_of_getElem? (i := 123) rfl)) rfl
theorem w_1804 : Cond.code ⟨"BallothallModel", "allBallots", "()I"⟩ prog_14_method_37_code 1 (some .int) ∈ WG := wg_t (wu8 (List.mem_of_getElem? (i := 124) rfl)) rfl
theorem w_1805 : Cond.methodLink "BallothallModel" 217 ⟨"BallothallModel", "sum", "([LBallothallModel$Kind;)I"⟩ ∈ WG := wg_t (wu8 (List.mem_of_getElem? (i := 125) rfl)) rfl
theorem w_1806 : Cond.static ⟨"BallothallModel", "sum", "([LBallothallModel$Kind;)I"⟩ ∈ WG := wg_t (wu8 (List.mem_of_getElem? (i := 126) rfl)) rfl
theorem w_1807 : Cond.code ⟨"BallothallModel", "sum", "([LBallothallModel$Kind;)I"⟩ prog_14_method_36_code 6 (some .int) ∈ WG := wg_t (wu8 (List.mem_of_getElem? (i := 127) rfl)) rfl
theorem w_1808 : Cond.methodLink "BallothallLaw" 194 ⟨"BallothallModel", "list", "(I)I"⟩ ∈ WG := wg_t (wu8 (List.mem_of_getElem? (i := 128) rfl)) rfl
theorem w_1809 : Cond.instanceMethod ⟨"BallothallModel", "list", "(I)I"⟩ ∈ WG := wg_t (wu8 (List.mem_of_getElem? (i := 129) rfl)) rfl
theorem w_1810 : Cond.selects "BallothallModel" ⟨"BallothallModel", "list", "(I)I"⟩ ⟨"BallothallModel", "list", "(I)I"⟩ ∈ WG := wg_t (wu8 (List.mem_of_getElem? (i := 130) rfl)) rfl
theorem w_1811 : Cond.code ⟨"BallothallModel", "list", "(I)I"⟩ prog_14_method_38_code 2 (some .int) ∈ WG := wg_t (wu8 (List.mem_of_getElem? (i := 131) rfl)) rfl
theorem w_1812 : Cond.constant "BallothallModel" 221 10000000 ∈ WG := wg_t (wu8 (List.mem_of_getElem? (i := 132) rfl)) rfl
theorem w_1813 : Cond.methodLink "BallothallLaw" 197 ⟨"BallothallModel", "setVotes", "(II)I"⟩ ∈ WG := wg_t (wu8 (List.mem_of_getElem? (i := 133) rfl)) rfl
theorem w_1814 : Cond.instanceMethod ⟨"BallothallModel", "setVotes", "(II)I"⟩ ∈ WG := wg_t (wu8 (List.mem_of_getElem? (i := 134) rfl)) rfl
theorem w_1815 : Cond.selects "BallothallModel" ⟨"BallothallModel", "setVotes", "(II)I"⟩ ⟨"BallothallModel", "setVotes", "(II)I"⟩ ∈ WG := wg_t (wu8 (List.mem_of_getElem? (i := 135) rfl)) rfl
theorem w_1816 : Cond.code ⟨"BallothallModel", "setVotes", "(II)I"⟩ prog_14_method_39_code 4 (some .int) ∈ WG := wg_t (wu8 (List.mem_of_getElem? (i := 136) rfl)) rfl
theorem w_1817 : Cond.methodLink "BallothallLaw" 200 ⟨"BallothallModel", "ally", "(II)I"⟩ ∈ WG := wg_t (wu8 (List.mem_of_getElem? (i := 137) rfl)) rfl
theorem w_1818 : Cond.instanceMethod ⟨"BallothallModel", "ally", "(II)I"⟩ ∈ WG := wg_t (wu8 (List.mem_of_getElem? (i := 138) rfl)) rfl
theorem w_1819 : Cond.selects "BallothallModel" ⟨"BallothallModel", "ally", "(II)I"⟩ ⟨"BallothallModel", "ally", "(II)I"⟩ ∈ WG := wg_t (wu8 (List.mem_of_getElem? (i := 139) rfl)) rfl
theorem w_1820 : Cond.code ⟨"BallothallModel", "ally", "(II)I"⟩ prog_14_method_40_code 4 (some .int) ∈ WG := wg_t (wu8 (List.mem_of_getElem? (i := 140) rfl)) rfl
theorem w_1821 : Cond.methodLink "BallothallLaw" 204 ⟨"BallothallModel", "seats", "(III)I"⟩ ∈ WG := wg_t (wu8 (List.mem_of_getElem? (i := 141) rfl)) rfl
theorem w_1822 : Cond.instanceMethod ⟨"BallothallModel", "seats", "(III)I"⟩ ∈ WG := wg_t (wu8 (List.mem_of_getElem? (i := 142) rfl)) rfl
theorem w_1823 : Cond.selects "BallothallModel" ⟨"BallothallModel", "seats", "(III)I"⟩ ⟨"BallothallModel", "seats", "(III)I"⟩ ∈ WG := wg_t (wu8 (List.mem_of_getElem? (i := 143) rfl)) rfl
theorem w_1824 : Cond.code ⟨"BallothallModel", "seats", "(III)I"⟩ prog_14_method_42_code 4 (some .int) ∈ WG := wg_t (wu8 (List.mem_of_getElem? (i := 144) rfl)) rfl
theorem w_1825 : Cond.methodLink "BallothallModel" 232 ⟨"BallothallModel", "distributed", "(III)LBallothallModel$Seats;"⟩ ∈ WG := wg_t (wu8 (List.mem_of_getElem? (i := 145) rfl)) rfl
theorem w_1827 : Cond.instanceMethod ⟨"BallothallModel", "distributed", "(III)LBallothallModel$Seats;"⟩ ∈ WG := wg_t (wu8 (List.mem_of_getElem? (i := 147) rfl)) rfl
theorem w_1828 : Cond.code ⟨"BallothallModel", "distributed", "(III)LBallothallModel$Seats;"⟩ prog_14_method_41_code 7 (some (.object "BallothallModel$Seats")) ∈ WG := wg_t (wu8 (List.mem_of_getElem? (i := 148) rfl)) rfl
theorem w_1829 : Cond.methodLink "BallothallModel" 228 ⟨"BallothallModel", "distributed", "([I[I[IIII)LBallothallModel$Seats;"⟩ ∈ WG := wg_t (wu8 (List.mem_of_getElem? (i := 149) rfl)) rfl
theorem w_1830 : Cond.static ⟨"BallothallModel", "distributed", "([I[I[IIII)LBallothallModel$Seats;"⟩ ∈ WG := wg_t (wu8 (List.mem_of_getElem? (i := 150) rfl)) rfl
theorem w_1831 : Cond.code ⟨"BallothallModel", "distributed", "([I[I[IIII)LBallothallModel$Seats;"⟩ prog_14_method_15_code 25 (some (.object "BallothallModel$Seats")) ∈ WG := wg_t (wu8 (List.mem_of_getElem? (i := 151) rfl)) rfl
theorem w_1832 : Cond.classLink "BallothallModel" 52 "BallothallModel$Seats" ∈ WG := wg_t (wu8 (List.mem_of_getElem? (i := 152) rfl)) rfl
theorem w_1833 : Cond.instantiable "BallothallModel$Seats" 7 ∈ WG := wg_t (wu8 (List.mem_of_getElem? (i := 153) rfl)) rfl
theorem w_1834 : Cond.methodLink "BallothallModel" 54 ⟨"BallothallModel$Seats", "<init>", "([I[I)V"⟩ ∈ WG := wg_t (wu8 (List.mem_of_getElem? (i := 154) rfl)) rfl
theorem w_1835 : Cond.instanceMethod ⟨"BallothallModel$Seats", "<init>", "([I[I)V"⟩ ∈ WG := wg_t (wu8 (List.mem_of_getElem? (i := 155) rfl)) rfl
theorem w_1836 : Cond.code ⟨"BallothallModel$Seats", "<init>", "([I[I)V"⟩ prog_18_method_1_code 3 none ∈ WG := wg_t (wu8 (List.mem_of_getElem? (i := 156) rfl)) rfl
theorem w_1837 : Cond.methodLink "BallothallModel$Seats" 3 ⟨"java/lang/Object", "<init>", "()V"⟩ ∈ WG := wg_t (wu8 (List.mem_of_getElem? (i := 157) rfl)) rfl
theorem w_1838 : Cond.fieldLink "BallothallModel$Seats" 18 "BallothallModel$Seats" "votes" "[I" ∈ WG := wg_t (wu8 (List.mem_of_getElem? (i := 158) rfl)) rfl
theorem w_1840 : Cond.fieldLink "BallothallModel$Seats" 21 "BallothallModel$Seats" "alliances" "[I" ∈ WG := wg_t (wu8 (List.mem_of_getElem? (i := 160) rfl)) rfl
theorem w_1842 : Cond.fieldLink "BallothallModel$Seats" 9 "BallothallModel$Seats" "of" "[I" ∈ WG := wg_t (wu8 (List.mem_of_getElem? (i := 162) rfl)) rfl
theorem w_1844 : Cond.fieldLink "BallothallModel$Seats" 15 "BallothallModel$Seats" "order" "[I" ∈ WG := wg_t (wu8 (List.mem_of_getElem? (i := 164) rfl)) rfl
theorem w_1865 : Cond.classLink "BallothallModel" 68 "BallothallModel$Sharing" ∈ WG := wg_t (wu8 (List.mem_of_getElem? (i := 185) rfl)) rfl
theorem w_1866 : Cond.instantiable "BallothallModel$Sharing" 7 ∈ WG := wg_t (wu8 (List.mem_of_getElem? (i := 186) rfl)) rfl
theorem w_1867 : Cond.methodLink "BallothallModel" 70 ⟨"BallothallModel$Sharing", "<init>", "(I[J[I[I)V"⟩ ∈ WG := wg_t (wu8 (List.mem_of_getElem? (i := 187) rfl)) rfl
theorem w_1868 : Cond.instanceMethod ⟨"BallothallModel$Sharing", "<init>", "(I[J[I[I)V"⟩ ∈ WG := wg_t (wu8 (List.mem_of_getElem? (i := 188) rfl)) rfl
theorem w_1869 : Cond.code ⟨"BallothallModel$Sharing", "<init>", "(I[J[I[I)V"⟩ prog_19_method_1_code 5 none ∈ WG := wg_t (wu8 (List.mem_of_getElem? (i := 189) rfl)) rfl
theorem w_1870 : Cond.methodLink "BallothallModel$Sharing" 3 ⟨"java/lang/Object", "<init>", "()V"⟩ ∈ WG := wg_t (wu8 (List.mem_of_getElem? (i := 190) rfl)) rfl
theorem w_1871 : Cond.fieldLink "BallothallModel$Sharing" 15 "BallothallModel$Sharing" "many" "I" ∈ WG := wg_t (wu8 (List.mem_of_getElem? (i := 191) rfl)) rfl
theorem w_1872 : Cond.fieldLink "BallothallModel$Sharing" 19 "BallothallModel$Sharing" "votes" "[J" ∈ WG := wg_t (wu8 (List.mem_of_getElem? (i := 192) rfl)) rfl
theorem w_1873 : Cond.fieldLink "BallothallModel$Sharing" 23 "BallothallModel$Sharing" "lots" "[I" ∈ WG := wg_t (wu8 (List.mem_of_getElem? (i := 193) rfl)) rfl
theorem w_1874 : Cond.fieldLink "BallothallModel$Sharing" 26 "BallothallModel$Sharing" "numbers" "[I" ∈ WG := wg_t (wu8 (List.mem_of_getElem? (i := 194) rfl)) rfl
theorem w_1875 : Cond.fieldLink "BallothallModel$Sharing" 29 "BallothallModel$Sharing" "got" "[I" ∈ WG := wg_t (wu8 (List.mem_of_getElem? (i := 195) rfl)) rfl
theorem w_1877 : Cond.fieldLink "BallothallModel$Sharing" 9 "BallothallModel$Sharing" "order" "[I" ∈ WG := wg_t (wu8 (List.mem_of_getElem? (i := 197) rfl)) rfl
theorem w_1896 : Cond.methodLink "BallothallModel" 73 ⟨"BallothallModel$Sharing", "share", "(II)V"⟩ ∈ WG := wg_t (wu8 (List.mem_of_getElem? (i := 216) rfl)) rfl
theorem w_1897 : Cond.instanceMethod ⟨"BallothallModel$Sharing", "share", "(II)V"⟩ ∈ WG := wg_t (wu8 (List.mem_of_getElem? (i := 217) rfl)) rfl
theorem w_1898 : Cond.selects "BallothallModel$Sharing" ⟨"BallothallModel$Sharing", "share", "(II)V"⟩ ⟨"BallothallModel$Sharing", "share", "(II)V"⟩ ∈ WG := wg_t (wu8 (List.mem_of_getElem? (i := 218) rfl)) rfl
theorem w_1899 : Cond.code ⟨"BallothallModel$Sharing", "share", "(II)V"⟩ prog_19_method_4_code 9 none ∈ WG := wg_t (wu8 (List.mem_of_getElem? (i := 219) rfl)) rfl
theorem w_1916 : Cond.methodLink "BallothallLaw" 207 ⟨"BallothallModel", "seatsOf", "(I)I"⟩ ∈ WG := wg_t (wu8 (List.mem_of_getElem? (i := 236) rfl)) rfl
theorem w_1917 : Cond.instanceMethod ⟨"BallothallModel", "seatsOf", "(I)I"⟩ ∈ WG := wg_t (wu8 (List.mem_of_getElem? (i := 237) rfl)) rfl
theorem w_1918 : Cond.selects "BallothallModel" ⟨"BallothallModel", "seatsOf", "(I)I"⟩ ⟨"BallothallModel", "seatsOf", "(I)I"⟩ ∈ WG := wg_t (wu8 (List.mem_of_getElem? (i := 238) rfl)) rfl
theorem w_1919 : Cond.code ⟨"BallothallModel", "seatsOf", "(I)I"⟩ prog_14_method_44_code 2 (some .int) ∈ WG := wg_t (wu8 (List.mem_of_getElem? (i := 239) rfl)) rfl
theorem w_1924 : Cond.methodLink "BallothallLaw" 210 ⟨"BallothallModel", "seatAt", "(I)I"⟩ ∈ WG := wg_t (wu9 (List.mem_of_getElem? (i := 4) rfl)) rfl
theorem w_1925 : Cond.instanceMethod ⟨"BallothallModel", "seatAt", "(I)I"⟩ ∈ WG := wg_t (wu9 (List.mem_of_getElem? (i := 5) rfl)) rfl
theorem w_1926 : Cond.selects "BallothallModel" ⟨"BallothallModel", "seatAt", "(I)I"⟩ ⟨"BallothallModel", "seatAt", "(I)I"⟩ ∈ WG := wg_t (wu9 (List.mem_of_getElem? (i := 6) rfl)) rfl
theorem w_1927 : Cond.code ⟨"BallothallModel", "seatAt", "(I)I"⟩ prog_14_method_45_code 2 (some .int) ∈ WG := wg_t (wu9 (List.mem_of_getElem? (i := 7) rfl)) rfl
theorem w_1928 : Cond.methodLink "BallothallLaw" 213 ⟨"BallothallModel", "lossAt", "(I)I"⟩ ∈ WG := wg_t (wu9 (List.mem_of_getElem? (i := 8) rfl)) rfl
theorem w_1929 : Cond.instanceMethod ⟨"BallothallModel", "lossAt", "(I)I"⟩ ∈ WG := wg_t (wu9 (List.mem_of_getElem? (i := 9) rfl)) rfl
theorem w_1930 : Cond.selects "BallothallModel" ⟨"BallothallModel", "lossAt", "(I)I"⟩ ⟨"BallothallModel", "lossAt", "(I)I"⟩ ∈ WG := wg_t (wu9 (List.mem_of_getElem? (i := 10) rfl)) rfl
theorem w_1931 : Cond.code ⟨"BallothallModel", "lossAt", "(I)I"⟩ prog_14_method_46_code 6 (some .int) ∈ WG := wg_t (wu9 (List.mem_of_getElem? (i := 11) rfl)) rfl
theorem w_1932 : Cond.methodLink "BallothallLaw" 216 ⟨"BallothallModel", "transferable", "(I)I"⟩ ∈ WG := wg_t (wu9 (List.mem_of_getElem? (i := 12) rfl)) rfl
theorem w_1933 : Cond.instanceMethod ⟨"BallothallModel", "transferable", "(I)I"⟩ ∈ WG := wg_t (wu9 (List.mem_of_getElem? (i := 13) rfl)) rfl
theorem w_1934 : Cond.selects "BallothallModel" ⟨"BallothallModel", "transferable", "(I)I"⟩ ⟨"BallothallModel", "transferable", "(I)I"⟩ ∈ WG := wg_t (wu9 (List.mem_of_getElem? (i := 14) rfl)) rfl
theorem w_1935 : Cond.code ⟨"BallothallModel", "transferable", "(I)I"⟩ prog_14_method_47_code 3 (some .int) ∈ WG := wg_t (wu9 (List.mem_of_getElem? (i := 15) rfl)) rfl
theorem w_1936 : Cond.methodLink "BallothallModel" 5 ⟨"java/lang/System", "arraycopy", "(Ljava/lang/Object;ILjava/lang/Object;II)V"⟩ ∈ WG := wg_t (wu9 (List.mem_of_getElem? (i := 16) rfl)) rfl
theorem w_1938 : Cond.instantiable "BallothallModel$Count" 15 ∈ WG := wg_t (wu9 (List.mem_of_getElem? (i := 18) rfl)) rfl
theorem w_2156 : Cond.methodLink "BallothallLaw" 220 ⟨"BallothallModel", "quota", "()I"⟩ ∈ WG := wg_t (wu9 (List.mem_of_getElem? (i := 236) rfl)) rfl
theorem w_2157 : Cond.instanceMethod ⟨"BallothallModel", "quota", "()I"⟩ ∈ WG := wg_t (wu9 (List.mem_of_getElem? (i := 237) rfl)) rfl
theorem w_2158 : Cond.selects "BallothallModel" ⟨"BallothallModel", "quota", "()I"⟩ ⟨"BallothallModel", "quota", "()I"⟩ ∈ WG := wg_t (wu9 (List.mem_of_getElem? (i := 238) rfl)) rfl
theorem w_2159 : Cond.code ⟨"BallothallModel", "quota", "()I"⟩ prog_14_method_48_code 1 (some .int) ∈ WG := wg_t (wu9 (List.mem_of_getElem? (i := 239) rfl)) rfl
theorem w_2160 : Cond.methodLink "BallothallLaw" 223 ⟨"BallothallModel", "electedAt", "(I)I"⟩ ∈ WG := wg_t (wu10 (List.mem_of_getElem? (i := 0) rfl)) rfl
theorem w_2161 : Cond.instanceMethod ⟨"BallothallModel", "electedAt", "(I)I"⟩ ∈ WG := wg_t (wu10 (List.mem_of_getElem? (i := 1) rfl)) rfl
theorem w_2162 : Cond.selects "BallothallModel" ⟨"BallothallModel", "electedAt", "(I)I"⟩ ⟨"BallothallModel", "electedAt", "(I)I"⟩ ∈ WG := wg_t (wu10 (List.mem_of_getElem? (i := 2) rfl)) rfl
theorem w_2163 : Cond.code ⟨"BallothallModel", "electedAt", "(I)I"⟩ prog_14_method_49_code 2 (some .int) ∈ WG := wg_t (wu10 (List.mem_of_getElem? (i := 3) rfl)) rfl
theorem w_2164 : Cond.methodLink "BallothallLaw" 226 ⟨"BallothallModel", "excludedAt", "(I)I"⟩ ∈ WG := wg_t (wu10 (List.mem_of_getElem? (i := 4) rfl)) rfl
theorem w_2165 : Cond.instanceMethod ⟨"BallothallModel", "excludedAt", "(I)I"⟩ ∈ WG := wg_t (wu10 (List.mem_of_getElem? (i := 5) rfl)) rfl
theorem w_2166 : Cond.selects "BallothallModel" ⟨"BallothallModel", "excludedAt", "(I)I"⟩ ⟨"BallothallModel", "excludedAt", "(I)I"⟩ ∈ WG := wg_t (wu10 (List.mem_of_getElem? (i := 6) rfl)) rfl
theorem w_2167 : Cond.code ⟨"BallothallModel", "excludedAt", "(I)I"⟩ prog_14_method_50_code 2 (some .int) ∈ WG := wg_t (wu10 (List.mem_of_getElem? (i := 7) rfl)) rfl
theorem w_2168 : Cond.methodLink "BallothallLaw" 230 ⟨"BallothallModel", "steps", "()I"⟩ ∈ WG := wg_t (wu10 (List.mem_of_getElem? (i := 8) rfl)) rfl
theorem w_2169 : Cond.instanceMethod ⟨"BallothallModel", "steps", "()I"⟩ ∈ WG := wg_t (wu10 (List.mem_of_getElem? (i := 9) rfl)) rfl
theorem w_2170 : Cond.selects "BallothallModel" ⟨"BallothallModel", "steps", "()I"⟩ ⟨"BallothallModel", "steps", "()I"⟩ ∈ WG := wg_t (wu10 (List.mem_of_getElem? (i := 10) rfl)) rfl
theorem w_2171 : Cond.code ⟨"BallothallModel", "steps", "()I"⟩ prog_14_method_51_code 1 (some .int) ∈ WG := wg_t (wu10 (List.mem_of_getElem? (i := 11) rfl)) rfl
theorem w_2176 : Cond.methodLink "BallothallLaw" 233 ⟨"BallothallModel", "writePile", "(II)I"⟩ ∈ WG := wg_t (wu10 (List.mem_of_getElem? (i := 16) rfl)) rfl
theorem w_2177 : Cond.instanceMethod ⟨"BallothallModel", "writePile", "(II)I"⟩ ∈ WG := wg_t (wu10 (List.mem_of_getElem? (i := 17) rfl)) rfl
theorem w_2178 : Cond.selects "BallothallModel" ⟨"BallothallModel", "writePile", "(II)I"⟩ ⟨"BallothallModel", "writePile", "(II)I"⟩ ∈ WG := wg_t (wu10 (List.mem_of_getElem? (i := 18) rfl)) rfl
theorem w_2179 : Cond.code ⟨"BallothallModel", "writePile", "(II)I"⟩ prog_14_method_53_code 8 (some .int) ∈ WG := wg_t (wu10 (List.mem_of_getElem? (i := 19) rfl)) rfl
theorem w_2194 : Cond.classLink "BallothallModel" 277 "[[I" ∈ WG := wg_t (wu10 (List.mem_of_getElem? (i := 34) rfl)) rfl
theorem w_2222 : Cond.methodLink "BallothallLaw" 237 ⟨"BallothallModel", "outputByte", "(I)I"⟩ ∈ WG := wg_t (wu10 (List.mem_of_getElem? (i := 62) rfl)) rfl
theorem w_2223 : Cond.instanceMethod ⟨"BallothallModel", "outputByte", "(I)I"⟩ ∈ WG := wg_t (wu10 (List.mem_of_getElem? (i := 63) rfl)) rfl
theorem w_2224 : Cond.selects "BallothallModel" ⟨"BallothallModel", "outputByte", "(I)I"⟩ ⟨"BallothallModel", "outputByte", "(I)I"⟩ ∈ WG := wg_t (wu10 (List.mem_of_getElem? (i := 64) rfl)) rfl
theorem w_2225 : Cond.code ⟨"BallothallModel", "outputByte", "(I)I"⟩ prog_14_method_54_code 2 (some .int) ∈ WG := wg_t (wu10 (List.mem_of_getElem? (i := 65) rfl)) rfl
theorem w_2226 : Cond.methodLink "BallothallLaw" 240 ⟨"BallothallModel", "solidQuotas", "(I)I"⟩ ∈ WG := wg_t (wu10 (List.mem_of_getElem? (i := 66) rfl)) rfl
theorem w_2227 : Cond.instanceMethod ⟨"BallothallModel", "solidQuotas", "(I)I"⟩ ∈ WG := wg_t (wu10 (List.mem_of_getElem? (i := 67) rfl)) rfl
theorem w_2228 : Cond.selects "BallothallModel" ⟨"BallothallModel", "solidQuotas", "(I)I"⟩ ⟨"BallothallModel", "solidQuotas", "(I)I"⟩ ∈ WG := wg_t (wu10 (List.mem_of_getElem? (i := 68) rfl)) rfl
theorem w_2229 : Cond.code ⟨"BallothallModel", "solidQuotas", "(I)I"⟩ prog_14_method_56_code 2 (some .int) ∈ WG := wg_t (wu10 (List.mem_of_getElem? (i := 69) rfl)) rfl
theorem w_2230 : Cond.methodLink "BallothallModel" 140 ⟨"BallothallModel", "everybody", "()I"⟩ ∈ WG := wg_t (wu10 (List.mem_of_getElem? (i := 70) rfl)) rfl
theorem w_2232 : Cond.instanceMethod ⟨"BallothallModel", "everybody", "()I"⟩ ∈ WG := wg_t (wu10 (List.mem_of_getElem? (i := 72) rfl)) rfl
theorem w_2233 : Cond.code ⟨"BallothallModel", "everybody", "()I"⟩ prog_14_method_24_code 1 (some .int) ∈ WG := wg_t (wu10 (List.mem_of_getElem? (i := 73) rfl)) rfl
theorem w_2239 : Cond.methodLink "BallothallLaw" 243 ⟨"BallothallModel", "ahead", "(II)I"⟩ ∈ WG := wg_t (wu10 (List.mem_of_getElem? (i := 79) rfl)) rfl
theorem w_2240 : Cond.instanceMethod ⟨"BallothallModel", "ahead", "(II)I"⟩ ∈ WG := wg_t (wu10 (List.mem_of_getElem? (i := 80) rfl)) rfl
theorem w_2241 : Cond.selects "BallothallModel" ⟨"BallothallModel", "ahead", "(II)I"⟩ ⟨"BallothallModel", "ahead", "(II)I"⟩ ∈ WG := wg_t (wu10 (List.mem_of_getElem? (i := 81) rfl)) rfl
theorem w_2242 : Cond.code ⟨"BallothallModel", "ahead", "(II)I"⟩ prog_14_method_57_code 3 (some .int) ∈ WG := wg_t (wu10 (List.mem_of_getElem? (i := 82) rfl)) rfl
theorem w_2243 : Cond.methodLink "BallothallModel" 300 ⟨"BallothallModel", "poll", "()LBallothallModel$Poll;"⟩ ∈ WG := wg_t (wu10 (List.mem_of_getElem? (i := 83) rfl)) rfl
theorem w_2245 : Cond.instanceMethod ⟨"BallothallModel", "poll", "()LBallothallModel$Poll;"⟩ ∈ WG := wg_t (wu10 (List.mem_of_getElem? (i := 85) rfl)) rfl
theorem w_2246 : Cond.code ⟨"BallothallModel", "poll", "()LBallothallModel$Poll;"⟩ prog_14_method_25_code 1 (some (.object "BallothallModel$Poll")) ∈ WG := wg_t (wu10 (List.mem_of_getElem? (i := 86) rfl)) rfl
theorem w_2247 : Cond.classLink "BallothallModel" 138 "BallothallModel$Poll" ∈ WG := wg_t (wu10 (List.mem_of_getElem? (i := 87) rfl)) rfl
theorem w_2248 : Cond.instantiable "BallothallModel$Poll" 7 ∈ WG := wg_t (wu10 (List.mem_of_getElem? (i := 88) rfl)) rfl
theorem w_2249 : Cond.methodLink "BallothallModel" 147 ⟨"BallothallModel$Poll", "<init>", "([LBallothallModel$Kind;I[I)V"⟩ ∈ WG := wg_t (wu10 (List.mem_of_getElem? (i := 89) rfl)) rfl
theorem w_2250 : Cond.instanceMethod ⟨"BallothallModel$Poll", "<init>", "([LBallothallModel$Kind;I[I)V"⟩ ∈ WG := wg_t (wu10 (List.mem_of_getElem? (i := 90) rfl)) rfl
theorem w_2251 : Cond.code ⟨"BallothallModel$Poll", "<init>", "([LBallothallModel$Kind;I[I)V"⟩ prog_17_method_1_code 4 none ∈ WG := wg_t (wu10 (List.mem_of_getElem? (i := 91) rfl)) rfl
theorem w_2252 : Cond.methodLink "BallothallModel$Poll" 3 ⟨"java/lang/Object", "<init>", "()V"⟩ ∈ WG := wg_t (wu10 (List.mem_of_getElem? (i := 92) rfl)) rfl
theorem w_2253 : Cond.fieldLink "BallothallModel$Poll" 18 "BallothallModel$Poll" "kinds" "[LBallothallModel$Kind;" ∈ WG := wg_t (wu10 (List.mem_of_getElem? (i := 93) rfl)) rfl
theorem w_2255 : Cond.fieldLink "BallothallModel$Poll" 22 "BallothallModel$Poll" "set" "I" ∈ WG := wg_t (wu10 (List.mem_of_getElem? (i := 95) rfl)) rfl
theorem w_2256 : Cond.fieldLink "BallothallModel$Poll" 26 "BallothallModel$Poll" "lots" "[I" ∈ WG := wg_t (wu10 (List.mem_of_getElem? (i := 96) rfl)) rfl
theorem w_2257 : Cond.fieldLink "BallothallModel$Poll" 9 "BallothallModel$Poll" "gone" "[I" ∈ WG := wg_t (wu10 (List.mem_of_getElem? (i := 97) rfl)) rfl
theorem w_2259 : Cond.fieldLink "BallothallModel$Poll" 56 "BallothallModel$Poll" "goneMany" "I" ∈ WG := wg_t (wu10 (List.mem_of_getElem? (i := 99) rfl)) rfl
theorem w_2261 : Cond.fieldLink "BallothallModel$Poll" 15 "BallothallModel$Poll" "has" "[I" ∈ WG := wg_t (wu10 (List.mem_of_getElem? (i := 101) rfl)) rfl
theorem w_2262 : Cond.fieldLink "BallothallModel$Poll" 70 "BallothallModel$Poll" "strengths" "[[I" ∈ WG := wg_t (wu10 (List.mem_of_getElem? (i := 102) rfl)) rfl
theorem w_2283 : Cond.methodLink "BallothallLaw" 247 ⟨"BallothallModel", "beatsAll", "()I"⟩ ∈ WG := wg_t (wu10 (List.mem_of_getElem? (i := 123) rfl)) rfl
theorem w_2284 : Cond.instanceMethod ⟨"BallothallModel", "beatsAll", "()I"⟩ ∈ WG := wg_t (wu10 (List.mem_of_getElem? (i := 124) rfl)) rfl
theorem w_2285 : Cond.selects "BallothallModel" ⟨"BallothallModel", "beatsAll", "()I"⟩ ⟨"BallothallModel", "beatsAll", "()I"⟩ ∈ WG := wg_t (wu10 (List.mem_of_getElem? (i := 125) rfl)) rfl
theorem w_2286 : Cond.code ⟨"BallothallModel", "beatsAll", "()I"⟩ prog_14_method_59_code 5 (some .int) ∈ WG := wg_t (wu10 (List.mem_of_getElem? (i := 126) rfl)) rfl
theorem w_2290 : Cond.methodLink "BallothallLaw" 250 ⟨"BallothallModel", "strongestPath", "(II)I"⟩ ∈ WG := wg_t (wu10 (List.mem_of_getElem? (i := 130) rfl)) rfl
theorem w_2291 : Cond.instanceMethod ⟨"BallothallModel", "strongestPath", "(II)I"⟩ ∈ WG := wg_t (wu10 (List.mem_of_getElem? (i := 131) rfl)) rfl
theorem w_2292 : Cond.selects "BallothallModel" ⟨"BallothallModel", "strongestPath", "(II)I"⟩ ⟨"BallothallModel", "strongestPath", "(II)I"⟩ ∈ WG := wg_t (wu10 (List.mem_of_getElem? (i := 132) rfl)) rfl
theorem w_2293 : Cond.code ⟨"BallothallModel", "strongestPath", "(II)I"⟩ prog_14_method_60_code 3 (some .int) ∈ WG := wg_t (wu10 (List.mem_of_getElem? (i := 133) rfl)) rfl
theorem w_2295 : Cond.instanceMethod ⟨"BallothallModel$Poll", "paths", "()[[I"⟩ ∈ WG := wg_t (wu10 (List.mem_of_getElem? (i := 135) rfl)) rfl
theorem w_2296 : Cond.selects "BallothallModel$Poll" ⟨"BallothallModel$Poll", "paths", "()[[I"⟩ ⟨"BallothallModel$Poll", "paths", "()[[I"⟩ ∈ WG := wg_t (wu10 (List.mem_of_getElem? (i := 136) rfl)) rfl
theorem w_2297 : Cond.code ⟨"BallothallModel$Poll", "paths", "()[[I"⟩ prog_17_method_9_code 5 (some (.array (.array .int))) ∈ WG := wg_t (wu10 (List.mem_of_getElem? (i := 137) rfl)) rfl
theorem w_2298 : Cond.classLink "BallothallModel$Poll" 74 "[[I" ∈ WG := wg_t (wu10 (List.mem_of_getElem? (i := 138) rfl)) rfl
theorem w_2299 : Cond.methodLink "BallothallModel$Poll" 44 ⟨"BallothallModel$Poll", "isIn", "(I)Z"⟩ ∈ WG := wg_t (wu10 (List.mem_of_getElem? (i := 139) rfl)) rfl
theorem w_2300 : Cond.instanceMethod ⟨"BallothallModel$Poll", "isIn", "(I)Z"⟩ ∈ WG := wg_t (wu10 (List.mem_of_getElem? (i := 140) rfl)) rfl
theorem w_2301 : Cond.selects "BallothallModel$Poll" ⟨"BallothallModel$Poll", "isIn", "(I)Z"⟩ ⟨"BallothallModel$Poll", "isIn", "(I)Z"⟩ ∈ WG := wg_t (wu10 (List.mem_of_getElem? (i := 141) rfl)) rfl
theorem w_2302 : Cond.code ⟨"BallothallModel$Poll", "isIn", "(I)Z"⟩ prog_17_method_2_code 2 (some .boolean) ∈ WG := wg_t (wu10 (List.mem_of_getElem? (i := 142) rfl)) rfl
theorem w_2304 : Cond.methodLink "BallothallModel$Poll" 78 ⟨"java/lang/Math", "min", "(II)I"⟩ ∈ WG := wg_t (wu10 (List.mem_of_getElem? (i := 144) rfl)) rfl
theorem w_2305 : Cond.methodLink "BallothallModel$Poll" 83 ⟨"java/lang/Math", "max", "(II)I"⟩ ∈ WG := wg_t (wu10 (List.mem_of_getElem? (i := 145) rfl)) rfl
theorem w_2306 : Cond.methodLink "BallothallLaw" 254 ⟨"BallothallModel", "pathWinners", "()I"⟩ ∈ WG := wg_t (wu10 (List.mem_of_getElem? (i := 146) rfl)) rfl
theorem w_2307 : Cond.instanceMethod ⟨"BallothallModel", "pathWinners", "()I"⟩ ∈ WG := wg_t (wu10 (List.mem_of_getElem? (i := 147) rfl)) rfl
theorem w_2308 : Cond.selects "BallothallModel" ⟨"BallothallModel", "pathWinners", "()I"⟩ ⟨"BallothallModel", "pathWinners", "()I"⟩ ∈ WG := wg_t (wu10 (List.mem_of_getElem? (i := 148) rfl)) rfl
theorem w_2309 : Cond.code ⟨"BallothallModel", "pathWinners", "()I"⟩ prog_14_method_61_code 1 (some .int) ∈ WG := wg_t (wu10 (List.mem_of_getElem? (i := 149) rfl)) rfl
theorem w_2310 : Cond.methodLink "BallothallModel" 315 ⟨"BallothallModel$Poll", "pathWinners", "()I"⟩ ∈ WG := wg_t (wu10 (List.mem_of_getElem? (i := 150) rfl)) rfl
theorem w_2311 : Cond.instanceMethod ⟨"BallothallModel$Poll", "pathWinners", "()I"⟩ ∈ WG := wg_t (wu10 (List.mem_of_getElem? (i := 151) rfl)) rfl
theorem w_2312 : Cond.selects "BallothallModel$Poll" ⟨"BallothallModel$Poll", "pathWinners", "()I"⟩ ⟨"BallothallModel$Poll", "pathWinners", "()I"⟩ ∈ WG := wg_t (wu10 (List.mem_of_getElem? (i := 152) rfl)) rfl
theorem w_2313 : Cond.code ⟨"BallothallModel$Poll", "pathWinners", "()I"⟩ prog_17_method_10_code 5 (some .int) ∈ WG := wg_t (wu10 (List.mem_of_getElem? (i := 153) rfl)) rfl
theorem w_2314 : Cond.methodLink "BallothallModel$Poll" 86 ⟨"BallothallModel$Poll", "paths", "()[[I"⟩ ∈ WG := wg_t (wu10 (List.mem_of_getElem? (i := 154) rfl)) rfl
theorem w_2315 : Cond.methodLink "BallothallLaw" 258 ⟨"BallothallModel", "beatingSet", "()I"⟩ ∈ WG := wg_t (wu10 (List.mem_of_getElem? (i := 155) rfl)) rfl
theorem w_2316 : Cond.instanceMethod ⟨"BallothallModel", "beatingSet", "()I"⟩ ∈ WG := wg_t (wu10 (List.mem_of_getElem? (i := 156) rfl)) rfl
theorem w_2317 : Cond.selects "BallothallModel" ⟨"BallothallModel", "beatingSet", "()I"⟩ ⟨"BallothallModel", "beatingSet", "()I"⟩ ∈ WG := wg_t (wu10 (List.mem_of_getElem? (i := 157) rfl)) rfl
theorem w_2318 : Cond.code ⟨"BallothallModel", "beatingSet", "()I"⟩ prog_14_method_62_code 7 (some .int) ∈ WG := wg_t (wu10 (List.mem_of_getElem? (i := 158) rfl)) rfl
theorem w_2319 : Cond.methodLink "BallothallLaw" 261 ⟨"BallothallModel", "consensusAt", "(I)I"⟩ ∈ WG := wg_t (wu10 (List.mem_of_getElem? (i := 159) rfl)) rfl
theorem w_2320 : Cond.instanceMethod ⟨"BallothallModel", "consensusAt", "(I)I"⟩ ∈ WG := wg_t (wu10 (List.mem_of_getElem? (i := 160) rfl)) rfl
theorem w_2321 : Cond.selects "BallothallModel" ⟨"BallothallModel", "consensusAt", "(I)I"⟩ ⟨"BallothallModel", "consensusAt", "(I)I"⟩ ∈ WG := wg_t (wu10 (List.mem_of_getElem? (i := 161) rfl)) rfl
theorem w_2322 : Cond.code ⟨"BallothallModel", "consensusAt", "(I)I"⟩ prog_14_method_65_code 2 (some .int) ∈ WG := wg_t (wu10 (List.mem_of_getElem? (i := 162) rfl)) rfl
theorem w_2323 : Cond.methodLink "BallothallModel" 329 ⟨"BallothallModel", "consensus", "()V"⟩ ∈ WG := wg_t (wu10 (List.mem_of_getElem? (i := 163) rfl)) rfl
theorem w_2325 : Cond.instanceMethod ⟨"BallothallModel", "consensus", "()V"⟩ ∈ WG := wg_t (wu10 (List.mem_of_getElem? (i := 165) rfl)) rfl
theorem w_2326 : Cond.code ⟨"BallothallModel", "consensus", "()V"⟩ prog_14_method_63_code 6 none ∈ WG := wg_t (wu10 (List.mem_of_getElem? (i := 166) rfl)) rfl
theorem w_2327 : Cond.methodLink "BallothallModel" 325 ⟨"BallothallModel", "tries", "([[I[IIIJ)V"⟩ ∈ WG := wg_t (wu10 (List.mem_of_getElem? (i := 167) rfl)) rfl
theorem w_2329 : Cond.instanceMethod ⟨"BallothallModel", "tries", "([[I[IIIJ)V"⟩ ∈ WG := wg_t (wu10 (List.mem_of_getElem? (i := 169) rfl)) rfl
theorem w_2330 : Cond.code ⟨"BallothallModel", "tries", "([[I[IIIJ)V"⟩ prog_14_method_64_code 11 none ∈ WG := wg_t (wu10 (List.mem_of_getElem? (i := 170) rfl)) rfl
theorem w_2331 : Cond.methodLink "BallothallLaw" 266 ⟨"BallothallModel", "consensusDistance", "()J"⟩ ∈ WG := wg_t (wu10 (List.mem_of_getElem? (i := 171) rfl)) rfl
theorem w_2332 : Cond.instanceMethod ⟨"BallothallModel", "consensusDistance", "()J"⟩ ∈ WG := wg_t (wu10 (List.mem_of_getElem? (i := 172) rfl)) rfl
theorem w_2333 : Cond.selects "BallothallModel" ⟨"BallothallModel", "consensusDistance", "()J"⟩ ⟨"BallothallModel", "consensusDistance", "()J"⟩ ∈ WG := wg_t (wu10 (List.mem_of_getElem? (i := 173) rfl)) rfl
theorem w_2334 : Cond.code ⟨"BallothallModel", "consensusDistance", "()J"⟩ prog_14_method_66_code 1 (some .long) ∈ WG := wg_t (wu10 (List.mem_of_getElem? (i := 174) rfl)) rfl
theorem w_2335 : Cond.methodLink "BallothallLaw" 269 ⟨"BallothallModel", "winner", "(I)I"⟩ ∈ WG := wg_t (wu10 (List.mem_of_getElem? (i := 175) rfl)) rfl
theorem w_2336 : Cond.instanceMethod ⟨"BallothallModel", "winner", "(I)I"⟩ ∈ WG := wg_t (wu10 (List.mem_of_getElem? (i := 176) rfl)) rfl
theorem w_2337 : Cond.selects "BallothallModel" ⟨"BallothallModel", "winner", "(I)I"⟩ ⟨"BallothallModel", "winner", "(I)I"⟩ ∈ WG := wg_t (wu10 (List.mem_of_getElem? (i := 177) rfl)) rfl
theorem w_2338 : Cond.code ⟨"BallothallModel", "winner", "(I)I"⟩ prog_14_method_67_code 2 (some .int) ∈ WG := wg_t (wu10 (List.mem_of_getElem? (i := 178) rfl)) rfl
theorem w_2339 : Cond.methodLink "BallothallModel" 332 ⟨"BallothallModel$Poll", "winner", "(I)I"⟩ ∈ WG := wg_t (wu10 (List.mem_of_getElem? (i := 179) rfl)) rfl
theorem w_2340 : Cond.instanceMethod ⟨"BallothallModel$Poll", "winner", "(I)I"⟩ ∈ WG := wg_t (wu10 (List.mem_of_getElem? (i := 180) rfl)) rfl
theorem w_2341 : Cond.selects "BallothallModel$Poll" ⟨"BallothallModel$Poll", "winner", "(I)I"⟩ ⟨"BallothallModel$Poll", "winner", "(I)I"⟩ ∈ WG := wg_t (wu10 (List.mem_of_getElem? (i := 181) rfl)) rfl
theorem w_2342 : Cond.code ⟨"BallothallModel$Poll", "winner", "(I)I"⟩ prog_17_method_11_code 2 (some .int) ∈ WG := wg_t (wu10 (List.mem_of_getElem? (i := 182) rfl)) rfl
theorem w_2343 : Cond.methodLink "BallothallModel$Poll" 90 ⟨"BallothallModel$Poll", "runoff", "()I"⟩ ∈ WG := wg_t (wu10 (List.mem_of_getElem? (i := 183) rfl)) rfl
theorem w_2345 : Cond.instanceMethod ⟨"BallothallModel$Poll", "runoff", "()I"⟩ ∈ WG := wg_t (wu10 (List.mem_of_getElem? (i := 185) rfl)) rfl
theorem w_2346 : Cond.code ⟨"BallothallModel$Poll", "runoff", "()I"⟩ prog_17_method_8_code 7 (some .int) ∈ WG := wg_t (wu10 (List.mem_of_getElem? (i := 186) rfl)) rfl
theorem w_2347 : Cond.methodLink "BallothallModel$Poll" 59 ⟨"java/lang/Integer", "bitCount", "(I)I"⟩ ∈ WG := wg_t (wu10 (List.mem_of_getElem? (i := 187) rfl)) rfl
theorem w_2358 : Cond.methodLink "BallothallModel$Poll" 67 ⟨"BallothallModel$Poll", "byLot", "(I)I"⟩ ∈ WG := wg_t (wu10 (List.mem_of_getElem? (i := 198) rfl)) rfl
theorem w_2359 : Cond.instanceMethod ⟨"BallothallModel$Poll", "byLot", "(I)I"⟩ ∈ WG := wg_t (wu10 (List.mem_of_getElem? (i := 199) rfl)) rfl
theorem w_2360 : Cond.selects "BallothallModel$Poll" ⟨"BallothallModel$Poll", "byLot", "(I)I"⟩ ⟨"BallothallModel$Poll", "byLot", "(I)I"⟩ ∈ WG := wg_t (wu10 (List.mem_of_getElem? (i := 200) rfl)) rfl
theorem w_2361 : Cond.code ⟨"BallothallModel$Poll", "byLot", "(I)I"⟩ prog_17_method_6_code 4 (some .int) ∈ WG := wg_t (wu10 (List.mem_of_getElem? (i := 201) rfl)) rfl
theorem w_2362 : Cond.methodLink "BallothallModel$Poll" 94 ⟨"BallothallModel$Poll", "pathWinners", "()I"⟩ ∈ WG := wg_t (wu10 (List.mem_of_getElem? (i := 202) rfl)) rfl
theorem w_2363 : Cond.methodLink "BallothallModel$Poll" 97 ⟨"BallothallModel$Poll", "most", "(I)I"⟩ ∈ WG := wg_t (wu10 (List.mem_of_getElem? (i := 203) rfl)) rfl
theorem w_2365 : Cond.instanceMethod ⟨"BallothallModel$Poll", "most", "(I)I"⟩ ∈ WG := wg_t (wu10 (List.mem_of_getElem? (i := 205) rfl)) rfl
theorem w_2366 : Cond.code ⟨"BallothallModel$Poll", "most", "(I)I"⟩ prog_17_method_7_code 6 (some .int) ∈ WG := wg_t (wu10 (List.mem_of_getElem? (i := 206) rfl)) rfl
theorem w_2371 : Cond.methodLink "BallothallLaw" 272 ⟨"BallothallModel", "votesFor", "(II)I"⟩ ∈ WG := wg_t (wu10 (List.mem_of_getElem? (i := 211) rfl)) rfl
theorem w_2372 : Cond.instanceMethod ⟨"BallothallModel", "votesFor", "(II)I"⟩ ∈ WG := wg_t (wu10 (List.mem_of_getElem? (i := 212) rfl)) rfl
theorem w_2373 : Cond.selects "BallothallModel" ⟨"BallothallModel", "votesFor", "(II)I"⟩ ⟨"BallothallModel", "votesFor", "(II)I"⟩ ∈ WG := wg_t (wu10 (List.mem_of_getElem? (i := 213) rfl)) rfl
theorem w_2374 : Cond.code ⟨"BallothallModel", "votesFor", "(II)I"⟩ prog_14_method_68_code 3 (some .int) ∈ WG := wg_t (wu10 (List.mem_of_getElem? (i := 214) rfl)) rfl
theorem w_2376 : Cond.methodLink "BallothallLaw" 275 ⟨"BallothallModel", "runoffOut", "(I)I"⟩ ∈ WG := wg_t (wu10 (List.mem_of_getElem? (i := 216) rfl)) rfl
theorem w_2377 : Cond.instanceMethod ⟨"BallothallModel", "runoffOut", "(I)I"⟩ ∈ WG := wg_t (wu10 (List.mem_of_getElem? (i := 217) rfl)) rfl
theorem w_2378 : Cond.selects "BallothallModel" ⟨"BallothallModel", "runoffOut", "(I)I"⟩ ⟨"BallothallModel", "runoffOut", "(I)I"⟩ ∈ WG := wg_t (wu10 (List.mem_of_getElem? (i := 218) rfl)) rfl
theorem w_2379 : Cond.code ⟨"BallothallModel", "runoffOut", "(I)I"⟩ prog_14_method_69_code 4 (some .int) ∈ WG := wg_t (wu10 (List.mem_of_getElem? (i := 219) rfl)) rfl
theorem w_2380 : Cond.methodLink "BallothallLaw" 278 ⟨"BallothallModel", "winnerWith", "(II)I"⟩ ∈ WG := wg_t (wu10 (List.mem_of_getElem? (i := 220) rfl)) rfl
theorem w_2381 : Cond.instanceMethod ⟨"BallothallModel", "winnerWith", "(II)I"⟩ ∈ WG := wg_t (wu10 (List.mem_of_getElem? (i := 221) rfl)) rfl
theorem w_2382 : Cond.selects "BallothallModel" ⟨"BallothallModel", "winnerWith", "(II)I"⟩ ⟨"BallothallModel", "winnerWith", "(II)I"⟩ ∈ WG := wg_t (wu10 (List.mem_of_getElem? (i := 222) rfl)) rfl
theorem w_2383 : Cond.code ⟨"BallothallModel", "winnerWith", "(II)I"⟩ prog_14_method_70_code 6 (some .int) ∈ WG := wg_t (wu10 (List.mem_of_getElem? (i := 223) rfl)) rfl
theorem w_2384 : Cond.methodLink "BallothallLaw" 281 ⟨"BallothallModel", "gain", "(I)I"⟩ ∈ WG := wg_t (wu10 (List.mem_of_getElem? (i := 224) rfl)) rfl
theorem w_2385 : Cond.instanceMethod ⟨"BallothallModel", "gain", "(I)I"⟩ ∈ WG := wg_t (wu10 (List.mem_of_getElem? (i := 225) rfl)) rfl
theorem w_2386 : Cond.selects "BallothallModel" ⟨"BallothallModel", "gain", "(I)I"⟩ ⟨"BallothallModel", "gain", "(I)I"⟩ ∈ WG := wg_t (wu10 (List.mem_of_getElem? (i := 226) rfl)) rfl
theorem w_2387 : Cond.code ⟨"BallothallModel", "gain", "(I)I"⟩ prog_14_method_73_code 2 (some .int) ∈ WG := wg_t (wu10 (List.mem_of_getElem? (i := 227) rfl)) rfl
theorem w_2396 : Cond.methodLink "BallothallLaw" 284 ⟨"BallothallModel", "gainAt", "(II)I"⟩ ∈ WG := wg_t (wu10 (List.mem_of_getElem? (i := 236) rfl)) rfl
theorem w_2397 : Cond.instanceMethod ⟨"BallothallModel", "gainAt", "(II)I"⟩ ∈ WG := wg_t (wu10 (List.mem_of_getElem? (i := 237) rfl)) rfl
theorem w_2398 : Cond.selects "BallothallModel" ⟨"BallothallModel", "gainAt", "(II)I"⟩ ⟨"BallothallModel", "gainAt", "(II)I"⟩ ∈ WG := wg_t (wu10 (List.mem_of_getElem? (i := 238) rfl)) rfl
theorem w_2399 : Cond.code ⟨"BallothallModel", "gainAt", "(II)I"⟩ prog_14_method_74_code 3 (some .int) ∈ WG := wg_t (wu10 (List.mem_of_getElem? (i := 239) rfl)) rfl
theorem w_2400 : Cond.methodLink "BallothallLaw" 287 ⟨"BallothallModel", "spoiler", "(I)I"⟩ ∈ WG := wg_t (wu11 (List.mem_of_getElem? (i := 0) rfl)) rfl
theorem w_2401 : Cond.instanceMethod ⟨"BallothallModel", "spoiler", "(I)I"⟩ ∈ WG := wg_t (wu11 (List.mem_of_getElem? (i := 1) rfl)) rfl
theorem w_2402 : Cond.selects "BallothallModel" ⟨"BallothallModel", "spoiler", "(I)I"⟩ ⟨"BallothallModel", "spoiler", "(I)I"⟩ ∈ WG := wg_t (wu11 (List.mem_of_getElem? (i := 2) rfl)) rfl
theorem w_2403 : Cond.code ⟨"BallothallModel", "spoiler", "(I)I"⟩ prog_14_method_75_code 6 (some .int) ∈ WG := wg_t (wu11 (List.mem_of_getElem? (i := 3) rfl)) rfl
theorem w_2408 : Cond.methodLink "BallothallLaw" 290 ⟨"BallothallModel", "proportionalAt", "(I)I"⟩ ∈ WG := wg_t (wu11 (List.mem_of_getElem? (i := 8) rfl)) rfl
theorem w_2409 : Cond.instanceMethod ⟨"BallothallModel", "proportionalAt", "(I)I"⟩ ∈ WG := wg_t (wu11 (List.mem_of_getElem? (i := 9) rfl)) rfl
theorem w_2410 : Cond.selects "BallothallModel" ⟨"BallothallModel", "proportionalAt", "(I)I"⟩ ⟨"BallothallModel", "proportionalAt", "(I)I"⟩ ∈ WG := wg_t (wu11 (List.mem_of_getElem? (i := 10) rfl)) rfl
theorem w_2411 : Cond.code ⟨"BallothallModel", "proportionalAt", "(I)I"⟩ prog_14_method_76_code 15 (some .int) ∈ WG := wg_t (wu11 (List.mem_of_getElem? (i := 11) rfl)) rfl
theorem w_2413 : Cond.methodLink "BallothallLaw" 294 ⟨"BallothallModel", "safeAfter", "()I"⟩ ∈ WG := wg_t (wu11 (List.mem_of_getElem? (i := 13) rfl)) rfl
theorem w_2414 : Cond.instanceMethod ⟨"BallothallModel", "safeAfter", "()I"⟩ ∈ WG := wg_t (wu11 (List.mem_of_getElem? (i := 14) rfl)) rfl
theorem w_2415 : Cond.selects "BallothallModel" ⟨"BallothallModel", "safeAfter", "()I"⟩ ⟨"BallothallModel", "safeAfter", "()I"⟩ ∈ WG := wg_t (wu11 (List.mem_of_getElem? (i := 15) rfl)) rfl
theorem w_2416 : Cond.code ⟨"BallothallModel", "safeAfter", "()I"⟩ prog_14_method_78_code 15 (some .int) ∈ WG := wg_t (wu11 (List.mem_of_getElem? (i := 16) rfl)) rfl
theorem w_2425 : Cond.methodLink "BallothallLaw" 297 ⟨"BallothallModel", "ward", "(III)I"⟩ ∈ WG := wg_t (wu11 (List.mem_of_getElem? (i := 25) rfl)) rfl
theorem w_2426 : Cond.instanceMethod ⟨"BallothallModel", "ward", "(III)I"⟩ ∈ WG := wg_t (wu11 (List.mem_of_getElem? (i := 26) rfl)) rfl
theorem w_2427 : Cond.selects "BallothallModel" ⟨"BallothallModel", "ward", "(III)I"⟩ ⟨"BallothallModel", "ward", "(III)I"⟩ ∈ WG := wg_t (wu11 (List.mem_of_getElem? (i := 27) rfl)) rfl
theorem w_2428 : Cond.code ⟨"BallothallModel", "ward", "(III)I"⟩ prog_14_method_79_code 4 (some .int) ∈ WG := wg_t (wu11 (List.mem_of_getElem? (i := 28) rfl)) rfl
theorem w_2429 : Cond.methodLink "BallothallLaw" 300 ⟨"BallothallModel", "greatestDistrict", "(I)I"⟩ ∈ WG := wg_t (wu11 (List.mem_of_getElem? (i := 29) rfl)) rfl
theorem w_2430 : Cond.instanceMethod ⟨"BallothallModel", "greatestDistrict", "(I)I"⟩ ∈ WG := wg_t (wu11 (List.mem_of_getElem? (i := 30) rfl)) rfl
theorem w_2431 : Cond.selects "BallothallModel" ⟨"BallothallModel", "greatestDistrict", "(I)I"⟩ ⟨"BallothallModel", "greatestDistrict", "(I)I"⟩ ∈ WG := wg_t (wu11 (List.mem_of_getElem? (i := 31) rfl)) rfl
theorem w_2432 : Cond.code ⟨"BallothallModel", "greatestDistrict", "(I)I"⟩ prog_14_method_83_code 2 (some .int) ∈ WG := wg_t (wu11 (List.mem_of_getElem? (i := 32) rfl)) rfl
theorem w_2433 : Cond.methodLink "BallothallModel" 391 ⟨"BallothallModel", "noDistricts", "(I)Z"⟩ ∈ WG := wg_t (wu11 (List.mem_of_getElem? (i := 33) rfl)) rfl
theorem w_2435 : Cond.instanceMethod ⟨"BallothallModel", "noDistricts", "(I)Z"⟩ ∈ WG := wg_t (wu11 (List.mem_of_getElem? (i := 35) rfl)) rfl
theorem w_2436 : Cond.code ⟨"BallothallModel", "noDistricts", "(I)Z"⟩ prog_14_method_82_code 2 (some .boolean) ∈ WG := wg_t (wu11 (List.mem_of_getElem? (i := 36) rfl)) rfl
theorem w_2442 : Cond.methodLink "BallothallLaw" 303 ⟨"BallothallModel", "districtEnd", "(II)I"⟩ ∈ WG := wg_t (wu11 (List.mem_of_getElem? (i := 42) rfl)) rfl
theorem w_2443 : Cond.instanceMethod ⟨"BallothallModel", "districtEnd", "(II)I"⟩ ∈ WG := wg_t (wu11 (List.mem_of_getElem? (i := 43) rfl)) rfl
theorem w_2444 : Cond.selects "BallothallModel" ⟨"BallothallModel", "districtEnd", "(II)I"⟩ ⟨"BallothallModel", "districtEnd", "(II)I"⟩ ∈ WG := wg_t (wu11 (List.mem_of_getElem? (i := 44) rfl)) rfl
theorem w_2445 : Cond.code ⟨"BallothallModel", "districtEnd", "(II)I"⟩ prog_14_method_84_code 3 (some .int) ∈ WG := wg_t (wu11 (List.mem_of_getElem? (i := 45) rfl)) rfl
theorem w_2450 : Cond.methodLink "BallothallLaw" 306 ⟨"BallothallModel", "districtsWon", "(II)I"⟩ ∈ WG := wg_t (wu11 (List.mem_of_getElem? (i := 50) rfl)) rfl
theorem w_2451 : Cond.instanceMethod ⟨"BallothallModel", "districtsWon", "(II)I"⟩ ∈ WG := wg_t (wu11 (List.mem_of_getElem? (i := 51) rfl)) rfl
theorem w_2452 : Cond.selects "BallothallModel" ⟨"BallothallModel", "districtsWon", "(II)I"⟩ ⟨"BallothallModel", "districtsWon", "(II)I"⟩ ∈ WG := wg_t (wu11 (List.mem_of_getElem? (i := 52) rfl)) rfl
theorem w_2453 : Cond.code ⟨"BallothallModel", "districtsWon", "(II)I"⟩ prog_14_method_87_code 8 (some .int) ∈ WG := wg_t (wu11 (List.mem_of_getElem? (i := 53) rfl)) rfl
theorem w_2454 : Cond.methodLink "BallothallModel" 397 ⟨"BallothallModel", "noParty", "(II)Z"⟩ ∈ WG := wg_t (wu11 (List.mem_of_getElem? (i := 54) rfl)) rfl
theorem w_2456 : Cond.instanceMethod ⟨"BallothallModel", "noParty", "(II)Z"⟩ ∈ WG := wg_t (wu11 (List.mem_of_getElem? (i := 56) rfl)) rfl
theorem w_2457 : Cond.code ⟨"BallothallModel", "noParty", "(II)Z"⟩ prog_14_method_86_code 3 (some .boolean) ∈ WG := wg_t (wu11 (List.mem_of_getElem? (i := 57) rfl)) rfl
theorem w_2462 : Cond.methodLink "BallothallLaw" 309 ⟨"BallothallModel", "wasted", "(II)I"⟩ ∈ WG := wg_t (wu11 (List.mem_of_getElem? (i := 62) rfl)) rfl
theorem w_2463 : Cond.instanceMethod ⟨"BallothallModel", "wasted", "(II)I"⟩ ∈ WG := wg_t (wu11 (List.mem_of_getElem? (i := 63) rfl)) rfl
theorem w_2464 : Cond.selects "BallothallModel" ⟨"BallothallModel", "wasted", "(II)I"⟩ ⟨"BallothallModel", "wasted", "(II)I"⟩ ∈ WG := wg_t (wu11 (List.mem_of_getElem? (i := 64) rfl)) rfl
theorem w_2465 : Cond.code ⟨"BallothallModel", "wasted", "(II)I"⟩ prog_14_method_88_code 8 (some .int) ∈ WG := wg_t (wu11 (List.mem_of_getElem? (i := 65) rfl)) rfl
theorem w_2466 : Cond.methodLink "BallothallLaw" 312 ⟨"BallothallModel", "member", "(I)I"⟩ ∈ WG := wg_t (wu11 (List.mem_of_getElem? (i := 66) rfl)) rfl
theorem w_2467 : Cond.instanceMethod ⟨"BallothallModel", "member", "(I)I"⟩ ∈ WG := wg_t (wu11 (List.mem_of_getElem? (i := 67) rfl)) rfl
theorem w_2468 : Cond.selects "BallothallModel" ⟨"BallothallModel", "member", "(I)I"⟩ ⟨"BallothallModel", "member", "(I)I"⟩ ∈ WG := wg_t (wu11 (List.mem_of_getElem? (i := 68) rfl)) rfl
theorem w_2469 : Cond.code ⟨"BallothallModel", "member", "(I)I"⟩ prog_14_method_89_code 2 (some .int) ∈ WG := wg_t (wu11 (List.mem_of_getElem? (i := 69) rfl)) rfl
theorem w_2470 : Cond.methodLink "BallothallLaw" 315 ⟨"BallothallModel", "setQuota", "(I)I"⟩ ∈ WG := wg_t (wu11 (List.mem_of_getElem? (i := 70) rfl)) rfl
theorem w_2471 : Cond.instanceMethod ⟨"BallothallModel", "setQuota", "(I)I"⟩ ∈ WG := wg_t (wu11 (List.mem_of_getElem? (i := 71) rfl)) rfl
theorem w_2472 : Cond.selects "BallothallModel" ⟨"BallothallModel", "setQuota", "(I)I"⟩ ⟨"BallothallModel", "setQuota", "(I)I"⟩ ∈ WG := wg_t (wu11 (List.mem_of_getElem? (i := 72) rfl)) rfl
theorem w_2473 : Cond.code ⟨"BallothallModel", "setQuota", "(I)I"⟩ prog_14_method_90_code 3 (some .int) ∈ WG := wg_t (wu11 (List.mem_of_getElem? (i := 73) rfl)) rfl
theorem w_2474 : Cond.methodLink "BallothallLaw" 318 ⟨"BallothallModel", "swings", "(I)I"⟩ ∈ WG := wg_t (wu11 (List.mem_of_getElem? (i := 74) rfl)) rfl
theorem w_2475 : Cond.instanceMethod ⟨"BallothallModel", "swings", "(I)I"⟩ ∈ WG := wg_t (wu11 (List.mem_of_getElem? (i := 75) rfl)) rfl
theorem w_2476 : Cond.selects "BallothallModel" ⟨"BallothallModel", "swings", "(I)I"⟩ ⟨"BallothallModel", "swings", "(I)I"⟩ ∈ WG := wg_t (wu11 (List.mem_of_getElem? (i := 76) rfl)) rfl
theorem w_2477 : Cond.code ⟨"BallothallModel", "swings", "(I)I"⟩ prog_14_method_92_code 4 (some .int) ∈ WG := wg_t (wu11 (List.mem_of_getElem? (i := 77) rfl)) rfl
theorem w_2482 : Cond.methodLink "BallothallLaw" 321 ⟨"BallothallModel", "ordersTurned", "(I)J"⟩ ∈ WG := wg_t (wu11 (List.mem_of_getElem? (i := 82) rfl)) rfl
theorem w_2483 : Cond.instanceMethod ⟨"BallothallModel", "ordersTurned", "(I)J"⟩ ∈ WG := wg_t (wu11 (List.mem_of_getElem? (i := 83) rfl)) rfl
theorem w_2484 : Cond.selects "BallothallModel" ⟨"BallothallModel", "ordersTurned", "(I)J"⟩ ⟨"BallothallModel", "ordersTurned", "(I)J"⟩ ∈ WG := wg_t (wu11 (List.mem_of_getElem? (i := 84) rfl)) rfl
theorem w_2485 : Cond.code ⟨"BallothallModel", "ordersTurned", "(I)J"⟩ prog_14_method_95_code 2 (some .long) ∈ WG := wg_t (wu11 (List.mem_of_getElem? (i := 85) rfl)) rfl
theorem w_2493 : Cond.methodLink "BallothallLaw" 325 ⟨"BallothallModel", "undo", "()I"⟩ ∈ WG := wg_t (wu11 (List.mem_of_getElem? (i := 93) rfl)) rfl
theorem w_2494 : Cond.instanceMethod ⟨"BallothallModel", "undo", "()I"⟩ ∈ WG := wg_t (wu11 (List.mem_of_getElem? (i := 94) rfl)) rfl
theorem w_2495 : Cond.selects "BallothallModel" ⟨"BallothallModel", "undo", "()I"⟩ ⟨"BallothallModel", "undo", "()I"⟩ ∈ WG := wg_t (wu11 (List.mem_of_getElem? (i := 95) rfl)) rfl
theorem w_2496 : Cond.code ⟨"BallothallModel", "undo", "()I"⟩ prog_14_method_96_code 1 (some .int) ∈ WG := wg_t (wu11 (List.mem_of_getElem? (i := 96) rfl)) rfl
theorem w_2497 : Cond.methodLink "BallothallLaw" 329 ⟨"BallothallModel", "checksum", "()J"⟩ ∈ WG := wg_t (wu11 (List.mem_of_getElem? (i := 97) rfl)) rfl
theorem w_2498 : Cond.instanceMethod ⟨"BallothallModel", "checksum", "()J"⟩ ∈ WG := wg_t (wu11 (List.mem_of_getElem? (i := 98) rfl)) rfl
theorem w_2499 : Cond.selects "BallothallModel" ⟨"BallothallModel", "checksum", "()J"⟩ ⟨"BallothallModel", "checksum", "()J"⟩ ∈ WG := wg_t (wu11 (List.mem_of_getElem? (i := 99) rfl)) rfl
theorem w_2500 : Cond.code ⟨"BallothallModel", "checksum", "()J"⟩ prog_14_method_97_code 7 (some .long) ∈ WG := wg_t (wu11 (List.mem_of_getElem? (i := 100) rfl)) rfl
theorem w_2502 : Cond.methodLink "BallothallLaw" 333 ⟨"BallothallModel", "meanRank", "(I)D"⟩ ∈ WG := wg_t (wu11 (List.mem_of_getElem? (i := 102) rfl)) rfl
theorem w_2503 : Cond.instanceMethod ⟨"BallothallModel", "meanRank", "(I)D"⟩ ∈ WG := wg_t (wu11 (List.mem_of_getElem? (i := 103) rfl)) rfl
theorem w_2504 : Cond.selects "BallothallModel" ⟨"BallothallModel", "meanRank", "(I)D"⟩ ⟨"BallothallModel", "meanRank", "(I)D"⟩ ∈ WG := wg_t (wu11 (List.mem_of_getElem? (i := 104) rfl)) rfl
theorem w_2505 : Cond.code ⟨"BallothallModel", "meanRank", "(I)D"⟩ prog_14_method_98_code 8 (some .double) ∈ WG := wg_t (wu11 (List.mem_of_getElem? (i := 105) rfl)) rfl
theorem w_2506 : Cond.methodLink "BallothallLaw" 336 ⟨"BallothallModel", "seatShare", "(I)F"⟩ ∈ WG := wg_t (wu11 (List.mem_of_getElem? (i := 106) rfl)) rfl
theorem w_2507 : Cond.instanceMethod ⟨"BallothallModel", "seatShare", "(I)F"⟩ ∈ WG := wg_t (wu11 (List.mem_of_getElem? (i := 107) rfl)) rfl
theorem w_2508 : Cond.selects "BallothallModel" ⟨"BallothallModel", "seatShare", "(I)F"⟩ ⟨"BallothallModel", "seatShare", "(I)F"⟩ ∈ WG := wg_t (wu11 (List.mem_of_getElem? (i := 108) rfl)) rfl
theorem w_2509 : Cond.code ⟨"BallothallModel", "seatShare", "(I)F"⟩ prog_14_method_99_code 2 (some .float) ∈ WG := wg_t (wu11 (List.mem_of_getElem? (i := 109) rfl)) rfl
theorem w_2510 : Cond.methodLink "BallothallLaw" 340 ⟨"BallothallModel", "errors", "()I"⟩ ∈ WG := wg_t (wu11 (List.mem_of_getElem? (i := 110) rfl)) rfl
theorem w_2511 : Cond.instanceMethod ⟨"BallothallModel", "errors", "()I"⟩ ∈ WG := wg_t (wu11 (List.mem_of_getElem? (i := 111) rfl)) rfl
theorem w_2512 : Cond.selects "BallothallModel" ⟨"BallothallModel", "errors", "()I"⟩ ⟨"BallothallModel", "errors", "()I"⟩ ∈ WG := wg_t (wu11 (List.mem_of_getElem? (i := 112) rfl)) rfl
theorem w_2513 : Cond.code ⟨"BallothallModel", "errors", "()I"⟩ prog_14_method_100_code 1 (some .int) ∈ WG := wg_t (wu11 (List.mem_of_getElem? (i := 113) rfl)) rfl
theorem w_2514 : Cond.methodLink "BallothallModel" 423 ⟨"BallothallModel", "errorsOfSeats", "()I"⟩ ∈ WG := wg_t (wu11 (List.mem_of_getElem? (i := 114) rfl)) rfl
theorem w_2516 : Cond.instanceMethod ⟨"BallothallModel", "errorsOfSeats", "()I"⟩ ∈ WG := wg_t (wu11 (List.mem_of_getElem? (i := 116) rfl)) rfl
theorem w_2517 : Cond.code ⟨"BallothallModel", "errorsOfSeats", "()I"⟩ prog_14_method_101_code 5 (some .int) ∈ WG := wg_t (wu11 (List.mem_of_getElem? (i := 117) rfl)) rfl
theorem w_2518 : Cond.methodLink "BallothallModel" 426 ⟨"BallothallModel", "errorsOfCount", "()I"⟩ ∈ WG := wg_t (wu11 (List.mem_of_getElem? (i := 118) rfl)) rfl
theorem w_2520 : Cond.instanceMethod ⟨"BallothallModel", "errorsOfCount", "()I"⟩ ∈ WG := wg_t (wu11 (List.mem_of_getElem? (i := 120) rfl)) rfl
theorem w_2521 : Cond.code ⟨"BallothallModel", "errorsOfCount", "()I"⟩ prog_14_method_102_code 7 (some .int) ∈ WG := wg_t (wu11 (List.mem_of_getElem? (i := 121) rfl)) rfl
theorem w_2523 : Cond.methodLink "BallothallModel" 429 ⟨"BallothallModel", "errorsOfPairs", "()I"⟩ ∈ WG := wg_t (wu11 (List.mem_of_getElem? (i := 123) rfl)) rfl
theorem w_2525 : Cond.instanceMethod ⟨"BallothallModel", "errorsOfPairs", "()I"⟩ ∈ WG := wg_t (wu11 (List.mem_of_getElem? (i := 125) rfl)) rfl
theorem w_2526 : Cond.code ⟨"BallothallModel", "errorsOfPairs", "()I"⟩ prog_14_method_103_code 2 (some .int) ∈ WG := wg_t (wu11 (List.mem_of_getElem? (i := 126) rfl)) rfl
theorem w_2527 : Cond.methodLink "BallothallModel" 445 ⟨"BallothallModel", "beatsAll", "()I"⟩ ∈ WG := wg_t (wu11 (List.mem_of_getElem? (i := 127) rfl)) rfl
theorem w_2528 : Cond.methodLink "BallothallModel" 432 ⟨"BallothallModel", "errorsOfCouncil", "()I"⟩ ∈ WG := wg_t (wu11 (List.mem_of_getElem? (i := 128) rfl)) rfl
theorem w_2530 : Cond.instanceMethod ⟨"BallothallModel", "errorsOfCouncil", "()I"⟩ ∈ WG := wg_t (wu11 (List.mem_of_getElem? (i := 130) rfl)) rfl
theorem w_2531 : Cond.code ⟨"BallothallModel", "errorsOfCouncil", "()I"⟩ prog_14_method_104_code 4 (some .int) ∈ WG := wg_t (wu11 (List.mem_of_getElem? (i := 131) rfl)) rfl
theorem w_2533 : Cond.arrayClass .double ∈ WG := wg_t (wu11 (List.mem_of_getElem? (i := 133) rfl)) rfl
theorem w_s_030e9c : Cond.selects "Ballothall$Division" ⟨"Ballothall$Division", "clear", "()V"⟩ ⟨"Ballothall$Division", "clear", "()V"⟩ ∈ WG := wg_s (List.mem_map.mpr ⟨_, wp5 (List.mem_of_getElem? (i := 3) rfl), rfl⟩) rfl
theorem w_s_0765de : Cond.selects "Ballothall$Poll" ⟨"Ballothall$Poll", "bestBy", "(I)I"⟩ ⟨"Ballothall$Poll", "bestBy", "(I)I"⟩ ∈ WG := wg_s (List.mem_map.mpr ⟨_, wp2 (List.mem_of_getElem? (i := 4) rfl), rfl⟩) rfl
theorem w_s_0e9b13 : Cond.selects "BallothallModel" ⟨"BallothallModel", "errorsOfCount", "()I"⟩ ⟨"BallothallModel", "errorsOfCount", "()I"⟩ ∈ WG := wg_s (List.mem_map.mpr ⟨_, wp11 (List.mem_of_getElem? (i := 9) rfl), rfl⟩) rfl
theorem w_s_13b3b8 : Cond.selects "Ballothall$Council" ⟨"Ballothall$Council", "findSums", "()V"⟩ ⟨"Ballothall$Council", "findSums", "()V"⟩ ∈ WG := wg_s (List.mem_map.mpr ⟨_, wp4 (List.mem_of_getElem? (i := 4) rfl), rfl⟩) rfl
theorem w_s_14a2f1 : Cond.selects "BallothallModel" ⟨"BallothallModel", "poll", "()LBallothallModel$Poll;"⟩ ⟨"BallothallModel", "poll", "()LBallothallModel$Poll;"⟩ ∈ WG := wg_s (List.mem_map.mpr ⟨_, wp10 (List.mem_of_getElem? (i := 9) rfl), rfl⟩) rfl
theorem w_s_1fa96a : Cond.selects "BallothallModel" ⟨"BallothallModel", "noDistricts", "(I)Z"⟩ ⟨"BallothallModel", "noDistricts", "(I)Z"⟩ ∈ WG := wg_s (List.mem_map.mpr ⟨_, wp11 (List.mem_of_getElem? (i := 1) rfl), rfl⟩) rfl
theorem w_s_229dc4 : Cond.selects "Ballothall$Poll" ⟨"Ballothall$Poll", "open", "(I)V"⟩ ⟨"Ballothall$Poll", "open", "(I)V"⟩ ∈ WG := wg_s (List.mem_map.mpr ⟨_, wp1 (List.mem_of_getElem? (i := 3) rfl), rfl⟩) rfl
theorem w_s_264ff8 : Cond.selects "BallothallModel" ⟨"BallothallModel", "tries", "([[I[IIIJ)V"⟩ ⟨"BallothallModel", "tries", "([[I[IIIJ)V"⟩ ∈ WG := wg_s (List.mem_map.mpr ⟨_, wp10 (List.mem_of_getElem? (i := 11) rfl), rfl⟩) rfl
theorem w_s_2a9bf2 : Cond.selects "BallothallModel" ⟨"BallothallModel", "kindsWith", "(ILBallothallModel$Kind;)[LBallothallModel$Kind;"⟩ ⟨"BallothallModel", "kindsWith", "(ILBallothallModel$Kind;)[LBallothallModel$Kind;"⟩ ∈ WG := wg_s (List.mem_map.mpr ⟨_, wp9 (List.mem_of_getElem? (i := 3) rfl), rfl⟩) rfl
theorem w_s_2ec4e5 : Cond.selects "Ballothall" ⟨"Ballothall", "isBeaterOfAllMissed", "()Z"⟩ ⟨"Ballothall", "isBeaterOfAllMissed", "()Z"⟩ ∈ WG := wg_s (List.mem_map.mpr ⟨_, wp4 (List.mem_of_getElem? (i := 0) rfl), rfl⟩) rfl
theorem w_s_2f4554 : Cond.selects "Ballothall$BallotBox" ⟨"Ballothall$BallotBox", "keepTrial", "()I"⟩ ⟨"Ballothall$BallotBox", "keepTrial", "()I"⟩ ∈ WG := wg_s (List.mem_map.mpr ⟨_, wp4 (List.mem_of_getElem? (i := 15) rfl), rfl⟩) rfl
theorem w_s_300997 : Cond.selects "Ballothall$Poll" ⟨"Ballothall$Poll", "smallestBeatingSet", "()I"⟩ ⟨"Ballothall$Poll", "smallestBeatingSet", "()I"⟩ ∈ WG := wg_s (List.mem_map.mpr ⟨_, wp2 (List.mem_of_getElem? (i := 0) rfl), rfl⟩) rfl
theorem w_s_3d2a4d : Cond.selects "Ballothall$Poll" ⟨"Ballothall$Poll", "findPaths", "()V"⟩ ⟨"Ballothall$Poll", "findPaths", "()V"⟩ ∈ WG := wg_s (List.mem_map.mpr ⟨_, wp1 (List.mem_of_getElem? (i := 13) rfl), rfl⟩) rfl
theorem w_s_46c41a : Cond.selects "Ballothall$Lists" ⟨"Ballothall$Lists", "latest", "()LBallothall$KeptSeats;"⟩ ⟨"Ballothall$Lists", "latest", "()LBallothall$KeptSeats;"⟩ ∈ WG := wg_s (List.mem_map.mpr ⟨_, wp3 (List.mem_of_getElem? (i := 1) rfl), rfl⟩) rfl
theorem w_s_49da49 : Cond.selects "Ballothall$BallotBox" ⟨"Ballothall$BallotBox", "kindOfTrial", "()I"⟩ ⟨"Ballothall$BallotBox", "kindOfTrial", "()I"⟩ ∈ WG := wg_s (List.mem_map.mpr ⟨_, wp4 (List.mem_of_getElem? (i := 13) rfl), rfl⟩) rfl
theorem w_s_4b155b : Cond.selects "BallothallModel" ⟨"BallothallModel", "everybody", "()I"⟩ ⟨"BallothallModel", "everybody", "()I"⟩ ∈ WG := wg_s (List.mem_map.mpr ⟨_, wp10 (List.mem_of_getElem? (i := 8) rfl), rfl⟩) rfl
theorem w_s_516c18 : Cond.selects "Ballothall$Poll" ⟨"Ballothall$Poll", "beaterOfAll", "()I"⟩ ⟨"Ballothall$Poll", "beaterOfAll", "()I"⟩ ∈ WG := wg_s (List.mem_map.mpr ⟨_, wp1 (List.mem_of_getElem? (i := 8) rfl), rfl⟩) rfl
theorem w_s_5a5920 : Cond.selects "BallothallModel" ⟨"BallothallModel", "readBallot", "()V"⟩ ⟨"BallothallModel", "readBallot", "()V"⟩ ∈ WG := wg_s (List.mem_map.mpr ⟨_, wp9 (List.mem_of_getElem? (i := 1) rfl), rfl⟩) rfl
theorem w_s_6438d0 : Cond.selects "BallothallModel$Poll" ⟨"BallothallModel$Poll", "runoff", "()I"⟩ ⟨"BallothallModel$Poll", "runoff", "()I"⟩ ∈ WG := wg_s (List.mem_map.mpr ⟨_, wp10 (List.mem_of_getElem? (i := 12) rfl), rfl⟩) rfl
theorem w_s_6545fc : Cond.selects "BallothallModel" ⟨"BallothallModel", "keeps", "()V"⟩ ⟨"BallothallModel", "keeps", "()V"⟩ ∈ WG := wg_s (List.mem_map.mpr ⟨_, wp8 (List.mem_of_getElem? (i := 14) rfl), rfl⟩) rfl
theorem w_s_6f201a : Cond.selects "BallothallModel" ⟨"BallothallModel", "isKind", "(I)Z"⟩ ⟨"BallothallModel", "isKind", "(I)Z"⟩ ∈ WG := wg_s (List.mem_map.mpr ⟨_, wp9 (List.mem_of_getElem? (i := 4) rfl), rfl⟩) rfl
theorem w_s_7c1b22 : Cond.selects "Ballothall$BallotBox" ⟨"Ballothall$BallotBox", "clearTrial", "()V"⟩ ⟨"Ballothall$BallotBox", "clearTrial", "()V"⟩ ∈ WG := wg_s (List.mem_map.mpr ⟨_, wp4 (List.mem_of_getElem? (i := 11) rfl), rfl⟩) rfl
theorem w_s_87a59c : Cond.selects "Ballothall$Poll" ⟨"Ballothall$Poll", "winnersByPaths", "()I"⟩ ⟨"Ballothall$Poll", "winnersByPaths", "()I"⟩ ∈ WG := wg_s (List.mem_map.mpr ⟨_, wp1 (List.mem_of_getElem? (i := 12) rfl), rfl⟩) rfl
theorem w_s_8b8b67 : Cond.selects "Ballothall$BallotBox" ⟨"Ballothall$BallotBox", "everybody", "()I"⟩ ⟨"Ballothall$BallotBox", "everybody", "()I"⟩ ∈ WG := wg_s (List.mem_map.mpr ⟨_, wp1 (List.mem_of_getElem? (i := 2) rfl), rfl⟩) rfl
theorem w_s_8d307b : Cond.selects "BallothallModel" ⟨"BallothallModel", "isCandidate", "(I)Z"⟩ ⟨"BallothallModel", "isCandidate", "(I)Z"⟩ ∈ WG := wg_s (List.mem_map.mpr ⟨_, wp9 (List.mem_of_getElem? (i := 0) rfl), rfl⟩) rfl
theorem w_s_92f5e0 : Cond.selects "BallothallModel" ⟨"BallothallModel", "isList", "(I)Z"⟩ ⟨"BallothallModel", "isList", "(I)Z"⟩ ∈ WG := wg_s (List.mem_map.mpr ⟨_, wp8 (List.mem_of_getElem? (i := 15) rfl), rfl⟩) rfl
theorem w_s_93fc6e : Cond.selects "Ballothall$FalseBallot" ⟨"Ballothall$FalseBallot", "findKind", "(I)I"⟩ ⟨"Ballothall$FalseBallot", "findKind", "(I)I"⟩ ∈ WG := wg_s (List.mem_map.mpr ⟨_, wp7 (List.mem_of_getElem? (i := 13) rfl), rfl⟩) rfl
theorem w_s_94fd13 : Cond.selects "BallothallModel" ⟨"BallothallModel", "consensus", "()V"⟩ ⟨"BallothallModel", "consensus", "()V"⟩ ∈ WG := wg_s (List.mem_map.mpr ⟨_, wp10 (List.mem_of_getElem? (i := 10) rfl), rfl⟩) rfl
theorem w_s_a51fc7 : Cond.selects "Ballothall$Lists" ⟨"Ballothall$Lists", "isUnjust", "()Z"⟩ ⟨"Ballothall$Lists", "isUnjust", "()Z"⟩ ∈ WG := wg_s (List.mem_map.mpr ⟨_, wp3 (List.mem_of_getElem? (i := 2) rfl), rfl⟩) rfl
theorem w_s_ad1675 : Cond.selects "Ballothall$Counting" ⟨"Ballothall$Counting", "latest", "()LBallothall$Count;"⟩ ⟨"Ballothall$Counting", "latest", "()LBallothall$Count;"⟩ ∈ WG := wg_s (List.mem_map.mpr ⟨_, wp1 (List.mem_of_getElem? (i := 1) rfl), rfl⟩) rfl
theorem w_s_aea49b : Cond.selects "Ballothall$Lists" ⟨"Ballothall$Lists", "keepSpread", "()V"⟩ ⟨"Ballothall$Lists", "keepSpread", "()V"⟩ ∈ WG := wg_s (List.mem_map.mpr ⟨_, wp6 (List.mem_of_getElem? (i := 0) rfl), rfl⟩) rfl
theorem w_s_b1baa3 : Cond.selects "BallothallModel" ⟨"BallothallModel", "noParty", "(II)Z"⟩ ⟨"BallothallModel", "noParty", "(II)Z"⟩ ∈ WG := wg_s (List.mem_map.mpr ⟨_, wp11 (List.mem_of_getElem? (i := 4) rfl), rfl⟩) rfl
theorem w_s_b213f0 : Cond.selects "Ballothall$BallotBox" ⟨"Ballothall$BallotBox", "topOf", "(II)I"⟩ ⟨"Ballothall$BallotBox", "topOf", "(II)I"⟩ ∈ WG := wg_s (List.mem_map.mpr ⟨_, wp1 (List.mem_of_getElem? (i := 6) rfl), rfl⟩) rfl
theorem w_s_b872b3 : Cond.selects "Ballothall" ⟨"Ballothall", "remember", "(III)V"⟩ ⟨"Ballothall", "remember", "(III)V"⟩ ∈ WG := wg_s (List.mem_map.mpr ⟨_, wp4 (List.mem_of_getElem? (i := 8) rfl), rfl⟩) rfl
theorem w_s_b9944c : Cond.selects "BallothallModel" ⟨"BallothallModel", "kindOfRead", "()I"⟩ ⟨"BallothallModel", "kindOfRead", "()I"⟩ ∈ WG := wg_s (List.mem_map.mpr ⟨_, wp9 (List.mem_of_getElem? (i := 2) rfl), rfl⟩) rfl
theorem w_s_bc533d : Cond.selects "BallothallModel$Poll" ⟨"BallothallModel$Poll", "most", "(I)I"⟩ ⟨"BallothallModel$Poll", "most", "(I)I"⟩ ∈ WG := wg_s (List.mem_map.mpr ⟨_, wp10 (List.mem_of_getElem? (i := 13) rfl), rfl⟩) rfl
theorem w_s_bfc401 : Cond.selects "Ballothall" ⟨"Ballothall", "needFewCandidates", "()V"⟩ ⟨"Ballothall", "needFewCandidates", "()V"⟩ ∈ WG := wg_s (List.mem_map.mpr ⟨_, wp7 (List.mem_of_getElem? (i := 12) rfl), rfl⟩) rfl
theorem w_s_c4bf49 : Cond.selects "Ballothall$Wards" ⟨"Ballothall$Wards", "append", "(III)I"⟩ ⟨"Ballothall$Wards", "append", "(III)I"⟩ ∈ WG := wg_s (List.mem_map.mpr ⟨_, wp8 (List.mem_of_getElem? (i := 5) rfl), rfl⟩) rfl
theorem w_s_c818bc : Cond.selects "Ballothall$Lists" ⟨"Ballothall$Lists", "firstLoss", "(I)I"⟩ ⟨"Ballothall$Lists", "firstLoss", "(I)I"⟩ ∈ WG := wg_s (List.mem_map.mpr ⟨_, wp6 (List.mem_of_getElem? (i := 1) rfl), rfl⟩) rfl
theorem w_s_cb71bb : Cond.selects "Ballothall$Division" ⟨"Ballothall$Division", "distribute", "(II)V"⟩ ⟨"Ballothall$Division", "distribute", "(II)V"⟩ ∈ WG := wg_s (List.mem_map.mpr ⟨_, wp5 (List.mem_of_getElem? (i := 8) rfl), rfl⟩) rfl
theorem w_s_cbd2da : Cond.selects "BallothallModel" ⟨"BallothallModel", "errorsOfSeats", "()I"⟩ ⟨"BallothallModel", "errorsOfSeats", "()I"⟩ ∈ WG := wg_s (List.mem_map.mpr ⟨_, wp11 (List.mem_of_getElem? (i := 8) rfl), rfl⟩) rfl
theorem w_s_ce0319 : Cond.selects "BallothallModel" ⟨"BallothallModel", "errorsOfCouncil", "()I"⟩ ⟨"BallothallModel", "errorsOfCouncil", "()I"⟩ ∈ WG := wg_s (List.mem_map.mpr ⟨_, wp11 (List.mem_of_getElem? (i := 11) rfl), rfl⟩) rfl
theorem w_s_cecdea : Cond.selects "BallothallModel" ⟨"BallothallModel", "errorsOfPairs", "()I"⟩ ⟨"BallothallModel", "errorsOfPairs", "()I"⟩ ∈ WG := wg_s (List.mem_map.mpr ⟨_, wp11 (List.mem_of_getElem? (i := 10) rfl), rfl⟩) rfl
theorem w_s_d035ed : Cond.selects "Ballothall$Poll" ⟨"Ballothall$Poll", "change", "(II)V"⟩ ⟨"Ballothall$Poll", "change", "(II)V"⟩ ∈ WG := wg_s (List.mem_map.mpr ⟨_, wp1 (List.mem_of_getElem? (i := 4) rfl), rfl⟩) rfl
theorem w_s_d32e6f : Cond.selects "Ballothall$Poll" ⟨"Ballothall$Poll", "findDistances", "()V"⟩ ⟨"Ballothall$Poll", "findDistances", "()V"⟩ ∈ WG := wg_s (List.mem_map.mpr ⟨_, wp2 (List.mem_of_getElem? (i := 2) rfl), rfl⟩) rfl
theorem w_s_d5ed60 : Cond.selects "Ballothall$Council" ⟨"Ballothall$Council", "isOrderMissed", "()Z"⟩ ⟨"Ballothall$Council", "isOrderMissed", "()Z"⟩ ∈ WG := wg_s (List.mem_map.mpr ⟨_, wp4 (List.mem_of_getElem? (i := 3) rfl), rfl⟩) rfl
theorem w_s_de34cc : Cond.selects "Ballothall$Lists" ⟨"Ballothall$Lists", "spread", "(III)I"⟩ ⟨"Ballothall$Lists", "spread", "(III)I"⟩ ∈ WG := wg_s (List.mem_map.mpr ⟨_, wp5 (List.mem_of_getElem? (i := 2) rfl), rfl⟩) rfl
theorem w_s_e198c6 : Cond.selects "Ballothall$Poll" ⟨"Ballothall$Poll", "findBeaten", "()V"⟩ ⟨"Ballothall$Poll", "findBeaten", "()V"⟩ ∈ WG := wg_s (List.mem_map.mpr ⟨_, wp1 (List.mem_of_getElem? (i := 9) rfl), rfl⟩) rfl
theorem w_s_e1a3ad : Cond.selects "Ballothall" ⟨"Ballothall", "countErrors", "()I"⟩ ⟨"Ballothall", "countErrors", "()I"⟩ ∈ WG := wg_s (List.mem_map.mpr ⟨_, wp3 (List.mem_of_getElem? (i := 4) rfl), rfl⟩) rfl
theorem w_s_e9d9cd : Cond.selects "Ballothall$Lists" ⟨"Ballothall$Lists", "append", "(I)I"⟩ ⟨"Ballothall$Lists", "append", "(I)I"⟩ ∈ WG := wg_s (List.mem_map.mpr ⟨_, wp5 (List.mem_of_getElem? (i := 1) rfl), rfl⟩) rfl
theorem w_s_eb7ceb : Cond.selects "Ballothall$Council" ⟨"Ballothall$Council", "append", "(I)I"⟩ ⟨"Ballothall$Council", "append", "(I)I"⟩ ∈ WG := wg_s (List.mem_map.mpr ⟨_, wp8 (List.mem_of_getElem? (i := 11) rfl), rfl⟩) rfl
theorem w_s_f8f2b7 : Cond.selects "BallothallModel" ⟨"BallothallModel", "ends", "(ZI)Z"⟩ ⟨"BallothallModel", "ends", "(ZI)Z"⟩ ∈ WG := wg_s (List.mem_map.mpr ⟨_, wp8 (List.mem_of_getElem? (i := 13) rfl), rfl⟩) rfl
theorem w_s_f90180 : Cond.selects "Ballothall$BallotBox" ⟨"Ballothall$BallotBox", "readTrial", "()I"⟩ ⟨"Ballothall$BallotBox", "readTrial", "()I"⟩ ∈ WG := wg_s (List.mem_map.mpr ⟨_, wp4 (List.mem_of_getElem? (i := 10) rfl), rfl⟩) rfl
theorem w_s_fbd9d2 : Cond.selects "Ballothall$BallotBox" ⟨"Ballothall$BallotBox", "soleTopOf", "(II)I"⟩ ⟨"Ballothall$BallotBox", "soleTopOf", "(II)I"⟩ ∈ WG := wg_s (List.mem_map.mpr ⟨_, wp1 (List.mem_of_getElem? (i := 5) rfl), rfl⟩) rfl
theorem w_s_fcecd2 : Cond.selects "Ballothall$BallotBox" ⟨"Ballothall$BallotBox", "ballotsOf", "([II)I"⟩ ⟨"Ballothall$BallotBox", "ballotsOf", "([II)I"⟩ ∈ WG := wg_s (List.mem_map.mpr ⟨_, wp1 (List.mem_of_getElem? (i := 0) rfl), rfl⟩) rfl
theorem w_s_ffb6bc : Cond.selects "BallothallModel" ⟨"BallothallModel", "distributed", "(III)LBallothallModel$Seats;"⟩ ⟨"BallothallModel", "distributed", "(III)LBallothallModel$Seats;"⟩ ∈ WG := wg_s (List.mem_map.mpr ⟨_, wp9 (List.mem_of_getElem? (i := 5) rfl), rfl⟩) rfl
theorem n_47 : Cond.methodLinkNest "Ballothall" 11 ⟨"Ballothall$BallotBox", "<init>", "()V"⟩ "Ballothall" ∈ lw_tbl := List.mem_append_right _ (wu1 (List.mem_of_getElem? (i := 47) rfl))
theorem n_54 : Cond.fieldLinkNest "Ballothall" 102 "Ballothall$BallotBox" "signs" "I" "Ballothall" ∈ lw_tbl := List.mem_append_right _ (wu1 (List.mem_of_getElem? (i := 54) rfl))
theorem n_57 : Cond.fieldLinkNest "Ballothall" 75 "Ballothall$BallotBox" "candidates" "I" "Ballothall" ∈ lw_tbl := List.mem_append_right _ (wu1 (List.mem_of_getElem? (i := 57) rfl))
theorem n_58 : Cond.fieldLinkNest "Ballothall$Poll" 84 "Ballothall$BallotBox" "candidates" "I" "Ballothall" ∈ lw_tbl := List.mem_append_right _ (wu1 (List.mem_of_getElem? (i := 58) rfl))
theorem n_62 : Cond.fieldLinkNest "Ballothall$Poll" 57 "Ballothall$BallotBox" "kinds" "I" "Ballothall" ∈ lw_tbl := List.mem_append_right _ (wu1 (List.mem_of_getElem? (i := 62) rfl))
theorem n_63 : Cond.fieldLinkNest "Ballothall" 117 "Ballothall$BallotBox" "kinds" "I" "Ballothall" ∈ lw_tbl := List.mem_append_right _ (wu1 (List.mem_of_getElem? (i := 63) rfl))
theorem n_67 : Cond.fieldLinkNest "Ballothall" 83 "Ballothall$BallotBox" "lot" "[I" "Ballothall" ∈ lw_tbl := List.mem_append_right _ (wu1 (List.mem_of_getElem? (i := 67) rfl))
theorem n_71 : Cond.fieldLinkNest "Ballothall" 123 "Ballothall$BallotBox" "count" "[I" "Ballothall" ∈ lw_tbl := List.mem_append_right _ (wu1 (List.mem_of_getElem? (i := 71) rfl))
theorem n_78 : Cond.fieldLinkNest "Ballothall$Poll" 73 "Ballothall$BallotBox" "groups" "[I" "Ballothall" ∈ lw_tbl := List.mem_append_right _ (wu1 (List.mem_of_getElem? (i := 78) rfl))
theorem n_108 : Cond.methodLinkNest "Ballothall" 18 ⟨"Ballothall$Poll", "<init>", "(LBallothall$BallotBox;)V"⟩ "Ballothall" ∈ lw_tbl := List.mem_append_right _ (wu1 (List.mem_of_getElem? (i := 108) rfl))
theorem n_126 : Cond.fieldLinkNest "Ballothall" 299 "Ballothall$Poll" "distance" "[J" "Ballothall" ∈ lw_tbl := List.mem_append_right _ (wu1 (List.mem_of_getElem? (i := 126) rfl))
theorem n_155 : Cond.methodLinkNest "Ballothall" 27 ⟨"Ballothall$FalseBallot", "<init>", "(LBallothall$BallotBox;LBallothall$Poll;)V"⟩ "Ballothall" ∈ lw_tbl := List.mem_append_right _ (wu1 (List.mem_of_getElem? (i := 155) rfl))
theorem n_172 : Cond.methodLinkNest "Ballothall" 36 ⟨"Ballothall$Lists", "<init>", "()V"⟩ "Ballothall" ∈ lw_tbl := List.mem_append_right _ (wu1 (List.mem_of_getElem? (i := 172) rfl))
theorem n_178 : Cond.methodLinkNest "Ballothall$Lists" 23 ⟨"Ballothall$Division", "<init>", "()V"⟩ "Ballothall" ∈ lw_tbl := List.mem_append_right _ (wu1 (List.mem_of_getElem? (i := 178) rfl))
theorem n_183 : Cond.fieldLinkNest "Ballothall$Lists" 76 "Ballothall$Division" "parties" "I" "Ballothall" ∈ lw_tbl := List.mem_append_right _ (wu1 (List.mem_of_getElem? (i := 183) rfl))
theorem n_185 : Cond.fieldLinkNest "Ballothall$Lists" 99 "Ballothall$Division" "given" "I" "Ballothall" ∈ lw_tbl := List.mem_append_right _ (wu1 (List.mem_of_getElem? (i := 185) rfl))
theorem n_194 : Cond.fieldLinkNest "Ballothall$Lists" 113 "Ballothall$Division" "order" "[I" "Ballothall" ∈ lw_tbl := List.mem_append_right _ (wu1 (List.mem_of_getElem? (i := 194) rfl))
theorem n_215 : Cond.methodLinkNest "Ballothall$Lists" 43 ⟨"Ballothall$KeptSeats", "<init>", "()V"⟩ "Ballothall" ∈ lw_tbl := List.mem_append_right _ (wu1 (List.mem_of_getElem? (i := 215) rfl))
theorem n_219 : Cond.fieldLinkNest "Ballothall$Lists" 108 "Ballothall$KeptSeats" "given" "I" "Ballothall" ∈ lw_tbl := List.mem_append_right _ (wu1 (List.mem_of_getElem? (i := 219) rfl))
theorem n_220 : Cond.fieldLinkNest "Ballothall" 169 "Ballothall$KeptSeats" "given" "I" "Ballothall" ∈ lw_tbl := List.mem_append_right _ (wu1 (List.mem_of_getElem? (i := 220) rfl))
theorem n_221 : Cond.fieldLinkNest "Ballothall$Lists" 109 "Ballothall$KeptSeats" "isAllied" "Z" "Ballothall" ∈ lw_tbl := List.mem_append_right _ (wu1 (List.mem_of_getElem? (i := 221) rfl))
theorem n_222 : Cond.fieldLinkNest "Ballothall" 165 "Ballothall$KeptSeats" "isAllied" "Z" "Ballothall" ∈ lw_tbl := List.mem_append_right _ (wu1 (List.mem_of_getElem? (i := 222) rfl))
theorem n_223 : Cond.fieldLinkNest "Ballothall$Lists" 110 "Ballothall$KeptSeats" "lists" "I" "Ballothall" ∈ lw_tbl := List.mem_append_right _ (wu1 (List.mem_of_getElem? (i := 223) rfl))
theorem n_225 : Cond.fieldLinkNest "Ballothall$Lists" 116 "Ballothall$KeptSeats" "order" "[I" "Ballothall" ∈ lw_tbl := List.mem_append_right _ (wu1 (List.mem_of_getElem? (i := 225) rfl))
theorem n_228 : Cond.fieldLinkNest "Ballothall$Lists" 123 "Ballothall$KeptSeats" "got" "[I" "Ballothall" ∈ lw_tbl := List.mem_append_right _ (wu1 (List.mem_of_getElem? (i := 228) rfl))
theorem n_231 : Cond.fieldLinkNest "Ballothall$Lists" 124 "Ballothall$KeptSeats" "votes" "[I" "Ballothall" ∈ lw_tbl := List.mem_append_right _ (wu1 (List.mem_of_getElem? (i := 231) rfl))
theorem n_233 : Cond.fieldLinkNest "Ballothall$Lists" 125 "Ballothall$KeptSeats" "alliance" "[I" "Ballothall" ∈ lw_tbl := List.mem_append_right _ (wu1 (List.mem_of_getElem? (i := 233) rfl))
theorem n_250 : Cond.fieldLinkNest "Ballothall" 90 "Ballothall$Lists" "size" "I" "Ballothall" ∈ lw_tbl := List.mem_append_right _ (wu2 (List.mem_of_getElem? (i := 10) rfl))
theorem n_289 : Cond.methodLinkNest "Ballothall" 43 ⟨"Ballothall$Counting", "<init>", "(LBallothall$BallotBox;)V"⟩ "Ballothall" ∈ lw_tbl := List.mem_append_right _ (wu2 (List.mem_of_getElem? (i := 49) rfl))
theorem n_298 : Cond.methodLinkNest "Ballothall$Counting" 26 ⟨"Ballothall$Natural", "<init>", "()V"⟩ "Ballothall" ∈ lw_tbl := List.mem_append_right _ (wu2 (List.mem_of_getElem? (i := 58) rfl))
theorem n_361 : Cond.methodLinkNest "Ballothall" 50 ⟨"Ballothall$Wards", "<init>", "()V"⟩ "Ballothall" ∈ lw_tbl := List.mem_append_right _ (wu2 (List.mem_of_getElem? (i := 121) rfl))
theorem n_367 : Cond.fieldLinkNest "Ballothall" 340 "Ballothall$Wards" "size" "I" "Ballothall" ∈ lw_tbl := List.mem_append_right _ (wu2 (List.mem_of_getElem? (i := 127) rfl))
theorem n_386 : Cond.methodLinkNest "Ballothall" 57 ⟨"Ballothall$Council", "<init>", "()V"⟩ "Ballothall" ∈ lw_tbl := List.mem_append_right _ (wu2 (List.mem_of_getElem? (i := 146) rfl))
theorem n_391 : Cond.fieldLinkNest "Ballothall" 352 "Ballothall$Council" "size" "I" "Ballothall" ∈ lw_tbl := List.mem_append_right _ (wu2 (List.mem_of_getElem? (i := 151) rfl))
theorem n_393 : Cond.fieldLinkNest "Ballothall" 354 "Ballothall$Council" "quota" "I" "Ballothall" ∈ lw_tbl := List.mem_append_right _ (wu2 (List.mem_of_getElem? (i := 153) rfl))
theorem n_453 : Cond.methodLinkNest "Ballothall" 134 ⟨"Ballothall$BallotBox", "ballotsOf", "([II)I"⟩ "Ballothall" ∈ lw_tbl := List.mem_append_right _ (wu2 (List.mem_of_getElem? (i := 213) rfl))
theorem n_461 : Cond.methodLinkNest "Ballothall" 191 ⟨"Ballothall$Counting", "latest", "()LBallothall$Count;"⟩ "Ballothall" ∈ lw_tbl := List.mem_append_right _ (wu2 (List.mem_of_getElem? (i := 221) rfl))
theorem n_477 : Cond.methodLinkNest "Ballothall" 250 ⟨"Ballothall$BallotBox", "everybody", "()I"⟩ "Ballothall" ∈ lw_tbl := List.mem_append_right _ (wu2 (List.mem_of_getElem? (i := 237) rfl))
theorem n_481 : Cond.methodLinkNest "Ballothall" 272 ⟨"Ballothall$Poll", "open", "(I)V"⟩ "Ballothall" ∈ lw_tbl := List.mem_append_right _ (wu3 (List.mem_of_getElem? (i := 1) rfl))
theorem n_492 : Cond.methodLinkNest "Ballothall$Poll" 69 ⟨"Ballothall$BallotBox", "soleTopOf", "(II)I"⟩ "Ballothall" ∈ lw_tbl := List.mem_append_right _ (wu3 (List.mem_of_getElem? (i := 12) rfl))
theorem n_513 : Cond.methodLinkNest "Ballothall" 278 ⟨"Ballothall$Poll", "beaterOfAll", "()I"⟩ "Ballothall" ∈ lw_tbl := List.mem_append_right _ (wu3 (List.mem_of_getElem? (i := 33) rfl))
theorem n_533 : Cond.methodLinkNest "Ballothall" 287 ⟨"Ballothall$Poll", "winnersByPaths", "()I"⟩ "Ballothall" ∈ lw_tbl := List.mem_append_right _ (wu3 (List.mem_of_getElem? (i := 53) rfl))
theorem n_556 : Cond.methodLinkNest "Ballothall" 290 ⟨"Ballothall$Poll", "smallestBeatingSet", "()I"⟩ "Ballothall" ∈ lw_tbl := List.mem_append_right _ (wu3 (List.mem_of_getElem? (i := 76) rfl))
theorem n_569 : Cond.methodLinkNest "Ballothall" 293 ⟨"Ballothall$Poll", "findDistances", "()V"⟩ "Ballothall" ∈ lw_tbl := List.mem_append_right _ (wu3 (List.mem_of_getElem? (i := 89) rfl))
theorem n_585 : Cond.methodLinkNest "Ballothall" 303 ⟨"Ballothall$Poll", "bestBy", "(I)I"⟩ "Ballothall" ∈ lw_tbl := List.mem_append_right _ (wu3 (List.mem_of_getElem? (i := 105) rfl))
theorem n_653 : Cond.methodLinkNest "Ballothall" 156 ⟨"Ballothall$Lists", "latest", "()LBallothall$KeptSeats;"⟩ "Ballothall" ∈ lw_tbl := List.mem_append_right _ (wu3 (List.mem_of_getElem? (i := 173) rfl))
theorem n_661 : Cond.methodLinkNest "Ballothall" 379 ⟨"Ballothall$Lists", "isUnjust", "()Z"⟩ "Ballothall" ∈ lw_tbl := List.mem_append_right _ (wu3 (List.mem_of_getElem? (i := 181) rfl))
theorem n_741 : Cond.methodLinkNest "Ballothall" 388 ⟨"Ballothall$Council", "isOrderMissed", "()Z"⟩ "Ballothall" ∈ lw_tbl := List.mem_append_right _ (wu4 (List.mem_of_getElem? (i := 21) rfl))
theorem n_774 : Cond.castable "java/lang/IllegalStateException" "java/lang/IllegalStateException" ∈ lw_tbl := List.mem_append_right _ (wu4 (List.mem_of_getElem? (i := 54) rfl))
theorem n_860 : Cond.castable "java/lang/IndexOutOfBoundsException" "java/lang/IndexOutOfBoundsException" ∈ lw_tbl := List.mem_append_right _ (wu4 (List.mem_of_getElem? (i := 140) rfl))
theorem n_879 : Cond.castable "java/lang/IllegalArgumentException" "java/lang/IllegalArgumentException" ∈ lw_tbl := List.mem_append_right _ (wu4 (List.mem_of_getElem? (i := 159) rfl))
theorem n_913 : Cond.methodLinkNest "Ballothall" 110 ⟨"Ballothall$BallotBox", "readTrial", "()I"⟩ "Ballothall" ∈ lw_tbl := List.mem_append_right _ (wu4 (List.mem_of_getElem? (i := 193) rfl))
theorem n_927 : Cond.methodLinkNest "Ballothall" 114 ⟨"Ballothall$BallotBox", "kindOfTrial", "()I"⟩ "Ballothall" ∈ lw_tbl := List.mem_append_right _ (wu4 (List.mem_of_getElem? (i := 207) rfl))
theorem n_935 : Cond.methodLinkNest "Ballothall" 120 ⟨"Ballothall$BallotBox", "keepTrial", "()I"⟩ "Ballothall" ∈ lw_tbl := List.mem_append_right _ (wu4 (List.mem_of_getElem? (i := 215) rfl))
theorem n_974 : Cond.methodLinkNest "Ballothall" 139 ⟨"Ballothall$Lists", "append", "(I)I"⟩ "Ballothall" ∈ lw_tbl := List.mem_append_right _ (wu5 (List.mem_of_getElem? (i := 14) rfl))
theorem n_999 : Cond.methodLinkNest "Ballothall" 149 ⟨"Ballothall$Lists", "spread", "(III)I"⟩ "Ballothall" ∈ lw_tbl := List.mem_append_right _ (wu5 (List.mem_of_getElem? (i := 39) rfl))
theorem n_1003 : Cond.methodLinkNest "Ballothall$Lists" 51 ⟨"Ballothall$Division", "clear", "()V"⟩ "Ballothall" ∈ lw_tbl := List.mem_append_right _ (wu5 (List.mem_of_getElem? (i := 43) rfl))
theorem n_1024 : Cond.methodLinkNest "Ballothall$Lists" 66 ⟨"Ballothall$Division", "distribute", "(II)V"⟩ "Ballothall" ∈ lw_tbl := List.mem_append_right _ (wu5 (List.mem_of_getElem? (i := 64) rfl))
theorem n_1059 : Cond.methodLinkNest "Ballothall" 153 ⟨"Ballothall$Lists", "keepSpread", "()V"⟩ "Ballothall" ∈ lw_tbl := List.mem_append_right _ (wu5 (List.mem_of_getElem? (i := 99) rfl))
theorem n_1085 : Cond.castable "java/util/NoSuchElementException" "java/util/NoSuchElementException" ∈ lw_tbl := List.mem_append_right _ (wu5 (List.mem_of_getElem? (i := 125) rfl))
theorem n_1106 : Cond.methodLinkNest "Ballothall" 178 ⟨"Ballothall$Lists", "firstLoss", "(I)I"⟩ "Ballothall" ∈ lw_tbl := List.mem_append_right _ (wu5 (List.mem_of_getElem? (i := 146) rfl))
theorem n_1376 : Cond.methodLinkNest "Ballothall" 321 ⟨"Ballothall$Poll", "change", "(II)V"⟩ "Ballothall" ∈ lw_tbl := List.mem_append_right _ (wu6 (List.mem_of_getElem? (i := 176) rfl))
theorem n_1389 : Cond.methodLinkNest "Ballothall" 327 ⟨"Ballothall$FalseBallot", "findKind", "(I)I"⟩ "Ballothall" ∈ lw_tbl := List.mem_append_right _ (wu6 (List.mem_of_getElem? (i := 189) rfl))
theorem n_1393 : Cond.methodLinkNest "Ballothall$FalseBallot" 23 ⟨"Ballothall$BallotBox", "everybody", "()I"⟩ "Ballothall" ∈ lw_tbl := List.mem_append_right _ (wu6 (List.mem_of_getElem? (i := 193) rfl))
theorem n_1394 : Cond.methodLinkNest "Ballothall$FalseBallot" 29 ⟨"Ballothall$Poll", "open", "(I)V"⟩ "Ballothall" ∈ lw_tbl := List.mem_append_right _ (wu6 (List.mem_of_getElem? (i := 194) rfl))
theorem n_1395 : Cond.methodLinkNest "Ballothall$FalseBallot" 35 ⟨"Ballothall$Poll", "bestBy", "(I)I"⟩ "Ballothall" ∈ lw_tbl := List.mem_append_right _ (wu6 (List.mem_of_getElem? (i := 195) rfl))
theorem n_1458 : Cond.methodLinkNest "Ballothall" 341 ⟨"Ballothall$Wards", "append", "(III)I"⟩ "Ballothall" ∈ lw_tbl := List.mem_append_right _ (wu7 (List.mem_of_getElem? (i := 18) rfl))
theorem n_1520 : Cond.methodLinkNest "Ballothall" 353 ⟨"Ballothall$Council", "append", "(I)I"⟩ "Ballothall" ∈ lw_tbl := List.mem_append_right _ (wu7 (List.mem_of_getElem? (i := 80) rfl))
theorem n_1573 : Cond.methodLinkNest "BallothallModel" 99 ⟨"BallothallModel$State", "<init>", "()V"⟩ "BallothallModel" ∈ lw_tbl := List.mem_append_right _ (wu7 (List.mem_of_getElem? (i := 133) rfl))
theorem n_1580 : Cond.fieldLinkNest "BallothallModel" 124 "BallothallModel$State" "candidates" "I" "BallothallModel" ∈ lw_tbl := List.mem_append_right _ (wu7 (List.mem_of_getElem? (i := 140) rfl))
theorem n_1582 : Cond.fieldLinkNest "BallothallModel" 144 "BallothallModel$State" "lots" "[I" "BallothallModel" ∈ lw_tbl := List.mem_append_right _ (wu7 (List.mem_of_getElem? (i := 142) rfl))
theorem n_1584 : Cond.fieldLinkNest "BallothallModel" 134 "BallothallModel$State" "kinds" "[LBallothallModel$Kind;" "BallothallModel" ∈ lw_tbl := List.mem_append_right _ (wu7 (List.mem_of_getElem? (i := 144) rfl))
theorem n_1586 : Cond.fieldLinkNest "BallothallModel" 131 "BallothallModel$State" "lists" "I" "BallothallModel" ∈ lw_tbl := List.mem_append_right _ (wu7 (List.mem_of_getElem? (i := 146) rfl))
theorem n_1588 : Cond.fieldLinkNest "BallothallModel" 222 "BallothallModel$State" "votes" "[I" "BallothallModel" ∈ lw_tbl := List.mem_append_right _ (wu7 (List.mem_of_getElem? (i := 148) rfl))
theorem n_1590 : Cond.fieldLinkNest "BallothallModel" 225 "BallothallModel$State" "alliances" "[I" "BallothallModel" ∈ lw_tbl := List.mem_append_right _ (wu7 (List.mem_of_getElem? (i := 150) rfl))
theorem n_1592 : Cond.fieldLinkNest "BallothallModel" 164 "BallothallModel$State" "listLots" "[I" "BallothallModel" ∈ lw_tbl := List.mem_append_right _ (wu7 (List.mem_of_getElem? (i := 152) rfl))
theorem n_1594 : Cond.fieldLinkNest "BallothallModel" 235 "BallothallModel$State" "seats" "LBallothallModel$Seats;" "BallothallModel" ∈ lw_tbl := List.mem_append_right _ (wu7 (List.mem_of_getElem? (i := 154) rfl))
theorem n_1596 : Cond.fieldLinkNest "BallothallModel" 246 "BallothallModel$State" "count" "LBallothallModel$Count;" "BallothallModel" ∈ lw_tbl := List.mem_append_right _ (wu7 (List.mem_of_getElem? (i := 156) rfl))
theorem n_1598 : Cond.fieldLinkNest "BallothallModel" 375 "BallothallModel$State" "wards" "I" "BallothallModel" ∈ lw_tbl := List.mem_append_right _ (wu7 (List.mem_of_getElem? (i := 158) rfl))
theorem n_1600 : Cond.fieldLinkNest "BallothallModel" 378 "BallothallModel$State" "heads" "[I" "BallothallModel" ∈ lw_tbl := List.mem_append_right _ (wu7 (List.mem_of_getElem? (i := 160) rfl))
theorem n_1602 : Cond.fieldLinkNest "BallothallModel" 381 "BallothallModel$State" "votesA" "[I" "BallothallModel" ∈ lw_tbl := List.mem_append_right _ (wu7 (List.mem_of_getElem? (i := 162) rfl))
theorem n_1604 : Cond.fieldLinkNest "BallothallModel" 384 "BallothallModel$State" "votesB" "[I" "BallothallModel" ∈ lw_tbl := List.mem_append_right _ (wu7 (List.mem_of_getElem? (i := 164) rfl))
theorem n_1606 : Cond.fieldLinkNest "BallothallModel" 404 "BallothallModel$State" "members" "I" "BallothallModel" ∈ lw_tbl := List.mem_append_right _ (wu7 (List.mem_of_getElem? (i := 166) rfl))
theorem n_1608 : Cond.fieldLinkNest "BallothallModel" 407 "BallothallModel$State" "weights" "[I" "BallothallModel" ∈ lw_tbl := List.mem_append_right _ (wu7 (List.mem_of_getElem? (i := 168) rfl))
theorem n_1610 : Cond.fieldLinkNest "BallothallModel" 410 "BallothallModel$State" "quota" "I" "BallothallModel" ∈ lw_tbl := List.mem_append_right _ (wu7 (List.mem_of_getElem? (i := 170) rfl))
theorem n_1846 : Cond.fieldLinkNest "BallothallModel" 80 "BallothallModel$Seats" "given" "I" "BallothallModel" ∈ lw_tbl := List.mem_append_right _ (wu8 (List.mem_of_getElem? (i := 166) rfl))
theorem n_1847 : Cond.fieldLinkNest "BallothallModel" 64 "BallothallModel$Seats" "units" "I" "BallothallModel" ∈ lw_tbl := List.mem_append_right _ (wu8 (List.mem_of_getElem? (i := 167) rfl))
theorem n_1880 : Cond.fieldLinkNest "BallothallModel" 77 "BallothallModel$Sharing" "given" "I" "BallothallModel" ∈ lw_tbl := List.mem_append_right _ (wu8 (List.mem_of_getElem? (i := 200) rfl))
theorem n_2260 : Cond.fieldLinkNest "BallothallModel" 337 "BallothallModel$Poll" "goneMany" "I" "BallothallModel" ∈ lw_tbl := List.mem_append_right _ (wu10 (List.mem_of_getElem? (i := 100) rfl))
theorem md_00f02f : md_ok ⟨"BallothallLaw", "swings", "(LBallothall;I[J)I"⟩ 3 := by decide +kernel
theorem md_01db1e : md_ok ⟨"BallothallModel", "solidQuotas", "(I)I"⟩ 1 := by decide +kernel
theorem md_01fe59 : md_ok ⟨"BallothallLaw", "excludedAt", "(LBallothall;I[J)I"⟩ 3 := by decide +kernel
theorem md_024274 : md_ok ⟨"Ballothall", "meanRank", "(I)D"⟩ 1 := by decide +kernel
theorem md_0289f6 : md_ok ⟨"BallothallModel", "runoffOut", "(I)I"⟩ 1 := by decide +kernel
theorem md_056ea1 : md_ok ⟨"Ballothall$Poll", "beaterOfAll", "()I"⟩ 0 := by decide +kernel
theorem md_06b31e : md_ok ⟨"BallothallModel", "winner", "(I)I"⟩ 1 := by decide +kernel
theorem md_0cda89 : md_ok ⟨"BallothallModel$Seats", "<init>", "([I[I)V"⟩ 2 := by decide +kernel
theorem md_0ebbab : md_ok ⟨"Ballothall", "wasted", "(II)I"⟩ 2 := by decide +kernel
theorem md_0f833a : md_ok ⟨"Ballothall$BallotBox", "soleTopOf", "(II)I"⟩ 2 := by decide +kernel
theorem md_1045bf : md_ok ⟨"Ballothall$Lists", "<init>", "()V"⟩ 0 := by decide +kernel
theorem md_10ac91 : md_ok ⟨"BallothallLaw", "takeBack", "(LBallothall;II[J)I"⟩ 4 := by decide +kernel
theorem md_114b2c : md_ok ⟨"Ballothall$Poll", "winnersByPaths", "()I"⟩ 0 := by decide +kernel
theorem md_11ba39 : md_ok ⟨"BallothallLaw", "list", "(LBallothall;I[J)I"⟩ 3 := by decide +kernel
theorem md_12822f : md_ok ⟨"Ballothall$BallotBox", "clearTrial", "()V"⟩ 0 := by decide +kernel
theorem md_12ccbe : md_ok ⟨"BallothallModel", "seatAt", "(I)I"⟩ 1 := by decide +kernel
theorem md_13f1a5 : md_ok ⟨"BallothallLaw", "proportionalAt", "(LBallothall;I[J)I"⟩ 3 := by decide +kernel
theorem md_156c48 : md_ok ⟨"BallothallModel", "errorsOfPairs", "()I"⟩ 0 := by decide +kernel
theorem md_16e5ac : md_ok ⟨"Ballothall", "solidQuotas", "(I)I"⟩ 1 := by decide +kernel
theorem md_170151 : md_ok ⟨"BallothallLaw", "countOf", "(LBallothall;I[J)I"⟩ 3 := by decide +kernel
theorem md_17c7c3 : md_ok ⟨"BallothallLaw", "winner", "(LBallothall;I[J)I"⟩ 3 := by decide +kernel
theorem md_1d863d : md_ok ⟨"BallothallModel", "kindOfRead", "()I"⟩ 0 := by decide +kernel
theorem md_1e5622 : md_ok ⟨"Ballothall", "steps", "()I"⟩ 0 := by decide +kernel
theorem md_1f245a : md_ok ⟨"Ballothall", "ally", "(II)I"⟩ 2 := by decide +kernel
theorem md_21ec4b : md_ok ⟨"BallothallModel", "excludedAt", "(I)I"⟩ 1 := by decide +kernel
theorem md_2288df : md_ok ⟨"BallothallModel$Poll", "isIn", "(I)Z"⟩ 1 := by decide +kernel
theorem md_22f6df : md_ok ⟨"Ballothall", "<init>", "()V"⟩ 0 := by decide +kernel
theorem md_27e7b2 : md_ok ⟨"BallothallModel", "readBallot", "()V"⟩ 0 := by decide +kernel
theorem md_28736b : md_ok ⟨"BallothallModel$Poll", "paths", "()[[I"⟩ 0 := by decide +kernel
theorem md_2b5a81 : md_ok ⟨"BallothallLaw", "setQuota", "(LBallothall;I[J)I"⟩ 3 := by decide +kernel
theorem md_2b9f88 : md_ok ⟨"Ballothall$Poll", "bestBy", "(I)I"⟩ 1 := by decide +kernel
theorem md_2bddb0 : md_ok ⟨"Ballothall", "countOf", "(I)I"⟩ 1 := by decide +kernel
theorem md_2e067e : md_ok ⟨"BallothallModel", "wasted", "(II)I"⟩ 2 := by decide +kernel
theorem md_31c5cd : md_ok ⟨"BallothallModel", "meanRank", "(I)D"⟩ 1 := by decide +kernel
theorem md_32627a : md_ok ⟨"BallothallModel", "safeAfter", "()I"⟩ 0 := by decide +kernel
theorem md_338f64 : md_ok ⟨"Ballothall$Lists", "isUnjust", "()Z"⟩ 0 := by decide +kernel
theorem md_33e935 : md_ok ⟨"Ballothall", "setVotes", "(II)I"⟩ 2 := by decide +kernel
theorem md_349689 : md_ok ⟨"BallothallModel", "checksum", "()J"⟩ 0 := by decide +kernel
theorem md_376b89 : md_ok ⟨"BallothallModel", "seatsOf", "(I)I"⟩ 1 := by decide +kernel
theorem md_37bd88 : md_ok ⟨"Ballothall", "writePile", "(II)I"⟩ 2 := by decide +kernel
theorem md_38a853 : md_ok ⟨"Ballothall", "needFewCandidates", "()V"⟩ 0 := by decide +kernel
theorem md_39fdd9 : md_ok ⟨"BallothallModel", "errors", "()I"⟩ 0 := by decide +kernel
theorem md_3c5909 : md_ok ⟨"BallothallModel", "kindsWith", "(ILBallothallModel$Kind;)[LBallothallModel$Kind;"⟩ 2 := by decide +kernel
theorem md_3d9e5c : md_ok ⟨"BallothallLaw", "greatestDistrict", "(LBallothall;I[J)I"⟩ 3 := by decide +kernel
theorem md_3dd4bb : md_ok ⟨"BallothallModel", "errorsOfCouncil", "()I"⟩ 0 := by decide +kernel
theorem md_3f8884 : md_ok ⟨"BallothallModel", "ally", "(II)I"⟩ 2 := by decide +kernel
theorem md_3f8a01 : md_ok ⟨"BallothallLaw", "meanRank", "(LBallothall;I[D)I"⟩ 3 := by decide +kernel
theorem md_4126ad : md_ok ⟨"BallothallModel", "takeBack", "(II)I"⟩ 2 := by decide +kernel
theorem md_41465a : md_ok ⟨"Ballothall", "ordersTurned", "(I)J"⟩ 1 := by decide +kernel
theorem md_42013e : md_ok ⟨"BallothallModel", "candidate", "()I"⟩ 0 := by decide +kernel
theorem md_43cf29 : md_ok ⟨"BallothallLaw", "electedAt", "(LBallothall;I[J)I"⟩ 3 := by decide +kernel
theorem md_45ab82 : md_ok ⟨"Ballothall$BallotBox", "readTrial", "()I"⟩ 0 := by decide +kernel
theorem md_474531 : md_ok ⟨"BallothallModel", "<init>", "()V"⟩ 0 := by decide +kernel
theorem md_47adca : md_ok ⟨"Ballothall", "beatingSet", "()I"⟩ 0 := by decide +kernel
theorem md_4a20a6 : md_ok ⟨"Ballothall$Lists", "firstLoss", "(I)I"⟩ 1 := by decide +kernel
theorem md_4ae834 : md_ok ⟨"Ballothall", "isBeaterOfAllMissed", "()Z"⟩ 0 := by decide +kernel
theorem md_4b14b3 : md_ok ⟨"Ballothall$Poll", "findDistances", "()V"⟩ 0 := by decide +kernel
theorem md_4c1cb5 : md_ok ⟨"Ballothall", "winnerWith", "(II)I"⟩ 2 := by decide +kernel
theorem md_4c9505 : md_ok ⟨"Ballothall", "gainAt", "(II)I"⟩ 2 := by decide +kernel
theorem md_4dddda : md_ok ⟨"Ballothall$Division", "clear", "()V"⟩ 0 := by decide +kernel
theorem md_4f41a0 : md_ok ⟨"Ballothall", "seatAt", "(I)I"⟩ 1 := by decide +kernel
theorem md_50abb2 : md_ok ⟨"Ballothall", "proportionalAt", "(I)I"⟩ 1 := by decide +kernel
theorem md_50f2a6 : md_ok ⟨"BallothallModel", "beatingSet", "()I"⟩ 0 := by decide +kernel
theorem md_519134 : md_ok ⟨"Ballothall", "needRange", "(III)V"⟩ 3 := by decide +kernel
theorem md_521241 : md_ok ⟨"BallothallModel", "isCandidate", "(I)Z"⟩ 1 := by decide +kernel
theorem md_524278 : md_ok ⟨"Ballothall$Poll", "<init>", "(LBallothall$BallotBox;)V"⟩ 1 := by decide +kernel
theorem md_52e226 : md_ok ⟨"BallothallModel", "proportionalAt", "(I)I"⟩ 1 := by decide +kernel
theorem md_530a4a : md_ok ⟨"BallothallModel", "setLot", "(ZII)I"⟩ 3 := by decide +kernel
theorem md_5369b4 : md_ok ⟨"Ballothall", "allBallots", "()I"⟩ 0 := by decide +kernel
theorem md_541664 : md_ok ⟨"Ballothall", "needPlace", "(II)V"⟩ 2 := by decide +kernel
theorem md_545a0b : md_ok ⟨"BallothallModel$Sharing", "<init>", "(I[J[I[I)V"⟩ 4 := by decide +kernel
theorem md_54b855 : md_ok ⟨"Ballothall", "winner", "(I)I"⟩ 1 := by decide +kernel
theorem md_55febb : md_ok ⟨"BallothallModel", "poll", "()LBallothallModel$Poll;"⟩ 0 := by decide +kernel
theorem md_574ee6 : md_ok ⟨"BallothallModel", "ballots", "(I)I"⟩ 1 := by decide +kernel
theorem md_586a6d : md_ok ⟨"BallothallModel", "consensusAt", "(I)I"⟩ 1 := by decide +kernel
theorem md_5ab966 : md_ok ⟨"BallothallLaw", "strongestPath", "(LBallothall;II[J)I"⟩ 4 := by decide +kernel
theorem md_5c5515 : md_ok ⟨"BallothallLaw", "gain", "(LBallothall;I[J)I"⟩ 3 := by decide +kernel
theorem md_5ddc8e : md_ok ⟨"BallothallModel", "outputByte", "(I)I"⟩ 1 := by decide +kernel
theorem md_5dfead : md_ok ⟨"BallothallModel", "tries", "([[I[IIIJ)V"⟩ 5 := by decide +kernel
theorem md_60b07c : md_ok ⟨"BallothallLaw", "solidQuotas", "(LBallothall;I[J)I"⟩ 3 := by decide +kernel
theorem md_60bc9b : md_ok ⟨"Ballothall$Poll", "open", "(I)V"⟩ 1 := by decide +kernel
theorem md_61ba19 : md_ok ⟨"BallothallLaw", "districtsWon", "(LBallothall;II[J)I"⟩ 4 := by decide +kernel
theorem md_637b91 : md_ok ⟨"Ballothall", "beatsAll", "()I"⟩ 0 := by decide +kernel
theorem md_66d8ab : md_ok ⟨"BallothallLaw", "ordersTurned", "(LBallothall;I[J)I"⟩ 3 := by decide +kernel
theorem md_672278 : md_ok ⟨"BallothallModel$Poll", "byLot", "(I)I"⟩ 1 := by decide +kernel
theorem md_688361 : md_ok ⟨"BallothallLaw", "candidate", "(LBallothall;[J)I"⟩ 2 := by decide +kernel
theorem md_689494 : md_ok ⟨"Ballothall", "quota", "()I"⟩ 0 := by decide +kernel
theorem md_689e1a : md_ok ⟨"BallothallLaw", "districtEnd", "(LBallothall;II[J)I"⟩ 4 := by decide +kernel
theorem md_6a2154 : md_ok ⟨"BallothallLaw", "ward", "(LBallothall;III[J)I"⟩ 5 := by decide +kernel
theorem md_6cb26b : md_ok ⟨"Ballothall", "needIndex", "(II)V"⟩ 2 := by decide +kernel
theorem md_6d7e12 : md_ok ⟨"BallothallModel$State", "twin", "()LBallothallModel$State;"⟩ 0 := by decide +kernel
theorem md_6eeb02 : md_ok ⟨"BallothallLaw", "votesFor", "(LBallothall;II[J)I"⟩ 4 := by decide +kernel
theorem md_6f7cc1 : md_ok ⟨"Ballothall$Counting", "latest", "()LBallothall$Count;"⟩ 0 := by decide +kernel
theorem md_6fdd17 : md_ok ⟨"Ballothall", "seatsOf", "(I)I"⟩ 1 := by decide +kernel
theorem md_719505 : md_ok ⟨"BallothallModel", "swings", "(I)I"⟩ 1 := by decide +kernel
theorem md_7201b3 : md_ok ⟨"BallothallModel", "countOf", "(I)I"⟩ 1 := by decide +kernel
theorem md_728352 : md_ok ⟨"Ballothall$Wards", "<init>", "()V"⟩ 0 := by decide +kernel
theorem md_72d9bf : md_ok ⟨"Ballothall$Natural", "<init>", "()V"⟩ 0 := by decide +kernel
theorem md_762f31 : md_ok ⟨"BallothallModel", "kindAt", "(IIZ)I"⟩ 3 := by decide +kernel
theorem md_77b0f8 : md_ok ⟨"BallothallModel", "ends", "(ZI)Z"⟩ 2 := by decide +kernel
theorem md_79e02b : md_ok ⟨"BallothallModel", "errorsOfCount", "()I"⟩ 0 := by decide +kernel
theorem md_7a5f21 : md_ok ⟨"BallothallModel", "consensusDistance", "()J"⟩ 0 := by decide +kernel
theorem md_7a9470 : md_ok ⟨"BallothallModel", "writePile", "(II)I"⟩ 2 := by decide +kernel
theorem md_7af0bb : md_ok ⟨"Ballothall", "remember", "(III)V"⟩ 3 := by decide +kernel
theorem md_7c5b4a : md_ok ⟨"BallothallModel$Poll", "<init>", "([LBallothallModel$Kind;I[I)V"⟩ 3 := by decide +kernel
theorem md_7e6362 : md_ok ⟨"Ballothall", "setLot", "(ZII)I"⟩ 3 := by decide +kernel
theorem md_7edbe8 : md_ok ⟨"Ballothall", "ballots", "(I)I"⟩ 1 := by decide +kernel
theorem md_7ff226 : md_ok ⟨"BallothallLaw", "wasted", "(LBallothall;II[J)I"⟩ 4 := by decide +kernel
theorem md_813ec5 : md_ok ⟨"Ballothall$Division", "<init>", "()V"⟩ 0 := by decide +kernel
theorem md_813f1f : md_ok ⟨"BallothallModel", "isKind", "(I)Z"⟩ 1 := by decide +kernel
theorem md_816128 : md_ok ⟨"BallothallModel", "errorsOfSeats", "()I"⟩ 0 := by decide +kernel
theorem md_843631 : md_ok ⟨"Ballothall$Council", "append", "(I)I"⟩ 1 := by decide +kernel
theorem md_859f07 : md_ok ⟨"Ballothall", "spoiler", "(I)I"⟩ 1 := by decide +kernel
theorem md_85dc6a : md_ok ⟨"BallothallModel", "keeps", "()V"⟩ 0 := by decide +kernel
theorem md_866766 : md_ok ⟨"BallothallLaw", "seatsOf", "(LBallothall;I[J)I"⟩ 3 := by decide +kernel
theorem md_8882e3 : md_ok ⟨"Ballothall", "strongestPath", "(II)I"⟩ 2 := by decide +kernel
theorem md_8920f9 : md_ok ⟨"BallothallLaw", "seatShare", "(LBallothall;I[D)I"⟩ 3 := by decide +kernel
theorem md_895fca : md_ok ⟨"Ballothall", "candidate", "()I"⟩ 0 := by decide +kernel
theorem md_89ca26 : md_ok ⟨"BallothallModel", "noParty", "(II)Z"⟩ 2 := by decide +kernel
theorem md_8ab3bc : md_ok ⟨"Ballothall", "countErrors", "()I"⟩ 0 := by decide +kernel
theorem md_8c59c6 : md_ok ⟨"Ballothall", "ward", "(III)I"⟩ 3 := by decide +kernel
theorem md_92a1c6 : md_ok ⟨"Ballothall", "safeAfter", "()I"⟩ 0 := by decide +kernel
theorem md_9370dd : md_ok ⟨"BallothallModel", "strongestPath", "(II)I"⟩ 2 := by decide +kernel
theorem md_94944f : md_ok ⟨"BallothallModel", "isList", "(I)Z"⟩ 1 := by decide +kernel
theorem md_952981 : md_ok ⟨"BallothallLaw", "ally", "(LBallothall;II[J)I"⟩ 4 := by decide +kernel
theorem md_98d1bc : md_ok ⟨"Ballothall$Council", "<init>", "()V"⟩ 0 := by decide +kernel
theorem md_9b472a : md_ok ⟨"BallothallModel", "transferable", "(I)I"⟩ 1 := by decide +kernel
theorem md_9be7b3 : md_ok ⟨"Ballothall$BallotBox", "kindOfTrial", "()I"⟩ 0 := by decide +kernel
theorem md_9c3144 : md_ok ⟨"BallothallLaw", "seatAt", "(LBallothall;I[J)I"⟩ 3 := by decide +kernel
theorem md_9c79a6 : md_ok ⟨"BallothallModel", "electedAt", "(I)I"⟩ 1 := by decide +kernel
theorem md_9ca9ad : md_ok ⟨"BallothallModel", "setVotes", "(II)I"⟩ 2 := by decide +kernel
theorem md_9cd0b2 : md_ok ⟨"Ballothall$Council", "isOrderMissed", "()Z"⟩ 0 := by decide +kernel
theorem md_9e18c6 : md_ok ⟨"Ballothall", "districtsWon", "(II)I"⟩ 2 := by decide +kernel
theorem md_9eb116 : md_ok ⟨"Ballothall$Lists", "spread", "(III)I"⟩ 3 := by decide +kernel
theorem md_9f0e03 : md_ok ⟨"Ballothall$Division", "distribute", "(II)V"⟩ 2 := by decide +kernel
theorem md_a00789 : md_ok ⟨"Ballothall", "excludedAt", "(I)I"⟩ 1 := by decide +kernel
theorem md_a0f53c : md_ok ⟨"Ballothall", "districtEnd", "(II)I"⟩ 2 := by decide +kernel
theorem md_a32d0e : md_ok ⟨"BallothallModel", "everybody", "()I"⟩ 0 := by decide +kernel
theorem md_a55234 : md_ok ⟨"Ballothall$Lists", "keepSpread", "()V"⟩ 0 := by decide +kernel
theorem md_a57c43 : md_ok ⟨"BallothallModel$Poll", "runoff", "()I"⟩ 0 := by decide +kernel
theorem md_a5a18a : md_ok ⟨"Ballothall$FalseBallot", "<init>", "(LBallothall$BallotBox;LBallothall$Poll;)V"⟩ 2 := by decide +kernel
theorem md_a5c5f2 : md_ok ⟨"Ballothall$Poll", "findBeaten", "()V"⟩ 0 := by decide +kernel
theorem md_a679a1 : md_ok ⟨"BallothallModel", "lossAt", "(I)I"⟩ 1 := by decide +kernel
theorem md_a689da : md_ok ⟨"Ballothall$KeptSeats", "<init>", "()V"⟩ 0 := by decide +kernel
theorem md_a92b99 : md_ok ⟨"BallothallLaw", "gainAt", "(LBallothall;II[J)I"⟩ 4 := by decide +kernel
theorem md_aede32 : md_ok ⟨"Ballothall", "lossAt", "(I)I"⟩ 1 := by decide +kernel
theorem md_b0ab85 : md_ok ⟨"Ballothall", "consensusAt", "(I)I"⟩ 1 := by decide +kernel
theorem md_b0d5e1 : md_ok ⟨"BallothallLaw", "spoiler", "(LBallothall;I[J)I"⟩ 3 := by decide +kernel
theorem md_b21b9b : md_ok ⟨"Ballothall", "seatShare", "(I)F"⟩ 1 := by decide +kernel
theorem md_b3e665 : md_ok ⟨"BallothallModel", "gain", "(I)I"⟩ 1 := by decide +kernel
theorem md_b41941 : md_ok ⟨"Ballothall$FalseBallot", "findKind", "(I)I"⟩ 1 := by decide +kernel
theorem md_b59579 : md_ok ⟨"Ballothall$BallotBox", "everybody", "()I"⟩ 0 := by decide +kernel
theorem md_b5f468 : md_ok ⟨"Ballothall$Poll", "findPaths", "()V"⟩ 0 := by decide +kernel
theorem md_b67c3a : md_ok ⟨"Ballothall", "kindAt", "(IIZ)I"⟩ 3 := by decide +kernel
theorem md_b722a4 : md_ok ⟨"BallothallLaw", "member", "(LBallothall;I[J)I"⟩ 3 := by decide +kernel
theorem md_b749d4 : md_ok ⟨"Ballothall$Lists", "append", "(I)I"⟩ 1 := by decide +kernel
theorem md_b87e9f : md_ok ⟨"BallothallModel", "ahead", "(II)I"⟩ 2 := by decide +kernel
theorem md_b91f95 : md_ok ⟨"Ballothall$BallotBox", "keepTrial", "()I"⟩ 0 := by decide +kernel
theorem md_b9689e : md_ok ⟨"BallothallModel$Poll", "most", "(I)I"⟩ 1 := by decide +kernel
theorem md_ba1c1a : md_ok ⟨"BallothallModel", "greatestDistrict", "(I)I"⟩ 1 := by decide +kernel
theorem md_ba59c7 : md_ok ⟨"BallothallModel$Poll", "winner", "(I)I"⟩ 1 := by decide +kernel
theorem md_bc3f5d : md_ok ⟨"BallothallModel", "ordersTurned", "(I)J"⟩ 1 := by decide +kernel
theorem md_bc486d : md_ok ⟨"Ballothall$Council", "findSums", "()V"⟩ 0 := by decide +kernel
theorem md_bca45c : md_ok ⟨"BallothallModel", "isIn", "(III)Z"⟩ 3 := by decide +kernel
theorem md_bce641 : md_ok ⟨"Ballothall", "checksum", "()J"⟩ 0 := by decide +kernel
theorem md_bd0a5b : md_ok ⟨"BallothallModel", "quota", "()I"⟩ 0 := by decide +kernel
theorem md_be21d8 : md_ok ⟨"Ballothall$Poll", "smallestBeatingSet", "()I"⟩ 0 := by decide +kernel
theorem md_c0dc77 : md_ok ⟨"BallothallModel", "spoiler", "(I)I"⟩ 1 := by decide +kernel
theorem md_c1a91d : md_ok ⟨"Ballothall", "ahead", "(II)I"⟩ 2 := by decide +kernel
theorem md_c397b9 : md_ok ⟨"BallothallLaw", "setVotes", "(LBallothall;II[J)I"⟩ 4 := by decide +kernel
theorem md_c439e8 : md_ok ⟨"BallothallModel", "list", "(I)I"⟩ 1 := by decide +kernel
theorem md_c48e0f : md_ok ⟨"BallothallModel", "thrown", "()I"⟩ 0 := by decide +kernel
theorem md_c7d969 : md_ok ⟨"Ballothall", "list", "(I)I"⟩ 1 := by decide +kernel
theorem md_c93dd4 : md_ok ⟨"BallothallModel", "gainAt", "(II)I"⟩ 2 := by decide +kernel
theorem md_c94ff4 : md_ok ⟨"BallothallModel", "winnerWith", "(II)I"⟩ 2 := by decide +kernel
theorem md_c97f81 : md_ok ⟨"BallothallLaw", "kindAt", "(LBallothall;IIZ[J)I"⟩ 5 := by decide +kernel
theorem md_caa1ec : md_ok ⟨"Ballothall", "member", "(I)I"⟩ 1 := by decide +kernel
theorem md_cb0049 : md_ok ⟨"Ballothall$Lists", "latest", "()LBallothall$KeptSeats;"⟩ 0 := by decide +kernel
theorem md_ce4f47 : md_ok ⟨"Ballothall", "greatestDistrict", "(I)I"⟩ 1 := by decide +kernel
theorem md_cf0c6c : md_ok ⟨"Ballothall$BallotBox", "<init>", "()V"⟩ 0 := by decide +kernel
theorem md_cfa705 : md_ok ⟨"BallothallModel", "votesFor", "(II)I"⟩ 2 := by decide +kernel
theorem md_d05815 : md_ok ⟨"Ballothall", "takeBack", "(II)I"⟩ 2 := by decide +kernel
theorem md_d0d460 : md_ok ⟨"BallothallModel", "seats", "(III)I"⟩ 3 := by decide +kernel
theorem md_d10167 : md_ok ⟨"BallothallLaw", "winnerWith", "(LBallothall;II[J)I"⟩ 4 := by decide +kernel
theorem md_d1bd38 : md_ok ⟨"BallothallModel", "setQuota", "(I)I"⟩ 1 := by decide +kernel
theorem md_d21c8e : md_ok ⟨"Ballothall", "pathWinners", "()I"⟩ 0 := by decide +kernel
theorem md_d3d456 : md_ok ⟨"BallothallLaw", "ballots", "(LBallothall;I[J)I"⟩ 3 := by decide +kernel
theorem md_d51d3b : md_ok ⟨"Ballothall$Wards", "append", "(III)I"⟩ 3 := by decide +kernel
theorem md_d54b61 : md_ok ⟨"BallothallModel$Kind", "<init>", "([III)V"⟩ 3 := by decide +kernel
theorem md_d5ba24 : md_ok ⟨"BallothallModel", "districtEnd", "(II)I"⟩ 2 := by decide +kernel
theorem md_d65014 : md_ok ⟨"Ballothall", "errors", "()I"⟩ 0 := by decide +kernel
theorem md_d6598e : md_ok ⟨"BallothallLaw", "transferable", "(LBallothall;I[J)I"⟩ 3 := by decide +kernel
theorem md_d69168 : md_ok ⟨"BallothallModel", "seatShare", "(I)F"⟩ 1 := by decide +kernel
theorem md_d775df : md_ok ⟨"Ballothall$Poll", "change", "(II)V"⟩ 2 := by decide +kernel
theorem md_d77cf7 : md_ok ⟨"BallothallModel", "noDistricts", "(I)Z"⟩ 1 := by decide +kernel
theorem md_d7c82f : md_ok ⟨"Ballothall", "consensusDistance", "()J"⟩ 0 := by decide +kernel
theorem md_d94785 : md_ok ⟨"BallothallLaw", "writePile", "(LBallothall;II[J)I"⟩ 4 := by decide +kernel
theorem md_da1af9 : md_ok ⟨"Ballothall", "runoffOut", "(I)I"⟩ 1 := by decide +kernel
theorem md_da2edc : md_ok ⟨"BallothallModel", "consensus", "()V"⟩ 0 := by decide +kernel
theorem md_db4417 : md_ok ⟨"Ballothall", "electedAt", "(I)I"⟩ 1 := by decide +kernel
theorem md_dc78b4 : md_ok ⟨"Ballothall", "setQuota", "(I)I"⟩ 1 := by decide +kernel
theorem md_dc8747 : md_ok ⟨"Ballothall", "undo", "()I"⟩ 0 := by decide +kernel
theorem md_ddaee7 : md_ok ⟨"BallothallLaw", "setLot", "(LBallothall;ZII[J)I"⟩ 5 := by decide +kernel
theorem md_ddec8b : md_ok ⟨"Ballothall$BallotBox", "topOf", "(II)I"⟩ 2 := by decide +kernel
theorem md_df2c9d : md_ok ⟨"BallothallModel", "beatsAll", "()I"⟩ 0 := by decide +kernel
theorem md_e152f2 : md_ok ⟨"BallothallLaw", "seats", "(LBallothall;III[J)I"⟩ 5 := by decide +kernel
theorem md_e8f65d : md_ok ⟨"java/util/Arrays", "fill", "([II)V"⟩ 2 := by decide +kernel
theorem md_e93b3f : md_ok ⟨"BallothallModel$State", "<init>", "()V"⟩ 0 := by decide +kernel
theorem md_eac33d : md_ok ⟨"BallothallModel", "member", "(I)I"⟩ 1 := by decide +kernel
theorem md_eafe8c : md_ok ⟨"java/lang/Integer", "bitCount", "(I)I"⟩ 1 := by decide +kernel
theorem md_eb71e6 : md_ok ⟨"Ballothall", "votesFor", "(II)I"⟩ 2 := by decide +kernel
theorem md_eba095 : md_ok ⟨"BallothallModel", "districtsWon", "(II)I"⟩ 2 := by decide +kernel
theorem md_ebdc38 : md_ok ⟨"Ballothall$BallotBox", "ballotsOf", "([II)I"⟩ 2 := by decide +kernel
theorem md_ec3925 : md_ok ⟨"BallothallLaw", "runoffOut", "(LBallothall;I[J)I"⟩ 3 := by decide +kernel
theorem md_ec9fa9 : md_ok ⟨"Ballothall", "needRoom", "(II)V"⟩ 2 := by decide +kernel
theorem md_ed8a19 : md_ok ⟨"Ballothall", "transferable", "(I)I"⟩ 1 := by decide +kernel
theorem md_ef7173 : md_ok ⟨"BallothallModel", "ward", "(III)I"⟩ 3 := by decide +kernel
theorem md_ef9927 : md_ok ⟨"BallothallLaw", "lossAt", "(LBallothall;I[J)I"⟩ 3 := by decide +kernel
theorem md_f197f8 : md_ok ⟨"BallothallModel", "distributed", "([I[I[IIII)LBallothallModel$Seats;"⟩ 6 := by decide +kernel
theorem md_f31511 : md_ok ⟨"BallothallModel", "sum", "([LBallothallModel$Kind;)I"⟩ 1 := by decide +kernel
theorem md_f590f3 : md_ok ⟨"Ballothall$Counting", "<init>", "(LBallothall$BallotBox;)V"⟩ 1 := by decide +kernel
theorem md_f59513 : md_ok ⟨"BallothallModel", "steps", "()I"⟩ 0 := by decide +kernel
theorem md_f596d5 : md_ok ⟨"BallothallLaw", "consensusAt", "(LBallothall;I[J)I"⟩ 3 := by decide +kernel
theorem md_f7fa1b : md_ok ⟨"BallothallModel", "allBallots", "()I"⟩ 0 := by decide +kernel
theorem md_fa4169 : md_ok ⟨"BallothallModel", "undo", "()I"⟩ 0 := by decide +kernel
theorem md_fa578c : md_ok ⟨"Ballothall", "swings", "(I)I"⟩ 1 := by decide +kernel
theorem md_fa5ec4 : md_ok ⟨"Ballothall", "outputByte", "(I)I"⟩ 1 := by decide +kernel
theorem md_fa77f8 : md_ok ⟨"BallothallModel", "pathWinners", "()I"⟩ 0 := by decide +kernel
theorem md_fbc403 : md_ok ⟨"Ballothall", "seats", "(III)I"⟩ 3 := by decide +kernel
theorem md_fbcadc : md_ok ⟨"Ballothall", "gain", "(I)I"⟩ 1 := by decide +kernel
theorem md_fce7ac : md_ok ⟨"BallothallLaw", "ahead", "(LBallothall;II[J)I"⟩ 4 := by decide +kernel
theorem md_fd8608 : md_ok ⟨"BallothallModel$Poll", "pathWinners", "()I"⟩ 0 := by decide +kernel
theorem md_fe6893 : md_ok ⟨"BallothallModel", "distributed", "(III)LBallothallModel$Seats;"⟩ 3 := by decide +kernel
theorem md_ff2976 : md_ok ⟨"BallothallModel$Sharing", "share", "(II)V"⟩ 2 := by decide +kernel
theorem md_ff5596 : md_ok ⟨"BallothallModel$Kind", "with", "(I)LBallothallModel$Kind;"⟩ 1 := by decide +kernel
theorem w_min : Cond.code Lib.Math.min.name Lib.Math.min.code 2 (some .int) ∈ WG := wg_t (by decide +kernel) rfl
theorem w_max : Cond.code Lib.Math.max.name Lib.Math.max.code 2 (some .int) ∈ WG := wg_t (by decide +kernel) rfl
