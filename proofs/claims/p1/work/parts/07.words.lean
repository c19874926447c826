/-! words of the tables by their places, decode rows (printed by wip/p1/gen) -/
theorem w_1 : Cond.initialized "Ballothall" ∈ WG := wg_t (List.mem_of_getElem? (i := 1) (by decide +kernel)) rfl
theorem w_2 : Cond.initialized "Ballothall$BallotBox" ∈ WG := wg_t (List.mem_of_getElem? (i := 2) (by decide +kernel)) rfl
theorem w_3 : Cond.initialized "Ballothall$Poll" ∈ WG := wg_t (List.mem_of_getElem? (i := 3) (by decide +kernel)) rfl
theorem w_4 : Cond.initialized "Ballothall$FalseBallot" ∈ WG := wg_t (List.mem_of_getElem? (i := 4) (by decide +kernel)) rfl
theorem w_5 : Cond.initialized "Ballothall$Lists" ∈ WG := wg_t (List.mem_of_getElem? (i := 5) (by decide +kernel)) rfl
theorem w_6 : Cond.initialized "Ballothall$Division" ∈ WG := wg_t (List.mem_of_getElem? (i := 6) (by decide +kernel)) rfl
theorem w_7 : Cond.initialized "Ballothall$KeptSeats" ∈ WG := wg_t (List.mem_of_getElem? (i := 7) (by decide +kernel)) rfl
theorem w_8 : Cond.initialized "Ballothall$Counting" ∈ WG := wg_t (List.mem_of_getElem? (i := 8) (by decide +kernel)) rfl
theorem w_9 : Cond.initialized "Ballothall$Natural" ∈ WG := wg_t (List.mem_of_getElem? (i := 9) (by decide +kernel)) rfl
theorem w_10 : Cond.initialized "Ballothall$Wards" ∈ WG := wg_t (List.mem_of_getElem? (i := 10) (by decide +kernel)) rfl
theorem w_11 : Cond.initialized "Ballothall$Council" ∈ WG := wg_t (List.mem_of_getElem? (i := 11) (by decide +kernel)) rfl
theorem w_12 : Cond.initialized "BallothallModel" ∈ WG := wg_t (List.mem_of_getElem? (i := 12) (by decide +kernel)) rfl
theorem w_13 : Cond.initialized "BallothallModel$State" ∈ WG := wg_t (List.mem_of_getElem? (i := 13) (by decide +kernel)) rfl
theorem w_37 : Cond.classLink "BallothallLaw" 8 "Ballothall" ∈ WG := wg_t (List.mem_of_getElem? (i := 37) (by decide +kernel)) rfl
theorem w_38 : Cond.instantiable "Ballothall" 14 ∈ WG := wg_t (List.mem_of_getElem? (i := 38) (by decide +kernel)) rfl
theorem w_39 : Cond.methodLink "BallothallLaw" 150 ⟨"Ballothall", "<init>", "()V"⟩ ∈ WG := wg_t (List.mem_of_getElem? (i := 39) (by decide +kernel)) rfl
theorem w_40 : Cond.instanceMethod ⟨"Ballothall", "<init>", "()V"⟩ ∈ WG := wg_t (List.mem_of_getElem? (i := 40) (by decide +kernel)) rfl
theorem w_41 : Cond.code ⟨"Ballothall", "<init>", "()V"⟩ prog_1_method_1_code 1 none ∈ WG := wg_t (List.mem_of_getElem? (i := 41) (by decide +kernel)) rfl
theorem w_42 : Cond.methodLink "Ballothall" 3 ⟨"java/lang/Object", "<init>", "()V"⟩ ∈ WG := wg_t (List.mem_of_getElem? (i := 42) (by decide +kernel)) rfl
theorem w_43 : Cond.instanceMethod ⟨"java/lang/Object", "<init>", "()V"⟩ ∈ WG := wg_t (List.mem_of_getElem? (i := 43) (by decide +kernel)) rfl
theorem w_45 : Cond.classLink "Ballothall" 9 "Ballothall$BallotBox" ∈ WG := wg_t (List.mem_of_getElem? (i := 45) (by decide +kernel)) rfl
theorem w_46 : Cond.instantiable "Ballothall$BallotBox" 10 ∈ WG := wg_t (List.mem_of_getElem? (i := 46) (by decide +kernel)) rfl
theorem w_48 : Cond.instanceMethod ⟨"Ballothall$BallotBox", "<init>", "()V"⟩ ∈ WG := wg_t (List.mem_of_getElem? (i := 48) (by decide +kernel)) rfl
theorem w_49 : Cond.code ⟨"Ballothall$BallotBox", "<init>", "()V"⟩ prog_2_method_1_code 1 none ∈ WG := wg_t (List.mem_of_getElem? (i := 49) (by decide +kernel)) rfl
theorem w_50 : Cond.methodLink "Ballothall$BallotBox" 3 ⟨"java/lang/Object", "<init>", "()V"⟩ ∈ WG := wg_t (List.mem_of_getElem? (i := 50) (by decide +kernel)) rfl
theorem w_51 : Cond.classLink "Ballothall$BallotBox" 27 "[[I" ∈ WG := wg_t (List.mem_of_getElem? (i := 51) (by decide +kernel)) rfl
theorem w_53 : Cond.fieldLink "Ballothall$BallotBox" 9 "Ballothall$BallotBox" "sign" "[I" ∈ WG := wg_t (List.mem_of_getElem? (i := 53) (by decide +kernel)) rfl
theorem w_66 : Cond.fieldLink "Ballothall$BallotBox" 15 "Ballothall$BallotBox" "lot" "[I" ∈ WG := wg_t (List.mem_of_getElem? (i := 66) (by decide +kernel)) rfl
theorem w_68 : Cond.fieldLink "Ballothall$BallotBox" 18 "Ballothall$BallotBox" "count" "[I" ∈ WG := wg_t (List.mem_of_getElem? (i := 68) (by decide +kernel)) rfl
theorem w_73 : Cond.fieldLink "Ballothall$BallotBox" 21 "Ballothall$BallotBox" "approved" "[I" ∈ WG := wg_t (List.mem_of_getElem? (i := 73) (by decide +kernel)) rfl
theorem w_77 : Cond.fieldLink "Ballothall$BallotBox" 24 "Ballothall$BallotBox" "groups" "[I" ∈ WG := wg_t (List.mem_of_getElem? (i := 77) (by decide +kernel)) rfl
theorem w_79 : Cond.fieldLink "Ballothall$BallotBox" 29 "Ballothall$BallotBox" "group" "[[I" ∈ WG := wg_t (List.mem_of_getElem? (i := 79) (by decide +kernel)) rfl
theorem w_82 : Cond.fieldLink "Ballothall$BallotBox" 32 "Ballothall$BallotBox" "support" "[I" ∈ WG := wg_t (List.mem_of_getElem? (i := 82) (by decide +kernel)) rfl
theorem w_105 : Cond.arrayClass .int ∈ WG := wg_t (List.mem_of_getElem? (i := 105) (by decide +kernel)) rfl
theorem w_106 : Cond.classLink "Ballothall" 16 "Ballothall$Poll" ∈ WG := wg_t (List.mem_of_getElem? (i := 106) (by decide +kernel)) rfl
theorem w_107 : Cond.instantiable "Ballothall$Poll" 12 ∈ WG := wg_t (List.mem_of_getElem? (i := 107) (by decide +kernel)) rfl
theorem w_109 : Cond.instanceMethod ⟨"Ballothall$Poll", "<init>", "(LBallothall$BallotBox;)V"⟩ ∈ WG := wg_t (List.mem_of_getElem? (i := 109) (by decide +kernel)) rfl
theorem w_110 : Cond.code ⟨"Ballothall$Poll", "<init>", "(LBallothall$BallotBox;)V"⟩ prog_11_method_1_code 2 none ∈ WG := wg_t (List.mem_of_getElem? (i := 110) (by decide +kernel)) rfl
theorem w_111 : Cond.methodLink "Ballothall$Poll" 3 ⟨"java/lang/Object", "<init>", "()V"⟩ ∈ WG := wg_t (List.mem_of_getElem? (i := 111) (by decide +kernel)) rfl
theorem w_112 : Cond.fieldLink "Ballothall$Poll" 40 "Ballothall$Poll" "box" "LBallothall$BallotBox;" ∈ WG := wg_t (List.mem_of_getElem? (i := 112) (by decide +kernel)) rfl
theorem w_115 : Cond.fieldLink "Ballothall$Poll" 9 "Ballothall$Poll" "weight" "[I" ∈ WG := wg_t (List.mem_of_getElem? (i := 115) (by decide +kernel)) rfl
theorem w_116 : Cond.fieldLink "Ballothall$Poll" 15 "Ballothall$Poll" "firsts" "[I" ∈ WG := wg_t (List.mem_of_getElem? (i := 116) (by decide +kernel)) rfl
theorem w_117 : Cond.fieldLink "Ballothall$Poll" 18 "Ballothall$Poll" "approvals" "[I" ∈ WG := wg_t (List.mem_of_getElem? (i := 117) (by decide +kernel)) rfl
theorem w_118 : Cond.fieldLink "Ballothall$Poll" 21 "Ballothall$Poll" "pairs" "[I" ∈ WG := wg_t (List.mem_of_getElem? (i := 118) (by decide +kernel)) rfl
theorem w_119 : Cond.fieldLink "Ballothall$Poll" 24 "Ballothall$Poll" "beaten" "[I" ∈ WG := wg_t (List.mem_of_getElem? (i := 119) (by decide +kernel)) rfl
theorem w_120 : Cond.fieldLink "Ballothall$Poll" 27 "Ballothall$Poll" "paths" "[I" ∈ WG := wg_t (List.mem_of_getElem? (i := 120) (by decide +kernel)) rfl
theorem w_121 : Cond.fieldLink "Ballothall$Poll" 30 "Ballothall$Poll" "score" "[J" ∈ WG := wg_t (List.mem_of_getElem? (i := 121) (by decide +kernel)) rfl
theorem w_123 : Cond.fieldLink "Ballothall$Poll" 34 "Ballothall$Poll" "order" "[I" ∈ WG := wg_t (List.mem_of_getElem? (i := 123) (by decide +kernel)) rfl
theorem w_125 : Cond.fieldLink "Ballothall$Poll" 37 "Ballothall$Poll" "distance" "[J" ∈ WG := wg_t (List.mem_of_getElem? (i := 125) (by decide +kernel)) rfl
theorem w_152 : Cond.arrayClass .long ∈ WG := wg_t (List.mem_of_getElem? (i := 152) (by decide +kernel)) rfl
theorem w_153 : Cond.classLink "Ballothall" 25 "Ballothall$FalseBallot" ∈ WG := wg_t (List.mem_of_getElem? (i := 153) (by decide +kernel)) rfl
theorem w_154 : Cond.instantiable "Ballothall$FalseBallot" 3 ∈ WG := wg_t (List.mem_of_getElem? (i := 154) (by decide +kernel)) rfl
theorem w_156 : Cond.instanceMethod ⟨"Ballothall$FalseBallot", "<init>", "(LBallothall$BallotBox;LBallothall$Poll;)V"⟩ ∈ WG := wg_t (List.mem_of_getElem? (i := 156) (by decide +kernel)) rfl
theorem w_157 : Cond.code ⟨"Ballothall$FalseBallot", "<init>", "(LBallothall$BallotBox;LBallothall$Poll;)V"⟩ prog_7_method_1_code 3 none ∈ WG := wg_t (List.mem_of_getElem? (i := 157) (by decide +kernel)) rfl
theorem w_158 : Cond.methodLink "Ballothall$FalseBallot" 3 ⟨"java/lang/Object", "<init>", "()V"⟩ ∈ WG := wg_t (List.mem_of_getElem? (i := 158) (by decide +kernel)) rfl
theorem w_159 : Cond.fieldLink "Ballothall$FalseBallot" 15 "Ballothall$FalseBallot" "box" "LBallothall$BallotBox;" ∈ WG := wg_t (List.mem_of_getElem? (i := 159) (by decide +kernel)) rfl
theorem w_160 : Cond.fieldLink "Ballothall$FalseBallot" 19 "Ballothall$FalseBallot" "poll" "LBallothall$Poll;" ∈ WG := wg_t (List.mem_of_getElem? (i := 160) (by decide +kernel)) rfl
theorem w_161 : Cond.fieldLink "Ballothall$FalseBallot" 9 "Ballothall$FalseBallot" "order" "[I" ∈ WG := wg_t (List.mem_of_getElem? (i := 161) (by decide +kernel)) rfl
theorem w_170 : Cond.classLink "Ballothall" 34 "Ballothall$Lists" ∈ WG := wg_t (List.mem_of_getElem? (i := 170) (by decide +kernel)) rfl
theorem w_171 : Cond.instantiable "Ballothall$Lists" 11 ∈ WG := wg_t (List.mem_of_getElem? (i := 171) (by decide +kernel)) rfl
theorem w_173 : Cond.instanceMethod ⟨"Ballothall$Lists", "<init>", "()V"⟩ ∈ WG := wg_t (List.mem_of_getElem? (i := 173) (by decide +kernel)) rfl
theorem w_174 : Cond.code ⟨"Ballothall$Lists", "<init>", "()V"⟩ prog_9_method_1_code 2 none ∈ WG := wg_t (List.mem_of_getElem? (i := 174) (by decide +kernel)) rfl
theorem w_175 : Cond.methodLink "Ballothall$Lists" 3 ⟨"java/lang/Object", "<init>", "()V"⟩ ∈ WG := wg_t (List.mem_of_getElem? (i := 175) (by decide +kernel)) rfl
theorem w_176 : Cond.classLink "Ballothall$Lists" 21 "Ballothall$Division" ∈ WG := wg_t (List.mem_of_getElem? (i := 176) (by decide +kernel)) rfl
theorem w_177 : Cond.instantiable "Ballothall$Division" 8 ∈ WG := wg_t (List.mem_of_getElem? (i := 177) (by decide +kernel)) rfl
theorem w_179 : Cond.instanceMethod ⟨"Ballothall$Division", "<init>", "()V"⟩ ∈ WG := wg_t (List.mem_of_getElem? (i := 179) (by decide +kernel)) rfl
theorem w_180 : Cond.code ⟨"Ballothall$Division", "<init>", "()V"⟩ prog_6_method_1_code 1 none ∈ WG := wg_t (List.mem_of_getElem? (i := 180) (by decide +kernel)) rfl
theorem w_181 : Cond.methodLink "Ballothall$Division" 3 ⟨"java/lang/Object", "<init>", "()V"⟩ ∈ WG := wg_t (List.mem_of_getElem? (i := 181) (by decide +kernel)) rfl
theorem w_186 : Cond.fieldLink "Ballothall$Division" 9 "Ballothall$Division" "number" "[I" ∈ WG := wg_t (List.mem_of_getElem? (i := 186) (by decide +kernel)) rfl
theorem w_188 : Cond.fieldLink "Ballothall$Division" 15 "Ballothall$Division" "votes" "[J" ∈ WG := wg_t (List.mem_of_getElem? (i := 188) (by decide +kernel)) rfl
theorem w_189 : Cond.fieldLink "Ballothall$Division" 19 "Ballothall$Division" "lot" "[I" ∈ WG := wg_t (List.mem_of_getElem? (i := 189) (by decide +kernel)) rfl
theorem w_190 : Cond.fieldLink "Ballothall$Division" 22 "Ballothall$Division" "seats" "[I" ∈ WG := wg_t (List.mem_of_getElem? (i := 190) (by decide +kernel)) rfl
theorem w_192 : Cond.fieldLink "Ballothall$Division" 25 "Ballothall$Division" "remainder" "[J" ∈ WG := wg_t (List.mem_of_getElem? (i := 192) (by decide +kernel)) rfl
theorem w_193 : Cond.fieldLink "Ballothall$Division" 28 "Ballothall$Division" "order" "[I" ∈ WG := wg_t (List.mem_of_getElem? (i := 193) (by decide +kernel)) rfl
theorem w_212 : Cond.classLink "Ballothall$Lists" 37 "Ballothall$KeptSeats" ∈ WG := wg_t (List.mem_of_getElem? (i := 212) (by decide +kernel)) rfl
theorem w_214 : Cond.instantiable "Ballothall$KeptSeats" 7 ∈ WG := wg_t (List.mem_of_getElem? (i := 214) (by decide +kernel)) rfl
theorem w_216 : Cond.instanceMethod ⟨"Ballothall$KeptSeats", "<init>", "()V"⟩ ∈ WG := wg_t (List.mem_of_getElem? (i := 216) (by decide +kernel)) rfl
theorem w_217 : Cond.code ⟨"Ballothall$KeptSeats", "<init>", "()V"⟩ prog_8_method_1_code 1 none ∈ WG := wg_t (List.mem_of_getElem? (i := 217) (by decide +kernel)) rfl
theorem w_218 : Cond.methodLink "Ballothall$KeptSeats" 3 ⟨"java/lang/Object", "<init>", "()V"⟩ ∈ WG := wg_t (List.mem_of_getElem? (i := 218) (by decide +kernel)) rfl
theorem w_224 : Cond.fieldLink "Ballothall$KeptSeats" 9 "Ballothall$KeptSeats" "order" "[I" ∈ WG := wg_t (List.mem_of_getElem? (i := 224) (by decide +kernel)) rfl
theorem w_227 : Cond.fieldLink "Ballothall$KeptSeats" 15 "Ballothall$KeptSeats" "got" "[I" ∈ WG := wg_t (List.mem_of_getElem? (i := 227) (by decide +kernel)) rfl
theorem w_230 : Cond.fieldLink "Ballothall$KeptSeats" 18 "Ballothall$KeptSeats" "votes" "[I" ∈ WG := wg_t (List.mem_of_getElem? (i := 230) (by decide +kernel)) rfl
theorem w_232 : Cond.fieldLink "Ballothall$KeptSeats" 21 "Ballothall$KeptSeats" "alliance" "[I" ∈ WG := wg_t (List.mem_of_getElem? (i := 232) (by decide +kernel)) rfl
theorem w_251 : Cond.fieldLink "Ballothall$Lists" 9 "Ballothall$Lists" "votes" "[I" ∈ WG := wg_t (List.mem_of_getElem? (i := 251) (by decide +kernel)) rfl
theorem w_253 : Cond.fieldLink "Ballothall$Lists" 15 "Ballothall$Lists" "alliance" "[I" ∈ WG := wg_t (List.mem_of_getElem? (i := 253) (by decide +kernel)) rfl
theorem w_255 : Cond.fieldLink "Ballothall$Lists" 18 "Ballothall$Lists" "lot" "[I" ∈ WG := wg_t (List.mem_of_getElem? (i := 255) (by decide +kernel)) rfl
theorem w_257 : Cond.fieldLink "Ballothall$Lists" 24 "Ballothall$Lists" "units" "LBallothall$Division;" ∈ WG := wg_t (List.mem_of_getElem? (i := 257) (by decide +kernel)) rfl
theorem w_258 : Cond.fieldLink "Ballothall$Lists" 28 "Ballothall$Lists" "inside" "LBallothall$Division;" ∈ WG := wg_t (List.mem_of_getElem? (i := 258) (by decide +kernel)) rfl
theorem w_260 : Cond.fieldLink "Ballothall$Lists" 31 "Ballothall$Lists" "got" "[I" ∈ WG := wg_t (List.mem_of_getElem? (i := 260) (by decide +kernel)) rfl
theorem w_261 : Cond.fieldLink "Ballothall$Lists" 34 "Ballothall$Lists" "gotBefore" "[I" ∈ WG := wg_t (List.mem_of_getElem? (i := 261) (by decide +kernel)) rfl
theorem w_262 : Cond.fieldLink "Ballothall$Lists" 39 "Ballothall$Lists" "kept" "[LBallothall$KeptSeats;" ∈ WG := wg_t (List.mem_of_getElem? (i := 262) (by decide +kernel)) rfl
theorem w_287 : Cond.classLink "Ballothall" 41 "Ballothall$Counting" ∈ WG := wg_t (List.mem_of_getElem? (i := 287) (by decide +kernel)) rfl
theorem w_288 : Cond.instantiable "Ballothall$Counting" 15 ∈ WG := wg_t (List.mem_of_getElem? (i := 288) (by decide +kernel)) rfl
theorem w_290 : Cond.instanceMethod ⟨"Ballothall$Counting", "<init>", "(LBallothall$BallotBox;)V"⟩ ∈ WG := wg_t (List.mem_of_getElem? (i := 290) (by decide +kernel)) rfl
theorem w_291 : Cond.code ⟨"Ballothall$Counting", "<init>", "(LBallothall$BallotBox;)V"⟩ prog_5_method_1_code 3 none ∈ WG := wg_t (List.mem_of_getElem? (i := 291) (by decide +kernel)) rfl
theorem w_292 : Cond.methodLink "Ballothall$Counting" 3 ⟨"java/lang/Object", "<init>", "()V"⟩ ∈ WG := wg_t (List.mem_of_getElem? (i := 292) (by decide +kernel)) rfl
theorem w_293 : Cond.classLink "Ballothall$Counting" 9 "Ballothall$Count" ∈ WG := wg_t (List.mem_of_getElem? (i := 293) (by decide +kernel)) rfl
theorem w_295 : Cond.classLink "Ballothall$Counting" 17 "Ballothall$Natural" ∈ WG := wg_t (List.mem_of_getElem? (i := 295) (by decide +kernel)) rfl
theorem w_297 : Cond.instantiable "Ballothall$Natural" 2 ∈ WG := wg_t (List.mem_of_getElem? (i := 297) (by decide +kernel)) rfl
theorem w_299 : Cond.instanceMethod ⟨"Ballothall$Natural", "<init>", "()V"⟩ ∈ WG := wg_t (List.mem_of_getElem? (i := 299) (by decide +kernel)) rfl
theorem w_300 : Cond.code ⟨"Ballothall$Natural", "<init>", "()V"⟩ prog_10_method_1_code 1 none ∈ WG := wg_t (List.mem_of_getElem? (i := 300) (by decide +kernel)) rfl
theorem w_301 : Cond.methodLink "Ballothall$Natural" 3 ⟨"java/lang/Object", "<init>", "()V"⟩ ∈ WG := wg_t (List.mem_of_getElem? (i := 301) (by decide +kernel)) rfl
theorem w_302 : Cond.fieldLink "Ballothall$Natural" 9 "Ballothall$Natural" "limb" "[I" ∈ WG := wg_t (List.mem_of_getElem? (i := 302) (by decide +kernel)) rfl
theorem w_311 : Cond.fieldLink "Ballothall$Counting" 55 "Ballothall$Counting" "box" "LBallothall$BallotBox;" ∈ WG := wg_t (List.mem_of_getElem? (i := 311) (by decide +kernel)) rfl
theorem w_312 : Cond.fieldLink "Ballothall$Counting" 11 "Ballothall$Counting" "kept" "[LBallothall$Count;" ∈ WG := wg_t (List.mem_of_getElem? (i := 312) (by decide +kernel)) rfl
theorem w_315 : Cond.fieldLink "Ballothall$Counting" 19 "Ballothall$Counting" "weight" "[LBallothall$Natural;" ∈ WG := wg_t (List.mem_of_getElem? (i := 315) (by decide +kernel)) rfl
theorem w_316 : Cond.fieldLink "Ballothall$Counting" 23 "Ballothall$Counting" "pile" "[LBallothall$Natural;" ∈ WG := wg_t (List.mem_of_getElem? (i := 316) (by decide +kernel)) rfl
theorem w_317 : Cond.fieldLink "Ballothall$Counting" 27 "Ballothall$Counting" "common" "LBallothall$Natural;" ∈ WG := wg_t (List.mem_of_getElem? (i := 317) (by decide +kernel)) rfl
theorem w_318 : Cond.fieldLink "Ballothall$Counting" 31 "Ballothall$Counting" "amount" "LBallothall$Natural;" ∈ WG := wg_t (List.mem_of_getElem? (i := 318) (by decide +kernel)) rfl
theorem w_319 : Cond.fieldLink "Ballothall$Counting" 34 "Ballothall$Counting" "held" "LBallothall$Natural;" ∈ WG := wg_t (List.mem_of_getElem? (i := 319) (by decide +kernel)) rfl
theorem w_320 : Cond.fieldLink "Ballothall$Counting" 37 "Ballothall$Counting" "numerator" "LBallothall$Natural;" ∈ WG := wg_t (List.mem_of_getElem? (i := 320) (by decide +kernel)) rfl
theorem w_322 : Cond.fieldLink "Ballothall$Counting" 40 "Ballothall$Counting" "denominator" "LBallothall$Natural;" ∈ WG := wg_t (List.mem_of_getElem? (i := 322) (by decide +kernel)) rfl
theorem w_324 : Cond.fieldLink "Ballothall$Counting" 43 "Ballothall$Counting" "greater" "LBallothall$Natural;" ∈ WG := wg_t (List.mem_of_getElem? (i := 324) (by decide +kernel)) rfl
theorem w_325 : Cond.fieldLink "Ballothall$Counting" 46 "Ballothall$Counting" "smaller" "LBallothall$Natural;" ∈ WG := wg_t (List.mem_of_getElem? (i := 325) (by decide +kernel)) rfl
theorem w_326 : Cond.fieldLink "Ballothall$Counting" 49 "Ballothall$Counting" "quotient" "LBallothall$Natural;" ∈ WG := wg_t (List.mem_of_getElem? (i := 326) (by decide +kernel)) rfl
theorem w_327 : Cond.fieldLink "Ballothall$Counting" 52 "Ballothall$Counting" "scratch" "LBallothall$Natural;" ∈ WG := wg_t (List.mem_of_getElem? (i := 327) (by decide +kernel)) rfl
theorem w_359 : Cond.classLink "Ballothall" 48 "Ballothall$Wards" ∈ WG := wg_t (List.mem_of_getElem? (i := 359) (by decide +kernel)) rfl
theorem w_360 : Cond.instantiable "Ballothall$Wards" 5 ∈ WG := wg_t (List.mem_of_getElem? (i := 360) (by decide +kernel)) rfl
theorem w_362 : Cond.instanceMethod ⟨"Ballothall$Wards", "<init>", "()V"⟩ ∈ WG := wg_t (List.mem_of_getElem? (i := 362) (by decide +kernel)) rfl
theorem w_363 : Cond.code ⟨"Ballothall$Wards", "<init>", "()V"⟩ prog_12_method_1_code 1 none ∈ WG := wg_t (List.mem_of_getElem? (i := 363) (by decide +kernel)) rfl
theorem w_364 : Cond.methodLink "Ballothall$Wards" 3 ⟨"java/lang/Object", "<init>", "()V"⟩ ∈ WG := wg_t (List.mem_of_getElem? (i := 364) (by decide +kernel)) rfl
theorem w_365 : Cond.classLink "Ballothall$Wards" 15 "[[I" ∈ WG := wg_t (List.mem_of_getElem? (i := 365) (by decide +kernel)) rfl
theorem w_368 : Cond.fieldLink "Ballothall$Wards" 9 "Ballothall$Wards" "heads" "[I" ∈ WG := wg_t (List.mem_of_getElem? (i := 368) (by decide +kernel)) rfl
theorem w_369 : Cond.fieldLink "Ballothall$Wards" 17 "Ballothall$Wards" "votes" "[[I" ∈ WG := wg_t (List.mem_of_getElem? (i := 369) (by decide +kernel)) rfl
theorem w_370 : Cond.fieldLink "Ballothall$Wards" 20 "Ballothall$Wards" "greatest" "[[I" ∈ WG := wg_t (List.mem_of_getElem? (i := 370) (by decide +kernel)) rfl
theorem w_371 : Cond.fieldLink "Ballothall$Wards" 23 "Ballothall$Wards" "end" "[I" ∈ WG := wg_t (List.mem_of_getElem? (i := 371) (by decide +kernel)) rfl
theorem w_384 : Cond.classLink "Ballothall" 55 "Ballothall$Council" ∈ WG := wg_t (List.mem_of_getElem? (i := 384) (by decide +kernel)) rfl
theorem w_385 : Cond.instantiable "Ballothall$Council" 4 ∈ WG := wg_t (List.mem_of_getElem? (i := 385) (by decide +kernel)) rfl
theorem w_387 : Cond.instanceMethod ⟨"Ballothall$Council", "<init>", "()V"⟩ ∈ WG := wg_t (List.mem_of_getElem? (i := 387) (by decide +kernel)) rfl
theorem w_388 : Cond.code ⟨"Ballothall$Council", "<init>", "()V"⟩ prog_3_method_1_code 1 none ∈ WG := wg_t (List.mem_of_getElem? (i := 388) (by decide +kernel)) rfl
theorem w_389 : Cond.methodLink "Ballothall$Council" 3 ⟨"java/lang/Object", "<init>", "()V"⟩ ∈ WG := wg_t (List.mem_of_getElem? (i := 389) (by decide +kernel)) rfl
theorem w_392 : Cond.fieldLink "Ballothall$Council" 9 "Ballothall$Council" "quota" "I" ∈ WG := wg_t (List.mem_of_getElem? (i := 392) (by decide +kernel)) rfl
theorem w_394 : Cond.fieldLink "Ballothall$Council" 15 "Ballothall$Council" "weight" "[I" ∈ WG := wg_t (List.mem_of_getElem? (i := 394) (by decide +kernel)) rfl
theorem w_396 : Cond.fieldLink "Ballothall$Council" 19 "Ballothall$Council" "sum" "[I" ∈ WG := wg_t (List.mem_of_getElem? (i := 396) (by decide +kernel)) rfl
theorem w_406 : Cond.fieldLink "Ballothall" 12 "Ballothall" "box" "LBallothall$BallotBox;" ∈ WG := wg_t (List.mem_of_getElem? (i := 406) (by decide +kernel)) rfl
theorem w_407 : Cond.fieldLink "Ballothall" 21 "Ballothall" "poll" "LBallothall$Poll;" ∈ WG := wg_t (List.mem_of_getElem? (i := 407) (by decide +kernel)) rfl
theorem w_408 : Cond.fieldLink "Ballothall" 30 "Ballothall" "falseBallot" "LBallothall$FalseBallot;" ∈ WG := wg_t (List.mem_of_getElem? (i := 408) (by decide +kernel)) rfl
theorem w_409 : Cond.fieldLink "Ballothall" 37 "Ballothall" "lists" "LBallothall$Lists;" ∈ WG := wg_t (List.mem_of_getElem? (i := 409) (by decide +kernel)) rfl
theorem w_410 : Cond.fieldLink "Ballothall" 44 "Ballothall" "counting" "LBallothall$Counting;" ∈ WG := wg_t (List.mem_of_getElem? (i := 410) (by decide +kernel)) rfl
theorem w_411 : Cond.fieldLink "Ballothall" 51 "Ballothall" "wards" "LBallothall$Wards;" ∈ WG := wg_t (List.mem_of_getElem? (i := 411) (by decide +kernel)) rfl
theorem w_412 : Cond.fieldLink "Ballothall" 58 "Ballothall" "council" "LBallothall$Council;" ∈ WG := wg_t (List.mem_of_getElem? (i := 412) (by decide +kernel)) rfl
theorem w_413 : Cond.fieldLink "Ballothall" 62 "Ballothall" "changeWhat" "[I" ∈ WG := wg_t (List.mem_of_getElem? (i := 413) (by decide +kernel)) rfl
theorem w_414 : Cond.fieldLink "Ballothall" 66 "Ballothall" "changeWhere" "[I" ∈ WG := wg_t (List.mem_of_getElem? (i := 414) (by decide +kernel)) rfl
theorem w_415 : Cond.fieldLink "Ballothall" 69 "Ballothall" "changeBefore" "[I" ∈ WG := wg_t (List.mem_of_getElem? (i := 415) (by decide +kernel)) rfl
theorem w_418 : Cond.fieldLink "Ballothall" 72 "Ballothall" "output" "[I" ∈ WG := wg_t (List.mem_of_getElem? (i := 418) (by decide +kernel)) rfl
theorem w_1565 : Cond.classLink "BallothallLaw" 151 "BallothallModel" ∈ WG := wg_t (List.mem_of_getElem? (i := 1565) (by decide +kernel)) rfl
theorem w_1566 : Cond.instantiable "BallothallModel" 13 ∈ WG := wg_t (List.mem_of_getElem? (i := 1566) (by decide +kernel)) rfl
theorem w_1567 : Cond.methodLink "BallothallLaw" 153 ⟨"BallothallModel", "<init>", "()V"⟩ ∈ WG := wg_t (List.mem_of_getElem? (i := 1567) (by decide +kernel)) rfl
theorem w_1568 : Cond.instanceMethod ⟨"BallothallModel", "<init>", "()V"⟩ ∈ WG := wg_t (List.mem_of_getElem? (i := 1568) (by decide +kernel)) rfl
theorem w_1569 : Cond.code ⟨"BallothallModel", "<init>", "()V"⟩ prog_14_method_16_code 1 none ∈ WG := wg_t (List.mem_of_getElem? (i := 1569) (by decide +kernel)) rfl
theorem w_1570 : Cond.methodLink "BallothallModel" 92 ⟨"java/lang/Object", "<init>", "()V"⟩ ∈ WG := wg_t (List.mem_of_getElem? (i := 1570) (by decide +kernel)) rfl
theorem w_1571 : Cond.classLink "BallothallModel" 97 "BallothallModel$State" ∈ WG := wg_t (List.mem_of_getElem? (i := 1571) (by decide +kernel)) rfl
theorem w_1572 : Cond.instantiable "BallothallModel$State" 16 ∈ WG := wg_t (List.mem_of_getElem? (i := 1572) (by decide +kernel)) rfl
theorem w_1574 : Cond.instanceMethod ⟨"BallothallModel$State", "<init>", "()V"⟩ ∈ WG := wg_t (List.mem_of_getElem? (i := 1574) (by decide +kernel)) rfl
theorem w_1575 : Cond.code ⟨"BallothallModel$State", "<init>", "()V"⟩ prog_20_method_1_code 1 none ∈ WG := wg_t (List.mem_of_getElem? (i := 1575) (by decide +kernel)) rfl
theorem w_1576 : Cond.methodLink "BallothallModel$State" 3 ⟨"java/lang/Object", "<init>", "()V"⟩ ∈ WG := wg_t (List.mem_of_getElem? (i := 1576) (by decide +kernel)) rfl
theorem w_1577 : Cond.classLink "BallothallModel$State" 15 "BallothallModel$Kind" ∈ WG := wg_t (List.mem_of_getElem? (i := 1577) (by decide +kernel)) rfl
theorem w_1581 : Cond.fieldLink "BallothallModel$State" 9 "BallothallModel$State" "lots" "[I" ∈ WG := wg_t (List.mem_of_getElem? (i := 1581) (by decide +kernel)) rfl
theorem w_1583 : Cond.fieldLink "BallothallModel$State" 17 "BallothallModel$State" "kinds" "[LBallothallModel$Kind;" ∈ WG := wg_t (List.mem_of_getElem? (i := 1583) (by decide +kernel)) rfl
theorem w_1587 : Cond.fieldLink "BallothallModel$State" 21 "BallothallModel$State" "votes" "[I" ∈ WG := wg_t (List.mem_of_getElem? (i := 1587) (by decide +kernel)) rfl
theorem w_1589 : Cond.fieldLink "BallothallModel$State" 24 "BallothallModel$State" "alliances" "[I" ∈ WG := wg_t (List.mem_of_getElem? (i := 1589) (by decide +kernel)) rfl
theorem w_1591 : Cond.fieldLink "BallothallModel$State" 27 "BallothallModel$State" "listLots" "[I" ∈ WG := wg_t (List.mem_of_getElem? (i := 1591) (by decide +kernel)) rfl
theorem w_1599 : Cond.fieldLink "BallothallModel$State" 30 "BallothallModel$State" "heads" "[I" ∈ WG := wg_t (List.mem_of_getElem? (i := 1599) (by decide +kernel)) rfl
theorem w_1601 : Cond.fieldLink "BallothallModel$State" 33 "BallothallModel$State" "votesA" "[I" ∈ WG := wg_t (List.mem_of_getElem? (i := 1601) (by decide +kernel)) rfl
theorem w_1603 : Cond.fieldLink "BallothallModel$State" 36 "BallothallModel$State" "votesB" "[I" ∈ WG := wg_t (List.mem_of_getElem? (i := 1603) (by decide +kernel)) rfl
theorem w_1607 : Cond.fieldLink "BallothallModel$State" 39 "BallothallModel$State" "weights" "[I" ∈ WG := wg_t (List.mem_of_getElem? (i := 1607) (by decide +kernel)) rfl
theorem w_1609 : Cond.fieldLink "BallothallModel$State" 42 "BallothallModel$State" "quota" "I" ∈ WG := wg_t (List.mem_of_getElem? (i := 1609) (by decide +kernel)) rfl
theorem w_1645 : Cond.fieldLink "BallothallModel" 100 "BallothallModel" "now" "LBallothallModel$State;" ∈ WG := wg_t (List.mem_of_getElem? (i := 1645) (by decide +kernel)) rfl
theorem w_1646 : Cond.fieldLink "BallothallModel" 104 "BallothallModel" "past" "[LBallothallModel$State;" ∈ WG := wg_t (List.mem_of_getElem? (i := 1646) (by decide +kernel)) rfl
theorem w_1648 : Cond.fieldLink "BallothallModel" 108 "BallothallModel" "text" "[I" ∈ WG := wg_t (List.mem_of_getElem? (i := 1648) (by decide +kernel)) rfl
theorem w_1650 : Cond.fieldLink "BallothallModel" 111 "BallothallModel" "output" "[I" ∈ WG := wg_t (List.mem_of_getElem? (i := 1650) (by decide +kernel)) rfl
theorem w_2533 : Cond.arrayClass .double ∈ WG := wg_t (List.mem_of_getElem? (i := 2533) (by decide +kernel)) rfl
theorem n_47 : Cond.methodLinkNest "Ballothall" 11 ⟨"Ballothall$BallotBox", "<init>", "()V"⟩ "Ballothall" ∈ lw_tbl := List.mem_append_right _ (List.mem_of_getElem? (i := 47) (by decide +kernel))
theorem n_108 : Cond.methodLinkNest "Ballothall" 18 ⟨"Ballothall$Poll", "<init>", "(LBallothall$BallotBox;)V"⟩ "Ballothall" ∈ lw_tbl := List.mem_append_right _ (List.mem_of_getElem? (i := 108) (by decide +kernel))
theorem n_155 : Cond.methodLinkNest "Ballothall" 27 ⟨"Ballothall$FalseBallot", "<init>", "(LBallothall$BallotBox;LBallothall$Poll;)V"⟩ "Ballothall" ∈ lw_tbl := List.mem_append_right _ (List.mem_of_getElem? (i := 155) (by decide +kernel))
theorem n_172 : Cond.methodLinkNest "Ballothall" 36 ⟨"Ballothall$Lists", "<init>", "()V"⟩ "Ballothall" ∈ lw_tbl := List.mem_append_right _ (List.mem_of_getElem? (i := 172) (by decide +kernel))
theorem n_178 : Cond.methodLinkNest "Ballothall$Lists" 23 ⟨"Ballothall$Division", "<init>", "()V"⟩ "Ballothall" ∈ lw_tbl := List.mem_append_right _ (List.mem_of_getElem? (i := 178) (by decide +kernel))
theorem n_215 : Cond.methodLinkNest "Ballothall$Lists" 43 ⟨"Ballothall$KeptSeats", "<init>", "()V"⟩ "Ballothall" ∈ lw_tbl := List.mem_append_right _ (List.mem_of_getElem? (i := 215) (by decide +kernel))
theorem n_289 : Cond.methodLinkNest "Ballothall" 43 ⟨"Ballothall$Counting", "<init>", "(LBallothall$BallotBox;)V"⟩ "Ballothall" ∈ lw_tbl := List.mem_append_right _ (List.mem_of_getElem? (i := 289) (by decide +kernel))
theorem n_298 : Cond.methodLinkNest "Ballothall$Counting" 26 ⟨"Ballothall$Natural", "<init>", "()V"⟩ "Ballothall" ∈ lw_tbl := List.mem_append_right _ (List.mem_of_getElem? (i := 298) (by decide +kernel))
theorem n_361 : Cond.methodLinkNest "Ballothall" 50 ⟨"Ballothall$Wards", "<init>", "()V"⟩ "Ballothall" ∈ lw_tbl := List.mem_append_right _ (List.mem_of_getElem? (i := 361) (by decide +kernel))
theorem n_386 : Cond.methodLinkNest "Ballothall" 57 ⟨"Ballothall$Council", "<init>", "()V"⟩ "Ballothall" ∈ lw_tbl := List.mem_append_right _ (List.mem_of_getElem? (i := 386) (by decide +kernel))
theorem n_1573 : Cond.methodLinkNest "BallothallModel" 99 ⟨"BallothallModel$State", "<init>", "()V"⟩ "BallothallModel" ∈ lw_tbl := List.mem_append_right _ (List.mem_of_getElem? (i := 1573) (by decide +kernel))
theorem md_1045bf : md_ok ⟨"Ballothall$Lists", "<init>", "()V"⟩ 0 := by decide +kernel
theorem md_22f6df : md_ok ⟨"Ballothall", "<init>", "()V"⟩ 0 := by decide +kernel
theorem md_474531 : md_ok ⟨"BallothallModel", "<init>", "()V"⟩ 0 := by decide +kernel
theorem md_524278 : md_ok ⟨"Ballothall$Poll", "<init>", "(LBallothall$BallotBox;)V"⟩ 1 := by decide +kernel
theorem md_728352 : md_ok ⟨"Ballothall$Wards", "<init>", "()V"⟩ 0 := by decide +kernel
theorem md_72d9bf : md_ok ⟨"Ballothall$Natural", "<init>", "()V"⟩ 0 := by decide +kernel
theorem md_813ec5 : md_ok ⟨"Ballothall$Division", "<init>", "()V"⟩ 0 := by decide +kernel
theorem md_98d1bc : md_ok ⟨"Ballothall$Council", "<init>", "()V"⟩ 0 := by decide +kernel
theorem md_a5a18a : md_ok ⟨"Ballothall$FalseBallot", "<init>", "(LBallothall$BallotBox;LBallothall$Poll;)V"⟩ 2 := by decide +kernel
theorem md_a689da : md_ok ⟨"Ballothall$KeptSeats", "<init>", "()V"⟩ 0 := by decide +kernel
theorem md_cf0c6c : md_ok ⟨"Ballothall$BallotBox", "<init>", "()V"⟩ 0 := by decide +kernel
theorem md_e93b3f : md_ok ⟨"BallothallModel$State", "<init>", "()V"⟩ 0 := by decide +kernel
theorem md_f590f3 : md_ok ⟨"Ballothall$Counting", "<init>", "(LBallothall$BallotBox;)V"⟩ 1 := by decide +kernel
theorem d_10_1_0 : decode prog_10_method_1_code 0 = .ok (.aload_n 0, 1) := by decide +kernel
theorem d_10_1_1 : decode prog_10_method_1_code 1 = .ok (.invokespecial 3, 3) := by decide +kernel
theorem d_10_1_12 : decode prog_10_method_1_code 12 = .ok (.return_, 1) := by decide +kernel
theorem d_10_1_4 : decode prog_10_method_1_code 4 = .ok (.aload_n 0, 1) := by decide +kernel
theorem d_10_1_5 : decode prog_10_method_1_code 5 = .ok (.bipush 13, 2) := by decide +kernel
theorem d_10_1_7 : decode prog_10_method_1_code 7 = .ok (.newarray .int, 2) := by decide +kernel
theorem d_10_1_9 : decode prog_10_method_1_code 9 = .ok (.putfield 9, 3) := by decide +kernel
theorem d_11_1_0 : decode prog_11_method_1_code 0 = .ok (.aload_n 0, 1) := by decide +kernel
theorem d_11_1_1 : decode prog_11_method_1_code 1 = .ok (.invokespecial 3, 3) := by decide +kernel
theorem d_11_1_12 : decode prog_11_method_1_code 12 = .ok (.aload_n 0, 1) := by decide +kernel
theorem d_11_1_13 : decode prog_11_method_1_code 13 = .ok (.bipush 8, 2) := by decide +kernel
theorem d_11_1_15 : decode prog_11_method_1_code 15 = .ok (.newarray .int, 2) := by decide +kernel
theorem d_11_1_17 : decode prog_11_method_1_code 17 = .ok (.putfield 15, 3) := by decide +kernel
theorem d_11_1_20 : decode prog_11_method_1_code 20 = .ok (.aload_n 0, 1) := by decide +kernel
theorem d_11_1_21 : decode prog_11_method_1_code 21 = .ok (.bipush 8, 2) := by decide +kernel
theorem d_11_1_23 : decode prog_11_method_1_code 23 = .ok (.newarray .int, 2) := by decide +kernel
theorem d_11_1_25 : decode prog_11_method_1_code 25 = .ok (.putfield 18, 3) := by decide +kernel
theorem d_11_1_28 : decode prog_11_method_1_code 28 = .ok (.aload_n 0, 1) := by decide +kernel
theorem d_11_1_29 : decode prog_11_method_1_code 29 = .ok (.bipush 64, 2) := by decide +kernel
theorem d_11_1_31 : decode prog_11_method_1_code 31 = .ok (.newarray .int, 2) := by decide +kernel
theorem d_11_1_33 : decode prog_11_method_1_code 33 = .ok (.putfield 21, 3) := by decide +kernel
theorem d_11_1_36 : decode prog_11_method_1_code 36 = .ok (.aload_n 0, 1) := by decide +kernel
theorem d_11_1_37 : decode prog_11_method_1_code 37 = .ok (.bipush 8, 2) := by decide +kernel
theorem d_11_1_39 : decode prog_11_method_1_code 39 = .ok (.newarray .int, 2) := by decide +kernel
theorem d_11_1_4 : decode prog_11_method_1_code 4 = .ok (.aload_n 0, 1) := by decide +kernel
theorem d_11_1_41 : decode prog_11_method_1_code 41 = .ok (.putfield 24, 3) := by decide +kernel
theorem d_11_1_44 : decode prog_11_method_1_code 44 = .ok (.aload_n 0, 1) := by decide +kernel
theorem d_11_1_45 : decode prog_11_method_1_code 45 = .ok (.bipush 64, 2) := by decide +kernel
theorem d_11_1_47 : decode prog_11_method_1_code 47 = .ok (.newarray .int, 2) := by decide +kernel
theorem d_11_1_49 : decode prog_11_method_1_code 49 = .ok (.putfield 27, 3) := by decide +kernel
theorem d_11_1_5 : decode prog_11_method_1_code 5 = .ok (.bipush 31, 2) := by decide +kernel
theorem d_11_1_52 : decode prog_11_method_1_code 52 = .ok (.aload_n 0, 1) := by decide +kernel
theorem d_11_1_53 : decode prog_11_method_1_code 53 = .ok (.bipush 8, 2) := by decide +kernel
theorem d_11_1_55 : decode prog_11_method_1_code 55 = .ok (.newarray .long, 2) := by decide +kernel
theorem d_11_1_57 : decode prog_11_method_1_code 57 = .ok (.putfield 30, 3) := by decide +kernel
theorem d_11_1_60 : decode prog_11_method_1_code 60 = .ok (.aload_n 0, 1) := by decide +kernel
theorem d_11_1_61 : decode prog_11_method_1_code 61 = .ok (.bipush 8, 2) := by decide +kernel
theorem d_11_1_63 : decode prog_11_method_1_code 63 = .ok (.newarray .int, 2) := by decide +kernel
theorem d_11_1_65 : decode prog_11_method_1_code 65 = .ok (.putfield 34, 3) := by decide +kernel
theorem d_11_1_68 : decode prog_11_method_1_code 68 = .ok (.aload_n 0, 1) := by decide +kernel
theorem d_11_1_69 : decode prog_11_method_1_code 69 = .ok (.sipush 256, 3) := by decide +kernel
theorem d_11_1_7 : decode prog_11_method_1_code 7 = .ok (.newarray .int, 2) := by decide +kernel
theorem d_11_1_72 : decode prog_11_method_1_code 72 = .ok (.newarray .long, 2) := by decide +kernel
theorem d_11_1_74 : decode prog_11_method_1_code 74 = .ok (.putfield 37, 3) := by decide +kernel
theorem d_11_1_77 : decode prog_11_method_1_code 77 = .ok (.aload_n 0, 1) := by decide +kernel
theorem d_11_1_78 : decode prog_11_method_1_code 78 = .ok (.aload_n 1, 1) := by decide +kernel
theorem d_11_1_79 : decode prog_11_method_1_code 79 = .ok (.putfield 40, 3) := by decide +kernel
theorem d_11_1_82 : decode prog_11_method_1_code 82 = .ok (.return_, 1) := by decide +kernel
theorem d_11_1_9 : decode prog_11_method_1_code 9 = .ok (.putfield 9, 3) := by decide +kernel
theorem d_12_1_0 : decode prog_12_method_1_code 0 = .ok (.aload_n 0, 1) := by decide +kernel
theorem d_12_1_1 : decode prog_12_method_1_code 1 = .ok (.invokespecial 3, 3) := by decide +kernel
theorem d_12_1_12 : decode prog_12_method_1_code 12 = .ok (.aload_n 0, 1) := by decide +kernel
theorem d_12_1_13 : decode prog_12_method_1_code 13 = .ok (.iconst 2, 1) := by decide +kernel
theorem d_12_1_14 : decode prog_12_method_1_code 14 = .ok (.bipush 16, 2) := by decide +kernel
theorem d_12_1_16 : decode prog_12_method_1_code 16 = .ok (.multianewarray 15 2, 4) := by decide +kernel
theorem d_12_1_20 : decode prog_12_method_1_code 20 = .ok (.putfield 17, 3) := by decide +kernel
theorem d_12_1_23 : decode prog_12_method_1_code 23 = .ok (.aload_n 0, 1) := by decide +kernel
theorem d_12_1_24 : decode prog_12_method_1_code 24 = .ok (.bipush 17, 2) := by decide +kernel
theorem d_12_1_26 : decode prog_12_method_1_code 26 = .ok (.bipush 16, 2) := by decide +kernel
theorem d_12_1_28 : decode prog_12_method_1_code 28 = .ok (.multianewarray 15 2, 4) := by decide +kernel
theorem d_12_1_32 : decode prog_12_method_1_code 32 = .ok (.putfield 20, 3) := by decide +kernel
theorem d_12_1_35 : decode prog_12_method_1_code 35 = .ok (.aload_n 0, 1) := by decide +kernel
theorem d_12_1_36 : decode prog_12_method_1_code 36 = .ok (.bipush 16, 2) := by decide +kernel
theorem d_12_1_38 : decode prog_12_method_1_code 38 = .ok (.newarray .int, 2) := by decide +kernel
theorem d_12_1_4 : decode prog_12_method_1_code 4 = .ok (.aload_n 0, 1) := by decide +kernel
theorem d_12_1_40 : decode prog_12_method_1_code 40 = .ok (.putfield 23, 3) := by decide +kernel
theorem d_12_1_43 : decode prog_12_method_1_code 43 = .ok (.return_, 1) := by decide +kernel
theorem d_12_1_5 : decode prog_12_method_1_code 5 = .ok (.bipush 16, 2) := by decide +kernel
theorem d_12_1_7 : decode prog_12_method_1_code 7 = .ok (.newarray .int, 2) := by decide +kernel
theorem d_12_1_9 : decode prog_12_method_1_code 9 = .ok (.putfield 9, 3) := by decide +kernel
theorem d_14_16_0 : decode prog_14_method_16_code 0 = .ok (.aload_n 0, 1) := by decide +kernel
theorem d_14_16_1 : decode prog_14_method_16_code 1 = .ok (.invokespecial 92, 3) := by decide +kernel
theorem d_14_16_12 : decode prog_14_method_16_code 12 = .ok (.putfield 100, 3) := by decide +kernel
theorem d_14_16_15 : decode prog_14_method_16_code 15 = .ok (.aload_n 0, 1) := by decide +kernel
theorem d_14_16_16 : decode prog_14_method_16_code 16 = .ok (.bipush 20, 2) := by decide +kernel
theorem d_14_16_18 : decode prog_14_method_16_code 18 = .ok (.anewarray 97, 3) := by decide +kernel
theorem d_14_16_21 : decode prog_14_method_16_code 21 = .ok (.putfield 104, 3) := by decide +kernel
theorem d_14_16_24 : decode prog_14_method_16_code 24 = .ok (.aload_n 0, 1) := by decide +kernel
theorem d_14_16_25 : decode prog_14_method_16_code 25 = .ok (.bipush 30, 2) := by decide +kernel
theorem d_14_16_27 : decode prog_14_method_16_code 27 = .ok (.newarray .int, 2) := by decide +kernel
theorem d_14_16_29 : decode prog_14_method_16_code 29 = .ok (.putfield 108, 3) := by decide +kernel
theorem d_14_16_32 : decode prog_14_method_16_code 32 = .ok (.aload_n 0, 1) := by decide +kernel
theorem d_14_16_33 : decode prog_14_method_16_code 33 = .ok (.iconst 0, 1) := by decide +kernel
theorem d_14_16_34 : decode prog_14_method_16_code 34 = .ok (.newarray .int, 2) := by decide +kernel
theorem d_14_16_36 : decode prog_14_method_16_code 36 = .ok (.putfield 111, 3) := by decide +kernel
theorem d_14_16_39 : decode prog_14_method_16_code 39 = .ok (.return_, 1) := by decide +kernel
theorem d_14_16_4 : decode prog_14_method_16_code 4 = .ok (.aload_n 0, 1) := by decide +kernel
theorem d_14_16_5 : decode prog_14_method_16_code 5 = .ok (.new 97, 3) := by decide +kernel
theorem d_14_16_8 : decode prog_14_method_16_code 8 = .ok (.dup, 1) := by decide +kernel
theorem d_14_16_9 : decode prog_14_method_16_code 9 = .ok (.invokespecial 99, 3) := by decide +kernel
theorem d_1_1_0 : decode prog_1_method_1_code 0 = .ok (.aload_n 0, 1) := by decide +kernel
theorem d_1_1_1 : decode prog_1_method_1_code 1 = .ok (.invokespecial 3, 3) := by decide +kernel
theorem d_1_1_100 : decode prog_1_method_1_code 100 = .ok (.newarray .int, 2) := by decide +kernel
theorem d_1_1_102 : decode prog_1_method_1_code 102 = .ok (.putfield 62, 3) := by decide +kernel
theorem d_1_1_105 : decode prog_1_method_1_code 105 = .ok (.aload_n 0, 1) := by decide +kernel
theorem d_1_1_106 : decode prog_1_method_1_code 106 = .ok (.bipush 20, 2) := by decide +kernel
theorem d_1_1_108 : decode prog_1_method_1_code 108 = .ok (.newarray .int, 2) := by decide +kernel
theorem d_1_1_110 : decode prog_1_method_1_code 110 = .ok (.putfield 66, 3) := by decide +kernel
theorem d_1_1_113 : decode prog_1_method_1_code 113 = .ok (.aload_n 0, 1) := by decide +kernel
theorem d_1_1_114 : decode prog_1_method_1_code 114 = .ok (.bipush 20, 2) := by decide +kernel
theorem d_1_1_116 : decode prog_1_method_1_code 116 = .ok (.newarray .int, 2) := by decide +kernel
theorem d_1_1_118 : decode prog_1_method_1_code 118 = .ok (.putfield 69, 3) := by decide +kernel
theorem d_1_1_12 : decode prog_1_method_1_code 12 = .ok (.putfield 12, 3) := by decide +kernel
theorem d_1_1_121 : decode prog_1_method_1_code 121 = .ok (.aload_n 0, 1) := by decide +kernel
theorem d_1_1_122 : decode prog_1_method_1_code 122 = .ok (.sipush 240, 3) := by decide +kernel
theorem d_1_1_125 : decode prog_1_method_1_code 125 = .ok (.newarray .int, 2) := by decide +kernel
theorem d_1_1_127 : decode prog_1_method_1_code 127 = .ok (.putfield 72, 3) := by decide +kernel
theorem d_1_1_130 : decode prog_1_method_1_code 130 = .ok (.return_, 1) := by decide +kernel
theorem d_1_1_15 : decode prog_1_method_1_code 15 = .ok (.aload_n 0, 1) := by decide +kernel
theorem d_1_1_16 : decode prog_1_method_1_code 16 = .ok (.new 16, 3) := by decide +kernel
theorem d_1_1_19 : decode prog_1_method_1_code 19 = .ok (.dup, 1) := by decide +kernel
theorem d_1_1_20 : decode prog_1_method_1_code 20 = .ok (.aload_n 0, 1) := by decide +kernel
theorem d_1_1_21 : decode prog_1_method_1_code 21 = .ok (.getfield 12, 3) := by decide +kernel
theorem d_1_1_24 : decode prog_1_method_1_code 24 = .ok (.invokespecial 18, 3) := by decide +kernel
theorem d_1_1_27 : decode prog_1_method_1_code 27 = .ok (.putfield 21, 3) := by decide +kernel
theorem d_1_1_30 : decode prog_1_method_1_code 30 = .ok (.aload_n 0, 1) := by decide +kernel
theorem d_1_1_31 : decode prog_1_method_1_code 31 = .ok (.new 25, 3) := by decide +kernel
theorem d_1_1_34 : decode prog_1_method_1_code 34 = .ok (.dup, 1) := by decide +kernel
theorem d_1_1_35 : decode prog_1_method_1_code 35 = .ok (.aload_n 0, 1) := by decide +kernel
theorem d_1_1_36 : decode prog_1_method_1_code 36 = .ok (.getfield 12, 3) := by decide +kernel
theorem d_1_1_39 : decode prog_1_method_1_code 39 = .ok (.aload_n 0, 1) := by decide +kernel
theorem d_1_1_4 : decode prog_1_method_1_code 4 = .ok (.aload_n 0, 1) := by decide +kernel
theorem d_1_1_40 : decode prog_1_method_1_code 40 = .ok (.getfield 21, 3) := by decide +kernel
theorem d_1_1_43 : decode prog_1_method_1_code 43 = .ok (.invokespecial 27, 3) := by decide +kernel
theorem d_1_1_46 : decode prog_1_method_1_code 46 = .ok (.putfield 30, 3) := by decide +kernel
theorem d_1_1_49 : decode prog_1_method_1_code 49 = .ok (.aload_n 0, 1) := by decide +kernel
theorem d_1_1_5 : decode prog_1_method_1_code 5 = .ok (.new 9, 3) := by decide +kernel
theorem d_1_1_50 : decode prog_1_method_1_code 50 = .ok (.new 34, 3) := by decide +kernel
theorem d_1_1_53 : decode prog_1_method_1_code 53 = .ok (.dup, 1) := by decide +kernel
theorem d_1_1_54 : decode prog_1_method_1_code 54 = .ok (.invokespecial 36, 3) := by decide +kernel
theorem d_1_1_57 : decode prog_1_method_1_code 57 = .ok (.putfield 37, 3) := by decide +kernel
theorem d_1_1_60 : decode prog_1_method_1_code 60 = .ok (.aload_n 0, 1) := by decide +kernel
theorem d_1_1_61 : decode prog_1_method_1_code 61 = .ok (.new 41, 3) := by decide +kernel
theorem d_1_1_64 : decode prog_1_method_1_code 64 = .ok (.dup, 1) := by decide +kernel
theorem d_1_1_65 : decode prog_1_method_1_code 65 = .ok (.aload_n 0, 1) := by decide +kernel
theorem d_1_1_66 : decode prog_1_method_1_code 66 = .ok (.getfield 12, 3) := by decide +kernel
theorem d_1_1_69 : decode prog_1_method_1_code 69 = .ok (.invokespecial 43, 3) := by decide +kernel
theorem d_1_1_72 : decode prog_1_method_1_code 72 = .ok (.putfield 44, 3) := by decide +kernel
theorem d_1_1_75 : decode prog_1_method_1_code 75 = .ok (.aload_n 0, 1) := by decide +kernel
theorem d_1_1_76 : decode prog_1_method_1_code 76 = .ok (.new 48, 3) := by decide +kernel
theorem d_1_1_79 : decode prog_1_method_1_code 79 = .ok (.dup, 1) := by decide +kernel
theorem d_1_1_8 : decode prog_1_method_1_code 8 = .ok (.dup, 1) := by decide +kernel
theorem d_1_1_80 : decode prog_1_method_1_code 80 = .ok (.invokespecial 50, 3) := by decide +kernel
theorem d_1_1_83 : decode prog_1_method_1_code 83 = .ok (.putfield 51, 3) := by decide +kernel
theorem d_1_1_86 : decode prog_1_method_1_code 86 = .ok (.aload_n 0, 1) := by decide +kernel
theorem d_1_1_87 : decode prog_1_method_1_code 87 = .ok (.new 55, 3) := by decide +kernel
theorem d_1_1_9 : decode prog_1_method_1_code 9 = .ok (.invokespecial 11, 3) := by decide +kernel
theorem d_1_1_90 : decode prog_1_method_1_code 90 = .ok (.dup, 1) := by decide +kernel
theorem d_1_1_91 : decode prog_1_method_1_code 91 = .ok (.invokespecial 57, 3) := by decide +kernel
theorem d_1_1_94 : decode prog_1_method_1_code 94 = .ok (.putfield 58, 3) := by decide +kernel
theorem d_1_1_97 : decode prog_1_method_1_code 97 = .ok (.aload_n 0, 1) := by decide +kernel
theorem d_1_1_98 : decode prog_1_method_1_code 98 = .ok (.bipush 20, 2) := by decide +kernel
theorem d_20_1_0 : decode prog_20_method_1_code 0 = .ok (.aload_n 0, 1) := by decide +kernel
theorem d_20_1_1 : decode prog_20_method_1_code 1 = .ok (.invokespecial 3, 3) := by decide +kernel
theorem d_20_1_12 : decode prog_20_method_1_code 12 = .ok (.aload_n 0, 1) := by decide +kernel
theorem d_20_1_13 : decode prog_20_method_1_code 13 = .ok (.iconst 0, 1) := by decide +kernel
theorem d_20_1_14 : decode prog_20_method_1_code 14 = .ok (.anewarray 15, 3) := by decide +kernel
theorem d_20_1_17 : decode prog_20_method_1_code 17 = .ok (.putfield 17, 3) := by decide +kernel
theorem d_20_1_20 : decode prog_20_method_1_code 20 = .ok (.aload_n 0, 1) := by decide +kernel
theorem d_20_1_21 : decode prog_20_method_1_code 21 = .ok (.bipush 8, 2) := by decide +kernel
theorem d_20_1_23 : decode prog_20_method_1_code 23 = .ok (.newarray .int, 2) := by decide +kernel
theorem d_20_1_25 : decode prog_20_method_1_code 25 = .ok (.putfield 21, 3) := by decide +kernel
theorem d_20_1_28 : decode prog_20_method_1_code 28 = .ok (.aload_n 0, 1) := by decide +kernel
theorem d_20_1_29 : decode prog_20_method_1_code 29 = .ok (.bipush 8, 2) := by decide +kernel
theorem d_20_1_31 : decode prog_20_method_1_code 31 = .ok (.newarray .int, 2) := by decide +kernel
theorem d_20_1_33 : decode prog_20_method_1_code 33 = .ok (.putfield 24, 3) := by decide +kernel
theorem d_20_1_36 : decode prog_20_method_1_code 36 = .ok (.aload_n 0, 1) := by decide +kernel
theorem d_20_1_37 : decode prog_20_method_1_code 37 = .ok (.bipush 8, 2) := by decide +kernel
theorem d_20_1_39 : decode prog_20_method_1_code 39 = .ok (.newarray .int, 2) := by decide +kernel
theorem d_20_1_4 : decode prog_20_method_1_code 4 = .ok (.aload_n 0, 1) := by decide +kernel
theorem d_20_1_41 : decode prog_20_method_1_code 41 = .ok (.putfield 27, 3) := by decide +kernel
theorem d_20_1_44 : decode prog_20_method_1_code 44 = .ok (.aload_n 0, 1) := by decide +kernel
theorem d_20_1_45 : decode prog_20_method_1_code 45 = .ok (.bipush 16, 2) := by decide +kernel
theorem d_20_1_47 : decode prog_20_method_1_code 47 = .ok (.newarray .int, 2) := by decide +kernel
theorem d_20_1_49 : decode prog_20_method_1_code 49 = .ok (.putfield 30, 3) := by decide +kernel
theorem d_20_1_5 : decode prog_20_method_1_code 5 = .ok (.bipush 8, 2) := by decide +kernel
theorem d_20_1_52 : decode prog_20_method_1_code 52 = .ok (.aload_n 0, 1) := by decide +kernel
theorem d_20_1_53 : decode prog_20_method_1_code 53 = .ok (.bipush 16, 2) := by decide +kernel
theorem d_20_1_55 : decode prog_20_method_1_code 55 = .ok (.newarray .int, 2) := by decide +kernel
theorem d_20_1_57 : decode prog_20_method_1_code 57 = .ok (.putfield 33, 3) := by decide +kernel
theorem d_20_1_60 : decode prog_20_method_1_code 60 = .ok (.aload_n 0, 1) := by decide +kernel
theorem d_20_1_61 : decode prog_20_method_1_code 61 = .ok (.bipush 16, 2) := by decide +kernel
theorem d_20_1_63 : decode prog_20_method_1_code 63 = .ok (.newarray .int, 2) := by decide +kernel
theorem d_20_1_65 : decode prog_20_method_1_code 65 = .ok (.putfield 36, 3) := by decide +kernel
theorem d_20_1_68 : decode prog_20_method_1_code 68 = .ok (.aload_n 0, 1) := by decide +kernel
theorem d_20_1_69 : decode prog_20_method_1_code 69 = .ok (.bipush 12, 2) := by decide +kernel
theorem d_20_1_7 : decode prog_20_method_1_code 7 = .ok (.newarray .int, 2) := by decide +kernel
theorem d_20_1_71 : decode prog_20_method_1_code 71 = .ok (.newarray .int, 2) := by decide +kernel
theorem d_20_1_73 : decode prog_20_method_1_code 73 = .ok (.putfield 39, 3) := by decide +kernel
theorem d_20_1_76 : decode prog_20_method_1_code 76 = .ok (.aload_n 0, 1) := by decide +kernel
theorem d_20_1_77 : decode prog_20_method_1_code 77 = .ok (.iconst 1, 1) := by decide +kernel
theorem d_20_1_78 : decode prog_20_method_1_code 78 = .ok (.putfield 42, 3) := by decide +kernel
theorem d_20_1_81 : decode prog_20_method_1_code 81 = .ok (.return_, 1) := by decide +kernel
theorem d_20_1_9 : decode prog_20_method_1_code 9 = .ok (.putfield 9, 3) := by decide +kernel
theorem d_2_1_0 : decode prog_2_method_1_code 0 = .ok (.aload_n 0, 1) := by decide +kernel
theorem d_2_1_1 : decode prog_2_method_1_code 1 = .ok (.invokespecial 3, 3) := by decide +kernel
theorem d_2_1_12 : decode prog_2_method_1_code 12 = .ok (.aload_n 0, 1) := by decide +kernel
theorem d_2_1_13 : decode prog_2_method_1_code 13 = .ok (.bipush 8, 2) := by decide +kernel
theorem d_2_1_15 : decode prog_2_method_1_code 15 = .ok (.newarray .int, 2) := by decide +kernel
theorem d_2_1_17 : decode prog_2_method_1_code 17 = .ok (.putfield 15, 3) := by decide +kernel
theorem d_2_1_20 : decode prog_2_method_1_code 20 = .ok (.aload_n 0, 1) := by decide +kernel
theorem d_2_1_21 : decode prog_2_method_1_code 21 = .ok (.bipush 31, 2) := by decide +kernel
theorem d_2_1_23 : decode prog_2_method_1_code 23 = .ok (.newarray .int, 2) := by decide +kernel
theorem d_2_1_25 : decode prog_2_method_1_code 25 = .ok (.putfield 18, 3) := by decide +kernel
theorem d_2_1_28 : decode prog_2_method_1_code 28 = .ok (.aload_n 0, 1) := by decide +kernel
theorem d_2_1_29 : decode prog_2_method_1_code 29 = .ok (.bipush 31, 2) := by decide +kernel
theorem d_2_1_31 : decode prog_2_method_1_code 31 = .ok (.newarray .int, 2) := by decide +kernel
theorem d_2_1_33 : decode prog_2_method_1_code 33 = .ok (.putfield 21, 3) := by decide +kernel
theorem d_2_1_36 : decode prog_2_method_1_code 36 = .ok (.aload_n 0, 1) := by decide +kernel
theorem d_2_1_37 : decode prog_2_method_1_code 37 = .ok (.bipush 31, 2) := by decide +kernel
theorem d_2_1_39 : decode prog_2_method_1_code 39 = .ok (.newarray .int, 2) := by decide +kernel
theorem d_2_1_4 : decode prog_2_method_1_code 4 = .ok (.aload_n 0, 1) := by decide +kernel
theorem d_2_1_41 : decode prog_2_method_1_code 41 = .ok (.putfield 24, 3) := by decide +kernel
theorem d_2_1_44 : decode prog_2_method_1_code 44 = .ok (.aload_n 0, 1) := by decide +kernel
theorem d_2_1_45 : decode prog_2_method_1_code 45 = .ok (.bipush 31, 2) := by decide +kernel
theorem d_2_1_47 : decode prog_2_method_1_code 47 = .ok (.bipush 8, 2) := by decide +kernel
theorem d_2_1_49 : decode prog_2_method_1_code 49 = .ok (.multianewarray 27 2, 4) := by decide +kernel
theorem d_2_1_5 : decode prog_2_method_1_code 5 = .ok (.bipush 30, 2) := by decide +kernel
theorem d_2_1_53 : decode prog_2_method_1_code 53 = .ok (.putfield 29, 3) := by decide +kernel
theorem d_2_1_56 : decode prog_2_method_1_code 56 = .ok (.aload_n 0, 1) := by decide +kernel
theorem d_2_1_57 : decode prog_2_method_1_code 57 = .ok (.sipush 256, 3) := by decide +kernel
theorem d_2_1_60 : decode prog_2_method_1_code 60 = .ok (.newarray .int, 2) := by decide +kernel
theorem d_2_1_62 : decode prog_2_method_1_code 62 = .ok (.putfield 32, 3) := by decide +kernel
theorem d_2_1_65 : decode prog_2_method_1_code 65 = .ok (.return_, 1) := by decide +kernel
theorem d_2_1_7 : decode prog_2_method_1_code 7 = .ok (.newarray .int, 2) := by decide +kernel
theorem d_2_1_9 : decode prog_2_method_1_code 9 = .ok (.putfield 9, 3) := by decide +kernel
theorem d_37_103_0 : decode prog_37_method_103_code 0 = .ok (.iconst 0, 1) := by decide +kernel
theorem d_37_103_1 : decode prog_37_method_103_code 1 = .ok (.istore_n 2, 1) := by decide +kernel
theorem d_37_103_10 : decode prog_37_method_103_code 10 = .ok (.aload_n 0, 1) := by decide +kernel
theorem d_37_103_11 : decode prog_37_method_103_code 11 = .ok (.iload_n 2, 1) := by decide +kernel
theorem d_37_103_12 : decode prog_37_method_103_code 12 = .ok (.iload_n 1, 1) := by decide +kernel
theorem d_37_103_13 : decode prog_37_method_103_code 13 = .ok (.iastore, 1) := by decide +kernel
theorem d_37_103_14 : decode prog_37_method_103_code 14 = .ok (.iinc 2 1, 3) := by decide +kernel
theorem d_37_103_17 : decode prog_37_method_103_code 17 = .ok (.goto (-12), 3) := by decide +kernel
theorem d_37_103_2 : decode prog_37_method_103_code 2 = .ok (.aload_n 0, 1) := by decide +kernel
theorem d_37_103_20 : decode prog_37_method_103_code 20 = .ok (.return_, 1) := by decide +kernel
theorem d_37_103_3 : decode prog_37_method_103_code 3 = .ok (.arraylength, 1) := by decide +kernel
theorem d_37_103_4 : decode prog_37_method_103_code 4 = .ok (.istore_n 3, 1) := by decide +kernel
theorem d_37_103_5 : decode prog_37_method_103_code 5 = .ok (.iload_n 2, 1) := by decide +kernel
theorem d_37_103_6 : decode prog_37_method_103_code 6 = .ok (.iload_n 3, 1) := by decide +kernel
theorem d_37_103_7 : decode prog_37_method_103_code 7 = .ok (.if_icmp .ge 13, 3) := by decide +kernel
theorem d_3_1_0 : decode prog_3_method_1_code 0 = .ok (.aload_n 0, 1) := by decide +kernel
theorem d_3_1_1 : decode prog_3_method_1_code 1 = .ok (.invokespecial 3, 3) := by decide +kernel
theorem d_3_1_10 : decode prog_3_method_1_code 10 = .ok (.bipush 12, 2) := by decide +kernel
theorem d_3_1_12 : decode prog_3_method_1_code 12 = .ok (.newarray .int, 2) := by decide +kernel
theorem d_3_1_14 : decode prog_3_method_1_code 14 = .ok (.putfield 15, 3) := by decide +kernel
theorem d_3_1_17 : decode prog_3_method_1_code 17 = .ok (.aload_n 0, 1) := by decide +kernel
theorem d_3_1_18 : decode prog_3_method_1_code 18 = .ok (.sipush 4096, 3) := by decide +kernel
theorem d_3_1_21 : decode prog_3_method_1_code 21 = .ok (.newarray .int, 2) := by decide +kernel
theorem d_3_1_23 : decode prog_3_method_1_code 23 = .ok (.putfield 19, 3) := by decide +kernel
theorem d_3_1_26 : decode prog_3_method_1_code 26 = .ok (.return_, 1) := by decide +kernel
theorem d_3_1_4 : decode prog_3_method_1_code 4 = .ok (.aload_n 0, 1) := by decide +kernel
theorem d_3_1_5 : decode prog_3_method_1_code 5 = .ok (.iconst 1, 1) := by decide +kernel
theorem d_3_1_6 : decode prog_3_method_1_code 6 = .ok (.putfield 9, 3) := by decide +kernel
theorem d_3_1_9 : decode prog_3_method_1_code 9 = .ok (.aload_n 0, 1) := by decide +kernel
theorem d_5_1_0 : decode prog_5_method_1_code 0 = .ok (.aload_n 0, 1) := by decide +kernel
theorem d_5_1_1 : decode prog_5_method_1_code 1 = .ok (.invokespecial 3, 3) := by decide +kernel
theorem d_5_1_10 : decode prog_5_method_1_code 10 = .ok (.putfield 11, 3) := by decide +kernel
theorem d_5_1_102 : decode prog_5_method_1_code 102 = .ok (.dup, 1) := by decide +kernel
theorem d_5_1_103 : decode prog_5_method_1_code 103 = .ok (.invokespecial 26, 3) := by decide +kernel
theorem d_5_1_106 : decode prog_5_method_1_code 106 = .ok (.putfield 46, 3) := by decide +kernel
theorem d_5_1_109 : decode prog_5_method_1_code 109 = .ok (.aload_n 0, 1) := by decide +kernel
theorem d_5_1_110 : decode prog_5_method_1_code 110 = .ok (.new 17, 3) := by decide +kernel
theorem d_5_1_113 : decode prog_5_method_1_code 113 = .ok (.dup, 1) := by decide +kernel
theorem d_5_1_114 : decode prog_5_method_1_code 114 = .ok (.invokespecial 26, 3) := by decide +kernel
theorem d_5_1_117 : decode prog_5_method_1_code 117 = .ok (.putfield 49, 3) := by decide +kernel
theorem d_5_1_120 : decode prog_5_method_1_code 120 = .ok (.aload_n 0, 1) := by decide +kernel
theorem d_5_1_121 : decode prog_5_method_1_code 121 = .ok (.new 17, 3) := by decide +kernel
theorem d_5_1_124 : decode prog_5_method_1_code 124 = .ok (.dup, 1) := by decide +kernel
theorem d_5_1_125 : decode prog_5_method_1_code 125 = .ok (.invokespecial 26, 3) := by decide +kernel
theorem d_5_1_128 : decode prog_5_method_1_code 128 = .ok (.putfield 52, 3) := by decide +kernel
theorem d_5_1_13 : decode prog_5_method_1_code 13 = .ok (.aload_n 0, 1) := by decide +kernel
theorem d_5_1_131 : decode prog_5_method_1_code 131 = .ok (.aload_n 0, 1) := by decide +kernel
theorem d_5_1_132 : decode prog_5_method_1_code 132 = .ok (.aload_n 1, 1) := by decide +kernel
theorem d_5_1_133 : decode prog_5_method_1_code 133 = .ok (.putfield 55, 3) := by decide +kernel
theorem d_5_1_136 : decode prog_5_method_1_code 136 = .ok (.iconst 0, 1) := by decide +kernel
theorem d_5_1_137 : decode prog_5_method_1_code 137 = .ok (.istore_n 2, 1) := by decide +kernel
theorem d_5_1_138 : decode prog_5_method_1_code 138 = .ok (.iload_n 2, 1) := by decide +kernel
theorem d_5_1_139 : decode prog_5_method_1_code 139 = .ok (.bipush 9, 2) := by decide +kernel
theorem d_5_1_14 : decode prog_5_method_1_code 14 = .ok (.sipush 240, 3) := by decide +kernel
theorem d_5_1_141 : decode prog_5_method_1_code 141 = .ok (.if_icmp .ge 22, 3) := by decide +kernel
theorem d_5_1_144 : decode prog_5_method_1_code 144 = .ok (.aload_n 0, 1) := by decide +kernel
theorem d_5_1_145 : decode prog_5_method_1_code 145 = .ok (.getfield 23, 3) := by decide +kernel
theorem d_5_1_148 : decode prog_5_method_1_code 148 = .ok (.iload_n 2, 1) := by decide +kernel
theorem d_5_1_149 : decode prog_5_method_1_code 149 = .ok (.new 17, 3) := by decide +kernel
theorem d_5_1_152 : decode prog_5_method_1_code 152 = .ok (.dup, 1) := by decide +kernel
theorem d_5_1_153 : decode prog_5_method_1_code 153 = .ok (.invokespecial 26, 3) := by decide +kernel
theorem d_5_1_156 : decode prog_5_method_1_code 156 = .ok (.aastore, 1) := by decide +kernel
theorem d_5_1_157 : decode prog_5_method_1_code 157 = .ok (.iinc 2 1, 3) := by decide +kernel
theorem d_5_1_160 : decode prog_5_method_1_code 160 = .ok (.goto (-22), 3) := by decide +kernel
theorem d_5_1_163 : decode prog_5_method_1_code 163 = .ok (.return_, 1) := by decide +kernel
theorem d_5_1_17 : decode prog_5_method_1_code 17 = .ok (.anewarray 17, 3) := by decide +kernel
theorem d_5_1_20 : decode prog_5_method_1_code 20 = .ok (.putfield 19, 3) := by decide +kernel
theorem d_5_1_23 : decode prog_5_method_1_code 23 = .ok (.aload_n 0, 1) := by decide +kernel
theorem d_5_1_24 : decode prog_5_method_1_code 24 = .ok (.bipush 9, 2) := by decide +kernel
theorem d_5_1_26 : decode prog_5_method_1_code 26 = .ok (.anewarray 17, 3) := by decide +kernel
theorem d_5_1_29 : decode prog_5_method_1_code 29 = .ok (.putfield 23, 3) := by decide +kernel
theorem d_5_1_32 : decode prog_5_method_1_code 32 = .ok (.aload_n 0, 1) := by decide +kernel
theorem d_5_1_33 : decode prog_5_method_1_code 33 = .ok (.new 17, 3) := by decide +kernel
theorem d_5_1_36 : decode prog_5_method_1_code 36 = .ok (.dup, 1) := by decide +kernel
theorem d_5_1_37 : decode prog_5_method_1_code 37 = .ok (.invokespecial 26, 3) := by decide +kernel
theorem d_5_1_4 : decode prog_5_method_1_code 4 = .ok (.aload_n 0, 1) := by decide +kernel
theorem d_5_1_40 : decode prog_5_method_1_code 40 = .ok (.putfield 27, 3) := by decide +kernel
theorem d_5_1_43 : decode prog_5_method_1_code 43 = .ok (.aload_n 0, 1) := by decide +kernel
theorem d_5_1_44 : decode prog_5_method_1_code 44 = .ok (.new 17, 3) := by decide +kernel
theorem d_5_1_47 : decode prog_5_method_1_code 47 = .ok (.dup, 1) := by decide +kernel
theorem d_5_1_48 : decode prog_5_method_1_code 48 = .ok (.invokespecial 26, 3) := by decide +kernel
theorem d_5_1_5 : decode prog_5_method_1_code 5 = .ok (.bipush 21, 2) := by decide +kernel
theorem d_5_1_51 : decode prog_5_method_1_code 51 = .ok (.putfield 31, 3) := by decide +kernel
theorem d_5_1_54 : decode prog_5_method_1_code 54 = .ok (.aload_n 0, 1) := by decide +kernel
theorem d_5_1_55 : decode prog_5_method_1_code 55 = .ok (.new 17, 3) := by decide +kernel
theorem d_5_1_58 : decode prog_5_method_1_code 58 = .ok (.dup, 1) := by decide +kernel
theorem d_5_1_59 : decode prog_5_method_1_code 59 = .ok (.invokespecial 26, 3) := by decide +kernel
theorem d_5_1_62 : decode prog_5_method_1_code 62 = .ok (.putfield 34, 3) := by decide +kernel
theorem d_5_1_65 : decode prog_5_method_1_code 65 = .ok (.aload_n 0, 1) := by decide +kernel
theorem d_5_1_66 : decode prog_5_method_1_code 66 = .ok (.new 17, 3) := by decide +kernel
theorem d_5_1_69 : decode prog_5_method_1_code 69 = .ok (.dup, 1) := by decide +kernel
theorem d_5_1_7 : decode prog_5_method_1_code 7 = .ok (.anewarray 9, 3) := by decide +kernel
theorem d_5_1_70 : decode prog_5_method_1_code 70 = .ok (.invokespecial 26, 3) := by decide +kernel
theorem d_5_1_73 : decode prog_5_method_1_code 73 = .ok (.putfield 37, 3) := by decide +kernel
theorem d_5_1_76 : decode prog_5_method_1_code 76 = .ok (.aload_n 0, 1) := by decide +kernel
theorem d_5_1_77 : decode prog_5_method_1_code 77 = .ok (.new 17, 3) := by decide +kernel
theorem d_5_1_80 : decode prog_5_method_1_code 80 = .ok (.dup, 1) := by decide +kernel
theorem d_5_1_81 : decode prog_5_method_1_code 81 = .ok (.invokespecial 26, 3) := by decide +kernel
theorem d_5_1_84 : decode prog_5_method_1_code 84 = .ok (.putfield 40, 3) := by decide +kernel
theorem d_5_1_87 : decode prog_5_method_1_code 87 = .ok (.aload_n 0, 1) := by decide +kernel
theorem d_5_1_88 : decode prog_5_method_1_code 88 = .ok (.new 17, 3) := by decide +kernel
theorem d_5_1_91 : decode prog_5_method_1_code 91 = .ok (.dup, 1) := by decide +kernel
theorem d_5_1_92 : decode prog_5_method_1_code 92 = .ok (.invokespecial 26, 3) := by decide +kernel
theorem d_5_1_95 : decode prog_5_method_1_code 95 = .ok (.putfield 43, 3) := by decide +kernel
theorem d_5_1_98 : decode prog_5_method_1_code 98 = .ok (.aload_n 0, 1) := by decide +kernel
theorem d_5_1_99 : decode prog_5_method_1_code 99 = .ok (.new 17, 3) := by decide +kernel
theorem d_6_1_0 : decode prog_6_method_1_code 0 = .ok (.aload_n 0, 1) := by decide +kernel
theorem d_6_1_1 : decode prog_6_method_1_code 1 = .ok (.invokespecial 3, 3) := by decide +kernel
theorem d_6_1_12 : decode prog_6_method_1_code 12 = .ok (.aload_n 0, 1) := by decide +kernel
theorem d_6_1_13 : decode prog_6_method_1_code 13 = .ok (.bipush 8, 2) := by decide +kernel
theorem d_6_1_15 : decode prog_6_method_1_code 15 = .ok (.newarray .long, 2) := by decide +kernel
theorem d_6_1_17 : decode prog_6_method_1_code 17 = .ok (.putfield 15, 3) := by decide +kernel
theorem d_6_1_20 : decode prog_6_method_1_code 20 = .ok (.aload_n 0, 1) := by decide +kernel
theorem d_6_1_21 : decode prog_6_method_1_code 21 = .ok (.bipush 8, 2) := by decide +kernel
theorem d_6_1_23 : decode prog_6_method_1_code 23 = .ok (.newarray .int, 2) := by decide +kernel
theorem d_6_1_25 : decode prog_6_method_1_code 25 = .ok (.putfield 19, 3) := by decide +kernel
theorem d_6_1_28 : decode prog_6_method_1_code 28 = .ok (.aload_n 0, 1) := by decide +kernel
theorem d_6_1_29 : decode prog_6_method_1_code 29 = .ok (.bipush 8, 2) := by decide +kernel
theorem d_6_1_31 : decode prog_6_method_1_code 31 = .ok (.newarray .int, 2) := by decide +kernel
theorem d_6_1_33 : decode prog_6_method_1_code 33 = .ok (.putfield 22, 3) := by decide +kernel
theorem d_6_1_36 : decode prog_6_method_1_code 36 = .ok (.aload_n 0, 1) := by decide +kernel
theorem d_6_1_37 : decode prog_6_method_1_code 37 = .ok (.bipush 8, 2) := by decide +kernel
theorem d_6_1_39 : decode prog_6_method_1_code 39 = .ok (.newarray .long, 2) := by decide +kernel
theorem d_6_1_4 : decode prog_6_method_1_code 4 = .ok (.aload_n 0, 1) := by decide +kernel
theorem d_6_1_41 : decode prog_6_method_1_code 41 = .ok (.putfield 25, 3) := by decide +kernel
theorem d_6_1_44 : decode prog_6_method_1_code 44 = .ok (.aload_n 0, 1) := by decide +kernel
theorem d_6_1_45 : decode prog_6_method_1_code 45 = .ok (.bipush 61, 2) := by decide +kernel
theorem d_6_1_47 : decode prog_6_method_1_code 47 = .ok (.newarray .int, 2) := by decide +kernel
theorem d_6_1_49 : decode prog_6_method_1_code 49 = .ok (.putfield 28, 3) := by decide +kernel
theorem d_6_1_5 : decode prog_6_method_1_code 5 = .ok (.bipush 8, 2) := by decide +kernel
theorem d_6_1_52 : decode prog_6_method_1_code 52 = .ok (.return_, 1) := by decide +kernel
theorem d_6_1_7 : decode prog_6_method_1_code 7 = .ok (.newarray .int, 2) := by decide +kernel
theorem d_6_1_9 : decode prog_6_method_1_code 9 = .ok (.putfield 9, 3) := by decide +kernel
theorem d_7_1_0 : decode prog_7_method_1_code 0 = .ok (.aload_n 0, 1) := by decide +kernel
theorem d_7_1_1 : decode prog_7_method_1_code 1 = .ok (.invokespecial 3, 3) := by decide +kernel
theorem d_7_1_11 : decode prog_7_method_1_code 11 = .ok (.aload_n 0, 1) := by decide +kernel
theorem d_7_1_12 : decode prog_7_method_1_code 12 = .ok (.aload_n 1, 1) := by decide +kernel
theorem d_7_1_13 : decode prog_7_method_1_code 13 = .ok (.putfield 15, 3) := by decide +kernel
theorem d_7_1_16 : decode prog_7_method_1_code 16 = .ok (.aload_n 0, 1) := by decide +kernel
theorem d_7_1_17 : decode prog_7_method_1_code 17 = .ok (.aload_n 2, 1) := by decide +kernel
theorem d_7_1_18 : decode prog_7_method_1_code 18 = .ok (.putfield 19, 3) := by decide +kernel
theorem d_7_1_21 : decode prog_7_method_1_code 21 = .ok (.return_, 1) := by decide +kernel
theorem d_7_1_4 : decode prog_7_method_1_code 4 = .ok (.aload_n 0, 1) := by decide +kernel
theorem d_7_1_5 : decode prog_7_method_1_code 5 = .ok (.iconst 5, 1) := by decide +kernel
theorem d_7_1_6 : decode prog_7_method_1_code 6 = .ok (.newarray .int, 2) := by decide +kernel
theorem d_7_1_8 : decode prog_7_method_1_code 8 = .ok (.putfield 9, 3) := by decide +kernel
theorem d_8_1_0 : decode prog_8_method_1_code 0 = .ok (.aload_n 0, 1) := by decide +kernel
theorem d_8_1_1 : decode prog_8_method_1_code 1 = .ok (.invokespecial 3, 3) := by decide +kernel
theorem d_8_1_12 : decode prog_8_method_1_code 12 = .ok (.aload_n 0, 1) := by decide +kernel
theorem d_8_1_13 : decode prog_8_method_1_code 13 = .ok (.bipush 8, 2) := by decide +kernel
theorem d_8_1_15 : decode prog_8_method_1_code 15 = .ok (.newarray .int, 2) := by decide +kernel
theorem d_8_1_17 : decode prog_8_method_1_code 17 = .ok (.putfield 15, 3) := by decide +kernel
theorem d_8_1_20 : decode prog_8_method_1_code 20 = .ok (.aload_n 0, 1) := by decide +kernel
theorem d_8_1_21 : decode prog_8_method_1_code 21 = .ok (.bipush 8, 2) := by decide +kernel
theorem d_8_1_23 : decode prog_8_method_1_code 23 = .ok (.newarray .int, 2) := by decide +kernel
theorem d_8_1_25 : decode prog_8_method_1_code 25 = .ok (.putfield 18, 3) := by decide +kernel
theorem d_8_1_28 : decode prog_8_method_1_code 28 = .ok (.aload_n 0, 1) := by decide +kernel
theorem d_8_1_29 : decode prog_8_method_1_code 29 = .ok (.bipush 8, 2) := by decide +kernel
theorem d_8_1_31 : decode prog_8_method_1_code 31 = .ok (.newarray .int, 2) := by decide +kernel
theorem d_8_1_33 : decode prog_8_method_1_code 33 = .ok (.putfield 21, 3) := by decide +kernel
theorem d_8_1_36 : decode prog_8_method_1_code 36 = .ok (.return_, 1) := by decide +kernel
theorem d_8_1_4 : decode prog_8_method_1_code 4 = .ok (.aload_n 0, 1) := by decide +kernel
theorem d_8_1_5 : decode prog_8_method_1_code 5 = .ok (.bipush 60, 2) := by decide +kernel
theorem d_8_1_7 : decode prog_8_method_1_code 7 = .ok (.newarray .int, 2) := by decide +kernel
theorem d_8_1_9 : decode prog_8_method_1_code 9 = .ok (.putfield 9, 3) := by decide +kernel
theorem d_9_1_0 : decode prog_9_method_1_code 0 = .ok (.aload_n 0, 1) := by decide +kernel
theorem d_9_1_1 : decode prog_9_method_1_code 1 = .ok (.invokespecial 3, 3) := by decide +kernel
theorem d_9_1_102 : decode prog_9_method_1_code 102 = .ok (.return_, 1) := by decide +kernel
theorem d_9_1_12 : decode prog_9_method_1_code 12 = .ok (.aload_n 0, 1) := by decide +kernel
theorem d_9_1_13 : decode prog_9_method_1_code 13 = .ok (.bipush 8, 2) := by decide +kernel
theorem d_9_1_15 : decode prog_9_method_1_code 15 = .ok (.newarray .int, 2) := by decide +kernel
theorem d_9_1_17 : decode prog_9_method_1_code 17 = .ok (.putfield 15, 3) := by decide +kernel
theorem d_9_1_20 : decode prog_9_method_1_code 20 = .ok (.aload_n 0, 1) := by decide +kernel
theorem d_9_1_21 : decode prog_9_method_1_code 21 = .ok (.bipush 8, 2) := by decide +kernel
theorem d_9_1_23 : decode prog_9_method_1_code 23 = .ok (.newarray .int, 2) := by decide +kernel
theorem d_9_1_25 : decode prog_9_method_1_code 25 = .ok (.putfield 18, 3) := by decide +kernel
theorem d_9_1_28 : decode prog_9_method_1_code 28 = .ok (.aload_n 0, 1) := by decide +kernel
theorem d_9_1_29 : decode prog_9_method_1_code 29 = .ok (.new 21, 3) := by decide +kernel
theorem d_9_1_32 : decode prog_9_method_1_code 32 = .ok (.dup, 1) := by decide +kernel
theorem d_9_1_33 : decode prog_9_method_1_code 33 = .ok (.invokespecial 23, 3) := by decide +kernel
theorem d_9_1_36 : decode prog_9_method_1_code 36 = .ok (.putfield 24, 3) := by decide +kernel
theorem d_9_1_39 : decode prog_9_method_1_code 39 = .ok (.aload_n 0, 1) := by decide +kernel
theorem d_9_1_4 : decode prog_9_method_1_code 4 = .ok (.aload_n 0, 1) := by decide +kernel
theorem d_9_1_40 : decode prog_9_method_1_code 40 = .ok (.new 21, 3) := by decide +kernel
theorem d_9_1_43 : decode prog_9_method_1_code 43 = .ok (.dup, 1) := by decide +kernel
theorem d_9_1_44 : decode prog_9_method_1_code 44 = .ok (.invokespecial 23, 3) := by decide +kernel
theorem d_9_1_47 : decode prog_9_method_1_code 47 = .ok (.putfield 28, 3) := by decide +kernel
theorem d_9_1_5 : decode prog_9_method_1_code 5 = .ok (.bipush 8, 2) := by decide +kernel
theorem d_9_1_50 : decode prog_9_method_1_code 50 = .ok (.aload_n 0, 1) := by decide +kernel
theorem d_9_1_51 : decode prog_9_method_1_code 51 = .ok (.bipush 8, 2) := by decide +kernel
theorem d_9_1_53 : decode prog_9_method_1_code 53 = .ok (.newarray .int, 2) := by decide +kernel
theorem d_9_1_55 : decode prog_9_method_1_code 55 = .ok (.putfield 31, 3) := by decide +kernel
theorem d_9_1_58 : decode prog_9_method_1_code 58 = .ok (.aload_n 0, 1) := by decide +kernel
theorem d_9_1_59 : decode prog_9_method_1_code 59 = .ok (.bipush 8, 2) := by decide +kernel
theorem d_9_1_61 : decode prog_9_method_1_code 61 = .ok (.newarray .int, 2) := by decide +kernel
theorem d_9_1_63 : decode prog_9_method_1_code 63 = .ok (.putfield 34, 3) := by decide +kernel
theorem d_9_1_66 : decode prog_9_method_1_code 66 = .ok (.aload_n 0, 1) := by decide +kernel
theorem d_9_1_67 : decode prog_9_method_1_code 67 = .ok (.bipush 21, 2) := by decide +kernel
theorem d_9_1_69 : decode prog_9_method_1_code 69 = .ok (.anewarray 37, 3) := by decide +kernel
theorem d_9_1_7 : decode prog_9_method_1_code 7 = .ok (.newarray .int, 2) := by decide +kernel
theorem d_9_1_72 : decode prog_9_method_1_code 72 = .ok (.putfield 39, 3) := by decide +kernel
theorem d_9_1_75 : decode prog_9_method_1_code 75 = .ok (.iconst 0, 1) := by decide +kernel
theorem d_9_1_76 : decode prog_9_method_1_code 76 = .ok (.istore_n 1, 1) := by decide +kernel
theorem d_9_1_77 : decode prog_9_method_1_code 77 = .ok (.iload_n 1, 1) := by decide +kernel
theorem d_9_1_78 : decode prog_9_method_1_code 78 = .ok (.bipush 21, 2) := by decide +kernel
theorem d_9_1_80 : decode prog_9_method_1_code 80 = .ok (.if_icmp .ge 22, 3) := by decide +kernel
theorem d_9_1_83 : decode prog_9_method_1_code 83 = .ok (.aload_n 0, 1) := by decide +kernel
theorem d_9_1_84 : decode prog_9_method_1_code 84 = .ok (.getfield 39, 3) := by decide +kernel
theorem d_9_1_87 : decode prog_9_method_1_code 87 = .ok (.iload_n 1, 1) := by decide +kernel
theorem d_9_1_88 : decode prog_9_method_1_code 88 = .ok (.new 37, 3) := by decide +kernel
theorem d_9_1_9 : decode prog_9_method_1_code 9 = .ok (.putfield 9, 3) := by decide +kernel
theorem d_9_1_91 : decode prog_9_method_1_code 91 = .ok (.dup, 1) := by decide +kernel
theorem d_9_1_92 : decode prog_9_method_1_code 92 = .ok (.invokespecial 43, 3) := by decide +kernel
theorem d_9_1_95 : decode prog_9_method_1_code 95 = .ok (.aastore, 1) := by decide +kernel
theorem d_9_1_96 : decode prog_9_method_1_code 96 = .ok (.iinc 1 1, 3) := by decide +kernel
theorem d_9_1_99 : decode prog_9_method_1_code 99 = .ok (.goto (-22), 3) := by decide +kernel
theorem d_law_0 : decode code 0 = .ok (.new 8, 3) := by decide +kernel
theorem d_law_11 : decode code 11 = .ok (.dup, 1) := by decide +kernel
theorem d_law_12 : decode code 12 = .ok (.invokespecial 153, 3) := by decide +kernel
theorem d_law_15 : decode code 15 = .ok (.astore_n 2, 1) := by decide +kernel
theorem d_law_16 : decode code 16 = .ok (.iconst 1, 1) := by decide +kernel
theorem d_law_17 : decode code 17 = .ok (.newarray .long, 2) := by decide +kernel
theorem d_law_19 : decode code 19 = .ok (.astore_n 3, 1) := by decide +kernel
theorem d_law_20 : decode code 20 = .ok (.iconst 1, 1) := by decide +kernel
theorem d_law_21 : decode code 21 = .ok (.newarray .double, 2) := by decide +kernel
theorem d_law_23 : decode code 23 = .ok (.astore 4, 2) := by decide +kernel
theorem d_law_25 : decode code 25 = .ok (.iconst 0, 1) := by decide +kernel
theorem d_law_26 : decode code 26 = .ok (.istore 5, 2) := by decide +kernel
theorem d_law_28 : decode code 28 = .ok (.iload 5, 2) := by decide +kernel
theorem d_law_3 : decode code 3 = .ok (.dup, 1) := by decide +kernel
theorem d_law_4 : decode code 4 = .ok (.invokespecial 150, 3) := by decide +kernel
theorem d_law_7 : decode code 7 = .ok (.astore_n 1, 1) := by decide +kernel
theorem d_law_8 : decode code 8 = .ok (.new 151, 3) := by decide +kernel
