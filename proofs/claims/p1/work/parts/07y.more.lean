/-! words and decode rows wanted later -/
theorem w_893 : Cond.methodLink "BallothallLaw" 169 ⟨"BallothallLaw", "type", "(LBallothall;J[J)I"⟩ ∈ WG := wg_t (wu4 (List.mem_of_getElem? (i := 173) rfl)) rfl
theorem w_894 : Cond.static ⟨"BallothallLaw", "type", "(LBallothall;J[J)I"⟩ ∈ WG := wg_t (wu4 (List.mem_of_getElem? (i := 174) rfl)) rfl
theorem w_895 : Cond.codeWith ⟨"BallothallLaw", "type", "(LBallothall;J[J)I"⟩ method_5_code 5 (some .int) [(0, 9, 12, 13)] ∈ WG := wg_t (wu4 (List.mem_of_getElem? (i := 175) rfl)) rfl
theorem w_896 : Cond.methodLink "BallothallLaw" 23 ⟨"Ballothall", "type", "(J)I"⟩ ∈ WG := wg_t (wu4 (List.mem_of_getElem? (i := 176) rfl)) rfl
theorem w_897 : Cond.instanceMethod ⟨"Ballothall", "type", "(J)I"⟩ ∈ WG := wg_t (wu4 (List.mem_of_getElem? (i := 177) rfl)) rfl
theorem w_898 : Cond.selects "Ballothall" ⟨"Ballothall", "type", "(J)I"⟩ ⟨"Ballothall", "type", "(J)I"⟩ ∈ WG := wg_t (wu4 (List.mem_of_getElem? (i := 178) rfl)) rfl
theorem w_899 : Cond.code ⟨"Ballothall", "type", "(J)I"⟩ prog_1_method_4_code 5 (some .int) ∈ WG := wg_t (wu4 (List.mem_of_getElem? (i := 179) rfl)) rfl
theorem w_900 : Cond.constantLong "Ballothall" 100 255 ∈ WG := wg_t (wu4 (List.mem_of_getElem? (i := 180) rfl)) rfl
theorem w_903 : Cond.instanceMethod ⟨"Ballothall$BallotBox", "appendSign", "(I)V"⟩ ∈ WG := wg_t (wu4 (List.mem_of_getElem? (i := 183) rfl)) rfl
theorem w_904 : Cond.code ⟨"Ballothall$BallotBox", "appendSign", "(I)V"⟩ prog_2_method_5_code 2 none ∈ WG := wg_t (wu4 (List.mem_of_getElem? (i := 184) rfl)) rfl
theorem w_1723 : Cond.methodLink "BallothallLaw" 172 ⟨"BallothallModel", "type", "(J)I"⟩ ∈ WG := wg_t (wu8 (List.mem_of_getElem? (i := 43) rfl)) rfl
theorem w_1724 : Cond.instanceMethod ⟨"BallothallModel", "type", "(J)I"⟩ ∈ WG := wg_t (wu8 (List.mem_of_getElem? (i := 44) rfl)) rfl
theorem w_1725 : Cond.selects "BallothallModel" ⟨"BallothallModel", "type", "(J)I"⟩ ⟨"BallothallModel", "type", "(J)I"⟩ ∈ WG := wg_t (wu8 (List.mem_of_getElem? (i := 45) rfl)) rfl
theorem w_1726 : Cond.code ⟨"BallothallModel", "type", "(J)I"⟩ prog_14_method_28_code 6 (some .int) ∈ WG := wg_t (wu8 (List.mem_of_getElem? (i := 46) rfl)) rfl
theorem w_1727 : Cond.constantLong "BallothallModel" 167 255 ∈ WG := wg_t (wu8 (List.mem_of_getElem? (i := 47) rfl)) rfl
theorem w_2532 : Cond.constantLong "BallothallLaw" 167 4294967295 ∈ WG := wg_t (wu11 (List.mem_of_getElem? (i := 132) rfl)) rfl
theorem w_s_aa5e63 : Cond.selects "Ballothall$BallotBox" ⟨"Ballothall$BallotBox", "appendSign", "(I)V"⟩ ⟨"Ballothall$BallotBox", "appendSign", "(I)V"⟩ ∈ WG := wg_s (List.mem_map.mpr ⟨_, wp4 (List.mem_of_getElem? (i := 9) rfl), rfl⟩) rfl
theorem n_901 : Cond.methodLinkNest "Ballothall" 105 ⟨"Ballothall$BallotBox", "appendSign", "(I)V"⟩ "Ballothall" ∈ lw_tbl := List.mem_append_right _ (wu4 (List.mem_of_getElem? (i := 181) rfl))
theorem md_267d2e : md_ok ⟨"BallothallModel", "type", "(J)I"⟩ 1 := by decide +kernel
theorem md_a743f4 : md_ok ⟨"BallothallLaw", "type", "(LBallothall;J[J)I"⟩ 3 := by decide +kernel
theorem md_dc90bd : md_ok ⟨"Ballothall$BallotBox", "appendSign", "(I)V"⟩ 1 := by decide +kernel
theorem md_de1341 : md_ok ⟨"Ballothall", "type", "(J)I"⟩ 1 := by decide +kernel
theorem d_L5_0 : decode method_5_code 0 = .ok (.aload_n 3, 1) := by decide +kernel
theorem d_L5_1 : decode method_5_code 1 = .ok (.iconst 0, 1) := by decide +kernel
theorem d_L5_2 : decode method_5_code 2 = .ok (.aload_n 0, 1) := by decide +kernel
theorem d_L5_3 : decode method_5_code 3 = .ok (.lload_n 1, 1) := by decide +kernel
theorem d_L5_4 : decode method_5_code 4 = .ok (.invokevirtual 23, 3) := by decide +kernel
theorem d_L5_7 : decode method_5_code 7 = .ok (.i2l, 1) := by decide +kernel
theorem d_L5_8 : decode method_5_code 8 = .ok (.lastore, 1) := by decide +kernel
theorem d_L5_9 : decode method_5_code 9 = .ok (.goto 7, 3) := by decide +kernel
theorem d_L5_16 : decode method_5_code 16 = .ok (.iconst 0, 1) := by decide +kernel
theorem d_L5_17 : decode method_5_code 17 = .ok (.ireturn, 1) := by decide +kernel
theorem d_14_28_0 : decode prog_14_method_28_code 0 = .ok (.iconst 0, 1) := by decide +kernel
theorem d_14_28_1 : decode prog_14_method_28_code 1 = .ok (.istore_n 3, 1) := by decide +kernel
theorem d_14_28_2 : decode prog_14_method_28_code 2 = .ok (.bipush 56, 2) := by decide +kernel
theorem d_14_28_4 : decode prog_14_method_28_code 4 = .ok (.istore 4, 2) := by decide +kernel
theorem d_14_28_6 : decode prog_14_method_28_code 6 = .ok (.iload 4, 2) := by decide +kernel
theorem d_14_28_8 : decode prog_14_method_28_code 8 = .ok (.ifCond .lt 30, 3) := by decide +kernel
theorem d_14_28_11 : decode prog_14_method_28_code 11 = .ok (.iload_n 3, 1) := by decide +kernel
theorem d_14_28_12 : decode prog_14_method_28_code 12 = .ok (.lload_n 1, 1) := by decide +kernel
theorem d_14_28_13 : decode prog_14_method_28_code 13 = .ok (.iload 4, 2) := by decide +kernel
theorem d_14_28_15 : decode prog_14_method_28_code 15 = .ok (.lushr, 1) := by decide +kernel
theorem d_14_28_16 : decode prog_14_method_28_code 16 = .ok (.ldc2_w 167, 3) := by decide +kernel
theorem d_14_28_19 : decode prog_14_method_28_code 19 = .ok (.land, 1) := by decide +kernel
theorem d_14_28_20 : decode prog_14_method_28_code 20 = .ok (.lconst 0, 1) := by decide +kernel
theorem d_14_28_21 : decode prog_14_method_28_code 21 = .ok (.lcmp, 1) := by decide +kernel
theorem d_14_28_22 : decode prog_14_method_28_code 22 = .ok (.ifCond .eq 7, 3) := by decide +kernel
theorem d_14_28_25 : decode prog_14_method_28_code 25 = .ok (.iconst 1, 1) := by decide +kernel
theorem d_14_28_26 : decode prog_14_method_28_code 26 = .ok (.goto 4, 3) := by decide +kernel
theorem d_14_28_29 : decode prog_14_method_28_code 29 = .ok (.iconst 0, 1) := by decide +kernel
theorem d_14_28_30 : decode prog_14_method_28_code 30 = .ok (.iadd, 1) := by decide +kernel
theorem d_14_28_31 : decode prog_14_method_28_code 31 = .ok (.istore_n 3, 1) := by decide +kernel
theorem d_14_28_32 : decode prog_14_method_28_code 32 = .ok (.iinc 4 (-8), 3) := by decide +kernel
theorem d_14_28_35 : decode prog_14_method_28_code 35 = .ok (.goto (-29), 3) := by decide +kernel
theorem d_14_28_38 : decode prog_14_method_28_code 38 = .ok (.aload_n 0, 1) := by decide +kernel
theorem d_14_28_39 : decode prog_14_method_28_code 39 = .ok (.aload_n 0, 1) := by decide +kernel
theorem d_14_28_40 : decode prog_14_method_28_code 40 = .ok (.getfield 169, 3) := by decide +kernel
theorem d_14_28_43 : decode prog_14_method_28_code 43 = .ok (.iload_n 3, 1) := by decide +kernel
theorem d_14_28_44 : decode prog_14_method_28_code 44 = .ok (.iadd, 1) := by decide +kernel
theorem d_14_28_45 : decode prog_14_method_28_code 45 = .ok (.bipush 30, 2) := by decide +kernel
theorem d_14_28_47 : decode prog_14_method_28_code 47 = .ok (.if_icmp .gt 7, 3) := by decide +kernel
theorem d_14_28_50 : decode prog_14_method_28_code 50 = .ok (.iconst 1, 1) := by decide +kernel
theorem d_14_28_51 : decode prog_14_method_28_code 51 = .ok (.goto 4, 3) := by decide +kernel
theorem d_14_28_55 : decode prog_14_method_28_code 55 = .ok (.iconst 1, 1) := by decide +kernel
theorem d_14_28_56 : decode prog_14_method_28_code 56 = .ok (.invokevirtual 150, 3) := by decide +kernel
theorem d_14_28_59 : decode prog_14_method_28_code 59 = .ok (.ifCond .eq 5, 3) := by decide +kernel
theorem d_14_28_64 : decode prog_14_method_28_code 64 = .ok (.bipush 56, 2) := by decide +kernel
theorem d_14_28_66 : decode prog_14_method_28_code 66 = .ok (.istore 4, 2) := by decide +kernel
theorem d_14_28_68 : decode prog_14_method_28_code 68 = .ok (.iload 4, 2) := by decide +kernel
theorem d_14_28_70 : decode prog_14_method_28_code 70 = .ok (.ifCond .lt 46, 3) := by decide +kernel
theorem d_14_28_73 : decode prog_14_method_28_code 73 = .ok (.lload_n 1, 1) := by decide +kernel
theorem d_14_28_74 : decode prog_14_method_28_code 74 = .ok (.iload 4, 2) := by decide +kernel
theorem d_14_28_76 : decode prog_14_method_28_code 76 = .ok (.lushr, 1) := by decide +kernel
theorem d_14_28_77 : decode prog_14_method_28_code 77 = .ok (.ldc2_w 167, 3) := by decide +kernel
theorem d_14_28_80 : decode prog_14_method_28_code 80 = .ok (.land, 1) := by decide +kernel
theorem d_14_28_81 : decode prog_14_method_28_code 81 = .ok (.l2i, 1) := by decide +kernel
theorem d_14_28_82 : decode prog_14_method_28_code 82 = .ok (.istore 5, 2) := by decide +kernel
theorem d_14_28_84 : decode prog_14_method_28_code 84 = .ok (.iload 5, 2) := by decide +kernel
theorem d_14_28_86 : decode prog_14_method_28_code 86 = .ok (.ifCond .eq 24, 3) := by decide +kernel
theorem d_14_28_89 : decode prog_14_method_28_code 89 = .ok (.aload_n 0, 1) := by decide +kernel
theorem d_14_28_90 : decode prog_14_method_28_code 90 = .ok (.getfield 108, 3) := by decide +kernel
theorem d_14_28_93 : decode prog_14_method_28_code 93 = .ok (.aload_n 0, 1) := by decide +kernel
theorem d_14_28_94 : decode prog_14_method_28_code 94 = .ok (.getfield 169, 3) := by decide +kernel
theorem d_14_28_97 : decode prog_14_method_28_code 97 = .ok (.iload 5, 2) := by decide +kernel
theorem d_14_28_99 : decode prog_14_method_28_code 99 = .ok (.iastore, 1) := by decide +kernel
theorem d_14_28_100 : decode prog_14_method_28_code 100 = .ok (.aload_n 0, 1) := by decide +kernel
theorem d_14_28_101 : decode prog_14_method_28_code 101 = .ok (.dup, 1) := by decide +kernel
theorem d_14_28_102 : decode prog_14_method_28_code 102 = .ok (.getfield 169, 3) := by decide +kernel
theorem d_14_28_105 : decode prog_14_method_28_code 105 = .ok (.iconst 1, 1) := by decide +kernel
theorem d_14_28_106 : decode prog_14_method_28_code 106 = .ok (.iadd, 1) := by decide +kernel
theorem d_14_28_107 : decode prog_14_method_28_code 107 = .ok (.putfield 169, 3) := by decide +kernel
theorem d_14_28_110 : decode prog_14_method_28_code 110 = .ok (.iinc 4 (-8), 3) := by decide +kernel
theorem d_14_28_113 : decode prog_14_method_28_code 113 = .ok (.goto (-45), 3) := by decide +kernel
theorem d_14_28_116 : decode prog_14_method_28_code 116 = .ok (.aload_n 0, 1) := by decide +kernel
theorem d_14_28_117 : decode prog_14_method_28_code 117 = .ok (.getfield 169, 3) := by decide +kernel
theorem d_14_28_120 : decode prog_14_method_28_code 120 = .ok (.ireturn, 1) := by decide +kernel
theorem d_1_4_0 : decode prog_1_method_4_code 0 = .ok (.iconst 0, 1) := by decide +kernel
theorem d_1_4_1 : decode prog_1_method_4_code 1 = .ok (.istore_n 3, 1) := by decide +kernel
theorem d_1_4_2 : decode prog_1_method_4_code 2 = .ok (.bipush 56, 2) := by decide +kernel
theorem d_1_4_4 : decode prog_1_method_4_code 4 = .ok (.istore 4, 2) := by decide +kernel
theorem d_1_4_6 : decode prog_1_method_4_code 6 = .ok (.iload 4, 2) := by decide +kernel
theorem d_1_4_8 : decode prog_1_method_4_code 8 = .ok (.ifCond .lt 25, 3) := by decide +kernel
theorem d_1_4_11 : decode prog_1_method_4_code 11 = .ok (.lload_n 1, 1) := by decide +kernel
theorem d_1_4_12 : decode prog_1_method_4_code 12 = .ok (.iload 4, 2) := by decide +kernel
theorem d_1_4_14 : decode prog_1_method_4_code 14 = .ok (.lshr, 1) := by decide +kernel
theorem d_1_4_15 : decode prog_1_method_4_code 15 = .ok (.ldc2_w 100, 3) := by decide +kernel
theorem d_1_4_18 : decode prog_1_method_4_code 18 = .ok (.land, 1) := by decide +kernel
theorem d_1_4_19 : decode prog_1_method_4_code 19 = .ok (.lconst 0, 1) := by decide +kernel
theorem d_1_4_20 : decode prog_1_method_4_code 20 = .ok (.lcmp, 1) := by decide +kernel
theorem d_1_4_21 : decode prog_1_method_4_code 21 = .ok (.ifCond .eq 6, 3) := by decide +kernel
theorem d_1_4_24 : decode prog_1_method_4_code 24 = .ok (.iinc 3 1, 3) := by decide +kernel
theorem d_1_4_27 : decode prog_1_method_4_code 27 = .ok (.iinc 4 (-8), 3) := by decide +kernel
theorem d_1_4_30 : decode prog_1_method_4_code 30 = .ok (.goto (-24), 3) := by decide +kernel
theorem d_1_4_33 : decode prog_1_method_4_code 33 = .ok (.aload_n 0, 1) := by decide +kernel
theorem d_1_4_34 : decode prog_1_method_4_code 34 = .ok (.getfield 12, 3) := by decide +kernel
theorem d_1_4_37 : decode prog_1_method_4_code 37 = .ok (.getfield 102, 3) := by decide +kernel
theorem d_1_4_40 : decode prog_1_method_4_code 40 = .ok (.iload_n 3, 1) := by decide +kernel
theorem d_1_4_41 : decode prog_1_method_4_code 41 = .ok (.iadd, 1) := by decide +kernel
theorem d_1_4_42 : decode prog_1_method_4_code 42 = .ok (.bipush 30, 2) := by decide +kernel
theorem d_1_4_44 : decode prog_1_method_4_code 44 = .ok (.invokestatic 79, 3) := by decide +kernel
theorem d_1_4_47 : decode prog_1_method_4_code 47 = .ok (.bipush 56, 2) := by decide +kernel
theorem d_1_4_49 : decode prog_1_method_4_code 49 = .ok (.istore 4, 2) := by decide +kernel
theorem d_1_4_51 : decode prog_1_method_4_code 51 = .ok (.iload 4, 2) := by decide +kernel
theorem d_1_4_53 : decode prog_1_method_4_code 53 = .ok (.ifCond .lt 25, 3) := by decide +kernel
theorem d_1_4_56 : decode prog_1_method_4_code 56 = .ok (.aload_n 0, 1) := by decide +kernel
theorem d_1_4_57 : decode prog_1_method_4_code 57 = .ok (.getfield 12, 3) := by decide +kernel
theorem d_1_4_60 : decode prog_1_method_4_code 60 = .ok (.lload_n 1, 1) := by decide +kernel
theorem d_1_4_61 : decode prog_1_method_4_code 61 = .ok (.iload 4, 2) := by decide +kernel
theorem d_1_4_63 : decode prog_1_method_4_code 63 = .ok (.lshr, 1) := by decide +kernel
theorem d_1_4_64 : decode prog_1_method_4_code 64 = .ok (.ldc2_w 100, 3) := by decide +kernel
theorem d_1_4_67 : decode prog_1_method_4_code 67 = .ok (.land, 1) := by decide +kernel
theorem d_1_4_68 : decode prog_1_method_4_code 68 = .ok (.l2i, 1) := by decide +kernel
theorem d_1_4_69 : decode prog_1_method_4_code 69 = .ok (.invokevirtual 105, 3) := by decide +kernel
theorem d_1_4_72 : decode prog_1_method_4_code 72 = .ok (.iinc 4 (-8), 3) := by decide +kernel
theorem d_1_4_75 : decode prog_1_method_4_code 75 = .ok (.goto (-24), 3) := by decide +kernel
theorem d_1_4_78 : decode prog_1_method_4_code 78 = .ok (.aload_n 0, 1) := by decide +kernel
theorem d_1_4_79 : decode prog_1_method_4_code 79 = .ok (.getfield 12, 3) := by decide +kernel
theorem d_1_4_82 : decode prog_1_method_4_code 82 = .ok (.getfield 102, 3) := by decide +kernel
theorem d_1_4_85 : decode prog_1_method_4_code 85 = .ok (.ireturn, 1) := by decide +kernel
theorem d_2_5_0 : decode prog_2_method_5_code 0 = .ok (.iload_n 1, 1) := by decide +kernel
theorem d_2_5_1 : decode prog_2_method_5_code 1 = .ok (.ifCond .eq 35, 3) := by decide +kernel
theorem d_2_5_4 : decode prog_2_method_5_code 4 = .ok (.aload_n 0, 1) := by decide +kernel
theorem d_2_5_5 : decode prog_2_method_5_code 5 = .ok (.getfield 39, 3) := by decide +kernel
theorem d_2_5_8 : decode prog_2_method_5_code 8 = .ok (.aload_n 0, 1) := by decide +kernel
theorem d_2_5_9 : decode prog_2_method_5_code 9 = .ok (.getfield 9, 3) := by decide +kernel
theorem d_2_5_12 : decode prog_2_method_5_code 12 = .ok (.arraylength, 1) := by decide +kernel
theorem d_2_5_13 : decode prog_2_method_5_code 13 = .ok (.if_icmp .ge 23, 3) := by decide +kernel
theorem d_2_5_16 : decode prog_2_method_5_code 16 = .ok (.aload_n 0, 1) := by decide +kernel
theorem d_2_5_17 : decode prog_2_method_5_code 17 = .ok (.getfield 9, 3) := by decide +kernel
theorem d_2_5_20 : decode prog_2_method_5_code 20 = .ok (.aload_n 0, 1) := by decide +kernel
theorem d_2_5_21 : decode prog_2_method_5_code 21 = .ok (.getfield 39, 3) := by decide +kernel
theorem d_2_5_24 : decode prog_2_method_5_code 24 = .ok (.iload_n 1, 1) := by decide +kernel
theorem d_2_5_25 : decode prog_2_method_5_code 25 = .ok (.iastore, 1) := by decide +kernel
theorem d_2_5_26 : decode prog_2_method_5_code 26 = .ok (.aload_n 0, 1) := by decide +kernel
theorem d_2_5_27 : decode prog_2_method_5_code 27 = .ok (.dup, 1) := by decide +kernel
theorem d_2_5_28 : decode prog_2_method_5_code 28 = .ok (.getfield 39, 3) := by decide +kernel
theorem d_2_5_31 : decode prog_2_method_5_code 31 = .ok (.iconst 1, 1) := by decide +kernel
theorem d_2_5_32 : decode prog_2_method_5_code 32 = .ok (.iadd, 1) := by decide +kernel
theorem d_2_5_33 : decode prog_2_method_5_code 33 = .ok (.putfield 39, 3) := by decide +kernel
theorem d_2_5_36 : decode prog_2_method_5_code 36 = .ok (.return_, 1) := by decide +kernel
theorem d_law_412 : decode code 412 = .ok (.aload_n 1, 1) := by decide +kernel
theorem d_law_413 : decode code 413 = .ok (.aload_n 0, 1) := by decide +kernel
theorem d_law_414 : decode code 414 = .ok (.iload 5, 2) := by decide +kernel
theorem d_law_416 : decode code 416 = .ok (.iconst 1, 1) := by decide +kernel
theorem d_law_417 : decode code 417 = .ok (.iadd, 1) := by decide +kernel
theorem d_law_418 : decode code 418 = .ok (.iaload, 1) := by decide +kernel
theorem d_law_419 : decode code 419 = .ok (.i2l, 1) := by decide +kernel
theorem d_law_420 : decode code 420 = .ok (.bipush 32, 2) := by decide +kernel
theorem d_law_422 : decode code 422 = .ok (.lshl, 1) := by decide +kernel
theorem d_law_423 : decode code 423 = .ok (.aload_n 0, 1) := by decide +kernel
theorem d_law_424 : decode code 424 = .ok (.iload 5, 2) := by decide +kernel
theorem d_law_426 : decode code 426 = .ok (.iconst 2, 1) := by decide +kernel
theorem d_law_427 : decode code 427 = .ok (.iadd, 1) := by decide +kernel
theorem d_law_428 : decode code 428 = .ok (.iaload, 1) := by decide +kernel
theorem d_law_429 : decode code 429 = .ok (.i2l, 1) := by decide +kernel
theorem d_law_430 : decode code 430 = .ok (.ldc2_w 167, 3) := by decide +kernel
theorem d_law_433 : decode code 433 = .ok (.land, 1) := by decide +kernel
theorem d_law_434 : decode code 434 = .ok (.lor, 1) := by decide +kernel
theorem d_law_435 : decode code 435 = .ok (.aload_n 3, 1) := by decide +kernel
theorem d_law_436 : decode code 436 = .ok (.invokestatic 169, 3) := by decide +kernel
theorem d_law_439 : decode code 439 = .ok (.istore 6, 2) := by decide +kernel
theorem d_law_441 : decode code 441 = .ok (.aload_n 2, 1) := by decide +kernel
theorem d_law_442 : decode code 442 = .ok (.aload_n 0, 1) := by decide +kernel
theorem d_law_443 : decode code 443 = .ok (.iload 5, 2) := by decide +kernel
theorem d_law_445 : decode code 445 = .ok (.iconst 1, 1) := by decide +kernel
theorem d_law_446 : decode code 446 = .ok (.iadd, 1) := by decide +kernel
theorem d_law_447 : decode code 447 = .ok (.iaload, 1) := by decide +kernel
theorem d_law_448 : decode code 448 = .ok (.i2l, 1) := by decide +kernel
theorem d_law_449 : decode code 449 = .ok (.bipush 32, 2) := by decide +kernel
theorem d_law_451 : decode code 451 = .ok (.lshl, 1) := by decide +kernel
theorem d_law_452 : decode code 452 = .ok (.aload_n 0, 1) := by decide +kernel
theorem d_law_453 : decode code 453 = .ok (.iload 5, 2) := by decide +kernel
theorem d_law_455 : decode code 455 = .ok (.iconst 2, 1) := by decide +kernel
theorem d_law_456 : decode code 456 = .ok (.iadd, 1) := by decide +kernel
theorem d_law_457 : decode code 457 = .ok (.iaload, 1) := by decide +kernel
theorem d_law_458 : decode code 458 = .ok (.i2l, 1) := by decide +kernel
theorem d_law_459 : decode code 459 = .ok (.ldc2_w 167, 3) := by decide +kernel
theorem d_law_462 : decode code 462 = .ok (.land, 1) := by decide +kernel
theorem d_law_463 : decode code 463 = .ok (.lor, 1) := by decide +kernel
theorem d_law_464 : decode code 464 = .ok (.invokevirtual 172, 3) := by decide +kernel
theorem d_law_467 : decode code 467 = .ok (.istore 7, 2) := by decide +kernel
theorem d_law_469 : decode code 469 = .ok (.aload_n 2, 1) := by decide +kernel
theorem d_law_470 : decode code 470 = .ok (.invokevirtual 160, 3) := by decide +kernel
theorem d_law_473 : decode code 473 = .ok (.iload 6, 2) := by decide +kernel
theorem d_law_475 : decode code 475 = .ok (.if_icmp .eq 5, 3) := by decide +kernel
theorem d_law_480 : decode code 480 = .ok (.iload 6, 2) := by decide +kernel
theorem d_law_482 : decode code 482 = .ok (.ifCond .ne 15, 3) := by decide +kernel
theorem d_law_485 : decode code 485 = .ok (.aload_n 3, 1) := by decide +kernel
theorem d_law_486 : decode code 486 = .ok (.iconst 0, 1) := by decide +kernel
theorem d_law_487 : decode code 487 = .ok (.laload, 1) := by decide +kernel
theorem d_law_488 : decode code 488 = .ok (.iload 7, 2) := by decide +kernel
theorem d_law_490 : decode code 490 = .ok (.i2l, 1) := by decide +kernel
theorem d_law_491 : decode code 491 = .ok (.lcmp, 1) := by decide +kernel
theorem d_law_492 : decode code 492 = .ok (.ifCond .eq 5, 3) := by decide +kernel
theorem d_law_497 : decode code 497 = .ok (.goto 2575, 3) := by decide +kernel
