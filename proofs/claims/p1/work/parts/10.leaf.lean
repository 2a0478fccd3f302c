/-! leaves of the class -/
abbrev y_S_isLine : MI := (⟨"SinglesUp", "isLine", "(I)Z"⟩, prog_1_method_35_code, 1, some .boolean)
theorem d_S_isLine_0 : decode y_S_isLine.2.1 0 = .ok (.iload_n 0, 1) := by decide +kernel
theorem d_S_isLine_1 : decode y_S_isLine.2.1 1 = .ok (.ifCond .lt 13, 3) := by decide +kernel
theorem d_S_isLine_14 : decode y_S_isLine.2.1 14 = .ok (.iconst 0, 1) := by decide +kernel
theorem ci_0 : Int32.ofInt 0 = nI 0 := by decide +kernel
theorem d_S_isLine_15 : decode y_S_isLine.2.1 15 = .ok (.ireturn, 1) := by decide +kernel
theorem d_S_isLine_4 : decode y_S_isLine.2.1 4 = .ok (.iload_n 0, 1) := by decide +kernel
theorem d_S_isLine_5 : decode y_S_isLine.2.1 5 = .ok (.bipush 6, 2) := by decide +kernel
theorem cb_6 : (Int8.ofInt 6).toInt32 = nI 6 := by decide +kernel
theorem d_S_isLine_7 : decode y_S_isLine.2.1 7 = .ok (.if_icmp .ge 7, 3) := by decide +kernel
theorem d_S_isLine_10 : decode y_S_isLine.2.1 10 = .ok (.iconst 1, 1) := by decide +kernel
theorem ci_1 : Int32.ofInt 1 = nI 1 := by decide +kernel
theorem d_S_isLine_11 : decode y_S_isLine.2.1 11 = .ok (.goto 4, 3) := by decide +kernel
abbrev y_S_canBe : MI := (⟨"SinglesUp", "canBe", "(III)Z"⟩, prog_1_method_37_code, 3, some .boolean)
theorem d_S_canBe_0 : decode y_S_canBe.2.1 0 = .ok (.iload_n 0, 1) := by decide +kernel
theorem d_S_canBe_1 : decode y_S_canBe.2.1 1 = .ok (.iconst 1, 1) := by decide +kernel
theorem d_S_canBe_2 : decode y_S_canBe.2.1 2 = .ok (.if_icmp .lt 32, 3) := by decide +kernel
theorem d_S_canBe_34 : decode y_S_canBe.2.1 34 = .ok (.iconst 0, 1) := by decide +kernel
theorem d_S_canBe_35 : decode y_S_canBe.2.1 35 = .ok (.ireturn, 1) := by decide +kernel
theorem d_S_canBe_5 : decode y_S_canBe.2.1 5 = .ok (.iload_n 0, 1) := by decide +kernel
theorem d_S_canBe_6 : decode y_S_canBe.2.1 6 = .ok (.bipush 8, 2) := by decide +kernel
theorem cb_8 : (Int8.ofInt 8).toInt32 = nI 8 := by decide +kernel
theorem d_S_canBe_8 : decode y_S_canBe.2.1 8 = .ok (.if_icmp .gt 26, 3) := by decide +kernel
theorem d_S_canBe_11 : decode y_S_canBe.2.1 11 = .ok (.iload_n 1, 1) := by decide +kernel
theorem d_S_canBe_12 : decode y_S_canBe.2.1 12 = .ok (.iconst 1, 1) := by decide +kernel
theorem d_S_canBe_13 : decode y_S_canBe.2.1 13 = .ok (.if_icmp .lt 21, 3) := by decide +kernel
theorem d_S_canBe_16 : decode y_S_canBe.2.1 16 = .ok (.iload_n 1, 1) := by decide +kernel
theorem d_S_canBe_17 : decode y_S_canBe.2.1 17 = .ok (.iload_n 0, 1) := by decide +kernel
theorem d_S_canBe_18 : decode y_S_canBe.2.1 18 = .ok (.if_icmp .gt 16, 3) := by decide +kernel
theorem d_S_canBe_21 : decode y_S_canBe.2.1 21 = .ok (.iload_n 2, 1) := by decide +kernel
theorem d_S_canBe_22 : decode y_S_canBe.2.1 22 = .ok (.ifCond .lt 12, 3) := by decide +kernel
theorem d_S_canBe_25 : decode y_S_canBe.2.1 25 = .ok (.iload_n 2, 1) := by decide +kernel
theorem d_S_canBe_26 : decode y_S_canBe.2.1 26 = .ok (.iconst 3, 1) := by decide +kernel
theorem ci_3 : Int32.ofInt 3 = nI 3 := by decide +kernel
theorem d_S_canBe_27 : decode y_S_canBe.2.1 27 = .ok (.if_icmp .gt 7, 3) := by decide +kernel
theorem d_S_canBe_30 : decode y_S_canBe.2.1 30 = .ok (.iconst 1, 1) := by decide +kernel
theorem d_S_canBe_31 : decode y_S_canBe.2.1 31 = .ok (.goto 4, 3) := by decide +kernel
abbrev y_JM_min : MI := (⟨"java/lang/Math", "min", "(II)I"⟩, prog_13_method_69_code, 2, some .int)
theorem d_JM_min_0 : decode y_JM_min.2.1 0 = .ok (.iload_n 0, 1) := by decide +kernel
theorem d_JM_min_1 : decode y_JM_min.2.1 1 = .ok (.iload_n 1, 1) := by decide +kernel
theorem d_JM_min_2 : decode y_JM_min.2.1 2 = .ok (.if_icmp .gt 7, 3) := by decide +kernel
theorem d_JM_min_9 : decode y_JM_min.2.1 9 = .ok (.iload_n 1, 1) := by decide +kernel
theorem d_JM_min_10 : decode y_JM_min.2.1 10 = .ok (.ireturn, 1) := by decide +kernel
theorem d_JM_min_5 : decode y_JM_min.2.1 5 = .ok (.iload_n 0, 1) := by decide +kernel
theorem d_JM_min_6 : decode y_JM_min.2.1 6 = .ok (.goto 4, 3) := by decide +kernel
abbrev y_JM_max : MI := (⟨"java/lang/Math", "max", "(II)I"⟩, prog_13_method_65_code, 2, some .int)
theorem d_JM_max_0 : decode y_JM_max.2.1 0 = .ok (.iload_n 0, 1) := by decide +kernel
theorem d_JM_max_1 : decode y_JM_max.2.1 1 = .ok (.iload_n 1, 1) := by decide +kernel
theorem d_JM_max_2 : decode y_JM_max.2.1 2 = .ok (.if_icmp .lt 7, 3) := by decide +kernel
theorem d_JM_max_9 : decode y_JM_max.2.1 9 = .ok (.iload_n 1, 1) := by decide +kernel
theorem d_JM_max_10 : decode y_JM_max.2.1 10 = .ok (.ireturn, 1) := by decide +kernel
theorem d_JM_max_5 : decode y_JM_max.2.1 5 = .ok (.iload_n 0, 1) := by decide +kernel
theorem d_JM_max_6 : decode y_JM_max.2.1 6 = .ok (.goto 4, 3) := by decide +kernel
abbrev y_JM_floorMod : MI := (⟨"java/lang/Math", "floorMod", "(II)I"⟩, prog_13_method_50_code, 3, some .int)
theorem d_JM_floorMod_0 : decode y_JM_floorMod.2.1 0 = .ok (.iload_n 0, 1) := by decide +kernel
theorem d_JM_floorMod_1 : decode y_JM_floorMod.2.1 1 = .ok (.iload_n 1, 1) := by decide +kernel
theorem d_JM_floorMod_2 : decode y_JM_floorMod.2.1 2 = .ok (.irem, 1) := by decide +kernel
theorem d_JM_floorMod_3 : decode y_JM_floorMod.2.1 3 = .ok (.istore_n 2, 1) := by decide +kernel
theorem d_JM_floorMod_4 : decode y_JM_floorMod.2.1 4 = .ok (.iload_n 0, 1) := by decide +kernel
theorem d_JM_floorMod_5 : decode y_JM_floorMod.2.1 5 = .ok (.iload_n 1, 1) := by decide +kernel
theorem d_JM_floorMod_6 : decode y_JM_floorMod.2.1 6 = .ok (.ixor, 1) := by decide +kernel
theorem d_JM_floorMod_7 : decode y_JM_floorMod.2.1 7 = .ok (.ifCond .ge 11, 3) := by decide +kernel
theorem d_JM_floorMod_18 : decode y_JM_floorMod.2.1 18 = .ok (.iload_n 2, 1) := by decide +kernel
theorem d_JM_floorMod_19 : decode y_JM_floorMod.2.1 19 = .ok (.ireturn, 1) := by decide +kernel
abbrev y_H_pastAt : MI := (⟨"SinglesUp$Hill", "pastAt", "(I)I"⟩, prog_4_method_12_code, 1, some .int)
theorem d_H_pastAt_0 : decode y_H_pastAt.2.1 0 = .ok (.iload_n 0, 1) := by decide +kernel
theorem d_H_pastAt_1 : decode y_H_pastAt.2.1 1 = .ok (.bipush 60, 2) := by decide +kernel
theorem cb_60 : (Int8.ofInt 60).toInt32 = nI 60 := by decide +kernel
theorem d_H_pastAt_3 : decode y_H_pastAt.2.1 3 = .ok (.invokestatic 119, 3) := by decide +kernel
theorem lk_H_119 : LkS "SinglesUp$Hill" 119 y_JM_floorMod := ⟨tw_in 864 (by decide +kernel) rfl, Or.inl (tw_in 863 (by decide +kernel) rfl)⟩
theorem mo_JM_floorMod : MOk y_JM_floorMod 2 := ⟨by decide +kernel, tw_in 865 (by decide +kernel) rfl, tw_in 113 (by decide +kernel) rfl, by decide +kernel, by decide +kernel, by decide +kernel⟩
theorem d_H_pastAt_6 : decode y_H_pastAt.2.1 6 = .ok (.iconst 3, 1) := by decide +kernel
theorem d_H_pastAt_7 : decode y_H_pastAt.2.1 7 = .ok (.imul, 1) := by decide +kernel
theorem d_H_pastAt_8 : decode y_H_pastAt.2.1 8 = .ok (.ireturn, 1) := by decide +kernel
abbrev y_C_clear : MI := (⟨"SinglesUp$Chair", "clear", "(I)V"⟩, prog_2_method_2_code, 2, none)
theorem d_C_clear_0 : decode y_C_clear.2.1 0 = .ok (.aload_n 0, 1) := by decide +kernel
theorem d_C_clear_1 : decode y_C_clear.2.1 1 = .ok (.getfield 9, 3) := by decide +kernel
theorem fl_C_9 : FL "SinglesUp$Chair" 9 0 0 := ⟨"SinglesUp$Chair", zT0, 12, rfl, by decide, rfl, Or.inl (tw_in 258 (by decide +kernel) rfl)⟩
theorem kc_130 : KC[130]? = some (3, 12) := by decide +kernel
theorem rc_130_0 : RC 130 0 = some 131 := by decide +kernel
theorem d_C_clear_4 : decode y_C_clear.2.1 4 = .ok (.iconst 0, 1) := by decide +kernel
theorem d_C_clear_5 : decode y_C_clear.2.1 5 = .ok (.invokestatic 34, 3) := by decide +kernel
abbrev y_JA_fill : MI := (⟨"java/util/Arrays", "fill", "([II)V"⟩, prog_18_method_103_code, 4, none)
theorem lk_C_34 : LkS "SinglesUp$Chair" 34 y_JA_fill := ⟨tw_in 138 (by decide +kernel) rfl, Or.inl (tw_in 475 (by decide +kernel) rfl)⟩
theorem mo_JA_fill : MOk y_JA_fill 2 := ⟨by decide +kernel, tw_in 139 (by decide +kernel) rfl, tw_in 100 (by decide +kernel) rfl, by decide +kernel, by decide +kernel, by decide +kernel⟩
theorem d_JA_fill_5 : decode y_JA_fill.2.1 5 = .ok (.iload_n 2, 1) := by decide +kernel
theorem d_JA_fill_6 : decode y_JA_fill.2.1 6 = .ok (.iload_n 3, 1) := by decide +kernel
theorem d_JA_fill_7 : decode y_JA_fill.2.1 7 = .ok (.if_icmp .ge 13, 3) := by decide +kernel
theorem d_JA_fill_20 : decode y_JA_fill.2.1 20 = .ok (.return_, 1) := by decide +kernel
theorem d_JA_fill_10 : decode y_JA_fill.2.1 10 = .ok (.aload_n 0, 1) := by decide +kernel
theorem d_JA_fill_11 : decode y_JA_fill.2.1 11 = .ok (.iload_n 2, 1) := by decide +kernel
theorem d_JA_fill_12 : decode y_JA_fill.2.1 12 = .ok (.iload_n 1, 1) := by decide +kernel
theorem d_JA_fill_13 : decode y_JA_fill.2.1 13 = .ok (.iastore, 1) := by decide +kernel
theorem kc_131 : KC[131]? = some (0, 240) := by decide +kernel
theorem d_JA_fill_14 : decode y_JA_fill.2.1 14 = .ok (.iinc 2 1, 3) := by decide +kernel
theorem inc_1 (x : Nat) : nI x + Int32.ofInt 1 = nI (x + 1) := by rw [show Int32.ofInt 1 = nI 1 by decide +kernel]; exact nI_add x 1
theorem d_JA_fill_17 : decode y_JA_fill.2.1 17 = .ok (.goto (-12), 3) := by decide +kernel
theorem d_JA_fill_0 : decode y_JA_fill.2.1 0 = .ok (.iconst 0, 1) := by decide +kernel
theorem d_JA_fill_1 : decode y_JA_fill.2.1 1 = .ok (.istore_n 2, 1) := by decide +kernel
theorem d_JA_fill_2 : decode y_JA_fill.2.1 2 = .ok (.aload_n 0, 1) := by decide +kernel
theorem d_JA_fill_3 : decode y_JA_fill.2.1 3 = .ok (.arraylength, 1) := by decide +kernel
theorem d_JA_fill_4 : decode y_JA_fill.2.1 4 = .ok (.istore_n 3, 1) := by decide +kernel
theorem d_C_clear_8 : decode y_C_clear.2.1 8 = .ok (.aload_n 0, 1) := by decide +kernel
theorem d_C_clear_9 : decode y_C_clear.2.1 9 = .ok (.iload_n 1, 1) := by decide +kernel
theorem d_C_clear_10 : decode y_C_clear.2.1 10 = .ok (.putfield 30, 3) := by decide +kernel
theorem fl_C_30 : FL "SinglesUp$Chair" 30 0 7 := ⟨"SinglesUp$Chair", zT0, 12, rfl, by decide, rfl, Or.inl (tw_in 265 (by decide +kernel) rfl)⟩
theorem d_C_clear_13 : decode y_C_clear.2.1 13 = .ok (.aload_n 0, 1) := by decide +kernel
theorem d_C_clear_14 : decode y_C_clear.2.1 14 = .ok (.iconst 0, 1) := by decide +kernel
theorem d_C_clear_15 : decode y_C_clear.2.1 15 = .ok (.putfield 40, 3) := by decide +kernel
theorem fl_C_40 : FL "SinglesUp$Chair" 40 0 8 := ⟨"SinglesUp$Chair", zT0, 12, rfl, by decide, rfl, Or.inl (tw_in 266 (by decide +kernel) rfl)⟩
theorem d_C_clear_18 : decode y_C_clear.2.1 18 = .ok (.aload_n 0, 1) := by decide +kernel
theorem d_C_clear_19 : decode y_C_clear.2.1 19 = .ok (.iconst 0, 1) := by decide +kernel
theorem d_C_clear_20 : decode y_C_clear.2.1 20 = .ok (.putfield 43, 3) := by decide +kernel
theorem fl_C_43 : FL "SinglesUp$Chair" 43 0 9 := ⟨"SinglesUp$Chair", zT0, 12, rfl, by decide, rfl, Or.inl (tw_in 268 (by decide +kernel) rfl)⟩
theorem d_C_clear_23 : decode y_C_clear.2.1 23 = .ok (.aload_n 0, 1) := by decide +kernel
theorem d_C_clear_24 : decode y_C_clear.2.1 24 = .ok (.iconst 0, 1) := by decide +kernel
theorem d_C_clear_25 : decode y_C_clear.2.1 25 = .ok (.putfield 46, 3) := by decide +kernel
theorem fl_C_46 : FL "SinglesUp$Chair" 46 0 10 := ⟨"SinglesUp$Chair", zT0, 12, rfl, by decide, rfl, Or.inl (tw_in 269 (by decide +kernel) rfl)⟩
theorem d_C_clear_28 : decode y_C_clear.2.1 28 = .ok (.aload_n 0, 1) := by decide +kernel
theorem d_C_clear_29 : decode y_C_clear.2.1 29 = .ok (.iconst 0, 1) := by decide +kernel
theorem d_C_clear_30 : decode y_C_clear.2.1 30 = .ok (.putfield 50, 3) := by decide +kernel
theorem fl_C_50 : FL "SinglesUp$Chair" 50 0 11 := ⟨"SinglesUp$Chair", zT0, 12, rfl, by decide, rfl, Or.inl (tw_in 270 (by decide +kernel) rfl)⟩
theorem d_C_clear_33 : decode y_C_clear.2.1 33 = .ok (.return_, 1) := by decide +kernel
abbrev y_L_listSeen : MI := (⟨"SinglesUp$Lines", "listSeen", "([II)I"⟩, prog_6_method_6_code, 7, some .int)
theorem d_L_listSeen_0 : decode y_L_listSeen.2.1 0 = .ok (.iconst 0, 1) := by decide +kernel
theorem d_L_listSeen_1 : decode y_L_listSeen.2.1 1 = .ok (.istore_n 3, 1) := by decide +kernel
theorem d_L_listSeen_2 : decode y_L_listSeen.2.1 2 = .ok (.iconst 0, 1) := by decide +kernel
theorem d_L_listSeen_3 : decode y_L_listSeen.2.1 3 = .ok (.istore 4, 2) := by decide +kernel
theorem d_L_listSeen_5 : decode y_L_listSeen.2.1 5 = .ok (.iload 4, 2) := by decide +kernel
theorem d_L_listSeen_7 : decode y_L_listSeen.2.1 7 = .ok (.bipush 6, 2) := by decide +kernel
theorem d_L_listSeen_9 : decode y_L_listSeen.2.1 9 = .ok (.if_icmp .ge 76, 3) := by decide +kernel
theorem d_L_listSeen_12 : decode y_L_listSeen.2.1 12 = .ok (.aload_n 0, 1) := by decide +kernel
theorem d_L_listSeen_13 : decode y_L_listSeen.2.1 13 = .ok (.getfield 15, 3) := by decide +kernel
theorem fl_L_15 : FL "SinglesUp$Lines" 15 4 1 := ⟨"SinglesUp$Lines", zT4, 3, rfl, by decide, rfl, Or.inl (tw_in 142 (by decide +kernel) rfl)⟩
theorem kc_7 : KC[7]? = some (7, 3) := by decide +kernel
theorem rc_7_1 : RC 7 1 = some 9 := by decide +kernel
theorem d_L_listSeen_16 : decode y_L_listSeen.2.1 16 = .ok (.iload 4, 2) := by decide +kernel
theorem d_L_listSeen_18 : decode y_L_listSeen.2.1 18 = .ok (.iaload, 1) := by decide +kernel
theorem kc_9 : KC[9]? = some (0, 6) := by decide +kernel
theorem d_L_listSeen_19 : decode y_L_listSeen.2.1 19 = .ok (.aload_n 0, 1) := by decide +kernel
theorem d_L_listSeen_20 : decode y_L_listSeen.2.1 20 = .ok (.getfield 18, 3) := by decide +kernel
theorem fl_L_18 : FL "SinglesUp$Lines" 18 4 2 := ⟨"SinglesUp$Lines", zT4, 3, rfl, by decide, rfl, Or.inl (tw_in 145 (by decide +kernel) rfl)⟩
theorem rc_7_2 : RC 7 2 = some 10 := by decide +kernel
theorem d_L_listSeen_23 : decode y_L_listSeen.2.1 23 = .ok (.iload 4, 2) := by decide +kernel
theorem d_L_listSeen_25 : decode y_L_listSeen.2.1 25 = .ok (.iaload, 1) := by decide +kernel
theorem kc_10 : KC[10]? = some (0, 6) := by decide +kernel
theorem d_L_listSeen_26 : decode y_L_listSeen.2.1 26 = .ok (.iload 4, 2) := by decide +kernel
theorem d_L_listSeen_28 : decode y_L_listSeen.2.1 28 = .ok (.iload_n 2, 1) := by decide +kernel
theorem d_L_listSeen_29 : decode y_L_listSeen.2.1 29 = .ok (.if_icmp .ne 7, 3) := by decide +kernel
theorem d_L_listSeen_36 : decode y_L_listSeen.2.1 36 = .ok (.iconst 0, 1) := by decide +kernel
theorem d_L_listSeen_37 : decode y_L_listSeen.2.1 37 = .ok (.iadd, 1) := by decide +kernel
theorem d_L_listSeen_38 : decode y_L_listSeen.2.1 38 = .ok (.invokestatic 37, 3) := by decide +kernel
theorem lk_L_37 : LkS "SinglesUp$Lines" 37 y_JM_min := ⟨tw_in 622 (by decide +kernel) rfl, Or.inl (tw_in 785 (by decide +kernel) rfl)⟩
theorem mo_JM_min : MOk y_JM_min 2 := ⟨by decide +kernel, tw_in 623 (by decide +kernel) rfl, tw_in 113 (by decide +kernel) rfl, by decide +kernel, by decide +kernel, by decide +kernel⟩
theorem d_L_listSeen_41 : decode y_L_listSeen.2.1 41 = .ok (.istore 5, 2) := by decide +kernel
theorem d_L_listSeen_43 : decode y_L_listSeen.2.1 43 = .ok (.iconst 0, 1) := by decide +kernel
theorem d_L_listSeen_44 : decode y_L_listSeen.2.1 44 = .ok (.istore 6, 2) := by decide +kernel
theorem d_L_listSeen_46 : decode y_L_listSeen.2.1 46 = .ok (.iload 6, 2) := by decide +kernel
theorem d_L_listSeen_48 : decode y_L_listSeen.2.1 48 = .ok (.iload 5, 2) := by decide +kernel
theorem d_L_listSeen_50 : decode y_L_listSeen.2.1 50 = .ok (.if_icmp .ge 29, 3) := by decide +kernel
theorem d_L_listSeen_79 : decode y_L_listSeen.2.1 79 = .ok (.iinc 4 1, 3) := by decide +kernel
theorem d_L_listSeen_82 : decode y_L_listSeen.2.1 82 = .ok (.goto (-77), 3) := by decide +kernel
theorem d_L_listSeen_85 : decode y_L_listSeen.2.1 85 = .ok (.iload_n 3, 1) := by decide +kernel
theorem d_L_listSeen_86 : decode y_L_listSeen.2.1 86 = .ok (.ireturn, 1) := by decide +kernel
abbrev y_C_mostPassed : MI := (⟨"SinglesUp$Chair", "mostPassed", "(LSinglesUp$Hill;)I"⟩, prog_2_method_8_code, 7, some .int)
theorem d_C_mostPassed_0 : decode y_C_mostPassed.2.1 0 = .ok (.aload_n 1, 1) := by decide +kernel
theorem d_C_mostPassed_1 : decode y_C_mostPassed.2.1 1 = .ok (.getfield 65, 3) := by decide +kernel
theorem fl_C_65 : FL "SinglesUp$Chair" 65 2 0 := ⟨"SinglesUp$Hill", zT2, 14, rfl, by decide, rfl, Or.inr ⟨"SinglesUp", nw_in 88 (by decide +kernel) rfl⟩⟩
theorem kc_1 : KC[1]? = some (5, 14) := by decide +kernel
theorem rc_1_0 : RC 1 0 = some 2 := by decide +kernel
theorem d_C_mostPassed_4 : decode y_C_mostPassed.2.1 4 = .ok (.iconst 4, 1) := by decide +kernel
theorem ci_4 : Int32.ofInt 4 = nI 4 := by decide +kernel
theorem d_C_mostPassed_5 : decode y_C_mostPassed.2.1 5 = .ok (.iaload, 1) := by decide +kernel
theorem kc_2 : KC[2]? = some (0, 6) := by decide +kernel
theorem d_C_mostPassed_6 : decode y_C_mostPassed.2.1 6 = .ok (.istore_n 2, 1) := by decide +kernel
theorem d_C_mostPassed_7 : decode y_C_mostPassed.2.1 7 = .ok (.iload_n 2, 1) := by decide +kernel
theorem d_C_mostPassed_8 : decode y_C_mostPassed.2.1 8 = .ok (.iconst 1, 1) := by decide +kernel
theorem d_C_mostPassed_9 : decode y_C_mostPassed.2.1 9 = .ok (.isub, 1) := by decide +kernel
theorem d_C_mostPassed_10 : decode y_C_mostPassed.2.1 10 = .ok (.istore_n 3, 1) := by decide +kernel
theorem d_C_mostPassed_11 : decode y_C_mostPassed.2.1 11 = .ok (.iconst (-1), 1) := by decide +kernel
theorem d_C_mostPassed_12 : decode y_C_mostPassed.2.1 12 = .ok (.istore 4, 2) := by decide +kernel
theorem d_C_mostPassed_14 : decode y_C_mostPassed.2.1 14 = .ok (.iconst 0, 1) := by decide +kernel
theorem d_C_mostPassed_15 : decode y_C_mostPassed.2.1 15 = .ok (.istore 5, 2) := by decide +kernel
theorem d_C_mostPassed_17 : decode y_C_mostPassed.2.1 17 = .ok (.iload 5, 2) := by decide +kernel
theorem d_C_mostPassed_19 : decode y_C_mostPassed.2.1 19 = .ok (.aload_n 0, 1) := by decide +kernel
theorem d_C_mostPassed_20 : decode y_C_mostPassed.2.1 20 = .ok (.getfield 82, 3) := by decide +kernel
theorem fl_C_82 : FL "SinglesUp$Chair" 82 0 5 := ⟨"SinglesUp$Chair", zT0, 12, rfl, by decide, rfl, Or.inl (tw_in 263 (by decide +kernel) rfl)⟩
theorem d_C_mostPassed_23 : decode y_C_mostPassed.2.1 23 = .ok (.if_icmp .ge 71, 3) := by decide +kernel
theorem d_C_mostPassed_94 : decode y_C_mostPassed.2.1 94 = .ok (.iload 4, 2) := by decide +kernel
theorem d_C_mostPassed_96 : decode y_C_mostPassed.2.1 96 = .ok (.ireturn, 1) := by decide +kernel
abbrev y_H_lawInForce : MI := (⟨"SinglesUp$Hill", "lawInForce", "()LSinglesUp$Law;"⟩, prog_4_method_8_code, 2, some (.object "SinglesUp$Law"))
theorem d_H_lawInForce_0 : decode y_H_lawInForce.2.1 0 = .ok (.aload_n 0, 1) := by decide +kernel
theorem d_H_lawInForce_1 : decode y_H_lawInForce.2.1 1 = .ok (.getfield 9, 3) := by decide +kernel
theorem fl_H_9 : FL "SinglesUp$Hill" 9 2 0 := ⟨"SinglesUp$Hill", zT2, 14, rfl, by decide, rfl, Or.inl (tw_in 180 (by decide +kernel) rfl)⟩
theorem d_H_lawInForce_4 : decode y_H_lawInForce.2.1 4 = .ok (.iconst 5, 1) := by decide +kernel
theorem ci_5 : Int32.ofInt 5 = nI 5 := by decide +kernel
theorem d_H_lawInForce_5 : decode y_H_lawInForce.2.1 5 = .ok (.iaload, 1) := by decide +kernel
theorem d_H_lawInForce_6 : decode y_H_lawInForce.2.1 6 = .ok (.istore_n 1, 1) := by decide +kernel
theorem d_H_lawInForce_7 : decode y_H_lawInForce.2.1 7 = .ok (.aload_n 0, 1) := by decide +kernel
theorem d_H_lawInForce_8 : decode y_H_lawInForce.2.1 8 = .ok (.getfield 17, 3) := by decide +kernel
theorem fl_H_17 : FL "SinglesUp$Hill" 17 2 1 := ⟨"SinglesUp$Hill", zT2, 14, rfl, by decide, rfl, Or.inl (tw_in 185 (by decide +kernel) rfl)⟩
theorem rc_1_1 : RC 1 1 = some 3 := by decide +kernel
theorem d_H_lawInForce_11 : decode y_H_lawInForce.2.1 11 = .ok (.iload_n 1, 1) := by decide +kernel
theorem d_H_lawInForce_12 : decode y_H_lawInForce.2.1 12 = .ok (.ifCond .lt 12, 3) := by decide +kernel
theorem d_H_lawInForce_15 : decode y_H_lawInForce.2.1 15 = .ok (.iload_n 1, 1) := by decide +kernel
theorem d_H_lawInForce_16 : decode y_H_lawInForce.2.1 16 = .ok (.iconst 4, 1) := by decide +kernel
theorem d_H_lawInForce_17 : decode y_H_lawInForce.2.1 17 = .ok (.if_icmp .ge 7, 3) := by decide +kernel
theorem d_H_lawInForce_20 : decode y_H_lawInForce.2.1 20 = .ok (.iload_n 1, 1) := by decide +kernel
theorem d_H_lawInForce_21 : decode y_H_lawInForce.2.1 21 = .ok (.goto 4, 3) := by decide +kernel
theorem d_H_lawInForce_25 : decode y_H_lawInForce.2.1 25 = .ok (.aaload, 1) := by decide +kernel
theorem kc_3 : KC[3]? = some (2, 5) := by decide +kernel
theorem rc_3_0 : RC 3 0 = some 16 := by decide +kernel
theorem d_H_lawInForce_26 : decode y_H_lawInForce.2.1 26 = .ok (.areturn, 1) := by decide +kernel
theorem rc_3_1 : RC 3 1 = some 21 := by decide +kernel
theorem rc_3_2 : RC 3 2 = some 26 := by decide +kernel
theorem rc_3_3 : RC 3 3 = some 31 := by decide +kernel
abbrev y_C_worthiest : MI := (⟨"SinglesUp$Chair", "worthiest", "(LSinglesUp$Hill;Z)I"⟩, prog_2_method_9_code, 7, some .int)
theorem d_C_worthiest_0 : decode y_C_worthiest.2.1 0 = .ok (.aload_n 1, 1) := by decide +kernel
theorem d_C_worthiest_1 : decode y_C_worthiest.2.1 1 = .ok (.invokevirtual 115, 3) := by decide +kernel
theorem lk_C_115 : LkV "SinglesUp$Chair" 115 y_H_lawInForce := ⟨tw_in 787 (by decide +kernel) rfl, tw_in 788 (by decide +kernel) rfl, Or.inl (tw_in 899 (by decide +kernel) rfl)⟩
theorem mo_H_lawInForce : MOk y_H_lawInForce 0 := ⟨by decide +kernel, tw_in 789 (by decide +kernel) rfl, tw_in 98 (by decide +kernel) rfl, by decide +kernel, by decide +kernel, by decide +kernel⟩
theorem d_C_worthiest_4 : decode y_C_worthiest.2.1 4 = .ok (.astore_n 3, 1) := by decide +kernel
theorem d_C_worthiest_5 : decode y_C_worthiest.2.1 5 = .ok (.iconst 0, 1) := by decide +kernel
theorem d_C_worthiest_6 : decode y_C_worthiest.2.1 6 = .ok (.istore 4, 2) := by decide +kernel
theorem d_C_worthiest_8 : decode y_C_worthiest.2.1 8 = .ok (.iconst (-1), 1) := by decide +kernel
theorem d_C_worthiest_9 : decode y_C_worthiest.2.1 9 = .ok (.istore 5, 2) := by decide +kernel
theorem d_C_worthiest_11 : decode y_C_worthiest.2.1 11 = .ok (.iconst 0, 1) := by decide +kernel
theorem d_C_worthiest_12 : decode y_C_worthiest.2.1 12 = .ok (.istore 6, 2) := by decide +kernel
theorem d_C_worthiest_14 : decode y_C_worthiest.2.1 14 = .ok (.iload 6, 2) := by decide +kernel
theorem d_C_worthiest_16 : decode y_C_worthiest.2.1 16 = .ok (.aload_n 0, 1) := by decide +kernel
theorem d_C_worthiest_17 : decode y_C_worthiest.2.1 17 = .ok (.getfield 82, 3) := by decide +kernel
theorem d_C_worthiest_20 : decode y_C_worthiest.2.1 20 = .ok (.if_icmp .ge 100, 3) := by decide +kernel
theorem d_C_worthiest_120 : decode y_C_worthiest.2.1 120 = .ok (.iload 5, 2) := by decide +kernel
theorem d_C_worthiest_122 : decode y_C_worthiest.2.1 122 = .ok (.ireturn, 1) := by decide +kernel
abbrev y_C_partOne : MI := (⟨"SinglesUp$Chair", "partOne", "(LSinglesUp$Hill;)V"⟩, prog_2_method_12_code, 6, none)
theorem d_C_partOne_0 : decode y_C_partOne.2.1 0 = .ok (.iconst 0, 1) := by decide +kernel
theorem d_C_partOne_1 : decode y_C_partOne.2.1 1 = .ok (.istore_n 2, 1) := by decide +kernel
theorem d_C_partOne_2 : decode y_C_partOne.2.1 2 = .ok (.iload_n 2, 1) := by decide +kernel
theorem d_C_partOne_3 : decode y_C_partOne.2.1 3 = .ok (.aload_n 0, 1) := by decide +kernel
theorem d_C_partOne_4 : decode y_C_partOne.2.1 4 = .ok (.getfield 82, 3) := by decide +kernel
theorem d_C_partOne_7 : decode y_C_partOne.2.1 7 = .ok (.if_icmp .ge 116, 3) := by decide +kernel
theorem d_C_partOne_123 : decode y_C_partOne.2.1 123 = .ok (.return_, 1) := by decide +kernel
abbrev y_C_fill : MI := (⟨"SinglesUp$Chair", "fill", "(LSinglesUp$Hill;)V"⟩, prog_2_method_5_code, 6, none)
theorem d_C_fill_0 : decode y_C_fill.2.1 0 = .ok (.aload_n 0, 1) := by decide +kernel
theorem d_C_fill_1 : decode y_C_fill.2.1 1 = .ok (.aload_n 1, 1) := by decide +kernel
theorem d_C_fill_2 : decode y_C_fill.2.1 2 = .ok (.getfield 65, 3) := by decide +kernel
theorem d_C_fill_5 : decode y_C_fill.2.1 5 = .ok (.iconst 0, 1) := by decide +kernel
theorem d_C_fill_6 : decode y_C_fill.2.1 6 = .ok (.iaload, 1) := by decide +kernel
theorem d_C_fill_7 : decode y_C_fill.2.1 7 = .ok (.invokevirtual 68, 3) := by decide +kernel
theorem lk_C_68 : LkV "SinglesUp$Chair" 68 y_C_clear := ⟨tw_in 472 (by decide +kernel) rfl, tw_in 473 (by decide +kernel) rfl, Or.inl (tw_in 882 (by decide +kernel) rfl)⟩
theorem mo_C_clear : MOk y_C_clear 1 := ⟨by decide +kernel, tw_in 474 (by decide +kernel) rfl, tw_in 103 (by decide +kernel) rfl, by decide +kernel, by decide +kernel, by decide +kernel⟩
theorem d_C_fill_10 : decode y_C_fill.2.1 10 = .ok (.aload_n 0, 1) := by decide +kernel
theorem d_C_fill_11 : decode y_C_fill.2.1 11 = .ok (.aload_n 1, 1) := by decide +kernel
theorem d_C_fill_12 : decode y_C_fill.2.1 12 = .ok (.getfield 72, 3) := by decide +kernel
theorem fl_C_72 : FL "SinglesUp$Chair" 72 2 5 := ⟨"SinglesUp$Hill", zT2, 14, rfl, by decide, rfl, Or.inr ⟨"SinglesUp", nw_in 100 (by decide +kernel) rfl⟩⟩
theorem rc_1_5 : RC 1 5 = some 7 := by decide +kernel
theorem d_C_fill_15 : decode y_C_fill.2.1 15 = .ok (.aload_n 0, 1) := by decide +kernel
theorem d_C_fill_16 : decode y_C_fill.2.1 16 = .ok (.getfield 24, 3) := by decide +kernel
theorem fl_C_24 : FL "SinglesUp$Chair" 24 0 4 := ⟨"SinglesUp$Chair", zT0, 12, rfl, by decide, rfl, Or.inl (tw_in 262 (by decide +kernel) rfl)⟩
theorem rc_130_4 : RC 130 4 = some 135 := by decide +kernel
theorem d_C_fill_19 : decode y_C_fill.2.1 19 = .ok (.iconst (-1), 1) := by decide +kernel
theorem d_C_fill_20 : decode y_C_fill.2.1 20 = .ok (.invokevirtual 76, 3) := by decide +kernel
theorem lk_C_76 : LkV "SinglesUp$Chair" 76 y_L_listSeen := ⟨tw_in 884 (by decide +kernel) rfl, tw_in 885 (by decide +kernel) rfl, Or.inl (tw_in 883 (by decide +kernel) rfl)⟩
theorem mo_L_listSeen : MOk y_L_listSeen 2 := ⟨by decide +kernel, tw_in 886 (by decide +kernel) rfl, tw_in 99 (by decide +kernel) rfl, by decide +kernel, by decide +kernel, by decide +kernel⟩
theorem d_C_fill_23 : decode y_C_fill.2.1 23 = .ok (.putfield 82, 3) := by decide +kernel
theorem d_C_fill_26 : decode y_C_fill.2.1 26 = .ok (.iconst 1, 1) := by decide +kernel
theorem d_C_fill_27 : decode y_C_fill.2.1 27 = .ok (.istore_n 2, 1) := by decide +kernel
theorem d_C_fill_28 : decode y_C_fill.2.1 28 = .ok (.iconst 0, 1) := by decide +kernel
theorem d_C_fill_29 : decode y_C_fill.2.1 29 = .ok (.istore_n 3, 1) := by decide +kernel
theorem d_C_fill_30 : decode y_C_fill.2.1 30 = .ok (.iload_n 3, 1) := by decide +kernel
theorem d_C_fill_31 : decode y_C_fill.2.1 31 = .ok (.sipush 144, 3) := by decide +kernel
theorem cs_144 : (Int16.ofInt 144).toInt32 = nI 144 := by decide +kernel
theorem d_C_fill_34 : decode y_C_fill.2.1 34 = .ok (.if_icmp .gt 93, 3) := by decide +kernel
theorem d_C_fill_37 : decode y_C_fill.2.1 37 = .ok (.aload_n 0, 1) := by decide +kernel
theorem d_C_fill_38 : decode y_C_fill.2.1 38 = .ok (.aload_n 1, 1) := by decide +kernel
theorem d_C_fill_39 : decode y_C_fill.2.1 39 = .ok (.invokevirtual 85, 3) := by decide +kernel
theorem lk_C_85 : LkV "SinglesUp$Chair" 85 y_C_mostPassed := ⟨tw_in 889 (by decide +kernel) rfl, tw_in 23 (by decide +kernel) rfl, Or.inl (tw_in 887 (by decide +kernel) rfl)⟩
theorem mo_C_mostPassed : MOk y_C_mostPassed 1 := ⟨by decide +kernel, tw_in 890 (by decide +kernel) rfl, tw_in 103 (by decide +kernel) rfl, by decide +kernel, by decide +kernel, by decide +kernel⟩
theorem d_C_fill_42 : decode y_C_fill.2.1 42 = .ok (.istore 4, 2) := by decide +kernel
theorem d_C_fill_44 : decode y_C_fill.2.1 44 = .ok (.iload 4, 2) := by decide +kernel
theorem d_C_fill_46 : decode y_C_fill.2.1 46 = .ok (.iconst (-1), 1) := by decide +kernel
theorem d_C_fill_47 : decode y_C_fill.2.1 47 = .ok (.if_icmp .ne 13, 3) := by decide +kernel
theorem d_C_fill_50 : decode y_C_fill.2.1 50 = .ok (.aload_n 0, 1) := by decide +kernel
theorem d_C_fill_51 : decode y_C_fill.2.1 51 = .ok (.aload_n 1, 1) := by decide +kernel
theorem d_C_fill_52 : decode y_C_fill.2.1 52 = .ok (.iload_n 2, 1) := by decide +kernel
theorem d_C_fill_53 : decode y_C_fill.2.1 53 = .ok (.invokevirtual 88, 3) := by decide +kernel
theorem lk_C_88 : LkV "SinglesUp$Chair" 88 y_C_worthiest := ⟨tw_in 897 (by decide +kernel) rfl, tw_in 25 (by decide +kernel) rfl, Or.inl (tw_in 895 (by decide +kernel) rfl)⟩
theorem mo_C_worthiest : MOk y_C_worthiest 2 := ⟨by decide +kernel, tw_in 898 (by decide +kernel) rfl, tw_in 103 (by decide +kernel) rfl, by decide +kernel, by decide +kernel, by decide +kernel⟩
theorem d_C_fill_56 : decode y_C_fill.2.1 56 = .ok (.istore 4, 2) := by decide +kernel
theorem d_C_fill_58 : decode y_C_fill.2.1 58 = .ok (.iconst 0, 1) := by decide +kernel
theorem d_C_fill_59 : decode y_C_fill.2.1 59 = .ok (.istore_n 2, 1) := by decide +kernel
theorem d_C_fill_60 : decode y_C_fill.2.1 60 = .ok (.iload 4, 2) := by decide +kernel
theorem d_C_fill_62 : decode y_C_fill.2.1 62 = .ok (.iconst (-1), 1) := by decide +kernel
theorem d_C_fill_63 : decode y_C_fill.2.1 63 = .ok (.if_icmp .ne 6, 3) := by decide +kernel
theorem d_C_fill_66 : decode y_C_fill.2.1 66 = .ok (.goto 61, 3) := by decide +kernel
theorem d_C_fill_127 : decode y_C_fill.2.1 127 = .ok (.aload_n 0, 1) := by decide +kernel
theorem d_C_fill_128 : decode y_C_fill.2.1 128 = .ok (.aload_n 1, 1) := by decide +kernel
theorem d_C_fill_129 : decode y_C_fill.2.1 129 = .ok (.invokevirtual 104, 3) := by decide +kernel
theorem lk_C_104 : LkV "SinglesUp$Chair" 104 y_C_partOne := ⟨tw_in 909 (by decide +kernel) rfl, tw_in 27 (by decide +kernel) rfl, Or.inl (tw_in 907 (by decide +kernel) rfl)⟩
theorem mo_C_partOne : MOk y_C_partOne 1 := ⟨by decide +kernel, tw_in 910 (by decide +kernel) rfl, tw_in 103 (by decide +kernel) rfl, by decide +kernel, by decide +kernel, by decide +kernel⟩
theorem d_C_fill_132 : decode y_C_fill.2.1 132 = .ok (.return_, 1) := by decide +kernel
abbrev y_L_rearmostSitting : MI := (⟨"SinglesUp$Lines", "rearmostSitting", "([II)I"⟩, prog_6_method_12_code, 5, some .int)
theorem d_L_rearmostSitting_0 : decode y_L_rearmostSitting.2.1 0 = .ok (.aload_n 0, 1) := by decide +kernel
theorem d_L_rearmostSitting_1 : decode y_L_rearmostSitting.2.1 1 = .ok (.getfield 15, 3) := by decide +kernel
theorem d_L_rearmostSitting_4 : decode y_L_rearmostSitting.2.1 4 = .ok (.iload_n 2, 1) := by decide +kernel
theorem d_L_rearmostSitting_5 : decode y_L_rearmostSitting.2.1 5 = .ok (.iaload, 1) := by decide +kernel
theorem d_L_rearmostSitting_6 : decode y_L_rearmostSitting.2.1 6 = .ok (.iconst 1, 1) := by decide +kernel
theorem d_L_rearmostSitting_7 : decode y_L_rearmostSitting.2.1 7 = .ok (.isub, 1) := by decide +kernel
theorem d_L_rearmostSitting_8 : decode y_L_rearmostSitting.2.1 8 = .ok (.istore_n 3, 1) := by decide +kernel
theorem d_L_rearmostSitting_9 : decode y_L_rearmostSitting.2.1 9 = .ok (.iload_n 3, 1) := by decide +kernel
theorem d_L_rearmostSitting_10 : decode y_L_rearmostSitting.2.1 10 = .ok (.ifCond .lt 42, 3) := by decide +kernel
theorem d_L_rearmostSitting_52 : decode y_L_rearmostSitting.2.1 52 = .ok (.iconst (-1), 1) := by decide +kernel
theorem d_L_rearmostSitting_53 : decode y_L_rearmostSitting.2.1 53 = .ok (.ireturn, 1) := by decide +kernel
abbrev y_L_depart : MI := (⟨"SinglesUp$Lines", "depart", "([I)V"⟩, prog_6_method_11_code, 9, none)
theorem d_L_depart_0 : decode y_L_depart.2.1 0 = .ok (.iconst 0, 1) := by decide +kernel
theorem d_L_depart_1 : decode y_L_depart.2.1 1 = .ok (.istore_n 2, 1) := by decide +kernel
theorem d_L_depart_2 : decode y_L_depart.2.1 2 = .ok (.iload_n 2, 1) := by decide +kernel
theorem d_L_depart_3 : decode y_L_depart.2.1 3 = .ok (.bipush 6, 2) := by decide +kernel
theorem d_L_depart_5 : decode y_L_depart.2.1 5 = .ok (.if_icmp .ge 168, 3) := by decide +kernel
theorem d_L_depart_8 : decode y_L_depart.2.1 8 = .ok (.aload_n 0, 1) := by decide +kernel
theorem d_L_depart_9 : decode y_L_depart.2.1 9 = .ok (.aload_n 1, 1) := by decide +kernel
theorem d_L_depart_10 : decode y_L_depart.2.1 10 = .ok (.iload_n 2, 1) := by decide +kernel
theorem d_L_depart_11 : decode y_L_depart.2.1 11 = .ok (.invokevirtual 47, 3) := by decide +kernel
theorem lk_L_47 : LkV "SinglesUp$Lines" 47 y_L_rearmostSitting := ⟨tw_in 843 (by decide +kernel) rfl, tw_in 20 (by decide +kernel) rfl, Or.inl (tw_in 841 (by decide +kernel) rfl)⟩
theorem mo_L_rearmostSitting : MOk y_L_rearmostSitting 2 := ⟨by decide +kernel, tw_in 844 (by decide +kernel) rfl, tw_in 99 (by decide +kernel) rfl, by decide +kernel, by decide +kernel, by decide +kernel⟩
theorem d_L_depart_14 : decode y_L_depart.2.1 14 = .ok (.istore_n 3, 1) := by decide +kernel
theorem d_L_depart_15 : decode y_L_depart.2.1 15 = .ok (.iconst 0, 1) := by decide +kernel
theorem d_L_depart_16 : decode y_L_depart.2.1 16 = .ok (.istore 4, 2) := by decide +kernel
theorem d_L_depart_18 : decode y_L_depart.2.1 18 = .ok (.iconst 0, 1) := by decide +kernel
theorem d_L_depart_19 : decode y_L_depart.2.1 19 = .ok (.istore 5, 2) := by decide +kernel
theorem d_L_depart_21 : decode y_L_depart.2.1 21 = .ok (.iload 5, 2) := by decide +kernel
theorem d_L_depart_23 : decode y_L_depart.2.1 23 = .ok (.aload_n 0, 1) := by decide +kernel
theorem d_L_depart_24 : decode y_L_depart.2.1 24 = .ok (.getfield 15, 3) := by decide +kernel
theorem d_L_depart_27 : decode y_L_depart.2.1 27 = .ok (.iload_n 2, 1) := by decide +kernel
theorem d_L_depart_28 : decode y_L_depart.2.1 28 = .ok (.iaload, 1) := by decide +kernel
theorem d_L_depart_29 : decode y_L_depart.2.1 29 = .ok (.if_icmp .ge 130, 3) := by decide +kernel
theorem d_L_depart_159 : decode y_L_depart.2.1 159 = .ok (.aload_n 0, 1) := by decide +kernel
theorem d_L_depart_160 : decode y_L_depart.2.1 160 = .ok (.getfield 15, 3) := by decide +kernel
theorem d_L_depart_163 : decode y_L_depart.2.1 163 = .ok (.iload_n 2, 1) := by decide +kernel
theorem d_L_depart_164 : decode y_L_depart.2.1 164 = .ok (.iload 4, 2) := by decide +kernel
theorem d_L_depart_166 : decode y_L_depart.2.1 166 = .ok (.iastore, 1) := by decide +kernel
theorem d_L_depart_167 : decode y_L_depart.2.1 167 = .ok (.iinc 2 1, 3) := by decide +kernel
theorem d_L_depart_170 : decode y_L_depart.2.1 170 = .ok (.goto (-168), 3) := by decide +kernel
theorem d_L_depart_173 : decode y_L_depart.2.1 173 = .ok (.return_, 1) := by decide +kernel
abbrev y_H_close : MI := (⟨"SinglesUp$Hill", "close", "(II)V"⟩, prog_4_method_11_code, 4, none)
theorem d_H_close_0 : decode y_H_close.2.1 0 = .ok (.aload_n 0, 1) := by decide +kernel
theorem d_H_close_1 : decode y_H_close.2.1 1 = .ok (.getfield 37, 3) := by decide +kernel
theorem fl_H_37 : FL "SinglesUp$Hill" 37 2 8 := ⟨"SinglesUp$Hill", zT2, 14, rfl, by decide, rfl, Or.inl (tw_in 202 (by decide +kernel) rfl)⟩
theorem rc_1_8 : RC 1 8 = some 11 := by decide +kernel
theorem d_H_close_4 : decode y_H_close.2.1 4 = .ok (.iconst 1, 1) := by decide +kernel
theorem d_H_close_5 : decode y_H_close.2.1 5 = .ok (.dup2, 1) := by decide +kernel
theorem d_H_close_6 : decode y_H_close.2.1 6 = .ok (.iaload, 1) := by decide +kernel
theorem kc_11 : KC[11]? = some (0, 40) := by decide +kernel
theorem d_H_close_7 : decode y_H_close.2.1 7 = .ok (.iload_n 1, 1) := by decide +kernel
theorem d_H_close_8 : decode y_H_close.2.1 8 = .ok (.iadd, 1) := by decide +kernel
theorem d_H_close_9 : decode y_H_close.2.1 9 = .ok (.iastore, 1) := by decide +kernel
theorem d_H_close_10 : decode y_H_close.2.1 10 = .ok (.aload_n 0, 1) := by decide +kernel
theorem d_H_close_11 : decode y_H_close.2.1 11 = .ok (.getfield 37, 3) := by decide +kernel
theorem d_H_close_14 : decode y_H_close.2.1 14 = .ok (.iconst 3, 1) := by decide +kernel
theorem d_H_close_15 : decode y_H_close.2.1 15 = .ok (.dup2, 1) := by decide +kernel
theorem d_H_close_16 : decode y_H_close.2.1 16 = .ok (.iaload, 1) := by decide +kernel
theorem d_H_close_17 : decode y_H_close.2.1 17 = .ok (.aload_n 0, 1) := by decide +kernel
theorem d_H_close_18 : decode y_H_close.2.1 18 = .ok (.getfield 9, 3) := by decide +kernel
theorem d_H_close_21 : decode y_H_close.2.1 21 = .ok (.iconst 1, 1) := by decide +kernel
theorem d_H_close_22 : decode y_H_close.2.1 22 = .ok (.iaload, 1) := by decide +kernel
theorem d_H_close_23 : decode y_H_close.2.1 23 = .ok (.iadd, 1) := by decide +kernel
theorem d_H_close_24 : decode y_H_close.2.1 24 = .ok (.iastore, 1) := by decide +kernel
theorem d_H_close_25 : decode y_H_close.2.1 25 = .ok (.aload_n 0, 1) := by decide +kernel
theorem d_H_close_26 : decode y_H_close.2.1 26 = .ok (.getfield 9, 3) := by decide +kernel
theorem d_H_close_29 : decode y_H_close.2.1 29 = .ok (.iconst 3, 1) := by decide +kernel
theorem d_H_close_30 : decode y_H_close.2.1 30 = .ok (.iaload, 1) := by decide +kernel
theorem d_H_close_31 : decode y_H_close.2.1 31 = .ok (.ifCond .le 44, 3) := by decide +kernel
theorem d_H_close_75 : decode y_H_close.2.1 75 = .ok (.aload_n 0, 1) := by decide +kernel
theorem d_H_close_76 : decode y_H_close.2.1 76 = .ok (.getfield 40, 3) := by decide +kernel
theorem fl_H_40 : FL "SinglesUp$Hill" 40 2 9 := ⟨"SinglesUp$Hill", zT2, 14, rfl, by decide, rfl, Or.inl (tw_in 206 (by decide +kernel) rfl)⟩
theorem rc_1_9 : RC 1 9 = some 12 := by decide +kernel
theorem d_H_close_79 : decode y_H_close.2.1 79 = .ok (.iconst 0, 1) := by decide +kernel
theorem d_H_close_80 : decode y_H_close.2.1 80 = .ok (.iload_n 2, 1) := by decide +kernel
theorem d_H_close_81 : decode y_H_close.2.1 81 = .ok (.iastore, 1) := by decide +kernel
theorem kc_12 : KC[12]? = some (0, 30) := by decide +kernel
theorem d_H_close_82 : decode y_H_close.2.1 82 = .ok (.aload_n 0, 1) := by decide +kernel
theorem d_H_close_83 : decode y_H_close.2.1 83 = .ok (.getfield 40, 3) := by decide +kernel
theorem d_H_close_86 : decode y_H_close.2.1 86 = .ok (.iconst 1, 1) := by decide +kernel
theorem d_H_close_87 : decode y_H_close.2.1 87 = .ok (.iload_n 1, 1) := by decide +kernel
theorem d_H_close_88 : decode y_H_close.2.1 88 = .ok (.iastore, 1) := by decide +kernel
theorem d_H_close_89 : decode y_H_close.2.1 89 = .ok (.aload_n 0, 1) := by decide +kernel
theorem d_H_close_90 : decode y_H_close.2.1 90 = .ok (.getfield 37, 3) := by decide +kernel
theorem d_H_close_93 : decode y_H_close.2.1 93 = .ok (.iconst 0, 1) := by decide +kernel
theorem d_H_close_94 : decode y_H_close.2.1 94 = .ok (.iaload, 1) := by decide +kernel
theorem d_H_close_95 : decode y_H_close.2.1 95 = .ok (.invokestatic 116, 3) := by decide +kernel
theorem lk_H_116 : LkS "SinglesUp$Hill" 116 y_H_pastAt := ⟨tw_in 861 (by decide +kernel) rfl, Or.inl (tw_in 860 (by decide +kernel) rfl)⟩
theorem mo_H_pastAt : MOk y_H_pastAt 1 := ⟨by decide +kernel, tw_in 862 (by decide +kernel) rfl, tw_in 98 (by decide +kernel) rfl, by decide +kernel, by decide +kernel, by decide +kernel⟩
theorem d_H_close_98 : decode y_H_close.2.1 98 = .ok (.istore_n 3, 1) := by decide +kernel
theorem d_H_close_99 : decode y_H_close.2.1 99 = .ok (.aload_n 0, 1) := by decide +kernel
theorem d_H_close_100 : decode y_H_close.2.1 100 = .ok (.getfield 43, 3) := by decide +kernel
theorem fl_H_43 : FL "SinglesUp$Hill" 43 2 10 := ⟨"SinglesUp$Hill", zT2, 14, rfl, by decide, rfl, Or.inl (tw_in 208 (by decide +kernel) rfl)⟩
theorem rc_1_10 : RC 1 10 = some 13 := by decide +kernel
theorem d_H_close_103 : decode y_H_close.2.1 103 = .ok (.iload_n 3, 1) := by decide +kernel
theorem d_H_close_104 : decode y_H_close.2.1 104 = .ok (.iload_n 1, 1) := by decide +kernel
theorem d_H_close_105 : decode y_H_close.2.1 105 = .ok (.iastore, 1) := by decide +kernel
theorem kc_13 : KC[13]? = some (0, 180) := by decide +kernel
theorem d_H_close_106 : decode y_H_close.2.1 106 = .ok (.aload_n 0, 1) := by decide +kernel
theorem d_H_close_107 : decode y_H_close.2.1 107 = .ok (.getfield 43, 3) := by decide +kernel
theorem d_H_close_110 : decode y_H_close.2.1 110 = .ok (.iload_n 3, 1) := by decide +kernel
theorem d_H_close_111 : decode y_H_close.2.1 111 = .ok (.iconst 1, 1) := by decide +kernel
theorem d_H_close_112 : decode y_H_close.2.1 112 = .ok (.iadd, 1) := by decide +kernel
theorem d_H_close_113 : decode y_H_close.2.1 113 = .ok (.iload_n 2, 1) := by decide +kernel
theorem d_H_close_114 : decode y_H_close.2.1 114 = .ok (.iastore, 1) := by decide +kernel
theorem d_H_close_115 : decode y_H_close.2.1 115 = .ok (.aload_n 0, 1) := by decide +kernel
theorem d_H_close_116 : decode y_H_close.2.1 116 = .ok (.getfield 43, 3) := by decide +kernel
theorem d_H_close_119 : decode y_H_close.2.1 119 = .ok (.iload_n 3, 1) := by decide +kernel
theorem d_H_close_120 : decode y_H_close.2.1 120 = .ok (.iconst 2, 1) := by decide +kernel
theorem ci_2 : Int32.ofInt 2 = nI 2 := by decide +kernel
theorem d_H_close_121 : decode y_H_close.2.1 121 = .ok (.iadd, 1) := by decide +kernel
theorem d_H_close_122 : decode y_H_close.2.1 122 = .ok (.aload_n 0, 1) := by decide +kernel
theorem d_H_close_123 : decode y_H_close.2.1 123 = .ok (.getfield 37, 3) := by decide +kernel
theorem d_H_close_126 : decode y_H_close.2.1 126 = .ok (.iconst 3, 1) := by decide +kernel
theorem d_H_close_127 : decode y_H_close.2.1 127 = .ok (.iaload, 1) := by decide +kernel
theorem d_H_close_128 : decode y_H_close.2.1 128 = .ok (.iastore, 1) := by decide +kernel
theorem d_H_close_129 : decode y_H_close.2.1 129 = .ok (.aload_n 0, 1) := by decide +kernel
theorem d_H_close_130 : decode y_H_close.2.1 130 = .ok (.getfield 37, 3) := by decide +kernel
theorem d_H_close_133 : decode y_H_close.2.1 133 = .ok (.iconst 0, 1) := by decide +kernel
theorem d_H_close_134 : decode y_H_close.2.1 134 = .ok (.dup2, 1) := by decide +kernel
theorem d_H_close_135 : decode y_H_close.2.1 135 = .ok (.iaload, 1) := by decide +kernel
theorem d_H_close_136 : decode y_H_close.2.1 136 = .ok (.iconst 1, 1) := by decide +kernel
theorem d_H_close_137 : decode y_H_close.2.1 137 = .ok (.iadd, 1) := by decide +kernel
theorem d_H_close_138 : decode y_H_close.2.1 138 = .ok (.iastore, 1) := by decide +kernel
theorem d_H_close_139 : decode y_H_close.2.1 139 = .ok (.return_, 1) := by decide +kernel
abbrev y_C_leave : MI := (⟨"SinglesUp$Chair", "leave", "(LSinglesUp$Hill;)I"⟩, prog_2_method_14_code, 4, some .int)
theorem d_C_leave_0 : decode y_C_leave.2.1 0 = .ok (.aload_n 1, 1) := by decide +kernel
theorem d_C_leave_1 : decode y_C_leave.2.1 1 = .ok (.getfield 141, 3) := by decide +kernel
theorem fl_C_141 : FL "SinglesUp$Chair" 141 2 8 := ⟨"SinglesUp$Hill", zT2, 14, rfl, by decide, rfl, Or.inr ⟨"SinglesUp", nw_in 108 (by decide +kernel) rfl⟩⟩
theorem d_C_leave_4 : decode y_C_leave.2.1 4 = .ok (.iconst 2, 1) := by decide +kernel
theorem d_C_leave_5 : decode y_C_leave.2.1 5 = .ok (.iaload, 1) := by decide +kernel
theorem d_C_leave_6 : decode y_C_leave.2.1 6 = .ok (.istore_n 2, 1) := by decide +kernel
theorem d_C_leave_7 : decode y_C_leave.2.1 7 = .ok (.iconst 0, 1) := by decide +kernel
theorem d_C_leave_8 : decode y_C_leave.2.1 8 = .ok (.istore_n 3, 1) := by decide +kernel
theorem d_C_leave_9 : decode y_C_leave.2.1 9 = .ok (.iload_n 3, 1) := by decide +kernel
theorem d_C_leave_10 : decode y_C_leave.2.1 10 = .ok (.aload_n 0, 1) := by decide +kernel
theorem d_C_leave_11 : decode y_C_leave.2.1 11 = .ok (.getfield 40, 3) := by decide +kernel
theorem d_C_leave_14 : decode y_C_leave.2.1 14 = .ok (.if_icmp .ge 32, 3) := by decide +kernel
theorem d_C_leave_46 : decode y_C_leave.2.1 46 = .ok (.aload_n 1, 1) := by decide +kernel
theorem d_C_leave_47 : decode y_C_leave.2.1 47 = .ok (.getfield 72, 3) := by decide +kernel
theorem d_C_leave_50 : decode y_C_leave.2.1 50 = .ok (.aload_n 0, 1) := by decide +kernel
theorem d_C_leave_51 : decode y_C_leave.2.1 51 = .ok (.getfield 9, 3) := by decide +kernel
theorem d_C_leave_54 : decode y_C_leave.2.1 54 = .ok (.invokevirtual 165, 3) := by decide +kernel
theorem lk_C_165 : LkV "SinglesUp$Chair" 165 y_L_depart := ⟨tw_in 838 (by decide +kernel) rfl, tw_in 839 (by decide +kernel) rfl, Or.inl (tw_in 837 (by decide +kernel) rfl)⟩
theorem mo_L_depart : MOk y_L_depart 1 := ⟨by decide +kernel, tw_in 840 (by decide +kernel) rfl, tw_in 99 (by decide +kernel) rfl, by decide +kernel, by decide +kernel, by decide +kernel⟩
theorem d_C_leave_57 : decode y_C_leave.2.1 57 = .ok (.iconst 0, 1) := by decide +kernel
theorem d_C_leave_58 : decode y_C_leave.2.1 58 = .ok (.istore_n 3, 1) := by decide +kernel
theorem d_C_leave_59 : decode y_C_leave.2.1 59 = .ok (.iload_n 3, 1) := by decide +kernel
theorem d_C_leave_60 : decode y_C_leave.2.1 60 = .ok (.aload_n 0, 1) := by decide +kernel
theorem d_C_leave_61 : decode y_C_leave.2.1 61 = .ok (.getfield 43, 3) := by decide +kernel
theorem d_C_leave_64 : decode y_C_leave.2.1 64 = .ok (.if_icmp .ge 39, 3) := by decide +kernel
theorem d_C_leave_103 : decode y_C_leave.2.1 103 = .ok (.aload_n 1, 1) := by decide +kernel
theorem d_C_leave_104 : decode y_C_leave.2.1 104 = .ok (.aload_n 0, 1) := by decide +kernel
theorem d_C_leave_105 : decode y_C_leave.2.1 105 = .ok (.getfield 30, 3) := by decide +kernel
theorem d_C_leave_108 : decode y_C_leave.2.1 108 = .ok (.aload_n 0, 1) := by decide +kernel
theorem d_C_leave_109 : decode y_C_leave.2.1 109 = .ok (.getfield 40, 3) := by decide +kernel
theorem d_C_leave_112 : decode y_C_leave.2.1 112 = .ok (.invokevirtual 173, 3) := by decide +kernel
theorem lk_C_173 : LkV "SinglesUp$Chair" 173 y_H_close := ⟨tw_in 851 (by decide +kernel) rfl, tw_in 852 (by decide +kernel) rfl, Or.inl (tw_in 850 (by decide +kernel) rfl)⟩
theorem mo_H_close : MOk y_H_close 2 := ⟨by decide +kernel, tw_in 853 (by decide +kernel) rfl, tw_in 98 (by decide +kernel) rfl, by decide +kernel, by decide +kernel, by decide +kernel⟩
theorem d_C_leave_115 : decode y_C_leave.2.1 115 = .ok (.aload_n 1, 1) := by decide +kernel
theorem d_C_leave_116 : decode y_C_leave.2.1 116 = .ok (.getfield 141, 3) := by decide +kernel
theorem d_C_leave_119 : decode y_C_leave.2.1 119 = .ok (.iconst 2, 1) := by decide +kernel
theorem d_C_leave_120 : decode y_C_leave.2.1 120 = .ok (.iaload, 1) := by decide +kernel
theorem d_C_leave_121 : decode y_C_leave.2.1 121 = .ok (.iload_n 2, 1) := by decide +kernel
theorem d_C_leave_122 : decode y_C_leave.2.1 122 = .ok (.isub, 1) := by decide +kernel
theorem d_C_leave_123 : decode y_C_leave.2.1 123 = .ok (.ireturn, 1) := by decide +kernel
abbrev y_C_ride : MI := (⟨"SinglesUp$Chair", "ride", "(LSinglesUp$Hill;)I"⟩, prog_2_method_4_code, 2, some .int)
theorem d_C_ride_0 : decode y_C_ride.2.1 0 = .ok (.aload_n 0, 1) := by decide +kernel
theorem d_C_ride_1 : decode y_C_ride.2.1 1 = .ok (.aload_n 1, 1) := by decide +kernel
theorem d_C_ride_2 : decode y_C_ride.2.1 2 = .ok (.invokevirtual 58, 3) := by decide +kernel
theorem lk_C_58 : LkV "SinglesUp$Chair" 58 y_C_fill := ⟨tw_in 879 (by decide +kernel) rfl, tw_in 880 (by decide +kernel) rfl, Or.inl (tw_in 878 (by decide +kernel) rfl)⟩
theorem mo_C_fill : MOk y_C_fill 1 := ⟨by decide +kernel, tw_in 881 (by decide +kernel) rfl, tw_in 103 (by decide +kernel) rfl, by decide +kernel, by decide +kernel, by decide +kernel⟩
theorem d_C_ride_5 : decode y_C_ride.2.1 5 = .ok (.aload_n 0, 1) := by decide +kernel
theorem d_C_ride_6 : decode y_C_ride.2.1 6 = .ok (.aload_n 1, 1) := by decide +kernel
theorem d_C_ride_7 : decode y_C_ride.2.1 7 = .ok (.invokevirtual 61, 3) := by decide +kernel
theorem lk_C_61 : LkV "SinglesUp$Chair" 61 y_C_leave := ⟨tw_in 829 (by decide +kernel) rfl, tw_in 830 (by decide +kernel) rfl, Or.inl (tw_in 921 (by decide +kernel) rfl)⟩
theorem mo_C_leave : MOk y_C_leave 1 := ⟨by decide +kernel, tw_in 831 (by decide +kernel) rfl, tw_in 103 (by decide +kernel) rfl, by decide +kernel, by decide +kernel, by decide +kernel⟩
theorem d_C_ride_10 : decode y_C_ride.2.1 10 = .ok (.ireturn, 1) := by decide +kernel
abbrev y_H_letComersEnter : MI := (⟨"SinglesUp$Hill", "letComersEnter", "()V"⟩, prog_4_method_5_code, 3, none)
theorem d_H_letComersEnter_0 : decode y_H_letComersEnter.2.1 0 = .ok (.iconst 0, 1) := by decide +kernel
theorem d_H_letComersEnter_1 : decode y_H_letComersEnter.2.1 1 = .ok (.istore_n 1, 1) := by decide +kernel
theorem d_H_letComersEnter_2 : decode y_H_letComersEnter.2.1 2 = .ok (.iload_n 1, 1) := by decide +kernel
theorem d_H_letComersEnter_3 : decode y_H_letComersEnter.2.1 3 = .ok (.iconst 3, 1) := by decide +kernel
theorem d_H_letComersEnter_4 : decode y_H_letComersEnter.2.1 4 = .ok (.iadd, 1) := by decide +kernel
theorem d_H_letComersEnter_5 : decode y_H_letComersEnter.2.1 5 = .ok (.aload_n 0, 1) := by decide +kernel
theorem d_H_letComersEnter_6 : decode y_H_letComersEnter.2.1 6 = .ok (.getfield 24, 3) := by decide +kernel
theorem fl_H_24 : FL "SinglesUp$Hill" 24 2 3 := ⟨"SinglesUp$Hill", zT2, 14, rfl, by decide, rfl, Or.inl (tw_in 190 (by decide +kernel) rfl)⟩
theorem rc_1_3 : RC 1 3 = some 5 := by decide +kernel
theorem d_H_letComersEnter_9 : decode y_H_letComersEnter.2.1 9 = .ok (.arraylength, 1) := by decide +kernel
theorem kc_5 : KC[5]? = some (0, 32) := by decide +kernel
theorem d_H_letComersEnter_10 : decode y_H_letComersEnter.2.1 10 = .ok (.if_icmp .ge 60, 3) := by decide +kernel
theorem d_H_letComersEnter_13 : decode y_H_letComersEnter.2.1 13 = .ok (.aload_n 0, 1) := by decide +kernel
theorem d_H_letComersEnter_14 : decode y_H_letComersEnter.2.1 14 = .ok (.getfield 24, 3) := by decide +kernel
theorem d_H_letComersEnter_17 : decode y_H_letComersEnter.2.1 17 = .ok (.iload_n 1, 1) := by decide +kernel
theorem d_H_letComersEnter_18 : decode y_H_letComersEnter.2.1 18 = .ok (.iconst 3, 1) := by decide +kernel
theorem d_H_letComersEnter_19 : decode y_H_letComersEnter.2.1 19 = .ok (.iadd, 1) := by decide +kernel
theorem d_H_letComersEnter_20 : decode y_H_letComersEnter.2.1 20 = .ok (.iaload, 1) := by decide +kernel
theorem d_H_letComersEnter_21 : decode y_H_letComersEnter.2.1 21 = .ok (.istore_n 2, 1) := by decide +kernel
theorem d_H_letComersEnter_22 : decode y_H_letComersEnter.2.1 22 = .ok (.iload_n 2, 1) := by decide +kernel
theorem d_H_letComersEnter_23 : decode y_H_letComersEnter.2.1 23 = .ok (.ifCond .le 41, 3) := by decide +kernel
theorem d_H_letComersEnter_64 : decode y_H_letComersEnter.2.1 64 = .ok (.iinc 1 4, 3) := by decide +kernel
theorem d_H_letComersEnter_67 : decode y_H_letComersEnter.2.1 67 = .ok (.goto (-65), 3) := by decide +kernel
theorem d_H_letComersEnter_70 : decode y_H_letComersEnter.2.1 70 = .ok (.return_, 1) := by decide +kernel
abbrev y_C_turns : MI := (⟨"SinglesUp$Chair", "turns", "(LSinglesUp$Hill;I)I"⟩, prog_2_method_3_code, 5, some .int)
theorem d_C_turns_5 : decode y_C_turns.2.1 5 = .ok (.iload 4, 2) := by decide +kernel
theorem d_C_turns_7 : decode y_C_turns.2.1 7 = .ok (.iload_n 2, 1) := by decide +kernel
theorem d_C_turns_8 : decode y_C_turns.2.1 8 = .ok (.if_icmp .ge 26, 3) := by decide +kernel
theorem d_C_turns_34 : decode y_C_turns.2.1 34 = .ok (.iload_n 3, 1) := by decide +kernel
theorem d_C_turns_35 : decode y_C_turns.2.1 35 = .ok (.ireturn, 1) := by decide +kernel
theorem d_C_turns_11 : decode y_C_turns.2.1 11 = .ok (.aload_n 1, 1) := by decide +kernel
theorem d_C_turns_12 : decode y_C_turns.2.1 12 = .ok (.invokevirtual 53, 3) := by decide +kernel
theorem lk_C_53 : LkV "SinglesUp$Chair" 53 y_H_letComersEnter := ⟨tw_in 931 (by decide +kernel) rfl, tw_in 932 (by decide +kernel) rfl, Or.inl (tw_in 930 (by decide +kernel) rfl)⟩
theorem mo_H_letComersEnter : MOk y_H_letComersEnter 0 := ⟨by decide +kernel, tw_in 933 (by decide +kernel) rfl, tw_in 98 (by decide +kernel) rfl, by decide +kernel, by decide +kernel, by decide +kernel⟩
theorem d_C_turns_15 : decode y_C_turns.2.1 15 = .ok (.aload_n 0, 1) := by decide +kernel
theorem d_C_turns_16 : decode y_C_turns.2.1 16 = .ok (.aload_n 1, 1) := by decide +kernel
theorem d_C_turns_17 : decode y_C_turns.2.1 17 = .ok (.invokevirtual 58, 3) := by decide +kernel
theorem d_C_turns_20 : decode y_C_turns.2.1 20 = .ok (.iload_n 3, 1) := by decide +kernel
theorem d_C_turns_21 : decode y_C_turns.2.1 21 = .ok (.aload_n 0, 1) := by decide +kernel
theorem d_C_turns_22 : decode y_C_turns.2.1 22 = .ok (.aload_n 1, 1) := by decide +kernel
theorem d_C_turns_23 : decode y_C_turns.2.1 23 = .ok (.invokevirtual 61, 3) := by decide +kernel
theorem d_C_turns_26 : decode y_C_turns.2.1 26 = .ok (.iadd, 1) := by decide +kernel
theorem d_C_turns_27 : decode y_C_turns.2.1 27 = .ok (.istore_n 3, 1) := by decide +kernel
theorem d_C_turns_28 : decode y_C_turns.2.1 28 = .ok (.iinc 4 1, 3) := by decide +kernel
theorem d_C_turns_31 : decode y_C_turns.2.1 31 = .ok (.goto (-26), 3) := by decide +kernel
theorem d_C_turns_0 : decode y_C_turns.2.1 0 = .ok (.iconst 0, 1) := by decide +kernel
theorem d_C_turns_1 : decode y_C_turns.2.1 1 = .ok (.istore_n 3, 1) := by decide +kernel
theorem d_C_turns_2 : decode y_C_turns.2.1 2 = .ok (.iconst 0, 1) := by decide +kernel
theorem d_C_turns_3 : decode y_C_turns.2.1 3 = .ok (.istore 4, 2) := by decide +kernel
section
variable {l : Launch} {b : PB}
/-- a hill at h on which nobody stands and nobody comes: seats s, rule ru, EMPTY e, CHAIRS k -/
def FH (h : Nat) (I : Nat → Nat → Int32) (s ru e k : Nat) : Prop :=
  (∀ j, j < 32 → I (h + 4) j = nI 0) ∧ (∀ j, j < 6 → I (h + 8) j = nI 0) ∧ (∀ j, j < 6 → I (h + 9) j = nI 9) ∧ I (h + 1) 0 = nI s ∧ I (h + 1) 3 = nI 0 ∧ I (h + 1) 5 = nI ru ∧ I (h + 10) 1 = nI e ∧ I (h + 10) 0 = nI k ∧
  (∀ j, j < 40 → j ≠ 0 → j ≠ 1 → j ≠ 3 → I (h + 10) j = nI 0) ∧ I (h + 15) 4 = nI 0 ∧ I (h + 20) 4 = nI 0 ∧ I (h + 25) 4 = nI 0 ∧ I (h + 30) 4 = nI 0 ∧ I (h + 35) 4 = nI 0 ∧ (s < 9 ∧ ru < 4 ∧ e < 100000 ∧ k < 100000)
theorem xr_nn {k : Nat} (h : k < 2147483648) : 0 ≤ (nI k ^^^ nI 60).toInt := by
  have e : nI k ^^^ nI 60 = nI (k ^^^ 60) := by
    apply Int32.toBitVec_inj.mp
    show BitVec.ofNat 32 k ^^^ BitVec.ofNat 32 60 = BitVec.ofNat 32 (k ^^^ 60)
    exact (BitVec.ofNat_xor).symm
  have h2 : k ^^^ 60 < 2 ^ 31 := Nat.xor_lt_two_pow (by omega) (by omega)
  rw [e, nI_toInt h2]
  omega
theorem fill_0 {I : Nat → Nat → Int32} {o : Nat} {v : Int32} : updA I o (fun j => if j < 0 then v else I o j) = I := by
  funext k
  unfold updA
  by_cases h : k = o
  · rw [if_pos h, h]
    funext j
    simp
  · rw [if_neg h]
theorem fill_s {I : Nat → Nat → Int32} {o i : Nat} {v : Int32} : upd2 (updA I o (fun j => if j < i then v else I o j)) o i v = updA I o (fun j => if j < i + 1 then v else I o j) := by
  funext k
  unfold upd2 updA
  by_cases h : k = o
  · rw [if_pos h, if_pos h, if_pos h]
    funext j
    unfold upd
    by_cases hj : j = i
    · rw [if_pos hj, if_pos (by omega)]
    · rw [if_neg hj]
      show (if j < i then v else I o j) = _
      by_cases hj2 : j < i
      · rw [if_pos hj2, if_pos (by omega)]
      · rw [if_neg hj2, if_neg (by omega)]
  · rw [if_neg h, if_neg h, if_neg h]
set_option maxRecDepth 20000 in
theorem sp_isLine {K2 : K2T} {I : Nat → Nat → Int32} {x : Int32} {X : Int} (ex : x.toInt = X) (h1 : 0 ≤ X ∧ X < 6 → K2 (some (.int (nI 1))) I) (h0 : ¬ (0 ≤ X ∧ X < 6) → K2 (some (.int (nI 0))) I) : Ss l b 1 y_S_isLine KC RC [.int (x)] (I) K2 := by
  subst ex
  refine Ss.of (show As l b 1 y_S_isLine KC RC K2 (I) 0 [.int (x)] [] from ?_)
  refine aw_iload_n rfl rfl d_S_isLine_0 ?_
  refine aw_if_ltI (tgt := 14) (x).toInt rfl (by decide) d_S_isLine_1 (fun c1 => ?_) (fun c1 => ?_)
  · refine aw_iconst (v := nI 0) ci_0 d_S_isLine_14 ?_
    exact as_retz rfl (by decide +kernel) d_S_isLine_15 (h0 (by omega))
  · refine aw_iload_n rfl rfl d_S_isLine_4 ?_
    refine aw_bipush (v := nI 6) cb_6 d_S_isLine_5 ?_
    refine aw_icmp_geI (tgt := 14) (x).toInt (6) rfl (by decide +kernel) (by decide) d_S_isLine_7 (fun c2 => ?_) (fun c2 => ?_)
    · refine aw_iconst (v := nI 0) ci_0 d_S_isLine_14 ?_
      exact as_retz rfl (by decide +kernel) d_S_isLine_15 (h0 (by omega))
    · refine aw_iconst (v := nI 1) ci_1 d_S_isLine_10 ?_
      refine aw_goto (tgt := 15) (by decide) d_S_isLine_11 ?_
      exact as_retz rfl (by decide +kernel) d_S_isLine_15 (h1 (by omega))
set_option maxRecDepth 20000 in
theorem sp_canBe {K2 : K2T} {I : Nat → Nat → Int32} {x z u : Int32} {X Z U : Int} (ex : x.toInt = X) (ez : z.toInt = Z) (eu : u.toInt = U) (h1 : 1 ≤ X ∧ X ≤ 8 ∧ 1 ≤ Z ∧ Z ≤ X ∧ 0 ≤ U ∧ U ≤ 3 → K2 (some (.int (nI 1))) I) (h0 : ¬ (1 ≤ X ∧ X ≤ 8 ∧ 1 ≤ Z ∧ Z ≤ X ∧ 0 ≤ U ∧ U ≤ 3) → K2 (some (.int (nI 0))) I) : Ss l b 1 y_S_canBe KC RC [.int (x), .int (z), .int (u)] (I) K2 := by
  subst ex
  subst ez
  subst eu
  refine Ss.of (show As l b 1 y_S_canBe KC RC K2 (I) 0 [.int (x), .int (z), .int (u)] [] from ?_)
  refine aw_iload_n rfl rfl d_S_canBe_0 ?_
  refine aw_iconst (v := nI 1) ci_1 d_S_canBe_1 ?_
  refine aw_icmp_ltI (tgt := 34) (x).toInt (1) rfl (by decide +kernel) (by decide) d_S_canBe_2 (fun c1 => ?_) (fun c1 => ?_)
  · refine aw_iconst (v := nI 0) ci_0 d_S_canBe_34 ?_
    exact as_retz rfl (by decide +kernel) d_S_canBe_35 (h0 (by omega))
  · refine aw_iload_n rfl rfl d_S_canBe_5 ?_
    refine aw_bipush (v := nI 8) cb_8 d_S_canBe_6 ?_
    refine aw_icmp_gtI (tgt := 34) (x).toInt (8) rfl (by decide +kernel) (by decide) d_S_canBe_8 (fun c2 => ?_) (fun c2 => ?_)
    · refine aw_iconst (v := nI 0) ci_0 d_S_canBe_34 ?_
      exact as_retz rfl (by decide +kernel) d_S_canBe_35 (h0 (by omega))
    · refine aw_iload_n rfl rfl d_S_canBe_11 ?_
      refine aw_iconst (v := nI 1) ci_1 d_S_canBe_12 ?_
      refine aw_icmp_ltI (tgt := 34) (z).toInt (1) rfl (by decide +kernel) (by decide) d_S_canBe_13 (fun c3 => ?_) (fun c3 => ?_)
      · refine aw_iconst (v := nI 0) ci_0 d_S_canBe_34 ?_
        exact as_retz rfl (by decide +kernel) d_S_canBe_35 (h0 (by omega))
      · refine aw_iload_n rfl rfl d_S_canBe_16 ?_
        refine aw_iload_n rfl rfl d_S_canBe_17 ?_
        refine aw_icmp_gtI (tgt := 34) (z).toInt (x).toInt rfl rfl (by decide) d_S_canBe_18 (fun c4 => ?_) (fun c4 => ?_)
        · refine aw_iconst (v := nI 0) ci_0 d_S_canBe_34 ?_
          exact as_retz rfl (by decide +kernel) d_S_canBe_35 (h0 (by omega))
        · refine aw_iload_n rfl rfl d_S_canBe_21 ?_
          refine aw_if_ltI (tgt := 34) (u).toInt rfl (by decide) d_S_canBe_22 (fun c5 => ?_) (fun c5 => ?_)
          · refine aw_iconst (v := nI 0) ci_0 d_S_canBe_34 ?_
            exact as_retz rfl (by decide +kernel) d_S_canBe_35 (h0 (by omega))
          · refine aw_iload_n rfl rfl d_S_canBe_25 ?_
            refine aw_iconst (v := nI 3) ci_3 d_S_canBe_26 ?_
            refine aw_icmp_gtI (tgt := 34) (u).toInt (3) rfl (by decide +kernel) (by decide) d_S_canBe_27 (fun c6 => ?_) (fun c6 => ?_)
            · refine aw_iconst (v := nI 0) ci_0 d_S_canBe_34 ?_
              exact as_retz rfl (by decide +kernel) d_S_canBe_35 (h0 (by omega))
            · refine aw_iconst (v := nI 1) ci_1 d_S_canBe_30 ?_
              refine aw_goto (tgt := 35) (by decide) d_S_canBe_31 ?_
              exact as_retz rfl (by decide +kernel) d_S_canBe_35 (h1 (by omega))
set_option maxRecDepth 20000 in
theorem sp_min_c {K2 : K2T} {I : Nat → Nat → Int32} {x z : Int32} {X Z : Int} (ex : x.toInt = X) (ez : z.toInt = Z) (hx : X ≤ Z → K2 (some (.int x)) I) (hz : Z < X → K2 (some (.int z)) I) : Ss l b 1 y_JM_min KC RC [.int (x), .int (z)] (I) K2 := by
  subst ex
  subst ez
  refine Ss.of (show As l b 1 y_JM_min KC RC K2 (I) 0 [.int (x), .int (z)] [] from ?_)
  refine aw_iload_n rfl rfl d_JM_min_0 ?_
  refine aw_iload_n rfl rfl d_JM_min_1 ?_
  refine aw_icmp_gtI (tgt := 9) (x).toInt (z).toInt rfl rfl (by decide) d_JM_min_2 (fun c1 => ?_) (fun c1 => ?_)
  · refine aw_iload_n rfl rfl d_JM_min_9 ?_
    exact as_reti rfl d_JM_min_10 (hz (by omega))
  · refine aw_iload_n rfl rfl d_JM_min_5 ?_
    refine aw_goto (tgt := 10) (by decide) d_JM_min_6 ?_
    exact as_reti rfl d_JM_min_10 (hx (by omega))
set_option maxRecDepth 20000 in
theorem sp_min_m {K2 : K2T} {I : Nat → Nat → Int32} {x z : Int32} {X Z : Int} (ex : x.toInt = X) (ez : z.toInt = Z) (hx : X ≤ Z → K2 (some (.int x)) I) (hz : Z < X → K2 (some (.int z)) I) : Ss l b 1 y_JM_min KM RM [.int (x), .int (z)] (I) K2 := by
  subst ex
  subst ez
  refine Ss.of (show As l b 1 y_JM_min KM RM K2 (I) 0 [.int (x), .int (z)] [] from ?_)
  refine aw_iload_n rfl rfl d_JM_min_0 ?_
  refine aw_iload_n rfl rfl d_JM_min_1 ?_
  refine aw_icmp_gtI (tgt := 9) (x).toInt (z).toInt rfl rfl (by decide) d_JM_min_2 (fun c1 => ?_) (fun c1 => ?_)
  · refine aw_iload_n rfl rfl d_JM_min_9 ?_
    exact as_reti rfl d_JM_min_10 (hz (by omega))
  · refine aw_iload_n rfl rfl d_JM_min_5 ?_
    refine aw_goto (tgt := 10) (by decide) d_JM_min_6 ?_
    exact as_reti rfl d_JM_min_10 (hx (by omega))
set_option maxRecDepth 20000 in
theorem sp_max_c {K2 : K2T} {I : Nat → Nat → Int32} {x z : Int32} {X Z : Int} (ex : x.toInt = X) (ez : z.toInt = Z) (hx : Z ≤ X → K2 (some (.int x)) I) (hz : X < Z → K2 (some (.int z)) I) : Ss l b 1 y_JM_max KC RC [.int (x), .int (z)] (I) K2 := by
  subst ex
  subst ez
  refine Ss.of (show As l b 1 y_JM_max KC RC K2 (I) 0 [.int (x), .int (z)] [] from ?_)
  refine aw_iload_n rfl rfl d_JM_max_0 ?_
  refine aw_iload_n rfl rfl d_JM_max_1 ?_
  refine aw_icmp_ltI (tgt := 9) (x).toInt (z).toInt rfl rfl (by decide) d_JM_max_2 (fun c1 => ?_) (fun c1 => ?_)
  · refine aw_iload_n rfl rfl d_JM_max_9 ?_
    exact as_reti rfl d_JM_max_10 (hz (by omega))
  · refine aw_iload_n rfl rfl d_JM_max_5 ?_
    refine aw_goto (tgt := 10) (by decide) d_JM_max_6 ?_
    exact as_reti rfl d_JM_max_10 (hx (by omega))
set_option maxRecDepth 20000 in
theorem sp_max_m {K2 : K2T} {I : Nat → Nat → Int32} {x z : Int32} {X Z : Int} (ex : x.toInt = X) (ez : z.toInt = Z) (hx : Z ≤ X → K2 (some (.int x)) I) (hz : X < Z → K2 (some (.int z)) I) : Ss l b 1 y_JM_max KM RM [.int (x), .int (z)] (I) K2 := by
  subst ex
  subst ez
  refine Ss.of (show As l b 1 y_JM_max KM RM K2 (I) 0 [.int (x), .int (z)] [] from ?_)
  refine aw_iload_n rfl rfl d_JM_max_0 ?_
  refine aw_iload_n rfl rfl d_JM_max_1 ?_
  refine aw_icmp_ltI (tgt := 9) (x).toInt (z).toInt rfl rfl (by decide) d_JM_max_2 (fun c1 => ?_) (fun c1 => ?_)
  · refine aw_iload_n rfl rfl d_JM_max_9 ?_
    exact as_reti rfl d_JM_max_10 (hz (by omega))
  · refine aw_iload_n rfl rfl d_JM_max_5 ?_
    refine aw_goto (tgt := 10) (by decide) d_JM_max_6 ?_
    exact as_reti rfl d_JM_max_10 (hx (by omega))
set_option maxRecDepth 20000 in
theorem sp_fm_c {K2 : K2T} {I : Nat → Nat → Int32} {k : Nat} (hk : k < 2147483648) (h : K2 (some (.int (nI (k % 60)))) I) : Ss l b 1 y_JM_floorMod KC RC [.int (nI (k)), .int (nI 60)] (I) K2 := by
  refine Ss.of (show As l b 1 y_JM_floorMod KC RC K2 (I) 0 [.int (nI (k)), .int (nI 60), uu] [] from ?_)
  refine aw_iload_n rfl rfl d_JM_floorMod_0 ?_
  refine aw_iload_n rfl rfl d_JM_floorMod_1 ?_
  refine aw_iremN (by omega) (by omega) (by omega) d_JM_floorMod_2 ?_
  refine aw_istore_n (lv2 := [.int (nI (k)), .int (nI 60), .int (nI ((k % 60)))]) rfl (by decide) rfl d_JM_floorMod_3 ?_
  refine aw_iload_n rfl rfl d_JM_floorMod_4 ?_
  refine aw_iload_n rfl rfl d_JM_floorMod_5 ?_
  refine aw_ixor d_JM_floorMod_6 ?_
  refine aw_if_geI (tgt := 18) ((nI (k) ^^^ nI 60)).toInt rfl (by decide) d_JM_floorMod_7 (fun _ => ?_) (fun q => absurd q (by exact Int.not_lt.mpr (xr_nn hk)))
  refine aw_iload_n rfl rfl d_JM_floorMod_18 ?_
  exact as_reti rfl d_JM_floorMod_19 h
set_option maxRecDepth 20000 in
theorem sp_fm_m {K2 : K2T} {I : Nat → Nat → Int32} {k : Nat} (hk : k < 2147483648) (h : K2 (some (.int (nI (k % 60)))) I) : Ss l b 1 y_JM_floorMod KM RM [.int (nI (k)), .int (nI 60)] (I) K2 := by
  refine Ss.of (show As l b 1 y_JM_floorMod KM RM K2 (I) 0 [.int (nI (k)), .int (nI 60), uu] [] from ?_)
  refine aw_iload_n rfl rfl d_JM_floorMod_0 ?_
  refine aw_iload_n rfl rfl d_JM_floorMod_1 ?_
  refine aw_iremN (by omega) (by omega) (by omega) d_JM_floorMod_2 ?_
  refine aw_istore_n (lv2 := [.int (nI (k)), .int (nI 60), .int (nI ((k % 60)))]) rfl (by decide) rfl d_JM_floorMod_3 ?_
  refine aw_iload_n rfl rfl d_JM_floorMod_4 ?_
  refine aw_iload_n rfl rfl d_JM_floorMod_5 ?_
  refine aw_ixor d_JM_floorMod_6 ?_
  refine aw_if_geI (tgt := 18) ((nI (k) ^^^ nI 60)).toInt rfl (by decide) d_JM_floorMod_7 (fun _ => ?_) (fun q => absurd q (by exact Int.not_lt.mpr (xr_nn hk)))
  refine aw_iload_n rfl rfl d_JM_floorMod_18 ?_
  exact as_reti rfl d_JM_floorMod_19 h
set_option maxRecDepth 20000 in
theorem sp_pastAt {K2 : K2T} {I : Nat → Nat → Int32} {k : Nat} (hk : k < 2147483648) (h : K2 (some (.int (nI (k % 60 * 3)))) I) : Ss l b 2 y_H_pastAt KC RC [.int (nI (k))] (I) K2 := by
  refine Ss.of (show As l b 2 y_H_pastAt KC RC K2 (I) 0 [.int (nI (k))] [] from ?_)
  refine aw_iload_n rfl rfl d_H_pastAt_0 ?_
  refine aw_bipush (v := nI 60) cb_60 d_H_pastAt_1 ?_
  refine as_callS (as := [.int (nI (k)), .int (nI 60)]) (d' := 1) mo_JM_floorMod lk_H_119 rfl ⟨by decide, by decide⟩ rfl rfl (by decide) d_H_pastAt_3 (sp_fm_c (I := I) (k := k) (by omega) ?_)
  refine (show As l b 2 y_H_pastAt KC RC K2 (I) 6 [.int (nI (k))] [.int (nI ((k % 60)))] from ?_)
  refine aw_iconst (v := nI 3) ci_3 d_H_pastAt_6 ?_
  refine aw_imulN d_H_pastAt_7 ?_
  exact as_reti rfl d_H_pastAt_8 h
set_option maxRecDepth 20000 in
theorem lp_fill_c131 {K2 : K2T} {I : Nat → Nat → Int32} {v : Int32} (hK : K2 none (updA I 131 (fun j => if j < 240 then v else I 131 j))) : ∀ (n i : Nat), i + n = 240 → As l b 1 y_JA_fill KC RC K2 (updA I 131 (fun j => if j < i then v else I 131 j)) 5 [.ref 131, .int (v), .int (nI (i)), .int (nI 240)] [] := by
  intro n
  induction n with
  | zero =>
    intro i hi
    refine aw_iload_n rfl rfl d_JA_fill_5 ?_
    refine aw_iload_n rfl rfl d_JA_fill_6 ?_
    refine aw_icmp_geI (tgt := 20) ((i : Nat) : Int) (240) (nI_toInt (by omega)) (by decide +kernel) (by decide) d_JA_fill_7 (fun _ => ?_) (fun q => absurd q (by omega))
    exact as_retv rfl d_JA_fill_20 (by rw [show i = 240 by omega]; exact hK)
  | succ n ih =>
    intro i hi
    refine aw_iload_n rfl rfl d_JA_fill_5 ?_
    refine aw_iload_n rfl rfl d_JA_fill_6 ?_
    refine aw_icmp_geI (tgt := 20) ((i : Nat) : Int) (240) (nI_toInt (by omega)) (by decide +kernel) (by decide) d_JA_fill_7 (fun q => absurd q (by omega)) (fun _ => ?_)
    refine aw_aload_n rfl rfl d_JA_fill_10 ?_
    refine aw_iload_n rfl rfl d_JA_fill_11 ?_
    refine aw_iload_n rfl rfl d_JA_fill_12 ?_
    refine aw_iast (j := i) kc_131 (vp_in_nI (by omega) (by decide)) (nI_clamp (by omega)) d_JA_fill_13 ?_
    refine aw_iinc (v := nI (i + 1)) (lv2 := [.ref 131, .int (v), .int (nI (i + 1)), .int (nI 240)]) rfl (inc_1 _) (by decide) rfl d_JA_fill_14 ?_
    refine aw_goto (tgt := 5) (by decide) d_JA_fill_17 ?_
    rw [fill_s]; exact ih (i + 1) (by omega)
set_option maxRecDepth 20000 in
theorem sp_fill_c131 {K2 : K2T} {I : Nat → Nat → Int32} {v : Int32} (hK : K2 none (updA I 131 (fun j => if j < 240 then v else I 131 j))) : Ss l b 1 y_JA_fill KC RC [.ref 131, .int (v)] (I) K2 := by
  refine Ss.of (show As l b 1 y_JA_fill KC RC K2 (I) 0 [.ref 131, .int (v), uu, uu] [] from ?_)
  refine aw_iconst (v := nI 0) ci_0 d_JA_fill_0 ?_
  refine aw_istore_n (lv2 := [.ref 131, .int (v), .int (nI 0), uu]) rfl (by decide) rfl d_JA_fill_1 ?_
  refine aw_aload_n rfl rfl d_JA_fill_2 ?_
  refine aw_alen kc_131 (by decide) d_JA_fill_3 ?_
  refine aw_istore_n (lv2 := [.ref 131, .int (v), .int (nI 0), .int (nI 240)]) rfl (by decide) rfl d_JA_fill_4 ?_
  have h0 := lp_fill_c131 (l := l) (b := b) hK 240 0 (by omega); rw [fill_0] at h0; exact h0
set_option maxRecDepth 20000 in
theorem sp_clear_130 {K2 : K2T} {I : Nat → Nat → Int32} {v : Int32} (hK : K2 none (upd2 (upd2 (upd2 (upd2 (upd2 (updA I 131 (fun j => if j < 240 then nI 0 else I 131 j)) 130 7 (v)) 130 8 (nI 0)) 130 9 (nI 0)) 130 10 (nI 0)) 130 11 (nI 0))) : Ss l b 2 y_C_clear KC RC [.ref 130, .int (v)] (I) K2 := by
  refine Ss.of (show As l b 2 y_C_clear KC RC K2 (I) 0 [.ref 130, .int (v)] [] from ?_)
  refine aw_aload_n rfl rfl d_C_clear_0 ?_
  refine aw_getr fl_C_9 kc_130 (by decide) rfl rc_130_0 d_C_clear_1 ?_
  refine aw_iconst (v := nI 0) ci_0 d_C_clear_4 ?_
  refine as_callS (as := [.ref 131, .int (nI 0)]) (d' := 1) mo_JA_fill lk_C_34 rfl ⟨by decide, by decide⟩ rfl rfl (by decide) d_C_clear_5 (sp_fill_c131 (I := I) (v := nI 0) ?_)
  refine (show As l b 2 y_C_clear KC RC K2 (updA (I) 131 (fun j => if j < 240 then nI 0 else (I) 131 j)) 8 [.ref 130, .int (v)] [] from ?_)
  refine aw_aload_n rfl rfl d_C_clear_8 ?_
  refine aw_iload_n rfl rfl d_C_clear_9 ?_
  refine aw_puti fl_C_30 kc_130 (by decide) rfl rfl rfl rfl d_C_clear_10 ?_
  refine aw_aload_n rfl rfl d_C_clear_13 ?_
  refine aw_iconst (v := nI 0) ci_0 d_C_clear_14 ?_
  refine aw_puti fl_C_40 kc_130 (by decide) rfl rfl rfl rfl d_C_clear_15 ?_
  refine aw_aload_n rfl rfl d_C_clear_18 ?_
  refine aw_iconst (v := nI 0) ci_0 d_C_clear_19 ?_
  refine aw_puti fl_C_43 kc_130 (by decide) rfl rfl rfl rfl d_C_clear_20 ?_
  refine aw_aload_n rfl rfl d_C_clear_23 ?_
  refine aw_iconst (v := nI 0) ci_0 d_C_clear_24 ?_
  refine aw_puti fl_C_46 kc_130 (by decide) rfl (by decide +kernel) (by decide +kernel) rfl d_C_clear_25 ?_
  refine aw_aload_n rfl rfl d_C_clear_28 ?_
  refine aw_iconst (v := nI 0) ci_0 d_C_clear_29 ?_
  refine aw_puti fl_C_50 kc_130 (by decide) rfl (by decide +kernel) (by decide +kernel) rfl d_C_clear_30 ?_
  exact as_retv rfl d_C_clear_33 hK
set_option maxRecDepth 20000 in
theorem sp_listSeen_7_135_n {K2 : K2T} {I : Nat → Nat → Int32} (f1 : ∀ j, j < 6 → I 9 j = nI 0) (f2 : ∀ j, j < 6 → I 10 j = nI 9) (hK : K2 (some (.int (nI 0))) I) : Ss l b 2 y_L_listSeen KC RC [.ref 7, .ref 135, .int ((-1 : Int32))] (I) K2 := by
  refine Ss.of (show As l b 2 y_L_listSeen KC RC K2 (I) 0 [.ref 7, .ref 135, .int ((-1 : Int32)), uu, uu, uu, uu] [] from ?_)
  refine aw_iconst (v := nI 0) ci_0 d_L_listSeen_0 ?_
  refine aw_istore_n (lv2 := [.ref 7, .ref 135, .int ((-1 : Int32)), .int (nI 0), uu, uu, uu]) rfl (by decide) rfl d_L_listSeen_1 ?_
  refine aw_iconst (v := nI 0) ci_0 d_L_listSeen_2 ?_
  refine aw_istore (lv2 := [.ref 7, .ref 135, .int ((-1 : Int32)), .int (nI 0), .int (nI 0), uu, uu]) (by decide) rfl d_L_listSeen_3 ?_
  refine aw_iload rfl d_L_listSeen_5 ?_
  refine aw_bipush (v := nI 6) cb_6 d_L_listSeen_7 ?_
  refine aw_icmp_geI (tgt := 85) (0) (6) (by decide +kernel) (by decide +kernel) (by decide) d_L_listSeen_9 (fun q => absurd q (by decide)) (fun _ => ?_)
  refine aw_aload_n rfl rfl d_L_listSeen_12 ?_
  refine aw_getr fl_L_15 kc_7 (by decide) rfl rc_7_1 d_L_listSeen_13 ?_
  refine aw_iload rfl d_L_listSeen_16 ?_
  refine aw_iald (j := 0) kc_9 (vp_in_nI (by decide) (by decide)) (nI_clamp (by decide)) d_L_listSeen_18 ?_
  refine aw_top (x2 := nI 0) (f1 (0) (by omega)) ?_
  refine aw_aload_n rfl rfl d_L_listSeen_19 ?_
  refine aw_getr fl_L_18 kc_7 (by decide) rfl rc_7_2 d_L_listSeen_20 ?_
  refine aw_iload rfl d_L_listSeen_23 ?_
  refine aw_iald (j := 0) kc_10 (vp_in_nI (by decide) (by decide)) (nI_clamp (by decide)) d_L_listSeen_25 ?_
  refine aw_top (x2 := nI 9) (f2 (0) (by omega)) ?_
  refine aw_iload rfl d_L_listSeen_26 ?_
  refine aw_iload_n rfl rfl d_L_listSeen_28 ?_
  refine aw_icmp_neI (tgt := 36) (0) (-1) (by decide +kernel) (by decide +kernel) (by decide) d_L_listSeen_29 (fun _ => ?_) (fun q => absurd q (by decide))
  refine aw_iconst (v := nI 0) ci_0 d_L_listSeen_36 ?_
  refine aw_iadd d_L_listSeen_37 ?_
  refine aw_top (x2 := nI 9) (by decide +kernel) ?_
  refine as_callS (as := [.int (nI 0), .int (nI 9)]) (d' := 1) mo_JM_min lk_L_37 rfl ⟨by decide, by decide⟩ rfl rfl (by decide) d_L_listSeen_38 (sp_min_c (I := I) (x := nI 0) (z := nI 9) (X := (0)) (Z := (9)) (by decide +kernel) (by decide +kernel) (fun _ => ?_) (fun q => absurd q (by decide)) )
  refine (show As l b 2 y_L_listSeen KC RC K2 (I) 41 [.ref 7, .ref 135, .int ((-1 : Int32)), .int (nI 0), .int (nI 0), uu, uu] [.int (nI 0)] from ?_)
  refine aw_istore (lv2 := [.ref 7, .ref 135, .int ((-1 : Int32)), .int (nI 0), .int (nI 0), .int (nI 0), uu]) (by decide) rfl d_L_listSeen_41 ?_
  refine aw_iconst (v := nI 0) ci_0 d_L_listSeen_43 ?_
  refine aw_istore (lv2 := [.ref 7, .ref 135, .int ((-1 : Int32)), .int (nI 0), .int (nI 0), .int (nI 0), .int (nI 0)]) (by decide) rfl d_L_listSeen_44 ?_
  refine aw_iload rfl d_L_listSeen_46 ?_
  refine aw_iload rfl d_L_listSeen_48 ?_
  refine aw_icmp_geI (tgt := 79) (0) (0) (by decide +kernel) (by decide +kernel) (by decide) d_L_listSeen_50 (fun _ => ?_) (fun q => absurd q (by decide))
  refine aw_iinc (v := nI 1) (lv2 := [.ref 7, .ref 135, .int ((-1 : Int32)), .int (nI 0), .int (nI 1), .int (nI 0), .int (nI 0)]) rfl (by decide +kernel) (by decide) rfl d_L_listSeen_79 ?_
  refine aw_goto (tgt := 5) (by decide) d_L_listSeen_82 ?_
  refine aw_iload rfl d_L_listSeen_5 ?_
  refine aw_bipush (v := nI 6) cb_6 d_L_listSeen_7 ?_
  refine aw_icmp_geI (tgt := 85) (1) (6) (by decide +kernel) (by decide +kernel) (by decide) d_L_listSeen_9 (fun q => absurd q (by decide)) (fun _ => ?_)
  refine aw_aload_n rfl rfl d_L_listSeen_12 ?_
  refine aw_getr fl_L_15 kc_7 (by decide) rfl rc_7_1 d_L_listSeen_13 ?_
  refine aw_iload rfl d_L_listSeen_16 ?_
  refine aw_iald (j := 1) kc_9 (vp_in_nI (by decide) (by decide)) (nI_clamp (by decide)) d_L_listSeen_18 ?_
  refine aw_top (x2 := nI 0) (f1 (1) (by omega)) ?_
  refine aw_aload_n rfl rfl d_L_listSeen_19 ?_
  refine aw_getr fl_L_18 kc_7 (by decide) rfl rc_7_2 d_L_listSeen_20 ?_
  refine aw_iload rfl d_L_listSeen_23 ?_
  refine aw_iald (j := 1) kc_10 (vp_in_nI (by decide) (by decide)) (nI_clamp (by decide)) d_L_listSeen_25 ?_
  refine aw_top (x2 := nI 9) (f2 (1) (by omega)) ?_
  refine aw_iload rfl d_L_listSeen_26 ?_
  refine aw_iload_n rfl rfl d_L_listSeen_28 ?_
  refine aw_icmp_neI (tgt := 36) (1) (-1) (by decide +kernel) (by decide +kernel) (by decide) d_L_listSeen_29 (fun _ => ?_) (fun q => absurd q (by decide))
  refine aw_iconst (v := nI 0) ci_0 d_L_listSeen_36 ?_
  refine aw_iadd d_L_listSeen_37 ?_
  refine aw_top (x2 := nI 9) (by decide +kernel) ?_
  refine as_callS (as := [.int (nI 0), .int (nI 9)]) (d' := 1) mo_JM_min lk_L_37 rfl ⟨by decide, by decide⟩ rfl rfl (by decide) d_L_listSeen_38 (sp_min_c (I := I) (x := nI 0) (z := nI 9) (X := (0)) (Z := (9)) (by decide +kernel) (by decide +kernel) (fun _ => ?_) (fun q => absurd q (by decide)) )
  refine (show As l b 2 y_L_listSeen KC RC K2 (I) 41 [.ref 7, .ref 135, .int ((-1 : Int32)), .int (nI 0), .int (nI 1), .int (nI 0), .int (nI 0)] [.int (nI 0)] from ?_)
  refine aw_istore (lv2 := [.ref 7, .ref 135, .int ((-1 : Int32)), .int (nI 0), .int (nI 1), .int (nI 0), .int (nI 0)]) (by decide) rfl d_L_listSeen_41 ?_
  refine aw_iconst (v := nI 0) ci_0 d_L_listSeen_43 ?_
  refine aw_istore (lv2 := [.ref 7, .ref 135, .int ((-1 : Int32)), .int (nI 0), .int (nI 1), .int (nI 0), .int (nI 0)]) (by decide) rfl d_L_listSeen_44 ?_
  refine aw_iload rfl d_L_listSeen_46 ?_
  refine aw_iload rfl d_L_listSeen_48 ?_
  refine aw_icmp_geI (tgt := 79) (0) (0) (by decide +kernel) (by decide +kernel) (by decide) d_L_listSeen_50 (fun _ => ?_) (fun q => absurd q (by decide))
  refine aw_iinc (v := nI 2) (lv2 := [.ref 7, .ref 135, .int ((-1 : Int32)), .int (nI 0), .int (nI 2), .int (nI 0), .int (nI 0)]) rfl (by decide +kernel) (by decide) rfl d_L_listSeen_79 ?_
  refine aw_goto (tgt := 5) (by decide) d_L_listSeen_82 ?_
  refine aw_iload rfl d_L_listSeen_5 ?_
  refine aw_bipush (v := nI 6) cb_6 d_L_listSeen_7 ?_
  refine aw_icmp_geI (tgt := 85) (2) (6) (by decide +kernel) (by decide +kernel) (by decide) d_L_listSeen_9 (fun q => absurd q (by decide)) (fun _ => ?_)
  refine aw_aload_n rfl rfl d_L_listSeen_12 ?_
  refine aw_getr fl_L_15 kc_7 (by decide) rfl rc_7_1 d_L_listSeen_13 ?_
  refine aw_iload rfl d_L_listSeen_16 ?_
  refine aw_iald (j := 2) kc_9 (vp_in_nI (by decide) (by decide)) (nI_clamp (by decide)) d_L_listSeen_18 ?_
  refine aw_top (x2 := nI 0) (f1 (2) (by omega)) ?_
  refine aw_aload_n rfl rfl d_L_listSeen_19 ?_
  refine aw_getr fl_L_18 kc_7 (by decide) rfl rc_7_2 d_L_listSeen_20 ?_
  refine aw_iload rfl d_L_listSeen_23 ?_
  refine aw_iald (j := 2) kc_10 (vp_in_nI (by decide) (by decide)) (nI_clamp (by decide)) d_L_listSeen_25 ?_
  refine aw_top (x2 := nI 9) (f2 (2) (by omega)) ?_
  refine aw_iload rfl d_L_listSeen_26 ?_
  refine aw_iload_n rfl rfl d_L_listSeen_28 ?_
  refine aw_icmp_neI (tgt := 36) (2) (-1) (by decide +kernel) (by decide +kernel) (by decide) d_L_listSeen_29 (fun _ => ?_) (fun q => absurd q (by decide))
  refine aw_iconst (v := nI 0) ci_0 d_L_listSeen_36 ?_
  refine aw_iadd d_L_listSeen_37 ?_
  refine aw_top (x2 := nI 9) (by decide +kernel) ?_
  refine as_callS (as := [.int (nI 0), .int (nI 9)]) (d' := 1) mo_JM_min lk_L_37 rfl ⟨by decide, by decide⟩ rfl rfl (by decide) d_L_listSeen_38 (sp_min_c (I := I) (x := nI 0) (z := nI 9) (X := (0)) (Z := (9)) (by decide +kernel) (by decide +kernel) (fun _ => ?_) (fun q => absurd q (by decide)) )
  refine (show As l b 2 y_L_listSeen KC RC K2 (I) 41 [.ref 7, .ref 135, .int ((-1 : Int32)), .int (nI 0), .int (nI 2), .int (nI 0), .int (nI 0)] [.int (nI 0)] from ?_)
  refine aw_istore (lv2 := [.ref 7, .ref 135, .int ((-1 : Int32)), .int (nI 0), .int (nI 2), .int (nI 0), .int (nI 0)]) (by decide) rfl d_L_listSeen_41 ?_
  refine aw_iconst (v := nI 0) ci_0 d_L_listSeen_43 ?_
  refine aw_istore (lv2 := [.ref 7, .ref 135, .int ((-1 : Int32)), .int (nI 0), .int (nI 2), .int (nI 0), .int (nI 0)]) (by decide) rfl d_L_listSeen_44 ?_
  refine aw_iload rfl d_L_listSeen_46 ?_
  refine aw_iload rfl d_L_listSeen_48 ?_
  refine aw_icmp_geI (tgt := 79) (0) (0) (by decide +kernel) (by decide +kernel) (by decide) d_L_listSeen_50 (fun _ => ?_) (fun q => absurd q (by decide))
  refine aw_iinc (v := nI 3) (lv2 := [.ref 7, .ref 135, .int ((-1 : Int32)), .int (nI 0), .int (nI 3), .int (nI 0), .int (nI 0)]) rfl (by decide +kernel) (by decide) rfl d_L_listSeen_79 ?_
  refine aw_goto (tgt := 5) (by decide) d_L_listSeen_82 ?_
  refine aw_iload rfl d_L_listSeen_5 ?_
  refine aw_bipush (v := nI 6) cb_6 d_L_listSeen_7 ?_
  refine aw_icmp_geI (tgt := 85) (3) (6) (by decide +kernel) (by decide +kernel) (by decide) d_L_listSeen_9 (fun q => absurd q (by decide)) (fun _ => ?_)
  refine aw_aload_n rfl rfl d_L_listSeen_12 ?_
  refine aw_getr fl_L_15 kc_7 (by decide) rfl rc_7_1 d_L_listSeen_13 ?_
  refine aw_iload rfl d_L_listSeen_16 ?_
  refine aw_iald (j := 3) kc_9 (vp_in_nI (by decide) (by decide)) (nI_clamp (by decide)) d_L_listSeen_18 ?_
  refine aw_top (x2 := nI 0) (f1 (3) (by omega)) ?_
  refine aw_aload_n rfl rfl d_L_listSeen_19 ?_
  refine aw_getr fl_L_18 kc_7 (by decide) rfl rc_7_2 d_L_listSeen_20 ?_
  refine aw_iload rfl d_L_listSeen_23 ?_
  refine aw_iald (j := 3) kc_10 (vp_in_nI (by decide) (by decide)) (nI_clamp (by decide)) d_L_listSeen_25 ?_
  refine aw_top (x2 := nI 9) (f2 (3) (by omega)) ?_
  refine aw_iload rfl d_L_listSeen_26 ?_
  refine aw_iload_n rfl rfl d_L_listSeen_28 ?_
  refine aw_icmp_neI (tgt := 36) (3) (-1) (by decide +kernel) (by decide +kernel) (by decide) d_L_listSeen_29 (fun _ => ?_) (fun q => absurd q (by decide))
  refine aw_iconst (v := nI 0) ci_0 d_L_listSeen_36 ?_
  refine aw_iadd d_L_listSeen_37 ?_
  refine aw_top (x2 := nI 9) (by decide +kernel) ?_
  refine as_callS (as := [.int (nI 0), .int (nI 9)]) (d' := 1) mo_JM_min lk_L_37 rfl ⟨by decide, by decide⟩ rfl rfl (by decide) d_L_listSeen_38 (sp_min_c (I := I) (x := nI 0) (z := nI 9) (X := (0)) (Z := (9)) (by decide +kernel) (by decide +kernel) (fun _ => ?_) (fun q => absurd q (by decide)) )
  refine (show As l b 2 y_L_listSeen KC RC K2 (I) 41 [.ref 7, .ref 135, .int ((-1 : Int32)), .int (nI 0), .int (nI 3), .int (nI 0), .int (nI 0)] [.int (nI 0)] from ?_)
  refine aw_istore (lv2 := [.ref 7, .ref 135, .int ((-1 : Int32)), .int (nI 0), .int (nI 3), .int (nI 0), .int (nI 0)]) (by decide) rfl d_L_listSeen_41 ?_
  refine aw_iconst (v := nI 0) ci_0 d_L_listSeen_43 ?_
  refine aw_istore (lv2 := [.ref 7, .ref 135, .int ((-1 : Int32)), .int (nI 0), .int (nI 3), .int (nI 0), .int (nI 0)]) (by decide) rfl d_L_listSeen_44 ?_
  refine aw_iload rfl d_L_listSeen_46 ?_
  refine aw_iload rfl d_L_listSeen_48 ?_
  refine aw_icmp_geI (tgt := 79) (0) (0) (by decide +kernel) (by decide +kernel) (by decide) d_L_listSeen_50 (fun _ => ?_) (fun q => absurd q (by decide))
  refine aw_iinc (v := nI 4) (lv2 := [.ref 7, .ref 135, .int ((-1 : Int32)), .int (nI 0), .int (nI 4), .int (nI 0), .int (nI 0)]) rfl (by decide +kernel) (by decide) rfl d_L_listSeen_79 ?_
  refine aw_goto (tgt := 5) (by decide) d_L_listSeen_82 ?_
  refine aw_iload rfl d_L_listSeen_5 ?_
  refine aw_bipush (v := nI 6) cb_6 d_L_listSeen_7 ?_
  refine aw_icmp_geI (tgt := 85) (4) (6) (by decide +kernel) (by decide +kernel) (by decide) d_L_listSeen_9 (fun q => absurd q (by decide)) (fun _ => ?_)
  refine aw_aload_n rfl rfl d_L_listSeen_12 ?_
  refine aw_getr fl_L_15 kc_7 (by decide) rfl rc_7_1 d_L_listSeen_13 ?_
  refine aw_iload rfl d_L_listSeen_16 ?_
  refine aw_iald (j := 4) kc_9 (vp_in_nI (by decide) (by decide)) (nI_clamp (by decide)) d_L_listSeen_18 ?_
  refine aw_top (x2 := nI 0) (f1 (4) (by omega)) ?_
  refine aw_aload_n rfl rfl d_L_listSeen_19 ?_
  refine aw_getr fl_L_18 kc_7 (by decide) rfl rc_7_2 d_L_listSeen_20 ?_
  refine aw_iload rfl d_L_listSeen_23 ?_
  refine aw_iald (j := 4) kc_10 (vp_in_nI (by decide) (by decide)) (nI_clamp (by decide)) d_L_listSeen_25 ?_
  refine aw_top (x2 := nI 9) (f2 (4) (by omega)) ?_
  refine aw_iload rfl d_L_listSeen_26 ?_
  refine aw_iload_n rfl rfl d_L_listSeen_28 ?_
  refine aw_icmp_neI (tgt := 36) (4) (-1) (by decide +kernel) (by decide +kernel) (by decide) d_L_listSeen_29 (fun _ => ?_) (fun q => absurd q (by decide))
  refine aw_iconst (v := nI 0) ci_0 d_L_listSeen_36 ?_
  refine aw_iadd d_L_listSeen_37 ?_
  refine aw_top (x2 := nI 9) (by decide +kernel) ?_
  refine as_callS (as := [.int (nI 0), .int (nI 9)]) (d' := 1) mo_JM_min lk_L_37 rfl ⟨by decide, by decide⟩ rfl rfl (by decide) d_L_listSeen_38 (sp_min_c (I := I) (x := nI 0) (z := nI 9) (X := (0)) (Z := (9)) (by decide +kernel) (by decide +kernel) (fun _ => ?_) (fun q => absurd q (by decide)) )
  refine (show As l b 2 y_L_listSeen KC RC K2 (I) 41 [.ref 7, .ref 135, .int ((-1 : Int32)), .int (nI 0), .int (nI 4), .int (nI 0), .int (nI 0)] [.int (nI 0)] from ?_)
  refine aw_istore (lv2 := [.ref 7, .ref 135, .int ((-1 : Int32)), .int (nI 0), .int (nI 4), .int (nI 0), .int (nI 0)]) (by decide) rfl d_L_listSeen_41 ?_
  refine aw_iconst (v := nI 0) ci_0 d_L_listSeen_43 ?_
  refine aw_istore (lv2 := [.ref 7, .ref 135, .int ((-1 : Int32)), .int (nI 0), .int (nI 4), .int (nI 0), .int (nI 0)]) (by decide) rfl d_L_listSeen_44 ?_
  refine aw_iload rfl d_L_listSeen_46 ?_
  refine aw_iload rfl d_L_listSeen_48 ?_
  refine aw_icmp_geI (tgt := 79) (0) (0) (by decide +kernel) (by decide +kernel) (by decide) d_L_listSeen_50 (fun _ => ?_) (fun q => absurd q (by decide))
  refine aw_iinc (v := nI 5) (lv2 := [.ref 7, .ref 135, .int ((-1 : Int32)), .int (nI 0), .int (nI 5), .int (nI 0), .int (nI 0)]) rfl (by decide +kernel) (by decide) rfl d_L_listSeen_79 ?_
  refine aw_goto (tgt := 5) (by decide) d_L_listSeen_82 ?_
  refine aw_iload rfl d_L_listSeen_5 ?_
  refine aw_bipush (v := nI 6) cb_6 d_L_listSeen_7 ?_
  refine aw_icmp_geI (tgt := 85) (5) (6) (by decide +kernel) (by decide +kernel) (by decide) d_L_listSeen_9 (fun q => absurd q (by decide)) (fun _ => ?_)
  refine aw_aload_n rfl rfl d_L_listSeen_12 ?_
  refine aw_getr fl_L_15 kc_7 (by decide) rfl rc_7_1 d_L_listSeen_13 ?_
  refine aw_iload rfl d_L_listSeen_16 ?_
  refine aw_iald (j := 5) kc_9 (vp_in_nI (by decide) (by decide)) (nI_clamp (by decide)) d_L_listSeen_18 ?_
  refine aw_top (x2 := nI 0) (f1 (5) (by omega)) ?_
  refine aw_aload_n rfl rfl d_L_listSeen_19 ?_
  refine aw_getr fl_L_18 kc_7 (by decide) rfl rc_7_2 d_L_listSeen_20 ?_
  refine aw_iload rfl d_L_listSeen_23 ?_
  refine aw_iald (j := 5) kc_10 (vp_in_nI (by decide) (by decide)) (nI_clamp (by decide)) d_L_listSeen_25 ?_
  refine aw_top (x2 := nI 9) (f2 (5) (by omega)) ?_
  refine aw_iload rfl d_L_listSeen_26 ?_
  refine aw_iload_n rfl rfl d_L_listSeen_28 ?_
  refine aw_icmp_neI (tgt := 36) (5) (-1) (by decide +kernel) (by decide +kernel) (by decide) d_L_listSeen_29 (fun _ => ?_) (fun q => absurd q (by decide))
  refine aw_iconst (v := nI 0) ci_0 d_L_listSeen_36 ?_
  refine aw_iadd d_L_listSeen_37 ?_
  refine aw_top (x2 := nI 9) (by decide +kernel) ?_
  refine as_callS (as := [.int (nI 0), .int (nI 9)]) (d' := 1) mo_JM_min lk_L_37 rfl ⟨by decide, by decide⟩ rfl rfl (by decide) d_L_listSeen_38 (sp_min_c (I := I) (x := nI 0) (z := nI 9) (X := (0)) (Z := (9)) (by decide +kernel) (by decide +kernel) (fun _ => ?_) (fun q => absurd q (by decide)) )
  refine (show As l b 2 y_L_listSeen KC RC K2 (I) 41 [.ref 7, .ref 135, .int ((-1 : Int32)), .int (nI 0), .int (nI 5), .int (nI 0), .int (nI 0)] [.int (nI 0)] from ?_)
  refine aw_istore (lv2 := [.ref 7, .ref 135, .int ((-1 : Int32)), .int (nI 0), .int (nI 5), .int (nI 0), .int (nI 0)]) (by decide) rfl d_L_listSeen_41 ?_
  refine aw_iconst (v := nI 0) ci_0 d_L_listSeen_43 ?_
  refine aw_istore (lv2 := [.ref 7, .ref 135, .int ((-1 : Int32)), .int (nI 0), .int (nI 5), .int (nI 0), .int (nI 0)]) (by decide) rfl d_L_listSeen_44 ?_
  refine aw_iload rfl d_L_listSeen_46 ?_
  refine aw_iload rfl d_L_listSeen_48 ?_
  refine aw_icmp_geI (tgt := 79) (0) (0) (by decide +kernel) (by decide +kernel) (by decide) d_L_listSeen_50 (fun _ => ?_) (fun q => absurd q (by decide))
  refine aw_iinc (v := nI 6) (lv2 := [.ref 7, .ref 135, .int ((-1 : Int32)), .int (nI 0), .int (nI 6), .int (nI 0), .int (nI 0)]) rfl (by decide +kernel) (by decide) rfl d_L_listSeen_79 ?_
  refine aw_goto (tgt := 5) (by decide) d_L_listSeen_82 ?_
  refine aw_iload rfl d_L_listSeen_5 ?_
  refine aw_bipush (v := nI 6) cb_6 d_L_listSeen_7 ?_
  refine aw_icmp_geI (tgt := 85) (6) (6) (by decide +kernel) (by decide +kernel) (by decide) d_L_listSeen_9 (fun _ => ?_) (fun q => absurd q (by decide))
  refine aw_iload_n rfl rfl d_L_listSeen_85 ?_
  exact as_reti rfl d_L_listSeen_86 hK
set_option maxRecDepth 20000 in
theorem sp_mostPassed_130 {K2 : K2T} {I : Nat → Nat → Int32} (fs : I 130 5 = nI 0) (hK : K2 (some (.int (-1))) I) : Ss l b 2 y_C_mostPassed KC RC [.ref 130, .ref 1] (I) K2 := by
  refine Ss.of (show As l b 2 y_C_mostPassed KC RC K2 (I) 0 [.ref 130, .ref 1, uu, uu, uu, uu, uu] [] from ?_)
  refine aw_aload_n rfl rfl d_C_mostPassed_0 ?_
  refine aw_getr fl_C_65 kc_1 (by decide) rfl rc_1_0 d_C_mostPassed_1 ?_
  refine aw_iconst (v := nI 4) ci_4 d_C_mostPassed_4 ?_
  refine aw_iald (j := 4) kc_2 (vp_in_nI (by decide) (by decide)) (nI_clamp (by decide)) d_C_mostPassed_5 ?_
  refine aw_istore_n (lv2 := [.ref 130, .ref 1, .int ((I) 2 4), uu, uu, uu, uu]) rfl (by decide) rfl d_C_mostPassed_6 ?_
  refine aw_iload_n rfl rfl d_C_mostPassed_7 ?_
  refine aw_iconst (v := nI 1) ci_1 d_C_mostPassed_8 ?_
  refine aw_isub d_C_mostPassed_9 ?_
  refine aw_istore_n (lv2 := [.ref 130, .ref 1, .int ((I) 2 4), .int (((I) 2 4 - nI 1)), uu, uu, uu]) rfl (by decide) rfl d_C_mostPassed_10 ?_
  refine aw_iconst (v := (-1 : Int32)) rfl d_C_mostPassed_11 ?_
  refine aw_istore (lv2 := [.ref 130, .ref 1, .int ((I) 2 4), .int (((I) 2 4 - nI 1)), .int ((-1 : Int32)), uu, uu]) (by decide) rfl d_C_mostPassed_12 ?_
  refine aw_iconst (v := nI 0) ci_0 d_C_mostPassed_14 ?_
  refine aw_istore (lv2 := [.ref 130, .ref 1, .int ((I) 2 4), .int (((I) 2 4 - nI 1)), .int ((-1 : Int32)), .int (nI 0), uu]) (by decide) rfl d_C_mostPassed_15 ?_
  refine aw_iload rfl d_C_mostPassed_17 ?_
  refine aw_aload_n rfl rfl d_C_mostPassed_19 ?_
  refine aw_geti fl_C_82 kc_130 (by decide) rfl d_C_mostPassed_20 ?_
  refine aw_top (x2 := nI 0) (fs) ?_
  refine aw_icmp_geI (tgt := 94) (0) (0) (by decide +kernel) (by decide +kernel) (by decide) d_C_mostPassed_23 (fun _ => ?_) (fun q => absurd q (by decide))
  refine aw_iload rfl d_C_mostPassed_94 ?_
  exact as_reti rfl d_C_mostPassed_96 hK
set_option maxRecDepth 20000 in
theorem sp_lawInForce_1_0 {K2 : K2T} {I : Nat → Nat → Int32} (f5 : I 2 5 = nI 0) (hK : ∀ r, K2 (some (.ref r)) I) : Ss l b 1 y_H_lawInForce KC RC [.ref 1] (I) K2 := by
  refine Ss.of (show As l b 1 y_H_lawInForce KC RC K2 (I) 0 [.ref 1, uu] [] from ?_)
  refine aw_aload_n rfl rfl d_H_lawInForce_0 ?_
  refine aw_getr fl_H_9 kc_1 (by decide) rfl rc_1_0 d_H_lawInForce_1 ?_
  refine aw_iconst (v := nI 5) ci_5 d_H_lawInForce_4 ?_
  refine aw_iald (j := 5) kc_2 (vp_in_nI (by decide) (by decide)) (nI_clamp (by decide)) d_H_lawInForce_5 ?_
  refine aw_top (x2 := nI 0) (f5) ?_
  refine aw_istore_n (lv2 := [.ref 1, .int (nI 0)]) rfl (by decide) rfl d_H_lawInForce_6 ?_
  refine aw_aload_n rfl rfl d_H_lawInForce_7 ?_
  refine aw_getr fl_H_17 kc_1 (by decide) rfl rc_1_1 d_H_lawInForce_8 ?_
  refine aw_iload_n rfl rfl d_H_lawInForce_11 ?_
  refine aw_if_ltI (tgt := 24) (0) (by decide +kernel) (by decide) d_H_lawInForce_12 (fun q => absurd q (by decide)) (fun _ => ?_)
  refine aw_iload_n rfl rfl d_H_lawInForce_15 ?_
  refine aw_iconst (v := nI 4) ci_4 d_H_lawInForce_16 ?_
  refine aw_icmp_geI (tgt := 24) (0) (4) (by decide +kernel) (by decide +kernel) (by decide) d_H_lawInForce_17 (fun q => absurd q (by decide)) (fun _ => ?_)
  refine aw_iload_n rfl rfl d_H_lawInForce_20 ?_
  refine aw_goto (tgt := 25) (by decide) d_H_lawInForce_21 ?_
  refine aw_aald (j := 0) kc_3 (vp_in_nI (by decide) (by decide)) (nI_clamp (by decide)) rc_3_0 d_H_lawInForce_25 ?_
  exact as_reta rfl d_H_lawInForce_26 (hK _)
set_option maxRecDepth 20000 in
theorem sp_lawInForce_1_1 {K2 : K2T} {I : Nat → Nat → Int32} (f5 : I 2 5 = nI 1) (hK : ∀ r, K2 (some (.ref r)) I) : Ss l b 1 y_H_lawInForce KC RC [.ref 1] (I) K2 := by
  refine Ss.of (show As l b 1 y_H_lawInForce KC RC K2 (I) 0 [.ref 1, uu] [] from ?_)
  refine aw_aload_n rfl rfl d_H_lawInForce_0 ?_
  refine aw_getr fl_H_9 kc_1 (by decide) rfl rc_1_0 d_H_lawInForce_1 ?_
  refine aw_iconst (v := nI 5) ci_5 d_H_lawInForce_4 ?_
  refine aw_iald (j := 5) kc_2 (vp_in_nI (by decide) (by decide)) (nI_clamp (by decide)) d_H_lawInForce_5 ?_
  refine aw_top (x2 := nI 1) (f5) ?_
  refine aw_istore_n (lv2 := [.ref 1, .int (nI 1)]) rfl (by decide) rfl d_H_lawInForce_6 ?_
  refine aw_aload_n rfl rfl d_H_lawInForce_7 ?_
  refine aw_getr fl_H_17 kc_1 (by decide) rfl rc_1_1 d_H_lawInForce_8 ?_
  refine aw_iload_n rfl rfl d_H_lawInForce_11 ?_
  refine aw_if_ltI (tgt := 24) (1) (by decide +kernel) (by decide) d_H_lawInForce_12 (fun q => absurd q (by decide)) (fun _ => ?_)
  refine aw_iload_n rfl rfl d_H_lawInForce_15 ?_
  refine aw_iconst (v := nI 4) ci_4 d_H_lawInForce_16 ?_
  refine aw_icmp_geI (tgt := 24) (1) (4) (by decide +kernel) (by decide +kernel) (by decide) d_H_lawInForce_17 (fun q => absurd q (by decide)) (fun _ => ?_)
  refine aw_iload_n rfl rfl d_H_lawInForce_20 ?_
  refine aw_goto (tgt := 25) (by decide) d_H_lawInForce_21 ?_
  refine aw_aald (j := 1) kc_3 (vp_in_nI (by decide) (by decide)) (nI_clamp (by decide)) rc_3_1 d_H_lawInForce_25 ?_
  exact as_reta rfl d_H_lawInForce_26 (hK _)
set_option maxRecDepth 20000 in
theorem sp_lawInForce_1_2 {K2 : K2T} {I : Nat → Nat → Int32} (f5 : I 2 5 = nI 2) (hK : ∀ r, K2 (some (.ref r)) I) : Ss l b 1 y_H_lawInForce KC RC [.ref 1] (I) K2 := by
  refine Ss.of (show As l b 1 y_H_lawInForce KC RC K2 (I) 0 [.ref 1, uu] [] from ?_)
  refine aw_aload_n rfl rfl d_H_lawInForce_0 ?_
  refine aw_getr fl_H_9 kc_1 (by decide) rfl rc_1_0 d_H_lawInForce_1 ?_
  refine aw_iconst (v := nI 5) ci_5 d_H_lawInForce_4 ?_
  refine aw_iald (j := 5) kc_2 (vp_in_nI (by decide) (by decide)) (nI_clamp (by decide)) d_H_lawInForce_5 ?_
  refine aw_top (x2 := nI 2) (f5) ?_
  refine aw_istore_n (lv2 := [.ref 1, .int (nI 2)]) rfl (by decide) rfl d_H_lawInForce_6 ?_
  refine aw_aload_n rfl rfl d_H_lawInForce_7 ?_
  refine aw_getr fl_H_17 kc_1 (by decide) rfl rc_1_1 d_H_lawInForce_8 ?_
  refine aw_iload_n rfl rfl d_H_lawInForce_11 ?_
  refine aw_if_ltI (tgt := 24) (2) (by decide +kernel) (by decide) d_H_lawInForce_12 (fun q => absurd q (by decide)) (fun _ => ?_)
  refine aw_iload_n rfl rfl d_H_lawInForce_15 ?_
  refine aw_iconst (v := nI 4) ci_4 d_H_lawInForce_16 ?_
  refine aw_icmp_geI (tgt := 24) (2) (4) (by decide +kernel) (by decide +kernel) (by decide) d_H_lawInForce_17 (fun q => absurd q (by decide)) (fun _ => ?_)
  refine aw_iload_n rfl rfl d_H_lawInForce_20 ?_
  refine aw_goto (tgt := 25) (by decide) d_H_lawInForce_21 ?_
  refine aw_aald (j := 2) kc_3 (vp_in_nI (by decide) (by decide)) (nI_clamp (by decide)) rc_3_2 d_H_lawInForce_25 ?_
  exact as_reta rfl d_H_lawInForce_26 (hK _)
set_option maxRecDepth 20000 in
theorem sp_lawInForce_1_3 {K2 : K2T} {I : Nat → Nat → Int32} (f5 : I 2 5 = nI 3) (hK : ∀ r, K2 (some (.ref r)) I) : Ss l b 1 y_H_lawInForce KC RC [.ref 1] (I) K2 := by
  refine Ss.of (show As l b 1 y_H_lawInForce KC RC K2 (I) 0 [.ref 1, uu] [] from ?_)
  refine aw_aload_n rfl rfl d_H_lawInForce_0 ?_
  refine aw_getr fl_H_9 kc_1 (by decide) rfl rc_1_0 d_H_lawInForce_1 ?_
  refine aw_iconst (v := nI 5) ci_5 d_H_lawInForce_4 ?_
  refine aw_iald (j := 5) kc_2 (vp_in_nI (by decide) (by decide)) (nI_clamp (by decide)) d_H_lawInForce_5 ?_
  refine aw_top (x2 := nI 3) (f5) ?_
  refine aw_istore_n (lv2 := [.ref 1, .int (nI 3)]) rfl (by decide) rfl d_H_lawInForce_6 ?_
  refine aw_aload_n rfl rfl d_H_lawInForce_7 ?_
  refine aw_getr fl_H_17 kc_1 (by decide) rfl rc_1_1 d_H_lawInForce_8 ?_
  refine aw_iload_n rfl rfl d_H_lawInForce_11 ?_
  refine aw_if_ltI (tgt := 24) (3) (by decide +kernel) (by decide) d_H_lawInForce_12 (fun q => absurd q (by decide)) (fun _ => ?_)
  refine aw_iload_n rfl rfl d_H_lawInForce_15 ?_
  refine aw_iconst (v := nI 4) ci_4 d_H_lawInForce_16 ?_
  refine aw_icmp_geI (tgt := 24) (3) (4) (by decide +kernel) (by decide +kernel) (by decide) d_H_lawInForce_17 (fun q => absurd q (by decide)) (fun _ => ?_)
  refine aw_iload_n rfl rfl d_H_lawInForce_20 ?_
  refine aw_goto (tgt := 25) (by decide) d_H_lawInForce_21 ?_
  refine aw_aald (j := 3) kc_3 (vp_in_nI (by decide) (by decide)) (nI_clamp (by decide)) rc_3_3 d_H_lawInForce_25 ?_
  exact as_reta rfl d_H_lawInForce_26 (hK _)
theorem sp_lawInForce_1 {K2 : K2T} {I : Nat → Nat → Int32} {ru : Nat} (hru : ru < 4) (f5 : I 2 5 = nI ru) (hK : ∀ r, K2 (some (.ref r)) I) : Ss l b 1 y_H_lawInForce KC RC [.ref 1] (I) K2 := by
  rcases (show ru = 0 ∨ ru = 1 ∨ ru = 2 ∨ ru = 3 by omega) with rfl | rfl | rfl | rfl
  · exact sp_lawInForce_1_0 f5 hK
  · exact sp_lawInForce_1_1 f5 hK
  · exact sp_lawInForce_1_2 f5 hK
  · exact sp_lawInForce_1_3 f5 hK
set_option maxRecDepth 20000 in
theorem sp_worthiest_130 {K2 : K2T} {I : Nat → Nat → Int32} {ru : Nat} (hru : ru < 4) (f5 : I 2 5 = nI ru) (fs : I 130 5 = nI 0) (hK : K2 (some (.int (-1))) I) : Ss l b 2 y_C_worthiest KC RC [.ref 130, .ref 1, .int (nI 1)] (I) K2 := by
  refine Ss.of (show As l b 2 y_C_worthiest KC RC K2 (I) 0 [.ref 130, .ref 1, .int (nI 1), uu, uu, uu, uu] [] from ?_)
  refine aw_aload_n rfl rfl d_C_worthiest_0 ?_
  refine as_callV (as := []) (d' := 1) (q := ("SinglesUp$Hill", zT2, 14)) mo_H_lawInForce lk_C_115 kc_1 rfl rfl rfl ⟨by decide, by decide⟩ rfl rfl (by decide) d_C_worthiest_1 (sp_lawInForce_1 (I := I) (ru := ru) hru f5 (fun r1 => ?_))
  refine (show As l b 2 y_C_worthiest KC RC K2 (I) 4 [.ref 130, .ref 1, .int (nI 1), uu, uu, uu, uu] [.ref r1] from ?_)
  refine aw_astore_n (lv2 := [.ref 130, .ref 1, .int (nI 1), .ref r1, uu, uu, uu]) rfl (by decide) rfl d_C_worthiest_4 ?_
  refine aw_iconst (v := nI 0) ci_0 d_C_worthiest_5 ?_
  refine aw_istore (lv2 := [.ref 130, .ref 1, .int (nI 1), .ref r1, .int (nI 0), uu, uu]) (by decide) rfl d_C_worthiest_6 ?_
  refine aw_iconst (v := (-1 : Int32)) rfl d_C_worthiest_8 ?_
  refine aw_istore (lv2 := [.ref 130, .ref 1, .int (nI 1), .ref r1, .int (nI 0), .int ((-1 : Int32)), uu]) (by decide) rfl d_C_worthiest_9 ?_
  refine aw_iconst (v := nI 0) ci_0 d_C_worthiest_11 ?_
  refine aw_istore (lv2 := [.ref 130, .ref 1, .int (nI 1), .ref r1, .int (nI 0), .int ((-1 : Int32)), .int (nI 0)]) (by decide) rfl d_C_worthiest_12 ?_
  refine aw_iload rfl d_C_worthiest_14 ?_
  refine aw_aload_n rfl rfl d_C_worthiest_16 ?_
  refine aw_geti fl_C_82 kc_130 (by decide) rfl d_C_worthiest_17 ?_
  refine aw_top (x2 := nI 0) (fs) ?_
  refine aw_icmp_geI (tgt := 120) (0) (0) (by decide +kernel) (by decide +kernel) (by decide) d_C_worthiest_20 (fun _ => ?_) (fun q => absurd q (by decide))
  refine aw_iload rfl d_C_worthiest_120 ?_
  exact as_reti rfl d_C_worthiest_122 hK
set_option maxRecDepth 20000 in
theorem sp_partOne_130 {K2 : K2T} {I : Nat → Nat → Int32} (fs : I 130 5 = nI 0) (hK : K2 none I) : Ss l b 2 y_C_partOne KC RC [.ref 130, .ref 1] (I) K2 := by
  refine Ss.of (show As l b 2 y_C_partOne KC RC K2 (I) 0 [.ref 130, .ref 1, uu, uu, uu, uu] [] from ?_)
  refine aw_iconst (v := nI 0) ci_0 d_C_partOne_0 ?_
  refine aw_istore_n (lv2 := [.ref 130, .ref 1, .int (nI 0), uu, uu, uu]) rfl (by decide) rfl d_C_partOne_1 ?_
  refine aw_iload_n rfl rfl d_C_partOne_2 ?_
  refine aw_aload_n rfl rfl d_C_partOne_3 ?_
  refine aw_geti fl_C_82 kc_130 (by decide) rfl d_C_partOne_4 ?_
  refine aw_top (x2 := nI 0) (fs) ?_
  refine aw_icmp_geI (tgt := 123) (0) (0) (by decide +kernel) (by decide +kernel) (by decide) d_C_partOne_7 (fun _ => ?_) (fun q => absurd q (by decide))
  exact as_retv rfl d_C_partOne_123 hK
set_option maxRecDepth 20000 in
theorem sp_fill_130 {K2 : K2T} {I : Nat → Nat → Int32} {s ru e k : Nat} (hF : FH 1 I s ru e k) (hK : ∀ I', FH 1 I' s ru e k → I' 130 7 = nI s → I' 130 8 = nI 0 → I' 130 9 = nI 0 → (∀ q, (q < 1 ∨ 41 < q) ∧ (q < 130 ∨ 136 < q) → I' q = I q) → K2 none I') : Ss l b 3 y_C_fill KC RC [.ref 130, .ref 1] (I) K2 := by
  obtain ⟨f0, f1, f2, f3, f4, f5, f6, f7, f8, f9, f10, f11, f12, f13, fb⟩ := hF
  have f0 : ∀ j, j < 32 → I 5 j = nI 0 := f0
  have f1 : ∀ j, j < 6 → I 9 j = nI 0 := f1
  have f2 : ∀ j, j < 6 → I 10 j = nI 9 := f2
  have f3 : I 2 0 = nI s := f3
  have f4 : I 2 3 = nI 0 := f4
  have f5 : I 2 5 = nI ru := f5
  have f6 : I 11 1 = nI e := f6
  have f7 : I 11 0 = nI k := f7
  have f8 : ∀ j, j < 40 → j ≠ 0 → j ≠ 1 → j ≠ 3 → I 11 j = nI 0 := f8
  have f9 : I 16 4 = nI 0 := f9
  have f10 : I 21 4 = nI 0 := f10
  have f11 : I 26 4 = nI 0 := f11
  have f12 : I 31 4 = nI 0 := f12
  have f13 : I 36 4 = nI 0 := f13
  have hru : ru < 4 := fb.2.1
  refine Ss.of (show As l b 3 y_C_fill KC RC K2 (I) 0 [.ref 130, .ref 1, uu, uu, uu, uu] [] from ?_)
  refine aw_aload_n rfl rfl d_C_fill_0 ?_
  refine aw_aload_n rfl rfl d_C_fill_1 ?_
  refine aw_getr fl_C_65 kc_1 (by decide) rfl rc_1_0 d_C_fill_2 ?_
  refine aw_iconst (v := nI 0) ci_0 d_C_fill_5 ?_
  refine aw_iald (j := 0) kc_2 (vp_in_nI (by decide) (by decide)) (nI_clamp (by decide)) d_C_fill_6 ?_
  refine aw_top (x2 := nI (s)) (f3) ?_
  refine as_callV (as := [.int (nI (s))]) (d' := 2) (q := ("SinglesUp$Chair", zT0, 12)) mo_C_clear lk_C_68 kc_130 rfl rfl rfl ⟨by decide, by decide⟩ rfl rfl (by decide) d_C_fill_7 (sp_clear_130 (I := I) (v := nI (s)) ?_)
  refine (show As l b 3 y_C_fill KC RC K2 (upd2 (upd2 (upd2 (upd2 (upd2 (updA (I) 131 (fun j => if j < 240 then nI 0 else (I) 131 j)) 130 7 (nI (s))) 130 8 (nI 0)) 130 9 (nI 0)) 130 10 (nI 0)) 130 11 (nI 0)) 10 [.ref 130, .ref 1, uu, uu, uu, uu] [] from ?_)
  refine aw_aload_n rfl rfl d_C_fill_10 ?_
  refine aw_aload_n rfl rfl d_C_fill_11 ?_
  refine aw_getr fl_C_72 kc_1 (by decide) rfl rc_1_5 d_C_fill_12 ?_
  refine aw_aload_n rfl rfl d_C_fill_15 ?_
  refine aw_getr fl_C_24 kc_130 (by decide) rfl rc_130_4 d_C_fill_16 ?_
  refine aw_iconst (v := (-1 : Int32)) rfl d_C_fill_19 ?_
  refine as_callV (as := [.ref 135, .int ((-1 : Int32))]) (d' := 2) (q := ("SinglesUp$Lines", zT4, 3)) mo_L_listSeen lk_C_76 kc_7 rfl rfl rfl ⟨by decide, by decide⟩ rfl rfl (by decide) d_C_fill_20 (sp_listSeen_7_135_n (I := upd2 (upd2 (upd2 (upd2 (upd2 (updA (I) 131 (fun j => if j < 240 then nI 0 else (I) 131 j)) 130 7 (nI (s))) 130 8 (nI 0)) 130 9 (nI 0)) 130 10 (nI 0)) 130 11 (nI 0)) (fun j hj => by simp [upd2, upd, updA, f1 j hj]) (fun j hj => by simp [upd2, upd, updA, f2 j hj]) ?_)
  refine (show As l b 3 y_C_fill KC RC K2 (upd2 (upd2 (upd2 (upd2 (upd2 (updA (I) 131 (fun j => if j < 240 then nI 0 else (I) 131 j)) 130 7 (nI (s))) 130 8 (nI 0)) 130 9 (nI 0)) 130 10 (nI 0)) 130 11 (nI 0)) 23 [.ref 130, .ref 1, uu, uu, uu, uu] [.int (nI 0), .ref 130] from ?_)
  refine aw_puti fl_C_82 kc_130 (by decide) rfl rfl rfl rfl d_C_fill_23 ?_
  refine aw_iconst (v := nI 1) ci_1 d_C_fill_26 ?_
  refine aw_istore_n (lv2 := [.ref 130, .ref 1, .int (nI 1), uu, uu, uu]) rfl (by decide) rfl d_C_fill_27 ?_
  refine aw_iconst (v := nI 0) ci_0 d_C_fill_28 ?_
  refine aw_istore_n (lv2 := [.ref 130, .ref 1, .int (nI 1), .int (nI 0), uu, uu]) rfl (by decide) rfl d_C_fill_29 ?_
  refine aw_iload_n rfl rfl d_C_fill_30 ?_
  refine aw_sipush (v := nI 144) cs_144 d_C_fill_31 ?_
  refine aw_icmp_gtI (tgt := 127) (0) (144) (by decide +kernel) (by decide +kernel) (by decide) d_C_fill_34 (fun q => absurd q (by decide)) (fun _ => ?_)
  refine aw_aload_n rfl rfl d_C_fill_37 ?_
  refine aw_aload_n rfl rfl d_C_fill_38 ?_
  refine as_callV (as := [.ref 1]) (d' := 2) (q := ("SinglesUp$Chair", zT0, 12)) mo_C_mostPassed lk_C_85 kc_130 rfl rfl rfl ⟨by decide, by decide⟩ rfl rfl (by decide) d_C_fill_39 (sp_mostPassed_130 (I := upd2 (upd2 (upd2 (upd2 (upd2 (upd2 (updA (I) 131 (fun j => if j < 240 then nI 0 else (I) 131 j)) 130 7 (nI (s))) 130 8 (nI 0)) 130 9 (nI 0)) 130 10 (nI 0)) 130 11 (nI 0)) 130 5 (nI 0)) (by simp [upd2, upd, updA]) ?_)
  refine (show As l b 3 y_C_fill KC RC K2 (upd2 (upd2 (upd2 (upd2 (upd2 (upd2 (updA (I) 131 (fun j => if j < 240 then nI 0 else (I) 131 j)) 130 7 (nI (s))) 130 8 (nI 0)) 130 9 (nI 0)) 130 10 (nI 0)) 130 11 (nI 0)) 130 5 (nI 0)) 42 [.ref 130, .ref 1, .int (nI 1), .int (nI 0), uu, uu] [.int ((-1 : Int32))] from ?_)
  refine aw_istore (lv2 := [.ref 130, .ref 1, .int (nI 1), .int (nI 0), .int ((-1 : Int32)), uu]) (by decide) rfl d_C_fill_42 ?_
  refine aw_iload rfl d_C_fill_44 ?_
  refine aw_iconst (v := (-1 : Int32)) rfl d_C_fill_46 ?_
  refine aw_icmp_neI (tgt := 60) (-1) (-1) (by decide +kernel) (by decide +kernel) (by decide) d_C_fill_47 (fun q => absurd q (by decide)) (fun _ => ?_)
  refine aw_aload_n rfl rfl d_C_fill_50 ?_
  refine aw_aload_n rfl rfl d_C_fill_51 ?_
  refine aw_iload_n rfl rfl d_C_fill_52 ?_
  refine as_callV (as := [.ref 1, .int (nI 1)]) (d' := 2) (q := ("SinglesUp$Chair", zT0, 12)) mo_C_worthiest lk_C_88 kc_130 rfl rfl rfl ⟨by decide, by decide⟩ rfl rfl (by decide) d_C_fill_53 (sp_worthiest_130 (I := upd2 (upd2 (upd2 (upd2 (upd2 (upd2 (updA (I) 131 (fun j => if j < 240 then nI 0 else (I) 131 j)) 130 7 (nI (s))) 130 8 (nI 0)) 130 9 (nI 0)) 130 10 (nI 0)) 130 11 (nI 0)) 130 5 (nI 0)) (ru := ru) (by omega) (by simp [upd2, upd, updA, f5]) (by simp [upd2, upd, updA]) ?_)
  refine (show As l b 3 y_C_fill KC RC K2 (upd2 (upd2 (upd2 (upd2 (upd2 (upd2 (updA (I) 131 (fun j => if j < 240 then nI 0 else (I) 131 j)) 130 7 (nI (s))) 130 8 (nI 0)) 130 9 (nI 0)) 130 10 (nI 0)) 130 11 (nI 0)) 130 5 (nI 0)) 56 [.ref 130, .ref 1, .int (nI 1), .int (nI 0), .int ((-1 : Int32)), uu] [.int ((-1 : Int32))] from ?_)
  refine aw_istore (lv2 := [.ref 130, .ref 1, .int (nI 1), .int (nI 0), .int ((-1 : Int32)), uu]) (by decide) rfl d_C_fill_56 ?_
  refine aw_iconst (v := nI 0) ci_0 d_C_fill_58 ?_
  refine aw_istore_n (lv2 := [.ref 130, .ref 1, .int (nI 0), .int (nI 0), .int ((-1 : Int32)), uu]) rfl (by decide) rfl d_C_fill_59 ?_
  refine aw_iload rfl d_C_fill_60 ?_
  refine aw_iconst (v := (-1 : Int32)) rfl d_C_fill_62 ?_
  refine aw_icmp_neI (tgt := 69) (-1) (-1) (by decide +kernel) (by decide +kernel) (by decide) d_C_fill_63 (fun q => absurd q (by decide)) (fun _ => ?_)
  refine aw_goto (tgt := 127) (by decide) d_C_fill_66 ?_
  refine aw_aload_n rfl rfl d_C_fill_127 ?_
  refine aw_aload_n rfl rfl d_C_fill_128 ?_
  refine as_callV (as := [.ref 1]) (d' := 2) (q := ("SinglesUp$Chair", zT0, 12)) mo_C_partOne lk_C_104 kc_130 rfl rfl rfl ⟨by decide, by decide⟩ rfl rfl (by decide) d_C_fill_129 (sp_partOne_130 (I := upd2 (upd2 (upd2 (upd2 (upd2 (upd2 (updA (I) 131 (fun j => if j < 240 then nI 0 else (I) 131 j)) 130 7 (nI (s))) 130 8 (nI 0)) 130 9 (nI 0)) 130 10 (nI 0)) 130 11 (nI 0)) 130 5 (nI 0)) (by simp [upd2, upd, updA]) ?_)
  refine (show As l b 3 y_C_fill KC RC K2 (upd2 (upd2 (upd2 (upd2 (upd2 (upd2 (updA (I) 131 (fun j => if j < 240 then nI 0 else (I) 131 j)) 130 7 (nI (s))) 130 8 (nI 0)) 130 9 (nI 0)) 130 10 (nI 0)) 130 11 (nI 0)) 130 5 (nI 0)) 132 [.ref 130, .ref 1, .int (nI 0), .int (nI 0), .int ((-1 : Int32)), uu] [] from ?_)
  exact as_retv rfl d_C_fill_132 (hK _ ⟨fun j hj => by simp [upd2, upd, updA, f0 j hj], fun j hj => by simp [upd2, upd, updA, f1 j hj], fun j hj => by simp [upd2, upd, updA, f2 j hj], by simp [upd2, upd, updA, f3], by simp [upd2, upd, updA, f4], by simp [upd2, upd, updA, f5], by simp [upd2, upd, updA, f6, nI_add], by simp [upd2, upd, updA, f7, nI_1], fun j hj a1 a2 a3 => by simp [upd2, upd, updA, f8 j hj a1 a2 a3, a1, a2, a3], by simp [upd2, upd, updA, f9], by simp [upd2, upd, updA, f10], by simp [upd2, upd, updA, f11], by simp [upd2, upd, updA, f12], by simp [upd2, upd, updA, f13], by omega⟩ (by simp [upd2, upd, updA]) (by simp [upd2, upd, updA]) (by simp [upd2, upd, updA]) (fun q hq => by have n130 : q ≠ 130 := (by omega); have n131 : q ≠ 131 := (by omega); simp [upd2, updA, n130, n131]))
set_option maxRecDepth 20000 in
theorem sp_rearmost_1_130_0 {K2 : K2T} {I : Nat → Nat → Int32} (f1 : ∀ j, j < 6 → I 9 j = nI 0) (hK : K2 (some (.int (-1))) I) : Ss l b 1 y_L_rearmostSitting KC RC [.ref 7, .ref 131, .int (nI 0)] (I) K2 := by
  refine Ss.of (show As l b 1 y_L_rearmostSitting KC RC K2 (I) 0 [.ref 7, .ref 131, .int (nI 0), uu, uu] [] from ?_)
  refine aw_aload_n rfl rfl d_L_rearmostSitting_0 ?_
  refine aw_getr fl_L_15 kc_7 (by decide) rfl rc_7_1 d_L_rearmostSitting_1 ?_
  refine aw_iload_n rfl rfl d_L_rearmostSitting_4 ?_
  refine aw_iald (j := 0) kc_9 (vp_in_nI (by decide) (by decide)) (nI_clamp (by decide)) d_L_rearmostSitting_5 ?_
  refine aw_top (x2 := nI 0) (f1 (0) (by omega)) ?_
  refine aw_iconst (v := nI 1) ci_1 d_L_rearmostSitting_6 ?_
  refine aw_isub d_L_rearmostSitting_7 ?_
  refine aw_top (x2 := (-1 : Int32)) (by decide +kernel) ?_
  refine aw_istore_n (lv2 := [.ref 7, .ref 131, .int (nI 0), .int ((-1 : Int32)), uu]) rfl (by decide) rfl d_L_rearmostSitting_8 ?_
  refine aw_iload_n rfl rfl d_L_rearmostSitting_9 ?_
  refine aw_if_ltI (tgt := 52) (-1) (by decide +kernel) (by decide) d_L_rearmostSitting_10 (fun _ => ?_) (fun q => absurd q (by decide))
  refine aw_iconst (v := (-1 : Int32)) rfl d_L_rearmostSitting_52 ?_
  exact as_reti rfl d_L_rearmostSitting_53 hK
set_option maxRecDepth 20000 in
theorem sp_rearmost_1_130_1 {K2 : K2T} {I : Nat → Nat → Int32} (f1 : ∀ j, j < 6 → I 9 j = nI 0) (hK : K2 (some (.int (-1))) I) : Ss l b 1 y_L_rearmostSitting KC RC [.ref 7, .ref 131, .int (nI 1)] (I) K2 := by
  refine Ss.of (show As l b 1 y_L_rearmostSitting KC RC K2 (I) 0 [.ref 7, .ref 131, .int (nI 1), uu, uu] [] from ?_)
  refine aw_aload_n rfl rfl d_L_rearmostSitting_0 ?_
  refine aw_getr fl_L_15 kc_7 (by decide) rfl rc_7_1 d_L_rearmostSitting_1 ?_
  refine aw_iload_n rfl rfl d_L_rearmostSitting_4 ?_
  refine aw_iald (j := 1) kc_9 (vp_in_nI (by decide) (by decide)) (nI_clamp (by decide)) d_L_rearmostSitting_5 ?_
  refine aw_top (x2 := nI 0) (f1 (1) (by omega)) ?_
  refine aw_iconst (v := nI 1) ci_1 d_L_rearmostSitting_6 ?_
  refine aw_isub d_L_rearmostSitting_7 ?_
  refine aw_top (x2 := (-1 : Int32)) (by decide +kernel) ?_
  refine aw_istore_n (lv2 := [.ref 7, .ref 131, .int (nI 1), .int ((-1 : Int32)), uu]) rfl (by decide) rfl d_L_rearmostSitting_8 ?_
  refine aw_iload_n rfl rfl d_L_rearmostSitting_9 ?_
  refine aw_if_ltI (tgt := 52) (-1) (by decide +kernel) (by decide) d_L_rearmostSitting_10 (fun _ => ?_) (fun q => absurd q (by decide))
  refine aw_iconst (v := (-1 : Int32)) rfl d_L_rearmostSitting_52 ?_
  exact as_reti rfl d_L_rearmostSitting_53 hK
set_option maxRecDepth 20000 in
theorem sp_rearmost_1_130_2 {K2 : K2T} {I : Nat → Nat → Int32} (f1 : ∀ j, j < 6 → I 9 j = nI 0) (hK : K2 (some (.int (-1))) I) : Ss l b 1 y_L_rearmostSitting KC RC [.ref 7, .ref 131, .int (nI 2)] (I) K2 := by
  refine Ss.of (show As l b 1 y_L_rearmostSitting KC RC K2 (I) 0 [.ref 7, .ref 131, .int (nI 2), uu, uu] [] from ?_)
  refine aw_aload_n rfl rfl d_L_rearmostSitting_0 ?_
  refine aw_getr fl_L_15 kc_7 (by decide) rfl rc_7_1 d_L_rearmostSitting_1 ?_
  refine aw_iload_n rfl rfl d_L_rearmostSitting_4 ?_
  refine aw_iald (j := 2) kc_9 (vp_in_nI (by decide) (by decide)) (nI_clamp (by decide)) d_L_rearmostSitting_5 ?_
  refine aw_top (x2 := nI 0) (f1 (2) (by omega)) ?_
  refine aw_iconst (v := nI 1) ci_1 d_L_rearmostSitting_6 ?_
  refine aw_isub d_L_rearmostSitting_7 ?_
  refine aw_top (x2 := (-1 : Int32)) (by decide +kernel) ?_
  refine aw_istore_n (lv2 := [.ref 7, .ref 131, .int (nI 2), .int ((-1 : Int32)), uu]) rfl (by decide) rfl d_L_rearmostSitting_8 ?_
  refine aw_iload_n rfl rfl d_L_rearmostSitting_9 ?_
  refine aw_if_ltI (tgt := 52) (-1) (by decide +kernel) (by decide) d_L_rearmostSitting_10 (fun _ => ?_) (fun q => absurd q (by decide))
  refine aw_iconst (v := (-1 : Int32)) rfl d_L_rearmostSitting_52 ?_
  exact as_reti rfl d_L_rearmostSitting_53 hK
set_option maxRecDepth 20000 in
theorem sp_rearmost_1_130_3 {K2 : K2T} {I : Nat → Nat → Int32} (f1 : ∀ j, j < 6 → I 9 j = nI 0) (hK : K2 (some (.int (-1))) I) : Ss l b 1 y_L_rearmostSitting KC RC [.ref 7, .ref 131, .int (nI 3)] (I) K2 := by
  refine Ss.of (show As l b 1 y_L_rearmostSitting KC RC K2 (I) 0 [.ref 7, .ref 131, .int (nI 3), uu, uu] [] from ?_)
  refine aw_aload_n rfl rfl d_L_rearmostSitting_0 ?_
  refine aw_getr fl_L_15 kc_7 (by decide) rfl rc_7_1 d_L_rearmostSitting_1 ?_
  refine aw_iload_n rfl rfl d_L_rearmostSitting_4 ?_
  refine aw_iald (j := 3) kc_9 (vp_in_nI (by decide) (by decide)) (nI_clamp (by decide)) d_L_rearmostSitting_5 ?_
  refine aw_top (x2 := nI 0) (f1 (3) (by omega)) ?_
  refine aw_iconst (v := nI 1) ci_1 d_L_rearmostSitting_6 ?_
  refine aw_isub d_L_rearmostSitting_7 ?_
  refine aw_top (x2 := (-1 : Int32)) (by decide +kernel) ?_
  refine aw_istore_n (lv2 := [.ref 7, .ref 131, .int (nI 3), .int ((-1 : Int32)), uu]) rfl (by decide) rfl d_L_rearmostSitting_8 ?_
  refine aw_iload_n rfl rfl d_L_rearmostSitting_9 ?_
  refine aw_if_ltI (tgt := 52) (-1) (by decide +kernel) (by decide) d_L_rearmostSitting_10 (fun _ => ?_) (fun q => absurd q (by decide))
  refine aw_iconst (v := (-1 : Int32)) rfl d_L_rearmostSitting_52 ?_
  exact as_reti rfl d_L_rearmostSitting_53 hK
set_option maxRecDepth 20000 in
theorem sp_rearmost_1_130_4 {K2 : K2T} {I : Nat → Nat → Int32} (f1 : ∀ j, j < 6 → I 9 j = nI 0) (hK : K2 (some (.int (-1))) I) : Ss l b 1 y_L_rearmostSitting KC RC [.ref 7, .ref 131, .int (nI 4)] (I) K2 := by
  refine Ss.of (show As l b 1 y_L_rearmostSitting KC RC K2 (I) 0 [.ref 7, .ref 131, .int (nI 4), uu, uu] [] from ?_)
  refine aw_aload_n rfl rfl d_L_rearmostSitting_0 ?_
  refine aw_getr fl_L_15 kc_7 (by decide) rfl rc_7_1 d_L_rearmostSitting_1 ?_
  refine aw_iload_n rfl rfl d_L_rearmostSitting_4 ?_
  refine aw_iald (j := 4) kc_9 (vp_in_nI (by decide) (by decide)) (nI_clamp (by decide)) d_L_rearmostSitting_5 ?_
  refine aw_top (x2 := nI 0) (f1 (4) (by omega)) ?_
  refine aw_iconst (v := nI 1) ci_1 d_L_rearmostSitting_6 ?_
  refine aw_isub d_L_rearmostSitting_7 ?_
  refine aw_top (x2 := (-1 : Int32)) (by decide +kernel) ?_
  refine aw_istore_n (lv2 := [.ref 7, .ref 131, .int (nI 4), .int ((-1 : Int32)), uu]) rfl (by decide) rfl d_L_rearmostSitting_8 ?_
  refine aw_iload_n rfl rfl d_L_rearmostSitting_9 ?_
  refine aw_if_ltI (tgt := 52) (-1) (by decide +kernel) (by decide) d_L_rearmostSitting_10 (fun _ => ?_) (fun q => absurd q (by decide))
  refine aw_iconst (v := (-1 : Int32)) rfl d_L_rearmostSitting_52 ?_
  exact as_reti rfl d_L_rearmostSitting_53 hK
set_option maxRecDepth 20000 in
theorem sp_rearmost_1_130_5 {K2 : K2T} {I : Nat → Nat → Int32} (f1 : ∀ j, j < 6 → I 9 j = nI 0) (hK : K2 (some (.int (-1))) I) : Ss l b 1 y_L_rearmostSitting KC RC [.ref 7, .ref 131, .int (nI 5)] (I) K2 := by
  refine Ss.of (show As l b 1 y_L_rearmostSitting KC RC K2 (I) 0 [.ref 7, .ref 131, .int (nI 5), uu, uu] [] from ?_)
  refine aw_aload_n rfl rfl d_L_rearmostSitting_0 ?_
  refine aw_getr fl_L_15 kc_7 (by decide) rfl rc_7_1 d_L_rearmostSitting_1 ?_
  refine aw_iload_n rfl rfl d_L_rearmostSitting_4 ?_
  refine aw_iald (j := 5) kc_9 (vp_in_nI (by decide) (by decide)) (nI_clamp (by decide)) d_L_rearmostSitting_5 ?_
  refine aw_top (x2 := nI 0) (f1 (5) (by omega)) ?_
  refine aw_iconst (v := nI 1) ci_1 d_L_rearmostSitting_6 ?_
  refine aw_isub d_L_rearmostSitting_7 ?_
  refine aw_top (x2 := (-1 : Int32)) (by decide +kernel) ?_
  refine aw_istore_n (lv2 := [.ref 7, .ref 131, .int (nI 5), .int ((-1 : Int32)), uu]) rfl (by decide) rfl d_L_rearmostSitting_8 ?_
  refine aw_iload_n rfl rfl d_L_rearmostSitting_9 ?_
  refine aw_if_ltI (tgt := 52) (-1) (by decide +kernel) (by decide) d_L_rearmostSitting_10 (fun _ => ?_) (fun q => absurd q (by decide))
  refine aw_iconst (v := (-1 : Int32)) rfl d_L_rearmostSitting_52 ?_
  exact as_reti rfl d_L_rearmostSitting_53 hK
set_option maxRecDepth 20000 in
theorem sp_depart_1_130 {K2 : K2T} {I : Nat → Nat → Int32} (f1 : ∀ j, j < 6 → I 9 j = nI 0) (hK : K2 none I) : Ss l b 2 y_L_depart KC RC [.ref 7, .ref 131] (I) K2 := by
  refine Ss.of (show As l b 2 y_L_depart KC RC K2 (I) 0 [.ref 7, .ref 131, uu, uu, uu, uu, uu, uu, uu] [] from ?_)
  refine aw_iconst (v := nI 0) ci_0 d_L_depart_0 ?_
  refine aw_istore_n (lv2 := [.ref 7, .ref 131, .int (nI 0), uu, uu, uu, uu, uu, uu]) rfl (by decide) rfl d_L_depart_1 ?_
  refine aw_iload_n rfl rfl d_L_depart_2 ?_
  refine aw_bipush (v := nI 6) cb_6 d_L_depart_3 ?_
  refine aw_icmp_geI (tgt := 173) (0) (6) (by decide +kernel) (by decide +kernel) (by decide) d_L_depart_5 (fun q => absurd q (by decide)) (fun _ => ?_)
  refine aw_aload_n rfl rfl d_L_depart_8 ?_
  refine aw_aload_n rfl rfl d_L_depart_9 ?_
  refine aw_iload_n rfl rfl d_L_depart_10 ?_
  refine as_callV (as := [.ref 131, .int (nI 0)]) (d' := 1) (q := ("SinglesUp$Lines", zT4, 3)) mo_L_rearmostSitting lk_L_47 kc_7 rfl rfl rfl ⟨by decide, by decide⟩ rfl rfl (by decide) d_L_depart_11 (sp_rearmost_1_130_0 (I := I) f1 ?_)
  refine (show As l b 2 y_L_depart KC RC K2 (I) 14 [.ref 7, .ref 131, .int (nI 0), uu, uu, uu, uu, uu, uu] [.int ((-1 : Int32))] from ?_)
  refine aw_istore_n (lv2 := [.ref 7, .ref 131, .int (nI 0), .int ((-1 : Int32)), uu, uu, uu, uu, uu]) rfl (by decide) rfl d_L_depart_14 ?_
  refine aw_iconst (v := nI 0) ci_0 d_L_depart_15 ?_
  refine aw_istore (lv2 := [.ref 7, .ref 131, .int (nI 0), .int ((-1 : Int32)), .int (nI 0), uu, uu, uu, uu]) (by decide) rfl d_L_depart_16 ?_
  refine aw_iconst (v := nI 0) ci_0 d_L_depart_18 ?_
  refine aw_istore (lv2 := [.ref 7, .ref 131, .int (nI 0), .int ((-1 : Int32)), .int (nI 0), .int (nI 0), uu, uu, uu]) (by decide) rfl d_L_depart_19 ?_
  refine aw_iload rfl d_L_depart_21 ?_
  refine aw_aload_n rfl rfl d_L_depart_23 ?_
  refine aw_getr fl_L_15 kc_7 (by decide) rfl rc_7_1 d_L_depart_24 ?_
  refine aw_iload_n rfl rfl d_L_depart_27 ?_
  refine aw_iald (j := 0) kc_9 (vp_in_nI (by decide) (by decide)) (nI_clamp (by decide)) d_L_depart_28 ?_
  refine aw_top (x2 := nI 0) (f1 (0) (by omega)) ?_
  refine aw_icmp_geI (tgt := 159) (0) (0) (by decide +kernel) (by decide +kernel) (by decide) d_L_depart_29 (fun _ => ?_) (fun q => absurd q (by decide))
  refine aw_aload_n rfl rfl d_L_depart_159 ?_
  refine aw_getr fl_L_15 kc_7 (by decide) rfl rc_7_1 d_L_depart_160 ?_
  refine aw_iload_n rfl rfl d_L_depart_163 ?_
  refine aw_iload rfl d_L_depart_164 ?_
  refine aw_iast (j := 0) kc_9 (vp_in_nI (by decide) (by decide)) (nI_clamp (by decide)) d_L_depart_166 ?_
  rw [upd2_id (f1 (0) (by omega))]
  refine aw_iinc (v := nI 1) (lv2 := [.ref 7, .ref 131, .int (nI 1), .int ((-1 : Int32)), .int (nI 0), .int (nI 0), uu, uu, uu]) rfl (by decide +kernel) (by decide) rfl d_L_depart_167 ?_
  refine aw_goto (tgt := 2) (by decide) d_L_depart_170 ?_
  refine aw_iload_n rfl rfl d_L_depart_2 ?_
  refine aw_bipush (v := nI 6) cb_6 d_L_depart_3 ?_
  refine aw_icmp_geI (tgt := 173) (1) (6) (by decide +kernel) (by decide +kernel) (by decide) d_L_depart_5 (fun q => absurd q (by decide)) (fun _ => ?_)
  refine aw_aload_n rfl rfl d_L_depart_8 ?_
  refine aw_aload_n rfl rfl d_L_depart_9 ?_
  refine aw_iload_n rfl rfl d_L_depart_10 ?_
  refine as_callV (as := [.ref 131, .int (nI 1)]) (d' := 1) (q := ("SinglesUp$Lines", zT4, 3)) mo_L_rearmostSitting lk_L_47 kc_7 rfl rfl rfl ⟨by decide, by decide⟩ rfl rfl (by decide) d_L_depart_11 (sp_rearmost_1_130_1 (I := I) f1 ?_)
  refine (show As l b 2 y_L_depart KC RC K2 (I) 14 [.ref 7, .ref 131, .int (nI 1), .int ((-1 : Int32)), .int (nI 0), .int (nI 0), uu, uu, uu] [.int ((-1 : Int32))] from ?_)
  refine aw_istore_n (lv2 := [.ref 7, .ref 131, .int (nI 1), .int ((-1 : Int32)), .int (nI 0), .int (nI 0), uu, uu, uu]) rfl (by decide) rfl d_L_depart_14 ?_
  refine aw_iconst (v := nI 0) ci_0 d_L_depart_15 ?_
  refine aw_istore (lv2 := [.ref 7, .ref 131, .int (nI 1), .int ((-1 : Int32)), .int (nI 0), .int (nI 0), uu, uu, uu]) (by decide) rfl d_L_depart_16 ?_
  refine aw_iconst (v := nI 0) ci_0 d_L_depart_18 ?_
  refine aw_istore (lv2 := [.ref 7, .ref 131, .int (nI 1), .int ((-1 : Int32)), .int (nI 0), .int (nI 0), uu, uu, uu]) (by decide) rfl d_L_depart_19 ?_
  refine aw_iload rfl d_L_depart_21 ?_
  refine aw_aload_n rfl rfl d_L_depart_23 ?_
  refine aw_getr fl_L_15 kc_7 (by decide) rfl rc_7_1 d_L_depart_24 ?_
  refine aw_iload_n rfl rfl d_L_depart_27 ?_
  refine aw_iald (j := 1) kc_9 (vp_in_nI (by decide) (by decide)) (nI_clamp (by decide)) d_L_depart_28 ?_
  refine aw_top (x2 := nI 0) (f1 (1) (by omega)) ?_
  refine aw_icmp_geI (tgt := 159) (0) (0) (by decide +kernel) (by decide +kernel) (by decide) d_L_depart_29 (fun _ => ?_) (fun q => absurd q (by decide))
  refine aw_aload_n rfl rfl d_L_depart_159 ?_
  refine aw_getr fl_L_15 kc_7 (by decide) rfl rc_7_1 d_L_depart_160 ?_
  refine aw_iload_n rfl rfl d_L_depart_163 ?_
  refine aw_iload rfl d_L_depart_164 ?_
  refine aw_iast (j := 1) kc_9 (vp_in_nI (by decide) (by decide)) (nI_clamp (by decide)) d_L_depart_166 ?_
  rw [upd2_id (f1 (1) (by omega))]
  refine aw_iinc (v := nI 2) (lv2 := [.ref 7, .ref 131, .int (nI 2), .int ((-1 : Int32)), .int (nI 0), .int (nI 0), uu, uu, uu]) rfl (by decide +kernel) (by decide) rfl d_L_depart_167 ?_
  refine aw_goto (tgt := 2) (by decide) d_L_depart_170 ?_
  refine aw_iload_n rfl rfl d_L_depart_2 ?_
  refine aw_bipush (v := nI 6) cb_6 d_L_depart_3 ?_
  refine aw_icmp_geI (tgt := 173) (2) (6) (by decide +kernel) (by decide +kernel) (by decide) d_L_depart_5 (fun q => absurd q (by decide)) (fun _ => ?_)
  refine aw_aload_n rfl rfl d_L_depart_8 ?_
  refine aw_aload_n rfl rfl d_L_depart_9 ?_
  refine aw_iload_n rfl rfl d_L_depart_10 ?_
  refine as_callV (as := [.ref 131, .int (nI 2)]) (d' := 1) (q := ("SinglesUp$Lines", zT4, 3)) mo_L_rearmostSitting lk_L_47 kc_7 rfl rfl rfl ⟨by decide, by decide⟩ rfl rfl (by decide) d_L_depart_11 (sp_rearmost_1_130_2 (I := I) f1 ?_)
  refine (show As l b 2 y_L_depart KC RC K2 (I) 14 [.ref 7, .ref 131, .int (nI 2), .int ((-1 : Int32)), .int (nI 0), .int (nI 0), uu, uu, uu] [.int ((-1 : Int32))] from ?_)
  refine aw_istore_n (lv2 := [.ref 7, .ref 131, .int (nI 2), .int ((-1 : Int32)), .int (nI 0), .int (nI 0), uu, uu, uu]) rfl (by decide) rfl d_L_depart_14 ?_
  refine aw_iconst (v := nI 0) ci_0 d_L_depart_15 ?_
  refine aw_istore (lv2 := [.ref 7, .ref 131, .int (nI 2), .int ((-1 : Int32)), .int (nI 0), .int (nI 0), uu, uu, uu]) (by decide) rfl d_L_depart_16 ?_
  refine aw_iconst (v := nI 0) ci_0 d_L_depart_18 ?_
  refine aw_istore (lv2 := [.ref 7, .ref 131, .int (nI 2), .int ((-1 : Int32)), .int (nI 0), .int (nI 0), uu, uu, uu]) (by decide) rfl d_L_depart_19 ?_
  refine aw_iload rfl d_L_depart_21 ?_
  refine aw_aload_n rfl rfl d_L_depart_23 ?_
  refine aw_getr fl_L_15 kc_7 (by decide) rfl rc_7_1 d_L_depart_24 ?_
  refine aw_iload_n rfl rfl d_L_depart_27 ?_
  refine aw_iald (j := 2) kc_9 (vp_in_nI (by decide) (by decide)) (nI_clamp (by decide)) d_L_depart_28 ?_
  refine aw_top (x2 := nI 0) (f1 (2) (by omega)) ?_
  refine aw_icmp_geI (tgt := 159) (0) (0) (by decide +kernel) (by decide +kernel) (by decide) d_L_depart_29 (fun _ => ?_) (fun q => absurd q (by decide))
  refine aw_aload_n rfl rfl d_L_depart_159 ?_
  refine aw_getr fl_L_15 kc_7 (by decide) rfl rc_7_1 d_L_depart_160 ?_
  refine aw_iload_n rfl rfl d_L_depart_163 ?_
  refine aw_iload rfl d_L_depart_164 ?_
  refine aw_iast (j := 2) kc_9 (vp_in_nI (by decide) (by decide)) (nI_clamp (by decide)) d_L_depart_166 ?_
  rw [upd2_id (f1 (2) (by omega))]
  refine aw_iinc (v := nI 3) (lv2 := [.ref 7, .ref 131, .int (nI 3), .int ((-1 : Int32)), .int (nI 0), .int (nI 0), uu, uu, uu]) rfl (by decide +kernel) (by decide) rfl d_L_depart_167 ?_
  refine aw_goto (tgt := 2) (by decide) d_L_depart_170 ?_
  refine aw_iload_n rfl rfl d_L_depart_2 ?_
  refine aw_bipush (v := nI 6) cb_6 d_L_depart_3 ?_
  refine aw_icmp_geI (tgt := 173) (3) (6) (by decide +kernel) (by decide +kernel) (by decide) d_L_depart_5 (fun q => absurd q (by decide)) (fun _ => ?_)
  refine aw_aload_n rfl rfl d_L_depart_8 ?_
  refine aw_aload_n rfl rfl d_L_depart_9 ?_
  refine aw_iload_n rfl rfl d_L_depart_10 ?_
  refine as_callV (as := [.ref 131, .int (nI 3)]) (d' := 1) (q := ("SinglesUp$Lines", zT4, 3)) mo_L_rearmostSitting lk_L_47 kc_7 rfl rfl rfl ⟨by decide, by decide⟩ rfl rfl (by decide) d_L_depart_11 (sp_rearmost_1_130_3 (I := I) f1 ?_)
  refine (show As l b 2 y_L_depart KC RC K2 (I) 14 [.ref 7, .ref 131, .int (nI 3), .int ((-1 : Int32)), .int (nI 0), .int (nI 0), uu, uu, uu] [.int ((-1 : Int32))] from ?_)
  refine aw_istore_n (lv2 := [.ref 7, .ref 131, .int (nI 3), .int ((-1 : Int32)), .int (nI 0), .int (nI 0), uu, uu, uu]) rfl (by decide) rfl d_L_depart_14 ?_
  refine aw_iconst (v := nI 0) ci_0 d_L_depart_15 ?_
  refine aw_istore (lv2 := [.ref 7, .ref 131, .int (nI 3), .int ((-1 : Int32)), .int (nI 0), .int (nI 0), uu, uu, uu]) (by decide) rfl d_L_depart_16 ?_
  refine aw_iconst (v := nI 0) ci_0 d_L_depart_18 ?_
  refine aw_istore (lv2 := [.ref 7, .ref 131, .int (nI 3), .int ((-1 : Int32)), .int (nI 0), .int (nI 0), uu, uu, uu]) (by decide) rfl d_L_depart_19 ?_
  refine aw_iload rfl d_L_depart_21 ?_
  refine aw_aload_n rfl rfl d_L_depart_23 ?_
  refine aw_getr fl_L_15 kc_7 (by decide) rfl rc_7_1 d_L_depart_24 ?_
  refine aw_iload_n rfl rfl d_L_depart_27 ?_
  refine aw_iald (j := 3) kc_9 (vp_in_nI (by decide) (by decide)) (nI_clamp (by decide)) d_L_depart_28 ?_
  refine aw_top (x2 := nI 0) (f1 (3) (by omega)) ?_
  refine aw_icmp_geI (tgt := 159) (0) (0) (by decide +kernel) (by decide +kernel) (by decide) d_L_depart_29 (fun _ => ?_) (fun q => absurd q (by decide))
  refine aw_aload_n rfl rfl d_L_depart_159 ?_
  refine aw_getr fl_L_15 kc_7 (by decide) rfl rc_7_1 d_L_depart_160 ?_
  refine aw_iload_n rfl rfl d_L_depart_163 ?_
  refine aw_iload rfl d_L_depart_164 ?_
  refine aw_iast (j := 3) kc_9 (vp_in_nI (by decide) (by decide)) (nI_clamp (by decide)) d_L_depart_166 ?_
  rw [upd2_id (f1 (3) (by omega))]
  refine aw_iinc (v := nI 4) (lv2 := [.ref 7, .ref 131, .int (nI 4), .int ((-1 : Int32)), .int (nI 0), .int (nI 0), uu, uu, uu]) rfl (by decide +kernel) (by decide) rfl d_L_depart_167 ?_
  refine aw_goto (tgt := 2) (by decide) d_L_depart_170 ?_
  refine aw_iload_n rfl rfl d_L_depart_2 ?_
  refine aw_bipush (v := nI 6) cb_6 d_L_depart_3 ?_
  refine aw_icmp_geI (tgt := 173) (4) (6) (by decide +kernel) (by decide +kernel) (by decide) d_L_depart_5 (fun q => absurd q (by decide)) (fun _ => ?_)
  refine aw_aload_n rfl rfl d_L_depart_8 ?_
  refine aw_aload_n rfl rfl d_L_depart_9 ?_
  refine aw_iload_n rfl rfl d_L_depart_10 ?_
  refine as_callV (as := [.ref 131, .int (nI 4)]) (d' := 1) (q := ("SinglesUp$Lines", zT4, 3)) mo_L_rearmostSitting lk_L_47 kc_7 rfl rfl rfl ⟨by decide, by decide⟩ rfl rfl (by decide) d_L_depart_11 (sp_rearmost_1_130_4 (I := I) f1 ?_)
  refine (show As l b 2 y_L_depart KC RC K2 (I) 14 [.ref 7, .ref 131, .int (nI 4), .int ((-1 : Int32)), .int (nI 0), .int (nI 0), uu, uu, uu] [.int ((-1 : Int32))] from ?_)
  refine aw_istore_n (lv2 := [.ref 7, .ref 131, .int (nI 4), .int ((-1 : Int32)), .int (nI 0), .int (nI 0), uu, uu, uu]) rfl (by decide) rfl d_L_depart_14 ?_
  refine aw_iconst (v := nI 0) ci_0 d_L_depart_15 ?_
  refine aw_istore (lv2 := [.ref 7, .ref 131, .int (nI 4), .int ((-1 : Int32)), .int (nI 0), .int (nI 0), uu, uu, uu]) (by decide) rfl d_L_depart_16 ?_
  refine aw_iconst (v := nI 0) ci_0 d_L_depart_18 ?_
  refine aw_istore (lv2 := [.ref 7, .ref 131, .int (nI 4), .int ((-1 : Int32)), .int (nI 0), .int (nI 0), uu, uu, uu]) (by decide) rfl d_L_depart_19 ?_
  refine aw_iload rfl d_L_depart_21 ?_
  refine aw_aload_n rfl rfl d_L_depart_23 ?_
  refine aw_getr fl_L_15 kc_7 (by decide) rfl rc_7_1 d_L_depart_24 ?_
  refine aw_iload_n rfl rfl d_L_depart_27 ?_
  refine aw_iald (j := 4) kc_9 (vp_in_nI (by decide) (by decide)) (nI_clamp (by decide)) d_L_depart_28 ?_
  refine aw_top (x2 := nI 0) (f1 (4) (by omega)) ?_
  refine aw_icmp_geI (tgt := 159) (0) (0) (by decide +kernel) (by decide +kernel) (by decide) d_L_depart_29 (fun _ => ?_) (fun q => absurd q (by decide))
  refine aw_aload_n rfl rfl d_L_depart_159 ?_
  refine aw_getr fl_L_15 kc_7 (by decide) rfl rc_7_1 d_L_depart_160 ?_
  refine aw_iload_n rfl rfl d_L_depart_163 ?_
  refine aw_iload rfl d_L_depart_164 ?_
  refine aw_iast (j := 4) kc_9 (vp_in_nI (by decide) (by decide)) (nI_clamp (by decide)) d_L_depart_166 ?_
  rw [upd2_id (f1 (4) (by omega))]
  refine aw_iinc (v := nI 5) (lv2 := [.ref 7, .ref 131, .int (nI 5), .int ((-1 : Int32)), .int (nI 0), .int (nI 0), uu, uu, uu]) rfl (by decide +kernel) (by decide) rfl d_L_depart_167 ?_
  refine aw_goto (tgt := 2) (by decide) d_L_depart_170 ?_
  refine aw_iload_n rfl rfl d_L_depart_2 ?_
  refine aw_bipush (v := nI 6) cb_6 d_L_depart_3 ?_
  refine aw_icmp_geI (tgt := 173) (5) (6) (by decide +kernel) (by decide +kernel) (by decide) d_L_depart_5 (fun q => absurd q (by decide)) (fun _ => ?_)
  refine aw_aload_n rfl rfl d_L_depart_8 ?_
  refine aw_aload_n rfl rfl d_L_depart_9 ?_
  refine aw_iload_n rfl rfl d_L_depart_10 ?_
  refine as_callV (as := [.ref 131, .int (nI 5)]) (d' := 1) (q := ("SinglesUp$Lines", zT4, 3)) mo_L_rearmostSitting lk_L_47 kc_7 rfl rfl rfl ⟨by decide, by decide⟩ rfl rfl (by decide) d_L_depart_11 (sp_rearmost_1_130_5 (I := I) f1 ?_)
  refine (show As l b 2 y_L_depart KC RC K2 (I) 14 [.ref 7, .ref 131, .int (nI 5), .int ((-1 : Int32)), .int (nI 0), .int (nI 0), uu, uu, uu] [.int ((-1 : Int32))] from ?_)
  refine aw_istore_n (lv2 := [.ref 7, .ref 131, .int (nI 5), .int ((-1 : Int32)), .int (nI 0), .int (nI 0), uu, uu, uu]) rfl (by decide) rfl d_L_depart_14 ?_
  refine aw_iconst (v := nI 0) ci_0 d_L_depart_15 ?_
  refine aw_istore (lv2 := [.ref 7, .ref 131, .int (nI 5), .int ((-1 : Int32)), .int (nI 0), .int (nI 0), uu, uu, uu]) (by decide) rfl d_L_depart_16 ?_
  refine aw_iconst (v := nI 0) ci_0 d_L_depart_18 ?_
  refine aw_istore (lv2 := [.ref 7, .ref 131, .int (nI 5), .int ((-1 : Int32)), .int (nI 0), .int (nI 0), uu, uu, uu]) (by decide) rfl d_L_depart_19 ?_
  refine aw_iload rfl d_L_depart_21 ?_
  refine aw_aload_n rfl rfl d_L_depart_23 ?_
  refine aw_getr fl_L_15 kc_7 (by decide) rfl rc_7_1 d_L_depart_24 ?_
  refine aw_iload_n rfl rfl d_L_depart_27 ?_
  refine aw_iald (j := 5) kc_9 (vp_in_nI (by decide) (by decide)) (nI_clamp (by decide)) d_L_depart_28 ?_
  refine aw_top (x2 := nI 0) (f1 (5) (by omega)) ?_
  refine aw_icmp_geI (tgt := 159) (0) (0) (by decide +kernel) (by decide +kernel) (by decide) d_L_depart_29 (fun _ => ?_) (fun q => absurd q (by decide))
  refine aw_aload_n rfl rfl d_L_depart_159 ?_
  refine aw_getr fl_L_15 kc_7 (by decide) rfl rc_7_1 d_L_depart_160 ?_
  refine aw_iload_n rfl rfl d_L_depart_163 ?_
  refine aw_iload rfl d_L_depart_164 ?_
  refine aw_iast (j := 5) kc_9 (vp_in_nI (by decide) (by decide)) (nI_clamp (by decide)) d_L_depart_166 ?_
  rw [upd2_id (f1 (5) (by omega))]
  refine aw_iinc (v := nI 6) (lv2 := [.ref 7, .ref 131, .int (nI 6), .int ((-1 : Int32)), .int (nI 0), .int (nI 0), uu, uu, uu]) rfl (by decide +kernel) (by decide) rfl d_L_depart_167 ?_
  refine aw_goto (tgt := 2) (by decide) d_L_depart_170 ?_
  refine aw_iload_n rfl rfl d_L_depart_2 ?_
  refine aw_bipush (v := nI 6) cb_6 d_L_depart_3 ?_
  refine aw_icmp_geI (tgt := 173) (6) (6) (by decide +kernel) (by decide +kernel) (by decide) d_L_depart_5 (fun _ => ?_) (fun q => absurd q (by decide))
  exact as_retv rfl d_L_depart_173 hK
set_option maxRecDepth 20000 in
theorem sp_close_1 {K2 : K2T} {I : Nat → Nat → Int32} {s ru e k : Nat} (hF : FH 1 I s ru e k) (hb : e + s < 100000 ∧ k + 1 < 100000) (hK : ∀ I', FH 1 I' s ru (e + s) (k + 1) → (∀ q, (q < 1 ∨ 41 < q) ∧ (q < 130 ∨ 136 < q) → I' q = I q) → K2 none I') : Ss l b 3 y_H_close KC RC [.ref 1, .int (nI (s)), .int (nI 0)] (I) K2 := by
  obtain ⟨f0, f1, f2, f3, f4, f5, f6, f7, f8, f9, f10, f11, f12, f13, fb⟩ := hF
  have f0 : ∀ j, j < 32 → I 5 j = nI 0 := f0
  have f1 : ∀ j, j < 6 → I 9 j = nI 0 := f1
  have f2 : ∀ j, j < 6 → I 10 j = nI 9 := f2
  have f3 : I 2 0 = nI s := f3
  have f4 : I 2 3 = nI 0 := f4
  have f5 : I 2 5 = nI ru := f5
  have f6 : I 11 1 = nI e := f6
  have f7 : I 11 0 = nI k := f7
  have f8 : ∀ j, j < 40 → j ≠ 0 → j ≠ 1 → j ≠ 3 → I 11 j = nI 0 := f8
  have f9 : I 16 4 = nI 0 := f9
  have f10 : I 21 4 = nI 0 := f10
  have f11 : I 26 4 = nI 0 := f11
  have f12 : I 31 4 = nI 0 := f12
  have f13 : I 36 4 = nI 0 := f13
  refine Ss.of (show As l b 3 y_H_close KC RC K2 (I) 0 [.ref 1, .int (nI (s)), .int (nI 0), uu] [] from ?_)
  refine aw_aload_n rfl rfl d_H_close_0 ?_
  refine aw_getr fl_H_37 kc_1 (by decide) rfl rc_1_8 d_H_close_1 ?_
  refine aw_iconst (v := nI 1) ci_1 d_H_close_4 ?_
  refine aw_dup2 rfl rfl d_H_close_5 ?_
  refine aw_iald (j := 1) kc_11 (vp_in_nI (by decide) (by decide)) (nI_clamp (by decide)) d_H_close_6 ?_
  refine aw_top (x2 := nI (e)) (f6) ?_
  refine aw_iload_n rfl rfl d_H_close_7 ?_
  refine aw_iaddN d_H_close_8 ?_
  refine aw_iast (j := 1) kc_11 (vp_in_nI (by decide) (by decide)) (nI_clamp (by decide)) d_H_close_9 ?_
  refine aw_aload_n rfl rfl d_H_close_10 ?_
  refine aw_getr fl_H_37 kc_1 (by decide) rfl rc_1_8 d_H_close_11 ?_
  refine aw_iconst (v := nI 3) ci_3 d_H_close_14 ?_
  refine aw_dup2 rfl rfl d_H_close_15 ?_
  refine aw_iald (j := 3) kc_11 (vp_in_nI (by decide) (by decide)) (nI_clamp (by decide)) d_H_close_16 ?_
  refine aw_aload_n rfl rfl d_H_close_17 ?_
  refine aw_getr fl_H_9 kc_1 (by decide) rfl rc_1_0 d_H_close_18 ?_
  refine aw_iconst (v := nI 1) ci_1 d_H_close_21 ?_
  refine aw_iald (j := 1) kc_2 (vp_in_nI (by decide) (by decide)) (nI_clamp (by decide)) d_H_close_22 ?_
  refine aw_iadd d_H_close_23 ?_
  refine aw_iast (j := 3) kc_11 (vp_in_nI (by decide) (by decide)) (nI_clamp (by decide)) d_H_close_24 ?_
  refine aw_aload_n rfl rfl d_H_close_25 ?_
  refine aw_getr fl_H_9 kc_1 (by decide) rfl rc_1_0 d_H_close_26 ?_
  refine aw_iconst (v := nI 3) ci_3 d_H_close_29 ?_
  refine aw_iald (j := 3) kc_2 (vp_in_nI (by decide) (by decide)) (nI_clamp (by decide)) d_H_close_30 ?_
  refine aw_top (x2 := nI 0) (Eq.trans (congrFun (upd2_ne (by decide)) (3)) (Eq.trans (congrFun (upd2_ne (by decide)) (3)) (f4))) ?_
  refine aw_if_leI (tgt := 75) (0) (by decide +kernel) (by decide) d_H_close_31 (fun _ => ?_) (fun q => absurd q (by decide))
  refine aw_aload_n rfl rfl d_H_close_75 ?_
  refine aw_getr fl_H_40 kc_1 (by decide) rfl rc_1_9 d_H_close_76 ?_
  refine aw_iconst (v := nI 0) ci_0 d_H_close_79 ?_
  refine aw_iload_n rfl rfl d_H_close_80 ?_
  refine aw_iast (j := 0) kc_12 (vp_in_nI (by decide) (by decide)) (nI_clamp (by decide)) d_H_close_81 ?_
  refine aw_aload_n rfl rfl d_H_close_82 ?_
  refine aw_getr fl_H_40 kc_1 (by decide) rfl rc_1_9 d_H_close_83 ?_
  refine aw_iconst (v := nI 1) ci_1 d_H_close_86 ?_
  refine aw_iload_n rfl rfl d_H_close_87 ?_
  refine aw_iast (j := 1) kc_12 (vp_in_nI (by decide) (by decide)) (nI_clamp (by decide)) d_H_close_88 ?_
  refine aw_aload_n rfl rfl d_H_close_89 ?_
  refine aw_getr fl_H_37 kc_1 (by decide) rfl rc_1_8 d_H_close_90 ?_
  refine aw_iconst (v := nI 0) ci_0 d_H_close_93 ?_
  refine aw_iald (j := 0) kc_11 (vp_in_nI (by decide) (by decide)) (nI_clamp (by decide)) d_H_close_94 ?_
  refine aw_top (x2 := nI (k)) (Eq.trans (congrFun (upd2_ne (by decide)) (0)) (Eq.trans (congrFun (upd2_ne (by decide)) (0)) (Eq.trans (upd2_nx (by omega)) (Eq.trans (upd2_nx (by omega)) (f7))))) ?_
  refine as_callS (as := [.int (nI (k))]) (d' := 2) mo_H_pastAt lk_H_116 rfl ⟨by decide, by decide⟩ rfl rfl (by decide) d_H_close_95 (sp_pastAt (I := upd2 (upd2 (upd2 (upd2 I 11 (1) (nI ((e + s)))) 11 (3) (((upd2 I 11 (1) (nI ((e + s)))) 11 3 + (upd2 I 11 (1) (nI ((e + s)))) 2 1))) 12 (0) (nI 0)) 12 (1) (nI (s))) (k := k) (by omega) ?_)
  refine (show As l b 3 y_H_close KC RC K2 (upd2 (upd2 (upd2 (upd2 I 11 (1) (nI ((e + s)))) 11 (3) (((upd2 I 11 (1) (nI ((e + s)))) 11 3 + (upd2 I 11 (1) (nI ((e + s)))) 2 1))) 12 (0) (nI 0)) 12 (1) (nI (s))) 98 [.ref 1, .int (nI (s)), .int (nI 0), uu] [.int (nI ((k % 60 * 3)))] from ?_)
  refine aw_istore_n (lv2 := [.ref 1, .int (nI (s)), .int (nI 0), .int (nI ((k % 60 * 3)))]) rfl (by decide) rfl d_H_close_98 ?_
  refine aw_aload_n rfl rfl d_H_close_99 ?_
  refine aw_getr fl_H_43 kc_1 (by decide) rfl rc_1_10 d_H_close_100 ?_
  refine aw_iload_n rfl rfl d_H_close_103 ?_
  refine aw_iload_n rfl rfl d_H_close_104 ?_
  refine aw_iast (j := (k % 60 * 3)) kc_13 (vp_in_nI (by omega) (by decide)) (nI_clamp (by omega)) d_H_close_105 ?_
  refine aw_aload_n rfl rfl d_H_close_106 ?_
  refine aw_getr fl_H_43 kc_1 (by decide) rfl rc_1_10 d_H_close_107 ?_
  refine aw_iload_n rfl rfl d_H_close_110 ?_
  refine aw_iconst (v := nI 1) ci_1 d_H_close_111 ?_
  refine aw_iaddN d_H_close_112 ?_
  refine aw_iload_n rfl rfl d_H_close_113 ?_
  refine aw_iast (j := ((k % 60 * 3) + 1)) kc_13 (vp_in_nI (by omega) (by decide)) (nI_clamp (by omega)) d_H_close_114 ?_
  refine aw_aload_n rfl rfl d_H_close_115 ?_
  refine aw_getr fl_H_43 kc_1 (by decide) rfl rc_1_10 d_H_close_116 ?_
  refine aw_iload_n rfl rfl d_H_close_119 ?_
  refine aw_iconst (v := nI 2) ci_2 d_H_close_120 ?_
  refine aw_iaddN d_H_close_121 ?_
  refine aw_aload_n rfl rfl d_H_close_122 ?_
  refine aw_getr fl_H_37 kc_1 (by decide) rfl rc_1_8 d_H_close_123 ?_
  refine aw_iconst (v := nI 3) ci_3 d_H_close_126 ?_
  refine aw_iald (j := 3) kc_11 (vp_in_nI (by decide) (by decide)) (nI_clamp (by decide)) d_H_close_127 ?_
  refine aw_top (x2 := ((upd2 I 11 (1) (nI ((e + s)))) 11 3 + (upd2 I 11 (1) (nI ((e + s)))) 2 1)) (Eq.trans (congrFun (upd2_ne (by decide)) (3)) (Eq.trans (congrFun (upd2_ne (by decide)) (3)) (Eq.trans (congrFun (upd2_ne (by decide)) (3)) (Eq.trans (congrFun (upd2_ne (by decide)) (3)) (upd2_eq))))) ?_
  refine aw_iast (j := ((k % 60 * 3) + 2)) kc_13 (vp_in_nI (by omega) (by decide)) (nI_clamp (by omega)) d_H_close_128 ?_
  refine aw_aload_n rfl rfl d_H_close_129 ?_
  refine aw_getr fl_H_37 kc_1 (by decide) rfl rc_1_8 d_H_close_130 ?_
  refine aw_iconst (v := nI 0) ci_0 d_H_close_133 ?_
  refine aw_dup2 rfl rfl d_H_close_134 ?_
  refine aw_iald (j := 0) kc_11 (vp_in_nI (by decide) (by decide)) (nI_clamp (by decide)) d_H_close_135 ?_
  refine aw_top (x2 := nI (k)) (Eq.trans (congrFun (upd2_ne (by decide)) (0)) (Eq.trans (congrFun (upd2_ne (by decide)) (0)) (Eq.trans (congrFun (upd2_ne (by decide)) (0)) (Eq.trans (congrFun (upd2_ne (by decide)) (0)) (Eq.trans (congrFun (upd2_ne (by decide)) (0)) (Eq.trans (upd2_nx (by omega)) (Eq.trans (upd2_nx (by omega)) (f7)))))))) ?_
  refine aw_iconst (v := nI 1) ci_1 d_H_close_136 ?_
  refine aw_iaddN d_H_close_137 ?_
  refine aw_iast (j := 0) kc_11 (vp_in_nI (by decide) (by decide)) (nI_clamp (by decide)) d_H_close_138 ?_
  exact as_retv rfl d_H_close_139 (hK _ ⟨fun j hj => by simp [upd2, upd, updA, f0 j hj], fun j hj => by simp [upd2, upd, updA, f1 j hj], fun j hj => by simp [upd2, upd, updA, f2 j hj], by simp [upd2, upd, updA, f3], by simp [upd2, upd, updA, f4], by simp [upd2, upd, updA, f5], by simp [upd2, upd, updA, f6, nI_add], by simp [upd2, upd, updA, f7, nI_1], fun j hj a1 a2 a3 => by simp [upd2, upd, updA, f8 j hj a1 a2 a3, a1, a2, a3], by simp [upd2, upd, updA, f9], by simp [upd2, upd, updA, f10], by simp [upd2, upd, updA, f11], by simp [upd2, upd, updA, f12], by simp [upd2, upd, updA, f13], by omega⟩ (fun q hq => by have n11 : q ≠ 11 := (by omega); have n12 : q ≠ 12 := (by omega); have n13 : q ≠ 13 := (by omega); simp [upd2, updA, n11, n12, n13]))
set_option maxRecDepth 20000 in
theorem sp_leave_130 {K2 : K2T} {I : Nat → Nat → Int32} {s ru e k : Nat} (hF : FH 1 I s ru e k) (g7 : I 130 7 = nI s) (g8 : I 130 8 = nI 0) (g9 : I 130 9 = nI 0) (hb : e + s < 100000 ∧ k + 1 < 100000) (hK : ∀ I', FH 1 I' s ru (e + s) (k + 1) → (∀ q, (q < 1 ∨ 41 < q) ∧ (q < 130 ∨ 136 < q) → I' q = I q) → K2 (some (.int (nI 0))) I') : Ss l b 4 y_C_leave KC RC [.ref 130, .ref 1] (I) K2 := by
  have hF0 := hF
  obtain ⟨f0, f1, f2, f3, f4, f5, f6, f7, f8, f9, f10, f11, f12, f13, fb⟩ := hF
  have f0 : ∀ j, j < 32 → I 5 j = nI 0 := f0
  have f1 : ∀ j, j < 6 → I 9 j = nI 0 := f1
  have f2 : ∀ j, j < 6 → I 10 j = nI 9 := f2
  have f3 : I 2 0 = nI s := f3
  have f4 : I 2 3 = nI 0 := f4
  have f5 : I 2 5 = nI ru := f5
  have f6 : I 11 1 = nI e := f6
  have f7 : I 11 0 = nI k := f7
  have f8 : ∀ j, j < 40 → j ≠ 0 → j ≠ 1 → j ≠ 3 → I 11 j = nI 0 := f8
  have f9 : I 16 4 = nI 0 := f9
  have f10 : I 21 4 = nI 0 := f10
  have f11 : I 26 4 = nI 0 := f11
  have f12 : I 31 4 = nI 0 := f12
  have f13 : I 36 4 = nI 0 := f13
  refine Ss.of (show As l b 4 y_C_leave KC RC K2 (I) 0 [.ref 130, .ref 1, uu, uu] [] from ?_)
  refine aw_aload_n rfl rfl d_C_leave_0 ?_
  refine aw_getr fl_C_141 kc_1 (by decide) rfl rc_1_8 d_C_leave_1 ?_
  refine aw_iconst (v := nI 2) ci_2 d_C_leave_4 ?_
  refine aw_iald (j := 2) kc_11 (vp_in_nI (by decide) (by decide)) (nI_clamp (by decide)) d_C_leave_5 ?_
  refine aw_top (x2 := nI 0) (f8 2 (by decide) (by decide) (by decide) (by decide)) ?_
  refine aw_istore_n (lv2 := [.ref 130, .ref 1, .int (nI 0), uu]) rfl (by decide) rfl d_C_leave_6 ?_
  refine aw_iconst (v := nI 0) ci_0 d_C_leave_7 ?_
  refine aw_istore_n (lv2 := [.ref 130, .ref 1, .int (nI 0), .int (nI 0)]) rfl (by decide) rfl d_C_leave_8 ?_
  refine aw_iload_n rfl rfl d_C_leave_9 ?_
  refine aw_aload_n rfl rfl d_C_leave_10 ?_
  refine aw_geti fl_C_40 kc_130 (by decide) rfl d_C_leave_11 ?_
  refine aw_top (x2 := nI 0) (g8) ?_
  refine aw_icmp_geI (tgt := 46) (0) (0) (by decide +kernel) (by decide +kernel) (by decide) d_C_leave_14 (fun _ => ?_) (fun q => absurd q (by decide))
  refine aw_aload_n rfl rfl d_C_leave_46 ?_
  refine aw_getr fl_C_72 kc_1 (by decide) rfl rc_1_5 d_C_leave_47 ?_
  refine aw_aload_n rfl rfl d_C_leave_50 ?_
  refine aw_getr fl_C_9 kc_130 (by decide) rfl rc_130_0 d_C_leave_51 ?_
  refine as_callV (as := [.ref 131]) (d' := 2) (q := ("SinglesUp$Lines", zT4, 3)) mo_L_depart lk_C_165 kc_7 rfl rfl rfl ⟨by decide, by decide⟩ rfl rfl (by decide) d_C_leave_54 (sp_depart_1_130 (I := I) f1 ?_)
  refine (show As l b 4 y_C_leave KC RC K2 (I) 57 [.ref 130, .ref 1, .int (nI 0), .int (nI 0)] [] from ?_)
  refine aw_iconst (v := nI 0) ci_0 d_C_leave_57 ?_
  refine aw_istore_n (lv2 := [.ref 130, .ref 1, .int (nI 0), .int (nI 0)]) rfl (by decide) rfl d_C_leave_58 ?_
  refine aw_iload_n rfl rfl d_C_leave_59 ?_
  refine aw_aload_n rfl rfl d_C_leave_60 ?_
  refine aw_geti fl_C_43 kc_130 (by decide) rfl d_C_leave_61 ?_
  refine aw_top (x2 := nI 0) (g9) ?_
  refine aw_icmp_geI (tgt := 103) (0) (0) (by decide +kernel) (by decide +kernel) (by decide) d_C_leave_64 (fun _ => ?_) (fun q => absurd q (by decide))
  refine aw_aload_n rfl rfl d_C_leave_103 ?_
  refine aw_aload_n rfl rfl d_C_leave_104 ?_
  refine aw_geti fl_C_30 kc_130 (by decide) rfl d_C_leave_105 ?_
  refine aw_top (x2 := nI (s)) (g7) ?_
  refine aw_aload_n rfl rfl d_C_leave_108 ?_
  refine aw_geti fl_C_40 kc_130 (by decide) rfl d_C_leave_109 ?_
  refine aw_top (x2 := nI 0) (g8) ?_
  refine as_callV (as := [.int (nI (s)), .int (nI 0)]) (d' := 3) (q := ("SinglesUp$Hill", zT2, 14)) mo_H_close lk_C_173 kc_1 rfl rfl rfl ⟨by decide, by decide⟩ rfl rfl (by decide) d_C_leave_112 (sp_close_1 (I := I) (s := s) (ru := ru) (e := e) (k := k) hF0 (by omega) (fun I1 hF2 fr3 => ?_))
  have hF := hF2
  obtain ⟨f0, f1, f2, f3, f4, f5, f6, f7, f8, f9, f10, f11, f12, f13, fb⟩ := hF
  have f0 : ∀ j, j < 32 → I1 5 j = nI 0 := f0
  have f1 : ∀ j, j < 6 → I1 9 j = nI 0 := f1
  have f2 : ∀ j, j < 6 → I1 10 j = nI 9 := f2
  have f3 : I1 2 0 = nI (s) := f3
  have f4 : I1 2 3 = nI 0 := f4
  have f5 : I1 2 5 = nI (ru) := f5
  have f6 : I1 11 1 = nI ((e + s)) := f6
  have f7 : I1 11 0 = nI ((k + 1)) := f7
  have f8 : ∀ j, j < 40 → j ≠ 0 → j ≠ 1 → j ≠ 3 → I1 11 j = nI 0 := f8
  have f9 : I1 16 4 = nI 0 := f9
  have f10 : I1 21 4 = nI 0 := f10
  have f11 : I1 26 4 = nI 0 := f11
  have f12 : I1 31 4 = nI 0 := f12
  have f13 : I1 36 4 = nI 0 := f13
  refine (show As l b 4 y_C_leave KC RC K2 (I1) 115 [.ref 130, .ref 1, .int (nI 0), .int (nI 0)] [] from ?_)
  refine aw_aload_n rfl rfl d_C_leave_115 ?_
  refine aw_getr fl_C_141 kc_1 (by decide) rfl rc_1_8 d_C_leave_116 ?_
  refine aw_iconst (v := nI 2) ci_2 d_C_leave_119 ?_
  refine aw_iald (j := 2) kc_11 (vp_in_nI (by decide) (by decide)) (nI_clamp (by decide)) d_C_leave_120 ?_
  refine aw_top (x2 := nI 0) (f8 2 (by decide) (by decide) (by decide) (by decide)) ?_
  refine aw_iload_n rfl rfl d_C_leave_121 ?_
  refine aw_isub d_C_leave_122 ?_
  refine aw_top (x2 := nI 0) (by decide +kernel) ?_
  exact as_reti rfl d_C_leave_123 (hK _ hF2 (fun q hq => fr3 q hq))
set_option maxRecDepth 20000 in
theorem sp_ride_130 {K2 : K2T} {I : Nat → Nat → Int32} {s ru e k : Nat} (hF : FH 1 I s ru e k) (hb : e + s < 100000 ∧ k + 1 < 100000) (hK : ∀ I', FH 1 I' s ru (e + s) (k + 1) → (∀ q, (q < 1 ∨ 41 < q) ∧ (q < 130 ∨ 136 < q) → I' q = I q) → K2 (some (.int (nI 0))) I') : Ss l b 5 y_C_ride KC RC [.ref 130, .ref 1] (I) K2 := by
  have hF0 := hF
  obtain ⟨f0, f1, f2, f3, f4, f5, f6, f7, f8, f9, f10, f11, f12, f13, fb⟩ := hF
  have f0 : ∀ j, j < 32 → I 5 j = nI 0 := f0
  have f1 : ∀ j, j < 6 → I 9 j = nI 0 := f1
  have f2 : ∀ j, j < 6 → I 10 j = nI 9 := f2
  have f3 : I 2 0 = nI s := f3
  have f4 : I 2 3 = nI 0 := f4
  have f5 : I 2 5 = nI ru := f5
  have f6 : I 11 1 = nI e := f6
  have f7 : I 11 0 = nI k := f7
  have f8 : ∀ j, j < 40 → j ≠ 0 → j ≠ 1 → j ≠ 3 → I 11 j = nI 0 := f8
  have f9 : I 16 4 = nI 0 := f9
  have f10 : I 21 4 = nI 0 := f10
  have f11 : I 26 4 = nI 0 := f11
  have f12 : I 31 4 = nI 0 := f12
  have f13 : I 36 4 = nI 0 := f13
  refine Ss.of (show As l b 5 y_C_ride KC RC K2 (I) 0 [.ref 130, .ref 1] [] from ?_)
  refine aw_aload_n rfl rfl d_C_ride_0 ?_
  refine aw_aload_n rfl rfl d_C_ride_1 ?_
  refine as_callV (as := [.ref 1]) (d' := 3) (q := ("SinglesUp$Chair", zT0, 12)) mo_C_fill lk_C_58 kc_130 rfl rfl rfl ⟨by decide, by decide⟩ rfl rfl (by decide) d_C_ride_2 (sp_fill_130 (I := I) (s := s) (ru := ru) (e := e) (k := k) hF0 (fun I1 hF2 g4a g4b g4c fr3 => ?_))
  have hF := hF2
  obtain ⟨f0, f1, f2, f3, f4, f5, f6, f7, f8, f9, f10, f11, f12, f13, fb⟩ := hF
  have f0 : ∀ j, j < 32 → I1 5 j = nI 0 := f0
  have f1 : ∀ j, j < 6 → I1 9 j = nI 0 := f1
  have f2 : ∀ j, j < 6 → I1 10 j = nI 9 := f2
  have f3 : I1 2 0 = nI (s) := f3
  have f4 : I1 2 3 = nI 0 := f4
  have f5 : I1 2 5 = nI (ru) := f5
  have f6 : I1 11 1 = nI (e) := f6
  have f7 : I1 11 0 = nI (k) := f7
  have f8 : ∀ j, j < 40 → j ≠ 0 → j ≠ 1 → j ≠ 3 → I1 11 j = nI 0 := f8
  have f9 : I1 16 4 = nI 0 := f9
  have f10 : I1 21 4 = nI 0 := f10
  have f11 : I1 26 4 = nI 0 := f11
  have f12 : I1 31 4 = nI 0 := f12
  have f13 : I1 36 4 = nI 0 := f13
  refine (show As l b 5 y_C_ride KC RC K2 (I1) 5 [.ref 130, .ref 1] [] from ?_)
  refine aw_aload_n rfl rfl d_C_ride_5 ?_
  refine aw_aload_n rfl rfl d_C_ride_6 ?_
  refine as_callV (as := [.ref 1]) (d' := 4) (q := ("SinglesUp$Chair", zT0, 12)) mo_C_leave lk_C_61 kc_130 rfl rfl rfl ⟨by decide, by decide⟩ rfl rfl (by decide) d_C_ride_7 (sp_leave_130 (I := I1) (s := s) (ru := ru) (e := e) (k := k) hF2 g4a g4b g4c (by omega) (fun I5 hF6 fr7 => ?_))
  have hF := hF6
  obtain ⟨f0, f1, f2, f3, f4, f5, f6, f7, f8, f9, f10, f11, f12, f13, fb⟩ := hF
  have f0 : ∀ j, j < 32 → I5 5 j = nI 0 := f0
  have f1 : ∀ j, j < 6 → I5 9 j = nI 0 := f1
  have f2 : ∀ j, j < 6 → I5 10 j = nI 9 := f2
  have f3 : I5 2 0 = nI (s) := f3
  have f4 : I5 2 3 = nI 0 := f4
  have f5 : I5 2 5 = nI (ru) := f5
  have f6 : I5 11 1 = nI ((e + s)) := f6
  have f7 : I5 11 0 = nI ((k + 1)) := f7
  have f8 : ∀ j, j < 40 → j ≠ 0 → j ≠ 1 → j ≠ 3 → I5 11 j = nI 0 := f8
  have f9 : I5 16 4 = nI 0 := f9
  have f10 : I5 21 4 = nI 0 := f10
  have f11 : I5 26 4 = nI 0 := f11
  have f12 : I5 31 4 = nI 0 := f12
  have f13 : I5 36 4 = nI 0 := f13
  refine (show As l b 5 y_C_ride KC RC K2 (I5) 10 [.ref 130, .ref 1] [.int (nI 0)] from ?_)
  exact as_reti rfl d_C_ride_10 (hK _ hF6 (fun q hq => (fun q hq => (fr7 q hq).trans (fr3 q hq)) q hq))
set_option maxRecDepth 20000 in
theorem sp_comers_1 {K2 : K2T} {I : Nat → Nat → Int32} (f0 : ∀ j, j < 32 → I 5 j = nI 0) (hK : K2 none I) : Ss l b 2 y_H_letComersEnter KC RC [.ref 1] (I) K2 := by
  refine Ss.of (show As l b 2 y_H_letComersEnter KC RC K2 (I) 0 [.ref 1, uu, uu] [] from ?_)
  refine aw_iconst (v := nI 0) ci_0 d_H_letComersEnter_0 ?_
  refine aw_istore_n (lv2 := [.ref 1, .int (nI 0), uu]) rfl (by decide) rfl d_H_letComersEnter_1 ?_
  refine aw_iload_n rfl rfl d_H_letComersEnter_2 ?_
  refine aw_iconst (v := nI 3) ci_3 d_H_letComersEnter_3 ?_
  refine aw_iadd d_H_letComersEnter_4 ?_
  refine aw_top (x2 := nI 3) (by decide +kernel) ?_
  refine aw_aload_n rfl rfl d_H_letComersEnter_5 ?_
  refine aw_getr fl_H_24 kc_1 (by decide) rfl rc_1_3 d_H_letComersEnter_6 ?_
  refine aw_alen kc_5 (by decide) d_H_letComersEnter_9 ?_
  refine aw_icmp_geI (tgt := 70) (3) (32) (by decide +kernel) (by decide +kernel) (by decide) d_H_letComersEnter_10 (fun q => absurd q (by decide)) (fun _ => ?_)
  refine aw_aload_n rfl rfl d_H_letComersEnter_13 ?_
  refine aw_getr fl_H_24 kc_1 (by decide) rfl rc_1_3 d_H_letComersEnter_14 ?_
  refine aw_iload_n rfl rfl d_H_letComersEnter_17 ?_
  refine aw_iconst (v := nI 3) ci_3 d_H_letComersEnter_18 ?_
  refine aw_iadd d_H_letComersEnter_19 ?_
  refine aw_top (x2 := nI 3) (by decide +kernel) ?_
  refine aw_iald (j := 3) kc_5 (vp_in_nI (by decide) (by decide)) (nI_clamp (by decide)) d_H_letComersEnter_20 ?_
  refine aw_top (x2 := nI 0) (f0 3 (by omega)) ?_
  refine aw_istore_n (lv2 := [.ref 1, .int (nI 0), .int (nI 0)]) rfl (by decide) rfl d_H_letComersEnter_21 ?_
  refine aw_iload_n rfl rfl d_H_letComersEnter_22 ?_
  refine aw_if_leI (tgt := 64) (0) (by decide +kernel) (by decide) d_H_letComersEnter_23 (fun _ => ?_) (fun q => absurd q (by decide))
  refine aw_iinc (v := nI 4) (lv2 := [.ref 1, .int (nI 4), .int (nI 0)]) rfl (by decide +kernel) (by decide) rfl d_H_letComersEnter_64 ?_
  refine aw_goto (tgt := 2) (by decide) d_H_letComersEnter_67 ?_
  refine aw_iload_n rfl rfl d_H_letComersEnter_2 ?_
  refine aw_iconst (v := nI 3) ci_3 d_H_letComersEnter_3 ?_
  refine aw_iadd d_H_letComersEnter_4 ?_
  refine aw_top (x2 := nI 7) (by decide +kernel) ?_
  refine aw_aload_n rfl rfl d_H_letComersEnter_5 ?_
  refine aw_getr fl_H_24 kc_1 (by decide) rfl rc_1_3 d_H_letComersEnter_6 ?_
  refine aw_alen kc_5 (by decide) d_H_letComersEnter_9 ?_
  refine aw_icmp_geI (tgt := 70) (7) (32) (by decide +kernel) (by decide +kernel) (by decide) d_H_letComersEnter_10 (fun q => absurd q (by decide)) (fun _ => ?_)
  refine aw_aload_n rfl rfl d_H_letComersEnter_13 ?_
  refine aw_getr fl_H_24 kc_1 (by decide) rfl rc_1_3 d_H_letComersEnter_14 ?_
  refine aw_iload_n rfl rfl d_H_letComersEnter_17 ?_
  refine aw_iconst (v := nI 3) ci_3 d_H_letComersEnter_18 ?_
  refine aw_iadd d_H_letComersEnter_19 ?_
  refine aw_top (x2 := nI 7) (by decide +kernel) ?_
  refine aw_iald (j := 7) kc_5 (vp_in_nI (by decide) (by decide)) (nI_clamp (by decide)) d_H_letComersEnter_20 ?_
  refine aw_top (x2 := nI 0) (f0 7 (by omega)) ?_
  refine aw_istore_n (lv2 := [.ref 1, .int (nI 4), .int (nI 0)]) rfl (by decide) rfl d_H_letComersEnter_21 ?_
  refine aw_iload_n rfl rfl d_H_letComersEnter_22 ?_
  refine aw_if_leI (tgt := 64) (0) (by decide +kernel) (by decide) d_H_letComersEnter_23 (fun _ => ?_) (fun q => absurd q (by decide))
  refine aw_iinc (v := nI 8) (lv2 := [.ref 1, .int (nI 8), .int (nI 0)]) rfl (by decide +kernel) (by decide) rfl d_H_letComersEnter_64 ?_
  refine aw_goto (tgt := 2) (by decide) d_H_letComersEnter_67 ?_
  refine aw_iload_n rfl rfl d_H_letComersEnter_2 ?_
  refine aw_iconst (v := nI 3) ci_3 d_H_letComersEnter_3 ?_
  refine aw_iadd d_H_letComersEnter_4 ?_
  refine aw_top (x2 := nI 11) (by decide +kernel) ?_
  refine aw_aload_n rfl rfl d_H_letComersEnter_5 ?_
  refine aw_getr fl_H_24 kc_1 (by decide) rfl rc_1_3 d_H_letComersEnter_6 ?_
  refine aw_alen kc_5 (by decide) d_H_letComersEnter_9 ?_
  refine aw_icmp_geI (tgt := 70) (11) (32) (by decide +kernel) (by decide +kernel) (by decide) d_H_letComersEnter_10 (fun q => absurd q (by decide)) (fun _ => ?_)
  refine aw_aload_n rfl rfl d_H_letComersEnter_13 ?_
  refine aw_getr fl_H_24 kc_1 (by decide) rfl rc_1_3 d_H_letComersEnter_14 ?_
  refine aw_iload_n rfl rfl d_H_letComersEnter_17 ?_
  refine aw_iconst (v := nI 3) ci_3 d_H_letComersEnter_18 ?_
  refine aw_iadd d_H_letComersEnter_19 ?_
  refine aw_top (x2 := nI 11) (by decide +kernel) ?_
  refine aw_iald (j := 11) kc_5 (vp_in_nI (by decide) (by decide)) (nI_clamp (by decide)) d_H_letComersEnter_20 ?_
  refine aw_top (x2 := nI 0) (f0 11 (by omega)) ?_
  refine aw_istore_n (lv2 := [.ref 1, .int (nI 8), .int (nI 0)]) rfl (by decide) rfl d_H_letComersEnter_21 ?_
  refine aw_iload_n rfl rfl d_H_letComersEnter_22 ?_
  refine aw_if_leI (tgt := 64) (0) (by decide +kernel) (by decide) d_H_letComersEnter_23 (fun _ => ?_) (fun q => absurd q (by decide))
  refine aw_iinc (v := nI 12) (lv2 := [.ref 1, .int (nI 12), .int (nI 0)]) rfl (by decide +kernel) (by decide) rfl d_H_letComersEnter_64 ?_
  refine aw_goto (tgt := 2) (by decide) d_H_letComersEnter_67 ?_
  refine aw_iload_n rfl rfl d_H_letComersEnter_2 ?_
  refine aw_iconst (v := nI 3) ci_3 d_H_letComersEnter_3 ?_
  refine aw_iadd d_H_letComersEnter_4 ?_
  refine aw_top (x2 := nI 15) (by decide +kernel) ?_
  refine aw_aload_n rfl rfl d_H_letComersEnter_5 ?_
  refine aw_getr fl_H_24 kc_1 (by decide) rfl rc_1_3 d_H_letComersEnter_6 ?_
  refine aw_alen kc_5 (by decide) d_H_letComersEnter_9 ?_
  refine aw_icmp_geI (tgt := 70) (15) (32) (by decide +kernel) (by decide +kernel) (by decide) d_H_letComersEnter_10 (fun q => absurd q (by decide)) (fun _ => ?_)
  refine aw_aload_n rfl rfl d_H_letComersEnter_13 ?_
  refine aw_getr fl_H_24 kc_1 (by decide) rfl rc_1_3 d_H_letComersEnter_14 ?_
  refine aw_iload_n rfl rfl d_H_letComersEnter_17 ?_
  refine aw_iconst (v := nI 3) ci_3 d_H_letComersEnter_18 ?_
  refine aw_iadd d_H_letComersEnter_19 ?_
  refine aw_top (x2 := nI 15) (by decide +kernel) ?_
  refine aw_iald (j := 15) kc_5 (vp_in_nI (by decide) (by decide)) (nI_clamp (by decide)) d_H_letComersEnter_20 ?_
  refine aw_top (x2 := nI 0) (f0 15 (by omega)) ?_
  refine aw_istore_n (lv2 := [.ref 1, .int (nI 12), .int (nI 0)]) rfl (by decide) rfl d_H_letComersEnter_21 ?_
  refine aw_iload_n rfl rfl d_H_letComersEnter_22 ?_
  refine aw_if_leI (tgt := 64) (0) (by decide +kernel) (by decide) d_H_letComersEnter_23 (fun _ => ?_) (fun q => absurd q (by decide))
  refine aw_iinc (v := nI 16) (lv2 := [.ref 1, .int (nI 16), .int (nI 0)]) rfl (by decide +kernel) (by decide) rfl d_H_letComersEnter_64 ?_
  refine aw_goto (tgt := 2) (by decide) d_H_letComersEnter_67 ?_
  refine aw_iload_n rfl rfl d_H_letComersEnter_2 ?_
  refine aw_iconst (v := nI 3) ci_3 d_H_letComersEnter_3 ?_
  refine aw_iadd d_H_letComersEnter_4 ?_
  refine aw_top (x2 := nI 19) (by decide +kernel) ?_
  refine aw_aload_n rfl rfl d_H_letComersEnter_5 ?_
  refine aw_getr fl_H_24 kc_1 (by decide) rfl rc_1_3 d_H_letComersEnter_6 ?_
  refine aw_alen kc_5 (by decide) d_H_letComersEnter_9 ?_
  refine aw_icmp_geI (tgt := 70) (19) (32) (by decide +kernel) (by decide +kernel) (by decide) d_H_letComersEnter_10 (fun q => absurd q (by decide)) (fun _ => ?_)
  refine aw_aload_n rfl rfl d_H_letComersEnter_13 ?_
  refine aw_getr fl_H_24 kc_1 (by decide) rfl rc_1_3 d_H_letComersEnter_14 ?_
  refine aw_iload_n rfl rfl d_H_letComersEnter_17 ?_
  refine aw_iconst (v := nI 3) ci_3 d_H_letComersEnter_18 ?_
  refine aw_iadd d_H_letComersEnter_19 ?_
  refine aw_top (x2 := nI 19) (by decide +kernel) ?_
  refine aw_iald (j := 19) kc_5 (vp_in_nI (by decide) (by decide)) (nI_clamp (by decide)) d_H_letComersEnter_20 ?_
  refine aw_top (x2 := nI 0) (f0 19 (by omega)) ?_
  refine aw_istore_n (lv2 := [.ref 1, .int (nI 16), .int (nI 0)]) rfl (by decide) rfl d_H_letComersEnter_21 ?_
  refine aw_iload_n rfl rfl d_H_letComersEnter_22 ?_
  refine aw_if_leI (tgt := 64) (0) (by decide +kernel) (by decide) d_H_letComersEnter_23 (fun _ => ?_) (fun q => absurd q (by decide))
  refine aw_iinc (v := nI 20) (lv2 := [.ref 1, .int (nI 20), .int (nI 0)]) rfl (by decide +kernel) (by decide) rfl d_H_letComersEnter_64 ?_
  refine aw_goto (tgt := 2) (by decide) d_H_letComersEnter_67 ?_
  refine aw_iload_n rfl rfl d_H_letComersEnter_2 ?_
  refine aw_iconst (v := nI 3) ci_3 d_H_letComersEnter_3 ?_
  refine aw_iadd d_H_letComersEnter_4 ?_
  refine aw_top (x2 := nI 23) (by decide +kernel) ?_
  refine aw_aload_n rfl rfl d_H_letComersEnter_5 ?_
  refine aw_getr fl_H_24 kc_1 (by decide) rfl rc_1_3 d_H_letComersEnter_6 ?_
  refine aw_alen kc_5 (by decide) d_H_letComersEnter_9 ?_
  refine aw_icmp_geI (tgt := 70) (23) (32) (by decide +kernel) (by decide +kernel) (by decide) d_H_letComersEnter_10 (fun q => absurd q (by decide)) (fun _ => ?_)
  refine aw_aload_n rfl rfl d_H_letComersEnter_13 ?_
  refine aw_getr fl_H_24 kc_1 (by decide) rfl rc_1_3 d_H_letComersEnter_14 ?_
  refine aw_iload_n rfl rfl d_H_letComersEnter_17 ?_
  refine aw_iconst (v := nI 3) ci_3 d_H_letComersEnter_18 ?_
  refine aw_iadd d_H_letComersEnter_19 ?_
  refine aw_top (x2 := nI 23) (by decide +kernel) ?_
  refine aw_iald (j := 23) kc_5 (vp_in_nI (by decide) (by decide)) (nI_clamp (by decide)) d_H_letComersEnter_20 ?_
  refine aw_top (x2 := nI 0) (f0 23 (by omega)) ?_
  refine aw_istore_n (lv2 := [.ref 1, .int (nI 20), .int (nI 0)]) rfl (by decide) rfl d_H_letComersEnter_21 ?_
  refine aw_iload_n rfl rfl d_H_letComersEnter_22 ?_
  refine aw_if_leI (tgt := 64) (0) (by decide +kernel) (by decide) d_H_letComersEnter_23 (fun _ => ?_) (fun q => absurd q (by decide))
  refine aw_iinc (v := nI 24) (lv2 := [.ref 1, .int (nI 24), .int (nI 0)]) rfl (by decide +kernel) (by decide) rfl d_H_letComersEnter_64 ?_
  refine aw_goto (tgt := 2) (by decide) d_H_letComersEnter_67 ?_
  refine aw_iload_n rfl rfl d_H_letComersEnter_2 ?_
  refine aw_iconst (v := nI 3) ci_3 d_H_letComersEnter_3 ?_
  refine aw_iadd d_H_letComersEnter_4 ?_
  refine aw_top (x2 := nI 27) (by decide +kernel) ?_
  refine aw_aload_n rfl rfl d_H_letComersEnter_5 ?_
  refine aw_getr fl_H_24 kc_1 (by decide) rfl rc_1_3 d_H_letComersEnter_6 ?_
  refine aw_alen kc_5 (by decide) d_H_letComersEnter_9 ?_
  refine aw_icmp_geI (tgt := 70) (27) (32) (by decide +kernel) (by decide +kernel) (by decide) d_H_letComersEnter_10 (fun q => absurd q (by decide)) (fun _ => ?_)
  refine aw_aload_n rfl rfl d_H_letComersEnter_13 ?_
  refine aw_getr fl_H_24 kc_1 (by decide) rfl rc_1_3 d_H_letComersEnter_14 ?_
  refine aw_iload_n rfl rfl d_H_letComersEnter_17 ?_
  refine aw_iconst (v := nI 3) ci_3 d_H_letComersEnter_18 ?_
  refine aw_iadd d_H_letComersEnter_19 ?_
  refine aw_top (x2 := nI 27) (by decide +kernel) ?_
  refine aw_iald (j := 27) kc_5 (vp_in_nI (by decide) (by decide)) (nI_clamp (by decide)) d_H_letComersEnter_20 ?_
  refine aw_top (x2 := nI 0) (f0 27 (by omega)) ?_
  refine aw_istore_n (lv2 := [.ref 1, .int (nI 24), .int (nI 0)]) rfl (by decide) rfl d_H_letComersEnter_21 ?_
  refine aw_iload_n rfl rfl d_H_letComersEnter_22 ?_
  refine aw_if_leI (tgt := 64) (0) (by decide +kernel) (by decide) d_H_letComersEnter_23 (fun _ => ?_) (fun q => absurd q (by decide))
  refine aw_iinc (v := nI 28) (lv2 := [.ref 1, .int (nI 28), .int (nI 0)]) rfl (by decide +kernel) (by decide) rfl d_H_letComersEnter_64 ?_
  refine aw_goto (tgt := 2) (by decide) d_H_letComersEnter_67 ?_
  refine aw_iload_n rfl rfl d_H_letComersEnter_2 ?_
  refine aw_iconst (v := nI 3) ci_3 d_H_letComersEnter_3 ?_
  refine aw_iadd d_H_letComersEnter_4 ?_
  refine aw_top (x2 := nI 31) (by decide +kernel) ?_
  refine aw_aload_n rfl rfl d_H_letComersEnter_5 ?_
  refine aw_getr fl_H_24 kc_1 (by decide) rfl rc_1_3 d_H_letComersEnter_6 ?_
  refine aw_alen kc_5 (by decide) d_H_letComersEnter_9 ?_
  refine aw_icmp_geI (tgt := 70) (31) (32) (by decide +kernel) (by decide +kernel) (by decide) d_H_letComersEnter_10 (fun q => absurd q (by decide)) (fun _ => ?_)
  refine aw_aload_n rfl rfl d_H_letComersEnter_13 ?_
  refine aw_getr fl_H_24 kc_1 (by decide) rfl rc_1_3 d_H_letComersEnter_14 ?_
  refine aw_iload_n rfl rfl d_H_letComersEnter_17 ?_
  refine aw_iconst (v := nI 3) ci_3 d_H_letComersEnter_18 ?_
  refine aw_iadd d_H_letComersEnter_19 ?_
  refine aw_top (x2 := nI 31) (by decide +kernel) ?_
  refine aw_iald (j := 31) kc_5 (vp_in_nI (by decide) (by decide)) (nI_clamp (by decide)) d_H_letComersEnter_20 ?_
  refine aw_top (x2 := nI 0) (f0 31 (by omega)) ?_
  refine aw_istore_n (lv2 := [.ref 1, .int (nI 28), .int (nI 0)]) rfl (by decide) rfl d_H_letComersEnter_21 ?_
  refine aw_iload_n rfl rfl d_H_letComersEnter_22 ?_
  refine aw_if_leI (tgt := 64) (0) (by decide +kernel) (by decide) d_H_letComersEnter_23 (fun _ => ?_) (fun q => absurd q (by decide))
  refine aw_iinc (v := nI 32) (lv2 := [.ref 1, .int (nI 32), .int (nI 0)]) rfl (by decide +kernel) (by decide) rfl d_H_letComersEnter_64 ?_
  refine aw_goto (tgt := 2) (by decide) d_H_letComersEnter_67 ?_
  refine aw_iload_n rfl rfl d_H_letComersEnter_2 ?_
  refine aw_iconst (v := nI 3) ci_3 d_H_letComersEnter_3 ?_
  refine aw_iadd d_H_letComersEnter_4 ?_
  refine aw_top (x2 := nI 35) (by decide +kernel) ?_
  refine aw_aload_n rfl rfl d_H_letComersEnter_5 ?_
  refine aw_getr fl_H_24 kc_1 (by decide) rfl rc_1_3 d_H_letComersEnter_6 ?_
  refine aw_alen kc_5 (by decide) d_H_letComersEnter_9 ?_
  refine aw_icmp_geI (tgt := 70) (35) (32) (by decide +kernel) (by decide +kernel) (by decide) d_H_letComersEnter_10 (fun _ => ?_) (fun q => absurd q (by decide))
  exact as_retv rfl d_H_letComersEnter_70 hK
set_option maxRecDepth 20000 in
theorem lp_turns_130 {K2 : K2T} {I0 : Nat → Nat → Int32} {s ru e k n0 : Nat} (hn0 : n0 ≤ 60) (hb : e + 600 < 100000 ∧ k + 60 < 100000) (hK : ∀ I', FH 1 I' s ru (e + n0 * s) (k + n0) → (∀ q, (q < 1 ∨ 41 < q) ∧ (q < 130 ∨ 136 < q) → I' q = I0 q) → K2 (some (.int (nI 0))) I') : ∀ (n i : Nat) (I : Nat → Nat → Int32), i + n = n0 → FH 1 I s ru (e + i * s) (k + i) → (∀ q, (q < 1 ∨ 41 < q) ∧ (q < 130 ∨ 136 < q) → I q = I0 q) → As l b 6 y_C_turns KC RC K2 (I) 5 [.ref 130, .ref 1, .int (nI (n0)), .int (nI 0), .int (nI (i))] [] := by
  intro n
  induction n with
  | zero =>
    intro i I hi hF hfr
    have hF0 := hF
    obtain ⟨f0, f1, f2, f3, f4, f5, f6, f7, f8, f9, f10, f11, f12, f13, fb⟩ := hF
    have f0 : ∀ j, j < 32 → I 5 j = nI 0 := f0
    have f1 : ∀ j, j < 6 → I 9 j = nI 0 := f1
    have f2 : ∀ j, j < 6 → I 10 j = nI 9 := f2
    have f3 : I 2 0 = nI (s) := f3
    have f4 : I 2 3 = nI 0 := f4
    have f5 : I 2 5 = nI (ru) := f5
    have f6 : I 11 1 = nI ((e + i * s)) := f6
    have f7 : I 11 0 = nI ((k + i)) := f7
    have f8 : ∀ j, j < 40 → j ≠ 0 → j ≠ 1 → j ≠ 3 → I 11 j = nI 0 := f8
    have f9 : I 16 4 = nI 0 := f9
    have f10 : I 21 4 = nI 0 := f10
    have f11 : I 26 4 = nI 0 := f11
    have f12 : I 31 4 = nI 0 := f12
    have f13 : I 36 4 = nI 0 := f13
    have hbi : i * s ≤ 60 * 9 := Nat.mul_le_mul (by omega) (by omega)
    refine aw_iload rfl d_C_turns_5 ?_
    refine aw_iload_n rfl rfl d_C_turns_7 ?_
    refine aw_icmp_geI (tgt := 34) ((i : Nat) : Int) ((n0 : Nat) : Int) (nI_toInt (by omega)) (nI_toInt (by omega)) (by decide) d_C_turns_8 (fun _ => ?_) (fun q => absurd q (by omega))
    refine aw_iload_n rfl rfl d_C_turns_34 ?_
    exact as_reti rfl d_C_turns_35 (hK _ (by rw [show n0 = i by omega]; exact hF0) hfr)
  | succ n ih =>
    intro i I hi hF hfr
    have hF0 := hF
    obtain ⟨f0, f1, f2, f3, f4, f5, f6, f7, f8, f9, f10, f11, f12, f13, fb⟩ := hF
    have f0 : ∀ j, j < 32 → I 5 j = nI 0 := f0
    have f1 : ∀ j, j < 6 → I 9 j = nI 0 := f1
    have f2 : ∀ j, j < 6 → I 10 j = nI 9 := f2
    have f3 : I 2 0 = nI (s) := f3
    have f4 : I 2 3 = nI 0 := f4
    have f5 : I 2 5 = nI (ru) := f5
    have f6 : I 11 1 = nI ((e + i * s)) := f6
    have f7 : I 11 0 = nI ((k + i)) := f7
    have f8 : ∀ j, j < 40 → j ≠ 0 → j ≠ 1 → j ≠ 3 → I 11 j = nI 0 := f8
    have f9 : I 16 4 = nI 0 := f9
    have f10 : I 21 4 = nI 0 := f10
    have f11 : I 26 4 = nI 0 := f11
    have f12 : I 31 4 = nI 0 := f12
    have f13 : I 36 4 = nI 0 := f13
    have hbi : i * s ≤ 60 * 9 := Nat.mul_le_mul (by omega) (by omega)
    refine aw_iload rfl d_C_turns_5 ?_
    refine aw_iload_n rfl rfl d_C_turns_7 ?_
    refine aw_icmp_geI (tgt := 34) ((i : Nat) : Int) ((n0 : Nat) : Int) (nI_toInt (by omega)) (nI_toInt (by omega)) (by decide) d_C_turns_8 (fun q => absurd q (by omega)) (fun _ => ?_)
    refine aw_aload_n rfl rfl d_C_turns_11 ?_
    refine as_callV (as := []) (d' := 2) (q := ("SinglesUp$Hill", zT2, 14)) mo_H_letComersEnter lk_C_53 kc_1 rfl rfl rfl ⟨by decide, by decide⟩ rfl rfl (by decide) d_C_turns_12 (sp_comers_1 (I := I) f0 ?_)
    refine (show As l b 6 y_C_turns KC RC K2 (I) 15 [.ref 130, .ref 1, .int (nI (n0)), .int (nI 0), .int (nI (i))] [] from ?_)
    refine aw_aload_n rfl rfl d_C_turns_15 ?_
    refine aw_aload_n rfl rfl d_C_turns_16 ?_
    refine as_callV (as := [.ref 1]) (d' := 3) (q := ("SinglesUp$Chair", zT0, 12)) mo_C_fill lk_C_58 kc_130 rfl rfl rfl ⟨by decide, by decide⟩ rfl rfl (by decide) d_C_turns_17 (sp_fill_130 (I := I) (s := s) (ru := ru) (e := (e + i * s)) (k := (k + i)) hF0 (fun I1 hF2 g4a g4b g4c fr3 => ?_))
    have hF := hF2
    obtain ⟨f0, f1, f2, f3, f4, f5, f6, f7, f8, f9, f10, f11, f12, f13, fb⟩ := hF
    have f0 : ∀ j, j < 32 → I1 5 j = nI 0 := f0
    have f1 : ∀ j, j < 6 → I1 9 j = nI 0 := f1
    have f2 : ∀ j, j < 6 → I1 10 j = nI 9 := f2
    have f3 : I1 2 0 = nI (s) := f3
    have f4 : I1 2 3 = nI 0 := f4
    have f5 : I1 2 5 = nI (ru) := f5
    have f6 : I1 11 1 = nI ((e + i * s)) := f6
    have f7 : I1 11 0 = nI ((k + i)) := f7
    have f8 : ∀ j, j < 40 → j ≠ 0 → j ≠ 1 → j ≠ 3 → I1 11 j = nI 0 := f8
    have f9 : I1 16 4 = nI 0 := f9
    have f10 : I1 21 4 = nI 0 := f10
    have f11 : I1 26 4 = nI 0 := f11
    have f12 : I1 31 4 = nI 0 := f12
    have f13 : I1 36 4 = nI 0 := f13
    refine (show As l b 6 y_C_turns KC RC K2 (I1) 20 [.ref 130, .ref 1, .int (nI (n0)), .int (nI 0), .int (nI (i))] [] from ?_)
    refine aw_iload_n rfl rfl d_C_turns_20 ?_
    refine aw_aload_n rfl rfl d_C_turns_21 ?_
    refine aw_aload_n rfl rfl d_C_turns_22 ?_
    refine as_callV (as := [.ref 1]) (d' := 4) (q := ("SinglesUp$Chair", zT0, 12)) mo_C_leave lk_C_61 kc_130 rfl rfl rfl ⟨by decide, by decide⟩ rfl rfl (by decide) d_C_turns_23 (sp_leave_130 (I := I1) (s := s) (ru := ru) (e := (e + i * s)) (k := (k + i)) hF2 g4a g4b g4c (by omega) (fun I5 hF6 fr7 => ?_))
    have hF := hF6
    obtain ⟨f0, f1, f2, f3, f4, f5, f6, f7, f8, f9, f10, f11, f12, f13, fb⟩ := hF
    have f0 : ∀ j, j < 32 → I5 5 j = nI 0 := f0
    have f1 : ∀ j, j < 6 → I5 9 j = nI 0 := f1
    have f2 : ∀ j, j < 6 → I5 10 j = nI 9 := f2
    have f3 : I5 2 0 = nI (s) := f3
    have f4 : I5 2 3 = nI 0 := f4
    have f5 : I5 2 5 = nI (ru) := f5
    have f6 : I5 11 1 = nI (((e + i * s) + s)) := f6
    have f7 : I5 11 0 = nI (((k + i) + 1)) := f7
    have f8 : ∀ j, j < 40 → j ≠ 0 → j ≠ 1 → j ≠ 3 → I5 11 j = nI 0 := f8
    have f9 : I5 16 4 = nI 0 := f9
    have f10 : I5 21 4 = nI 0 := f10
    have f11 : I5 26 4 = nI 0 := f11
    have f12 : I5 31 4 = nI 0 := f12
    have f13 : I5 36 4 = nI 0 := f13
    refine (show As l b 6 y_C_turns KC RC K2 (I5) 26 [.ref 130, .ref 1, .int (nI (n0)), .int (nI 0), .int (nI (i))] [.int (nI 0), .int (nI 0)] from ?_)
    refine aw_iadd d_C_turns_26 ?_
    refine aw_top (x2 := nI 0) (by decide +kernel) ?_
    refine aw_istore_n (lv2 := [.ref 130, .ref 1, .int (nI (n0)), .int (nI 0), .int (nI (i))]) rfl (by decide) rfl d_C_turns_27 ?_
    refine aw_iinc (v := nI (i + 1)) (lv2 := [.ref 130, .ref 1, .int (nI (n0)), .int (nI 0), .int (nI (i + 1))]) rfl (inc_1 _) (by decide) rfl d_C_turns_28 ?_
    refine aw_goto (tgt := 5) (by decide) d_C_turns_31 ?_
    exact ih (i + 1) _ (by omega) (by rw [show e + (i + 1) * s = e + i * s + s by rw [Nat.succ_mul]; omega, show k + (i + 1) = k + i + 1 by omega]; exact hF6) (fun q hq => ((fun q hq => (fr7 q hq).trans (fr3 q hq)) q hq).trans (hfr q hq))
set_option maxRecDepth 20000 in
theorem sp_turns_130 {K2 : K2T} {I : Nat → Nat → Int32} {s ru e k n0 : Nat} (hF : FH 1 I s ru e k) (hn0 : n0 ≤ 60) (hb : e + 600 < 100000 ∧ k + 60 < 100000) (hK : ∀ I', FH 1 I' s ru (e + n0 * s) (k + n0) → (∀ q, (q < 1 ∨ 41 < q) ∧ (q < 130 ∨ 136 < q) → I' q = I q) → K2 (some (.int (nI 0))) I') : Ss l b 6 y_C_turns KC RC [.ref 130, .ref 1, .int (nI (n0))] (I) K2 := by
  refine Ss.of (show As l b 6 y_C_turns KC RC K2 (I) 0 [.ref 130, .ref 1, .int (nI (n0)), uu, uu] [] from ?_)
  refine aw_iconst (v := nI 0) ci_0 d_C_turns_0 ?_
  refine aw_istore_n (lv2 := [.ref 130, .ref 1, .int (nI (n0)), .int (nI 0), uu]) rfl (by decide) rfl d_C_turns_1 ?_
  refine aw_iconst (v := nI 0) ci_0 d_C_turns_2 ?_
  refine aw_istore (lv2 := [.ref 130, .ref 1, .int (nI (n0)), .int (nI 0), .int (nI 0)]) (by decide) rfl d_C_turns_3 ?_
  exact lp_turns_130 hn0 hb hK n0 0 I (by omega) (by rw [Nat.zero_mul]; exact hF) (fun _ _ => rfl)
end
