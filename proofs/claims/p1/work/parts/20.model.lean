/-! the reference: a chair with nobody -/
abbrev y_X_begins : MI := (⟨"SinglesUpModel", "begins", "()V"⟩, prog_11_method_47_code, 2, none)
theorem d_X_begins_2 : decode y_X_begins.2.1 2 = .ok (.iload_n 1, 1) := by decide +kernel
theorem d_X_begins_3 : decode y_X_begins.2.1 3 = .ok (.sipush 240, 3) := by decide +kernel
theorem cs_240 : (Int16.ofInt 240).toInt32 = nI 240 := by decide +kernel
theorem d_X_begins_6 : decode y_X_begins.2.1 6 = .ok (.if_icmp .ge 23, 3) := by decide +kernel
theorem d_X_begins_9 : decode y_X_begins.2.1 9 = .ok (.aload_n 0, 1) := by decide +kernel
theorem d_X_begins_10 : decode y_X_begins.2.1 10 = .ok (.getfield 44, 3) := by decide +kernel
theorem fl_X_44 : FL "SinglesUpModel" 44 9 25 := ⟨"SinglesUpModel", zT9, 51, rfl, by decide, rfl, Or.inl (tw_in 1174 (by decide +kernel) rfl)⟩
theorem km_0 : KM[0]? = some (12, 51) := by decide +kernel
theorem rm_0_25 : RM 0 25 = some 9 := by decide +kernel
theorem d_X_begins_13 : decode y_X_begins.2.1 13 = .ok (.iload_n 1, 1) := by decide +kernel
theorem d_X_begins_14 : decode y_X_begins.2.1 14 = .ok (.iconst 0, 1) := by decide +kernel
theorem d_X_begins_15 : decode y_X_begins.2.1 15 = .ok (.iastore, 1) := by decide +kernel
theorem km_9 : KM[9]? = some (0, 240) := by decide +kernel
theorem d_X_begins_16 : decode y_X_begins.2.1 16 = .ok (.aload_n 0, 1) := by decide +kernel
theorem d_X_begins_17 : decode y_X_begins.2.1 17 = .ok (.getfield 53, 3) := by decide +kernel
theorem fl_X_53 : FL "SinglesUpModel" 53 9 28 := ⟨"SinglesUpModel", zT9, 51, rfl, by decide, rfl, Or.inl (tw_in 1177 (by decide +kernel) rfl)⟩
theorem rm_0_28 : RM 0 28 = some 12 := by decide +kernel
theorem d_X_begins_20 : decode y_X_begins.2.1 20 = .ok (.iload_n 1, 1) := by decide +kernel
theorem d_X_begins_21 : decode y_X_begins.2.1 21 = .ok (.iconst 0, 1) := by decide +kernel
theorem d_X_begins_22 : decode y_X_begins.2.1 22 = .ok (.bastore, 1) := by decide +kernel
theorem km_12 : KM[12]? = some (1, 240) := by decide +kernel
theorem d_X_begins_23 : decode y_X_begins.2.1 23 = .ok (.iinc 1 1, 3) := by decide +kernel
theorem d_X_begins_26 : decode y_X_begins.2.1 26 = .ok (.goto (-24), 3) := by decide +kernel
theorem d_X_begins_29 : decode y_X_begins.2.1 29 = .ok (.aload_n 0, 1) := by decide +kernel
theorem d_X_begins_30 : decode y_X_begins.2.1 30 = .ok (.aload_n 0, 1) := by decide +kernel
theorem d_X_begins_31 : decode y_X_begins.2.1 31 = .ok (.getfield 7, 3) := by decide +kernel
theorem fl_X_7 : FL "SinglesUpModel" 7 9 0 := ⟨"SinglesUpModel", zT9, 51, rfl, by decide, rfl, Or.inl (tw_in 1149 (by decide +kernel) rfl)⟩
theorem rm_0_0 : RM 0 0 = some 1 := by decide +kernel
theorem d_X_begins_34 : decode y_X_begins.2.1 34 = .ok (.iconst 1, 1) := by decide +kernel
theorem d_X_begins_35 : decode y_X_begins.2.1 35 = .ok (.iaload, 1) := by decide +kernel
theorem km_1 : KM[1]? = some (0, 6190) := by decide +kernel
theorem d_X_begins_36 : decode y_X_begins.2.1 36 = .ok (.putfield 289, 3) := by decide +kernel
theorem fl_X_289 : FL "SinglesUpModel" 289 9 30 := ⟨"SinglesUpModel", zT9, 51, rfl, by decide, rfl, Or.inl (tw_in 1179 (by decide +kernel) rfl)⟩
theorem d_X_begins_39 : decode y_X_begins.2.1 39 = .ok (.aload_n 0, 1) := by decide +kernel
theorem d_X_begins_40 : decode y_X_begins.2.1 40 = .ok (.iconst 0, 1) := by decide +kernel
theorem d_X_begins_41 : decode y_X_begins.2.1 41 = .ok (.putfield 291, 3) := by decide +kernel
theorem fl_X_291 : FL "SinglesUpModel" 291 9 31 := ⟨"SinglesUpModel", zT9, 51, rfl, by decide, rfl, Or.inl (tw_in 1180 (by decide +kernel) rfl)⟩
theorem d_X_begins_44 : decode y_X_begins.2.1 44 = .ok (.aload_n 0, 1) := by decide +kernel
theorem d_X_begins_45 : decode y_X_begins.2.1 45 = .ok (.iconst 0, 1) := by decide +kernel
theorem d_X_begins_46 : decode y_X_begins.2.1 46 = .ok (.putfield 293, 3) := by decide +kernel
theorem fl_X_293 : FL "SinglesUpModel" 293 9 32 := ⟨"SinglesUpModel", zT9, 51, rfl, by decide, rfl, Or.inl (tw_in 1181 (by decide +kernel) rfl)⟩
theorem d_X_begins_49 : decode y_X_begins.2.1 49 = .ok (.aload_n 0, 1) := by decide +kernel
theorem d_X_begins_50 : decode y_X_begins.2.1 50 = .ok (.iconst 0, 1) := by decide +kernel
theorem d_X_begins_51 : decode y_X_begins.2.1 51 = .ok (.putfield 296, 3) := by decide +kernel
theorem fl_X_296 : FL "SinglesUpModel" 296 9 33 := ⟨"SinglesUpModel", zT9, 51, rfl, by decide, rfl, Or.inl (tw_in 1182 (by decide +kernel) rfl)⟩
theorem d_X_begins_54 : decode y_X_begins.2.1 54 = .ok (.aload_n 0, 1) := by decide +kernel
theorem d_X_begins_55 : decode y_X_begins.2.1 55 = .ok (.iconst 0, 1) := by decide +kernel
theorem d_X_begins_56 : decode y_X_begins.2.1 56 = .ok (.putfield 299, 3) := by decide +kernel
theorem fl_X_299 : FL "SinglesUpModel" 299 9 34 := ⟨"SinglesUpModel", zT9, 51, rfl, by decide, rfl, Or.inl (tw_in 1183 (by decide +kernel) rfl)⟩
theorem d_X_begins_59 : decode y_X_begins.2.1 59 = .ok (.return_, 1) := by decide +kernel
theorem d_X_begins_0 : decode y_X_begins.2.1 0 = .ok (.iconst 0, 1) := by decide +kernel
theorem d_X_begins_1 : decode y_X_begins.2.1 1 = .ok (.istore_n 1, 1) := by decide +kernel
abbrev y_X_forgets : MI := (⟨"SinglesUpModel", "forgets", "()V"⟩, prog_11_method_63_code, 2, none)
theorem d_X_forgets_2 : decode y_X_forgets.2.1 2 = .ok (.iload_n 1, 1) := by decide +kernel
theorem d_X_forgets_3 : decode y_X_forgets.2.1 3 = .ok (.sipush 240, 3) := by decide +kernel
theorem d_X_forgets_6 : decode y_X_forgets.2.1 6 = .ok (.if_icmp .ge 16, 3) := by decide +kernel
theorem d_X_forgets_22 : decode y_X_forgets.2.1 22 = .ok (.aload_n 0, 1) := by decide +kernel
theorem d_X_forgets_23 : decode y_X_forgets.2.1 23 = .ok (.iconst 0, 1) := by decide +kernel
theorem d_X_forgets_24 : decode y_X_forgets.2.1 24 = .ok (.putfield 344, 3) := by decide +kernel
theorem fl_X_344 : FL "SinglesUpModel" 344 9 35 := ⟨"SinglesUpModel", zT9, 51, rfl, by decide, rfl, Or.inl (tw_in 1184 (by decide +kernel) rfl)⟩
theorem d_X_forgets_27 : decode y_X_forgets.2.1 27 = .ok (.return_, 1) := by decide +kernel
theorem d_X_forgets_9 : decode y_X_forgets.2.1 9 = .ok (.aload_n 0, 1) := by decide +kernel
theorem d_X_forgets_10 : decode y_X_forgets.2.1 10 = .ok (.getfield 57, 3) := by decide +kernel
theorem fl_X_57 : FL "SinglesUpModel" 57 9 29 := ⟨"SinglesUpModel", zT9, 51, rfl, by decide, rfl, Or.inl (tw_in 1178 (by decide +kernel) rfl)⟩
theorem rm_0_29 : RM 0 29 = some 13 := by decide +kernel
theorem d_X_forgets_13 : decode y_X_forgets.2.1 13 = .ok (.iload_n 1, 1) := by decide +kernel
theorem d_X_forgets_14 : decode y_X_forgets.2.1 14 = .ok (.iconst 0, 1) := by decide +kernel
theorem d_X_forgets_15 : decode y_X_forgets.2.1 15 = .ok (.bastore, 1) := by decide +kernel
theorem km_13 : KM[13]? = some (1, 240) := by decide +kernel
theorem d_X_forgets_16 : decode y_X_forgets.2.1 16 = .ok (.iinc 1 1, 3) := by decide +kernel
theorem d_X_forgets_19 : decode y_X_forgets.2.1 19 = .ok (.goto (-17), 3) := by decide +kernel
theorem d_X_forgets_0 : decode y_X_forgets.2.1 0 = .ok (.iconst 0, 1) := by decide +kernel
theorem d_X_forgets_1 : decode y_X_forgets.2.1 1 = .ok (.istore_n 1, 1) := by decide +kernel
abbrev y_X_chair : MI := (⟨"SinglesUpModel", "chair", "()I"⟩, prog_11_method_57_code, 1, some .int)
theorem d_X_chair_0 : decode y_X_chair.2.1 0 = .ok (.aload_n 0, 1) := by decide +kernel
theorem d_X_chair_1 : decode y_X_chair.2.1 1 = .ok (.invokevirtual 332, 3) := by decide +kernel
abbrev y_X_fills : MI := (⟨"SinglesUpModel", "fills", "()V"⟩, prog_11_method_54_code, 4, none)
theorem lk_X_332 : LkV "SinglesUpModel" 332 y_X_fills := ⟨tw_in 1501 (by decide +kernel) rfl, tw_in 65 (by decide +kernel) rfl, Or.inl (tw_in 1499 (by decide +kernel) rfl)⟩
theorem mo_X_fills : MOk y_X_fills 0 := ⟨by decide +kernel, tw_in 1502 (by decide +kernel) rfl, tw_in 108 (by decide +kernel) rfl, by decide +kernel, by decide +kernel, by decide +kernel⟩
theorem d_X_fills_0 : decode y_X_fills.2.1 0 = .ok (.aload_n 0, 1) := by decide +kernel
theorem d_X_fills_1 : decode y_X_fills.2.1 1 = .ok (.invokevirtual 315, 3) := by decide +kernel
theorem lk_X_315 : LkV "SinglesUpModel" 315 y_X_begins := ⟨tw_in 1505 (by decide +kernel) rfl, tw_in 66 (by decide +kernel) rfl, Or.inl (tw_in 1503 (by decide +kernel) rfl)⟩
theorem mo_X_begins : MOk y_X_begins 0 := ⟨by decide +kernel, tw_in 1506 (by decide +kernel) rfl, tw_in 108 (by decide +kernel) rfl, by decide +kernel, by decide +kernel, by decide +kernel⟩
theorem d_X_fills_4 : decode y_X_fills.2.1 4 = .ok (.aload_n 0, 1) := by decide +kernel
theorem d_X_fills_5 : decode y_X_fills.2.1 5 = .ok (.getfield 7, 3) := by decide +kernel
theorem d_X_fills_8 : decode y_X_fills.2.1 8 = .ok (.iconst 5, 1) := by decide +kernel
theorem d_X_fills_9 : decode y_X_fills.2.1 9 = .ok (.iaload, 1) := by decide +kernel
theorem d_X_fills_10 : decode y_X_fills.2.1 10 = .ok (.ifCond .le 11, 3) := by decide +kernel
theorem d_X_fills_21 : decode y_X_fills.2.1 21 = .ok (.iconst (-1), 1) := by decide +kernel
theorem d_X_fills_22 : decode y_X_fills.2.1 22 = .ok (.istore_n 1, 1) := by decide +kernel
theorem d_X_fills_23 : decode y_X_fills.2.1 23 = .ok (.iload_n 1, 1) := by decide +kernel
theorem d_X_fills_24 : decode y_X_fills.2.1 24 = .ok (.iconst (-1), 1) := by decide +kernel
theorem d_X_fills_25 : decode y_X_fills.2.1 25 = .ok (.if_icmp .ne 9, 3) := by decide +kernel
theorem d_X_fills_28 : decode y_X_fills.2.1 28 = .ok (.aload_n 0, 1) := by decide +kernel
theorem d_X_fills_29 : decode y_X_fills.2.1 29 = .ok (.iconst 0, 1) := by decide +kernel
theorem d_X_fills_30 : decode y_X_fills.2.1 30 = .ok (.invokevirtual 318, 3) := by decide +kernel
abbrev y_X_finds : MI := (⟨"SinglesUpModel", "finds", "(Z)I"⟩, prog_11_method_51_code, 7, some .int)
theorem lk_X_318 : LkV "SinglesUpModel" 318 y_X_finds := ⟨tw_in 1509 (by decide +kernel) rfl, tw_in 67 (by decide +kernel) rfl, Or.inl (tw_in 1507 (by decide +kernel) rfl)⟩
theorem mo_X_finds : MOk y_X_finds 1 := ⟨by decide +kernel, tw_in 1510 (by decide +kernel) rfl, tw_in 108 (by decide +kernel) rfl, by decide +kernel, by decide +kernel, by decide +kernel⟩
theorem d_X_finds_0 : decode y_X_finds.2.1 0 = .ok (.iconst (-1), 1) := by decide +kernel
theorem d_X_finds_1 : decode y_X_finds.2.1 1 = .ok (.istore_n 2, 1) := by decide +kernel
theorem d_X_finds_2 : decode y_X_finds.2.1 2 = .ok (.iconst 0, 1) := by decide +kernel
theorem d_X_finds_3 : decode y_X_finds.2.1 3 = .ok (.istore_n 3, 1) := by decide +kernel
theorem d_X_finds_4 : decode y_X_finds.2.1 4 = .ok (.iconst 0, 1) := by decide +kernel
theorem d_X_finds_5 : decode y_X_finds.2.1 5 = .ok (.istore 4, 2) := by decide +kernel
theorem d_X_finds_7 : decode y_X_finds.2.1 7 = .ok (.iload 4, 2) := by decide +kernel
theorem d_X_finds_9 : decode y_X_finds.2.1 9 = .ok (.bipush 6, 2) := by decide +kernel
theorem d_X_finds_11 : decode y_X_finds.2.1 11 = .ok (.if_icmp .ge 135, 3) := by decide +kernel
theorem d_X_finds_14 : decode y_X_finds.2.1 14 = .ok (.iconst 0, 1) := by decide +kernel
theorem d_X_finds_15 : decode y_X_finds.2.1 15 = .ok (.istore 5, 2) := by decide +kernel
theorem d_X_finds_17 : decode y_X_finds.2.1 17 = .ok (.iload 5, 2) := by decide +kernel
theorem d_X_finds_19 : decode y_X_finds.2.1 19 = .ok (.aload_n 0, 1) := by decide +kernel
theorem d_X_finds_20 : decode y_X_finds.2.1 20 = .ok (.getfield 7, 3) := by decide +kernel
theorem d_X_finds_23 : decode y_X_finds.2.1 23 = .ok (.sipush 130, 3) := by decide +kernel
theorem cs_130 : (Int16.ofInt 130).toInt32 = nI 130 := by decide +kernel
theorem d_X_finds_26 : decode y_X_finds.2.1 26 = .ok (.iload 4, 2) := by decide +kernel
theorem d_X_finds_28 : decode y_X_finds.2.1 28 = .ok (.iadd, 1) := by decide +kernel
theorem d_X_finds_29 : decode y_X_finds.2.1 29 = .ok (.iaload, 1) := by decide +kernel
theorem d_X_finds_30 : decode y_X_finds.2.1 30 = .ok (.if_icmp .ge 110, 3) := by decide +kernel
theorem d_X_finds_140 : decode y_X_finds.2.1 140 = .ok (.iinc 4 1, 3) := by decide +kernel
theorem d_X_finds_143 : decode y_X_finds.2.1 143 = .ok (.goto (-136), 3) := by decide +kernel
theorem d_X_finds_146 : decode y_X_finds.2.1 146 = .ok (.iload_n 2, 1) := by decide +kernel
theorem d_X_finds_147 : decode y_X_finds.2.1 147 = .ok (.ireturn, 1) := by decide +kernel
theorem d_X_fills_33 : decode y_X_fills.2.1 33 = .ok (.istore_n 1, 1) := by decide +kernel
theorem d_X_fills_34 : decode y_X_fills.2.1 34 = .ok (.iload_n 1, 1) := by decide +kernel
theorem d_X_fills_35 : decode y_X_fills.2.1 35 = .ok (.iconst (-1), 1) := by decide +kernel
theorem d_X_fills_36 : decode y_X_fills.2.1 36 = .ok (.if_icmp .ne 6, 3) := by decide +kernel
theorem d_X_fills_39 : decode y_X_fills.2.1 39 = .ok (.goto 84, 3) := by decide +kernel
theorem d_X_fills_123 : decode y_X_fills.2.1 123 = .ok (.aload_n 0, 1) := by decide +kernel
theorem d_X_fills_124 : decode y_X_fills.2.1 124 = .ok (.invokevirtual 322, 3) := by decide +kernel
abbrev y_X_parts0 : MI := (⟨"SinglesUpModel", "parts0", "()V"⟩, prog_11_method_53_code, 4, none)
theorem lk_X_322 : LkV "SinglesUpModel" 322 y_X_parts0 := ⟨tw_in 1525 (by decide +kernel) rfl, tw_in 71 (by decide +kernel) rfl, Or.inl (tw_in 1523 (by decide +kernel) rfl)⟩
theorem mo_X_parts0 : MOk y_X_parts0 0 := ⟨by decide +kernel, tw_in 1526 (by decide +kernel) rfl, tw_in 108 (by decide +kernel) rfl, by decide +kernel, by decide +kernel, by decide +kernel⟩
theorem d_X_parts0_0 : decode y_X_parts0.2.1 0 = .ok (.iconst 0, 1) := by decide +kernel
theorem d_X_parts0_1 : decode y_X_parts0.2.1 1 = .ok (.istore_n 1, 1) := by decide +kernel
theorem d_X_parts0_2 : decode y_X_parts0.2.1 2 = .ok (.iload_n 1, 1) := by decide +kernel
theorem d_X_parts0_3 : decode y_X_parts0.2.1 3 = .ok (.bipush 6, 2) := by decide +kernel
theorem d_X_parts0_5 : decode y_X_parts0.2.1 5 = .ok (.if_icmp .ge 128, 3) := by decide +kernel
theorem d_X_parts0_8 : decode y_X_parts0.2.1 8 = .ok (.aload_n 0, 1) := by decide +kernel
theorem d_X_parts0_9 : decode y_X_parts0.2.1 9 = .ok (.getfield 296, 3) := by decide +kernel
theorem d_X_parts0_12 : decode y_X_parts0.2.1 12 = .ok (.ifCond .ne 121, 3) := by decide +kernel
theorem d_X_parts0_15 : decode y_X_parts0.2.1 15 = .ok (.iconst 0, 1) := by decide +kernel
theorem d_X_parts0_16 : decode y_X_parts0.2.1 16 = .ok (.istore_n 2, 1) := by decide +kernel
theorem d_X_parts0_17 : decode y_X_parts0.2.1 17 = .ok (.iload_n 2, 1) := by decide +kernel
theorem d_X_parts0_18 : decode y_X_parts0.2.1 18 = .ok (.aload_n 0, 1) := by decide +kernel
theorem d_X_parts0_19 : decode y_X_parts0.2.1 19 = .ok (.getfield 7, 3) := by decide +kernel
theorem d_X_parts0_22 : decode y_X_parts0.2.1 22 = .ok (.sipush 130, 3) := by decide +kernel
theorem d_X_parts0_25 : decode y_X_parts0.2.1 25 = .ok (.iload_n 1, 1) := by decide +kernel
theorem d_X_parts0_26 : decode y_X_parts0.2.1 26 = .ok (.iadd, 1) := by decide +kernel
theorem d_X_parts0_27 : decode y_X_parts0.2.1 27 = .ok (.iaload, 1) := by decide +kernel
theorem d_X_parts0_28 : decode y_X_parts0.2.1 28 = .ok (.if_icmp .ge 99, 3) := by decide +kernel
theorem d_X_parts0_127 : decode y_X_parts0.2.1 127 = .ok (.iinc 1 1, 3) := by decide +kernel
theorem d_X_parts0_130 : decode y_X_parts0.2.1 130 = .ok (.goto (-128), 3) := by decide +kernel
theorem d_X_parts0_133 : decode y_X_parts0.2.1 133 = .ok (.return_, 1) := by decide +kernel
theorem d_X_fills_127 : decode y_X_fills.2.1 127 = .ok (.return_, 1) := by decide +kernel
theorem d_X_chair_4 : decode y_X_chair.2.1 4 = .ok (.aload_n 0, 1) := by decide +kernel
theorem d_X_chair_5 : decode y_X_chair.2.1 5 = .ok (.invokevirtual 335, 3) := by decide +kernel
abbrev y_X_goesOff : MI := (⟨"SinglesUpModel", "goesOff", "()I"⟩, prog_11_method_55_code, 7, some .int)
theorem lk_X_335 : LkV "SinglesUpModel" 335 y_X_goesOff := ⟨tw_in 1533 (by decide +kernel) rfl, tw_in 73 (by decide +kernel) rfl, Or.inl (tw_in 1531 (by decide +kernel) rfl)⟩
theorem mo_X_goesOff : MOk y_X_goesOff 0 := ⟨by decide +kernel, tw_in 1534 (by decide +kernel) rfl, tw_in 108 (by decide +kernel) rfl, by decide +kernel, by decide +kernel, by decide +kernel⟩
theorem d_X_goesOff_0 : decode y_X_goesOff.2.1 0 = .ok (.aload_n 0, 1) := by decide +kernel
theorem d_X_goesOff_1 : decode y_X_goesOff.2.1 1 = .ok (.getfield 7, 3) := by decide +kernel
theorem d_X_goesOff_4 : decode y_X_goesOff.2.1 4 = .ok (.iconst 1, 1) := by decide +kernel
theorem d_X_goesOff_5 : decode y_X_goesOff.2.1 5 = .ok (.iaload, 1) := by decide +kernel
theorem d_X_goesOff_6 : decode y_X_goesOff.2.1 6 = .ok (.aload_n 0, 1) := by decide +kernel
theorem d_X_goesOff_7 : decode y_X_goesOff.2.1 7 = .ok (.getfield 289, 3) := by decide +kernel
theorem d_X_goesOff_10 : decode y_X_goesOff.2.1 10 = .ok (.isub, 1) := by decide +kernel
theorem d_X_goesOff_11 : decode y_X_goesOff.2.1 11 = .ok (.istore_n 1, 1) := by decide +kernel
theorem d_X_goesOff_12 : decode y_X_goesOff.2.1 12 = .ok (.aload_n 0, 1) := by decide +kernel
theorem d_X_goesOff_13 : decode y_X_goesOff.2.1 13 = .ok (.getfield 7, 3) := by decide +kernel
theorem d_X_goesOff_16 : decode y_X_goesOff.2.1 16 = .ok (.bipush 71, 2) := by decide +kernel
theorem cb_71 : (Int8.ofInt 71).toInt32 = nI 71 := by decide +kernel
theorem d_X_goesOff_18 : decode y_X_goesOff.2.1 18 = .ok (.dup2, 1) := by decide +kernel
theorem d_X_goesOff_19 : decode y_X_goesOff.2.1 19 = .ok (.iaload, 1) := by decide +kernel
theorem d_X_goesOff_20 : decode y_X_goesOff.2.1 20 = .ok (.aload_n 0, 1) := by decide +kernel
theorem d_X_goesOff_21 : decode y_X_goesOff.2.1 21 = .ok (.getfield 289, 3) := by decide +kernel
theorem d_X_goesOff_24 : decode y_X_goesOff.2.1 24 = .ok (.iadd, 1) := by decide +kernel
theorem d_X_goesOff_25 : decode y_X_goesOff.2.1 25 = .ok (.iastore, 1) := by decide +kernel
theorem d_X_goesOff_26 : decode y_X_goesOff.2.1 26 = .ok (.aload_n 0, 1) := by decide +kernel
theorem d_X_goesOff_27 : decode y_X_goesOff.2.1 27 = .ok (.getfield 7, 3) := by decide +kernel
theorem d_X_goesOff_30 : decode y_X_goesOff.2.1 30 = .ok (.bipush 72, 2) := by decide +kernel
theorem cb_72 : (Int8.ofInt 72).toInt32 = nI 72 := by decide +kernel
theorem d_X_goesOff_32 : decode y_X_goesOff.2.1 32 = .ok (.dup2, 1) := by decide +kernel
theorem d_X_goesOff_33 : decode y_X_goesOff.2.1 33 = .ok (.iaload, 1) := by decide +kernel
theorem d_X_goesOff_34 : decode y_X_goesOff.2.1 34 = .ok (.iload_n 1, 1) := by decide +kernel
theorem d_X_goesOff_35 : decode y_X_goesOff.2.1 35 = .ok (.iadd, 1) := by decide +kernel
theorem d_X_goesOff_36 : decode y_X_goesOff.2.1 36 = .ok (.iastore, 1) := by decide +kernel
theorem d_X_goesOff_37 : decode y_X_goesOff.2.1 37 = .ok (.aload_n 0, 1) := by decide +kernel
theorem d_X_goesOff_38 : decode y_X_goesOff.2.1 38 = .ok (.getfield 7, 3) := by decide +kernel
theorem d_X_goesOff_41 : decode y_X_goesOff.2.1 41 = .ok (.bipush 110, 2) := by decide +kernel
theorem cb_110 : (Int8.ofInt 110).toInt32 = nI 110 := by decide +kernel
theorem d_X_goesOff_43 : decode y_X_goesOff.2.1 43 = .ok (.aload_n 0, 1) := by decide +kernel
theorem d_X_goesOff_44 : decode y_X_goesOff.2.1 44 = .ok (.getfield 291, 3) := by decide +kernel
theorem d_X_goesOff_47 : decode y_X_goesOff.2.1 47 = .ok (.iastore, 1) := by decide +kernel
theorem d_X_goesOff_48 : decode y_X_goesOff.2.1 48 = .ok (.aload_n 0, 1) := by decide +kernel
theorem d_X_goesOff_49 : decode y_X_goesOff.2.1 49 = .ok (.getfield 7, 3) := by decide +kernel
theorem d_X_goesOff_52 : decode y_X_goesOff.2.1 52 = .ok (.bipush 111, 2) := by decide +kernel
theorem cb_111 : (Int8.ofInt 111).toInt32 = nI 111 := by decide +kernel
theorem d_X_goesOff_54 : decode y_X_goesOff.2.1 54 = .ok (.aload_n 0, 1) := by decide +kernel
theorem d_X_goesOff_55 : decode y_X_goesOff.2.1 55 = .ok (.getfield 289, 3) := by decide +kernel
theorem d_X_goesOff_58 : decode y_X_goesOff.2.1 58 = .ok (.iastore, 1) := by decide +kernel
theorem d_X_goesOff_59 : decode y_X_goesOff.2.1 59 = .ok (.iconst 0, 1) := by decide +kernel
theorem d_X_goesOff_60 : decode y_X_goesOff.2.1 60 = .ok (.istore_n 2, 1) := by decide +kernel
theorem d_X_goesOff_61 : decode y_X_goesOff.2.1 61 = .ok (.iload_n 2, 1) := by decide +kernel
theorem d_X_goesOff_62 : decode y_X_goesOff.2.1 62 = .ok (.aload_n 0, 1) := by decide +kernel
theorem d_X_goesOff_63 : decode y_X_goesOff.2.1 63 = .ok (.getfield 291, 3) := by decide +kernel
theorem d_X_goesOff_66 : decode y_X_goesOff.2.1 66 = .ok (.if_icmp .ge 137, 3) := by decide +kernel
theorem d_X_goesOff_203 : decode y_X_goesOff.2.1 203 = .ok (.iconst 0, 1) := by decide +kernel
theorem d_X_goesOff_204 : decode y_X_goesOff.2.1 204 = .ok (.istore_n 2, 1) := by decide +kernel
theorem d_X_goesOff_205 : decode y_X_goesOff.2.1 205 = .ok (.iload_n 2, 1) := by decide +kernel
theorem d_X_goesOff_206 : decode y_X_goesOff.2.1 206 = .ok (.aload_n 0, 1) := by decide +kernel
theorem d_X_goesOff_207 : decode y_X_goesOff.2.1 207 = .ok (.getfield 293, 3) := by decide +kernel
theorem d_X_goesOff_210 : decode y_X_goesOff.2.1 210 = .ok (.if_icmp .ge 54, 3) := by decide +kernel
theorem d_X_goesOff_264 : decode y_X_goesOff.2.1 264 = .ok (.iconst 0, 1) := by decide +kernel
theorem d_X_goesOff_265 : decode y_X_goesOff.2.1 265 = .ok (.istore_n 2, 1) := by decide +kernel
theorem d_X_goesOff_266 : decode y_X_goesOff.2.1 266 = .ok (.iload_n 2, 1) := by decide +kernel
theorem d_X_goesOff_267 : decode y_X_goesOff.2.1 267 = .ok (.bipush 6, 2) := by decide +kernel
theorem d_X_goesOff_269 : decode y_X_goesOff.2.1 269 = .ok (.if_icmp .ge 14, 3) := by decide +kernel
theorem d_X_goesOff_272 : decode y_X_goesOff.2.1 272 = .ok (.aload_n 0, 1) := by decide +kernel
theorem d_X_goesOff_273 : decode y_X_goesOff.2.1 273 = .ok (.iload_n 2, 1) := by decide +kernel
theorem d_X_goesOff_274 : decode y_X_goesOff.2.1 274 = .ok (.invokevirtual 325, 3) := by decide +kernel
abbrev y_X_movesUp : MI := (⟨"SinglesUpModel", "movesUp", "(I)V"⟩, prog_11_method_56_code, 9, none)
theorem lk_X_325 : LkV "SinglesUpModel" 325 y_X_movesUp := ⟨tw_in 1537 (by decide +kernel) rfl, tw_in 74 (by decide +kernel) rfl, Or.inl (tw_in 1535 (by decide +kernel) rfl)⟩
theorem mo_X_movesUp : MOk y_X_movesUp 1 := ⟨by decide +kernel, tw_in 1538 (by decide +kernel) rfl, tw_in 108 (by decide +kernel) rfl, by decide +kernel, by decide +kernel, by decide +kernel⟩
theorem d_X_movesUp_0 : decode y_X_movesUp.2.1 0 = .ok (.aload_n 0, 1) := by decide +kernel
theorem d_X_movesUp_1 : decode y_X_movesUp.2.1 1 = .ok (.getfield 7, 3) := by decide +kernel
theorem d_X_movesUp_4 : decode y_X_movesUp.2.1 4 = .ok (.sipush 130, 3) := by decide +kernel
theorem d_X_movesUp_7 : decode y_X_movesUp.2.1 7 = .ok (.iload_n 1, 1) := by decide +kernel
theorem d_X_movesUp_8 : decode y_X_movesUp.2.1 8 = .ok (.iadd, 1) := by decide +kernel
theorem d_X_movesUp_9 : decode y_X_movesUp.2.1 9 = .ok (.iaload, 1) := by decide +kernel
theorem d_X_movesUp_10 : decode y_X_movesUp.2.1 10 = .ok (.istore_n 2, 1) := by decide +kernel
theorem d_X_movesUp_11 : decode y_X_movesUp.2.1 11 = .ok (.iconst 0, 1) := by decide +kernel
theorem d_X_movesUp_12 : decode y_X_movesUp.2.1 12 = .ok (.istore_n 3, 1) := by decide +kernel
theorem d_X_movesUp_13 : decode y_X_movesUp.2.1 13 = .ok (.iconst 0, 1) := by decide +kernel
theorem d_X_movesUp_14 : decode y_X_movesUp.2.1 14 = .ok (.istore 4, 2) := by decide +kernel
theorem d_X_movesUp_16 : decode y_X_movesUp.2.1 16 = .ok (.iload 4, 2) := by decide +kernel
theorem d_X_movesUp_18 : decode y_X_movesUp.2.1 18 = .ok (.iload_n 2, 1) := by decide +kernel
theorem d_X_movesUp_19 : decode y_X_movesUp.2.1 19 = .ok (.if_icmp .ge 32, 3) := by decide +kernel
theorem d_X_movesUp_51 : decode y_X_movesUp.2.1 51 = .ok (.iconst 0, 1) := by decide +kernel
theorem d_X_movesUp_52 : decode y_X_movesUp.2.1 52 = .ok (.istore 4, 2) := by decide +kernel
theorem d_X_movesUp_54 : decode y_X_movesUp.2.1 54 = .ok (.iconst 0, 1) := by decide +kernel
theorem d_X_movesUp_55 : decode y_X_movesUp.2.1 55 = .ok (.istore 5, 2) := by decide +kernel
theorem d_X_movesUp_57 : decode y_X_movesUp.2.1 57 = .ok (.iload 5, 2) := by decide +kernel
theorem d_X_movesUp_59 : decode y_X_movesUp.2.1 59 = .ok (.iload_n 2, 1) := by decide +kernel
theorem d_X_movesUp_60 : decode y_X_movesUp.2.1 60 = .ok (.if_icmp .ge 194, 3) := by decide +kernel
theorem d_X_movesUp_254 : decode y_X_movesUp.2.1 254 = .ok (.aload_n 0, 1) := by decide +kernel
theorem d_X_movesUp_255 : decode y_X_movesUp.2.1 255 = .ok (.getfield 7, 3) := by decide +kernel
theorem d_X_movesUp_258 : decode y_X_movesUp.2.1 258 = .ok (.sipush 130, 3) := by decide +kernel
theorem d_X_movesUp_261 : decode y_X_movesUp.2.1 261 = .ok (.iload_n 1, 1) := by decide +kernel
theorem d_X_movesUp_262 : decode y_X_movesUp.2.1 262 = .ok (.iadd, 1) := by decide +kernel
theorem d_X_movesUp_263 : decode y_X_movesUp.2.1 263 = .ok (.iload 4, 2) := by decide +kernel
theorem d_X_movesUp_265 : decode y_X_movesUp.2.1 265 = .ok (.iastore, 1) := by decide +kernel
theorem d_X_movesUp_266 : decode y_X_movesUp.2.1 266 = .ok (.return_, 1) := by decide +kernel
theorem d_X_goesOff_277 : decode y_X_goesOff.2.1 277 = .ok (.iinc 2 1, 3) := by decide +kernel
theorem d_X_goesOff_280 : decode y_X_goesOff.2.1 280 = .ok (.goto (-14), 3) := by decide +kernel
theorem d_X_goesOff_283 : decode y_X_goesOff.2.1 283 = .ok (.iconst 0, 1) := by decide +kernel
theorem d_X_goesOff_284 : decode y_X_goesOff.2.1 284 = .ok (.istore_n 2, 1) := by decide +kernel
theorem d_X_goesOff_285 : decode y_X_goesOff.2.1 285 = .ok (.iload_n 2, 1) := by decide +kernel
theorem d_X_goesOff_286 : decode y_X_goesOff.2.1 286 = .ok (.aload_n 0, 1) := by decide +kernel
theorem d_X_goesOff_287 : decode y_X_goesOff.2.1 287 = .ok (.getfield 293, 3) := by decide +kernel
theorem d_X_goesOff_290 : decode y_X_goesOff.2.1 290 = .ok (.if_icmp .ge 79, 3) := by decide +kernel
theorem d_X_goesOff_369 : decode y_X_goesOff.2.1 369 = .ok (.aload_n 0, 1) := by decide +kernel
theorem d_X_goesOff_370 : decode y_X_goesOff.2.1 370 = .ok (.getfield 7, 3) := by decide +kernel
theorem d_X_goesOff_373 : decode y_X_goesOff.2.1 373 = .ok (.bipush 70, 2) := by decide +kernel
theorem cb_70 : (Int8.ofInt 70).toInt32 = nI 70 := by decide +kernel
theorem d_X_goesOff_375 : decode y_X_goesOff.2.1 375 = .ok (.dup2, 1) := by decide +kernel
theorem d_X_goesOff_376 : decode y_X_goesOff.2.1 376 = .ok (.iaload, 1) := by decide +kernel
theorem d_X_goesOff_377 : decode y_X_goesOff.2.1 377 = .ok (.iconst 1, 1) := by decide +kernel
theorem d_X_goesOff_378 : decode y_X_goesOff.2.1 378 = .ok (.iadd, 1) := by decide +kernel
theorem d_X_goesOff_379 : decode y_X_goesOff.2.1 379 = .ok (.iastore, 1) := by decide +kernel
theorem d_X_goesOff_380 : decode y_X_goesOff.2.1 380 = .ok (.aload_n 0, 1) := by decide +kernel
theorem d_X_goesOff_381 : decode y_X_goesOff.2.1 381 = .ok (.getfield 7, 3) := by decide +kernel
theorem d_X_goesOff_384 : decode y_X_goesOff.2.1 384 = .ok (.bipush 73, 2) := by decide +kernel
theorem cb_73 : (Int8.ofInt 73).toInt32 = nI 73 := by decide +kernel
theorem d_X_goesOff_386 : decode y_X_goesOff.2.1 386 = .ok (.dup2, 1) := by decide +kernel
theorem d_X_goesOff_387 : decode y_X_goesOff.2.1 387 = .ok (.iaload, 1) := by decide +kernel
theorem d_X_goesOff_388 : decode y_X_goesOff.2.1 388 = .ok (.aload_n 0, 1) := by decide +kernel
theorem d_X_goesOff_389 : decode y_X_goesOff.2.1 389 = .ok (.getfield 7, 3) := by decide +kernel
theorem d_X_goesOff_392 : decode y_X_goesOff.2.1 392 = .ok (.iconst 2, 1) := by decide +kernel
theorem d_X_goesOff_393 : decode y_X_goesOff.2.1 393 = .ok (.iaload, 1) := by decide +kernel
theorem d_X_goesOff_394 : decode y_X_goesOff.2.1 394 = .ok (.iadd, 1) := by decide +kernel
theorem d_X_goesOff_395 : decode y_X_goesOff.2.1 395 = .ok (.iastore, 1) := by decide +kernel
theorem d_X_goesOff_396 : decode y_X_goesOff.2.1 396 = .ok (.aload_n 0, 1) := by decide +kernel
theorem d_X_goesOff_397 : decode y_X_goesOff.2.1 397 = .ok (.getfield 7, 3) := by decide +kernel
theorem d_X_goesOff_400 : decode y_X_goesOff.2.1 400 = .ok (.iconst 4, 1) := by decide +kernel
theorem d_X_goesOff_401 : decode y_X_goesOff.2.1 401 = .ok (.iaload, 1) := by decide +kernel
theorem d_X_goesOff_402 : decode y_X_goesOff.2.1 402 = .ok (.ifCond .le 46, 3) := by decide +kernel
theorem d_X_goesOff_448 : decode y_X_goesOff.2.1 448 = .ok (.sipush 6010, 3) := by decide +kernel
theorem cs_6010 : (Int16.ofInt 6010).toInt32 = nI 6010 := by decide +kernel
theorem d_X_goesOff_451 : decode y_X_goesOff.2.1 451 = .ok (.iconst 3, 1) := by decide +kernel
theorem d_X_goesOff_452 : decode y_X_goesOff.2.1 452 = .ok (.aload_n 0, 1) := by decide +kernel
theorem d_X_goesOff_453 : decode y_X_goesOff.2.1 453 = .ok (.getfield 7, 3) := by decide +kernel
theorem d_X_goesOff_456 : decode y_X_goesOff.2.1 456 = .ok (.bipush 70, 2) := by decide +kernel
theorem d_X_goesOff_458 : decode y_X_goesOff.2.1 458 = .ok (.iaload, 1) := by decide +kernel
theorem d_X_goesOff_459 : decode y_X_goesOff.2.1 459 = .ok (.iconst 1, 1) := by decide +kernel
theorem d_X_goesOff_460 : decode y_X_goesOff.2.1 460 = .ok (.isub, 1) := by decide +kernel
theorem d_X_goesOff_461 : decode y_X_goesOff.2.1 461 = .ok (.bipush 60, 2) := by decide +kernel
theorem d_X_goesOff_463 : decode y_X_goesOff.2.1 463 = .ok (.irem, 1) := by decide +kernel
theorem d_X_goesOff_464 : decode y_X_goesOff.2.1 464 = .ok (.imul, 1) := by decide +kernel
theorem d_X_goesOff_465 : decode y_X_goesOff.2.1 465 = .ok (.iadd, 1) := by decide +kernel
theorem d_X_goesOff_466 : decode y_X_goesOff.2.1 466 = .ok (.istore_n 2, 1) := by decide +kernel
theorem d_X_goesOff_467 : decode y_X_goesOff.2.1 467 = .ok (.aload_n 0, 1) := by decide +kernel
theorem d_X_goesOff_468 : decode y_X_goesOff.2.1 468 = .ok (.getfield 7, 3) := by decide +kernel
theorem d_X_goesOff_471 : decode y_X_goesOff.2.1 471 = .ok (.iload_n 2, 1) := by decide +kernel
theorem d_X_goesOff_472 : decode y_X_goesOff.2.1 472 = .ok (.aload_n 0, 1) := by decide +kernel
theorem d_X_goesOff_473 : decode y_X_goesOff.2.1 473 = .ok (.getfield 289, 3) := by decide +kernel
theorem d_X_goesOff_476 : decode y_X_goesOff.2.1 476 = .ok (.iastore, 1) := by decide +kernel
theorem d_X_goesOff_477 : decode y_X_goesOff.2.1 477 = .ok (.aload_n 0, 1) := by decide +kernel
theorem d_X_goesOff_478 : decode y_X_goesOff.2.1 478 = .ok (.getfield 7, 3) := by decide +kernel
theorem d_X_goesOff_481 : decode y_X_goesOff.2.1 481 = .ok (.iload_n 2, 1) := by decide +kernel
theorem d_X_goesOff_482 : decode y_X_goesOff.2.1 482 = .ok (.iconst 1, 1) := by decide +kernel
theorem d_X_goesOff_483 : decode y_X_goesOff.2.1 483 = .ok (.iadd, 1) := by decide +kernel
theorem d_X_goesOff_484 : decode y_X_goesOff.2.1 484 = .ok (.aload_n 0, 1) := by decide +kernel
theorem d_X_goesOff_485 : decode y_X_goesOff.2.1 485 = .ok (.getfield 291, 3) := by decide +kernel
theorem d_X_goesOff_488 : decode y_X_goesOff.2.1 488 = .ok (.iastore, 1) := by decide +kernel
theorem d_X_goesOff_489 : decode y_X_goesOff.2.1 489 = .ok (.aload_n 0, 1) := by decide +kernel
theorem d_X_goesOff_490 : decode y_X_goesOff.2.1 490 = .ok (.getfield 7, 3) := by decide +kernel
theorem d_X_goesOff_493 : decode y_X_goesOff.2.1 493 = .ok (.iload_n 2, 1) := by decide +kernel
theorem d_X_goesOff_494 : decode y_X_goesOff.2.1 494 = .ok (.iconst 2, 1) := by decide +kernel
theorem d_X_goesOff_495 : decode y_X_goesOff.2.1 495 = .ok (.iadd, 1) := by decide +kernel
theorem d_X_goesOff_496 : decode y_X_goesOff.2.1 496 = .ok (.aload_n 0, 1) := by decide +kernel
theorem d_X_goesOff_497 : decode y_X_goesOff.2.1 497 = .ok (.getfield 7, 3) := by decide +kernel
theorem d_X_goesOff_500 : decode y_X_goesOff.2.1 500 = .ok (.bipush 73, 2) := by decide +kernel
theorem d_X_goesOff_502 : decode y_X_goesOff.2.1 502 = .ok (.iaload, 1) := by decide +kernel
theorem d_X_goesOff_503 : decode y_X_goesOff.2.1 503 = .ok (.iastore, 1) := by decide +kernel
theorem d_X_goesOff_504 : decode y_X_goesOff.2.1 504 = .ok (.aload_n 0, 1) := by decide +kernel
theorem d_X_goesOff_505 : decode y_X_goesOff.2.1 505 = .ok (.invokevirtual 102, 3) := by decide +kernel
theorem lk_X_102 : LkV "SinglesUpModel" 102 y_X_forgets := ⟨tw_in 1316 (by decide +kernel) rfl, tw_in 39 (by decide +kernel) rfl, Or.inl (tw_in 1314 (by decide +kernel) rfl)⟩
theorem mo_X_forgets : MOk y_X_forgets 0 := ⟨by decide +kernel, tw_in 1317 (by decide +kernel) rfl, tw_in 108 (by decide +kernel) rfl, by decide +kernel, by decide +kernel, by decide +kernel⟩
theorem d_X_goesOff_508 : decode y_X_goesOff.2.1 508 = .ok (.iload_n 1, 1) := by decide +kernel
theorem d_X_goesOff_509 : decode y_X_goesOff.2.1 509 = .ok (.ireturn, 1) := by decide +kernel
theorem d_X_chair_8 : decode y_X_chair.2.1 8 = .ok (.ireturn, 1) := by decide +kernel
theorem d_X_fills_13 : decode y_X_fills.2.1 13 = .ok (.aload_n 0, 1) := by decide +kernel
theorem d_X_fills_14 : decode y_X_fills.2.1 14 = .ok (.iconst 1, 1) := by decide +kernel
theorem d_X_fills_15 : decode y_X_fills.2.1 15 = .ok (.invokevirtual 318, 3) := by decide +kernel
theorem d_X_fills_18 : decode y_X_fills.2.1 18 = .ok (.goto 4, 3) := by decide +kernel
section
variable {l : Launch} {b : PB}
/-- the reference's numbers when nobody stands and nobody comes: seats s, EMPTY e, CHAIRS k; nobody is picked -/
def GM (I : Nat → Nat → Int32) (s e k : Nat) : Prop :=
  (∀ j, j < 32 → I 1 (26 + j) = nI 0) ∧ (∀ j, j < 6 → I 1 (130 + j) = nI 0) ∧ (∀ j, j < 6 → I 1 (10 + j) = nI 9) ∧ I 1 1 = nI s ∧ I 1 4 = nI 0 ∧ I 1 71 = nI e ∧ I 1 70 = nI k ∧ I 1 72 = nI 0 ∧ I 1 75 = nI 0 ∧ I 1 76 = nI 0 ∧
  (∀ j, j < 30 → I 1 (80 + j) = nI 0) ∧ (∀ j, j < 5 → I 1 (1580 + j) = nI 0) ∧ (∀ j, j < 240 → I 13 j = nI 0) ∧ (s < 9 ∧ e < 100000 ∧ k < 100000)
theorem m6 {P : Nat → Prop} (h0 : P 0) (h1 : P 1) (h2 : P 2) (h3 : P 3) (h4 : P 4) (h5 : P 5) : ∀ j, j < 6 → P j := by
  intro j hj
  rcases (show j = 0 ∨ j = 1 ∨ j = 2 ∨ j = 3 ∨ j = 4 ∨ j = 5 by omega) with rfl | rfl | rfl | rfl | rfl | rfl <;> assumption
theorem fill2_s {I : Nat → Nat → Int32} {i : Nat} {v : Int32} : upd2 (upd2 (updA (updA I 9 (fun j => if j < i then v else I 9 j)) 12 (fun j => if j < i then v else I 12 j)) 9 i v) 12 i v = updA (updA I 9 (fun j => if j < i + 1 then v else I 9 j)) 12 (fun j => if j < i + 1 then v else I 12 j) := by
  have e1 := fill_s (I := I) (o := 9) (i := i) (v := v)
  have e2 := fill_s (I := I) (o := 12) (i := i) (v := v)
  funext k
  have h1 := congrFun e1 k
  have h2 := congrFun e2 k
  unfold upd2 updA at h1 h2 ⊢
  by_cases h9 : k = 9
  · subst h9
    simpa using h1
  · by_cases h12 : k = 12
    · subst h12
      simpa using h2
    · simp [h9, h12]
set_option maxRecDepth 20000 in
theorem lp_begins {K2 : K2T} {I : Nat → Nat → Int32} (hx : As l b 1 y_X_begins KM RM K2 (updA (updA I 9 (fun j => if j < 240 then nI 0 else I 9 j)) 12 (fun j => if j < 240 then nI 0 else I 12 j)) 29 [.ref 0, .int (nI 240)] []) : ∀ (n i : Nat), i + n = 240 → As l b 1 y_X_begins KM RM K2 (updA (updA I 9 (fun j => if j < i then nI 0 else I 9 j)) 12 (fun j => if j < i then nI 0 else I 12 j)) 2 [.ref 0, .int (nI (i))] [] := by
  intro n
  induction n with
  | zero =>
    intro i hi
    refine aw_iload_n rfl rfl d_X_begins_2 ?_
    refine aw_sipush (v := nI 240) cs_240 d_X_begins_3 ?_
    refine aw_icmp_geI (tgt := 29) ((i : Nat) : Int) (240) (nI_toInt (by omega)) (by decide +kernel) (by decide) d_X_begins_6 (fun _ => ?_) (fun q => absurd q (by omega))
    rw [show i = 240 by omega]; exact hx
  | succ n ih =>
    intro i hi
    refine aw_iload_n rfl rfl d_X_begins_2 ?_
    refine aw_sipush (v := nI 240) cs_240 d_X_begins_3 ?_
    refine aw_icmp_geI (tgt := 29) ((i : Nat) : Int) (240) (nI_toInt (by omega)) (by decide +kernel) (by decide) d_X_begins_6 (fun q => absurd q (by omega)) (fun _ => ?_)
    refine aw_aload_n rfl rfl d_X_begins_9 ?_
    refine aw_getr fl_X_44 km_0 (by decide) rfl rm_0_25 d_X_begins_10 ?_
    refine aw_iload_n rfl rfl d_X_begins_13 ?_
    refine aw_iconst (v := nI 0) ci_0 d_X_begins_14 ?_
    refine aw_iast (j := i) km_9 (vp_in_nI (by omega) (by decide)) (nI_clamp (by omega)) d_X_begins_15 ?_
    refine aw_aload_n rfl rfl d_X_begins_16 ?_
    refine aw_getr fl_X_53 km_0 (by decide) rfl rm_0_28 d_X_begins_17 ?_
    refine aw_iload_n rfl rfl d_X_begins_20 ?_
    refine aw_iconst (v := nI 0) ci_0 d_X_begins_21 ?_
    refine aw_zast (j := i) km_12 (vp_in_nI (by omega) (by decide)) (nI_clamp (by omega)) (by decide +kernel) d_X_begins_22 ?_
    refine aw_iinc (v := nI (i + 1)) (lv2 := [.ref 0, .int (nI (i + 1))]) rfl (inc_1 _) (by decide) rfl d_X_begins_23 ?_
    refine aw_goto (tgt := 2) (by decide) d_X_begins_26 ?_
    rw [fill2_s]; exact ih (i + 1) (by omega)
theorem fillB_0 {I : Nat → Nat → Int32} {v : Int32} : updA (updA I 9 (fun j => if j < 0 then v else I 9 j)) 12 (fun j => if j < 0 then v else I 12 j) = I := by
  have e1 := fill_0 (I := I) (o := 9) (v := v)
  rw [e1]
  exact fill_0
theorem fill_at {I : Nat → Nat → Int32} {o i n : Nat} {f : Nat → Int32} {v : Int32} (h : i < n) : updA I o (fun j => if j < n then v else f j) o i = v := by
  rw [updA_o]
  exact if_pos h
theorem copy_at {I : Nat → Nat → Int32} {o i n : Nat} {f g : Nat → Int32} (h : i < n) : updA I o (fun j => if j < n then f j else g j) o i = f i := by
  rw [updA_o]
  exact if_pos h
set_option maxRecDepth 20000 in
theorem fr_begins {K2 : K2T} {I : Nat → Nat → Int32} {s : Nat} (g3 : I 1 1 = nI s) (hK : K2 none (upd2 (upd2 (upd2 (upd2 (upd2 (updA (updA I 9 (fun j => if j < 240 then nI 0 else I 9 j)) 12 (fun j => if j < 240 then nI 0 else I 12 j)) 0 30 (nI (s))) 0 31 (nI 0)) 0 32 (nI 0)) 0 33 (nI 0)) 0 34 (nI 0))) : As l b 1 y_X_begins KM RM K2 (updA (updA I 9 (fun j => if j < 240 then nI 0 else I 9 j)) 12 (fun j => if j < 240 then nI 0 else I 12 j)) 29 [.ref 0, .int (nI 240)] [] := by
  refine aw_aload_n rfl rfl d_X_begins_29 ?_
  refine aw_aload_n rfl rfl d_X_begins_30 ?_
  refine aw_getr fl_X_7 km_0 (by decide) rfl rm_0_0 d_X_begins_31 ?_
  refine aw_iconst (v := nI 1) ci_1 d_X_begins_34 ?_
  refine aw_iald (j := 1) km_1 (vp_in_nI (by decide) (by decide)) (nI_clamp (by decide)) d_X_begins_35 ?_
  refine aw_top (x2 := nI (s)) ((congrFun (updA_ne (by decide)) _).trans ((congrFun (updA_ne (by decide)) _).trans g3)) ?_
  refine aw_puti fl_X_289 km_0 (by decide) rfl rfl rfl rfl d_X_begins_36 ?_
  refine aw_aload_n rfl rfl d_X_begins_39 ?_
  refine aw_iconst (v := nI 0) ci_0 d_X_begins_40 ?_
  refine aw_puti fl_X_291 km_0 (by decide) rfl rfl rfl rfl d_X_begins_41 ?_
  refine aw_aload_n rfl rfl d_X_begins_44 ?_
  refine aw_iconst (v := nI 0) ci_0 d_X_begins_45 ?_
  refine aw_puti fl_X_293 km_0 (by decide) rfl rfl rfl rfl d_X_begins_46 ?_
  refine aw_aload_n rfl rfl d_X_begins_49 ?_
  refine aw_iconst (v := nI 0) ci_0 d_X_begins_50 ?_
  refine aw_puti fl_X_296 km_0 (by decide) rfl rfl rfl rfl d_X_begins_51 ?_
  refine aw_aload_n rfl rfl d_X_begins_54 ?_
  refine aw_iconst (v := nI 0) ci_0 d_X_begins_55 ?_
  refine aw_puti fl_X_299 km_0 (by decide) rfl rfl rfl rfl d_X_begins_56 ?_
  exact as_retv rfl d_X_begins_59 hK
set_option maxRecDepth 20000 in
theorem sp_begins {K2 : K2T} {I : Nat → Nat → Int32} {s : Nat} (g3 : I 1 1 = nI s) (hK : K2 none (upd2 (upd2 (upd2 (upd2 (upd2 (updA (updA I 9 (fun j => if j < 240 then nI 0 else I 9 j)) 12 (fun j => if j < 240 then nI 0 else I 12 j)) 0 30 (nI (s))) 0 31 (nI 0)) 0 32 (nI 0)) 0 33 (nI 0)) 0 34 (nI 0))) : Ss l b 1 y_X_begins KM RM [.ref 0] (I) K2 := by
  refine Ss.of (show As l b 1 y_X_begins KM RM K2 (I) 0 [.ref 0, uu] [] from ?_)
  refine aw_iconst (v := nI 0) ci_0 d_X_begins_0 ?_
  refine aw_istore_n (lv2 := [.ref 0, .int (nI 0)]) rfl (by decide) rfl d_X_begins_1 ?_
  have h0 := lp_begins (l := l) (b := b) (K2 := K2) (I := I) (fr_begins g3 hK) 240 0 (by decide); rw [fillB_0] at h0; exact h0
set_option maxRecDepth 20000 in
theorem lp_forgets {K2 : K2T} {I : Nat → Nat → Int32} (hK : K2 none (upd2 (updA I 13 (fun j => if j < 240 then nI 0 else I 13 j)) 0 35 (nI 0))) : ∀ (n i : Nat), i + n = 240 → As l b 1 y_X_forgets KM RM K2 (updA I 13 (fun j => if j < i then nI 0 else I 13 j)) 2 [.ref 0, .int (nI (i))] [] := by
  intro n
  induction n with
  | zero =>
    intro i hi
    refine aw_iload_n rfl rfl d_X_forgets_2 ?_
    refine aw_sipush (v := nI 240) cs_240 d_X_forgets_3 ?_
    refine aw_icmp_geI (tgt := 22) ((i : Nat) : Int) (240) (nI_toInt (by omega)) (by decide +kernel) (by decide) d_X_forgets_6 (fun _ => ?_) (fun q => absurd q (by omega))
    refine aw_aload_n rfl rfl d_X_forgets_22 ?_
    refine aw_iconst (v := nI 0) ci_0 d_X_forgets_23 ?_
    refine aw_puti fl_X_344 km_0 (by decide) rfl rfl rfl rfl d_X_forgets_24 ?_
    exact as_retv rfl d_X_forgets_27 (by rw [show i = 240 by omega]; exact hK)
  | succ n ih =>
    intro i hi
    refine aw_iload_n rfl rfl d_X_forgets_2 ?_
    refine aw_sipush (v := nI 240) cs_240 d_X_forgets_3 ?_
    refine aw_icmp_geI (tgt := 22) ((i : Nat) : Int) (240) (nI_toInt (by omega)) (by decide +kernel) (by decide) d_X_forgets_6 (fun q => absurd q (by omega)) (fun _ => ?_)
    refine aw_aload_n rfl rfl d_X_forgets_9 ?_
    refine aw_getr fl_X_57 km_0 (by decide) rfl rm_0_29 d_X_forgets_10 ?_
    refine aw_iload_n rfl rfl d_X_forgets_13 ?_
    refine aw_iconst (v := nI 0) ci_0 d_X_forgets_14 ?_
    refine aw_zast (j := i) km_13 (vp_in_nI (by omega) (by decide)) (nI_clamp (by omega)) (by decide +kernel) d_X_forgets_15 ?_
    refine aw_iinc (v := nI (i + 1)) (lv2 := [.ref 0, .int (nI (i + 1))]) rfl (inc_1 _) (by decide) rfl d_X_forgets_16 ?_
    refine aw_goto (tgt := 2) (by decide) d_X_forgets_19 ?_
    rw [fill_s]; exact ih (i + 1) (by omega)
set_option maxRecDepth 20000 in
theorem sp_forgets {K2 : K2T} {I : Nat → Nat → Int32} (hK : K2 none (upd2 (updA I 13 (fun j => if j < 240 then nI 0 else I 13 j)) 0 35 (nI 0))) : Ss l b 1 y_X_forgets KM RM [.ref 0] (I) K2 := by
  refine Ss.of (show As l b 1 y_X_forgets KM RM K2 (I) 0 [.ref 0, uu] [] from ?_)
  refine aw_iconst (v := nI 0) ci_0 d_X_forgets_0 ?_
  refine aw_istore_n (lv2 := [.ref 0, .int (nI 0)]) rfl (by decide) rfl d_X_forgets_1 ?_
  have h0 := lp_forgets (l := l) (b := b) hK 240 0 (by decide); rw [fill_0] at h0; exact h0
set_option maxRecDepth 20000 in
theorem sp_mchair {K2 : K2T} {I : Nat → Nat → Int32} {s e k : Nat} (hF : GM I s e k) (hb : e + s < 100000 ∧ k + 1 < 100000) (hK : ∀ I', GM I' s (e + s) (k + 1) → (∀ q, q ≠ 0 ∧ q ≠ 1 ∧ q ≠ 9 ∧ q ≠ 12 ∧ q ≠ 13 → I' q = I q) → K2 (some (.int (nI 0))) I') : Ss l b 6 y_X_chair KM RM [.ref 0] (I) K2 := by
  obtain ⟨g0, g1, g2, g3, g4, g5, g6, g7, g8, g9, g10, g11, g12, gb⟩ := hF
  refine Ss.of (show As l b 6 y_X_chair KM RM K2 (I) 0 [.ref 0] [] from ?_)
  refine aw_aload_n rfl rfl d_X_chair_0 ?_
  refine as_callV (as := []) (d' := 5) (q := ("SinglesUpModel", zT9, 51)) mo_X_fills lk_X_332 km_0 rfl rfl rfl ⟨by decide, by decide⟩ rfl rfl (by decide) d_X_chair_1 (Ss.of (show As l b 5 y_X_fills KM RM _ (I) 0 [.ref 0, uu, uu, uu] [] from ?_))
  refine aw_aload_n rfl rfl d_X_fills_0 ?_
  refine as_callV (as := []) (d' := 1) (q := ("SinglesUpModel", zT9, 51)) mo_X_begins lk_X_315 km_0 rfl rfl rfl ⟨by decide, by decide⟩ rfl rfl (by decide) d_X_fills_1 (sp_begins (I := I) (s := s) (g3) ?_)
  refine (show As l b 5 y_X_fills KM RM _ (upd2 (upd2 (upd2 (upd2 (upd2 (updA (updA (I) 9 (fun j => if j < 240 then nI 0 else (I) 9 j)) 12 (fun j => if j < 240 then nI 0 else (I) 12 j)) 0 30 (nI (s))) 0 31 (nI 0)) 0 32 (nI 0)) 0 33 (nI 0)) 0 34 (nI 0)) 4 [.ref 0, uu, uu, uu] [] from ?_)
  refine aw_aload_n rfl rfl d_X_fills_4 ?_
  refine aw_getr fl_X_7 km_0 (by decide) rfl rm_0_0 d_X_fills_5 ?_
  refine aw_iconst (v := nI 5) ci_5 d_X_fills_8 ?_
  refine aw_iald (j := 5) km_1 (vp_in_nI (by decide) (by decide)) (nI_clamp (by decide)) d_X_fills_9 ?_
  refine aw_if_leI (tgt := 21) ((upd2 (upd2 (upd2 (upd2 (upd2 (updA (updA (I) 9 (fun j => if j < 240 then nI 0 else (I) 9 j)) 12 (fun j => if j < 240 then nI 0 else (I) 12 j)) 0 30 (nI (s))) 0 31 (nI 0)) 0 32 (nI 0)) 0 33 (nI 0)) 0 34 (nI 0)) 1 5).toInt rfl (by decide) d_X_fills_10 (fun c1 => ?_) (fun c1 => ?_)
  · refine aw_iconst (v := (-1 : Int32)) rfl d_X_fills_21 ?_
    refine aw_istore_n (lv2 := [.ref 0, .int ((-1 : Int32)), uu, uu]) rfl (by decide) rfl d_X_fills_22 ?_
    refine aw_iload_n rfl rfl d_X_fills_23 ?_
    refine aw_iconst (v := (-1 : Int32)) rfl d_X_fills_24 ?_
    refine aw_icmp_neI (tgt := 34) (-1) (-1) (by decide +kernel) (by decide +kernel) (by decide) d_X_fills_25 (fun q => absurd q (by decide)) (fun _ => ?_)
    refine aw_aload_n rfl rfl d_X_fills_28 ?_
    refine aw_iconst (v := nI 0) ci_0 d_X_fills_29 ?_
    refine as_callV (as := [.int (nI 0)]) (d' := 4) (q := ("SinglesUpModel", zT9, 51)) mo_X_finds lk_X_318 km_0 rfl rfl rfl ⟨by decide, by decide⟩ rfl rfl (by decide) d_X_fills_30 (Ss.of (show As l b 4 y_X_finds KM RM _ (upd2 (upd2 (upd2 (upd2 (upd2 (updA (updA (I) 9 (fun j => if j < 240 then nI 0 else (I) 9 j)) 12 (fun j => if j < 240 then nI 0 else (I) 12 j)) 0 30 (nI (s))) 0 31 (nI 0)) 0 32 (nI 0)) 0 33 (nI 0)) 0 34 (nI 0)) 0 [.ref 0, .int (nI 0), uu, uu, uu, uu, uu] [] from ?_))
    refine aw_iconst (v := (-1 : Int32)) rfl d_X_finds_0 ?_
    refine aw_istore_n (lv2 := [.ref 0, .int (nI 0), .int ((-1 : Int32)), uu, uu, uu, uu]) rfl (by decide) rfl d_X_finds_1 ?_
    refine aw_iconst (v := nI 0) ci_0 d_X_finds_2 ?_
    refine aw_istore_n (lv2 := [.ref 0, .int (nI 0), .int ((-1 : Int32)), .int (nI 0), uu, uu, uu]) rfl (by decide) rfl d_X_finds_3 ?_
    refine aw_iconst (v := nI 0) ci_0 d_X_finds_4 ?_
    refine aw_istore (lv2 := [.ref 0, .int (nI 0), .int ((-1 : Int32)), .int (nI 0), .int (nI 0), uu, uu]) (by decide) rfl d_X_finds_5 ?_
    refine aw_iload rfl d_X_finds_7 ?_
    refine aw_bipush (v := nI 6) cb_6 d_X_finds_9 ?_
    refine aw_icmp_geI (tgt := 146) (0) (6) (by decide +kernel) (by decide +kernel) (by decide) d_X_finds_11 (fun q => absurd q (by decide)) (fun _ => ?_)
    refine aw_iconst (v := nI 0) ci_0 d_X_finds_14 ?_
    refine aw_istore (lv2 := [.ref 0, .int (nI 0), .int ((-1 : Int32)), .int (nI 0), .int (nI 0), .int (nI 0), uu]) (by decide) rfl d_X_finds_15 ?_
    refine aw_iload rfl d_X_finds_17 ?_
    refine aw_aload_n rfl rfl d_X_finds_19 ?_
    refine aw_getr fl_X_7 km_0 (by decide) rfl rm_0_0 d_X_finds_20 ?_
    refine aw_sipush (v := nI 130) cs_130 d_X_finds_23 ?_
    refine aw_iload rfl d_X_finds_26 ?_
    refine aw_iadd d_X_finds_28 ?_
    refine aw_top (x2 := nI 130) (by decide +kernel) ?_
    refine aw_iald (j := 130) km_1 (vp_in_nI (by decide) (by decide)) (nI_clamp (by decide)) d_X_finds_29 ?_
    refine aw_top (x2 := nI 0) (Eq.trans (congrFun (upd2_ne (by decide)) (130)) (Eq.trans (congrFun (upd2_ne (by decide)) (130)) (Eq.trans (congrFun (upd2_ne (by decide)) (130)) (Eq.trans (congrFun (upd2_ne (by decide)) (130)) (Eq.trans (congrFun (upd2_ne (by decide)) (130)) (Eq.trans (congrFun (updA_ne (by decide)) (130)) (Eq.trans (congrFun (updA_ne (by decide)) (130)) (g1 0 (by decide))))))))) ?_
    refine aw_icmp_geI (tgt := 140) (0) (0) (by decide +kernel) (by decide +kernel) (by decide) d_X_finds_30 (fun _ => ?_) (fun q => absurd q (by decide))
    refine aw_iinc (v := nI 1) (lv2 := [.ref 0, .int (nI 0), .int ((-1 : Int32)), .int (nI 0), .int (nI 1), .int (nI 0), uu]) rfl (by decide +kernel) (by decide) rfl d_X_finds_140 ?_
    refine aw_goto (tgt := 7) (by decide) d_X_finds_143 ?_
    refine aw_iload rfl d_X_finds_7 ?_
    refine aw_bipush (v := nI 6) cb_6 d_X_finds_9 ?_
    refine aw_icmp_geI (tgt := 146) (1) (6) (by decide +kernel) (by decide +kernel) (by decide) d_X_finds_11 (fun q => absurd q (by decide)) (fun _ => ?_)
    refine aw_iconst (v := nI 0) ci_0 d_X_finds_14 ?_
    refine aw_istore (lv2 := [.ref 0, .int (nI 0), .int ((-1 : Int32)), .int (nI 0), .int (nI 1), .int (nI 0), uu]) (by decide) rfl d_X_finds_15 ?_
    refine aw_iload rfl d_X_finds_17 ?_
    refine aw_aload_n rfl rfl d_X_finds_19 ?_
    refine aw_getr fl_X_7 km_0 (by decide) rfl rm_0_0 d_X_finds_20 ?_
    refine aw_sipush (v := nI 130) cs_130 d_X_finds_23 ?_
    refine aw_iload rfl d_X_finds_26 ?_
    refine aw_iadd d_X_finds_28 ?_
    refine aw_top (x2 := nI 131) (by decide +kernel) ?_
    refine aw_iald (j := 131) km_1 (vp_in_nI (by decide) (by decide)) (nI_clamp (by decide)) d_X_finds_29 ?_
    refine aw_top (x2 := nI 0) (Eq.trans (congrFun (upd2_ne (by decide)) (131)) (Eq.trans (congrFun (upd2_ne (by decide)) (131)) (Eq.trans (congrFun (upd2_ne (by decide)) (131)) (Eq.trans (congrFun (upd2_ne (by decide)) (131)) (Eq.trans (congrFun (upd2_ne (by decide)) (131)) (Eq.trans (congrFun (updA_ne (by decide)) (131)) (Eq.trans (congrFun (updA_ne (by decide)) (131)) (g1 1 (by decide))))))))) ?_
    refine aw_icmp_geI (tgt := 140) (0) (0) (by decide +kernel) (by decide +kernel) (by decide) d_X_finds_30 (fun _ => ?_) (fun q => absurd q (by decide))
    refine aw_iinc (v := nI 2) (lv2 := [.ref 0, .int (nI 0), .int ((-1 : Int32)), .int (nI 0), .int (nI 2), .int (nI 0), uu]) rfl (by decide +kernel) (by decide) rfl d_X_finds_140 ?_
    refine aw_goto (tgt := 7) (by decide) d_X_finds_143 ?_
    refine aw_iload rfl d_X_finds_7 ?_
    refine aw_bipush (v := nI 6) cb_6 d_X_finds_9 ?_
    refine aw_icmp_geI (tgt := 146) (2) (6) (by decide +kernel) (by decide +kernel) (by decide) d_X_finds_11 (fun q => absurd q (by decide)) (fun _ => ?_)
    refine aw_iconst (v := nI 0) ci_0 d_X_finds_14 ?_
    refine aw_istore (lv2 := [.ref 0, .int (nI 0), .int ((-1 : Int32)), .int (nI 0), .int (nI 2), .int (nI 0), uu]) (by decide) rfl d_X_finds_15 ?_
    refine aw_iload rfl d_X_finds_17 ?_
    refine aw_aload_n rfl rfl d_X_finds_19 ?_
    refine aw_getr fl_X_7 km_0 (by decide) rfl rm_0_0 d_X_finds_20 ?_
    refine aw_sipush (v := nI 130) cs_130 d_X_finds_23 ?_
    refine aw_iload rfl d_X_finds_26 ?_
    refine aw_iadd d_X_finds_28 ?_
    refine aw_top (x2 := nI 132) (by decide +kernel) ?_
    refine aw_iald (j := 132) km_1 (vp_in_nI (by decide) (by decide)) (nI_clamp (by decide)) d_X_finds_29 ?_
    refine aw_top (x2 := nI 0) (Eq.trans (congrFun (upd2_ne (by decide)) (132)) (Eq.trans (congrFun (upd2_ne (by decide)) (132)) (Eq.trans (congrFun (upd2_ne (by decide)) (132)) (Eq.trans (congrFun (upd2_ne (by decide)) (132)) (Eq.trans (congrFun (upd2_ne (by decide)) (132)) (Eq.trans (congrFun (updA_ne (by decide)) (132)) (Eq.trans (congrFun (updA_ne (by decide)) (132)) (g1 2 (by decide))))))))) ?_
    refine aw_icmp_geI (tgt := 140) (0) (0) (by decide +kernel) (by decide +kernel) (by decide) d_X_finds_30 (fun _ => ?_) (fun q => absurd q (by decide))
    refine aw_iinc (v := nI 3) (lv2 := [.ref 0, .int (nI 0), .int ((-1 : Int32)), .int (nI 0), .int (nI 3), .int (nI 0), uu]) rfl (by decide +kernel) (by decide) rfl d_X_finds_140 ?_
    refine aw_goto (tgt := 7) (by decide) d_X_finds_143 ?_
    refine aw_iload rfl d_X_finds_7 ?_
    refine aw_bipush (v := nI 6) cb_6 d_X_finds_9 ?_
    refine aw_icmp_geI (tgt := 146) (3) (6) (by decide +kernel) (by decide +kernel) (by decide) d_X_finds_11 (fun q => absurd q (by decide)) (fun _ => ?_)
    refine aw_iconst (v := nI 0) ci_0 d_X_finds_14 ?_
    refine aw_istore (lv2 := [.ref 0, .int (nI 0), .int ((-1 : Int32)), .int (nI 0), .int (nI 3), .int (nI 0), uu]) (by decide) rfl d_X_finds_15 ?_
    refine aw_iload rfl d_X_finds_17 ?_
    refine aw_aload_n rfl rfl d_X_finds_19 ?_
    refine aw_getr fl_X_7 km_0 (by decide) rfl rm_0_0 d_X_finds_20 ?_
    refine aw_sipush (v := nI 130) cs_130 d_X_finds_23 ?_
    refine aw_iload rfl d_X_finds_26 ?_
    refine aw_iadd d_X_finds_28 ?_
    refine aw_top (x2 := nI 133) (by decide +kernel) ?_
    refine aw_iald (j := 133) km_1 (vp_in_nI (by decide) (by decide)) (nI_clamp (by decide)) d_X_finds_29 ?_
    refine aw_top (x2 := nI 0) (Eq.trans (congrFun (upd2_ne (by decide)) (133)) (Eq.trans (congrFun (upd2_ne (by decide)) (133)) (Eq.trans (congrFun (upd2_ne (by decide)) (133)) (Eq.trans (congrFun (upd2_ne (by decide)) (133)) (Eq.trans (congrFun (upd2_ne (by decide)) (133)) (Eq.trans (congrFun (updA_ne (by decide)) (133)) (Eq.trans (congrFun (updA_ne (by decide)) (133)) (g1 3 (by decide))))))))) ?_
    refine aw_icmp_geI (tgt := 140) (0) (0) (by decide +kernel) (by decide +kernel) (by decide) d_X_finds_30 (fun _ => ?_) (fun q => absurd q (by decide))
    refine aw_iinc (v := nI 4) (lv2 := [.ref 0, .int (nI 0), .int ((-1 : Int32)), .int (nI 0), .int (nI 4), .int (nI 0), uu]) rfl (by decide +kernel) (by decide) rfl d_X_finds_140 ?_
    refine aw_goto (tgt := 7) (by decide) d_X_finds_143 ?_
    refine aw_iload rfl d_X_finds_7 ?_
    refine aw_bipush (v := nI 6) cb_6 d_X_finds_9 ?_
    refine aw_icmp_geI (tgt := 146) (4) (6) (by decide +kernel) (by decide +kernel) (by decide) d_X_finds_11 (fun q => absurd q (by decide)) (fun _ => ?_)
    refine aw_iconst (v := nI 0) ci_0 d_X_finds_14 ?_
    refine aw_istore (lv2 := [.ref 0, .int (nI 0), .int ((-1 : Int32)), .int (nI 0), .int (nI 4), .int (nI 0), uu]) (by decide) rfl d_X_finds_15 ?_
    refine aw_iload rfl d_X_finds_17 ?_
    refine aw_aload_n rfl rfl d_X_finds_19 ?_
    refine aw_getr fl_X_7 km_0 (by decide) rfl rm_0_0 d_X_finds_20 ?_
    refine aw_sipush (v := nI 130) cs_130 d_X_finds_23 ?_
    refine aw_iload rfl d_X_finds_26 ?_
    refine aw_iadd d_X_finds_28 ?_
    refine aw_top (x2 := nI 134) (by decide +kernel) ?_
    refine aw_iald (j := 134) km_1 (vp_in_nI (by decide) (by decide)) (nI_clamp (by decide)) d_X_finds_29 ?_
    refine aw_top (x2 := nI 0) (Eq.trans (congrFun (upd2_ne (by decide)) (134)) (Eq.trans (congrFun (upd2_ne (by decide)) (134)) (Eq.trans (congrFun (upd2_ne (by decide)) (134)) (Eq.trans (congrFun (upd2_ne (by decide)) (134)) (Eq.trans (congrFun (upd2_ne (by decide)) (134)) (Eq.trans (congrFun (updA_ne (by decide)) (134)) (Eq.trans (congrFun (updA_ne (by decide)) (134)) (g1 4 (by decide))))))))) ?_
    refine aw_icmp_geI (tgt := 140) (0) (0) (by decide +kernel) (by decide +kernel) (by decide) d_X_finds_30 (fun _ => ?_) (fun q => absurd q (by decide))
    refine aw_iinc (v := nI 5) (lv2 := [.ref 0, .int (nI 0), .int ((-1 : Int32)), .int (nI 0), .int (nI 5), .int (nI 0), uu]) rfl (by decide +kernel) (by decide) rfl d_X_finds_140 ?_
    refine aw_goto (tgt := 7) (by decide) d_X_finds_143 ?_
    refine aw_iload rfl d_X_finds_7 ?_
    refine aw_bipush (v := nI 6) cb_6 d_X_finds_9 ?_
    refine aw_icmp_geI (tgt := 146) (5) (6) (by decide +kernel) (by decide +kernel) (by decide) d_X_finds_11 (fun q => absurd q (by decide)) (fun _ => ?_)
    refine aw_iconst (v := nI 0) ci_0 d_X_finds_14 ?_
    refine aw_istore (lv2 := [.ref 0, .int (nI 0), .int ((-1 : Int32)), .int (nI 0), .int (nI 5), .int (nI 0), uu]) (by decide) rfl d_X_finds_15 ?_
    refine aw_iload rfl d_X_finds_17 ?_
    refine aw_aload_n rfl rfl d_X_finds_19 ?_
    refine aw_getr fl_X_7 km_0 (by decide) rfl rm_0_0 d_X_finds_20 ?_
    refine aw_sipush (v := nI 130) cs_130 d_X_finds_23 ?_
    refine aw_iload rfl d_X_finds_26 ?_
    refine aw_iadd d_X_finds_28 ?_
    refine aw_top (x2 := nI 135) (by decide +kernel) ?_
    refine aw_iald (j := 135) km_1 (vp_in_nI (by decide) (by decide)) (nI_clamp (by decide)) d_X_finds_29 ?_
    refine aw_top (x2 := nI 0) (Eq.trans (congrFun (upd2_ne (by decide)) (135)) (Eq.trans (congrFun (upd2_ne (by decide)) (135)) (Eq.trans (congrFun (upd2_ne (by decide)) (135)) (Eq.trans (congrFun (upd2_ne (by decide)) (135)) (Eq.trans (congrFun (upd2_ne (by decide)) (135)) (Eq.trans (congrFun (updA_ne (by decide)) (135)) (Eq.trans (congrFun (updA_ne (by decide)) (135)) (g1 5 (by decide))))))))) ?_
    refine aw_icmp_geI (tgt := 140) (0) (0) (by decide +kernel) (by decide +kernel) (by decide) d_X_finds_30 (fun _ => ?_) (fun q => absurd q (by decide))
    refine aw_iinc (v := nI 6) (lv2 := [.ref 0, .int (nI 0), .int ((-1 : Int32)), .int (nI 0), .int (nI 6), .int (nI 0), uu]) rfl (by decide +kernel) (by decide) rfl d_X_finds_140 ?_
    refine aw_goto (tgt := 7) (by decide) d_X_finds_143 ?_
    refine aw_iload rfl d_X_finds_7 ?_
    refine aw_bipush (v := nI 6) cb_6 d_X_finds_9 ?_
    refine aw_icmp_geI (tgt := 146) (6) (6) (by decide +kernel) (by decide +kernel) (by decide) d_X_finds_11 (fun _ => ?_) (fun q => absurd q (by decide))
    refine aw_iload_n rfl rfl d_X_finds_146 ?_
    refine as_reti rfl d_X_finds_147 ?_
    refine (show As l b 5 y_X_fills KM RM _ (upd2 (upd2 (upd2 (upd2 (upd2 (updA (updA (I) 9 (fun j => if j < 240 then nI 0 else (I) 9 j)) 12 (fun j => if j < 240 then nI 0 else (I) 12 j)) 0 30 (nI (s))) 0 31 (nI 0)) 0 32 (nI 0)) 0 33 (nI 0)) 0 34 (nI 0)) 33 [.ref 0, .int ((-1 : Int32)), uu, uu] [.int ((-1 : Int32))] from ?_)
    refine aw_istore_n (lv2 := [.ref 0, .int ((-1 : Int32)), uu, uu]) rfl (by decide) rfl d_X_fills_33 ?_
    refine aw_iload_n rfl rfl d_X_fills_34 ?_
    refine aw_iconst (v := (-1 : Int32)) rfl d_X_fills_35 ?_
    refine aw_icmp_neI (tgt := 42) (-1) (-1) (by decide +kernel) (by decide +kernel) (by decide) d_X_fills_36 (fun q => absurd q (by decide)) (fun _ => ?_)
    refine aw_goto (tgt := 123) (by decide) d_X_fills_39 ?_
    refine aw_aload_n rfl rfl d_X_fills_123 ?_
    refine as_callV (as := []) (d' := 4) (q := ("SinglesUpModel", zT9, 51)) mo_X_parts0 lk_X_322 km_0 rfl rfl rfl ⟨by decide, by decide⟩ rfl rfl (by decide) d_X_fills_124 (Ss.of (show As l b 4 y_X_parts0 KM RM _ (upd2 (upd2 (upd2 (upd2 (upd2 (updA (updA (I) 9 (fun j => if j < 240 then nI 0 else (I) 9 j)) 12 (fun j => if j < 240 then nI 0 else (I) 12 j)) 0 30 (nI (s))) 0 31 (nI 0)) 0 32 (nI 0)) 0 33 (nI 0)) 0 34 (nI 0)) 0 [.ref 0, uu, uu, uu] [] from ?_))
    refine aw_iconst (v := nI 0) ci_0 d_X_parts0_0 ?_
    refine aw_istore_n (lv2 := [.ref 0, .int (nI 0), uu, uu]) rfl (by decide) rfl d_X_parts0_1 ?_
    refine aw_iload_n rfl rfl d_X_parts0_2 ?_
    refine aw_bipush (v := nI 6) cb_6 d_X_parts0_3 ?_
    refine aw_icmp_geI (tgt := 133) (0) (6) (by decide +kernel) (by decide +kernel) (by decide) d_X_parts0_5 (fun q => absurd q (by decide)) (fun _ => ?_)
    refine aw_aload_n rfl rfl d_X_parts0_8 ?_
    refine aw_geti fl_X_296 km_0 (by decide) rfl d_X_parts0_9 ?_
    refine aw_top (x2 := nI 0) (Eq.trans (upd2_nx (by omega)) (upd2_eq)) ?_
    refine aw_if_neI (tgt := 133) (0) (by decide +kernel) (by decide) d_X_parts0_12 (fun q => absurd q (by decide)) (fun _ => ?_)
    refine aw_iconst (v := nI 0) ci_0 d_X_parts0_15 ?_
    refine aw_istore_n (lv2 := [.ref 0, .int (nI 0), .int (nI 0), uu]) rfl (by decide) rfl d_X_parts0_16 ?_
    refine aw_iload_n rfl rfl d_X_parts0_17 ?_
    refine aw_aload_n rfl rfl d_X_parts0_18 ?_
    refine aw_getr fl_X_7 km_0 (by decide) rfl rm_0_0 d_X_parts0_19 ?_
    refine aw_sipush (v := nI 130) cs_130 d_X_parts0_22 ?_
    refine aw_iload_n rfl rfl d_X_parts0_25 ?_
    refine aw_iadd d_X_parts0_26 ?_
    refine aw_top (x2 := nI 130) (by decide +kernel) ?_
    refine aw_iald (j := 130) km_1 (vp_in_nI (by decide) (by decide)) (nI_clamp (by decide)) d_X_parts0_27 ?_
    refine aw_top (x2 := nI 0) (Eq.trans (congrFun (upd2_ne (by decide)) (130)) (Eq.trans (congrFun (upd2_ne (by decide)) (130)) (Eq.trans (congrFun (upd2_ne (by decide)) (130)) (Eq.trans (congrFun (upd2_ne (by decide)) (130)) (Eq.trans (congrFun (upd2_ne (by decide)) (130)) (Eq.trans (congrFun (updA_ne (by decide)) (130)) (Eq.trans (congrFun (updA_ne (by decide)) (130)) (g1 0 (by decide))))))))) ?_
    refine aw_icmp_geI (tgt := 127) (0) (0) (by decide +kernel) (by decide +kernel) (by decide) d_X_parts0_28 (fun _ => ?_) (fun q => absurd q (by decide))
    refine aw_iinc (v := nI 1) (lv2 := [.ref 0, .int (nI 1), .int (nI 0), uu]) rfl (by decide +kernel) (by decide) rfl d_X_parts0_127 ?_
    refine aw_goto (tgt := 2) (by decide) d_X_parts0_130 ?_
    refine aw_iload_n rfl rfl d_X_parts0_2 ?_
    refine aw_bipush (v := nI 6) cb_6 d_X_parts0_3 ?_
    refine aw_icmp_geI (tgt := 133) (1) (6) (by decide +kernel) (by decide +kernel) (by decide) d_X_parts0_5 (fun q => absurd q (by decide)) (fun _ => ?_)
    refine aw_aload_n rfl rfl d_X_parts0_8 ?_
    refine aw_geti fl_X_296 km_0 (by decide) rfl d_X_parts0_9 ?_
    refine aw_top (x2 := nI 0) (Eq.trans (upd2_nx (by omega)) (upd2_eq)) ?_
    refine aw_if_neI (tgt := 133) (0) (by decide +kernel) (by decide) d_X_parts0_12 (fun q => absurd q (by decide)) (fun _ => ?_)
    refine aw_iconst (v := nI 0) ci_0 d_X_parts0_15 ?_
    refine aw_istore_n (lv2 := [.ref 0, .int (nI 1), .int (nI 0), uu]) rfl (by decide) rfl d_X_parts0_16 ?_
    refine aw_iload_n rfl rfl d_X_parts0_17 ?_
    refine aw_aload_n rfl rfl d_X_parts0_18 ?_
    refine aw_getr fl_X_7 km_0 (by decide) rfl rm_0_0 d_X_parts0_19 ?_
    refine aw_sipush (v := nI 130) cs_130 d_X_parts0_22 ?_
    refine aw_iload_n rfl rfl d_X_parts0_25 ?_
    refine aw_iadd d_X_parts0_26 ?_
    refine aw_top (x2 := nI 131) (by decide +kernel) ?_
    refine aw_iald (j := 131) km_1 (vp_in_nI (by decide) (by decide)) (nI_clamp (by decide)) d_X_parts0_27 ?_
    refine aw_top (x2 := nI 0) (Eq.trans (congrFun (upd2_ne (by decide)) (131)) (Eq.trans (congrFun (upd2_ne (by decide)) (131)) (Eq.trans (congrFun (upd2_ne (by decide)) (131)) (Eq.trans (congrFun (upd2_ne (by decide)) (131)) (Eq.trans (congrFun (upd2_ne (by decide)) (131)) (Eq.trans (congrFun (updA_ne (by decide)) (131)) (Eq.trans (congrFun (updA_ne (by decide)) (131)) (g1 1 (by decide))))))))) ?_
    refine aw_icmp_geI (tgt := 127) (0) (0) (by decide +kernel) (by decide +kernel) (by decide) d_X_parts0_28 (fun _ => ?_) (fun q => absurd q (by decide))
    refine aw_iinc (v := nI 2) (lv2 := [.ref 0, .int (nI 2), .int (nI 0), uu]) rfl (by decide +kernel) (by decide) rfl d_X_parts0_127 ?_
    refine aw_goto (tgt := 2) (by decide) d_X_parts0_130 ?_
    refine aw_iload_n rfl rfl d_X_parts0_2 ?_
    refine aw_bipush (v := nI 6) cb_6 d_X_parts0_3 ?_
    refine aw_icmp_geI (tgt := 133) (2) (6) (by decide +kernel) (by decide +kernel) (by decide) d_X_parts0_5 (fun q => absurd q (by decide)) (fun _ => ?_)
    refine aw_aload_n rfl rfl d_X_parts0_8 ?_
    refine aw_geti fl_X_296 km_0 (by decide) rfl d_X_parts0_9 ?_
    refine aw_top (x2 := nI 0) (Eq.trans (upd2_nx (by omega)) (upd2_eq)) ?_
    refine aw_if_neI (tgt := 133) (0) (by decide +kernel) (by decide) d_X_parts0_12 (fun q => absurd q (by decide)) (fun _ => ?_)
    refine aw_iconst (v := nI 0) ci_0 d_X_parts0_15 ?_
    refine aw_istore_n (lv2 := [.ref 0, .int (nI 2), .int (nI 0), uu]) rfl (by decide) rfl d_X_parts0_16 ?_
    refine aw_iload_n rfl rfl d_X_parts0_17 ?_
    refine aw_aload_n rfl rfl d_X_parts0_18 ?_
    refine aw_getr fl_X_7 km_0 (by decide) rfl rm_0_0 d_X_parts0_19 ?_
    refine aw_sipush (v := nI 130) cs_130 d_X_parts0_22 ?_
    refine aw_iload_n rfl rfl d_X_parts0_25 ?_
    refine aw_iadd d_X_parts0_26 ?_
    refine aw_top (x2 := nI 132) (by decide +kernel) ?_
    refine aw_iald (j := 132) km_1 (vp_in_nI (by decide) (by decide)) (nI_clamp (by decide)) d_X_parts0_27 ?_
    refine aw_top (x2 := nI 0) (Eq.trans (congrFun (upd2_ne (by decide)) (132)) (Eq.trans (congrFun (upd2_ne (by decide)) (132)) (Eq.trans (congrFun (upd2_ne (by decide)) (132)) (Eq.trans (congrFun (upd2_ne (by decide)) (132)) (Eq.trans (congrFun (upd2_ne (by decide)) (132)) (Eq.trans (congrFun (updA_ne (by decide)) (132)) (Eq.trans (congrFun (updA_ne (by decide)) (132)) (g1 2 (by decide))))))))) ?_
    refine aw_icmp_geI (tgt := 127) (0) (0) (by decide +kernel) (by decide +kernel) (by decide) d_X_parts0_28 (fun _ => ?_) (fun q => absurd q (by decide))
    refine aw_iinc (v := nI 3) (lv2 := [.ref 0, .int (nI 3), .int (nI 0), uu]) rfl (by decide +kernel) (by decide) rfl d_X_parts0_127 ?_
    refine aw_goto (tgt := 2) (by decide) d_X_parts0_130 ?_
    refine aw_iload_n rfl rfl d_X_parts0_2 ?_
    refine aw_bipush (v := nI 6) cb_6 d_X_parts0_3 ?_
    refine aw_icmp_geI (tgt := 133) (3) (6) (by decide +kernel) (by decide +kernel) (by decide) d_X_parts0_5 (fun q => absurd q (by decide)) (fun _ => ?_)
    refine aw_aload_n rfl rfl d_X_parts0_8 ?_
    refine aw_geti fl_X_296 km_0 (by decide) rfl d_X_parts0_9 ?_
    refine aw_top (x2 := nI 0) (Eq.trans (upd2_nx (by omega)) (upd2_eq)) ?_
    refine aw_if_neI (tgt := 133) (0) (by decide +kernel) (by decide) d_X_parts0_12 (fun q => absurd q (by decide)) (fun _ => ?_)
    refine aw_iconst (v := nI 0) ci_0 d_X_parts0_15 ?_
    refine aw_istore_n (lv2 := [.ref 0, .int (nI 3), .int (nI 0), uu]) rfl (by decide) rfl d_X_parts0_16 ?_
    refine aw_iload_n rfl rfl d_X_parts0_17 ?_
    refine aw_aload_n rfl rfl d_X_parts0_18 ?_
    refine aw_getr fl_X_7 km_0 (by decide) rfl rm_0_0 d_X_parts0_19 ?_
    refine aw_sipush (v := nI 130) cs_130 d_X_parts0_22 ?_
    refine aw_iload_n rfl rfl d_X_parts0_25 ?_
    refine aw_iadd d_X_parts0_26 ?_
    refine aw_top (x2 := nI 133) (by decide +kernel) ?_
    refine aw_iald (j := 133) km_1 (vp_in_nI (by decide) (by decide)) (nI_clamp (by decide)) d_X_parts0_27 ?_
    refine aw_top (x2 := nI 0) (Eq.trans (congrFun (upd2_ne (by decide)) (133)) (Eq.trans (congrFun (upd2_ne (by decide)) (133)) (Eq.trans (congrFun (upd2_ne (by decide)) (133)) (Eq.trans (congrFun (upd2_ne (by decide)) (133)) (Eq.trans (congrFun (upd2_ne (by decide)) (133)) (Eq.trans (congrFun (updA_ne (by decide)) (133)) (Eq.trans (congrFun (updA_ne (by decide)) (133)) (g1 3 (by decide))))))))) ?_
    refine aw_icmp_geI (tgt := 127) (0) (0) (by decide +kernel) (by decide +kernel) (by decide) d_X_parts0_28 (fun _ => ?_) (fun q => absurd q (by decide))
    refine aw_iinc (v := nI 4) (lv2 := [.ref 0, .int (nI 4), .int (nI 0), uu]) rfl (by decide +kernel) (by decide) rfl d_X_parts0_127 ?_
    refine aw_goto (tgt := 2) (by decide) d_X_parts0_130 ?_
    refine aw_iload_n rfl rfl d_X_parts0_2 ?_
    refine aw_bipush (v := nI 6) cb_6 d_X_parts0_3 ?_
    refine aw_icmp_geI (tgt := 133) (4) (6) (by decide +kernel) (by decide +kernel) (by decide) d_X_parts0_5 (fun q => absurd q (by decide)) (fun _ => ?_)
    refine aw_aload_n rfl rfl d_X_parts0_8 ?_
    refine aw_geti fl_X_296 km_0 (by decide) rfl d_X_parts0_9 ?_
    refine aw_top (x2 := nI 0) (Eq.trans (upd2_nx (by omega)) (upd2_eq)) ?_
    refine aw_if_neI (tgt := 133) (0) (by decide +kernel) (by decide) d_X_parts0_12 (fun q => absurd q (by decide)) (fun _ => ?_)
    refine aw_iconst (v := nI 0) ci_0 d_X_parts0_15 ?_
    refine aw_istore_n (lv2 := [.ref 0, .int (nI 4), .int (nI 0), uu]) rfl (by decide) rfl d_X_parts0_16 ?_
    refine aw_iload_n rfl rfl d_X_parts0_17 ?_
    refine aw_aload_n rfl rfl d_X_parts0_18 ?_
    refine aw_getr fl_X_7 km_0 (by decide) rfl rm_0_0 d_X_parts0_19 ?_
    refine aw_sipush (v := nI 130) cs_130 d_X_parts0_22 ?_
    refine aw_iload_n rfl rfl d_X_parts0_25 ?_
    refine aw_iadd d_X_parts0_26 ?_
    refine aw_top (x2 := nI 134) (by decide +kernel) ?_
    refine aw_iald (j := 134) km_1 (vp_in_nI (by decide) (by decide)) (nI_clamp (by decide)) d_X_parts0_27 ?_
    refine aw_top (x2 := nI 0) (Eq.trans (congrFun (upd2_ne (by decide)) (134)) (Eq.trans (congrFun (upd2_ne (by decide)) (134)) (Eq.trans (congrFun (upd2_ne (by decide)) (134)) (Eq.trans (congrFun (upd2_ne (by decide)) (134)) (Eq.trans (congrFun (upd2_ne (by decide)) (134)) (Eq.trans (congrFun (updA_ne (by decide)) (134)) (Eq.trans (congrFun (updA_ne (by decide)) (134)) (g1 4 (by decide))))))))) ?_
    refine aw_icmp_geI (tgt := 127) (0) (0) (by decide +kernel) (by decide +kernel) (by decide) d_X_parts0_28 (fun _ => ?_) (fun q => absurd q (by decide))
    refine aw_iinc (v := nI 5) (lv2 := [.ref 0, .int (nI 5), .int (nI 0), uu]) rfl (by decide +kernel) (by decide) rfl d_X_parts0_127 ?_
    refine aw_goto (tgt := 2) (by decide) d_X_parts0_130 ?_
    refine aw_iload_n rfl rfl d_X_parts0_2 ?_
    refine aw_bipush (v := nI 6) cb_6 d_X_parts0_3 ?_
    refine aw_icmp_geI (tgt := 133) (5) (6) (by decide +kernel) (by decide +kernel) (by decide) d_X_parts0_5 (fun q => absurd q (by decide)) (fun _ => ?_)
    refine aw_aload_n rfl rfl d_X_parts0_8 ?_
    refine aw_geti fl_X_296 km_0 (by decide) rfl d_X_parts0_9 ?_
    refine aw_top (x2 := nI 0) (Eq.trans (upd2_nx (by omega)) (upd2_eq)) ?_
    refine aw_if_neI (tgt := 133) (0) (by decide +kernel) (by decide) d_X_parts0_12 (fun q => absurd q (by decide)) (fun _ => ?_)
    refine aw_iconst (v := nI 0) ci_0 d_X_parts0_15 ?_
    refine aw_istore_n (lv2 := [.ref 0, .int (nI 5), .int (nI 0), uu]) rfl (by decide) rfl d_X_parts0_16 ?_
    refine aw_iload_n rfl rfl d_X_parts0_17 ?_
    refine aw_aload_n rfl rfl d_X_parts0_18 ?_
    refine aw_getr fl_X_7 km_0 (by decide) rfl rm_0_0 d_X_parts0_19 ?_
    refine aw_sipush (v := nI 130) cs_130 d_X_parts0_22 ?_
    refine aw_iload_n rfl rfl d_X_parts0_25 ?_
    refine aw_iadd d_X_parts0_26 ?_
    refine aw_top (x2 := nI 135) (by decide +kernel) ?_
    refine aw_iald (j := 135) km_1 (vp_in_nI (by decide) (by decide)) (nI_clamp (by decide)) d_X_parts0_27 ?_
    refine aw_top (x2 := nI 0) (Eq.trans (congrFun (upd2_ne (by decide)) (135)) (Eq.trans (congrFun (upd2_ne (by decide)) (135)) (Eq.trans (congrFun (upd2_ne (by decide)) (135)) (Eq.trans (congrFun (upd2_ne (by decide)) (135)) (Eq.trans (congrFun (upd2_ne (by decide)) (135)) (Eq.trans (congrFun (updA_ne (by decide)) (135)) (Eq.trans (congrFun (updA_ne (by decide)) (135)) (g1 5 (by decide))))))))) ?_
    refine aw_icmp_geI (tgt := 127) (0) (0) (by decide +kernel) (by decide +kernel) (by decide) d_X_parts0_28 (fun _ => ?_) (fun q => absurd q (by decide))
    refine aw_iinc (v := nI 6) (lv2 := [.ref 0, .int (nI 6), .int (nI 0), uu]) rfl (by decide +kernel) (by decide) rfl d_X_parts0_127 ?_
    refine aw_goto (tgt := 2) (by decide) d_X_parts0_130 ?_
    refine aw_iload_n rfl rfl d_X_parts0_2 ?_
    refine aw_bipush (v := nI 6) cb_6 d_X_parts0_3 ?_
    refine aw_icmp_geI (tgt := 133) (6) (6) (by decide +kernel) (by decide +kernel) (by decide) d_X_parts0_5 (fun _ => ?_) (fun q => absurd q (by decide))
    refine as_retv rfl d_X_parts0_133 ?_
    refine (show As l b 5 y_X_fills KM RM _ (upd2 (upd2 (upd2 (upd2 (upd2 (updA (updA (I) 9 (fun j => if j < 240 then nI 0 else (I) 9 j)) 12 (fun j => if j < 240 then nI 0 else (I) 12 j)) 0 30 (nI (s))) 0 31 (nI 0)) 0 32 (nI 0)) 0 33 (nI 0)) 0 34 (nI 0)) 127 [.ref 0, .int ((-1 : Int32)), uu, uu] [] from ?_)
    refine as_retv rfl d_X_fills_127 ?_
    refine (show As l b 6 y_X_chair KM RM K2 (upd2 (upd2 (upd2 (upd2 (upd2 (updA (updA (I) 9 (fun j => if j < 240 then nI 0 else (I) 9 j)) 12 (fun j => if j < 240 then nI 0 else (I) 12 j)) 0 30 (nI (s))) 0 31 (nI 0)) 0 32 (nI 0)) 0 33 (nI 0)) 0 34 (nI 0)) 4 [.ref 0] [] from ?_)
    refine aw_aload_n rfl rfl d_X_chair_4 ?_
    refine as_callV (as := []) (d' := 5) (q := ("SinglesUpModel", zT9, 51)) mo_X_goesOff lk_X_335 km_0 rfl rfl rfl ⟨by decide, by decide⟩ rfl rfl (by decide) d_X_chair_5 (Ss.of (show As l b 5 y_X_goesOff KM RM _ (upd2 (upd2 (upd2 (upd2 (upd2 (updA (updA (I) 9 (fun j => if j < 240 then nI 0 else (I) 9 j)) 12 (fun j => if j < 240 then nI 0 else (I) 12 j)) 0 30 (nI (s))) 0 31 (nI 0)) 0 32 (nI 0)) 0 33 (nI 0)) 0 34 (nI 0)) 0 [.ref 0, uu, uu, uu, uu, uu, uu] [] from ?_))
    refine aw_aload_n rfl rfl d_X_goesOff_0 ?_
    refine aw_getr fl_X_7 km_0 (by decide) rfl rm_0_0 d_X_goesOff_1 ?_
    refine aw_iconst (v := nI 1) ci_1 d_X_goesOff_4 ?_
    refine aw_iald (j := 1) km_1 (vp_in_nI (by decide) (by decide)) (nI_clamp (by decide)) d_X_goesOff_5 ?_
    refine aw_top (x2 := nI (s)) (Eq.trans (congrFun (upd2_ne (by decide)) (1)) (Eq.trans (congrFun (upd2_ne (by decide)) (1)) (Eq.trans (congrFun (upd2_ne (by decide)) (1)) (Eq.trans (congrFun (upd2_ne (by decide)) (1)) (Eq.trans (congrFun (upd2_ne (by decide)) (1)) (Eq.trans (congrFun (updA_ne (by decide)) (1)) (Eq.trans (congrFun (updA_ne (by decide)) (1)) (g3)))))))) ?_
    refine aw_aload_n rfl rfl d_X_goesOff_6 ?_
    refine aw_geti fl_X_289 km_0 (by decide) rfl d_X_goesOff_7 ?_
    refine aw_top (x2 := nI (s)) (Eq.trans (upd2_nx (by omega)) (Eq.trans (upd2_nx (by omega)) (Eq.trans (upd2_nx (by omega)) (Eq.trans (upd2_nx (by omega)) (upd2_eq))))) ?_
    refine aw_isubN (by omega) d_X_goesOff_10 ?_
    refine aw_top (x2 := nI 0) (congrArg nI (Nat.sub_self s)) ?_
    refine aw_istore_n (lv2 := [.ref 0, .int (nI 0), uu, uu, uu, uu, uu]) rfl (by decide) rfl d_X_goesOff_11 ?_
    refine aw_aload_n rfl rfl d_X_goesOff_12 ?_
    refine aw_getr fl_X_7 km_0 (by decide) rfl rm_0_0 d_X_goesOff_13 ?_
    refine aw_bipush (v := nI 71) cb_71 d_X_goesOff_16 ?_
    refine aw_dup2 rfl rfl d_X_goesOff_18 ?_
    refine aw_iald (j := 71) km_1 (vp_in_nI (by decide) (by decide)) (nI_clamp (by decide)) d_X_goesOff_19 ?_
    refine aw_top (x2 := nI (e)) (Eq.trans (congrFun (upd2_ne (by decide)) (71)) (Eq.trans (congrFun (upd2_ne (by decide)) (71)) (Eq.trans (congrFun (upd2_ne (by decide)) (71)) (Eq.trans (congrFun (upd2_ne (by decide)) (71)) (Eq.trans (congrFun (upd2_ne (by decide)) (71)) (Eq.trans (congrFun (updA_ne (by decide)) (71)) (Eq.trans (congrFun (updA_ne (by decide)) (71)) (g5)))))))) ?_
    refine aw_aload_n rfl rfl d_X_goesOff_20 ?_
    refine aw_geti fl_X_289 km_0 (by decide) rfl d_X_goesOff_21 ?_
    refine aw_top (x2 := nI (s)) (Eq.trans (upd2_nx (by omega)) (Eq.trans (upd2_nx (by omega)) (Eq.trans (upd2_nx (by omega)) (Eq.trans (upd2_nx (by omega)) (upd2_eq))))) ?_
    refine aw_iaddN d_X_goesOff_24 ?_
    refine aw_iast (j := 71) km_1 (vp_in_nI (by decide) (by decide)) (nI_clamp (by decide)) d_X_goesOff_25 ?_
    refine aw_aload_n rfl rfl d_X_goesOff_26 ?_
    refine aw_getr fl_X_7 km_0 (by decide) rfl rm_0_0 d_X_goesOff_27 ?_
    refine aw_bipush (v := nI 72) cb_72 d_X_goesOff_30 ?_
    refine aw_dup2 rfl rfl d_X_goesOff_32 ?_
    refine aw_iald (j := 72) km_1 (vp_in_nI (by decide) (by decide)) (nI_clamp (by decide)) d_X_goesOff_33 ?_
    refine aw_top (x2 := nI 0) (Eq.trans (upd2_nx (by omega)) (Eq.trans (congrFun (upd2_ne (by decide)) (72)) (Eq.trans (congrFun (upd2_ne (by decide)) (72)) (Eq.trans (congrFun (upd2_ne (by decide)) (72)) (Eq.trans (congrFun (upd2_ne (by decide)) (72)) (Eq.trans (congrFun (upd2_ne (by decide)) (72)) (Eq.trans (congrFun (updA_ne (by decide)) (72)) (Eq.trans (congrFun (updA_ne (by decide)) (72)) (g7))))))))) ?_
    refine aw_iload_n rfl rfl d_X_goesOff_34 ?_
    refine aw_iadd d_X_goesOff_35 ?_
    refine aw_top (x2 := nI 0) (by decide +kernel) ?_
    refine aw_iast (j := 72) km_1 (vp_in_nI (by decide) (by decide)) (nI_clamp (by decide)) d_X_goesOff_36 ?_
    refine aw_aload_n rfl rfl d_X_goesOff_37 ?_
    refine aw_getr fl_X_7 km_0 (by decide) rfl rm_0_0 d_X_goesOff_38 ?_
    refine aw_bipush (v := nI 110) cb_110 d_X_goesOff_41 ?_
    refine aw_aload_n rfl rfl d_X_goesOff_43 ?_
    refine aw_geti fl_X_291 km_0 (by decide) rfl d_X_goesOff_44 ?_
    refine aw_top (x2 := nI 0) (Eq.trans (congrFun (upd2_ne (by decide)) (31)) (Eq.trans (congrFun (upd2_ne (by decide)) (31)) (Eq.trans (upd2_nx (by omega)) (Eq.trans (upd2_nx (by omega)) (Eq.trans (upd2_nx (by omega)) (upd2_eq)))))) ?_
    refine aw_iast (j := 110) km_1 (vp_in_nI (by decide) (by decide)) (nI_clamp (by decide)) d_X_goesOff_47 ?_
    refine aw_aload_n rfl rfl d_X_goesOff_48 ?_
    refine aw_getr fl_X_7 km_0 (by decide) rfl rm_0_0 d_X_goesOff_49 ?_
    refine aw_bipush (v := nI 111) cb_111 d_X_goesOff_52 ?_
    refine aw_aload_n rfl rfl d_X_goesOff_54 ?_
    refine aw_geti fl_X_289 km_0 (by decide) rfl d_X_goesOff_55 ?_
    refine aw_top (x2 := nI (s)) (Eq.trans (congrFun (upd2_ne (by decide)) (30)) (Eq.trans (congrFun (upd2_ne (by decide)) (30)) (Eq.trans (congrFun (upd2_ne (by decide)) (30)) (Eq.trans (upd2_nx (by omega)) (Eq.trans (upd2_nx (by omega)) (Eq.trans (upd2_nx (by omega)) (Eq.trans (upd2_nx (by omega)) (upd2_eq)))))))) ?_
    refine aw_iast (j := 111) km_1 (vp_in_nI (by decide) (by decide)) (nI_clamp (by decide)) d_X_goesOff_58 ?_
    refine aw_iconst (v := nI 0) ci_0 d_X_goesOff_59 ?_
    refine aw_istore_n (lv2 := [.ref 0, .int (nI 0), .int (nI 0), uu, uu, uu, uu]) rfl (by decide) rfl d_X_goesOff_60 ?_
    refine aw_iload_n rfl rfl d_X_goesOff_61 ?_
    refine aw_aload_n rfl rfl d_X_goesOff_62 ?_
    refine aw_geti fl_X_291 km_0 (by decide) rfl d_X_goesOff_63 ?_
    refine aw_top (x2 := nI 0) (Eq.trans (congrFun (upd2_ne (by decide)) (31)) (Eq.trans (congrFun (upd2_ne (by decide)) (31)) (Eq.trans (congrFun (upd2_ne (by decide)) (31)) (Eq.trans (congrFun (upd2_ne (by decide)) (31)) (Eq.trans (upd2_nx (by omega)) (Eq.trans (upd2_nx (by omega)) (Eq.trans (upd2_nx (by omega)) (upd2_eq)))))))) ?_
    refine aw_icmp_geI (tgt := 203) (0) (0) (by decide +kernel) (by decide +kernel) (by decide) d_X_goesOff_66 (fun _ => ?_) (fun q => absurd q (by decide))
    refine aw_iconst (v := nI 0) ci_0 d_X_goesOff_203 ?_
    refine aw_istore_n (lv2 := [.ref 0, .int (nI 0), .int (nI 0), uu, uu, uu, uu]) rfl (by decide) rfl d_X_goesOff_204 ?_
    refine aw_iload_n rfl rfl d_X_goesOff_205 ?_
    refine aw_aload_n rfl rfl d_X_goesOff_206 ?_
    refine aw_geti fl_X_293 km_0 (by decide) rfl d_X_goesOff_207 ?_
    refine aw_top (x2 := nI 0) (Eq.trans (congrFun (upd2_ne (by decide)) (32)) (Eq.trans (congrFun (upd2_ne (by decide)) (32)) (Eq.trans (congrFun (upd2_ne (by decide)) (32)) (Eq.trans (congrFun (upd2_ne (by decide)) (32)) (Eq.trans (upd2_nx (by omega)) (Eq.trans (upd2_nx (by omega)) (upd2_eq))))))) ?_
    refine aw_icmp_geI (tgt := 264) (0) (0) (by decide +kernel) (by decide +kernel) (by decide) d_X_goesOff_210 (fun _ => ?_) (fun q => absurd q (by decide))
    refine aw_iconst (v := nI 0) ci_0 d_X_goesOff_264 ?_
    refine aw_istore_n (lv2 := [.ref 0, .int (nI 0), .int (nI 0), uu, uu, uu, uu]) rfl (by decide) rfl d_X_goesOff_265 ?_
    refine aw_iload_n rfl rfl d_X_goesOff_266 ?_
    refine aw_bipush (v := nI 6) cb_6 d_X_goesOff_267 ?_
    refine aw_icmp_geI (tgt := 283) (0) (6) (by decide +kernel) (by decide +kernel) (by decide) d_X_goesOff_269 (fun q => absurd q (by decide)) (fun _ => ?_)
    refine aw_aload_n rfl rfl d_X_goesOff_272 ?_
    refine aw_iload_n rfl rfl d_X_goesOff_273 ?_
    refine as_callV (as := [.int (nI 0)]) (d' := 4) (q := ("SinglesUpModel", zT9, 51)) mo_X_movesUp lk_X_325 km_0 rfl rfl rfl ⟨by decide, by decide⟩ rfl rfl (by decide) d_X_goesOff_274 (Ss.of (show As l b 4 y_X_movesUp KM RM _ (upd2 (upd2 (upd2 (upd2 (upd2 (upd2 (upd2 (upd2 (upd2 (updA (updA (I) 9 (fun j => if j < 240 then nI 0 else (I) 9 j)) 12 (fun j => if j < 240 then nI 0 else (I) 12 j)) 0 30 (nI (s))) 0 31 (nI 0)) 0 32 (nI 0)) 0 33 (nI 0)) 0 34 (nI 0)) 1 (71) (nI ((e + s)))) 1 (72) (nI 0)) 1 (110) (nI 0)) 1 (111) (nI (s))) 0 [.ref 0, .int (nI 0), uu, uu, uu, uu, uu, uu, uu] [] from ?_))
    refine aw_aload_n rfl rfl d_X_movesUp_0 ?_
    refine aw_getr fl_X_7 km_0 (by decide) rfl rm_0_0 d_X_movesUp_1 ?_
    refine aw_sipush (v := nI 130) cs_130 d_X_movesUp_4 ?_
    refine aw_iload_n rfl rfl d_X_movesUp_7 ?_
    refine aw_iadd d_X_movesUp_8 ?_
    refine aw_top (x2 := nI 130) (by decide +kernel) ?_
    refine aw_iald (j := 130) km_1 (vp_in_nI (by decide) (by decide)) (nI_clamp (by decide)) d_X_movesUp_9 ?_
    refine aw_top (x2 := nI 0) (Eq.trans (upd2_nx (by omega)) (Eq.trans (upd2_nx (by omega)) (Eq.trans (upd2_nx (by omega)) (Eq.trans (upd2_nx (by omega)) (Eq.trans (congrFun (upd2_ne (by decide)) (130)) (Eq.trans (congrFun (upd2_ne (by decide)) (130)) (Eq.trans (congrFun (upd2_ne (by decide)) (130)) (Eq.trans (congrFun (upd2_ne (by decide)) (130)) (Eq.trans (congrFun (upd2_ne (by decide)) (130)) (Eq.trans (congrFun (updA_ne (by decide)) (130)) (Eq.trans (congrFun (updA_ne (by decide)) (130)) (g1 0 (by decide))))))))))))) ?_
    refine aw_istore_n (lv2 := [.ref 0, .int (nI 0), .int (nI 0), uu, uu, uu, uu, uu, uu]) rfl (by decide) rfl d_X_movesUp_10 ?_
    refine aw_iconst (v := nI 0) ci_0 d_X_movesUp_11 ?_
    refine aw_istore_n (lv2 := [.ref 0, .int (nI 0), .int (nI 0), .int (nI 0), uu, uu, uu, uu, uu]) rfl (by decide) rfl d_X_movesUp_12 ?_
    refine aw_iconst (v := nI 0) ci_0 d_X_movesUp_13 ?_
    refine aw_istore (lv2 := [.ref 0, .int (nI 0), .int (nI 0), .int (nI 0), .int (nI 0), uu, uu, uu, uu]) (by decide) rfl d_X_movesUp_14 ?_
    refine aw_iload rfl d_X_movesUp_16 ?_
    refine aw_iload_n rfl rfl d_X_movesUp_18 ?_
    refine aw_icmp_geI (tgt := 51) (0) (0) (by decide +kernel) (by decide +kernel) (by decide) d_X_movesUp_19 (fun _ => ?_) (fun q => absurd q (by decide))
    refine aw_iconst (v := nI 0) ci_0 d_X_movesUp_51 ?_
    refine aw_istore (lv2 := [.ref 0, .int (nI 0), .int (nI 0), .int (nI 0), .int (nI 0), uu, uu, uu, uu]) (by decide) rfl d_X_movesUp_52 ?_
    refine aw_iconst (v := nI 0) ci_0 d_X_movesUp_54 ?_
    refine aw_istore (lv2 := [.ref 0, .int (nI 0), .int (nI 0), .int (nI 0), .int (nI 0), .int (nI 0), uu, uu, uu]) (by decide) rfl d_X_movesUp_55 ?_
    refine aw_iload rfl d_X_movesUp_57 ?_
    refine aw_iload_n rfl rfl d_X_movesUp_59 ?_
    refine aw_icmp_geI (tgt := 254) (0) (0) (by decide +kernel) (by decide +kernel) (by decide) d_X_movesUp_60 (fun _ => ?_) (fun q => absurd q (by decide))
    refine aw_aload_n rfl rfl d_X_movesUp_254 ?_
    refine aw_getr fl_X_7 km_0 (by decide) rfl rm_0_0 d_X_movesUp_255 ?_
    refine aw_sipush (v := nI 130) cs_130 d_X_movesUp_258 ?_
    refine aw_iload_n rfl rfl d_X_movesUp_261 ?_
    refine aw_iadd d_X_movesUp_262 ?_
    refine aw_top (x2 := nI 130) (by decide +kernel) ?_
    refine aw_iload rfl d_X_movesUp_263 ?_
    refine aw_iast (j := 130) km_1 (vp_in_nI (by decide) (by decide)) (nI_clamp (by decide)) d_X_movesUp_265 ?_
    refine as_retv rfl d_X_movesUp_266 ?_
    refine (show As l b 5 y_X_goesOff KM RM _ (upd2 (upd2 (upd2 (upd2 (upd2 (upd2 (upd2 (upd2 (upd2 (upd2 (updA (updA (I) 9 (fun j => if j < 240 then nI 0 else (I) 9 j)) 12 (fun j => if j < 240 then nI 0 else (I) 12 j)) 0 30 (nI (s))) 0 31 (nI 0)) 0 32 (nI 0)) 0 33 (nI 0)) 0 34 (nI 0)) 1 (71) (nI ((e + s)))) 1 (72) (nI 0)) 1 (110) (nI 0)) 1 (111) (nI (s))) 1 (130) (nI 0)) 277 [.ref 0, .int (nI 0), .int (nI 0), uu, uu, uu, uu] [] from ?_)
    refine aw_iinc (v := nI 1) (lv2 := [.ref 0, .int (nI 0), .int (nI 1), uu, uu, uu, uu]) rfl (by decide +kernel) (by decide) rfl d_X_goesOff_277 ?_
    refine aw_goto (tgt := 266) (by decide) d_X_goesOff_280 ?_
    refine aw_iload_n rfl rfl d_X_goesOff_266 ?_
    refine aw_bipush (v := nI 6) cb_6 d_X_goesOff_267 ?_
    refine aw_icmp_geI (tgt := 283) (1) (6) (by decide +kernel) (by decide +kernel) (by decide) d_X_goesOff_269 (fun q => absurd q (by decide)) (fun _ => ?_)
    refine aw_aload_n rfl rfl d_X_goesOff_272 ?_
    refine aw_iload_n rfl rfl d_X_goesOff_273 ?_
    refine as_callV (as := [.int (nI 1)]) (d' := 4) (q := ("SinglesUpModel", zT9, 51)) mo_X_movesUp lk_X_325 km_0 rfl rfl rfl ⟨by decide, by decide⟩ rfl rfl (by decide) d_X_goesOff_274 (Ss.of (show As l b 4 y_X_movesUp KM RM _ (upd2 (upd2 (upd2 (upd2 (upd2 (upd2 (upd2 (upd2 (upd2 (upd2 (updA (updA (I) 9 (fun j => if j < 240 then nI 0 else (I) 9 j)) 12 (fun j => if j < 240 then nI 0 else (I) 12 j)) 0 30 (nI (s))) 0 31 (nI 0)) 0 32 (nI 0)) 0 33 (nI 0)) 0 34 (nI 0)) 1 (71) (nI ((e + s)))) 1 (72) (nI 0)) 1 (110) (nI 0)) 1 (111) (nI (s))) 1 (130) (nI 0)) 0 [.ref 0, .int (nI 1), uu, uu, uu, uu, uu, uu, uu] [] from ?_))
    refine aw_aload_n rfl rfl d_X_movesUp_0 ?_
    refine aw_getr fl_X_7 km_0 (by decide) rfl rm_0_0 d_X_movesUp_1 ?_
    refine aw_sipush (v := nI 130) cs_130 d_X_movesUp_4 ?_
    refine aw_iload_n rfl rfl d_X_movesUp_7 ?_
    refine aw_iadd d_X_movesUp_8 ?_
    refine aw_top (x2 := nI 131) (by decide +kernel) ?_
    refine aw_iald (j := 131) km_1 (vp_in_nI (by decide) (by decide)) (nI_clamp (by decide)) d_X_movesUp_9 ?_
    refine aw_top (x2 := nI 0) (Eq.trans (upd2_nx (by omega)) (Eq.trans (upd2_nx (by omega)) (Eq.trans (upd2_nx (by omega)) (Eq.trans (upd2_nx (by omega)) (Eq.trans (upd2_nx (by omega)) (Eq.trans (congrFun (upd2_ne (by decide)) (131)) (Eq.trans (congrFun (upd2_ne (by decide)) (131)) (Eq.trans (congrFun (upd2_ne (by decide)) (131)) (Eq.trans (congrFun (upd2_ne (by decide)) (131)) (Eq.trans (congrFun (upd2_ne (by decide)) (131)) (Eq.trans (congrFun (updA_ne (by decide)) (131)) (Eq.trans (congrFun (updA_ne (by decide)) (131)) (g1 1 (by decide)))))))))))))) ?_
    refine aw_istore_n (lv2 := [.ref 0, .int (nI 1), .int (nI 0), uu, uu, uu, uu, uu, uu]) rfl (by decide) rfl d_X_movesUp_10 ?_
    refine aw_iconst (v := nI 0) ci_0 d_X_movesUp_11 ?_
    refine aw_istore_n (lv2 := [.ref 0, .int (nI 1), .int (nI 0), .int (nI 0), uu, uu, uu, uu, uu]) rfl (by decide) rfl d_X_movesUp_12 ?_
    refine aw_iconst (v := nI 0) ci_0 d_X_movesUp_13 ?_
    refine aw_istore (lv2 := [.ref 0, .int (nI 1), .int (nI 0), .int (nI 0), .int (nI 0), uu, uu, uu, uu]) (by decide) rfl d_X_movesUp_14 ?_
    refine aw_iload rfl d_X_movesUp_16 ?_
    refine aw_iload_n rfl rfl d_X_movesUp_18 ?_
    refine aw_icmp_geI (tgt := 51) (0) (0) (by decide +kernel) (by decide +kernel) (by decide) d_X_movesUp_19 (fun _ => ?_) (fun q => absurd q (by decide))
    refine aw_iconst (v := nI 0) ci_0 d_X_movesUp_51 ?_
    refine aw_istore (lv2 := [.ref 0, .int (nI 1), .int (nI 0), .int (nI 0), .int (nI 0), uu, uu, uu, uu]) (by decide) rfl d_X_movesUp_52 ?_
    refine aw_iconst (v := nI 0) ci_0 d_X_movesUp_54 ?_
    refine aw_istore (lv2 := [.ref 0, .int (nI 1), .int (nI 0), .int (nI 0), .int (nI 0), .int (nI 0), uu, uu, uu]) (by decide) rfl d_X_movesUp_55 ?_
    refine aw_iload rfl d_X_movesUp_57 ?_
    refine aw_iload_n rfl rfl d_X_movesUp_59 ?_
    refine aw_icmp_geI (tgt := 254) (0) (0) (by decide +kernel) (by decide +kernel) (by decide) d_X_movesUp_60 (fun _ => ?_) (fun q => absurd q (by decide))
    refine aw_aload_n rfl rfl d_X_movesUp_254 ?_
    refine aw_getr fl_X_7 km_0 (by decide) rfl rm_0_0 d_X_movesUp_255 ?_
    refine aw_sipush (v := nI 130) cs_130 d_X_movesUp_258 ?_
    refine aw_iload_n rfl rfl d_X_movesUp_261 ?_
    refine aw_iadd d_X_movesUp_262 ?_
    refine aw_top (x2 := nI 131) (by decide +kernel) ?_
    refine aw_iload rfl d_X_movesUp_263 ?_
    refine aw_iast (j := 131) km_1 (vp_in_nI (by decide) (by decide)) (nI_clamp (by decide)) d_X_movesUp_265 ?_
    refine as_retv rfl d_X_movesUp_266 ?_
    refine (show As l b 5 y_X_goesOff KM RM _ (upd2 (upd2 (upd2 (upd2 (upd2 (upd2 (upd2 (upd2 (upd2 (upd2 (upd2 (updA (updA (I) 9 (fun j => if j < 240 then nI 0 else (I) 9 j)) 12 (fun j => if j < 240 then nI 0 else (I) 12 j)) 0 30 (nI (s))) 0 31 (nI 0)) 0 32 (nI 0)) 0 33 (nI 0)) 0 34 (nI 0)) 1 (71) (nI ((e + s)))) 1 (72) (nI 0)) 1 (110) (nI 0)) 1 (111) (nI (s))) 1 (130) (nI 0)) 1 (131) (nI 0)) 277 [.ref 0, .int (nI 0), .int (nI 1), uu, uu, uu, uu] [] from ?_)
    refine aw_iinc (v := nI 2) (lv2 := [.ref 0, .int (nI 0), .int (nI 2), uu, uu, uu, uu]) rfl (by decide +kernel) (by decide) rfl d_X_goesOff_277 ?_
    refine aw_goto (tgt := 266) (by decide) d_X_goesOff_280 ?_
    refine aw_iload_n rfl rfl d_X_goesOff_266 ?_
    refine aw_bipush (v := nI 6) cb_6 d_X_goesOff_267 ?_
    refine aw_icmp_geI (tgt := 283) (2) (6) (by decide +kernel) (by decide +kernel) (by decide) d_X_goesOff_269 (fun q => absurd q (by decide)) (fun _ => ?_)
    refine aw_aload_n rfl rfl d_X_goesOff_272 ?_
    refine aw_iload_n rfl rfl d_X_goesOff_273 ?_
    refine as_callV (as := [.int (nI 2)]) (d' := 4) (q := ("SinglesUpModel", zT9, 51)) mo_X_movesUp lk_X_325 km_0 rfl rfl rfl ⟨by decide, by decide⟩ rfl rfl (by decide) d_X_goesOff_274 (Ss.of (show As l b 4 y_X_movesUp KM RM _ (upd2 (upd2 (upd2 (upd2 (upd2 (upd2 (upd2 (upd2 (upd2 (upd2 (upd2 (updA (updA (I) 9 (fun j => if j < 240 then nI 0 else (I) 9 j)) 12 (fun j => if j < 240 then nI 0 else (I) 12 j)) 0 30 (nI (s))) 0 31 (nI 0)) 0 32 (nI 0)) 0 33 (nI 0)) 0 34 (nI 0)) 1 (71) (nI ((e + s)))) 1 (72) (nI 0)) 1 (110) (nI 0)) 1 (111) (nI (s))) 1 (130) (nI 0)) 1 (131) (nI 0)) 0 [.ref 0, .int (nI 2), uu, uu, uu, uu, uu, uu, uu] [] from ?_))
    refine aw_aload_n rfl rfl d_X_movesUp_0 ?_
    refine aw_getr fl_X_7 km_0 (by decide) rfl rm_0_0 d_X_movesUp_1 ?_
    refine aw_sipush (v := nI 130) cs_130 d_X_movesUp_4 ?_
    refine aw_iload_n rfl rfl d_X_movesUp_7 ?_
    refine aw_iadd d_X_movesUp_8 ?_
    refine aw_top (x2 := nI 132) (by decide +kernel) ?_
    refine aw_iald (j := 132) km_1 (vp_in_nI (by decide) (by decide)) (nI_clamp (by decide)) d_X_movesUp_9 ?_
    refine aw_top (x2 := nI 0) (Eq.trans (upd2_nx (by omega)) (Eq.trans (upd2_nx (by omega)) (Eq.trans (upd2_nx (by omega)) (Eq.trans (upd2_nx (by omega)) (Eq.trans (upd2_nx (by omega)) (Eq.trans (upd2_nx (by omega)) (Eq.trans (congrFun (upd2_ne (by decide)) (132)) (Eq.trans (congrFun (upd2_ne (by decide)) (132)) (Eq.trans (congrFun (upd2_ne (by decide)) (132)) (Eq.trans (congrFun (upd2_ne (by decide)) (132)) (Eq.trans (congrFun (upd2_ne (by decide)) (132)) (Eq.trans (congrFun (updA_ne (by decide)) (132)) (Eq.trans (congrFun (updA_ne (by decide)) (132)) (g1 2 (by decide))))))))))))))) ?_
    refine aw_istore_n (lv2 := [.ref 0, .int (nI 2), .int (nI 0), uu, uu, uu, uu, uu, uu]) rfl (by decide) rfl d_X_movesUp_10 ?_
    refine aw_iconst (v := nI 0) ci_0 d_X_movesUp_11 ?_
    refine aw_istore_n (lv2 := [.ref 0, .int (nI 2), .int (nI 0), .int (nI 0), uu, uu, uu, uu, uu]) rfl (by decide) rfl d_X_movesUp_12 ?_
    refine aw_iconst (v := nI 0) ci_0 d_X_movesUp_13 ?_
    refine aw_istore (lv2 := [.ref 0, .int (nI 2), .int (nI 0), .int (nI 0), .int (nI 0), uu, uu, uu, uu]) (by decide) rfl d_X_movesUp_14 ?_
    refine aw_iload rfl d_X_movesUp_16 ?_
    refine aw_iload_n rfl rfl d_X_movesUp_18 ?_
    refine aw_icmp_geI (tgt := 51) (0) (0) (by decide +kernel) (by decide +kernel) (by decide) d_X_movesUp_19 (fun _ => ?_) (fun q => absurd q (by decide))
    refine aw_iconst (v := nI 0) ci_0 d_X_movesUp_51 ?_
    refine aw_istore (lv2 := [.ref 0, .int (nI 2), .int (nI 0), .int (nI 0), .int (nI 0), uu, uu, uu, uu]) (by decide) rfl d_X_movesUp_52 ?_
    refine aw_iconst (v := nI 0) ci_0 d_X_movesUp_54 ?_
    refine aw_istore (lv2 := [.ref 0, .int (nI 2), .int (nI 0), .int (nI 0), .int (nI 0), .int (nI 0), uu, uu, uu]) (by decide) rfl d_X_movesUp_55 ?_
    refine aw_iload rfl d_X_movesUp_57 ?_
    refine aw_iload_n rfl rfl d_X_movesUp_59 ?_
    refine aw_icmp_geI (tgt := 254) (0) (0) (by decide +kernel) (by decide +kernel) (by decide) d_X_movesUp_60 (fun _ => ?_) (fun q => absurd q (by decide))
    refine aw_aload_n rfl rfl d_X_movesUp_254 ?_
    refine aw_getr fl_X_7 km_0 (by decide) rfl rm_0_0 d_X_movesUp_255 ?_
    refine aw_sipush (v := nI 130) cs_130 d_X_movesUp_258 ?_
    refine aw_iload_n rfl rfl d_X_movesUp_261 ?_
    refine aw_iadd d_X_movesUp_262 ?_
    refine aw_top (x2 := nI 132) (by decide +kernel) ?_
    refine aw_iload rfl d_X_movesUp_263 ?_
    refine aw_iast (j := 132) km_1 (vp_in_nI (by decide) (by decide)) (nI_clamp (by decide)) d_X_movesUp_265 ?_
    refine as_retv rfl d_X_movesUp_266 ?_
    refine (show As l b 5 y_X_goesOff KM RM _ (upd2 (upd2 (upd2 (upd2 (upd2 (upd2 (upd2 (upd2 (upd2 (upd2 (upd2 (upd2 (updA (updA (I) 9 (fun j => if j < 240 then nI 0 else (I) 9 j)) 12 (fun j => if j < 240 then nI 0 else (I) 12 j)) 0 30 (nI (s))) 0 31 (nI 0)) 0 32 (nI 0)) 0 33 (nI 0)) 0 34 (nI 0)) 1 (71) (nI ((e + s)))) 1 (72) (nI 0)) 1 (110) (nI 0)) 1 (111) (nI (s))) 1 (130) (nI 0)) 1 (131) (nI 0)) 1 (132) (nI 0)) 277 [.ref 0, .int (nI 0), .int (nI 2), uu, uu, uu, uu] [] from ?_)
    refine aw_iinc (v := nI 3) (lv2 := [.ref 0, .int (nI 0), .int (nI 3), uu, uu, uu, uu]) rfl (by decide +kernel) (by decide) rfl d_X_goesOff_277 ?_
    refine aw_goto (tgt := 266) (by decide) d_X_goesOff_280 ?_
    refine aw_iload_n rfl rfl d_X_goesOff_266 ?_
    refine aw_bipush (v := nI 6) cb_6 d_X_goesOff_267 ?_
    refine aw_icmp_geI (tgt := 283) (3) (6) (by decide +kernel) (by decide +kernel) (by decide) d_X_goesOff_269 (fun q => absurd q (by decide)) (fun _ => ?_)
    refine aw_aload_n rfl rfl d_X_goesOff_272 ?_
    refine aw_iload_n rfl rfl d_X_goesOff_273 ?_
    refine as_callV (as := [.int (nI 3)]) (d' := 4) (q := ("SinglesUpModel", zT9, 51)) mo_X_movesUp lk_X_325 km_0 rfl rfl rfl ⟨by decide, by decide⟩ rfl rfl (by decide) d_X_goesOff_274 (Ss.of (show As l b 4 y_X_movesUp KM RM _ (upd2 (upd2 (upd2 (upd2 (upd2 (upd2 (upd2 (upd2 (upd2 (upd2 (upd2 (upd2 (updA (updA (I) 9 (fun j => if j < 240 then nI 0 else (I) 9 j)) 12 (fun j => if j < 240 then nI 0 else (I) 12 j)) 0 30 (nI (s))) 0 31 (nI 0)) 0 32 (nI 0)) 0 33 (nI 0)) 0 34 (nI 0)) 1 (71) (nI ((e + s)))) 1 (72) (nI 0)) 1 (110) (nI 0)) 1 (111) (nI (s))) 1 (130) (nI 0)) 1 (131) (nI 0)) 1 (132) (nI 0)) 0 [.ref 0, .int (nI 3), uu, uu, uu, uu, uu, uu, uu] [] from ?_))
    refine aw_aload_n rfl rfl d_X_movesUp_0 ?_
    refine aw_getr fl_X_7 km_0 (by decide) rfl rm_0_0 d_X_movesUp_1 ?_
    refine aw_sipush (v := nI 130) cs_130 d_X_movesUp_4 ?_
    refine aw_iload_n rfl rfl d_X_movesUp_7 ?_
    refine aw_iadd d_X_movesUp_8 ?_
    refine aw_top (x2 := nI 133) (by decide +kernel) ?_
    refine aw_iald (j := 133) km_1 (vp_in_nI (by decide) (by decide)) (nI_clamp (by decide)) d_X_movesUp_9 ?_
    refine aw_top (x2 := nI 0) (Eq.trans (upd2_nx (by omega)) (Eq.trans (upd2_nx (by omega)) (Eq.trans (upd2_nx (by omega)) (Eq.trans (upd2_nx (by omega)) (Eq.trans (upd2_nx (by omega)) (Eq.trans (upd2_nx (by omega)) (Eq.trans (upd2_nx (by omega)) (Eq.trans (congrFun (upd2_ne (by decide)) (133)) (Eq.trans (congrFun (upd2_ne (by decide)) (133)) (Eq.trans (congrFun (upd2_ne (by decide)) (133)) (Eq.trans (congrFun (upd2_ne (by decide)) (133)) (Eq.trans (congrFun (upd2_ne (by decide)) (133)) (Eq.trans (congrFun (updA_ne (by decide)) (133)) (Eq.trans (congrFun (updA_ne (by decide)) (133)) (g1 3 (by decide)))))))))))))))) ?_
    refine aw_istore_n (lv2 := [.ref 0, .int (nI 3), .int (nI 0), uu, uu, uu, uu, uu, uu]) rfl (by decide) rfl d_X_movesUp_10 ?_
    refine aw_iconst (v := nI 0) ci_0 d_X_movesUp_11 ?_
    refine aw_istore_n (lv2 := [.ref 0, .int (nI 3), .int (nI 0), .int (nI 0), uu, uu, uu, uu, uu]) rfl (by decide) rfl d_X_movesUp_12 ?_
    refine aw_iconst (v := nI 0) ci_0 d_X_movesUp_13 ?_
    refine aw_istore (lv2 := [.ref 0, .int (nI 3), .int (nI 0), .int (nI 0), .int (nI 0), uu, uu, uu, uu]) (by decide) rfl d_X_movesUp_14 ?_
    refine aw_iload rfl d_X_movesUp_16 ?_
    refine aw_iload_n rfl rfl d_X_movesUp_18 ?_
    refine aw_icmp_geI (tgt := 51) (0) (0) (by decide +kernel) (by decide +kernel) (by decide) d_X_movesUp_19 (fun _ => ?_) (fun q => absurd q (by decide))
    refine aw_iconst (v := nI 0) ci_0 d_X_movesUp_51 ?_
    refine aw_istore (lv2 := [.ref 0, .int (nI 3), .int (nI 0), .int (nI 0), .int (nI 0), uu, uu, uu, uu]) (by decide) rfl d_X_movesUp_52 ?_
    refine aw_iconst (v := nI 0) ci_0 d_X_movesUp_54 ?_
    refine aw_istore (lv2 := [.ref 0, .int (nI 3), .int (nI 0), .int (nI 0), .int (nI 0), .int (nI 0), uu, uu, uu]) (by decide) rfl d_X_movesUp_55 ?_
    refine aw_iload rfl d_X_movesUp_57 ?_
    refine aw_iload_n rfl rfl d_X_movesUp_59 ?_
    refine aw_icmp_geI (tgt := 254) (0) (0) (by decide +kernel) (by decide +kernel) (by decide) d_X_movesUp_60 (fun _ => ?_) (fun q => absurd q (by decide))
    refine aw_aload_n rfl rfl d_X_movesUp_254 ?_
    refine aw_getr fl_X_7 km_0 (by decide) rfl rm_0_0 d_X_movesUp_255 ?_
    refine aw_sipush (v := nI 130) cs_130 d_X_movesUp_258 ?_
    refine aw_iload_n rfl rfl d_X_movesUp_261 ?_
    refine aw_iadd d_X_movesUp_262 ?_
    refine aw_top (x2 := nI 133) (by decide +kernel) ?_
    refine aw_iload rfl d_X_movesUp_263 ?_
    refine aw_iast (j := 133) km_1 (vp_in_nI (by decide) (by decide)) (nI_clamp (by decide)) d_X_movesUp_265 ?_
    refine as_retv rfl d_X_movesUp_266 ?_
    refine (show As l b 5 y_X_goesOff KM RM _ (upd2 (upd2 (upd2 (upd2 (upd2 (upd2 (upd2 (upd2 (upd2 (upd2 (upd2 (upd2 (upd2 (updA (updA (I) 9 (fun j => if j < 240 then nI 0 else (I) 9 j)) 12 (fun j => if j < 240 then nI 0 else (I) 12 j)) 0 30 (nI (s))) 0 31 (nI 0)) 0 32 (nI 0)) 0 33 (nI 0)) 0 34 (nI 0)) 1 (71) (nI ((e + s)))) 1 (72) (nI 0)) 1 (110) (nI 0)) 1 (111) (nI (s))) 1 (130) (nI 0)) 1 (131) (nI 0)) 1 (132) (nI 0)) 1 (133) (nI 0)) 277 [.ref 0, .int (nI 0), .int (nI 3), uu, uu, uu, uu] [] from ?_)
    refine aw_iinc (v := nI 4) (lv2 := [.ref 0, .int (nI 0), .int (nI 4), uu, uu, uu, uu]) rfl (by decide +kernel) (by decide) rfl d_X_goesOff_277 ?_
    refine aw_goto (tgt := 266) (by decide) d_X_goesOff_280 ?_
    refine aw_iload_n rfl rfl d_X_goesOff_266 ?_
    refine aw_bipush (v := nI 6) cb_6 d_X_goesOff_267 ?_
    refine aw_icmp_geI (tgt := 283) (4) (6) (by decide +kernel) (by decide +kernel) (by decide) d_X_goesOff_269 (fun q => absurd q (by decide)) (fun _ => ?_)
    refine aw_aload_n rfl rfl d_X_goesOff_272 ?_
    refine aw_iload_n rfl rfl d_X_goesOff_273 ?_
    refine as_callV (as := [.int (nI 4)]) (d' := 4) (q := ("SinglesUpModel", zT9, 51)) mo_X_movesUp lk_X_325 km_0 rfl rfl rfl ⟨by decide, by decide⟩ rfl rfl (by decide) d_X_goesOff_274 (Ss.of (show As l b 4 y_X_movesUp KM RM _ (upd2 (upd2 (upd2 (upd2 (upd2 (upd2 (upd2 (upd2 (upd2 (upd2 (upd2 (upd2 (upd2 (updA (updA (I) 9 (fun j => if j < 240 then nI 0 else (I) 9 j)) 12 (fun j => if j < 240 then nI 0 else (I) 12 j)) 0 30 (nI (s))) 0 31 (nI 0)) 0 32 (nI 0)) 0 33 (nI 0)) 0 34 (nI 0)) 1 (71) (nI ((e + s)))) 1 (72) (nI 0)) 1 (110) (nI 0)) 1 (111) (nI (s))) 1 (130) (nI 0)) 1 (131) (nI 0)) 1 (132) (nI 0)) 1 (133) (nI 0)) 0 [.ref 0, .int (nI 4), uu, uu, uu, uu, uu, uu, uu] [] from ?_))
    refine aw_aload_n rfl rfl d_X_movesUp_0 ?_
    refine aw_getr fl_X_7 km_0 (by decide) rfl rm_0_0 d_X_movesUp_1 ?_
    refine aw_sipush (v := nI 130) cs_130 d_X_movesUp_4 ?_
    refine aw_iload_n rfl rfl d_X_movesUp_7 ?_
    refine aw_iadd d_X_movesUp_8 ?_
    refine aw_top (x2 := nI 134) (by decide +kernel) ?_
    refine aw_iald (j := 134) km_1 (vp_in_nI (by decide) (by decide)) (nI_clamp (by decide)) d_X_movesUp_9 ?_
    refine aw_top (x2 := nI 0) (Eq.trans (upd2_nx (by omega)) (Eq.trans (upd2_nx (by omega)) (Eq.trans (upd2_nx (by omega)) (Eq.trans (upd2_nx (by omega)) (Eq.trans (upd2_nx (by omega)) (Eq.trans (upd2_nx (by omega)) (Eq.trans (upd2_nx (by omega)) (Eq.trans (upd2_nx (by omega)) (Eq.trans (congrFun (upd2_ne (by decide)) (134)) (Eq.trans (congrFun (upd2_ne (by decide)) (134)) (Eq.trans (congrFun (upd2_ne (by decide)) (134)) (Eq.trans (congrFun (upd2_ne (by decide)) (134)) (Eq.trans (congrFun (upd2_ne (by decide)) (134)) (Eq.trans (congrFun (updA_ne (by decide)) (134)) (Eq.trans (congrFun (updA_ne (by decide)) (134)) (g1 4 (by decide))))))))))))))))) ?_
    refine aw_istore_n (lv2 := [.ref 0, .int (nI 4), .int (nI 0), uu, uu, uu, uu, uu, uu]) rfl (by decide) rfl d_X_movesUp_10 ?_
    refine aw_iconst (v := nI 0) ci_0 d_X_movesUp_11 ?_
    refine aw_istore_n (lv2 := [.ref 0, .int (nI 4), .int (nI 0), .int (nI 0), uu, uu, uu, uu, uu]) rfl (by decide) rfl d_X_movesUp_12 ?_
    refine aw_iconst (v := nI 0) ci_0 d_X_movesUp_13 ?_
    refine aw_istore (lv2 := [.ref 0, .int (nI 4), .int (nI 0), .int (nI 0), .int (nI 0), uu, uu, uu, uu]) (by decide) rfl d_X_movesUp_14 ?_
    refine aw_iload rfl d_X_movesUp_16 ?_
    refine aw_iload_n rfl rfl d_X_movesUp_18 ?_
    refine aw_icmp_geI (tgt := 51) (0) (0) (by decide +kernel) (by decide +kernel) (by decide) d_X_movesUp_19 (fun _ => ?_) (fun q => absurd q (by decide))
    refine aw_iconst (v := nI 0) ci_0 d_X_movesUp_51 ?_
    refine aw_istore (lv2 := [.ref 0, .int (nI 4), .int (nI 0), .int (nI 0), .int (nI 0), uu, uu, uu, uu]) (by decide) rfl d_X_movesUp_52 ?_
    refine aw_iconst (v := nI 0) ci_0 d_X_movesUp_54 ?_
    refine aw_istore (lv2 := [.ref 0, .int (nI 4), .int (nI 0), .int (nI 0), .int (nI 0), .int (nI 0), uu, uu, uu]) (by decide) rfl d_X_movesUp_55 ?_
    refine aw_iload rfl d_X_movesUp_57 ?_
    refine aw_iload_n rfl rfl d_X_movesUp_59 ?_
    refine aw_icmp_geI (tgt := 254) (0) (0) (by decide +kernel) (by decide +kernel) (by decide) d_X_movesUp_60 (fun _ => ?_) (fun q => absurd q (by decide))
    refine aw_aload_n rfl rfl d_X_movesUp_254 ?_
    refine aw_getr fl_X_7 km_0 (by decide) rfl rm_0_0 d_X_movesUp_255 ?_
    refine aw_sipush (v := nI 130) cs_130 d_X_movesUp_258 ?_
    refine aw_iload_n rfl rfl d_X_movesUp_261 ?_
    refine aw_iadd d_X_movesUp_262 ?_
    refine aw_top (x2 := nI 134) (by decide +kernel) ?_
    refine aw_iload rfl d_X_movesUp_263 ?_
    refine aw_iast (j := 134) km_1 (vp_in_nI (by decide) (by decide)) (nI_clamp (by decide)) d_X_movesUp_265 ?_
    refine as_retv rfl d_X_movesUp_266 ?_
    refine (show As l b 5 y_X_goesOff KM RM _ (upd2 (upd2 (upd2 (upd2 (upd2 (upd2 (upd2 (upd2 (upd2 (upd2 (upd2 (upd2 (upd2 (upd2 (updA (updA (I) 9 (fun j => if j < 240 then nI 0 else (I) 9 j)) 12 (fun j => if j < 240 then nI 0 else (I) 12 j)) 0 30 (nI (s))) 0 31 (nI 0)) 0 32 (nI 0)) 0 33 (nI 0)) 0 34 (nI 0)) 1 (71) (nI ((e + s)))) 1 (72) (nI 0)) 1 (110) (nI 0)) 1 (111) (nI (s))) 1 (130) (nI 0)) 1 (131) (nI 0)) 1 (132) (nI 0)) 1 (133) (nI 0)) 1 (134) (nI 0)) 277 [.ref 0, .int (nI 0), .int (nI 4), uu, uu, uu, uu] [] from ?_)
    refine aw_iinc (v := nI 5) (lv2 := [.ref 0, .int (nI 0), .int (nI 5), uu, uu, uu, uu]) rfl (by decide +kernel) (by decide) rfl d_X_goesOff_277 ?_
    refine aw_goto (tgt := 266) (by decide) d_X_goesOff_280 ?_
    refine aw_iload_n rfl rfl d_X_goesOff_266 ?_
    refine aw_bipush (v := nI 6) cb_6 d_X_goesOff_267 ?_
    refine aw_icmp_geI (tgt := 283) (5) (6) (by decide +kernel) (by decide +kernel) (by decide) d_X_goesOff_269 (fun q => absurd q (by decide)) (fun _ => ?_)
    refine aw_aload_n rfl rfl d_X_goesOff_272 ?_
    refine aw_iload_n rfl rfl d_X_goesOff_273 ?_
    refine as_callV (as := [.int (nI 5)]) (d' := 4) (q := ("SinglesUpModel", zT9, 51)) mo_X_movesUp lk_X_325 km_0 rfl rfl rfl ⟨by decide, by decide⟩ rfl rfl (by decide) d_X_goesOff_274 (Ss.of (show As l b 4 y_X_movesUp KM RM _ (upd2 (upd2 (upd2 (upd2 (upd2 (upd2 (upd2 (upd2 (upd2 (upd2 (upd2 (upd2 (upd2 (upd2 (updA (updA (I) 9 (fun j => if j < 240 then nI 0 else (I) 9 j)) 12 (fun j => if j < 240 then nI 0 else (I) 12 j)) 0 30 (nI (s))) 0 31 (nI 0)) 0 32 (nI 0)) 0 33 (nI 0)) 0 34 (nI 0)) 1 (71) (nI ((e + s)))) 1 (72) (nI 0)) 1 (110) (nI 0)) 1 (111) (nI (s))) 1 (130) (nI 0)) 1 (131) (nI 0)) 1 (132) (nI 0)) 1 (133) (nI 0)) 1 (134) (nI 0)) 0 [.ref 0, .int (nI 5), uu, uu, uu, uu, uu, uu, uu] [] from ?_))
    refine aw_aload_n rfl rfl d_X_movesUp_0 ?_
    refine aw_getr fl_X_7 km_0 (by decide) rfl rm_0_0 d_X_movesUp_1 ?_
    refine aw_sipush (v := nI 130) cs_130 d_X_movesUp_4 ?_
    refine aw_iload_n rfl rfl d_X_movesUp_7 ?_
    refine aw_iadd d_X_movesUp_8 ?_
    refine aw_top (x2 := nI 135) (by decide +kernel) ?_
    refine aw_iald (j := 135) km_1 (vp_in_nI (by decide) (by decide)) (nI_clamp (by decide)) d_X_movesUp_9 ?_
    refine aw_top (x2 := nI 0) (Eq.trans (upd2_nx (by omega)) (Eq.trans (upd2_nx (by omega)) (Eq.trans (upd2_nx (by omega)) (Eq.trans (upd2_nx (by omega)) (Eq.trans (upd2_nx (by omega)) (Eq.trans (upd2_nx (by omega)) (Eq.trans (upd2_nx (by omega)) (Eq.trans (upd2_nx (by omega)) (Eq.trans (upd2_nx (by omega)) (Eq.trans (congrFun (upd2_ne (by decide)) (135)) (Eq.trans (congrFun (upd2_ne (by decide)) (135)) (Eq.trans (congrFun (upd2_ne (by decide)) (135)) (Eq.trans (congrFun (upd2_ne (by decide)) (135)) (Eq.trans (congrFun (upd2_ne (by decide)) (135)) (Eq.trans (congrFun (updA_ne (by decide)) (135)) (Eq.trans (congrFun (updA_ne (by decide)) (135)) (g1 5 (by decide)))))))))))))))))) ?_
    refine aw_istore_n (lv2 := [.ref 0, .int (nI 5), .int (nI 0), uu, uu, uu, uu, uu, uu]) rfl (by decide) rfl d_X_movesUp_10 ?_
    refine aw_iconst (v := nI 0) ci_0 d_X_movesUp_11 ?_
    refine aw_istore_n (lv2 := [.ref 0, .int (nI 5), .int (nI 0), .int (nI 0), uu, uu, uu, uu, uu]) rfl (by decide) rfl d_X_movesUp_12 ?_
    refine aw_iconst (v := nI 0) ci_0 d_X_movesUp_13 ?_
    refine aw_istore (lv2 := [.ref 0, .int (nI 5), .int (nI 0), .int (nI 0), .int (nI 0), uu, uu, uu, uu]) (by decide) rfl d_X_movesUp_14 ?_
    refine aw_iload rfl d_X_movesUp_16 ?_
    refine aw_iload_n rfl rfl d_X_movesUp_18 ?_
    refine aw_icmp_geI (tgt := 51) (0) (0) (by decide +kernel) (by decide +kernel) (by decide) d_X_movesUp_19 (fun _ => ?_) (fun q => absurd q (by decide))
    refine aw_iconst (v := nI 0) ci_0 d_X_movesUp_51 ?_
    refine aw_istore (lv2 := [.ref 0, .int (nI 5), .int (nI 0), .int (nI 0), .int (nI 0), uu, uu, uu, uu]) (by decide) rfl d_X_movesUp_52 ?_
    refine aw_iconst (v := nI 0) ci_0 d_X_movesUp_54 ?_
    refine aw_istore (lv2 := [.ref 0, .int (nI 5), .int (nI 0), .int (nI 0), .int (nI 0), .int (nI 0), uu, uu, uu]) (by decide) rfl d_X_movesUp_55 ?_
    refine aw_iload rfl d_X_movesUp_57 ?_
    refine aw_iload_n rfl rfl d_X_movesUp_59 ?_
    refine aw_icmp_geI (tgt := 254) (0) (0) (by decide +kernel) (by decide +kernel) (by decide) d_X_movesUp_60 (fun _ => ?_) (fun q => absurd q (by decide))
    refine aw_aload_n rfl rfl d_X_movesUp_254 ?_
    refine aw_getr fl_X_7 km_0 (by decide) rfl rm_0_0 d_X_movesUp_255 ?_
    refine aw_sipush (v := nI 130) cs_130 d_X_movesUp_258 ?_
    refine aw_iload_n rfl rfl d_X_movesUp_261 ?_
    refine aw_iadd d_X_movesUp_262 ?_
    refine aw_top (x2 := nI 135) (by decide +kernel) ?_
    refine aw_iload rfl d_X_movesUp_263 ?_
    refine aw_iast (j := 135) km_1 (vp_in_nI (by decide) (by decide)) (nI_clamp (by decide)) d_X_movesUp_265 ?_
    refine as_retv rfl d_X_movesUp_266 ?_
    refine (show As l b 5 y_X_goesOff KM RM _ (upd2 (upd2 (upd2 (upd2 (upd2 (upd2 (upd2 (upd2 (upd2 (upd2 (upd2 (upd2 (upd2 (upd2 (upd2 (updA (updA (I) 9 (fun j => if j < 240 then nI 0 else (I) 9 j)) 12 (fun j => if j < 240 then nI 0 else (I) 12 j)) 0 30 (nI (s))) 0 31 (nI 0)) 0 32 (nI 0)) 0 33 (nI 0)) 0 34 (nI 0)) 1 (71) (nI ((e + s)))) 1 (72) (nI 0)) 1 (110) (nI 0)) 1 (111) (nI (s))) 1 (130) (nI 0)) 1 (131) (nI 0)) 1 (132) (nI 0)) 1 (133) (nI 0)) 1 (134) (nI 0)) 1 (135) (nI 0)) 277 [.ref 0, .int (nI 0), .int (nI 5), uu, uu, uu, uu] [] from ?_)
    refine aw_iinc (v := nI 6) (lv2 := [.ref 0, .int (nI 0), .int (nI 6), uu, uu, uu, uu]) rfl (by decide +kernel) (by decide) rfl d_X_goesOff_277 ?_
    refine aw_goto (tgt := 266) (by decide) d_X_goesOff_280 ?_
    refine aw_iload_n rfl rfl d_X_goesOff_266 ?_
    refine aw_bipush (v := nI 6) cb_6 d_X_goesOff_267 ?_
    refine aw_icmp_geI (tgt := 283) (6) (6) (by decide +kernel) (by decide +kernel) (by decide) d_X_goesOff_269 (fun _ => ?_) (fun q => absurd q (by decide))
    refine aw_iconst (v := nI 0) ci_0 d_X_goesOff_283 ?_
    refine aw_istore_n (lv2 := [.ref 0, .int (nI 0), .int (nI 0), uu, uu, uu, uu]) rfl (by decide) rfl d_X_goesOff_284 ?_
    refine aw_iload_n rfl rfl d_X_goesOff_285 ?_
    refine aw_aload_n rfl rfl d_X_goesOff_286 ?_
    refine aw_geti fl_X_293 km_0 (by decide) rfl d_X_goesOff_287 ?_
    refine aw_top (x2 := nI 0) (Eq.trans (congrFun (upd2_ne (by decide)) (32)) (Eq.trans (congrFun (upd2_ne (by decide)) (32)) (Eq.trans (congrFun (upd2_ne (by decide)) (32)) (Eq.trans (congrFun (upd2_ne (by decide)) (32)) (Eq.trans (congrFun (upd2_ne (by decide)) (32)) (Eq.trans (congrFun (upd2_ne (by decide)) (32)) (Eq.trans (congrFun (upd2_ne (by decide)) (32)) (Eq.trans (congrFun (upd2_ne (by decide)) (32)) (Eq.trans (congrFun (upd2_ne (by decide)) (32)) (Eq.trans (congrFun (upd2_ne (by decide)) (32)) (Eq.trans (upd2_nx (by omega)) (Eq.trans (upd2_nx (by omega)) (upd2_eq))))))))))))) ?_
    refine aw_icmp_geI (tgt := 369) (0) (0) (by decide +kernel) (by decide +kernel) (by decide) d_X_goesOff_290 (fun _ => ?_) (fun q => absurd q (by decide))
    refine aw_aload_n rfl rfl d_X_goesOff_369 ?_
    refine aw_getr fl_X_7 km_0 (by decide) rfl rm_0_0 d_X_goesOff_370 ?_
    refine aw_bipush (v := nI 70) cb_70 d_X_goesOff_373 ?_
    refine aw_dup2 rfl rfl d_X_goesOff_375 ?_
    refine aw_iald (j := 70) km_1 (vp_in_nI (by decide) (by decide)) (nI_clamp (by decide)) d_X_goesOff_376 ?_
    refine aw_top (x2 := nI (k)) (Eq.trans (upd2_nx (by omega)) (Eq.trans (upd2_nx (by omega)) (Eq.trans (upd2_nx (by omega)) (Eq.trans (upd2_nx (by omega)) (Eq.trans (upd2_nx (by omega)) (Eq.trans (upd2_nx (by omega)) (Eq.trans (upd2_nx (by omega)) (Eq.trans (upd2_nx (by omega)) (Eq.trans (upd2_nx (by omega)) (Eq.trans (upd2_nx (by omega)) (Eq.trans (congrFun (upd2_ne (by decide)) (70)) (Eq.trans (congrFun (upd2_ne (by decide)) (70)) (Eq.trans (congrFun (upd2_ne (by decide)) (70)) (Eq.trans (congrFun (upd2_ne (by decide)) (70)) (Eq.trans (congrFun (upd2_ne (by decide)) (70)) (Eq.trans (congrFun (updA_ne (by decide)) (70)) (Eq.trans (congrFun (updA_ne (by decide)) (70)) (g6)))))))))))))))))) ?_
    refine aw_iconst (v := nI 1) ci_1 d_X_goesOff_377 ?_
    refine aw_iaddN d_X_goesOff_378 ?_
    refine aw_iast (j := 70) km_1 (vp_in_nI (by decide) (by decide)) (nI_clamp (by decide)) d_X_goesOff_379 ?_
    refine aw_aload_n rfl rfl d_X_goesOff_380 ?_
    refine aw_getr fl_X_7 km_0 (by decide) rfl rm_0_0 d_X_goesOff_381 ?_
    refine aw_bipush (v := nI 73) cb_73 d_X_goesOff_384 ?_
    refine aw_dup2 rfl rfl d_X_goesOff_386 ?_
    refine aw_iald (j := 73) km_1 (vp_in_nI (by decide) (by decide)) (nI_clamp (by decide)) d_X_goesOff_387 ?_
    refine aw_aload_n rfl rfl d_X_goesOff_388 ?_
    refine aw_getr fl_X_7 km_0 (by decide) rfl rm_0_0 d_X_goesOff_389 ?_
    refine aw_iconst (v := nI 2) ci_2 d_X_goesOff_392 ?_
    refine aw_iald (j := 2) km_1 (vp_in_nI (by decide) (by decide)) (nI_clamp (by decide)) d_X_goesOff_393 ?_
    refine aw_iadd d_X_goesOff_394 ?_
    refine aw_iast (j := 73) km_1 (vp_in_nI (by decide) (by decide)) (nI_clamp (by decide)) d_X_goesOff_395 ?_
    refine aw_aload_n rfl rfl d_X_goesOff_396 ?_
    refine aw_getr fl_X_7 km_0 (by decide) rfl rm_0_0 d_X_goesOff_397 ?_
    refine aw_iconst (v := nI 4) ci_4 d_X_goesOff_400 ?_
    refine aw_iald (j := 4) km_1 (vp_in_nI (by decide) (by decide)) (nI_clamp (by decide)) d_X_goesOff_401 ?_
    refine aw_top (x2 := nI 0) (Eq.trans (upd2_nx (by omega)) (Eq.trans (upd2_nx (by omega)) (Eq.trans (upd2_nx (by omega)) (Eq.trans (upd2_nx (by omega)) (Eq.trans (upd2_nx (by omega)) (Eq.trans (upd2_nx (by omega)) (Eq.trans (upd2_nx (by omega)) (Eq.trans (upd2_nx (by omega)) (Eq.trans (upd2_nx (by omega)) (Eq.trans (upd2_nx (by omega)) (Eq.trans (upd2_nx (by omega)) (Eq.trans (upd2_nx (by omega)) (Eq.trans (congrFun (upd2_ne (by decide)) (4)) (Eq.trans (congrFun (upd2_ne (by decide)) (4)) (Eq.trans (congrFun (upd2_ne (by decide)) (4)) (Eq.trans (congrFun (upd2_ne (by decide)) (4)) (Eq.trans (congrFun (upd2_ne (by decide)) (4)) (Eq.trans (congrFun (updA_ne (by decide)) (4)) (Eq.trans (congrFun (updA_ne (by decide)) (4)) (g4)))))))))))))))))))) ?_
    refine aw_if_leI (tgt := 448) (0) (by decide +kernel) (by decide) d_X_goesOff_402 (fun _ => ?_) (fun q => absurd q (by decide))
    refine aw_sipush (v := nI 6010) cs_6010 d_X_goesOff_448 ?_
    refine aw_iconst (v := nI 3) ci_3 d_X_goesOff_451 ?_
    refine aw_aload_n rfl rfl d_X_goesOff_452 ?_
    refine aw_getr fl_X_7 km_0 (by decide) rfl rm_0_0 d_X_goesOff_453 ?_
    refine aw_bipush (v := nI 70) cb_70 d_X_goesOff_456 ?_
    refine aw_iald (j := 70) km_1 (vp_in_nI (by decide) (by decide)) (nI_clamp (by decide)) d_X_goesOff_458 ?_
    refine aw_top (x2 := nI ((k + 1))) (Eq.trans (upd2_nx (by omega)) (upd2_eq)) ?_
    refine aw_iconst (v := nI 1) ci_1 d_X_goesOff_459 ?_
    refine aw_isubN (by omega) d_X_goesOff_460 ?_
    refine aw_bipush (v := nI 60) cb_60 d_X_goesOff_461 ?_
    refine aw_iremN (by omega) (by omega) (by omega) d_X_goesOff_463 ?_
    refine aw_imulN d_X_goesOff_464 ?_
    refine aw_iaddN d_X_goesOff_465 ?_
    refine aw_istore_n (lv2 := [.ref 0, .int (nI 0), .int (nI ((6010 + (3 * (((k + 1) - 1) % 60))))), uu, uu, uu, uu]) rfl (by decide) rfl d_X_goesOff_466 ?_
    refine aw_aload_n rfl rfl d_X_goesOff_467 ?_
    refine aw_getr fl_X_7 km_0 (by decide) rfl rm_0_0 d_X_goesOff_468 ?_
    refine aw_iload_n rfl rfl d_X_goesOff_471 ?_
    refine aw_aload_n rfl rfl d_X_goesOff_472 ?_
    refine aw_geti fl_X_289 km_0 (by decide) rfl d_X_goesOff_473 ?_
    refine aw_top (x2 := nI (s)) (Eq.trans (congrFun (upd2_ne (by decide)) (30)) (Eq.trans (congrFun (upd2_ne (by decide)) (30)) (Eq.trans (congrFun (upd2_ne (by decide)) (30)) (Eq.trans (congrFun (upd2_ne (by decide)) (30)) (Eq.trans (congrFun (upd2_ne (by decide)) (30)) (Eq.trans (congrFun (upd2_ne (by decide)) (30)) (Eq.trans (congrFun (upd2_ne (by decide)) (30)) (Eq.trans (congrFun (upd2_ne (by decide)) (30)) (Eq.trans (congrFun (upd2_ne (by decide)) (30)) (Eq.trans (congrFun (upd2_ne (by decide)) (30)) (Eq.trans (congrFun (upd2_ne (by decide)) (30)) (Eq.trans (congrFun (upd2_ne (by decide)) (30)) (Eq.trans (upd2_nx (by omega)) (Eq.trans (upd2_nx (by omega)) (Eq.trans (upd2_nx (by omega)) (Eq.trans (upd2_nx (by omega)) (upd2_eq))))))))))))))))) ?_
    refine aw_iast (j := (6010 + (3 * (((k + 1) - 1) % 60)))) km_1 (vp_in_nI (by omega) (by decide)) (nI_clamp (by omega)) d_X_goesOff_476 ?_
    refine aw_aload_n rfl rfl d_X_goesOff_477 ?_
    refine aw_getr fl_X_7 km_0 (by decide) rfl rm_0_0 d_X_goesOff_478 ?_
    refine aw_iload_n rfl rfl d_X_goesOff_481 ?_
    refine aw_iconst (v := nI 1) ci_1 d_X_goesOff_482 ?_
    refine aw_iaddN d_X_goesOff_483 ?_
    refine aw_aload_n rfl rfl d_X_goesOff_484 ?_
    refine aw_geti fl_X_291 km_0 (by decide) rfl d_X_goesOff_485 ?_
    refine aw_top (x2 := nI 0) (Eq.trans (congrFun (upd2_ne (by decide)) (31)) (Eq.trans (congrFun (upd2_ne (by decide)) (31)) (Eq.trans (congrFun (upd2_ne (by decide)) (31)) (Eq.trans (congrFun (upd2_ne (by decide)) (31)) (Eq.trans (congrFun (upd2_ne (by decide)) (31)) (Eq.trans (congrFun (upd2_ne (by decide)) (31)) (Eq.trans (congrFun (upd2_ne (by decide)) (31)) (Eq.trans (congrFun (upd2_ne (by decide)) (31)) (Eq.trans (congrFun (upd2_ne (by decide)) (31)) (Eq.trans (congrFun (upd2_ne (by decide)) (31)) (Eq.trans (congrFun (upd2_ne (by decide)) (31)) (Eq.trans (congrFun (upd2_ne (by decide)) (31)) (Eq.trans (congrFun (upd2_ne (by decide)) (31)) (Eq.trans (upd2_nx (by omega)) (Eq.trans (upd2_nx (by omega)) (Eq.trans (upd2_nx (by omega)) (upd2_eq))))))))))))))))) ?_
    refine aw_iast (j := ((6010 + (3 * (((k + 1) - 1) % 60))) + 1)) km_1 (vp_in_nI (by omega) (by decide)) (nI_clamp (by omega)) d_X_goesOff_488 ?_
    refine aw_aload_n rfl rfl d_X_goesOff_489 ?_
    refine aw_getr fl_X_7 km_0 (by decide) rfl rm_0_0 d_X_goesOff_490 ?_
    refine aw_iload_n rfl rfl d_X_goesOff_493 ?_
    refine aw_iconst (v := nI 2) ci_2 d_X_goesOff_494 ?_
    refine aw_iaddN d_X_goesOff_495 ?_
    refine aw_aload_n rfl rfl d_X_goesOff_496 ?_
    refine aw_getr fl_X_7 km_0 (by decide) rfl rm_0_0 d_X_goesOff_497 ?_
    refine aw_bipush (v := nI 73) cb_73 d_X_goesOff_500 ?_
    refine aw_iald (j := 73) km_1 (vp_in_nI (by decide) (by decide)) (nI_clamp (by decide)) d_X_goesOff_502 ?_
    refine aw_top (x2 := ((upd2 (upd2 (upd2 (upd2 (upd2 (upd2 (upd2 (upd2 (upd2 (upd2 (upd2 (upd2 (upd2 (upd2 (upd2 (upd2 (updA (updA (I) 9 (fun j => if j < 240 then nI 0 else (I) 9 j)) 12 (fun j => if j < 240 then nI 0 else (I) 12 j)) 0 30 (nI (s))) 0 31 (nI 0)) 0 32 (nI 0)) 0 33 (nI 0)) 0 34 (nI 0)) 1 (71) (nI ((e + s)))) 1 (72) (nI 0)) 1 (110) (nI 0)) 1 (111) (nI (s))) 1 (130) (nI 0)) 1 (131) (nI 0)) 1 (132) (nI 0)) 1 (133) (nI 0)) 1 (134) (nI 0)) 1 (135) (nI 0)) 1 (70) (nI ((k + 1)))) 1 73 + (upd2 (upd2 (upd2 (upd2 (upd2 (upd2 (upd2 (upd2 (upd2 (upd2 (upd2 (upd2 (upd2 (upd2 (upd2 (upd2 (updA (updA (I) 9 (fun j => if j < 240 then nI 0 else (I) 9 j)) 12 (fun j => if j < 240 then nI 0 else (I) 12 j)) 0 30 (nI (s))) 0 31 (nI 0)) 0 32 (nI 0)) 0 33 (nI 0)) 0 34 (nI 0)) 1 (71) (nI ((e + s)))) 1 (72) (nI 0)) 1 (110) (nI 0)) 1 (111) (nI (s))) 1 (130) (nI 0)) 1 (131) (nI 0)) 1 (132) (nI 0)) 1 (133) (nI 0)) 1 (134) (nI 0)) 1 (135) (nI 0)) 1 (70) (nI ((k + 1)))) 1 2)) (Eq.trans (upd2_nx (by omega)) (Eq.trans (upd2_nx (by omega)) (upd2_eq))) ?_
    refine aw_iast (j := ((6010 + (3 * (((k + 1) - 1) % 60))) + 2)) km_1 (vp_in_nI (by omega) (by decide)) (nI_clamp (by omega)) d_X_goesOff_503 ?_
    refine aw_aload_n rfl rfl d_X_goesOff_504 ?_
    refine as_callV (as := []) (d' := 1) (q := ("SinglesUpModel", zT9, 51)) mo_X_forgets lk_X_102 km_0 rfl rfl rfl ⟨by decide, by decide⟩ rfl rfl (by decide) d_X_goesOff_505 (sp_forgets (I := upd2 (upd2 (upd2 (upd2 (upd2 (upd2 (upd2 (upd2 (upd2 (upd2 (upd2 (upd2 (upd2 (upd2 (upd2 (upd2 (upd2 (upd2 (upd2 (upd2 (updA (updA (I) 9 (fun j => if j < 240 then nI 0 else (I) 9 j)) 12 (fun j => if j < 240 then nI 0 else (I) 12 j)) 0 30 (nI (s))) 0 31 (nI 0)) 0 32 (nI 0)) 0 33 (nI 0)) 0 34 (nI 0)) 1 (71) (nI ((e + s)))) 1 (72) (nI 0)) 1 (110) (nI 0)) 1 (111) (nI (s))) 1 (130) (nI 0)) 1 (131) (nI 0)) 1 (132) (nI 0)) 1 (133) (nI 0)) 1 (134) (nI 0)) 1 (135) (nI 0)) 1 (70) (nI ((k + 1)))) 1 (73) (((upd2 (upd2 (upd2 (upd2 (upd2 (upd2 (upd2 (upd2 (upd2 (upd2 (upd2 (upd2 (upd2 (upd2 (upd2 (upd2 (updA (updA (I) 9 (fun j => if j < 240 then nI 0 else (I) 9 j)) 12 (fun j => if j < 240 then nI 0 else (I) 12 j)) 0 30 (nI (s))) 0 31 (nI 0)) 0 32 (nI 0)) 0 33 (nI 0)) 0 34 (nI 0)) 1 (71) (nI ((e + s)))) 1 (72) (nI 0)) 1 (110) (nI 0)) 1 (111) (nI (s))) 1 (130) (nI 0)) 1 (131) (nI 0)) 1 (132) (nI 0)) 1 (133) (nI 0)) 1 (134) (nI 0)) 1 (135) (nI 0)) 1 (70) (nI ((k + 1)))) 1 73 + (upd2 (upd2 (upd2 (upd2 (upd2 (upd2 (upd2 (upd2 (upd2 (upd2 (upd2 (upd2 (upd2 (upd2 (upd2 (upd2 (updA (updA (I) 9 (fun j => if j < 240 then nI 0 else (I) 9 j)) 12 (fun j => if j < 240 then nI 0 else (I) 12 j)) 0 30 (nI (s))) 0 31 (nI 0)) 0 32 (nI 0)) 0 33 (nI 0)) 0 34 (nI 0)) 1 (71) (nI ((e + s)))) 1 (72) (nI 0)) 1 (110) (nI 0)) 1 (111) (nI (s))) 1 (130) (nI 0)) 1 (131) (nI 0)) 1 (132) (nI 0)) 1 (133) (nI 0)) 1 (134) (nI 0)) 1 (135) (nI 0)) 1 (70) (nI ((k + 1)))) 1 2))) 1 ((6010 + (3 * (((k + 1) - 1) % 60)))) (nI (s))) 1 (((6010 + (3 * (((k + 1) - 1) % 60))) + 1)) (nI 0)) 1 (((6010 + (3 * (((k + 1) - 1) % 60))) + 2)) (((upd2 (upd2 (upd2 (upd2 (upd2 (upd2 (upd2 (upd2 (upd2 (upd2 (upd2 (upd2 (upd2 (upd2 (upd2 (upd2 (updA (updA (I) 9 (fun j => if j < 240 then nI 0 else (I) 9 j)) 12 (fun j => if j < 240 then nI 0 else (I) 12 j)) 0 30 (nI (s))) 0 31 (nI 0)) 0 32 (nI 0)) 0 33 (nI 0)) 0 34 (nI 0)) 1 (71) (nI ((e + s)))) 1 (72) (nI 0)) 1 (110) (nI 0)) 1 (111) (nI (s))) 1 (130) (nI 0)) 1 (131) (nI 0)) 1 (132) (nI 0)) 1 (133) (nI 0)) 1 (134) (nI 0)) 1 (135) (nI 0)) 1 (70) (nI ((k + 1)))) 1 73 + (upd2 (upd2 (upd2 (upd2 (upd2 (upd2 (upd2 (upd2 (upd2 (upd2 (upd2 (upd2 (upd2 (upd2 (upd2 (upd2 (updA (updA (I) 9 (fun j => if j < 240 then nI 0 else (I) 9 j)) 12 (fun j => if j < 240 then nI 0 else (I) 12 j)) 0 30 (nI (s))) 0 31 (nI 0)) 0 32 (nI 0)) 0 33 (nI 0)) 0 34 (nI 0)) 1 (71) (nI ((e + s)))) 1 (72) (nI 0)) 1 (110) (nI 0)) 1 (111) (nI (s))) 1 (130) (nI 0)) 1 (131) (nI 0)) 1 (132) (nI 0)) 1 (133) (nI 0)) 1 (134) (nI 0)) 1 (135) (nI 0)) 1 (70) (nI ((k + 1)))) 1 2))) ?_)
    refine (show As l b 5 y_X_goesOff KM RM _ (upd2 (updA (upd2 (upd2 (upd2 (upd2 (upd2 (upd2 (upd2 (upd2 (upd2 (upd2 (upd2 (upd2 (upd2 (upd2 (upd2 (upd2 (upd2 (upd2 (upd2 (upd2 (updA (updA (I) 9 (fun j => if j < 240 then nI 0 else (I) 9 j)) 12 (fun j => if j < 240 then nI 0 else (I) 12 j)) 0 30 (nI (s))) 0 31 (nI 0)) 0 32 (nI 0)) 0 33 (nI 0)) 0 34 (nI 0)) 1 (71) (nI ((e + s)))) 1 (72) (nI 0)) 1 (110) (nI 0)) 1 (111) (nI (s))) 1 (130) (nI 0)) 1 (131) (nI 0)) 1 (132) (nI 0)) 1 (133) (nI 0)) 1 (134) (nI 0)) 1 (135) (nI 0)) 1 (70) (nI ((k + 1)))) 1 (73) (((upd2 (upd2 (upd2 (upd2 (upd2 (upd2 (upd2 (upd2 (upd2 (upd2 (upd2 (upd2 (upd2 (upd2 (upd2 (upd2 (updA (updA (I) 9 (fun j => if j < 240 then nI 0 else (I) 9 j)) 12 (fun j => if j < 240 then nI 0 else (I) 12 j)) 0 30 (nI (s))) 0 31 (nI 0)) 0 32 (nI 0)) 0 33 (nI 0)) 0 34 (nI 0)) 1 (71) (nI ((e + s)))) 1 (72) (nI 0)) 1 (110) (nI 0)) 1 (111) (nI (s))) 1 (130) (nI 0)) 1 (131) (nI 0)) 1 (132) (nI 0)) 1 (133) (nI 0)) 1 (134) (nI 0)) 1 (135) (nI 0)) 1 (70) (nI ((k + 1)))) 1 73 + (upd2 (upd2 (upd2 (upd2 (upd2 (upd2 (upd2 (upd2 (upd2 (upd2 (upd2 (upd2 (upd2 (upd2 (upd2 (upd2 (updA (updA (I) 9 (fun j => if j < 240 then nI 0 else (I) 9 j)) 12 (fun j => if j < 240 then nI 0 else (I) 12 j)) 0 30 (nI (s))) 0 31 (nI 0)) 0 32 (nI 0)) 0 33 (nI 0)) 0 34 (nI 0)) 1 (71) (nI ((e + s)))) 1 (72) (nI 0)) 1 (110) (nI 0)) 1 (111) (nI (s))) 1 (130) (nI 0)) 1 (131) (nI 0)) 1 (132) (nI 0)) 1 (133) (nI 0)) 1 (134) (nI 0)) 1 (135) (nI 0)) 1 (70) (nI ((k + 1)))) 1 2))) 1 ((6010 + (3 * (((k + 1) - 1) % 60)))) (nI (s))) 1 (((6010 + (3 * (((k + 1) - 1) % 60))) + 1)) (nI 0)) 1 (((6010 + (3 * (((k + 1) - 1) % 60))) + 2)) (((upd2 (upd2 (upd2 (upd2 (upd2 (upd2 (upd2 (upd2 (upd2 (upd2 (upd2 (upd2 (upd2 (upd2 (upd2 (upd2 (updA (updA (I) 9 (fun j => if j < 240 then nI 0 else (I) 9 j)) 12 (fun j => if j < 240 then nI 0 else (I) 12 j)) 0 30 (nI (s))) 0 31 (nI 0)) 0 32 (nI 0)) 0 33 (nI 0)) 0 34 (nI 0)) 1 (71) (nI ((e + s)))) 1 (72) (nI 0)) 1 (110) (nI 0)) 1 (111) (nI (s))) 1 (130) (nI 0)) 1 (131) (nI 0)) 1 (132) (nI 0)) 1 (133) (nI 0)) 1 (134) (nI 0)) 1 (135) (nI 0)) 1 (70) (nI ((k + 1)))) 1 73 + (upd2 (upd2 (upd2 (upd2 (upd2 (upd2 (upd2 (upd2 (upd2 (upd2 (upd2 (upd2 (upd2 (upd2 (upd2 (upd2 (updA (updA (I) 9 (fun j => if j < 240 then nI 0 else (I) 9 j)) 12 (fun j => if j < 240 then nI 0 else (I) 12 j)) 0 30 (nI (s))) 0 31 (nI 0)) 0 32 (nI 0)) 0 33 (nI 0)) 0 34 (nI 0)) 1 (71) (nI ((e + s)))) 1 (72) (nI 0)) 1 (110) (nI 0)) 1 (111) (nI (s))) 1 (130) (nI 0)) 1 (131) (nI 0)) 1 (132) (nI 0)) 1 (133) (nI 0)) 1 (134) (nI 0)) 1 (135) (nI 0)) 1 (70) (nI ((k + 1)))) 1 2))) 13 (fun j => if j < 240 then nI 0 else (upd2 (upd2 (upd2 (upd2 (upd2 (upd2 (upd2 (upd2 (upd2 (upd2 (upd2 (upd2 (upd2 (upd2 (upd2 (upd2 (upd2 (upd2 (upd2 (upd2 (updA (updA (I) 9 (fun j => if j < 240 then nI 0 else (I) 9 j)) 12 (fun j => if j < 240 then nI 0 else (I) 12 j)) 0 30 (nI (s))) 0 31 (nI 0)) 0 32 (nI 0)) 0 33 (nI 0)) 0 34 (nI 0)) 1 (71) (nI ((e + s)))) 1 (72) (nI 0)) 1 (110) (nI 0)) 1 (111) (nI (s))) 1 (130) (nI 0)) 1 (131) (nI 0)) 1 (132) (nI 0)) 1 (133) (nI 0)) 1 (134) (nI 0)) 1 (135) (nI 0)) 1 (70) (nI ((k + 1)))) 1 (73) (((upd2 (upd2 (upd2 (upd2 (upd2 (upd2 (upd2 (upd2 (upd2 (upd2 (upd2 (upd2 (upd2 (upd2 (upd2 (upd2 (updA (updA (I) 9 (fun j => if j < 240 then nI 0 else (I) 9 j)) 12 (fun j => if j < 240 then nI 0 else (I) 12 j)) 0 30 (nI (s))) 0 31 (nI 0)) 0 32 (nI 0)) 0 33 (nI 0)) 0 34 (nI 0)) 1 (71) (nI ((e + s)))) 1 (72) (nI 0)) 1 (110) (nI 0)) 1 (111) (nI (s))) 1 (130) (nI 0)) 1 (131) (nI 0)) 1 (132) (nI 0)) 1 (133) (nI 0)) 1 (134) (nI 0)) 1 (135) (nI 0)) 1 (70) (nI ((k + 1)))) 1 73 + (upd2 (upd2 (upd2 (upd2 (upd2 (upd2 (upd2 (upd2 (upd2 (upd2 (upd2 (upd2 (upd2 (upd2 (upd2 (upd2 (updA (updA (I) 9 (fun j => if j < 240 then nI 0 else (I) 9 j)) 12 (fun j => if j < 240 then nI 0 else (I) 12 j)) 0 30 (nI (s))) 0 31 (nI 0)) 0 32 (nI 0)) 0 33 (nI 0)) 0 34 (nI 0)) 1 (71) (nI ((e + s)))) 1 (72) (nI 0)) 1 (110) (nI 0)) 1 (111) (nI (s))) 1 (130) (nI 0)) 1 (131) (nI 0)) 1 (132) (nI 0)) 1 (133) (nI 0)) 1 (134) (nI 0)) 1 (135) (nI 0)) 1 (70) (nI ((k + 1)))) 1 2))) 1 ((6010 + (3 * (((k + 1) - 1) % 60)))) (nI (s))) 1 (((6010 + (3 * (((k + 1) - 1) % 60))) + 1)) (nI 0)) 1 (((6010 + (3 * (((k + 1) - 1) % 60))) + 2)) (((upd2 (upd2 (upd2 (upd2 (upd2 (upd2 (upd2 (upd2 (upd2 (upd2 (upd2 (upd2 (upd2 (upd2 (upd2 (upd2 (updA (updA (I) 9 (fun j => if j < 240 then nI 0 else (I) 9 j)) 12 (fun j => if j < 240 then nI 0 else (I) 12 j)) 0 30 (nI (s))) 0 31 (nI 0)) 0 32 (nI 0)) 0 33 (nI 0)) 0 34 (nI 0)) 1 (71) (nI ((e + s)))) 1 (72) (nI 0)) 1 (110) (nI 0)) 1 (111) (nI (s))) 1 (130) (nI 0)) 1 (131) (nI 0)) 1 (132) (nI 0)) 1 (133) (nI 0)) 1 (134) (nI 0)) 1 (135) (nI 0)) 1 (70) (nI ((k + 1)))) 1 73 + (upd2 (upd2 (upd2 (upd2 (upd2 (upd2 (upd2 (upd2 (upd2 (upd2 (upd2 (upd2 (upd2 (upd2 (upd2 (upd2 (updA (updA (I) 9 (fun j => if j < 240 then nI 0 else (I) 9 j)) 12 (fun j => if j < 240 then nI 0 else (I) 12 j)) 0 30 (nI (s))) 0 31 (nI 0)) 0 32 (nI 0)) 0 33 (nI 0)) 0 34 (nI 0)) 1 (71) (nI ((e + s)))) 1 (72) (nI 0)) 1 (110) (nI 0)) 1 (111) (nI (s))) 1 (130) (nI 0)) 1 (131) (nI 0)) 1 (132) (nI 0)) 1 (133) (nI 0)) 1 (134) (nI 0)) 1 (135) (nI 0)) 1 (70) (nI ((k + 1)))) 1 2))) 13 j)) 0 35 (nI 0)) 508 [.ref 0, .int (nI 0), .int (nI ((6010 + (3 * (((k + 1) - 1) % 60))))), uu, uu, uu, uu] [] from ?_)
    refine aw_iload_n rfl rfl d_X_goesOff_508 ?_
    refine as_reti rfl d_X_goesOff_509 ?_
    refine (show As l b 6 y_X_chair KM RM K2 (upd2 (updA (upd2 (upd2 (upd2 (upd2 (upd2 (upd2 (upd2 (upd2 (upd2 (upd2 (upd2 (upd2 (upd2 (upd2 (upd2 (upd2 (upd2 (upd2 (upd2 (upd2 (updA (updA (I) 9 (fun j => if j < 240 then nI 0 else (I) 9 j)) 12 (fun j => if j < 240 then nI 0 else (I) 12 j)) 0 30 (nI (s))) 0 31 (nI 0)) 0 32 (nI 0)) 0 33 (nI 0)) 0 34 (nI 0)) 1 (71) (nI ((e + s)))) 1 (72) (nI 0)) 1 (110) (nI 0)) 1 (111) (nI (s))) 1 (130) (nI 0)) 1 (131) (nI 0)) 1 (132) (nI 0)) 1 (133) (nI 0)) 1 (134) (nI 0)) 1 (135) (nI 0)) 1 (70) (nI ((k + 1)))) 1 (73) (((upd2 (upd2 (upd2 (upd2 (upd2 (upd2 (upd2 (upd2 (upd2 (upd2 (upd2 (upd2 (upd2 (upd2 (upd2 (upd2 (updA (updA (I) 9 (fun j => if j < 240 then nI 0 else (I) 9 j)) 12 (fun j => if j < 240 then nI 0 else (I) 12 j)) 0 30 (nI (s))) 0 31 (nI 0)) 0 32 (nI 0)) 0 33 (nI 0)) 0 34 (nI 0)) 1 (71) (nI ((e + s)))) 1 (72) (nI 0)) 1 (110) (nI 0)) 1 (111) (nI (s))) 1 (130) (nI 0)) 1 (131) (nI 0)) 1 (132) (nI 0)) 1 (133) (nI 0)) 1 (134) (nI 0)) 1 (135) (nI 0)) 1 (70) (nI ((k + 1)))) 1 73 + (upd2 (upd2 (upd2 (upd2 (upd2 (upd2 (upd2 (upd2 (upd2 (upd2 (upd2 (upd2 (upd2 (upd2 (upd2 (upd2 (updA (updA (I) 9 (fun j => if j < 240 then nI 0 else (I) 9 j)) 12 (fun j => if j < 240 then nI 0 else (I) 12 j)) 0 30 (nI (s))) 0 31 (nI 0)) 0 32 (nI 0)) 0 33 (nI 0)) 0 34 (nI 0)) 1 (71) (nI ((e + s)))) 1 (72) (nI 0)) 1 (110) (nI 0)) 1 (111) (nI (s))) 1 (130) (nI 0)) 1 (131) (nI 0)) 1 (132) (nI 0)) 1 (133) (nI 0)) 1 (134) (nI 0)) 1 (135) (nI 0)) 1 (70) (nI ((k + 1)))) 1 2))) 1 ((6010 + (3 * (((k + 1) - 1) % 60)))) (nI (s))) 1 (((6010 + (3 * (((k + 1) - 1) % 60))) + 1)) (nI 0)) 1 (((6010 + (3 * (((k + 1) - 1) % 60))) + 2)) (((upd2 (upd2 (upd2 (upd2 (upd2 (upd2 (upd2 (upd2 (upd2 (upd2 (upd2 (upd2 (upd2 (upd2 (upd2 (upd2 (updA (updA (I) 9 (fun j => if j < 240 then nI 0 else (I) 9 j)) 12 (fun j => if j < 240 then nI 0 else (I) 12 j)) 0 30 (nI (s))) 0 31 (nI 0)) 0 32 (nI 0)) 0 33 (nI 0)) 0 34 (nI 0)) 1 (71) (nI ((e + s)))) 1 (72) (nI 0)) 1 (110) (nI 0)) 1 (111) (nI (s))) 1 (130) (nI 0)) 1 (131) (nI 0)) 1 (132) (nI 0)) 1 (133) (nI 0)) 1 (134) (nI 0)) 1 (135) (nI 0)) 1 (70) (nI ((k + 1)))) 1 73 + (upd2 (upd2 (upd2 (upd2 (upd2 (upd2 (upd2 (upd2 (upd2 (upd2 (upd2 (upd2 (upd2 (upd2 (upd2 (upd2 (updA (updA (I) 9 (fun j => if j < 240 then nI 0 else (I) 9 j)) 12 (fun j => if j < 240 then nI 0 else (I) 12 j)) 0 30 (nI (s))) 0 31 (nI 0)) 0 32 (nI 0)) 0 33 (nI 0)) 0 34 (nI 0)) 1 (71) (nI ((e + s)))) 1 (72) (nI 0)) 1 (110) (nI 0)) 1 (111) (nI (s))) 1 (130) (nI 0)) 1 (131) (nI 0)) 1 (132) (nI 0)) 1 (133) (nI 0)) 1 (134) (nI 0)) 1 (135) (nI 0)) 1 (70) (nI ((k + 1)))) 1 2))) 13 (fun j => if j < 240 then nI 0 else (upd2 (upd2 (upd2 (upd2 (upd2 (upd2 (upd2 (upd2 (upd2 (upd2 (upd2 (upd2 (upd2 (upd2 (upd2 (upd2 (upd2 (upd2 (upd2 (upd2 (updA (updA (I) 9 (fun j => if j < 240 then nI 0 else (I) 9 j)) 12 (fun j => if j < 240 then nI 0 else (I) 12 j)) 0 30 (nI (s))) 0 31 (nI 0)) 0 32 (nI 0)) 0 33 (nI 0)) 0 34 (nI 0)) 1 (71) (nI ((e + s)))) 1 (72) (nI 0)) 1 (110) (nI 0)) 1 (111) (nI (s))) 1 (130) (nI 0)) 1 (131) (nI 0)) 1 (132) (nI 0)) 1 (133) (nI 0)) 1 (134) (nI 0)) 1 (135) (nI 0)) 1 (70) (nI ((k + 1)))) 1 (73) (((upd2 (upd2 (upd2 (upd2 (upd2 (upd2 (upd2 (upd2 (upd2 (upd2 (upd2 (upd2 (upd2 (upd2 (upd2 (upd2 (updA (updA (I) 9 (fun j => if j < 240 then nI 0 else (I) 9 j)) 12 (fun j => if j < 240 then nI 0 else (I) 12 j)) 0 30 (nI (s))) 0 31 (nI 0)) 0 32 (nI 0)) 0 33 (nI 0)) 0 34 (nI 0)) 1 (71) (nI ((e + s)))) 1 (72) (nI 0)) 1 (110) (nI 0)) 1 (111) (nI (s))) 1 (130) (nI 0)) 1 (131) (nI 0)) 1 (132) (nI 0)) 1 (133) (nI 0)) 1 (134) (nI 0)) 1 (135) (nI 0)) 1 (70) (nI ((k + 1)))) 1 73 + (upd2 (upd2 (upd2 (upd2 (upd2 (upd2 (upd2 (upd2 (upd2 (upd2 (upd2 (upd2 (upd2 (upd2 (upd2 (upd2 (updA (updA (I) 9 (fun j => if j < 240 then nI 0 else (I) 9 j)) 12 (fun j => if j < 240 then nI 0 else (I) 12 j)) 0 30 (nI (s))) 0 31 (nI 0)) 0 32 (nI 0)) 0 33 (nI 0)) 0 34 (nI 0)) 1 (71) (nI ((e + s)))) 1 (72) (nI 0)) 1 (110) (nI 0)) 1 (111) (nI (s))) 1 (130) (nI 0)) 1 (131) (nI 0)) 1 (132) (nI 0)) 1 (133) (nI 0)) 1 (134) (nI 0)) 1 (135) (nI 0)) 1 (70) (nI ((k + 1)))) 1 2))) 1 ((6010 + (3 * (((k + 1) - 1) % 60)))) (nI (s))) 1 (((6010 + (3 * (((k + 1) - 1) % 60))) + 1)) (nI 0)) 1 (((6010 + (3 * (((k + 1) - 1) % 60))) + 2)) (((upd2 (upd2 (upd2 (upd2 (upd2 (upd2 (upd2 (upd2 (upd2 (upd2 (upd2 (upd2 (upd2 (upd2 (upd2 (upd2 (updA (updA (I) 9 (fun j => if j < 240 then nI 0 else (I) 9 j)) 12 (fun j => if j < 240 then nI 0 else (I) 12 j)) 0 30 (nI (s))) 0 31 (nI 0)) 0 32 (nI 0)) 0 33 (nI 0)) 0 34 (nI 0)) 1 (71) (nI ((e + s)))) 1 (72) (nI 0)) 1 (110) (nI 0)) 1 (111) (nI (s))) 1 (130) (nI 0)) 1 (131) (nI 0)) 1 (132) (nI 0)) 1 (133) (nI 0)) 1 (134) (nI 0)) 1 (135) (nI 0)) 1 (70) (nI ((k + 1)))) 1 73 + (upd2 (upd2 (upd2 (upd2 (upd2 (upd2 (upd2 (upd2 (upd2 (upd2 (upd2 (upd2 (upd2 (upd2 (upd2 (upd2 (updA (updA (I) 9 (fun j => if j < 240 then nI 0 else (I) 9 j)) 12 (fun j => if j < 240 then nI 0 else (I) 12 j)) 0 30 (nI (s))) 0 31 (nI 0)) 0 32 (nI 0)) 0 33 (nI 0)) 0 34 (nI 0)) 1 (71) (nI ((e + s)))) 1 (72) (nI 0)) 1 (110) (nI 0)) 1 (111) (nI (s))) 1 (130) (nI 0)) 1 (131) (nI 0)) 1 (132) (nI 0)) 1 (133) (nI 0)) 1 (134) (nI 0)) 1 (135) (nI 0)) 1 (70) (nI ((k + 1)))) 1 2))) 13 j)) 0 35 (nI 0)) 8 [.ref 0] [.int (nI 0)] from ?_)
    exact as_reti rfl d_X_chair_8 (hK _ (show GM (upd2 (updA (upd2 (upd2 (upd2 (upd2 (upd2 (upd2 (upd2 (upd2 (upd2 (upd2 (upd2 (upd2 (upd2 (upd2 (upd2 (upd2 (upd2 (upd2 (upd2 (upd2 (updA (updA (I) 9 (fun j => if j < 240 then nI 0 else (I) 9 j)) 12 (fun j => if j < 240 then nI 0 else (I) 12 j)) 0 30 (nI (s))) 0 31 (nI 0)) 0 32 (nI 0)) 0 33 (nI 0)) 0 34 (nI 0)) 1 (71) (nI ((e + s)))) 1 (72) (nI 0)) 1 (110) (nI 0)) 1 (111) (nI (s))) 1 (130) (nI 0)) 1 (131) (nI 0)) 1 (132) (nI 0)) 1 (133) (nI 0)) 1 (134) (nI 0)) 1 (135) (nI 0)) 1 (70) (nI ((k + 1)))) 1 (73) (((upd2 (upd2 (upd2 (upd2 (upd2 (upd2 (upd2 (upd2 (upd2 (upd2 (upd2 (upd2 (upd2 (upd2 (upd2 (upd2 (updA (updA (I) 9 (fun j => if j < 240 then nI 0 else (I) 9 j)) 12 (fun j => if j < 240 then nI 0 else (I) 12 j)) 0 30 (nI (s))) 0 31 (nI 0)) 0 32 (nI 0)) 0 33 (nI 0)) 0 34 (nI 0)) 1 (71) (nI ((e + s)))) 1 (72) (nI 0)) 1 (110) (nI 0)) 1 (111) (nI (s))) 1 (130) (nI 0)) 1 (131) (nI 0)) 1 (132) (nI 0)) 1 (133) (nI 0)) 1 (134) (nI 0)) 1 (135) (nI 0)) 1 (70) (nI ((k + 1)))) 1 73 + (upd2 (upd2 (upd2 (upd2 (upd2 (upd2 (upd2 (upd2 (upd2 (upd2 (upd2 (upd2 (upd2 (upd2 (upd2 (upd2 (updA (updA (I) 9 (fun j => if j < 240 then nI 0 else (I) 9 j)) 12 (fun j => if j < 240 then nI 0 else (I) 12 j)) 0 30 (nI (s))) 0 31 (nI 0)) 0 32 (nI 0)) 0 33 (nI 0)) 0 34 (nI 0)) 1 (71) (nI ((e + s)))) 1 (72) (nI 0)) 1 (110) (nI 0)) 1 (111) (nI (s))) 1 (130) (nI 0)) 1 (131) (nI 0)) 1 (132) (nI 0)) 1 (133) (nI 0)) 1 (134) (nI 0)) 1 (135) (nI 0)) 1 (70) (nI ((k + 1)))) 1 2))) 1 ((6010 + (3 * (((k + 1) - 1) % 60)))) (nI (s))) 1 (((6010 + (3 * (((k + 1) - 1) % 60))) + 1)) (nI 0)) 1 (((6010 + (3 * (((k + 1) - 1) % 60))) + 2)) (((upd2 (upd2 (upd2 (upd2 (upd2 (upd2 (upd2 (upd2 (upd2 (upd2 (upd2 (upd2 (upd2 (upd2 (upd2 (upd2 (updA (updA (I) 9 (fun j => if j < 240 then nI 0 else (I) 9 j)) 12 (fun j => if j < 240 then nI 0 else (I) 12 j)) 0 30 (nI (s))) 0 31 (nI 0)) 0 32 (nI 0)) 0 33 (nI 0)) 0 34 (nI 0)) 1 (71) (nI ((e + s)))) 1 (72) (nI 0)) 1 (110) (nI 0)) 1 (111) (nI (s))) 1 (130) (nI 0)) 1 (131) (nI 0)) 1 (132) (nI 0)) 1 (133) (nI 0)) 1 (134) (nI 0)) 1 (135) (nI 0)) 1 (70) (nI ((k + 1)))) 1 73 + (upd2 (upd2 (upd2 (upd2 (upd2 (upd2 (upd2 (upd2 (upd2 (upd2 (upd2 (upd2 (upd2 (upd2 (upd2 (upd2 (updA (updA (I) 9 (fun j => if j < 240 then nI 0 else (I) 9 j)) 12 (fun j => if j < 240 then nI 0 else (I) 12 j)) 0 30 (nI (s))) 0 31 (nI 0)) 0 32 (nI 0)) 0 33 (nI 0)) 0 34 (nI 0)) 1 (71) (nI ((e + s)))) 1 (72) (nI 0)) 1 (110) (nI 0)) 1 (111) (nI (s))) 1 (130) (nI 0)) 1 (131) (nI 0)) 1 (132) (nI 0)) 1 (133) (nI 0)) 1 (134) (nI 0)) 1 (135) (nI 0)) 1 (70) (nI ((k + 1)))) 1 2))) 13 (fun j => if j < 240 then nI 0 else (upd2 (upd2 (upd2 (upd2 (upd2 (upd2 (upd2 (upd2 (upd2 (upd2 (upd2 (upd2 (upd2 (upd2 (upd2 (upd2 (upd2 (upd2 (upd2 (upd2 (updA (updA (I) 9 (fun j => if j < 240 then nI 0 else (I) 9 j)) 12 (fun j => if j < 240 then nI 0 else (I) 12 j)) 0 30 (nI (s))) 0 31 (nI 0)) 0 32 (nI 0)) 0 33 (nI 0)) 0 34 (nI 0)) 1 (71) (nI ((e + s)))) 1 (72) (nI 0)) 1 (110) (nI 0)) 1 (111) (nI (s))) 1 (130) (nI 0)) 1 (131) (nI 0)) 1 (132) (nI 0)) 1 (133) (nI 0)) 1 (134) (nI 0)) 1 (135) (nI 0)) 1 (70) (nI ((k + 1)))) 1 (73) (((upd2 (upd2 (upd2 (upd2 (upd2 (upd2 (upd2 (upd2 (upd2 (upd2 (upd2 (upd2 (upd2 (upd2 (upd2 (upd2 (updA (updA (I) 9 (fun j => if j < 240 then nI 0 else (I) 9 j)) 12 (fun j => if j < 240 then nI 0 else (I) 12 j)) 0 30 (nI (s))) 0 31 (nI 0)) 0 32 (nI 0)) 0 33 (nI 0)) 0 34 (nI 0)) 1 (71) (nI ((e + s)))) 1 (72) (nI 0)) 1 (110) (nI 0)) 1 (111) (nI (s))) 1 (130) (nI 0)) 1 (131) (nI 0)) 1 (132) (nI 0)) 1 (133) (nI 0)) 1 (134) (nI 0)) 1 (135) (nI 0)) 1 (70) (nI ((k + 1)))) 1 73 + (upd2 (upd2 (upd2 (upd2 (upd2 (upd2 (upd2 (upd2 (upd2 (upd2 (upd2 (upd2 (upd2 (upd2 (upd2 (upd2 (updA (updA (I) 9 (fun j => if j < 240 then nI 0 else (I) 9 j)) 12 (fun j => if j < 240 then nI 0 else (I) 12 j)) 0 30 (nI (s))) 0 31 (nI 0)) 0 32 (nI 0)) 0 33 (nI 0)) 0 34 (nI 0)) 1 (71) (nI ((e + s)))) 1 (72) (nI 0)) 1 (110) (nI 0)) 1 (111) (nI (s))) 1 (130) (nI 0)) 1 (131) (nI 0)) 1 (132) (nI 0)) 1 (133) (nI 0)) 1 (134) (nI 0)) 1 (135) (nI 0)) 1 (70) (nI ((k + 1)))) 1 2))) 1 ((6010 + (3 * (((k + 1) - 1) % 60)))) (nI (s))) 1 (((6010 + (3 * (((k + 1) - 1) % 60))) + 1)) (nI 0)) 1 (((6010 + (3 * (((k + 1) - 1) % 60))) + 2)) (((upd2 (upd2 (upd2 (upd2 (upd2 (upd2 (upd2 (upd2 (upd2 (upd2 (upd2 (upd2 (upd2 (upd2 (upd2 (upd2 (updA (updA (I) 9 (fun j => if j < 240 then nI 0 else (I) 9 j)) 12 (fun j => if j < 240 then nI 0 else (I) 12 j)) 0 30 (nI (s))) 0 31 (nI 0)) 0 32 (nI 0)) 0 33 (nI 0)) 0 34 (nI 0)) 1 (71) (nI ((e + s)))) 1 (72) (nI 0)) 1 (110) (nI 0)) 1 (111) (nI (s))) 1 (130) (nI 0)) 1 (131) (nI 0)) 1 (132) (nI 0)) 1 (133) (nI 0)) 1 (134) (nI 0)) 1 (135) (nI 0)) 1 (70) (nI ((k + 1)))) 1 73 + (upd2 (upd2 (upd2 (upd2 (upd2 (upd2 (upd2 (upd2 (upd2 (upd2 (upd2 (upd2 (upd2 (upd2 (upd2 (upd2 (updA (updA (I) 9 (fun j => if j < 240 then nI 0 else (I) 9 j)) 12 (fun j => if j < 240 then nI 0 else (I) 12 j)) 0 30 (nI (s))) 0 31 (nI 0)) 0 32 (nI 0)) 0 33 (nI 0)) 0 34 (nI 0)) 1 (71) (nI ((e + s)))) 1 (72) (nI 0)) 1 (110) (nI 0)) 1 (111) (nI (s))) 1 (130) (nI 0)) 1 (131) (nI 0)) 1 (132) (nI 0)) 1 (133) (nI 0)) 1 (134) (nI 0)) 1 (135) (nI 0)) 1 (70) (nI ((k + 1)))) 1 2))) 13 j)) 0 35 (nI 0)) (s) ((e + s)) ((k + 1)) from ⟨fun j hj => (Eq.trans (congrFun (upd2_ne (by decide)) ((26 + j))) (Eq.trans (congrFun (updA_ne (by decide)) ((26 + j))) (Eq.trans (upd2_nx (by omega)) (Eq.trans (upd2_nx (by omega)) (Eq.trans (upd2_nx (by omega)) (Eq.trans (upd2_nx (by omega)) (Eq.trans (upd2_nx (by omega)) (Eq.trans (upd2_nx (by omega)) (Eq.trans (upd2_nx (by omega)) (Eq.trans (upd2_nx (by omega)) (Eq.trans (upd2_nx (by omega)) (Eq.trans (upd2_nx (by omega)) (Eq.trans (upd2_nx (by omega)) (Eq.trans (upd2_nx (by omega)) (Eq.trans (upd2_nx (by omega)) (Eq.trans (upd2_nx (by omega)) (Eq.trans (upd2_nx (by omega)) (Eq.trans (congrFun (upd2_ne (by decide)) ((26 + j))) (Eq.trans (congrFun (upd2_ne (by decide)) ((26 + j))) (Eq.trans (congrFun (upd2_ne (by decide)) ((26 + j))) (Eq.trans (congrFun (upd2_ne (by decide)) ((26 + j))) (Eq.trans (congrFun (upd2_ne (by decide)) ((26 + j))) (Eq.trans (congrFun (updA_ne (by decide)) ((26 + j))) (Eq.trans (congrFun (updA_ne (by decide)) ((26 + j))) (g0 j (by omega)))))))))))))))))))))))))), m6 (P := fun j => (upd2 (updA (upd2 (upd2 (upd2 (upd2 (upd2 (upd2 (upd2 (upd2 (upd2 (upd2 (upd2 (upd2 (upd2 (upd2 (upd2 (upd2 (upd2 (upd2 (upd2 (upd2 (updA (updA (I) 9 (fun j => if j < 240 then nI 0 else (I) 9 j)) 12 (fun j => if j < 240 then nI 0 else (I) 12 j)) 0 30 (nI (s))) 0 31 (nI 0)) 0 32 (nI 0)) 0 33 (nI 0)) 0 34 (nI 0)) 1 (71) (nI ((e + s)))) 1 (72) (nI 0)) 1 (110) (nI 0)) 1 (111) (nI (s))) 1 (130) (nI 0)) 1 (131) (nI 0)) 1 (132) (nI 0)) 1 (133) (nI 0)) 1 (134) (nI 0)) 1 (135) (nI 0)) 1 (70) (nI ((k + 1)))) 1 (73) (((upd2 (upd2 (upd2 (upd2 (upd2 (upd2 (upd2 (upd2 (upd2 (upd2 (upd2 (upd2 (upd2 (upd2 (upd2 (upd2 (updA (updA (I) 9 (fun j => if j < 240 then nI 0 else (I) 9 j)) 12 (fun j => if j < 240 then nI 0 else (I) 12 j)) 0 30 (nI (s))) 0 31 (nI 0)) 0 32 (nI 0)) 0 33 (nI 0)) 0 34 (nI 0)) 1 (71) (nI ((e + s)))) 1 (72) (nI 0)) 1 (110) (nI 0)) 1 (111) (nI (s))) 1 (130) (nI 0)) 1 (131) (nI 0)) 1 (132) (nI 0)) 1 (133) (nI 0)) 1 (134) (nI 0)) 1 (135) (nI 0)) 1 (70) (nI ((k + 1)))) 1 73 + (upd2 (upd2 (upd2 (upd2 (upd2 (upd2 (upd2 (upd2 (upd2 (upd2 (upd2 (upd2 (upd2 (upd2 (upd2 (upd2 (updA (updA (I) 9 (fun j => if j < 240 then nI 0 else (I) 9 j)) 12 (fun j => if j < 240 then nI 0 else (I) 12 j)) 0 30 (nI (s))) 0 31 (nI 0)) 0 32 (nI 0)) 0 33 (nI 0)) 0 34 (nI 0)) 1 (71) (nI ((e + s)))) 1 (72) (nI 0)) 1 (110) (nI 0)) 1 (111) (nI (s))) 1 (130) (nI 0)) 1 (131) (nI 0)) 1 (132) (nI 0)) 1 (133) (nI 0)) 1 (134) (nI 0)) 1 (135) (nI 0)) 1 (70) (nI ((k + 1)))) 1 2))) 1 ((6010 + (3 * (((k + 1) - 1) % 60)))) (nI (s))) 1 (((6010 + (3 * (((k + 1) - 1) % 60))) + 1)) (nI 0)) 1 (((6010 + (3 * (((k + 1) - 1) % 60))) + 2)) (((upd2 (upd2 (upd2 (upd2 (upd2 (upd2 (upd2 (upd2 (upd2 (upd2 (upd2 (upd2 (upd2 (upd2 (upd2 (upd2 (updA (updA (I) 9 (fun j => if j < 240 then nI 0 else (I) 9 j)) 12 (fun j => if j < 240 then nI 0 else (I) 12 j)) 0 30 (nI (s))) 0 31 (nI 0)) 0 32 (nI 0)) 0 33 (nI 0)) 0 34 (nI 0)) 1 (71) (nI ((e + s)))) 1 (72) (nI 0)) 1 (110) (nI 0)) 1 (111) (nI (s))) 1 (130) (nI 0)) 1 (131) (nI 0)) 1 (132) (nI 0)) 1 (133) (nI 0)) 1 (134) (nI 0)) 1 (135) (nI 0)) 1 (70) (nI ((k + 1)))) 1 73 + (upd2 (upd2 (upd2 (upd2 (upd2 (upd2 (upd2 (upd2 (upd2 (upd2 (upd2 (upd2 (upd2 (upd2 (upd2 (upd2 (updA (updA (I) 9 (fun j => if j < 240 then nI 0 else (I) 9 j)) 12 (fun j => if j < 240 then nI 0 else (I) 12 j)) 0 30 (nI (s))) 0 31 (nI 0)) 0 32 (nI 0)) 0 33 (nI 0)) 0 34 (nI 0)) 1 (71) (nI ((e + s)))) 1 (72) (nI 0)) 1 (110) (nI 0)) 1 (111) (nI (s))) 1 (130) (nI 0)) 1 (131) (nI 0)) 1 (132) (nI 0)) 1 (133) (nI 0)) 1 (134) (nI 0)) 1 (135) (nI 0)) 1 (70) (nI ((k + 1)))) 1 2))) 13 (fun j => if j < 240 then nI 0 else (upd2 (upd2 (upd2 (upd2 (upd2 (upd2 (upd2 (upd2 (upd2 (upd2 (upd2 (upd2 (upd2 (upd2 (upd2 (upd2 (upd2 (upd2 (upd2 (upd2 (updA (updA (I) 9 (fun j => if j < 240 then nI 0 else (I) 9 j)) 12 (fun j => if j < 240 then nI 0 else (I) 12 j)) 0 30 (nI (s))) 0 31 (nI 0)) 0 32 (nI 0)) 0 33 (nI 0)) 0 34 (nI 0)) 1 (71) (nI ((e + s)))) 1 (72) (nI 0)) 1 (110) (nI 0)) 1 (111) (nI (s))) 1 (130) (nI 0)) 1 (131) (nI 0)) 1 (132) (nI 0)) 1 (133) (nI 0)) 1 (134) (nI 0)) 1 (135) (nI 0)) 1 (70) (nI ((k + 1)))) 1 (73) (((upd2 (upd2 (upd2 (upd2 (upd2 (upd2 (upd2 (upd2 (upd2 (upd2 (upd2 (upd2 (upd2 (upd2 (upd2 (upd2 (updA (updA (I) 9 (fun j => if j < 240 then nI 0 else (I) 9 j)) 12 (fun j => if j < 240 then nI 0 else (I) 12 j)) 0 30 (nI (s))) 0 31 (nI 0)) 0 32 (nI 0)) 0 33 (nI 0)) 0 34 (nI 0)) 1 (71) (nI ((e + s)))) 1 (72) (nI 0)) 1 (110) (nI 0)) 1 (111) (nI (s))) 1 (130) (nI 0)) 1 (131) (nI 0)) 1 (132) (nI 0)) 1 (133) (nI 0)) 1 (134) (nI 0)) 1 (135) (nI 0)) 1 (70) (nI ((k + 1)))) 1 73 + (upd2 (upd2 (upd2 (upd2 (upd2 (upd2 (upd2 (upd2 (upd2 (upd2 (upd2 (upd2 (upd2 (upd2 (upd2 (upd2 (updA (updA (I) 9 (fun j => if j < 240 then nI 0 else (I) 9 j)) 12 (fun j => if j < 240 then nI 0 else (I) 12 j)) 0 30 (nI (s))) 0 31 (nI 0)) 0 32 (nI 0)) 0 33 (nI 0)) 0 34 (nI 0)) 1 (71) (nI ((e + s)))) 1 (72) (nI 0)) 1 (110) (nI 0)) 1 (111) (nI (s))) 1 (130) (nI 0)) 1 (131) (nI 0)) 1 (132) (nI 0)) 1 (133) (nI 0)) 1 (134) (nI 0)) 1 (135) (nI 0)) 1 (70) (nI ((k + 1)))) 1 2))) 1 ((6010 + (3 * (((k + 1) - 1) % 60)))) (nI (s))) 1 (((6010 + (3 * (((k + 1) - 1) % 60))) + 1)) (nI 0)) 1 (((6010 + (3 * (((k + 1) - 1) % 60))) + 2)) (((upd2 (upd2 (upd2 (upd2 (upd2 (upd2 (upd2 (upd2 (upd2 (upd2 (upd2 (upd2 (upd2 (upd2 (upd2 (upd2 (updA (updA (I) 9 (fun j => if j < 240 then nI 0 else (I) 9 j)) 12 (fun j => if j < 240 then nI 0 else (I) 12 j)) 0 30 (nI (s))) 0 31 (nI 0)) 0 32 (nI 0)) 0 33 (nI 0)) 0 34 (nI 0)) 1 (71) (nI ((e + s)))) 1 (72) (nI 0)) 1 (110) (nI 0)) 1 (111) (nI (s))) 1 (130) (nI 0)) 1 (131) (nI 0)) 1 (132) (nI 0)) 1 (133) (nI 0)) 1 (134) (nI 0)) 1 (135) (nI 0)) 1 (70) (nI ((k + 1)))) 1 73 + (upd2 (upd2 (upd2 (upd2 (upd2 (upd2 (upd2 (upd2 (upd2 (upd2 (upd2 (upd2 (upd2 (upd2 (upd2 (upd2 (updA (updA (I) 9 (fun j => if j < 240 then nI 0 else (I) 9 j)) 12 (fun j => if j < 240 then nI 0 else (I) 12 j)) 0 30 (nI (s))) 0 31 (nI 0)) 0 32 (nI 0)) 0 33 (nI 0)) 0 34 (nI 0)) 1 (71) (nI ((e + s)))) 1 (72) (nI 0)) 1 (110) (nI 0)) 1 (111) (nI (s))) 1 (130) (nI 0)) 1 (131) (nI 0)) 1 (132) (nI 0)) 1 (133) (nI 0)) 1 (134) (nI 0)) 1 (135) (nI 0)) 1 (70) (nI ((k + 1)))) 1 2))) 13 j)) 0 35 (nI 0)) 1 (130 + j) = nI 0) (Eq.trans (congrFun (upd2_ne (by decide)) (130)) (Eq.trans (congrFun (updA_ne (by decide)) (130)) (Eq.trans (upd2_nx (by omega)) (Eq.trans (upd2_nx (by omega)) (Eq.trans (upd2_nx (by omega)) (Eq.trans (upd2_nx (by omega)) (Eq.trans (upd2_nx (by omega)) (Eq.trans (upd2_nx (by omega)) (Eq.trans (upd2_nx (by omega)) (Eq.trans (upd2_nx (by omega)) (Eq.trans (upd2_nx (by omega)) (Eq.trans (upd2_nx (by omega)) (upd2_eq))))))))))))) (Eq.trans (congrFun (upd2_ne (by decide)) (131)) (Eq.trans (congrFun (updA_ne (by decide)) (131)) (Eq.trans (upd2_nx (by omega)) (Eq.trans (upd2_nx (by omega)) (Eq.trans (upd2_nx (by omega)) (Eq.trans (upd2_nx (by omega)) (Eq.trans (upd2_nx (by omega)) (Eq.trans (upd2_nx (by omega)) (Eq.trans (upd2_nx (by omega)) (Eq.trans (upd2_nx (by omega)) (Eq.trans (upd2_nx (by omega)) (upd2_eq)))))))))))) (Eq.trans (congrFun (upd2_ne (by decide)) (132)) (Eq.trans (congrFun (updA_ne (by decide)) (132)) (Eq.trans (upd2_nx (by omega)) (Eq.trans (upd2_nx (by omega)) (Eq.trans (upd2_nx (by omega)) (Eq.trans (upd2_nx (by omega)) (Eq.trans (upd2_nx (by omega)) (Eq.trans (upd2_nx (by omega)) (Eq.trans (upd2_nx (by omega)) (Eq.trans (upd2_nx (by omega)) (upd2_eq))))))))))) (Eq.trans (congrFun (upd2_ne (by decide)) (133)) (Eq.trans (congrFun (updA_ne (by decide)) (133)) (Eq.trans (upd2_nx (by omega)) (Eq.trans (upd2_nx (by omega)) (Eq.trans (upd2_nx (by omega)) (Eq.trans (upd2_nx (by omega)) (Eq.trans (upd2_nx (by omega)) (Eq.trans (upd2_nx (by omega)) (Eq.trans (upd2_nx (by omega)) (upd2_eq)))))))))) (Eq.trans (congrFun (upd2_ne (by decide)) (134)) (Eq.trans (congrFun (updA_ne (by decide)) (134)) (Eq.trans (upd2_nx (by omega)) (Eq.trans (upd2_nx (by omega)) (Eq.trans (upd2_nx (by omega)) (Eq.trans (upd2_nx (by omega)) (Eq.trans (upd2_nx (by omega)) (Eq.trans (upd2_nx (by omega)) (upd2_eq))))))))) (Eq.trans (congrFun (upd2_ne (by decide)) (135)) (Eq.trans (congrFun (updA_ne (by decide)) (135)) (Eq.trans (upd2_nx (by omega)) (Eq.trans (upd2_nx (by omega)) (Eq.trans (upd2_nx (by omega)) (Eq.trans (upd2_nx (by omega)) (Eq.trans (upd2_nx (by omega)) (upd2_eq)))))))), fun j hj => (Eq.trans (congrFun (upd2_ne (by decide)) ((10 + j))) (Eq.trans (congrFun (updA_ne (by decide)) ((10 + j))) (Eq.trans (upd2_nx (by omega)) (Eq.trans (upd2_nx (by omega)) (Eq.trans (upd2_nx (by omega)) (Eq.trans (upd2_nx (by omega)) (Eq.trans (upd2_nx (by omega)) (Eq.trans (upd2_nx (by omega)) (Eq.trans (upd2_nx (by omega)) (Eq.trans (upd2_nx (by omega)) (Eq.trans (upd2_nx (by omega)) (Eq.trans (upd2_nx (by omega)) (Eq.trans (upd2_nx (by omega)) (Eq.trans (upd2_nx (by omega)) (Eq.trans (upd2_nx (by omega)) (Eq.trans (upd2_nx (by omega)) (Eq.trans (upd2_nx (by omega)) (Eq.trans (congrFun (upd2_ne (by decide)) ((10 + j))) (Eq.trans (congrFun (upd2_ne (by decide)) ((10 + j))) (Eq.trans (congrFun (upd2_ne (by decide)) ((10 + j))) (Eq.trans (congrFun (upd2_ne (by decide)) ((10 + j))) (Eq.trans (congrFun (upd2_ne (by decide)) ((10 + j))) (Eq.trans (congrFun (updA_ne (by decide)) ((10 + j))) (Eq.trans (congrFun (updA_ne (by decide)) ((10 + j))) (g2 j (by omega)))))))))))))))))))))))))), (Eq.trans (congrFun (upd2_ne (by decide)) (1)) (Eq.trans (congrFun (updA_ne (by decide)) (1)) (Eq.trans (upd2_nx (by omega)) (Eq.trans (upd2_nx (by omega)) (Eq.trans (upd2_nx (by omega)) (Eq.trans (upd2_nx (by omega)) (Eq.trans (upd2_nx (by omega)) (Eq.trans (upd2_nx (by omega)) (Eq.trans (upd2_nx (by omega)) (Eq.trans (upd2_nx (by omega)) (Eq.trans (upd2_nx (by omega)) (Eq.trans (upd2_nx (by omega)) (Eq.trans (upd2_nx (by omega)) (Eq.trans (upd2_nx (by omega)) (Eq.trans (upd2_nx (by omega)) (Eq.trans (upd2_nx (by omega)) (Eq.trans (upd2_nx (by omega)) (Eq.trans (congrFun (upd2_ne (by decide)) (1)) (Eq.trans (congrFun (upd2_ne (by decide)) (1)) (Eq.trans (congrFun (upd2_ne (by decide)) (1)) (Eq.trans (congrFun (upd2_ne (by decide)) (1)) (Eq.trans (congrFun (upd2_ne (by decide)) (1)) (Eq.trans (congrFun (updA_ne (by decide)) (1)) (Eq.trans (congrFun (updA_ne (by decide)) (1)) (g3))))))))))))))))))))))))), (Eq.trans (congrFun (upd2_ne (by decide)) (4)) (Eq.trans (congrFun (updA_ne (by decide)) (4)) (Eq.trans (upd2_nx (by omega)) (Eq.trans (upd2_nx (by omega)) (Eq.trans (upd2_nx (by omega)) (Eq.trans (upd2_nx (by omega)) (Eq.trans (upd2_nx (by omega)) (Eq.trans (upd2_nx (by omega)) (Eq.trans (upd2_nx (by omega)) (Eq.trans (upd2_nx (by omega)) (Eq.trans (upd2_nx (by omega)) (Eq.trans (upd2_nx (by omega)) (Eq.trans (upd2_nx (by omega)) (Eq.trans (upd2_nx (by omega)) (Eq.trans (upd2_nx (by omega)) (Eq.trans (upd2_nx (by omega)) (Eq.trans (upd2_nx (by omega)) (Eq.trans (congrFun (upd2_ne (by decide)) (4)) (Eq.trans (congrFun (upd2_ne (by decide)) (4)) (Eq.trans (congrFun (upd2_ne (by decide)) (4)) (Eq.trans (congrFun (upd2_ne (by decide)) (4)) (Eq.trans (congrFun (upd2_ne (by decide)) (4)) (Eq.trans (congrFun (updA_ne (by decide)) (4)) (Eq.trans (congrFun (updA_ne (by decide)) (4)) (g4))))))))))))))))))))))))), (Eq.trans (congrFun (upd2_ne (by decide)) (71)) (Eq.trans (congrFun (updA_ne (by decide)) (71)) (Eq.trans (upd2_nx (by omega)) (Eq.trans (upd2_nx (by omega)) (Eq.trans (upd2_nx (by omega)) (Eq.trans (upd2_nx (by omega)) (Eq.trans (upd2_nx (by omega)) (Eq.trans (upd2_nx (by omega)) (Eq.trans (upd2_nx (by omega)) (Eq.trans (upd2_nx (by omega)) (Eq.trans (upd2_nx (by omega)) (Eq.trans (upd2_nx (by omega)) (Eq.trans (upd2_nx (by omega)) (Eq.trans (upd2_nx (by omega)) (Eq.trans (upd2_nx (by omega)) (Eq.trans (upd2_nx (by omega)) (upd2_eq))))))))))))))))), (Eq.trans (congrFun (upd2_ne (by decide)) (70)) (Eq.trans (congrFun (updA_ne (by decide)) (70)) (Eq.trans (upd2_nx (by omega)) (Eq.trans (upd2_nx (by omega)) (Eq.trans (upd2_nx (by omega)) (Eq.trans (upd2_nx (by omega)) (upd2_eq))))))), (Eq.trans (congrFun (upd2_ne (by decide)) (72)) (Eq.trans (congrFun (updA_ne (by decide)) (72)) (Eq.trans (upd2_nx (by omega)) (Eq.trans (upd2_nx (by omega)) (Eq.trans (upd2_nx (by omega)) (Eq.trans (upd2_nx (by omega)) (Eq.trans (upd2_nx (by omega)) (Eq.trans (upd2_nx (by omega)) (Eq.trans (upd2_nx (by omega)) (Eq.trans (upd2_nx (by omega)) (Eq.trans (upd2_nx (by omega)) (Eq.trans (upd2_nx (by omega)) (Eq.trans (upd2_nx (by omega)) (Eq.trans (upd2_nx (by omega)) (Eq.trans (upd2_nx (by omega)) (upd2_eq)))))))))))))))), (Eq.trans (congrFun (upd2_ne (by decide)) (75)) (Eq.trans (congrFun (updA_ne (by decide)) (75)) (Eq.trans (upd2_nx (by omega)) (Eq.trans (upd2_nx (by omega)) (Eq.trans (upd2_nx (by omega)) (Eq.trans (upd2_nx (by omega)) (Eq.trans (upd2_nx (by omega)) (Eq.trans (upd2_nx (by omega)) (Eq.trans (upd2_nx (by omega)) (Eq.trans (upd2_nx (by omega)) (Eq.trans (upd2_nx (by omega)) (Eq.trans (upd2_nx (by omega)) (Eq.trans (upd2_nx (by omega)) (Eq.trans (upd2_nx (by omega)) (Eq.trans (upd2_nx (by omega)) (Eq.trans (upd2_nx (by omega)) (Eq.trans (upd2_nx (by omega)) (Eq.trans (congrFun (upd2_ne (by decide)) (75)) (Eq.trans (congrFun (upd2_ne (by decide)) (75)) (Eq.trans (congrFun (upd2_ne (by decide)) (75)) (Eq.trans (congrFun (upd2_ne (by decide)) (75)) (Eq.trans (congrFun (upd2_ne (by decide)) (75)) (Eq.trans (congrFun (updA_ne (by decide)) (75)) (Eq.trans (congrFun (updA_ne (by decide)) (75)) (g8))))))))))))))))))))))))), (Eq.trans (congrFun (upd2_ne (by decide)) (76)) (Eq.trans (congrFun (updA_ne (by decide)) (76)) (Eq.trans (upd2_nx (by omega)) (Eq.trans (upd2_nx (by omega)) (Eq.trans (upd2_nx (by omega)) (Eq.trans (upd2_nx (by omega)) (Eq.trans (upd2_nx (by omega)) (Eq.trans (upd2_nx (by omega)) (Eq.trans (upd2_nx (by omega)) (Eq.trans (upd2_nx (by omega)) (Eq.trans (upd2_nx (by omega)) (Eq.trans (upd2_nx (by omega)) (Eq.trans (upd2_nx (by omega)) (Eq.trans (upd2_nx (by omega)) (Eq.trans (upd2_nx (by omega)) (Eq.trans (upd2_nx (by omega)) (Eq.trans (upd2_nx (by omega)) (Eq.trans (congrFun (upd2_ne (by decide)) (76)) (Eq.trans (congrFun (upd2_ne (by decide)) (76)) (Eq.trans (congrFun (upd2_ne (by decide)) (76)) (Eq.trans (congrFun (upd2_ne (by decide)) (76)) (Eq.trans (congrFun (upd2_ne (by decide)) (76)) (Eq.trans (congrFun (updA_ne (by decide)) (76)) (Eq.trans (congrFun (updA_ne (by decide)) (76)) (g9))))))))))))))))))))))))), fun j hj => (Eq.trans (congrFun (upd2_ne (by decide)) ((80 + j))) (Eq.trans (congrFun (updA_ne (by decide)) ((80 + j))) (Eq.trans (upd2_nx (by omega)) (Eq.trans (upd2_nx (by omega)) (Eq.trans (upd2_nx (by omega)) (Eq.trans (upd2_nx (by omega)) (Eq.trans (upd2_nx (by omega)) (Eq.trans (upd2_nx (by omega)) (Eq.trans (upd2_nx (by omega)) (Eq.trans (upd2_nx (by omega)) (Eq.trans (upd2_nx (by omega)) (Eq.trans (upd2_nx (by omega)) (Eq.trans (upd2_nx (by omega)) (Eq.trans (upd2_nx (by omega)) (Eq.trans (upd2_nx (by omega)) (Eq.trans (upd2_nx (by omega)) (Eq.trans (upd2_nx (by omega)) (Eq.trans (congrFun (upd2_ne (by decide)) ((80 + j))) (Eq.trans (congrFun (upd2_ne (by decide)) ((80 + j))) (Eq.trans (congrFun (upd2_ne (by decide)) ((80 + j))) (Eq.trans (congrFun (upd2_ne (by decide)) ((80 + j))) (Eq.trans (congrFun (upd2_ne (by decide)) ((80 + j))) (Eq.trans (congrFun (updA_ne (by decide)) ((80 + j))) (Eq.trans (congrFun (updA_ne (by decide)) ((80 + j))) (g10 j (by omega)))))))))))))))))))))))))), fun j hj => (Eq.trans (congrFun (upd2_ne (by decide)) ((1580 + j))) (Eq.trans (congrFun (updA_ne (by decide)) ((1580 + j))) (Eq.trans (upd2_nx (by omega)) (Eq.trans (upd2_nx (by omega)) (Eq.trans (upd2_nx (by omega)) (Eq.trans (upd2_nx (by omega)) (Eq.trans (upd2_nx (by omega)) (Eq.trans (upd2_nx (by omega)) (Eq.trans (upd2_nx (by omega)) (Eq.trans (upd2_nx (by omega)) (Eq.trans (upd2_nx (by omega)) (Eq.trans (upd2_nx (by omega)) (Eq.trans (upd2_nx (by omega)) (Eq.trans (upd2_nx (by omega)) (Eq.trans (upd2_nx (by omega)) (Eq.trans (upd2_nx (by omega)) (Eq.trans (upd2_nx (by omega)) (Eq.trans (congrFun (upd2_ne (by decide)) ((1580 + j))) (Eq.trans (congrFun (upd2_ne (by decide)) ((1580 + j))) (Eq.trans (congrFun (upd2_ne (by decide)) ((1580 + j))) (Eq.trans (congrFun (upd2_ne (by decide)) ((1580 + j))) (Eq.trans (congrFun (upd2_ne (by decide)) ((1580 + j))) (Eq.trans (congrFun (updA_ne (by decide)) ((1580 + j))) (Eq.trans (congrFun (updA_ne (by decide)) ((1580 + j))) (g11 j (by omega)))))))))))))))))))))))))), fun j hj => (Eq.trans (congrFun (upd2_ne (by decide)) (j)) (fill_at (by omega))), (by omega)⟩) (fun q hq => by have n0 : q ≠ 0 := (by omega); have n1 : q ≠ 1 := (by omega); have n9 : q ≠ 9 := (by omega); have n12 : q ≠ 12 := (by omega); have n13 : q ≠ 13 := (by omega); simp only [upd2, updA, n0, n1, n9, n12, n13, if_false]))
  · refine aw_aload_n rfl rfl d_X_fills_13 ?_
    refine aw_iconst (v := nI 1) ci_1 d_X_fills_14 ?_
    refine as_callV (as := [.int (nI 1)]) (d' := 4) (q := ("SinglesUpModel", zT9, 51)) mo_X_finds lk_X_318 km_0 rfl rfl rfl ⟨by decide, by decide⟩ rfl rfl (by decide) d_X_fills_15 (Ss.of (show As l b 4 y_X_finds KM RM _ (upd2 (upd2 (upd2 (upd2 (upd2 (updA (updA (I) 9 (fun j => if j < 240 then nI 0 else (I) 9 j)) 12 (fun j => if j < 240 then nI 0 else (I) 12 j)) 0 30 (nI (s))) 0 31 (nI 0)) 0 32 (nI 0)) 0 33 (nI 0)) 0 34 (nI 0)) 0 [.ref 0, .int (nI 1), uu, uu, uu, uu, uu] [] from ?_))
    refine aw_iconst (v := (-1 : Int32)) rfl d_X_finds_0 ?_
    refine aw_istore_n (lv2 := [.ref 0, .int (nI 1), .int ((-1 : Int32)), uu, uu, uu, uu]) rfl (by decide) rfl d_X_finds_1 ?_
    refine aw_iconst (v := nI 0) ci_0 d_X_finds_2 ?_
    refine aw_istore_n (lv2 := [.ref 0, .int (nI 1), .int ((-1 : Int32)), .int (nI 0), uu, uu, uu]) rfl (by decide) rfl d_X_finds_3 ?_
    refine aw_iconst (v := nI 0) ci_0 d_X_finds_4 ?_
    refine aw_istore (lv2 := [.ref 0, .int (nI 1), .int ((-1 : Int32)), .int (nI 0), .int (nI 0), uu, uu]) (by decide) rfl d_X_finds_5 ?_
    refine aw_iload rfl d_X_finds_7 ?_
    refine aw_bipush (v := nI 6) cb_6 d_X_finds_9 ?_
    refine aw_icmp_geI (tgt := 146) (0) (6) (by decide +kernel) (by decide +kernel) (by decide) d_X_finds_11 (fun q => absurd q (by decide)) (fun _ => ?_)
    refine aw_iconst (v := nI 0) ci_0 d_X_finds_14 ?_
    refine aw_istore (lv2 := [.ref 0, .int (nI 1), .int ((-1 : Int32)), .int (nI 0), .int (nI 0), .int (nI 0), uu]) (by decide) rfl d_X_finds_15 ?_
    refine aw_iload rfl d_X_finds_17 ?_
    refine aw_aload_n rfl rfl d_X_finds_19 ?_
    refine aw_getr fl_X_7 km_0 (by decide) rfl rm_0_0 d_X_finds_20 ?_
    refine aw_sipush (v := nI 130) cs_130 d_X_finds_23 ?_
    refine aw_iload rfl d_X_finds_26 ?_
    refine aw_iadd d_X_finds_28 ?_
    refine aw_top (x2 := nI 130) (by decide +kernel) ?_
    refine aw_iald (j := 130) km_1 (vp_in_nI (by decide) (by decide)) (nI_clamp (by decide)) d_X_finds_29 ?_
    refine aw_top (x2 := nI 0) (Eq.trans (congrFun (upd2_ne (by decide)) (130)) (Eq.trans (congrFun (upd2_ne (by decide)) (130)) (Eq.trans (congrFun (upd2_ne (by decide)) (130)) (Eq.trans (congrFun (upd2_ne (by decide)) (130)) (Eq.trans (congrFun (upd2_ne (by decide)) (130)) (Eq.trans (congrFun (updA_ne (by decide)) (130)) (Eq.trans (congrFun (updA_ne (by decide)) (130)) (g1 0 (by decide))))))))) ?_
    refine aw_icmp_geI (tgt := 140) (0) (0) (by decide +kernel) (by decide +kernel) (by decide) d_X_finds_30 (fun _ => ?_) (fun q => absurd q (by decide))
    refine aw_iinc (v := nI 1) (lv2 := [.ref 0, .int (nI 1), .int ((-1 : Int32)), .int (nI 0), .int (nI 1), .int (nI 0), uu]) rfl (by decide +kernel) (by decide) rfl d_X_finds_140 ?_
    refine aw_goto (tgt := 7) (by decide) d_X_finds_143 ?_
    refine aw_iload rfl d_X_finds_7 ?_
    refine aw_bipush (v := nI 6) cb_6 d_X_finds_9 ?_
    refine aw_icmp_geI (tgt := 146) (1) (6) (by decide +kernel) (by decide +kernel) (by decide) d_X_finds_11 (fun q => absurd q (by decide)) (fun _ => ?_)
    refine aw_iconst (v := nI 0) ci_0 d_X_finds_14 ?_
    refine aw_istore (lv2 := [.ref 0, .int (nI 1), .int ((-1 : Int32)), .int (nI 0), .int (nI 1), .int (nI 0), uu]) (by decide) rfl d_X_finds_15 ?_
    refine aw_iload rfl d_X_finds_17 ?_
    refine aw_aload_n rfl rfl d_X_finds_19 ?_
    refine aw_getr fl_X_7 km_0 (by decide) rfl rm_0_0 d_X_finds_20 ?_
    refine aw_sipush (v := nI 130) cs_130 d_X_finds_23 ?_
    refine aw_iload rfl d_X_finds_26 ?_
    refine aw_iadd d_X_finds_28 ?_
    refine aw_top (x2 := nI 131) (by decide +kernel) ?_
    refine aw_iald (j := 131) km_1 (vp_in_nI (by decide) (by decide)) (nI_clamp (by decide)) d_X_finds_29 ?_
    refine aw_top (x2 := nI 0) (Eq.trans (congrFun (upd2_ne (by decide)) (131)) (Eq.trans (congrFun (upd2_ne (by decide)) (131)) (Eq.trans (congrFun (upd2_ne (by decide)) (131)) (Eq.trans (congrFun (upd2_ne (by decide)) (131)) (Eq.trans (congrFun (upd2_ne (by decide)) (131)) (Eq.trans (congrFun (updA_ne (by decide)) (131)) (Eq.trans (congrFun (updA_ne (by decide)) (131)) (g1 1 (by decide))))))))) ?_
    refine aw_icmp_geI (tgt := 140) (0) (0) (by decide +kernel) (by decide +kernel) (by decide) d_X_finds_30 (fun _ => ?_) (fun q => absurd q (by decide))
    refine aw_iinc (v := nI 2) (lv2 := [.ref 0, .int (nI 1), .int ((-1 : Int32)), .int (nI 0), .int (nI 2), .int (nI 0), uu]) rfl (by decide +kernel) (by decide) rfl d_X_finds_140 ?_
    refine aw_goto (tgt := 7) (by decide) d_X_finds_143 ?_
    refine aw_iload rfl d_X_finds_7 ?_
    refine aw_bipush (v := nI 6) cb_6 d_X_finds_9 ?_
    refine aw_icmp_geI (tgt := 146) (2) (6) (by decide +kernel) (by decide +kernel) (by decide) d_X_finds_11 (fun q => absurd q (by decide)) (fun _ => ?_)
    refine aw_iconst (v := nI 0) ci_0 d_X_finds_14 ?_
    refine aw_istore (lv2 := [.ref 0, .int (nI 1), .int ((-1 : Int32)), .int (nI 0), .int (nI 2), .int (nI 0), uu]) (by decide) rfl d_X_finds_15 ?_
    refine aw_iload rfl d_X_finds_17 ?_
    refine aw_aload_n rfl rfl d_X_finds_19 ?_
    refine aw_getr fl_X_7 km_0 (by decide) rfl rm_0_0 d_X_finds_20 ?_
    refine aw_sipush (v := nI 130) cs_130 d_X_finds_23 ?_
    refine aw_iload rfl d_X_finds_26 ?_
    refine aw_iadd d_X_finds_28 ?_
    refine aw_top (x2 := nI 132) (by decide +kernel) ?_
    refine aw_iald (j := 132) km_1 (vp_in_nI (by decide) (by decide)) (nI_clamp (by decide)) d_X_finds_29 ?_
    refine aw_top (x2 := nI 0) (Eq.trans (congrFun (upd2_ne (by decide)) (132)) (Eq.trans (congrFun (upd2_ne (by decide)) (132)) (Eq.trans (congrFun (upd2_ne (by decide)) (132)) (Eq.trans (congrFun (upd2_ne (by decide)) (132)) (Eq.trans (congrFun (upd2_ne (by decide)) (132)) (Eq.trans (congrFun (updA_ne (by decide)) (132)) (Eq.trans (congrFun (updA_ne (by decide)) (132)) (g1 2 (by decide))))))))) ?_
    refine aw_icmp_geI (tgt := 140) (0) (0) (by decide +kernel) (by decide +kernel) (by decide) d_X_finds_30 (fun _ => ?_) (fun q => absurd q (by decide))
    refine aw_iinc (v := nI 3) (lv2 := [.ref 0, .int (nI 1), .int ((-1 : Int32)), .int (nI 0), .int (nI 3), .int (nI 0), uu]) rfl (by decide +kernel) (by decide) rfl d_X_finds_140 ?_
    refine aw_goto (tgt := 7) (by decide) d_X_finds_143 ?_
    refine aw_iload rfl d_X_finds_7 ?_
    refine aw_bipush (v := nI 6) cb_6 d_X_finds_9 ?_
    refine aw_icmp_geI (tgt := 146) (3) (6) (by decide +kernel) (by decide +kernel) (by decide) d_X_finds_11 (fun q => absurd q (by decide)) (fun _ => ?_)
    refine aw_iconst (v := nI 0) ci_0 d_X_finds_14 ?_
    refine aw_istore (lv2 := [.ref 0, .int (nI 1), .int ((-1 : Int32)), .int (nI 0), .int (nI 3), .int (nI 0), uu]) (by decide) rfl d_X_finds_15 ?_
    refine aw_iload rfl d_X_finds_17 ?_
    refine aw_aload_n rfl rfl d_X_finds_19 ?_
    refine aw_getr fl_X_7 km_0 (by decide) rfl rm_0_0 d_X_finds_20 ?_
    refine aw_sipush (v := nI 130) cs_130 d_X_finds_23 ?_
    refine aw_iload rfl d_X_finds_26 ?_
    refine aw_iadd d_X_finds_28 ?_
    refine aw_top (x2 := nI 133) (by decide +kernel) ?_
    refine aw_iald (j := 133) km_1 (vp_in_nI (by decide) (by decide)) (nI_clamp (by decide)) d_X_finds_29 ?_
    refine aw_top (x2 := nI 0) (Eq.trans (congrFun (upd2_ne (by decide)) (133)) (Eq.trans (congrFun (upd2_ne (by decide)) (133)) (Eq.trans (congrFun (upd2_ne (by decide)) (133)) (Eq.trans (congrFun (upd2_ne (by decide)) (133)) (Eq.trans (congrFun (upd2_ne (by decide)) (133)) (Eq.trans (congrFun (updA_ne (by decide)) (133)) (Eq.trans (congrFun (updA_ne (by decide)) (133)) (g1 3 (by decide))))))))) ?_
    refine aw_icmp_geI (tgt := 140) (0) (0) (by decide +kernel) (by decide +kernel) (by decide) d_X_finds_30 (fun _ => ?_) (fun q => absurd q (by decide))
    refine aw_iinc (v := nI 4) (lv2 := [.ref 0, .int (nI 1), .int ((-1 : Int32)), .int (nI 0), .int (nI 4), .int (nI 0), uu]) rfl (by decide +kernel) (by decide) rfl d_X_finds_140 ?_
    refine aw_goto (tgt := 7) (by decide) d_X_finds_143 ?_
    refine aw_iload rfl d_X_finds_7 ?_
    refine aw_bipush (v := nI 6) cb_6 d_X_finds_9 ?_
    refine aw_icmp_geI (tgt := 146) (4) (6) (by decide +kernel) (by decide +kernel) (by decide) d_X_finds_11 (fun q => absurd q (by decide)) (fun _ => ?_)
    refine aw_iconst (v := nI 0) ci_0 d_X_finds_14 ?_
    refine aw_istore (lv2 := [.ref 0, .int (nI 1), .int ((-1 : Int32)), .int (nI 0), .int (nI 4), .int (nI 0), uu]) (by decide) rfl d_X_finds_15 ?_
    refine aw_iload rfl d_X_finds_17 ?_
    refine aw_aload_n rfl rfl d_X_finds_19 ?_
    refine aw_getr fl_X_7 km_0 (by decide) rfl rm_0_0 d_X_finds_20 ?_
    refine aw_sipush (v := nI 130) cs_130 d_X_finds_23 ?_
    refine aw_iload rfl d_X_finds_26 ?_
    refine aw_iadd d_X_finds_28 ?_
    refine aw_top (x2 := nI 134) (by decide +kernel) ?_
    refine aw_iald (j := 134) km_1 (vp_in_nI (by decide) (by decide)) (nI_clamp (by decide)) d_X_finds_29 ?_
    refine aw_top (x2 := nI 0) (Eq.trans (congrFun (upd2_ne (by decide)) (134)) (Eq.trans (congrFun (upd2_ne (by decide)) (134)) (Eq.trans (congrFun (upd2_ne (by decide)) (134)) (Eq.trans (congrFun (upd2_ne (by decide)) (134)) (Eq.trans (congrFun (upd2_ne (by decide)) (134)) (Eq.trans (congrFun (updA_ne (by decide)) (134)) (Eq.trans (congrFun (updA_ne (by decide)) (134)) (g1 4 (by decide))))))))) ?_
    refine aw_icmp_geI (tgt := 140) (0) (0) (by decide +kernel) (by decide +kernel) (by decide) d_X_finds_30 (fun _ => ?_) (fun q => absurd q (by decide))
    refine aw_iinc (v := nI 5) (lv2 := [.ref 0, .int (nI 1), .int ((-1 : Int32)), .int (nI 0), .int (nI 5), .int (nI 0), uu]) rfl (by decide +kernel) (by decide) rfl d_X_finds_140 ?_
    refine aw_goto (tgt := 7) (by decide) d_X_finds_143 ?_
    refine aw_iload rfl d_X_finds_7 ?_
    refine aw_bipush (v := nI 6) cb_6 d_X_finds_9 ?_
    refine aw_icmp_geI (tgt := 146) (5) (6) (by decide +kernel) (by decide +kernel) (by decide) d_X_finds_11 (fun q => absurd q (by decide)) (fun _ => ?_)
    refine aw_iconst (v := nI 0) ci_0 d_X_finds_14 ?_
    refine aw_istore (lv2 := [.ref 0, .int (nI 1), .int ((-1 : Int32)), .int (nI 0), .int (nI 5), .int (nI 0), uu]) (by decide) rfl d_X_finds_15 ?_
    refine aw_iload rfl d_X_finds_17 ?_
    refine aw_aload_n rfl rfl d_X_finds_19 ?_
    refine aw_getr fl_X_7 km_0 (by decide) rfl rm_0_0 d_X_finds_20 ?_
    refine aw_sipush (v := nI 130) cs_130 d_X_finds_23 ?_
    refine aw_iload rfl d_X_finds_26 ?_
    refine aw_iadd d_X_finds_28 ?_
    refine aw_top (x2 := nI 135) (by decide +kernel) ?_
    refine aw_iald (j := 135) km_1 (vp_in_nI (by decide) (by decide)) (nI_clamp (by decide)) d_X_finds_29 ?_
    refine aw_top (x2 := nI 0) (Eq.trans (congrFun (upd2_ne (by decide)) (135)) (Eq.trans (congrFun (upd2_ne (by decide)) (135)) (Eq.trans (congrFun (upd2_ne (by decide)) (135)) (Eq.trans (congrFun (upd2_ne (by decide)) (135)) (Eq.trans (congrFun (upd2_ne (by decide)) (135)) (Eq.trans (congrFun (updA_ne (by decide)) (135)) (Eq.trans (congrFun (updA_ne (by decide)) (135)) (g1 5 (by decide))))))))) ?_
    refine aw_icmp_geI (tgt := 140) (0) (0) (by decide +kernel) (by decide +kernel) (by decide) d_X_finds_30 (fun _ => ?_) (fun q => absurd q (by decide))
    refine aw_iinc (v := nI 6) (lv2 := [.ref 0, .int (nI 1), .int ((-1 : Int32)), .int (nI 0), .int (nI 6), .int (nI 0), uu]) rfl (by decide +kernel) (by decide) rfl d_X_finds_140 ?_
    refine aw_goto (tgt := 7) (by decide) d_X_finds_143 ?_
    refine aw_iload rfl d_X_finds_7 ?_
    refine aw_bipush (v := nI 6) cb_6 d_X_finds_9 ?_
    refine aw_icmp_geI (tgt := 146) (6) (6) (by decide +kernel) (by decide +kernel) (by decide) d_X_finds_11 (fun _ => ?_) (fun q => absurd q (by decide))
    refine aw_iload_n rfl rfl d_X_finds_146 ?_
    refine as_reti rfl d_X_finds_147 ?_
    refine (show As l b 5 y_X_fills KM RM _ (upd2 (upd2 (upd2 (upd2 (upd2 (updA (updA (I) 9 (fun j => if j < 240 then nI 0 else (I) 9 j)) 12 (fun j => if j < 240 then nI 0 else (I) 12 j)) 0 30 (nI (s))) 0 31 (nI 0)) 0 32 (nI 0)) 0 33 (nI 0)) 0 34 (nI 0)) 18 [.ref 0, uu, uu, uu] [.int ((-1 : Int32))] from ?_)
    refine aw_goto (tgt := 22) (by decide) d_X_fills_18 ?_
    refine aw_istore_n (lv2 := [.ref 0, .int ((-1 : Int32)), uu, uu]) rfl (by decide) rfl d_X_fills_22 ?_
    refine aw_iload_n rfl rfl d_X_fills_23 ?_
    refine aw_iconst (v := (-1 : Int32)) rfl d_X_fills_24 ?_
    refine aw_icmp_neI (tgt := 34) (-1) (-1) (by decide +kernel) (by decide +kernel) (by decide) d_X_fills_25 (fun q => absurd q (by decide)) (fun _ => ?_)
    refine aw_aload_n rfl rfl d_X_fills_28 ?_
    refine aw_iconst (v := nI 0) ci_0 d_X_fills_29 ?_
    refine as_callV (as := [.int (nI 0)]) (d' := 4) (q := ("SinglesUpModel", zT9, 51)) mo_X_finds lk_X_318 km_0 rfl rfl rfl ⟨by decide, by decide⟩ rfl rfl (by decide) d_X_fills_30 (Ss.of (show As l b 4 y_X_finds KM RM _ (upd2 (upd2 (upd2 (upd2 (upd2 (updA (updA (I) 9 (fun j => if j < 240 then nI 0 else (I) 9 j)) 12 (fun j => if j < 240 then nI 0 else (I) 12 j)) 0 30 (nI (s))) 0 31 (nI 0)) 0 32 (nI 0)) 0 33 (nI 0)) 0 34 (nI 0)) 0 [.ref 0, .int (nI 0), uu, uu, uu, uu, uu] [] from ?_))
    refine aw_iconst (v := (-1 : Int32)) rfl d_X_finds_0 ?_
    refine aw_istore_n (lv2 := [.ref 0, .int (nI 0), .int ((-1 : Int32)), uu, uu, uu, uu]) rfl (by decide) rfl d_X_finds_1 ?_
    refine aw_iconst (v := nI 0) ci_0 d_X_finds_2 ?_
    refine aw_istore_n (lv2 := [.ref 0, .int (nI 0), .int ((-1 : Int32)), .int (nI 0), uu, uu, uu]) rfl (by decide) rfl d_X_finds_3 ?_
    refine aw_iconst (v := nI 0) ci_0 d_X_finds_4 ?_
    refine aw_istore (lv2 := [.ref 0, .int (nI 0), .int ((-1 : Int32)), .int (nI 0), .int (nI 0), uu, uu]) (by decide) rfl d_X_finds_5 ?_
    refine aw_iload rfl d_X_finds_7 ?_
    refine aw_bipush (v := nI 6) cb_6 d_X_finds_9 ?_
    refine aw_icmp_geI (tgt := 146) (0) (6) (by decide +kernel) (by decide +kernel) (by decide) d_X_finds_11 (fun q => absurd q (by decide)) (fun _ => ?_)
    refine aw_iconst (v := nI 0) ci_0 d_X_finds_14 ?_
    refine aw_istore (lv2 := [.ref 0, .int (nI 0), .int ((-1 : Int32)), .int (nI 0), .int (nI 0), .int (nI 0), uu]) (by decide) rfl d_X_finds_15 ?_
    refine aw_iload rfl d_X_finds_17 ?_
    refine aw_aload_n rfl rfl d_X_finds_19 ?_
    refine aw_getr fl_X_7 km_0 (by decide) rfl rm_0_0 d_X_finds_20 ?_
    refine aw_sipush (v := nI 130) cs_130 d_X_finds_23 ?_
    refine aw_iload rfl d_X_finds_26 ?_
    refine aw_iadd d_X_finds_28 ?_
    refine aw_top (x2 := nI 130) (by decide +kernel) ?_
    refine aw_iald (j := 130) km_1 (vp_in_nI (by decide) (by decide)) (nI_clamp (by decide)) d_X_finds_29 ?_
    refine aw_top (x2 := nI 0) (Eq.trans (congrFun (upd2_ne (by decide)) (130)) (Eq.trans (congrFun (upd2_ne (by decide)) (130)) (Eq.trans (congrFun (upd2_ne (by decide)) (130)) (Eq.trans (congrFun (upd2_ne (by decide)) (130)) (Eq.trans (congrFun (upd2_ne (by decide)) (130)) (Eq.trans (congrFun (updA_ne (by decide)) (130)) (Eq.trans (congrFun (updA_ne (by decide)) (130)) (g1 0 (by decide))))))))) ?_
    refine aw_icmp_geI (tgt := 140) (0) (0) (by decide +kernel) (by decide +kernel) (by decide) d_X_finds_30 (fun _ => ?_) (fun q => absurd q (by decide))
    refine aw_iinc (v := nI 1) (lv2 := [.ref 0, .int (nI 0), .int ((-1 : Int32)), .int (nI 0), .int (nI 1), .int (nI 0), uu]) rfl (by decide +kernel) (by decide) rfl d_X_finds_140 ?_
    refine aw_goto (tgt := 7) (by decide) d_X_finds_143 ?_
    refine aw_iload rfl d_X_finds_7 ?_
    refine aw_bipush (v := nI 6) cb_6 d_X_finds_9 ?_
    refine aw_icmp_geI (tgt := 146) (1) (6) (by decide +kernel) (by decide +kernel) (by decide) d_X_finds_11 (fun q => absurd q (by decide)) (fun _ => ?_)
    refine aw_iconst (v := nI 0) ci_0 d_X_finds_14 ?_
    refine aw_istore (lv2 := [.ref 0, .int (nI 0), .int ((-1 : Int32)), .int (nI 0), .int (nI 1), .int (nI 0), uu]) (by decide) rfl d_X_finds_15 ?_
    refine aw_iload rfl d_X_finds_17 ?_
    refine aw_aload_n rfl rfl d_X_finds_19 ?_
    refine aw_getr fl_X_7 km_0 (by decide) rfl rm_0_0 d_X_finds_20 ?_
    refine aw_sipush (v := nI 130) cs_130 d_X_finds_23 ?_
    refine aw_iload rfl d_X_finds_26 ?_
    refine aw_iadd d_X_finds_28 ?_
    refine aw_top (x2 := nI 131) (by decide +kernel) ?_
    refine aw_iald (j := 131) km_1 (vp_in_nI (by decide) (by decide)) (nI_clamp (by decide)) d_X_finds_29 ?_
    refine aw_top (x2 := nI 0) (Eq.trans (congrFun (upd2_ne (by decide)) (131)) (Eq.trans (congrFun (upd2_ne (by decide)) (131)) (Eq.trans (congrFun (upd2_ne (by decide)) (131)) (Eq.trans (congrFun (upd2_ne (by decide)) (131)) (Eq.trans (congrFun (upd2_ne (by decide)) (131)) (Eq.trans (congrFun (updA_ne (by decide)) (131)) (Eq.trans (congrFun (updA_ne (by decide)) (131)) (g1 1 (by decide))))))))) ?_
    refine aw_icmp_geI (tgt := 140) (0) (0) (by decide +kernel) (by decide +kernel) (by decide) d_X_finds_30 (fun _ => ?_) (fun q => absurd q (by decide))
    refine aw_iinc (v := nI 2) (lv2 := [.ref 0, .int (nI 0), .int ((-1 : Int32)), .int (nI 0), .int (nI 2), .int (nI 0), uu]) rfl (by decide +kernel) (by decide) rfl d_X_finds_140 ?_
    refine aw_goto (tgt := 7) (by decide) d_X_finds_143 ?_
    refine aw_iload rfl d_X_finds_7 ?_
    refine aw_bipush (v := nI 6) cb_6 d_X_finds_9 ?_
    refine aw_icmp_geI (tgt := 146) (2) (6) (by decide +kernel) (by decide +kernel) (by decide) d_X_finds_11 (fun q => absurd q (by decide)) (fun _ => ?_)
    refine aw_iconst (v := nI 0) ci_0 d_X_finds_14 ?_
    refine aw_istore (lv2 := [.ref 0, .int (nI 0), .int ((-1 : Int32)), .int (nI 0), .int (nI 2), .int (nI 0), uu]) (by decide) rfl d_X_finds_15 ?_
    refine aw_iload rfl d_X_finds_17 ?_
    refine aw_aload_n rfl rfl d_X_finds_19 ?_
    refine aw_getr fl_X_7 km_0 (by decide) rfl rm_0_0 d_X_finds_20 ?_
    refine aw_sipush (v := nI 130) cs_130 d_X_finds_23 ?_
    refine aw_iload rfl d_X_finds_26 ?_
    refine aw_iadd d_X_finds_28 ?_
    refine aw_top (x2 := nI 132) (by decide +kernel) ?_
    refine aw_iald (j := 132) km_1 (vp_in_nI (by decide) (by decide)) (nI_clamp (by decide)) d_X_finds_29 ?_
    refine aw_top (x2 := nI 0) (Eq.trans (congrFun (upd2_ne (by decide)) (132)) (Eq.trans (congrFun (upd2_ne (by decide)) (132)) (Eq.trans (congrFun (upd2_ne (by decide)) (132)) (Eq.trans (congrFun (upd2_ne (by decide)) (132)) (Eq.trans (congrFun (upd2_ne (by decide)) (132)) (Eq.trans (congrFun (updA_ne (by decide)) (132)) (Eq.trans (congrFun (updA_ne (by decide)) (132)) (g1 2 (by decide))))))))) ?_
    refine aw_icmp_geI (tgt := 140) (0) (0) (by decide +kernel) (by decide +kernel) (by decide) d_X_finds_30 (fun _ => ?_) (fun q => absurd q (by decide))
    refine aw_iinc (v := nI 3) (lv2 := [.ref 0, .int (nI 0), .int ((-1 : Int32)), .int (nI 0), .int (nI 3), .int (nI 0), uu]) rfl (by decide +kernel) (by decide) rfl d_X_finds_140 ?_
    refine aw_goto (tgt := 7) (by decide) d_X_finds_143 ?_
    refine aw_iload rfl d_X_finds_7 ?_
    refine aw_bipush (v := nI 6) cb_6 d_X_finds_9 ?_
    refine aw_icmp_geI (tgt := 146) (3) (6) (by decide +kernel) (by decide +kernel) (by decide) d_X_finds_11 (fun q => absurd q (by decide)) (fun _ => ?_)
    refine aw_iconst (v := nI 0) ci_0 d_X_finds_14 ?_
    refine aw_istore (lv2 := [.ref 0, .int (nI 0), .int ((-1 : Int32)), .int (nI 0), .int (nI 3), .int (nI 0), uu]) (by decide) rfl d_X_finds_15 ?_
    refine aw_iload rfl d_X_finds_17 ?_
    refine aw_aload_n rfl rfl d_X_finds_19 ?_
    refine aw_getr fl_X_7 km_0 (by decide) rfl rm_0_0 d_X_finds_20 ?_
    refine aw_sipush (v := nI 130) cs_130 d_X_finds_23 ?_
    refine aw_iload rfl d_X_finds_26 ?_
    refine aw_iadd d_X_finds_28 ?_
    refine aw_top (x2 := nI 133) (by decide +kernel) ?_
    refine aw_iald (j := 133) km_1 (vp_in_nI (by decide) (by decide)) (nI_clamp (by decide)) d_X_finds_29 ?_
    refine aw_top (x2 := nI 0) (Eq.trans (congrFun (upd2_ne (by decide)) (133)) (Eq.trans (congrFun (upd2_ne (by decide)) (133)) (Eq.trans (congrFun (upd2_ne (by decide)) (133)) (Eq.trans (congrFun (upd2_ne (by decide)) (133)) (Eq.trans (congrFun (upd2_ne (by decide)) (133)) (Eq.trans (congrFun (updA_ne (by decide)) (133)) (Eq.trans (congrFun (updA_ne (by decide)) (133)) (g1 3 (by decide))))))))) ?_
    refine aw_icmp_geI (tgt := 140) (0) (0) (by decide +kernel) (by decide +kernel) (by decide) d_X_finds_30 (fun _ => ?_) (fun q => absurd q (by decide))
    refine aw_iinc (v := nI 4) (lv2 := [.ref 0, .int (nI 0), .int ((-1 : Int32)), .int (nI 0), .int (nI 4), .int (nI 0), uu]) rfl (by decide +kernel) (by decide) rfl d_X_finds_140 ?_
    refine aw_goto (tgt := 7) (by decide) d_X_finds_143 ?_
    refine aw_iload rfl d_X_finds_7 ?_
    refine aw_bipush (v := nI 6) cb_6 d_X_finds_9 ?_
    refine aw_icmp_geI (tgt := 146) (4) (6) (by decide +kernel) (by decide +kernel) (by decide) d_X_finds_11 (fun q => absurd q (by decide)) (fun _ => ?_)
    refine aw_iconst (v := nI 0) ci_0 d_X_finds_14 ?_
    refine aw_istore (lv2 := [.ref 0, .int (nI 0), .int ((-1 : Int32)), .int (nI 0), .int (nI 4), .int (nI 0), uu]) (by decide) rfl d_X_finds_15 ?_
    refine aw_iload rfl d_X_finds_17 ?_
    refine aw_aload_n rfl rfl d_X_finds_19 ?_
    refine aw_getr fl_X_7 km_0 (by decide) rfl rm_0_0 d_X_finds_20 ?_
    refine aw_sipush (v := nI 130) cs_130 d_X_finds_23 ?_
    refine aw_iload rfl d_X_finds_26 ?_
    refine aw_iadd d_X_finds_28 ?_
    refine aw_top (x2 := nI 134) (by decide +kernel) ?_
    refine aw_iald (j := 134) km_1 (vp_in_nI (by decide) (by decide)) (nI_clamp (by decide)) d_X_finds_29 ?_
    refine aw_top (x2 := nI 0) (Eq.trans (congrFun (upd2_ne (by decide)) (134)) (Eq.trans (congrFun (upd2_ne (by decide)) (134)) (Eq.trans (congrFun (upd2_ne (by decide)) (134)) (Eq.trans (congrFun (upd2_ne (by decide)) (134)) (Eq.trans (congrFun (upd2_ne (by decide)) (134)) (Eq.trans (congrFun (updA_ne (by decide)) (134)) (Eq.trans (congrFun (updA_ne (by decide)) (134)) (g1 4 (by decide))))))))) ?_
    refine aw_icmp_geI (tgt := 140) (0) (0) (by decide +kernel) (by decide +kernel) (by decide) d_X_finds_30 (fun _ => ?_) (fun q => absurd q (by decide))
    refine aw_iinc (v := nI 5) (lv2 := [.ref 0, .int (nI 0), .int ((-1 : Int32)), .int (nI 0), .int (nI 5), .int (nI 0), uu]) rfl (by decide +kernel) (by decide) rfl d_X_finds_140 ?_
    refine aw_goto (tgt := 7) (by decide) d_X_finds_143 ?_
    refine aw_iload rfl d_X_finds_7 ?_
    refine aw_bipush (v := nI 6) cb_6 d_X_finds_9 ?_
    refine aw_icmp_geI (tgt := 146) (5) (6) (by decide +kernel) (by decide +kernel) (by decide) d_X_finds_11 (fun q => absurd q (by decide)) (fun _ => ?_)
    refine aw_iconst (v := nI 0) ci_0 d_X_finds_14 ?_
    refine aw_istore (lv2 := [.ref 0, .int (nI 0), .int ((-1 : Int32)), .int (nI 0), .int (nI 5), .int (nI 0), uu]) (by decide) rfl d_X_finds_15 ?_
    refine aw_iload rfl d_X_finds_17 ?_
    refine aw_aload_n rfl rfl d_X_finds_19 ?_
    refine aw_getr fl_X_7 km_0 (by decide) rfl rm_0_0 d_X_finds_20 ?_
    refine aw_sipush (v := nI 130) cs_130 d_X_finds_23 ?_
    refine aw_iload rfl d_X_finds_26 ?_
    refine aw_iadd d_X_finds_28 ?_
    refine aw_top (x2 := nI 135) (by decide +kernel) ?_
    refine aw_iald (j := 135) km_1 (vp_in_nI (by decide) (by decide)) (nI_clamp (by decide)) d_X_finds_29 ?_
    refine aw_top (x2 := nI 0) (Eq.trans (congrFun (upd2_ne (by decide)) (135)) (Eq.trans (congrFun (upd2_ne (by decide)) (135)) (Eq.trans (congrFun (upd2_ne (by decide)) (135)) (Eq.trans (congrFun (upd2_ne (by decide)) (135)) (Eq.trans (congrFun (upd2_ne (by decide)) (135)) (Eq.trans (congrFun (updA_ne (by decide)) (135)) (Eq.trans (congrFun (updA_ne (by decide)) (135)) (g1 5 (by decide))))))))) ?_
    refine aw_icmp_geI (tgt := 140) (0) (0) (by decide +kernel) (by decide +kernel) (by decide) d_X_finds_30 (fun _ => ?_) (fun q => absurd q (by decide))
    refine aw_iinc (v := nI 6) (lv2 := [.ref 0, .int (nI 0), .int ((-1 : Int32)), .int (nI 0), .int (nI 6), .int (nI 0), uu]) rfl (by decide +kernel) (by decide) rfl d_X_finds_140 ?_
    refine aw_goto (tgt := 7) (by decide) d_X_finds_143 ?_
    refine aw_iload rfl d_X_finds_7 ?_
    refine aw_bipush (v := nI 6) cb_6 d_X_finds_9 ?_
    refine aw_icmp_geI (tgt := 146) (6) (6) (by decide +kernel) (by decide +kernel) (by decide) d_X_finds_11 (fun _ => ?_) (fun q => absurd q (by decide))
    refine aw_iload_n rfl rfl d_X_finds_146 ?_
    refine as_reti rfl d_X_finds_147 ?_
    refine (show As l b 5 y_X_fills KM RM _ (upd2 (upd2 (upd2 (upd2 (upd2 (updA (updA (I) 9 (fun j => if j < 240 then nI 0 else (I) 9 j)) 12 (fun j => if j < 240 then nI 0 else (I) 12 j)) 0 30 (nI (s))) 0 31 (nI 0)) 0 32 (nI 0)) 0 33 (nI 0)) 0 34 (nI 0)) 33 [.ref 0, .int ((-1 : Int32)), uu, uu] [.int ((-1 : Int32))] from ?_)
    refine aw_istore_n (lv2 := [.ref 0, .int ((-1 : Int32)), uu, uu]) rfl (by decide) rfl d_X_fills_33 ?_
    refine aw_iload_n rfl rfl d_X_fills_34 ?_
    refine aw_iconst (v := (-1 : Int32)) rfl d_X_fills_35 ?_
    refine aw_icmp_neI (tgt := 42) (-1) (-1) (by decide +kernel) (by decide +kernel) (by decide) d_X_fills_36 (fun q => absurd q (by decide)) (fun _ => ?_)
    refine aw_goto (tgt := 123) (by decide) d_X_fills_39 ?_
    refine aw_aload_n rfl rfl d_X_fills_123 ?_
    refine as_callV (as := []) (d' := 4) (q := ("SinglesUpModel", zT9, 51)) mo_X_parts0 lk_X_322 km_0 rfl rfl rfl ⟨by decide, by decide⟩ rfl rfl (by decide) d_X_fills_124 (Ss.of (show As l b 4 y_X_parts0 KM RM _ (upd2 (upd2 (upd2 (upd2 (upd2 (updA (updA (I) 9 (fun j => if j < 240 then nI 0 else (I) 9 j)) 12 (fun j => if j < 240 then nI 0 else (I) 12 j)) 0 30 (nI (s))) 0 31 (nI 0)) 0 32 (nI 0)) 0 33 (nI 0)) 0 34 (nI 0)) 0 [.ref 0, uu, uu, uu] [] from ?_))
    refine aw_iconst (v := nI 0) ci_0 d_X_parts0_0 ?_
    refine aw_istore_n (lv2 := [.ref 0, .int (nI 0), uu, uu]) rfl (by decide) rfl d_X_parts0_1 ?_
    refine aw_iload_n rfl rfl d_X_parts0_2 ?_
    refine aw_bipush (v := nI 6) cb_6 d_X_parts0_3 ?_
    refine aw_icmp_geI (tgt := 133) (0) (6) (by decide +kernel) (by decide +kernel) (by decide) d_X_parts0_5 (fun q => absurd q (by decide)) (fun _ => ?_)
    refine aw_aload_n rfl rfl d_X_parts0_8 ?_
    refine aw_geti fl_X_296 km_0 (by decide) rfl d_X_parts0_9 ?_
    refine aw_top (x2 := nI 0) (Eq.trans (upd2_nx (by omega)) (upd2_eq)) ?_
    refine aw_if_neI (tgt := 133) (0) (by decide +kernel) (by decide) d_X_parts0_12 (fun q => absurd q (by decide)) (fun _ => ?_)
    refine aw_iconst (v := nI 0) ci_0 d_X_parts0_15 ?_
    refine aw_istore_n (lv2 := [.ref 0, .int (nI 0), .int (nI 0), uu]) rfl (by decide) rfl d_X_parts0_16 ?_
    refine aw_iload_n rfl rfl d_X_parts0_17 ?_
    refine aw_aload_n rfl rfl d_X_parts0_18 ?_
    refine aw_getr fl_X_7 km_0 (by decide) rfl rm_0_0 d_X_parts0_19 ?_
    refine aw_sipush (v := nI 130) cs_130 d_X_parts0_22 ?_
    refine aw_iload_n rfl rfl d_X_parts0_25 ?_
    refine aw_iadd d_X_parts0_26 ?_
    refine aw_top (x2 := nI 130) (by decide +kernel) ?_
    refine aw_iald (j := 130) km_1 (vp_in_nI (by decide) (by decide)) (nI_clamp (by decide)) d_X_parts0_27 ?_
    refine aw_top (x2 := nI 0) (Eq.trans (congrFun (upd2_ne (by decide)) (130)) (Eq.trans (congrFun (upd2_ne (by decide)) (130)) (Eq.trans (congrFun (upd2_ne (by decide)) (130)) (Eq.trans (congrFun (upd2_ne (by decide)) (130)) (Eq.trans (congrFun (upd2_ne (by decide)) (130)) (Eq.trans (congrFun (updA_ne (by decide)) (130)) (Eq.trans (congrFun (updA_ne (by decide)) (130)) (g1 0 (by decide))))))))) ?_
    refine aw_icmp_geI (tgt := 127) (0) (0) (by decide +kernel) (by decide +kernel) (by decide) d_X_parts0_28 (fun _ => ?_) (fun q => absurd q (by decide))
    refine aw_iinc (v := nI 1) (lv2 := [.ref 0, .int (nI 1), .int (nI 0), uu]) rfl (by decide +kernel) (by decide) rfl d_X_parts0_127 ?_
    refine aw_goto (tgt := 2) (by decide) d_X_parts0_130 ?_
    refine aw_iload_n rfl rfl d_X_parts0_2 ?_
    refine aw_bipush (v := nI 6) cb_6 d_X_parts0_3 ?_
    refine aw_icmp_geI (tgt := 133) (1) (6) (by decide +kernel) (by decide +kernel) (by decide) d_X_parts0_5 (fun q => absurd q (by decide)) (fun _ => ?_)
    refine aw_aload_n rfl rfl d_X_parts0_8 ?_
    refine aw_geti fl_X_296 km_0 (by decide) rfl d_X_parts0_9 ?_
    refine aw_top (x2 := nI 0) (Eq.trans (upd2_nx (by omega)) (upd2_eq)) ?_
    refine aw_if_neI (tgt := 133) (0) (by decide +kernel) (by decide) d_X_parts0_12 (fun q => absurd q (by decide)) (fun _ => ?_)
    refine aw_iconst (v := nI 0) ci_0 d_X_parts0_15 ?_
    refine aw_istore_n (lv2 := [.ref 0, .int (nI 1), .int (nI 0), uu]) rfl (by decide) rfl d_X_parts0_16 ?_
    refine aw_iload_n rfl rfl d_X_parts0_17 ?_
    refine aw_aload_n rfl rfl d_X_parts0_18 ?_
    refine aw_getr fl_X_7 km_0 (by decide) rfl rm_0_0 d_X_parts0_19 ?_
    refine aw_sipush (v := nI 130) cs_130 d_X_parts0_22 ?_
    refine aw_iload_n rfl rfl d_X_parts0_25 ?_
    refine aw_iadd d_X_parts0_26 ?_
    refine aw_top (x2 := nI 131) (by decide +kernel) ?_
    refine aw_iald (j := 131) km_1 (vp_in_nI (by decide) (by decide)) (nI_clamp (by decide)) d_X_parts0_27 ?_
    refine aw_top (x2 := nI 0) (Eq.trans (congrFun (upd2_ne (by decide)) (131)) (Eq.trans (congrFun (upd2_ne (by decide)) (131)) (Eq.trans (congrFun (upd2_ne (by decide)) (131)) (Eq.trans (congrFun (upd2_ne (by decide)) (131)) (Eq.trans (congrFun (upd2_ne (by decide)) (131)) (Eq.trans (congrFun (updA_ne (by decide)) (131)) (Eq.trans (congrFun (updA_ne (by decide)) (131)) (g1 1 (by decide))))))))) ?_
    refine aw_icmp_geI (tgt := 127) (0) (0) (by decide +kernel) (by decide +kernel) (by decide) d_X_parts0_28 (fun _ => ?_) (fun q => absurd q (by decide))
    refine aw_iinc (v := nI 2) (lv2 := [.ref 0, .int (nI 2), .int (nI 0), uu]) rfl (by decide +kernel) (by decide) rfl d_X_parts0_127 ?_
    refine aw_goto (tgt := 2) (by decide) d_X_parts0_130 ?_
    refine aw_iload_n rfl rfl d_X_parts0_2 ?_
    refine aw_bipush (v := nI 6) cb_6 d_X_parts0_3 ?_
    refine aw_icmp_geI (tgt := 133) (2) (6) (by decide +kernel) (by decide +kernel) (by decide) d_X_parts0_5 (fun q => absurd q (by decide)) (fun _ => ?_)
    refine aw_aload_n rfl rfl d_X_parts0_8 ?_
    refine aw_geti fl_X_296 km_0 (by decide) rfl d_X_parts0_9 ?_
    refine aw_top (x2 := nI 0) (Eq.trans (upd2_nx (by omega)) (upd2_eq)) ?_
    refine aw_if_neI (tgt := 133) (0) (by decide +kernel) (by decide) d_X_parts0_12 (fun q => absurd q (by decide)) (fun _ => ?_)
    refine aw_iconst (v := nI 0) ci_0 d_X_parts0_15 ?_
    refine aw_istore_n (lv2 := [.ref 0, .int (nI 2), .int (nI 0), uu]) rfl (by decide) rfl d_X_parts0_16 ?_
    refine aw_iload_n rfl rfl d_X_parts0_17 ?_
    refine aw_aload_n rfl rfl d_X_parts0_18 ?_
    refine aw_getr fl_X_7 km_0 (by decide) rfl rm_0_0 d_X_parts0_19 ?_
    refine aw_sipush (v := nI 130) cs_130 d_X_parts0_22 ?_
    refine aw_iload_n rfl rfl d_X_parts0_25 ?_
    refine aw_iadd d_X_parts0_26 ?_
    refine aw_top (x2 := nI 132) (by decide +kernel) ?_
    refine aw_iald (j := 132) km_1 (vp_in_nI (by decide) (by decide)) (nI_clamp (by decide)) d_X_parts0_27 ?_
    refine aw_top (x2 := nI 0) (Eq.trans (congrFun (upd2_ne (by decide)) (132)) (Eq.trans (congrFun (upd2_ne (by decide)) (132)) (Eq.trans (congrFun (upd2_ne (by decide)) (132)) (Eq.trans (congrFun (upd2_ne (by decide)) (132)) (Eq.trans (congrFun (upd2_ne (by decide)) (132)) (Eq.trans (congrFun (updA_ne (by decide)) (132)) (Eq.trans (congrFun (updA_ne (by decide)) (132)) (g1 2 (by decide))))))))) ?_
    refine aw_icmp_geI (tgt := 127) (0) (0) (by decide +kernel) (by decide +kernel) (by decide) d_X_parts0_28 (fun _ => ?_) (fun q => absurd q (by decide))
    refine aw_iinc (v := nI 3) (lv2 := [.ref 0, .int (nI 3), .int (nI 0), uu]) rfl (by decide +kernel) (by decide) rfl d_X_parts0_127 ?_
    refine aw_goto (tgt := 2) (by decide) d_X_parts0_130 ?_
    refine aw_iload_n rfl rfl d_X_parts0_2 ?_
    refine aw_bipush (v := nI 6) cb_6 d_X_parts0_3 ?_
    refine aw_icmp_geI (tgt := 133) (3) (6) (by decide +kernel) (by decide +kernel) (by decide) d_X_parts0_5 (fun q => absurd q (by decide)) (fun _ => ?_)
    refine aw_aload_n rfl rfl d_X_parts0_8 ?_
    refine aw_geti fl_X_296 km_0 (by decide) rfl d_X_parts0_9 ?_
    refine aw_top (x2 := nI 0) (Eq.trans (upd2_nx (by omega)) (upd2_eq)) ?_
    refine aw_if_neI (tgt := 133) (0) (by decide +kernel) (by decide) d_X_parts0_12 (fun q => absurd q (by decide)) (fun _ => ?_)
    refine aw_iconst (v := nI 0) ci_0 d_X_parts0_15 ?_
    refine aw_istore_n (lv2 := [.ref 0, .int (nI 3), .int (nI 0), uu]) rfl (by decide) rfl d_X_parts0_16 ?_
    refine aw_iload_n rfl rfl d_X_parts0_17 ?_
    refine aw_aload_n rfl rfl d_X_parts0_18 ?_
    refine aw_getr fl_X_7 km_0 (by decide) rfl rm_0_0 d_X_parts0_19 ?_
    refine aw_sipush (v := nI 130) cs_130 d_X_parts0_22 ?_
    refine aw_iload_n rfl rfl d_X_parts0_25 ?_
    refine aw_iadd d_X_parts0_26 ?_
    refine aw_top (x2 := nI 133) (by decide +kernel) ?_
    refine aw_iald (j := 133) km_1 (vp_in_nI (by decide) (by decide)) (nI_clamp (by decide)) d_X_parts0_27 ?_
    refine aw_top (x2 := nI 0) (Eq.trans (congrFun (upd2_ne (by decide)) (133)) (Eq.trans (congrFun (upd2_ne (by decide)) (133)) (Eq.trans (congrFun (upd2_ne (by decide)) (133)) (Eq.trans (congrFun (upd2_ne (by decide)) (133)) (Eq.trans (congrFun (upd2_ne (by decide)) (133)) (Eq.trans (congrFun (updA_ne (by decide)) (133)) (Eq.trans (congrFun (updA_ne (by decide)) (133)) (g1 3 (by decide))))))))) ?_
    refine aw_icmp_geI (tgt := 127) (0) (0) (by decide +kernel) (by decide +kernel) (by decide) d_X_parts0_28 (fun _ => ?_) (fun q => absurd q (by decide))
    refine aw_iinc (v := nI 4) (lv2 := [.ref 0, .int (nI 4), .int (nI 0), uu]) rfl (by decide +kernel) (by decide) rfl d_X_parts0_127 ?_
    refine aw_goto (tgt := 2) (by decide) d_X_parts0_130 ?_
    refine aw_iload_n rfl rfl d_X_parts0_2 ?_
    refine aw_bipush (v := nI 6) cb_6 d_X_parts0_3 ?_
    refine aw_icmp_geI (tgt := 133) (4) (6) (by decide +kernel) (by decide +kernel) (by decide) d_X_parts0_5 (fun q => absurd q (by decide)) (fun _ => ?_)
    refine aw_aload_n rfl rfl d_X_parts0_8 ?_
    refine aw_geti fl_X_296 km_0 (by decide) rfl d_X_parts0_9 ?_
    refine aw_top (x2 := nI 0) (Eq.trans (upd2_nx (by omega)) (upd2_eq)) ?_
    refine aw_if_neI (tgt := 133) (0) (by decide +kernel) (by decide) d_X_parts0_12 (fun q => absurd q (by decide)) (fun _ => ?_)
    refine aw_iconst (v := nI 0) ci_0 d_X_parts0_15 ?_
    refine aw_istore_n (lv2 := [.ref 0, .int (nI 4), .int (nI 0), uu]) rfl (by decide) rfl d_X_parts0_16 ?_
    refine aw_iload_n rfl rfl d_X_parts0_17 ?_
    refine aw_aload_n rfl rfl d_X_parts0_18 ?_
    refine aw_getr fl_X_7 km_0 (by decide) rfl rm_0_0 d_X_parts0_19 ?_
    refine aw_sipush (v := nI 130) cs_130 d_X_parts0_22 ?_
    refine aw_iload_n rfl rfl d_X_parts0_25 ?_
    refine aw_iadd d_X_parts0_26 ?_
    refine aw_top (x2 := nI 134) (by decide +kernel) ?_
    refine aw_iald (j := 134) km_1 (vp_in_nI (by decide) (by decide)) (nI_clamp (by decide)) d_X_parts0_27 ?_
    refine aw_top (x2 := nI 0) (Eq.trans (congrFun (upd2_ne (by decide)) (134)) (Eq.trans (congrFun (upd2_ne (by decide)) (134)) (Eq.trans (congrFun (upd2_ne (by decide)) (134)) (Eq.trans (congrFun (upd2_ne (by decide)) (134)) (Eq.trans (congrFun (upd2_ne (by decide)) (134)) (Eq.trans (congrFun (updA_ne (by decide)) (134)) (Eq.trans (congrFun (updA_ne (by decide)) (134)) (g1 4 (by decide))))))))) ?_
    refine aw_icmp_geI (tgt := 127) (0) (0) (by decide +kernel) (by decide +kernel) (by decide) d_X_parts0_28 (fun _ => ?_) (fun q => absurd q (by decide))
    refine aw_iinc (v := nI 5) (lv2 := [.ref 0, .int (nI 5), .int (nI 0), uu]) rfl (by decide +kernel) (by decide) rfl d_X_parts0_127 ?_
    refine aw_goto (tgt := 2) (by decide) d_X_parts0_130 ?_
    refine aw_iload_n rfl rfl d_X_parts0_2 ?_
    refine aw_bipush (v := nI 6) cb_6 d_X_parts0_3 ?_
    refine aw_icmp_geI (tgt := 133) (5) (6) (by decide +kernel) (by decide +kernel) (by decide) d_X_parts0_5 (fun q => absurd q (by decide)) (fun _ => ?_)
    refine aw_aload_n rfl rfl d_X_parts0_8 ?_
    refine aw_geti fl_X_296 km_0 (by decide) rfl d_X_parts0_9 ?_
    refine aw_top (x2 := nI 0) (Eq.trans (upd2_nx (by omega)) (upd2_eq)) ?_
    refine aw_if_neI (tgt := 133) (0) (by decide +kernel) (by decide) d_X_parts0_12 (fun q => absurd q (by decide)) (fun _ => ?_)
    refine aw_iconst (v := nI 0) ci_0 d_X_parts0_15 ?_
    refine aw_istore_n (lv2 := [.ref 0, .int (nI 5), .int (nI 0), uu]) rfl (by decide) rfl d_X_parts0_16 ?_
    refine aw_iload_n rfl rfl d_X_parts0_17 ?_
    refine aw_aload_n rfl rfl d_X_parts0_18 ?_
    refine aw_getr fl_X_7 km_0 (by decide) rfl rm_0_0 d_X_parts0_19 ?_
    refine aw_sipush (v := nI 130) cs_130 d_X_parts0_22 ?_
    refine aw_iload_n rfl rfl d_X_parts0_25 ?_
    refine aw_iadd d_X_parts0_26 ?_
    refine aw_top (x2 := nI 135) (by decide +kernel) ?_
    refine aw_iald (j := 135) km_1 (vp_in_nI (by decide) (by decide)) (nI_clamp (by decide)) d_X_parts0_27 ?_
    refine aw_top (x2 := nI 0) (Eq.trans (congrFun (upd2_ne (by decide)) (135)) (Eq.trans (congrFun (upd2_ne (by decide)) (135)) (Eq.trans (congrFun (upd2_ne (by decide)) (135)) (Eq.trans (congrFun (upd2_ne (by decide)) (135)) (Eq.trans (congrFun (upd2_ne (by decide)) (135)) (Eq.trans (congrFun (updA_ne (by decide)) (135)) (Eq.trans (congrFun (updA_ne (by decide)) (135)) (g1 5 (by decide))))))))) ?_
    refine aw_icmp_geI (tgt := 127) (0) (0) (by decide +kernel) (by decide +kernel) (by decide) d_X_parts0_28 (fun _ => ?_) (fun q => absurd q (by decide))
    refine aw_iinc (v := nI 6) (lv2 := [.ref 0, .int (nI 6), .int (nI 0), uu]) rfl (by decide +kernel) (by decide) rfl d_X_parts0_127 ?_
    refine aw_goto (tgt := 2) (by decide) d_X_parts0_130 ?_
    refine aw_iload_n rfl rfl d_X_parts0_2 ?_
    refine aw_bipush (v := nI 6) cb_6 d_X_parts0_3 ?_
    refine aw_icmp_geI (tgt := 133) (6) (6) (by decide +kernel) (by decide +kernel) (by decide) d_X_parts0_5 (fun _ => ?_) (fun q => absurd q (by decide))
    refine as_retv rfl d_X_parts0_133 ?_
    refine (show As l b 5 y_X_fills KM RM _ (upd2 (upd2 (upd2 (upd2 (upd2 (updA (updA (I) 9 (fun j => if j < 240 then nI 0 else (I) 9 j)) 12 (fun j => if j < 240 then nI 0 else (I) 12 j)) 0 30 (nI (s))) 0 31 (nI 0)) 0 32 (nI 0)) 0 33 (nI 0)) 0 34 (nI 0)) 127 [.ref 0, .int ((-1 : Int32)), uu, uu] [] from ?_)
    refine as_retv rfl d_X_fills_127 ?_
    refine (show As l b 6 y_X_chair KM RM K2 (upd2 (upd2 (upd2 (upd2 (upd2 (updA (updA (I) 9 (fun j => if j < 240 then nI 0 else (I) 9 j)) 12 (fun j => if j < 240 then nI 0 else (I) 12 j)) 0 30 (nI (s))) 0 31 (nI 0)) 0 32 (nI 0)) 0 33 (nI 0)) 0 34 (nI 0)) 4 [.ref 0] [] from ?_)
    refine aw_aload_n rfl rfl d_X_chair_4 ?_
    refine as_callV (as := []) (d' := 5) (q := ("SinglesUpModel", zT9, 51)) mo_X_goesOff lk_X_335 km_0 rfl rfl rfl ⟨by decide, by decide⟩ rfl rfl (by decide) d_X_chair_5 (Ss.of (show As l b 5 y_X_goesOff KM RM _ (upd2 (upd2 (upd2 (upd2 (upd2 (updA (updA (I) 9 (fun j => if j < 240 then nI 0 else (I) 9 j)) 12 (fun j => if j < 240 then nI 0 else (I) 12 j)) 0 30 (nI (s))) 0 31 (nI 0)) 0 32 (nI 0)) 0 33 (nI 0)) 0 34 (nI 0)) 0 [.ref 0, uu, uu, uu, uu, uu, uu] [] from ?_))
    refine aw_aload_n rfl rfl d_X_goesOff_0 ?_
    refine aw_getr fl_X_7 km_0 (by decide) rfl rm_0_0 d_X_goesOff_1 ?_
    refine aw_iconst (v := nI 1) ci_1 d_X_goesOff_4 ?_
    refine aw_iald (j := 1) km_1 (vp_in_nI (by decide) (by decide)) (nI_clamp (by decide)) d_X_goesOff_5 ?_
    refine aw_top (x2 := nI (s)) (Eq.trans (congrFun (upd2_ne (by decide)) (1)) (Eq.trans (congrFun (upd2_ne (by decide)) (1)) (Eq.trans (congrFun (upd2_ne (by decide)) (1)) (Eq.trans (congrFun (upd2_ne (by decide)) (1)) (Eq.trans (congrFun (upd2_ne (by decide)) (1)) (Eq.trans (congrFun (updA_ne (by decide)) (1)) (Eq.trans (congrFun (updA_ne (by decide)) (1)) (g3)))))))) ?_
    refine aw_aload_n rfl rfl d_X_goesOff_6 ?_
    refine aw_geti fl_X_289 km_0 (by decide) rfl d_X_goesOff_7 ?_
    refine aw_top (x2 := nI (s)) (Eq.trans (upd2_nx (by omega)) (Eq.trans (upd2_nx (by omega)) (Eq.trans (upd2_nx (by omega)) (Eq.trans (upd2_nx (by omega)) (upd2_eq))))) ?_
    refine aw_isubN (by omega) d_X_goesOff_10 ?_
    refine aw_top (x2 := nI 0) (congrArg nI (Nat.sub_self s)) ?_
    refine aw_istore_n (lv2 := [.ref 0, .int (nI 0), uu, uu, uu, uu, uu]) rfl (by decide) rfl d_X_goesOff_11 ?_
    refine aw_aload_n rfl rfl d_X_goesOff_12 ?_
    refine aw_getr fl_X_7 km_0 (by decide) rfl rm_0_0 d_X_goesOff_13 ?_
    refine aw_bipush (v := nI 71) cb_71 d_X_goesOff_16 ?_
    refine aw_dup2 rfl rfl d_X_goesOff_18 ?_
    refine aw_iald (j := 71) km_1 (vp_in_nI (by decide) (by decide)) (nI_clamp (by decide)) d_X_goesOff_19 ?_
    refine aw_top (x2 := nI (e)) (Eq.trans (congrFun (upd2_ne (by decide)) (71)) (Eq.trans (congrFun (upd2_ne (by decide)) (71)) (Eq.trans (congrFun (upd2_ne (by decide)) (71)) (Eq.trans (congrFun (upd2_ne (by decide)) (71)) (Eq.trans (congrFun (upd2_ne (by decide)) (71)) (Eq.trans (congrFun (updA_ne (by decide)) (71)) (Eq.trans (congrFun (updA_ne (by decide)) (71)) (g5)))))))) ?_
    refine aw_aload_n rfl rfl d_X_goesOff_20 ?_
    refine aw_geti fl_X_289 km_0 (by decide) rfl d_X_goesOff_21 ?_
    refine aw_top (x2 := nI (s)) (Eq.trans (upd2_nx (by omega)) (Eq.trans (upd2_nx (by omega)) (Eq.trans (upd2_nx (by omega)) (Eq.trans (upd2_nx (by omega)) (upd2_eq))))) ?_
    refine aw_iaddN d_X_goesOff_24 ?_
    refine aw_iast (j := 71) km_1 (vp_in_nI (by decide) (by decide)) (nI_clamp (by decide)) d_X_goesOff_25 ?_
    refine aw_aload_n rfl rfl d_X_goesOff_26 ?_
    refine aw_getr fl_X_7 km_0 (by decide) rfl rm_0_0 d_X_goesOff_27 ?_
    refine aw_bipush (v := nI 72) cb_72 d_X_goesOff_30 ?_
    refine aw_dup2 rfl rfl d_X_goesOff_32 ?_
    refine aw_iald (j := 72) km_1 (vp_in_nI (by decide) (by decide)) (nI_clamp (by decide)) d_X_goesOff_33 ?_
    refine aw_top (x2 := nI 0) (Eq.trans (upd2_nx (by omega)) (Eq.trans (congrFun (upd2_ne (by decide)) (72)) (Eq.trans (congrFun (upd2_ne (by decide)) (72)) (Eq.trans (congrFun (upd2_ne (by decide)) (72)) (Eq.trans (congrFun (upd2_ne (by decide)) (72)) (Eq.trans (congrFun (upd2_ne (by decide)) (72)) (Eq.trans (congrFun (updA_ne (by decide)) (72)) (Eq.trans (congrFun (updA_ne (by decide)) (72)) (g7))))))))) ?_
    refine aw_iload_n rfl rfl d_X_goesOff_34 ?_
    refine aw_iadd d_X_goesOff_35 ?_
    refine aw_top (x2 := nI 0) (by decide +kernel) ?_
    refine aw_iast (j := 72) km_1 (vp_in_nI (by decide) (by decide)) (nI_clamp (by decide)) d_X_goesOff_36 ?_
    refine aw_aload_n rfl rfl d_X_goesOff_37 ?_
    refine aw_getr fl_X_7 km_0 (by decide) rfl rm_0_0 d_X_goesOff_38 ?_
    refine aw_bipush (v := nI 110) cb_110 d_X_goesOff_41 ?_
    refine aw_aload_n rfl rfl d_X_goesOff_43 ?_
    refine aw_geti fl_X_291 km_0 (by decide) rfl d_X_goesOff_44 ?_
    refine aw_top (x2 := nI 0) (Eq.trans (congrFun (upd2_ne (by decide)) (31)) (Eq.trans (congrFun (upd2_ne (by decide)) (31)) (Eq.trans (upd2_nx (by omega)) (Eq.trans (upd2_nx (by omega)) (Eq.trans (upd2_nx (by omega)) (upd2_eq)))))) ?_
    refine aw_iast (j := 110) km_1 (vp_in_nI (by decide) (by decide)) (nI_clamp (by decide)) d_X_goesOff_47 ?_
    refine aw_aload_n rfl rfl d_X_goesOff_48 ?_
    refine aw_getr fl_X_7 km_0 (by decide) rfl rm_0_0 d_X_goesOff_49 ?_
    refine aw_bipush (v := nI 111) cb_111 d_X_goesOff_52 ?_
    refine aw_aload_n rfl rfl d_X_goesOff_54 ?_
    refine aw_geti fl_X_289 km_0 (by decide) rfl d_X_goesOff_55 ?_
    refine aw_top (x2 := nI (s)) (Eq.trans (congrFun (upd2_ne (by decide)) (30)) (Eq.trans (congrFun (upd2_ne (by decide)) (30)) (Eq.trans (congrFun (upd2_ne (by decide)) (30)) (Eq.trans (upd2_nx (by omega)) (Eq.trans (upd2_nx (by omega)) (Eq.trans (upd2_nx (by omega)) (Eq.trans (upd2_nx (by omega)) (upd2_eq)))))))) ?_
    refine aw_iast (j := 111) km_1 (vp_in_nI (by decide) (by decide)) (nI_clamp (by decide)) d_X_goesOff_58 ?_
    refine aw_iconst (v := nI 0) ci_0 d_X_goesOff_59 ?_
    refine aw_istore_n (lv2 := [.ref 0, .int (nI 0), .int (nI 0), uu, uu, uu, uu]) rfl (by decide) rfl d_X_goesOff_60 ?_
    refine aw_iload_n rfl rfl d_X_goesOff_61 ?_
    refine aw_aload_n rfl rfl d_X_goesOff_62 ?_
    refine aw_geti fl_X_291 km_0 (by decide) rfl d_X_goesOff_63 ?_
    refine aw_top (x2 := nI 0) (Eq.trans (congrFun (upd2_ne (by decide)) (31)) (Eq.trans (congrFun (upd2_ne (by decide)) (31)) (Eq.trans (congrFun (upd2_ne (by decide)) (31)) (Eq.trans (congrFun (upd2_ne (by decide)) (31)) (Eq.trans (upd2_nx (by omega)) (Eq.trans (upd2_nx (by omega)) (Eq.trans (upd2_nx (by omega)) (upd2_eq)))))))) ?_
    refine aw_icmp_geI (tgt := 203) (0) (0) (by decide +kernel) (by decide +kernel) (by decide) d_X_goesOff_66 (fun _ => ?_) (fun q => absurd q (by decide))
    refine aw_iconst (v := nI 0) ci_0 d_X_goesOff_203 ?_
    refine aw_istore_n (lv2 := [.ref 0, .int (nI 0), .int (nI 0), uu, uu, uu, uu]) rfl (by decide) rfl d_X_goesOff_204 ?_
    refine aw_iload_n rfl rfl d_X_goesOff_205 ?_
    refine aw_aload_n rfl rfl d_X_goesOff_206 ?_
    refine aw_geti fl_X_293 km_0 (by decide) rfl d_X_goesOff_207 ?_
    refine aw_top (x2 := nI 0) (Eq.trans (congrFun (upd2_ne (by decide)) (32)) (Eq.trans (congrFun (upd2_ne (by decide)) (32)) (Eq.trans (congrFun (upd2_ne (by decide)) (32)) (Eq.trans (congrFun (upd2_ne (by decide)) (32)) (Eq.trans (upd2_nx (by omega)) (Eq.trans (upd2_nx (by omega)) (upd2_eq))))))) ?_
    refine aw_icmp_geI (tgt := 264) (0) (0) (by decide +kernel) (by decide +kernel) (by decide) d_X_goesOff_210 (fun _ => ?_) (fun q => absurd q (by decide))
    refine aw_iconst (v := nI 0) ci_0 d_X_goesOff_264 ?_
    refine aw_istore_n (lv2 := [.ref 0, .int (nI 0), .int (nI 0), uu, uu, uu, uu]) rfl (by decide) rfl d_X_goesOff_265 ?_
    refine aw_iload_n rfl rfl d_X_goesOff_266 ?_
    refine aw_bipush (v := nI 6) cb_6 d_X_goesOff_267 ?_
    refine aw_icmp_geI (tgt := 283) (0) (6) (by decide +kernel) (by decide +kernel) (by decide) d_X_goesOff_269 (fun q => absurd q (by decide)) (fun _ => ?_)
    refine aw_aload_n rfl rfl d_X_goesOff_272 ?_
    refine aw_iload_n rfl rfl d_X_goesOff_273 ?_
    refine as_callV (as := [.int (nI 0)]) (d' := 4) (q := ("SinglesUpModel", zT9, 51)) mo_X_movesUp lk_X_325 km_0 rfl rfl rfl ⟨by decide, by decide⟩ rfl rfl (by decide) d_X_goesOff_274 (Ss.of (show As l b 4 y_X_movesUp KM RM _ (upd2 (upd2 (upd2 (upd2 (upd2 (upd2 (upd2 (upd2 (upd2 (updA (updA (I) 9 (fun j => if j < 240 then nI 0 else (I) 9 j)) 12 (fun j => if j < 240 then nI 0 else (I) 12 j)) 0 30 (nI (s))) 0 31 (nI 0)) 0 32 (nI 0)) 0 33 (nI 0)) 0 34 (nI 0)) 1 (71) (nI ((e + s)))) 1 (72) (nI 0)) 1 (110) (nI 0)) 1 (111) (nI (s))) 0 [.ref 0, .int (nI 0), uu, uu, uu, uu, uu, uu, uu] [] from ?_))
    refine aw_aload_n rfl rfl d_X_movesUp_0 ?_
    refine aw_getr fl_X_7 km_0 (by decide) rfl rm_0_0 d_X_movesUp_1 ?_
    refine aw_sipush (v := nI 130) cs_130 d_X_movesUp_4 ?_
    refine aw_iload_n rfl rfl d_X_movesUp_7 ?_
    refine aw_iadd d_X_movesUp_8 ?_
    refine aw_top (x2 := nI 130) (by decide +kernel) ?_
    refine aw_iald (j := 130) km_1 (vp_in_nI (by decide) (by decide)) (nI_clamp (by decide)) d_X_movesUp_9 ?_
    refine aw_top (x2 := nI 0) (Eq.trans (upd2_nx (by omega)) (Eq.trans (upd2_nx (by omega)) (Eq.trans (upd2_nx (by omega)) (Eq.trans (upd2_nx (by omega)) (Eq.trans (congrFun (upd2_ne (by decide)) (130)) (Eq.trans (congrFun (upd2_ne (by decide)) (130)) (Eq.trans (congrFun (upd2_ne (by decide)) (130)) (Eq.trans (congrFun (upd2_ne (by decide)) (130)) (Eq.trans (congrFun (upd2_ne (by decide)) (130)) (Eq.trans (congrFun (updA_ne (by decide)) (130)) (Eq.trans (congrFun (updA_ne (by decide)) (130)) (g1 0 (by decide))))))))))))) ?_
    refine aw_istore_n (lv2 := [.ref 0, .int (nI 0), .int (nI 0), uu, uu, uu, uu, uu, uu]) rfl (by decide) rfl d_X_movesUp_10 ?_
    refine aw_iconst (v := nI 0) ci_0 d_X_movesUp_11 ?_
    refine aw_istore_n (lv2 := [.ref 0, .int (nI 0), .int (nI 0), .int (nI 0), uu, uu, uu, uu, uu]) rfl (by decide) rfl d_X_movesUp_12 ?_
    refine aw_iconst (v := nI 0) ci_0 d_X_movesUp_13 ?_
    refine aw_istore (lv2 := [.ref 0, .int (nI 0), .int (nI 0), .int (nI 0), .int (nI 0), uu, uu, uu, uu]) (by decide) rfl d_X_movesUp_14 ?_
    refine aw_iload rfl d_X_movesUp_16 ?_
    refine aw_iload_n rfl rfl d_X_movesUp_18 ?_
    refine aw_icmp_geI (tgt := 51) (0) (0) (by decide +kernel) (by decide +kernel) (by decide) d_X_movesUp_19 (fun _ => ?_) (fun q => absurd q (by decide))
    refine aw_iconst (v := nI 0) ci_0 d_X_movesUp_51 ?_
    refine aw_istore (lv2 := [.ref 0, .int (nI 0), .int (nI 0), .int (nI 0), .int (nI 0), uu, uu, uu, uu]) (by decide) rfl d_X_movesUp_52 ?_
    refine aw_iconst (v := nI 0) ci_0 d_X_movesUp_54 ?_
    refine aw_istore (lv2 := [.ref 0, .int (nI 0), .int (nI 0), .int (nI 0), .int (nI 0), .int (nI 0), uu, uu, uu]) (by decide) rfl d_X_movesUp_55 ?_
    refine aw_iload rfl d_X_movesUp_57 ?_
    refine aw_iload_n rfl rfl d_X_movesUp_59 ?_
    refine aw_icmp_geI (tgt := 254) (0) (0) (by decide +kernel) (by decide +kernel) (by decide) d_X_movesUp_60 (fun _ => ?_) (fun q => absurd q (by decide))
    refine aw_aload_n rfl rfl d_X_movesUp_254 ?_
    refine aw_getr fl_X_7 km_0 (by decide) rfl rm_0_0 d_X_movesUp_255 ?_
    refine aw_sipush (v := nI 130) cs_130 d_X_movesUp_258 ?_
    refine aw_iload_n rfl rfl d_X_movesUp_261 ?_
    refine aw_iadd d_X_movesUp_262 ?_
    refine aw_top (x2 := nI 130) (by decide +kernel) ?_
    refine aw_iload rfl d_X_movesUp_263 ?_
    refine aw_iast (j := 130) km_1 (vp_in_nI (by decide) (by decide)) (nI_clamp (by decide)) d_X_movesUp_265 ?_
    refine as_retv rfl d_X_movesUp_266 ?_
    refine (show As l b 5 y_X_goesOff KM RM _ (upd2 (upd2 (upd2 (upd2 (upd2 (upd2 (upd2 (upd2 (upd2 (upd2 (updA (updA (I) 9 (fun j => if j < 240 then nI 0 else (I) 9 j)) 12 (fun j => if j < 240 then nI 0 else (I) 12 j)) 0 30 (nI (s))) 0 31 (nI 0)) 0 32 (nI 0)) 0 33 (nI 0)) 0 34 (nI 0)) 1 (71) (nI ((e + s)))) 1 (72) (nI 0)) 1 (110) (nI 0)) 1 (111) (nI (s))) 1 (130) (nI 0)) 277 [.ref 0, .int (nI 0), .int (nI 0), uu, uu, uu, uu] [] from ?_)
    refine aw_iinc (v := nI 1) (lv2 := [.ref 0, .int (nI 0), .int (nI 1), uu, uu, uu, uu]) rfl (by decide +kernel) (by decide) rfl d_X_goesOff_277 ?_
    refine aw_goto (tgt := 266) (by decide) d_X_goesOff_280 ?_
    refine aw_iload_n rfl rfl d_X_goesOff_266 ?_
    refine aw_bipush (v := nI 6) cb_6 d_X_goesOff_267 ?_
    refine aw_icmp_geI (tgt := 283) (1) (6) (by decide +kernel) (by decide +kernel) (by decide) d_X_goesOff_269 (fun q => absurd q (by decide)) (fun _ => ?_)
    refine aw_aload_n rfl rfl d_X_goesOff_272 ?_
    refine aw_iload_n rfl rfl d_X_goesOff_273 ?_
    refine as_callV (as := [.int (nI 1)]) (d' := 4) (q := ("SinglesUpModel", zT9, 51)) mo_X_movesUp lk_X_325 km_0 rfl rfl rfl ⟨by decide, by decide⟩ rfl rfl (by decide) d_X_goesOff_274 (Ss.of (show As l b 4 y_X_movesUp KM RM _ (upd2 (upd2 (upd2 (upd2 (upd2 (upd2 (upd2 (upd2 (upd2 (upd2 (updA (updA (I) 9 (fun j => if j < 240 then nI 0 else (I) 9 j)) 12 (fun j => if j < 240 then nI 0 else (I) 12 j)) 0 30 (nI (s))) 0 31 (nI 0)) 0 32 (nI 0)) 0 33 (nI 0)) 0 34 (nI 0)) 1 (71) (nI ((e + s)))) 1 (72) (nI 0)) 1 (110) (nI 0)) 1 (111) (nI (s))) 1 (130) (nI 0)) 0 [.ref 0, .int (nI 1), uu, uu, uu, uu, uu, uu, uu] [] from ?_))
    refine aw_aload_n rfl rfl d_X_movesUp_0 ?_
    refine aw_getr fl_X_7 km_0 (by decide) rfl rm_0_0 d_X_movesUp_1 ?_
    refine aw_sipush (v := nI 130) cs_130 d_X_movesUp_4 ?_
    refine aw_iload_n rfl rfl d_X_movesUp_7 ?_
    refine aw_iadd d_X_movesUp_8 ?_
    refine aw_top (x2 := nI 131) (by decide +kernel) ?_
    refine aw_iald (j := 131) km_1 (vp_in_nI (by decide) (by decide)) (nI_clamp (by decide)) d_X_movesUp_9 ?_
    refine aw_top (x2 := nI 0) (Eq.trans (upd2_nx (by omega)) (Eq.trans (upd2_nx (by omega)) (Eq.trans (upd2_nx (by omega)) (Eq.trans (upd2_nx (by omega)) (Eq.trans (upd2_nx (by omega)) (Eq.trans (congrFun (upd2_ne (by decide)) (131)) (Eq.trans (congrFun (upd2_ne (by decide)) (131)) (Eq.trans (congrFun (upd2_ne (by decide)) (131)) (Eq.trans (congrFun (upd2_ne (by decide)) (131)) (Eq.trans (congrFun (upd2_ne (by decide)) (131)) (Eq.trans (congrFun (updA_ne (by decide)) (131)) (Eq.trans (congrFun (updA_ne (by decide)) (131)) (g1 1 (by decide)))))))))))))) ?_
    refine aw_istore_n (lv2 := [.ref 0, .int (nI 1), .int (nI 0), uu, uu, uu, uu, uu, uu]) rfl (by decide) rfl d_X_movesUp_10 ?_
    refine aw_iconst (v := nI 0) ci_0 d_X_movesUp_11 ?_
    refine aw_istore_n (lv2 := [.ref 0, .int (nI 1), .int (nI 0), .int (nI 0), uu, uu, uu, uu, uu]) rfl (by decide) rfl d_X_movesUp_12 ?_
    refine aw_iconst (v := nI 0) ci_0 d_X_movesUp_13 ?_
    refine aw_istore (lv2 := [.ref 0, .int (nI 1), .int (nI 0), .int (nI 0), .int (nI 0), uu, uu, uu, uu]) (by decide) rfl d_X_movesUp_14 ?_
    refine aw_iload rfl d_X_movesUp_16 ?_
    refine aw_iload_n rfl rfl d_X_movesUp_18 ?_
    refine aw_icmp_geI (tgt := 51) (0) (0) (by decide +kernel) (by decide +kernel) (by decide) d_X_movesUp_19 (fun _ => ?_) (fun q => absurd q (by decide))
    refine aw_iconst (v := nI 0) ci_0 d_X_movesUp_51 ?_
    refine aw_istore (lv2 := [.ref 0, .int (nI 1), .int (nI 0), .int (nI 0), .int (nI 0), uu, uu, uu, uu]) (by decide) rfl d_X_movesUp_52 ?_
    refine aw_iconst (v := nI 0) ci_0 d_X_movesUp_54 ?_
    refine aw_istore (lv2 := [.ref 0, .int (nI 1), .int (nI 0), .int (nI 0), .int (nI 0), .int (nI 0), uu, uu, uu]) (by decide) rfl d_X_movesUp_55 ?_
    refine aw_iload rfl d_X_movesUp_57 ?_
    refine aw_iload_n rfl rfl d_X_movesUp_59 ?_
    refine aw_icmp_geI (tgt := 254) (0) (0) (by decide +kernel) (by decide +kernel) (by decide) d_X_movesUp_60 (fun _ => ?_) (fun q => absurd q (by decide))
    refine aw_aload_n rfl rfl d_X_movesUp_254 ?_
    refine aw_getr fl_X_7 km_0 (by decide) rfl rm_0_0 d_X_movesUp_255 ?_
    refine aw_sipush (v := nI 130) cs_130 d_X_movesUp_258 ?_
    refine aw_iload_n rfl rfl d_X_movesUp_261 ?_
    refine aw_iadd d_X_movesUp_262 ?_
    refine aw_top (x2 := nI 131) (by decide +kernel) ?_
    refine aw_iload rfl d_X_movesUp_263 ?_
    refine aw_iast (j := 131) km_1 (vp_in_nI (by decide) (by decide)) (nI_clamp (by decide)) d_X_movesUp_265 ?_
    refine as_retv rfl d_X_movesUp_266 ?_
    refine (show As l b 5 y_X_goesOff KM RM _ (upd2 (upd2 (upd2 (upd2 (upd2 (upd2 (upd2 (upd2 (upd2 (upd2 (upd2 (updA (updA (I) 9 (fun j => if j < 240 then nI 0 else (I) 9 j)) 12 (fun j => if j < 240 then nI 0 else (I) 12 j)) 0 30 (nI (s))) 0 31 (nI 0)) 0 32 (nI 0)) 0 33 (nI 0)) 0 34 (nI 0)) 1 (71) (nI ((e + s)))) 1 (72) (nI 0)) 1 (110) (nI 0)) 1 (111) (nI (s))) 1 (130) (nI 0)) 1 (131) (nI 0)) 277 [.ref 0, .int (nI 0), .int (nI 1), uu, uu, uu, uu] [] from ?_)
    refine aw_iinc (v := nI 2) (lv2 := [.ref 0, .int (nI 0), .int (nI 2), uu, uu, uu, uu]) rfl (by decide +kernel) (by decide) rfl d_X_goesOff_277 ?_
    refine aw_goto (tgt := 266) (by decide) d_X_goesOff_280 ?_
    refine aw_iload_n rfl rfl d_X_goesOff_266 ?_
    refine aw_bipush (v := nI 6) cb_6 d_X_goesOff_267 ?_
    refine aw_icmp_geI (tgt := 283) (2) (6) (by decide +kernel) (by decide +kernel) (by decide) d_X_goesOff_269 (fun q => absurd q (by decide)) (fun _ => ?_)
    refine aw_aload_n rfl rfl d_X_goesOff_272 ?_
    refine aw_iload_n rfl rfl d_X_goesOff_273 ?_
    refine as_callV (as := [.int (nI 2)]) (d' := 4) (q := ("SinglesUpModel", zT9, 51)) mo_X_movesUp lk_X_325 km_0 rfl rfl rfl ⟨by decide, by decide⟩ rfl rfl (by decide) d_X_goesOff_274 (Ss.of (show As l b 4 y_X_movesUp KM RM _ (upd2 (upd2 (upd2 (upd2 (upd2 (upd2 (upd2 (upd2 (upd2 (upd2 (upd2 (updA (updA (I) 9 (fun j => if j < 240 then nI 0 else (I) 9 j)) 12 (fun j => if j < 240 then nI 0 else (I) 12 j)) 0 30 (nI (s))) 0 31 (nI 0)) 0 32 (nI 0)) 0 33 (nI 0)) 0 34 (nI 0)) 1 (71) (nI ((e + s)))) 1 (72) (nI 0)) 1 (110) (nI 0)) 1 (111) (nI (s))) 1 (130) (nI 0)) 1 (131) (nI 0)) 0 [.ref 0, .int (nI 2), uu, uu, uu, uu, uu, uu, uu] [] from ?_))
    refine aw_aload_n rfl rfl d_X_movesUp_0 ?_
    refine aw_getr fl_X_7 km_0 (by decide) rfl rm_0_0 d_X_movesUp_1 ?_
    refine aw_sipush (v := nI 130) cs_130 d_X_movesUp_4 ?_
    refine aw_iload_n rfl rfl d_X_movesUp_7 ?_
    refine aw_iadd d_X_movesUp_8 ?_
    refine aw_top (x2 := nI 132) (by decide +kernel) ?_
    refine aw_iald (j := 132) km_1 (vp_in_nI (by decide) (by decide)) (nI_clamp (by decide)) d_X_movesUp_9 ?_
    refine aw_top (x2 := nI 0) (Eq.trans (upd2_nx (by omega)) (Eq.trans (upd2_nx (by omega)) (Eq.trans (upd2_nx (by omega)) (Eq.trans (upd2_nx (by omega)) (Eq.trans (upd2_nx (by omega)) (Eq.trans (upd2_nx (by omega)) (Eq.trans (congrFun (upd2_ne (by decide)) (132)) (Eq.trans (congrFun (upd2_ne (by decide)) (132)) (Eq.trans (congrFun (upd2_ne (by decide)) (132)) (Eq.trans (congrFun (upd2_ne (by decide)) (132)) (Eq.trans (congrFun (upd2_ne (by decide)) (132)) (Eq.trans (congrFun (updA_ne (by decide)) (132)) (Eq.trans (congrFun (updA_ne (by decide)) (132)) (g1 2 (by decide))))))))))))))) ?_
    refine aw_istore_n (lv2 := [.ref 0, .int (nI 2), .int (nI 0), uu, uu, uu, uu, uu, uu]) rfl (by decide) rfl d_X_movesUp_10 ?_
    refine aw_iconst (v := nI 0) ci_0 d_X_movesUp_11 ?_
    refine aw_istore_n (lv2 := [.ref 0, .int (nI 2), .int (nI 0), .int (nI 0), uu, uu, uu, uu, uu]) rfl (by decide) rfl d_X_movesUp_12 ?_
    refine aw_iconst (v := nI 0) ci_0 d_X_movesUp_13 ?_
    refine aw_istore (lv2 := [.ref 0, .int (nI 2), .int (nI 0), .int (nI 0), .int (nI 0), uu, uu, uu, uu]) (by decide) rfl d_X_movesUp_14 ?_
    refine aw_iload rfl d_X_movesUp_16 ?_
    refine aw_iload_n rfl rfl d_X_movesUp_18 ?_
    refine aw_icmp_geI (tgt := 51) (0) (0) (by decide +kernel) (by decide +kernel) (by decide) d_X_movesUp_19 (fun _ => ?_) (fun q => absurd q (by decide))
    refine aw_iconst (v := nI 0) ci_0 d_X_movesUp_51 ?_
    refine aw_istore (lv2 := [.ref 0, .int (nI 2), .int (nI 0), .int (nI 0), .int (nI 0), uu, uu, uu, uu]) (by decide) rfl d_X_movesUp_52 ?_
    refine aw_iconst (v := nI 0) ci_0 d_X_movesUp_54 ?_
    refine aw_istore (lv2 := [.ref 0, .int (nI 2), .int (nI 0), .int (nI 0), .int (nI 0), .int (nI 0), uu, uu, uu]) (by decide) rfl d_X_movesUp_55 ?_
    refine aw_iload rfl d_X_movesUp_57 ?_
    refine aw_iload_n rfl rfl d_X_movesUp_59 ?_
    refine aw_icmp_geI (tgt := 254) (0) (0) (by decide +kernel) (by decide +kernel) (by decide) d_X_movesUp_60 (fun _ => ?_) (fun q => absurd q (by decide))
    refine aw_aload_n rfl rfl d_X_movesUp_254 ?_
    refine aw_getr fl_X_7 km_0 (by decide) rfl rm_0_0 d_X_movesUp_255 ?_
    refine aw_sipush (v := nI 130) cs_130 d_X_movesUp_258 ?_
    refine aw_iload_n rfl rfl d_X_movesUp_261 ?_
    refine aw_iadd d_X_movesUp_262 ?_
    refine aw_top (x2 := nI 132) (by decide +kernel) ?_
    refine aw_iload rfl d_X_movesUp_263 ?_
    refine aw_iast (j := 132) km_1 (vp_in_nI (by decide) (by decide)) (nI_clamp (by decide)) d_X_movesUp_265 ?_
    refine as_retv rfl d_X_movesUp_266 ?_
    refine (show As l b 5 y_X_goesOff KM RM _ (upd2 (upd2 (upd2 (upd2 (upd2 (upd2 (upd2 (upd2 (upd2 (upd2 (upd2 (upd2 (updA (updA (I) 9 (fun j => if j < 240 then nI 0 else (I) 9 j)) 12 (fun j => if j < 240 then nI 0 else (I) 12 j)) 0 30 (nI (s))) 0 31 (nI 0)) 0 32 (nI 0)) 0 33 (nI 0)) 0 34 (nI 0)) 1 (71) (nI ((e + s)))) 1 (72) (nI 0)) 1 (110) (nI 0)) 1 (111) (nI (s))) 1 (130) (nI 0)) 1 (131) (nI 0)) 1 (132) (nI 0)) 277 [.ref 0, .int (nI 0), .int (nI 2), uu, uu, uu, uu] [] from ?_)
    refine aw_iinc (v := nI 3) (lv2 := [.ref 0, .int (nI 0), .int (nI 3), uu, uu, uu, uu]) rfl (by decide +kernel) (by decide) rfl d_X_goesOff_277 ?_
    refine aw_goto (tgt := 266) (by decide) d_X_goesOff_280 ?_
    refine aw_iload_n rfl rfl d_X_goesOff_266 ?_
    refine aw_bipush (v := nI 6) cb_6 d_X_goesOff_267 ?_
    refine aw_icmp_geI (tgt := 283) (3) (6) (by decide +kernel) (by decide +kernel) (by decide) d_X_goesOff_269 (fun q => absurd q (by decide)) (fun _ => ?_)
    refine aw_aload_n rfl rfl d_X_goesOff_272 ?_
    refine aw_iload_n rfl rfl d_X_goesOff_273 ?_
    refine as_callV (as := [.int (nI 3)]) (d' := 4) (q := ("SinglesUpModel", zT9, 51)) mo_X_movesUp lk_X_325 km_0 rfl rfl rfl ⟨by decide, by decide⟩ rfl rfl (by decide) d_X_goesOff_274 (Ss.of (show As l b 4 y_X_movesUp KM RM _ (upd2 (upd2 (upd2 (upd2 (upd2 (upd2 (upd2 (upd2 (upd2 (upd2 (upd2 (upd2 (updA (updA (I) 9 (fun j => if j < 240 then nI 0 else (I) 9 j)) 12 (fun j => if j < 240 then nI 0 else (I) 12 j)) 0 30 (nI (s))) 0 31 (nI 0)) 0 32 (nI 0)) 0 33 (nI 0)) 0 34 (nI 0)) 1 (71) (nI ((e + s)))) 1 (72) (nI 0)) 1 (110) (nI 0)) 1 (111) (nI (s))) 1 (130) (nI 0)) 1 (131) (nI 0)) 1 (132) (nI 0)) 0 [.ref 0, .int (nI 3), uu, uu, uu, uu, uu, uu, uu] [] from ?_))
    refine aw_aload_n rfl rfl d_X_movesUp_0 ?_
    refine aw_getr fl_X_7 km_0 (by decide) rfl rm_0_0 d_X_movesUp_1 ?_
    refine aw_sipush (v := nI 130) cs_130 d_X_movesUp_4 ?_
    refine aw_iload_n rfl rfl d_X_movesUp_7 ?_
    refine aw_iadd d_X_movesUp_8 ?_
    refine aw_top (x2 := nI 133) (by decide +kernel) ?_
    refine aw_iald (j := 133) km_1 (vp_in_nI (by decide) (by decide)) (nI_clamp (by decide)) d_X_movesUp_9 ?_
    refine aw_top (x2 := nI 0) (Eq.trans (upd2_nx (by omega)) (Eq.trans (upd2_nx (by omega)) (Eq.trans (upd2_nx (by omega)) (Eq.trans (upd2_nx (by omega)) (Eq.trans (upd2_nx (by omega)) (Eq.trans (upd2_nx (by omega)) (Eq.trans (upd2_nx (by omega)) (Eq.trans (congrFun (upd2_ne (by decide)) (133)) (Eq.trans (congrFun (upd2_ne (by decide)) (133)) (Eq.trans (congrFun (upd2_ne (by decide)) (133)) (Eq.trans (congrFun (upd2_ne (by decide)) (133)) (Eq.trans (congrFun (upd2_ne (by decide)) (133)) (Eq.trans (congrFun (updA_ne (by decide)) (133)) (Eq.trans (congrFun (updA_ne (by decide)) (133)) (g1 3 (by decide)))))))))))))))) ?_
    refine aw_istore_n (lv2 := [.ref 0, .int (nI 3), .int (nI 0), uu, uu, uu, uu, uu, uu]) rfl (by decide) rfl d_X_movesUp_10 ?_
    refine aw_iconst (v := nI 0) ci_0 d_X_movesUp_11 ?_
    refine aw_istore_n (lv2 := [.ref 0, .int (nI 3), .int (nI 0), .int (nI 0), uu, uu, uu, uu, uu]) rfl (by decide) rfl d_X_movesUp_12 ?_
    refine aw_iconst (v := nI 0) ci_0 d_X_movesUp_13 ?_
    refine aw_istore (lv2 := [.ref 0, .int (nI 3), .int (nI 0), .int (nI 0), .int (nI 0), uu, uu, uu, uu]) (by decide) rfl d_X_movesUp_14 ?_
    refine aw_iload rfl d_X_movesUp_16 ?_
    refine aw_iload_n rfl rfl d_X_movesUp_18 ?_
    refine aw_icmp_geI (tgt := 51) (0) (0) (by decide +kernel) (by decide +kernel) (by decide) d_X_movesUp_19 (fun _ => ?_) (fun q => absurd q (by decide))
    refine aw_iconst (v := nI 0) ci_0 d_X_movesUp_51 ?_
    refine aw_istore (lv2 := [.ref 0, .int (nI 3), .int (nI 0), .int (nI 0), .int (nI 0), uu, uu, uu, uu]) (by decide) rfl d_X_movesUp_52 ?_
    refine aw_iconst (v := nI 0) ci_0 d_X_movesUp_54 ?_
    refine aw_istore (lv2 := [.ref 0, .int (nI 3), .int (nI 0), .int (nI 0), .int (nI 0), .int (nI 0), uu, uu, uu]) (by decide) rfl d_X_movesUp_55 ?_
    refine aw_iload rfl d_X_movesUp_57 ?_
    refine aw_iload_n rfl rfl d_X_movesUp_59 ?_
    refine aw_icmp_geI (tgt := 254) (0) (0) (by decide +kernel) (by decide +kernel) (by decide) d_X_movesUp_60 (fun _ => ?_) (fun q => absurd q (by decide))
    refine aw_aload_n rfl rfl d_X_movesUp_254 ?_
    refine aw_getr fl_X_7 km_0 (by decide) rfl rm_0_0 d_X_movesUp_255 ?_
    refine aw_sipush (v := nI 130) cs_130 d_X_movesUp_258 ?_
    refine aw_iload_n rfl rfl d_X_movesUp_261 ?_
    refine aw_iadd d_X_movesUp_262 ?_
    refine aw_top (x2 := nI 133) (by decide +kernel) ?_
    refine aw_iload rfl d_X_movesUp_263 ?_
    refine aw_iast (j := 133) km_1 (vp_in_nI (by decide) (by decide)) (nI_clamp (by decide)) d_X_movesUp_265 ?_
    refine as_retv rfl d_X_movesUp_266 ?_
    refine (show As l b 5 y_X_goesOff KM RM _ (upd2 (upd2 (upd2 (upd2 (upd2 (upd2 (upd2 (upd2 (upd2 (upd2 (upd2 (upd2 (upd2 (updA (updA (I) 9 (fun j => if j < 240 then nI 0 else (I) 9 j)) 12 (fun j => if j < 240 then nI 0 else (I) 12 j)) 0 30 (nI (s))) 0 31 (nI 0)) 0 32 (nI 0)) 0 33 (nI 0)) 0 34 (nI 0)) 1 (71) (nI ((e + s)))) 1 (72) (nI 0)) 1 (110) (nI 0)) 1 (111) (nI (s))) 1 (130) (nI 0)) 1 (131) (nI 0)) 1 (132) (nI 0)) 1 (133) (nI 0)) 277 [.ref 0, .int (nI 0), .int (nI 3), uu, uu, uu, uu] [] from ?_)
    refine aw_iinc (v := nI 4) (lv2 := [.ref 0, .int (nI 0), .int (nI 4), uu, uu, uu, uu]) rfl (by decide +kernel) (by decide) rfl d_X_goesOff_277 ?_
    refine aw_goto (tgt := 266) (by decide) d_X_goesOff_280 ?_
    refine aw_iload_n rfl rfl d_X_goesOff_266 ?_
    refine aw_bipush (v := nI 6) cb_6 d_X_goesOff_267 ?_
    refine aw_icmp_geI (tgt := 283) (4) (6) (by decide +kernel) (by decide +kernel) (by decide) d_X_goesOff_269 (fun q => absurd q (by decide)) (fun _ => ?_)
    refine aw_aload_n rfl rfl d_X_goesOff_272 ?_
    refine aw_iload_n rfl rfl d_X_goesOff_273 ?_
    refine as_callV (as := [.int (nI 4)]) (d' := 4) (q := ("SinglesUpModel", zT9, 51)) mo_X_movesUp lk_X_325 km_0 rfl rfl rfl ⟨by decide, by decide⟩ rfl rfl (by decide) d_X_goesOff_274 (Ss.of (show As l b 4 y_X_movesUp KM RM _ (upd2 (upd2 (upd2 (upd2 (upd2 (upd2 (upd2 (upd2 (upd2 (upd2 (upd2 (upd2 (upd2 (updA (updA (I) 9 (fun j => if j < 240 then nI 0 else (I) 9 j)) 12 (fun j => if j < 240 then nI 0 else (I) 12 j)) 0 30 (nI (s))) 0 31 (nI 0)) 0 32 (nI 0)) 0 33 (nI 0)) 0 34 (nI 0)) 1 (71) (nI ((e + s)))) 1 (72) (nI 0)) 1 (110) (nI 0)) 1 (111) (nI (s))) 1 (130) (nI 0)) 1 (131) (nI 0)) 1 (132) (nI 0)) 1 (133) (nI 0)) 0 [.ref 0, .int (nI 4), uu, uu, uu, uu, uu, uu, uu] [] from ?_))
    refine aw_aload_n rfl rfl d_X_movesUp_0 ?_
    refine aw_getr fl_X_7 km_0 (by decide) rfl rm_0_0 d_X_movesUp_1 ?_
    refine aw_sipush (v := nI 130) cs_130 d_X_movesUp_4 ?_
    refine aw_iload_n rfl rfl d_X_movesUp_7 ?_
    refine aw_iadd d_X_movesUp_8 ?_
    refine aw_top (x2 := nI 134) (by decide +kernel) ?_
    refine aw_iald (j := 134) km_1 (vp_in_nI (by decide) (by decide)) (nI_clamp (by decide)) d_X_movesUp_9 ?_
    refine aw_top (x2 := nI 0) (Eq.trans (upd2_nx (by omega)) (Eq.trans (upd2_nx (by omega)) (Eq.trans (upd2_nx (by omega)) (Eq.trans (upd2_nx (by omega)) (Eq.trans (upd2_nx (by omega)) (Eq.trans (upd2_nx (by omega)) (Eq.trans (upd2_nx (by omega)) (Eq.trans (upd2_nx (by omega)) (Eq.trans (congrFun (upd2_ne (by decide)) (134)) (Eq.trans (congrFun (upd2_ne (by decide)) (134)) (Eq.trans (congrFun (upd2_ne (by decide)) (134)) (Eq.trans (congrFun (upd2_ne (by decide)) (134)) (Eq.trans (congrFun (upd2_ne (by decide)) (134)) (Eq.trans (congrFun (updA_ne (by decide)) (134)) (Eq.trans (congrFun (updA_ne (by decide)) (134)) (g1 4 (by decide))))))))))))))))) ?_
    refine aw_istore_n (lv2 := [.ref 0, .int (nI 4), .int (nI 0), uu, uu, uu, uu, uu, uu]) rfl (by decide) rfl d_X_movesUp_10 ?_
    refine aw_iconst (v := nI 0) ci_0 d_X_movesUp_11 ?_
    refine aw_istore_n (lv2 := [.ref 0, .int (nI 4), .int (nI 0), .int (nI 0), uu, uu, uu, uu, uu]) rfl (by decide) rfl d_X_movesUp_12 ?_
    refine aw_iconst (v := nI 0) ci_0 d_X_movesUp_13 ?_
    refine aw_istore (lv2 := [.ref 0, .int (nI 4), .int (nI 0), .int (nI 0), .int (nI 0), uu, uu, uu, uu]) (by decide) rfl d_X_movesUp_14 ?_
    refine aw_iload rfl d_X_movesUp_16 ?_
    refine aw_iload_n rfl rfl d_X_movesUp_18 ?_
    refine aw_icmp_geI (tgt := 51) (0) (0) (by decide +kernel) (by decide +kernel) (by decide) d_X_movesUp_19 (fun _ => ?_) (fun q => absurd q (by decide))
    refine aw_iconst (v := nI 0) ci_0 d_X_movesUp_51 ?_
    refine aw_istore (lv2 := [.ref 0, .int (nI 4), .int (nI 0), .int (nI 0), .int (nI 0), uu, uu, uu, uu]) (by decide) rfl d_X_movesUp_52 ?_
    refine aw_iconst (v := nI 0) ci_0 d_X_movesUp_54 ?_
    refine aw_istore (lv2 := [.ref 0, .int (nI 4), .int (nI 0), .int (nI 0), .int (nI 0), .int (nI 0), uu, uu, uu]) (by decide) rfl d_X_movesUp_55 ?_
    refine aw_iload rfl d_X_movesUp_57 ?_
    refine aw_iload_n rfl rfl d_X_movesUp_59 ?_
    refine aw_icmp_geI (tgt := 254) (0) (0) (by decide +kernel) (by decide +kernel) (by decide) d_X_movesUp_60 (fun _ => ?_) (fun q => absurd q (by decide))
    refine aw_aload_n rfl rfl d_X_movesUp_254 ?_
    refine aw_getr fl_X_7 km_0 (by decide) rfl rm_0_0 d_X_movesUp_255 ?_
    refine aw_sipush (v := nI 130) cs_130 d_X_movesUp_258 ?_
    refine aw_iload_n rfl rfl d_X_movesUp_261 ?_
    refine aw_iadd d_X_movesUp_262 ?_
    refine aw_top (x2 := nI 134) (by decide +kernel) ?_
    refine aw_iload rfl d_X_movesUp_263 ?_
    refine aw_iast (j := 134) km_1 (vp_in_nI (by decide) (by decide)) (nI_clamp (by decide)) d_X_movesUp_265 ?_
    refine as_retv rfl d_X_movesUp_266 ?_
    refine (show As l b 5 y_X_goesOff KM RM _ (upd2 (upd2 (upd2 (upd2 (upd2 (upd2 (upd2 (upd2 (upd2 (upd2 (upd2 (upd2 (upd2 (upd2 (updA (updA (I) 9 (fun j => if j < 240 then nI 0 else (I) 9 j)) 12 (fun j => if j < 240 then nI 0 else (I) 12 j)) 0 30 (nI (s))) 0 31 (nI 0)) 0 32 (nI 0)) 0 33 (nI 0)) 0 34 (nI 0)) 1 (71) (nI ((e + s)))) 1 (72) (nI 0)) 1 (110) (nI 0)) 1 (111) (nI (s))) 1 (130) (nI 0)) 1 (131) (nI 0)) 1 (132) (nI 0)) 1 (133) (nI 0)) 1 (134) (nI 0)) 277 [.ref 0, .int (nI 0), .int (nI 4), uu, uu, uu, uu] [] from ?_)
    refine aw_iinc (v := nI 5) (lv2 := [.ref 0, .int (nI 0), .int (nI 5), uu, uu, uu, uu]) rfl (by decide +kernel) (by decide) rfl d_X_goesOff_277 ?_
    refine aw_goto (tgt := 266) (by decide) d_X_goesOff_280 ?_
    refine aw_iload_n rfl rfl d_X_goesOff_266 ?_
    refine aw_bipush (v := nI 6) cb_6 d_X_goesOff_267 ?_
    refine aw_icmp_geI (tgt := 283) (5) (6) (by decide +kernel) (by decide +kernel) (by decide) d_X_goesOff_269 (fun q => absurd q (by decide)) (fun _ => ?_)
    refine aw_aload_n rfl rfl d_X_goesOff_272 ?_
    refine aw_iload_n rfl rfl d_X_goesOff_273 ?_
    refine as_callV (as := [.int (nI 5)]) (d' := 4) (q := ("SinglesUpModel", zT9, 51)) mo_X_movesUp lk_X_325 km_0 rfl rfl rfl ⟨by decide, by decide⟩ rfl rfl (by decide) d_X_goesOff_274 (Ss.of (show As l b 4 y_X_movesUp KM RM _ (upd2 (upd2 (upd2 (upd2 (upd2 (upd2 (upd2 (upd2 (upd2 (upd2 (upd2 (upd2 (upd2 (upd2 (updA (updA (I) 9 (fun j => if j < 240 then nI 0 else (I) 9 j)) 12 (fun j => if j < 240 then nI 0 else (I) 12 j)) 0 30 (nI (s))) 0 31 (nI 0)) 0 32 (nI 0)) 0 33 (nI 0)) 0 34 (nI 0)) 1 (71) (nI ((e + s)))) 1 (72) (nI 0)) 1 (110) (nI 0)) 1 (111) (nI (s))) 1 (130) (nI 0)) 1 (131) (nI 0)) 1 (132) (nI 0)) 1 (133) (nI 0)) 1 (134) (nI 0)) 0 [.ref 0, .int (nI 5), uu, uu, uu, uu, uu, uu, uu] [] from ?_))
    refine aw_aload_n rfl rfl d_X_movesUp_0 ?_
    refine aw_getr fl_X_7 km_0 (by decide) rfl rm_0_0 d_X_movesUp_1 ?_
    refine aw_sipush (v := nI 130) cs_130 d_X_movesUp_4 ?_
    refine aw_iload_n rfl rfl d_X_movesUp_7 ?_
    refine aw_iadd d_X_movesUp_8 ?_
    refine aw_top (x2 := nI 135) (by decide +kernel) ?_
    refine aw_iald (j := 135) km_1 (vp_in_nI (by decide) (by decide)) (nI_clamp (by decide)) d_X_movesUp_9 ?_
    refine aw_top (x2 := nI 0) (Eq.trans (upd2_nx (by omega)) (Eq.trans (upd2_nx (by omega)) (Eq.trans (upd2_nx (by omega)) (Eq.trans (upd2_nx (by omega)) (Eq.trans (upd2_nx (by omega)) (Eq.trans (upd2_nx (by omega)) (Eq.trans (upd2_nx (by omega)) (Eq.trans (upd2_nx (by omega)) (Eq.trans (upd2_nx (by omega)) (Eq.trans (congrFun (upd2_ne (by decide)) (135)) (Eq.trans (congrFun (upd2_ne (by decide)) (135)) (Eq.trans (congrFun (upd2_ne (by decide)) (135)) (Eq.trans (congrFun (upd2_ne (by decide)) (135)) (Eq.trans (congrFun (upd2_ne (by decide)) (135)) (Eq.trans (congrFun (updA_ne (by decide)) (135)) (Eq.trans (congrFun (updA_ne (by decide)) (135)) (g1 5 (by decide)))))))))))))))))) ?_
    refine aw_istore_n (lv2 := [.ref 0, .int (nI 5), .int (nI 0), uu, uu, uu, uu, uu, uu]) rfl (by decide) rfl d_X_movesUp_10 ?_
    refine aw_iconst (v := nI 0) ci_0 d_X_movesUp_11 ?_
    refine aw_istore_n (lv2 := [.ref 0, .int (nI 5), .int (nI 0), .int (nI 0), uu, uu, uu, uu, uu]) rfl (by decide) rfl d_X_movesUp_12 ?_
    refine aw_iconst (v := nI 0) ci_0 d_X_movesUp_13 ?_
    refine aw_istore (lv2 := [.ref 0, .int (nI 5), .int (nI 0), .int (nI 0), .int (nI 0), uu, uu, uu, uu]) (by decide) rfl d_X_movesUp_14 ?_
    refine aw_iload rfl d_X_movesUp_16 ?_
    refine aw_iload_n rfl rfl d_X_movesUp_18 ?_
    refine aw_icmp_geI (tgt := 51) (0) (0) (by decide +kernel) (by decide +kernel) (by decide) d_X_movesUp_19 (fun _ => ?_) (fun q => absurd q (by decide))
    refine aw_iconst (v := nI 0) ci_0 d_X_movesUp_51 ?_
    refine aw_istore (lv2 := [.ref 0, .int (nI 5), .int (nI 0), .int (nI 0), .int (nI 0), uu, uu, uu, uu]) (by decide) rfl d_X_movesUp_52 ?_
    refine aw_iconst (v := nI 0) ci_0 d_X_movesUp_54 ?_
    refine aw_istore (lv2 := [.ref 0, .int (nI 5), .int (nI 0), .int (nI 0), .int (nI 0), .int (nI 0), uu, uu, uu]) (by decide) rfl d_X_movesUp_55 ?_
    refine aw_iload rfl d_X_movesUp_57 ?_
    refine aw_iload_n rfl rfl d_X_movesUp_59 ?_
    refine aw_icmp_geI (tgt := 254) (0) (0) (by decide +kernel) (by decide +kernel) (by decide) d_X_movesUp_60 (fun _ => ?_) (fun q => absurd q (by decide))
    refine aw_aload_n rfl rfl d_X_movesUp_254 ?_
    refine aw_getr fl_X_7 km_0 (by decide) rfl rm_0_0 d_X_movesUp_255 ?_
    refine aw_sipush (v := nI 130) cs_130 d_X_movesUp_258 ?_
    refine aw_iload_n rfl rfl d_X_movesUp_261 ?_
    refine aw_iadd d_X_movesUp_262 ?_
    refine aw_top (x2 := nI 135) (by decide +kernel) ?_
    refine aw_iload rfl d_X_movesUp_263 ?_
    refine aw_iast (j := 135) km_1 (vp_in_nI (by decide) (by decide)) (nI_clamp (by decide)) d_X_movesUp_265 ?_
    refine as_retv rfl d_X_movesUp_266 ?_
    refine (show As l b 5 y_X_goesOff KM RM _ (upd2 (upd2 (upd2 (upd2 (upd2 (upd2 (upd2 (upd2 (upd2 (upd2 (upd2 (upd2 (upd2 (upd2 (upd2 (updA (updA (I) 9 (fun j => if j < 240 then nI 0 else (I) 9 j)) 12 (fun j => if j < 240 then nI 0 else (I) 12 j)) 0 30 (nI (s))) 0 31 (nI 0)) 0 32 (nI 0)) 0 33 (nI 0)) 0 34 (nI 0)) 1 (71) (nI ((e + s)))) 1 (72) (nI 0)) 1 (110) (nI 0)) 1 (111) (nI (s))) 1 (130) (nI 0)) 1 (131) (nI 0)) 1 (132) (nI 0)) 1 (133) (nI 0)) 1 (134) (nI 0)) 1 (135) (nI 0)) 277 [.ref 0, .int (nI 0), .int (nI 5), uu, uu, uu, uu] [] from ?_)
    refine aw_iinc (v := nI 6) (lv2 := [.ref 0, .int (nI 0), .int (nI 6), uu, uu, uu, uu]) rfl (by decide +kernel) (by decide) rfl d_X_goesOff_277 ?_
    refine aw_goto (tgt := 266) (by decide) d_X_goesOff_280 ?_
    refine aw_iload_n rfl rfl d_X_goesOff_266 ?_
    refine aw_bipush (v := nI 6) cb_6 d_X_goesOff_267 ?_
    refine aw_icmp_geI (tgt := 283) (6) (6) (by decide +kernel) (by decide +kernel) (by decide) d_X_goesOff_269 (fun _ => ?_) (fun q => absurd q (by decide))
    refine aw_iconst (v := nI 0) ci_0 d_X_goesOff_283 ?_
    refine aw_istore_n (lv2 := [.ref 0, .int (nI 0), .int (nI 0), uu, uu, uu, uu]) rfl (by decide) rfl d_X_goesOff_284 ?_
    refine aw_iload_n rfl rfl d_X_goesOff_285 ?_
    refine aw_aload_n rfl rfl d_X_goesOff_286 ?_
    refine aw_geti fl_X_293 km_0 (by decide) rfl d_X_goesOff_287 ?_
    refine aw_top (x2 := nI 0) (Eq.trans (congrFun (upd2_ne (by decide)) (32)) (Eq.trans (congrFun (upd2_ne (by decide)) (32)) (Eq.trans (congrFun (upd2_ne (by decide)) (32)) (Eq.trans (congrFun (upd2_ne (by decide)) (32)) (Eq.trans (congrFun (upd2_ne (by decide)) (32)) (Eq.trans (congrFun (upd2_ne (by decide)) (32)) (Eq.trans (congrFun (upd2_ne (by decide)) (32)) (Eq.trans (congrFun (upd2_ne (by decide)) (32)) (Eq.trans (congrFun (upd2_ne (by decide)) (32)) (Eq.trans (congrFun (upd2_ne (by decide)) (32)) (Eq.trans (upd2_nx (by omega)) (Eq.trans (upd2_nx (by omega)) (upd2_eq))))))))))))) ?_
    refine aw_icmp_geI (tgt := 369) (0) (0) (by decide +kernel) (by decide +kernel) (by decide) d_X_goesOff_290 (fun _ => ?_) (fun q => absurd q (by decide))
    refine aw_aload_n rfl rfl d_X_goesOff_369 ?_
    refine aw_getr fl_X_7 km_0 (by decide) rfl rm_0_0 d_X_goesOff_370 ?_
    refine aw_bipush (v := nI 70) cb_70 d_X_goesOff_373 ?_
    refine aw_dup2 rfl rfl d_X_goesOff_375 ?_
    refine aw_iald (j := 70) km_1 (vp_in_nI (by decide) (by decide)) (nI_clamp (by decide)) d_X_goesOff_376 ?_
    refine aw_top (x2 := nI (k)) (Eq.trans (upd2_nx (by omega)) (Eq.trans (upd2_nx (by omega)) (Eq.trans (upd2_nx (by omega)) (Eq.trans (upd2_nx (by omega)) (Eq.trans (upd2_nx (by omega)) (Eq.trans (upd2_nx (by omega)) (Eq.trans (upd2_nx (by omega)) (Eq.trans (upd2_nx (by omega)) (Eq.trans (upd2_nx (by omega)) (Eq.trans (upd2_nx (by omega)) (Eq.trans (congrFun (upd2_ne (by decide)) (70)) (Eq.trans (congrFun (upd2_ne (by decide)) (70)) (Eq.trans (congrFun (upd2_ne (by decide)) (70)) (Eq.trans (congrFun (upd2_ne (by decide)) (70)) (Eq.trans (congrFun (upd2_ne (by decide)) (70)) (Eq.trans (congrFun (updA_ne (by decide)) (70)) (Eq.trans (congrFun (updA_ne (by decide)) (70)) (g6)))))))))))))))))) ?_
    refine aw_iconst (v := nI 1) ci_1 d_X_goesOff_377 ?_
    refine aw_iaddN d_X_goesOff_378 ?_
    refine aw_iast (j := 70) km_1 (vp_in_nI (by decide) (by decide)) (nI_clamp (by decide)) d_X_goesOff_379 ?_
    refine aw_aload_n rfl rfl d_X_goesOff_380 ?_
    refine aw_getr fl_X_7 km_0 (by decide) rfl rm_0_0 d_X_goesOff_381 ?_
    refine aw_bipush (v := nI 73) cb_73 d_X_goesOff_384 ?_
    refine aw_dup2 rfl rfl d_X_goesOff_386 ?_
    refine aw_iald (j := 73) km_1 (vp_in_nI (by decide) (by decide)) (nI_clamp (by decide)) d_X_goesOff_387 ?_
    refine aw_aload_n rfl rfl d_X_goesOff_388 ?_
    refine aw_getr fl_X_7 km_0 (by decide) rfl rm_0_0 d_X_goesOff_389 ?_
    refine aw_iconst (v := nI 2) ci_2 d_X_goesOff_392 ?_
    refine aw_iald (j := 2) km_1 (vp_in_nI (by decide) (by decide)) (nI_clamp (by decide)) d_X_goesOff_393 ?_
    refine aw_iadd d_X_goesOff_394 ?_
    refine aw_iast (j := 73) km_1 (vp_in_nI (by decide) (by decide)) (nI_clamp (by decide)) d_X_goesOff_395 ?_
    refine aw_aload_n rfl rfl d_X_goesOff_396 ?_
    refine aw_getr fl_X_7 km_0 (by decide) rfl rm_0_0 d_X_goesOff_397 ?_
    refine aw_iconst (v := nI 4) ci_4 d_X_goesOff_400 ?_
    refine aw_iald (j := 4) km_1 (vp_in_nI (by decide) (by decide)) (nI_clamp (by decide)) d_X_goesOff_401 ?_
    refine aw_top (x2 := nI 0) (Eq.trans (upd2_nx (by omega)) (Eq.trans (upd2_nx (by omega)) (Eq.trans (upd2_nx (by omega)) (Eq.trans (upd2_nx (by omega)) (Eq.trans (upd2_nx (by omega)) (Eq.trans (upd2_nx (by omega)) (Eq.trans (upd2_nx (by omega)) (Eq.trans (upd2_nx (by omega)) (Eq.trans (upd2_nx (by omega)) (Eq.trans (upd2_nx (by omega)) (Eq.trans (upd2_nx (by omega)) (Eq.trans (upd2_nx (by omega)) (Eq.trans (congrFun (upd2_ne (by decide)) (4)) (Eq.trans (congrFun (upd2_ne (by decide)) (4)) (Eq.trans (congrFun (upd2_ne (by decide)) (4)) (Eq.trans (congrFun (upd2_ne (by decide)) (4)) (Eq.trans (congrFun (upd2_ne (by decide)) (4)) (Eq.trans (congrFun (updA_ne (by decide)) (4)) (Eq.trans (congrFun (updA_ne (by decide)) (4)) (g4)))))))))))))))))))) ?_
    refine aw_if_leI (tgt := 448) (0) (by decide +kernel) (by decide) d_X_goesOff_402 (fun _ => ?_) (fun q => absurd q (by decide))
    refine aw_sipush (v := nI 6010) cs_6010 d_X_goesOff_448 ?_
    refine aw_iconst (v := nI 3) ci_3 d_X_goesOff_451 ?_
    refine aw_aload_n rfl rfl d_X_goesOff_452 ?_
    refine aw_getr fl_X_7 km_0 (by decide) rfl rm_0_0 d_X_goesOff_453 ?_
    refine aw_bipush (v := nI 70) cb_70 d_X_goesOff_456 ?_
    refine aw_iald (j := 70) km_1 (vp_in_nI (by decide) (by decide)) (nI_clamp (by decide)) d_X_goesOff_458 ?_
    refine aw_top (x2 := nI ((k + 1))) (Eq.trans (upd2_nx (by omega)) (upd2_eq)) ?_
    refine aw_iconst (v := nI 1) ci_1 d_X_goesOff_459 ?_
    refine aw_isubN (by omega) d_X_goesOff_460 ?_
    refine aw_bipush (v := nI 60) cb_60 d_X_goesOff_461 ?_
    refine aw_iremN (by omega) (by omega) (by omega) d_X_goesOff_463 ?_
    refine aw_imulN d_X_goesOff_464 ?_
    refine aw_iaddN d_X_goesOff_465 ?_
    refine aw_istore_n (lv2 := [.ref 0, .int (nI 0), .int (nI ((6010 + (3 * (((k + 1) - 1) % 60))))), uu, uu, uu, uu]) rfl (by decide) rfl d_X_goesOff_466 ?_
    refine aw_aload_n rfl rfl d_X_goesOff_467 ?_
    refine aw_getr fl_X_7 km_0 (by decide) rfl rm_0_0 d_X_goesOff_468 ?_
    refine aw_iload_n rfl rfl d_X_goesOff_471 ?_
    refine aw_aload_n rfl rfl d_X_goesOff_472 ?_
    refine aw_geti fl_X_289 km_0 (by decide) rfl d_X_goesOff_473 ?_
    refine aw_top (x2 := nI (s)) (Eq.trans (congrFun (upd2_ne (by decide)) (30)) (Eq.trans (congrFun (upd2_ne (by decide)) (30)) (Eq.trans (congrFun (upd2_ne (by decide)) (30)) (Eq.trans (congrFun (upd2_ne (by decide)) (30)) (Eq.trans (congrFun (upd2_ne (by decide)) (30)) (Eq.trans (congrFun (upd2_ne (by decide)) (30)) (Eq.trans (congrFun (upd2_ne (by decide)) (30)) (Eq.trans (congrFun (upd2_ne (by decide)) (30)) (Eq.trans (congrFun (upd2_ne (by decide)) (30)) (Eq.trans (congrFun (upd2_ne (by decide)) (30)) (Eq.trans (congrFun (upd2_ne (by decide)) (30)) (Eq.trans (congrFun (upd2_ne (by decide)) (30)) (Eq.trans (upd2_nx (by omega)) (Eq.trans (upd2_nx (by omega)) (Eq.trans (upd2_nx (by omega)) (Eq.trans (upd2_nx (by omega)) (upd2_eq))))))))))))))))) ?_
    refine aw_iast (j := (6010 + (3 * (((k + 1) - 1) % 60)))) km_1 (vp_in_nI (by omega) (by decide)) (nI_clamp (by omega)) d_X_goesOff_476 ?_
    refine aw_aload_n rfl rfl d_X_goesOff_477 ?_
    refine aw_getr fl_X_7 km_0 (by decide) rfl rm_0_0 d_X_goesOff_478 ?_
    refine aw_iload_n rfl rfl d_X_goesOff_481 ?_
    refine aw_iconst (v := nI 1) ci_1 d_X_goesOff_482 ?_
    refine aw_iaddN d_X_goesOff_483 ?_
    refine aw_aload_n rfl rfl d_X_goesOff_484 ?_
    refine aw_geti fl_X_291 km_0 (by decide) rfl d_X_goesOff_485 ?_
    refine aw_top (x2 := nI 0) (Eq.trans (congrFun (upd2_ne (by decide)) (31)) (Eq.trans (congrFun (upd2_ne (by decide)) (31)) (Eq.trans (congrFun (upd2_ne (by decide)) (31)) (Eq.trans (congrFun (upd2_ne (by decide)) (31)) (Eq.trans (congrFun (upd2_ne (by decide)) (31)) (Eq.trans (congrFun (upd2_ne (by decide)) (31)) (Eq.trans (congrFun (upd2_ne (by decide)) (31)) (Eq.trans (congrFun (upd2_ne (by decide)) (31)) (Eq.trans (congrFun (upd2_ne (by decide)) (31)) (Eq.trans (congrFun (upd2_ne (by decide)) (31)) (Eq.trans (congrFun (upd2_ne (by decide)) (31)) (Eq.trans (congrFun (upd2_ne (by decide)) (31)) (Eq.trans (congrFun (upd2_ne (by decide)) (31)) (Eq.trans (upd2_nx (by omega)) (Eq.trans (upd2_nx (by omega)) (Eq.trans (upd2_nx (by omega)) (upd2_eq))))))))))))))))) ?_
    refine aw_iast (j := ((6010 + (3 * (((k + 1) - 1) % 60))) + 1)) km_1 (vp_in_nI (by omega) (by decide)) (nI_clamp (by omega)) d_X_goesOff_488 ?_
    refine aw_aload_n rfl rfl d_X_goesOff_489 ?_
    refine aw_getr fl_X_7 km_0 (by decide) rfl rm_0_0 d_X_goesOff_490 ?_
    refine aw_iload_n rfl rfl d_X_goesOff_493 ?_
    refine aw_iconst (v := nI 2) ci_2 d_X_goesOff_494 ?_
    refine aw_iaddN d_X_goesOff_495 ?_
    refine aw_aload_n rfl rfl d_X_goesOff_496 ?_
    refine aw_getr fl_X_7 km_0 (by decide) rfl rm_0_0 d_X_goesOff_497 ?_
    refine aw_bipush (v := nI 73) cb_73 d_X_goesOff_500 ?_
    refine aw_iald (j := 73) km_1 (vp_in_nI (by decide) (by decide)) (nI_clamp (by decide)) d_X_goesOff_502 ?_
    refine aw_top (x2 := ((upd2 (upd2 (upd2 (upd2 (upd2 (upd2 (upd2 (upd2 (upd2 (upd2 (upd2 (upd2 (upd2 (upd2 (upd2 (upd2 (updA (updA (I) 9 (fun j => if j < 240 then nI 0 else (I) 9 j)) 12 (fun j => if j < 240 then nI 0 else (I) 12 j)) 0 30 (nI (s))) 0 31 (nI 0)) 0 32 (nI 0)) 0 33 (nI 0)) 0 34 (nI 0)) 1 (71) (nI ((e + s)))) 1 (72) (nI 0)) 1 (110) (nI 0)) 1 (111) (nI (s))) 1 (130) (nI 0)) 1 (131) (nI 0)) 1 (132) (nI 0)) 1 (133) (nI 0)) 1 (134) (nI 0)) 1 (135) (nI 0)) 1 (70) (nI ((k + 1)))) 1 73 + (upd2 (upd2 (upd2 (upd2 (upd2 (upd2 (upd2 (upd2 (upd2 (upd2 (upd2 (upd2 (upd2 (upd2 (upd2 (upd2 (updA (updA (I) 9 (fun j => if j < 240 then nI 0 else (I) 9 j)) 12 (fun j => if j < 240 then nI 0 else (I) 12 j)) 0 30 (nI (s))) 0 31 (nI 0)) 0 32 (nI 0)) 0 33 (nI 0)) 0 34 (nI 0)) 1 (71) (nI ((e + s)))) 1 (72) (nI 0)) 1 (110) (nI 0)) 1 (111) (nI (s))) 1 (130) (nI 0)) 1 (131) (nI 0)) 1 (132) (nI 0)) 1 (133) (nI 0)) 1 (134) (nI 0)) 1 (135) (nI 0)) 1 (70) (nI ((k + 1)))) 1 2)) (Eq.trans (upd2_nx (by omega)) (Eq.trans (upd2_nx (by omega)) (upd2_eq))) ?_
    refine aw_iast (j := ((6010 + (3 * (((k + 1) - 1) % 60))) + 2)) km_1 (vp_in_nI (by omega) (by decide)) (nI_clamp (by omega)) d_X_goesOff_503 ?_
    refine aw_aload_n rfl rfl d_X_goesOff_504 ?_
    refine as_callV (as := []) (d' := 1) (q := ("SinglesUpModel", zT9, 51)) mo_X_forgets lk_X_102 km_0 rfl rfl rfl ⟨by decide, by decide⟩ rfl rfl (by decide) d_X_goesOff_505 (sp_forgets (I := upd2 (upd2 (upd2 (upd2 (upd2 (upd2 (upd2 (upd2 (upd2 (upd2 (upd2 (upd2 (upd2 (upd2 (upd2 (upd2 (upd2 (upd2 (upd2 (upd2 (updA (updA (I) 9 (fun j => if j < 240 then nI 0 else (I) 9 j)) 12 (fun j => if j < 240 then nI 0 else (I) 12 j)) 0 30 (nI (s))) 0 31 (nI 0)) 0 32 (nI 0)) 0 33 (nI 0)) 0 34 (nI 0)) 1 (71) (nI ((e + s)))) 1 (72) (nI 0)) 1 (110) (nI 0)) 1 (111) (nI (s))) 1 (130) (nI 0)) 1 (131) (nI 0)) 1 (132) (nI 0)) 1 (133) (nI 0)) 1 (134) (nI 0)) 1 (135) (nI 0)) 1 (70) (nI ((k + 1)))) 1 (73) (((upd2 (upd2 (upd2 (upd2 (upd2 (upd2 (upd2 (upd2 (upd2 (upd2 (upd2 (upd2 (upd2 (upd2 (upd2 (upd2 (updA (updA (I) 9 (fun j => if j < 240 then nI 0 else (I) 9 j)) 12 (fun j => if j < 240 then nI 0 else (I) 12 j)) 0 30 (nI (s))) 0 31 (nI 0)) 0 32 (nI 0)) 0 33 (nI 0)) 0 34 (nI 0)) 1 (71) (nI ((e + s)))) 1 (72) (nI 0)) 1 (110) (nI 0)) 1 (111) (nI (s))) 1 (130) (nI 0)) 1 (131) (nI 0)) 1 (132) (nI 0)) 1 (133) (nI 0)) 1 (134) (nI 0)) 1 (135) (nI 0)) 1 (70) (nI ((k + 1)))) 1 73 + (upd2 (upd2 (upd2 (upd2 (upd2 (upd2 (upd2 (upd2 (upd2 (upd2 (upd2 (upd2 (upd2 (upd2 (upd2 (upd2 (updA (updA (I) 9 (fun j => if j < 240 then nI 0 else (I) 9 j)) 12 (fun j => if j < 240 then nI 0 else (I) 12 j)) 0 30 (nI (s))) 0 31 (nI 0)) 0 32 (nI 0)) 0 33 (nI 0)) 0 34 (nI 0)) 1 (71) (nI ((e + s)))) 1 (72) (nI 0)) 1 (110) (nI 0)) 1 (111) (nI (s))) 1 (130) (nI 0)) 1 (131) (nI 0)) 1 (132) (nI 0)) 1 (133) (nI 0)) 1 (134) (nI 0)) 1 (135) (nI 0)) 1 (70) (nI ((k + 1)))) 1 2))) 1 ((6010 + (3 * (((k + 1) - 1) % 60)))) (nI (s))) 1 (((6010 + (3 * (((k + 1) - 1) % 60))) + 1)) (nI 0)) 1 (((6010 + (3 * (((k + 1) - 1) % 60))) + 2)) (((upd2 (upd2 (upd2 (upd2 (upd2 (upd2 (upd2 (upd2 (upd2 (upd2 (upd2 (upd2 (upd2 (upd2 (upd2 (upd2 (updA (updA (I) 9 (fun j => if j < 240 then nI 0 else (I) 9 j)) 12 (fun j => if j < 240 then nI 0 else (I) 12 j)) 0 30 (nI (s))) 0 31 (nI 0)) 0 32 (nI 0)) 0 33 (nI 0)) 0 34 (nI 0)) 1 (71) (nI ((e + s)))) 1 (72) (nI 0)) 1 (110) (nI 0)) 1 (111) (nI (s))) 1 (130) (nI 0)) 1 (131) (nI 0)) 1 (132) (nI 0)) 1 (133) (nI 0)) 1 (134) (nI 0)) 1 (135) (nI 0)) 1 (70) (nI ((k + 1)))) 1 73 + (upd2 (upd2 (upd2 (upd2 (upd2 (upd2 (upd2 (upd2 (upd2 (upd2 (upd2 (upd2 (upd2 (upd2 (upd2 (upd2 (updA (updA (I) 9 (fun j => if j < 240 then nI 0 else (I) 9 j)) 12 (fun j => if j < 240 then nI 0 else (I) 12 j)) 0 30 (nI (s))) 0 31 (nI 0)) 0 32 (nI 0)) 0 33 (nI 0)) 0 34 (nI 0)) 1 (71) (nI ((e + s)))) 1 (72) (nI 0)) 1 (110) (nI 0)) 1 (111) (nI (s))) 1 (130) (nI 0)) 1 (131) (nI 0)) 1 (132) (nI 0)) 1 (133) (nI 0)) 1 (134) (nI 0)) 1 (135) (nI 0)) 1 (70) (nI ((k + 1)))) 1 2))) ?_)
    refine (show As l b 5 y_X_goesOff KM RM _ (upd2 (updA (upd2 (upd2 (upd2 (upd2 (upd2 (upd2 (upd2 (upd2 (upd2 (upd2 (upd2 (upd2 (upd2 (upd2 (upd2 (upd2 (upd2 (upd2 (upd2 (upd2 (updA (updA (I) 9 (fun j => if j < 240 then nI 0 else (I) 9 j)) 12 (fun j => if j < 240 then nI 0 else (I) 12 j)) 0 30 (nI (s))) 0 31 (nI 0)) 0 32 (nI 0)) 0 33 (nI 0)) 0 34 (nI 0)) 1 (71) (nI ((e + s)))) 1 (72) (nI 0)) 1 (110) (nI 0)) 1 (111) (nI (s))) 1 (130) (nI 0)) 1 (131) (nI 0)) 1 (132) (nI 0)) 1 (133) (nI 0)) 1 (134) (nI 0)) 1 (135) (nI 0)) 1 (70) (nI ((k + 1)))) 1 (73) (((upd2 (upd2 (upd2 (upd2 (upd2 (upd2 (upd2 (upd2 (upd2 (upd2 (upd2 (upd2 (upd2 (upd2 (upd2 (upd2 (updA (updA (I) 9 (fun j => if j < 240 then nI 0 else (I) 9 j)) 12 (fun j => if j < 240 then nI 0 else (I) 12 j)) 0 30 (nI (s))) 0 31 (nI 0)) 0 32 (nI 0)) 0 33 (nI 0)) 0 34 (nI 0)) 1 (71) (nI ((e + s)))) 1 (72) (nI 0)) 1 (110) (nI 0)) 1 (111) (nI (s))) 1 (130) (nI 0)) 1 (131) (nI 0)) 1 (132) (nI 0)) 1 (133) (nI 0)) 1 (134) (nI 0)) 1 (135) (nI 0)) 1 (70) (nI ((k + 1)))) 1 73 + (upd2 (upd2 (upd2 (upd2 (upd2 (upd2 (upd2 (upd2 (upd2 (upd2 (upd2 (upd2 (upd2 (upd2 (upd2 (upd2 (updA (updA (I) 9 (fun j => if j < 240 then nI 0 else (I) 9 j)) 12 (fun j => if j < 240 then nI 0 else (I) 12 j)) 0 30 (nI (s))) 0 31 (nI 0)) 0 32 (nI 0)) 0 33 (nI 0)) 0 34 (nI 0)) 1 (71) (nI ((e + s)))) 1 (72) (nI 0)) 1 (110) (nI 0)) 1 (111) (nI (s))) 1 (130) (nI 0)) 1 (131) (nI 0)) 1 (132) (nI 0)) 1 (133) (nI 0)) 1 (134) (nI 0)) 1 (135) (nI 0)) 1 (70) (nI ((k + 1)))) 1 2))) 1 ((6010 + (3 * (((k + 1) - 1) % 60)))) (nI (s))) 1 (((6010 + (3 * (((k + 1) - 1) % 60))) + 1)) (nI 0)) 1 (((6010 + (3 * (((k + 1) - 1) % 60))) + 2)) (((upd2 (upd2 (upd2 (upd2 (upd2 (upd2 (upd2 (upd2 (upd2 (upd2 (upd2 (upd2 (upd2 (upd2 (upd2 (upd2 (updA (updA (I) 9 (fun j => if j < 240 then nI 0 else (I) 9 j)) 12 (fun j => if j < 240 then nI 0 else (I) 12 j)) 0 30 (nI (s))) 0 31 (nI 0)) 0 32 (nI 0)) 0 33 (nI 0)) 0 34 (nI 0)) 1 (71) (nI ((e + s)))) 1 (72) (nI 0)) 1 (110) (nI 0)) 1 (111) (nI (s))) 1 (130) (nI 0)) 1 (131) (nI 0)) 1 (132) (nI 0)) 1 (133) (nI 0)) 1 (134) (nI 0)) 1 (135) (nI 0)) 1 (70) (nI ((k + 1)))) 1 73 + (upd2 (upd2 (upd2 (upd2 (upd2 (upd2 (upd2 (upd2 (upd2 (upd2 (upd2 (upd2 (upd2 (upd2 (upd2 (upd2 (updA (updA (I) 9 (fun j => if j < 240 then nI 0 else (I) 9 j)) 12 (fun j => if j < 240 then nI 0 else (I) 12 j)) 0 30 (nI (s))) 0 31 (nI 0)) 0 32 (nI 0)) 0 33 (nI 0)) 0 34 (nI 0)) 1 (71) (nI ((e + s)))) 1 (72) (nI 0)) 1 (110) (nI 0)) 1 (111) (nI (s))) 1 (130) (nI 0)) 1 (131) (nI 0)) 1 (132) (nI 0)) 1 (133) (nI 0)) 1 (134) (nI 0)) 1 (135) (nI 0)) 1 (70) (nI ((k + 1)))) 1 2))) 13 (fun j => if j < 240 then nI 0 else (upd2 (upd2 (upd2 (upd2 (upd2 (upd2 (upd2 (upd2 (upd2 (upd2 (upd2 (upd2 (upd2 (upd2 (upd2 (upd2 (upd2 (upd2 (upd2 (upd2 (updA (updA (I) 9 (fun j => if j < 240 then nI 0 else (I) 9 j)) 12 (fun j => if j < 240 then nI 0 else (I) 12 j)) 0 30 (nI (s))) 0 31 (nI 0)) 0 32 (nI 0)) 0 33 (nI 0)) 0 34 (nI 0)) 1 (71) (nI ((e + s)))) 1 (72) (nI 0)) 1 (110) (nI 0)) 1 (111) (nI (s))) 1 (130) (nI 0)) 1 (131) (nI 0)) 1 (132) (nI 0)) 1 (133) (nI 0)) 1 (134) (nI 0)) 1 (135) (nI 0)) 1 (70) (nI ((k + 1)))) 1 (73) (((upd2 (upd2 (upd2 (upd2 (upd2 (upd2 (upd2 (upd2 (upd2 (upd2 (upd2 (upd2 (upd2 (upd2 (upd2 (upd2 (updA (updA (I) 9 (fun j => if j < 240 then nI 0 else (I) 9 j)) 12 (fun j => if j < 240 then nI 0 else (I) 12 j)) 0 30 (nI (s))) 0 31 (nI 0)) 0 32 (nI 0)) 0 33 (nI 0)) 0 34 (nI 0)) 1 (71) (nI ((e + s)))) 1 (72) (nI 0)) 1 (110) (nI 0)) 1 (111) (nI (s))) 1 (130) (nI 0)) 1 (131) (nI 0)) 1 (132) (nI 0)) 1 (133) (nI 0)) 1 (134) (nI 0)) 1 (135) (nI 0)) 1 (70) (nI ((k + 1)))) 1 73 + (upd2 (upd2 (upd2 (upd2 (upd2 (upd2 (upd2 (upd2 (upd2 (upd2 (upd2 (upd2 (upd2 (upd2 (upd2 (upd2 (updA (updA (I) 9 (fun j => if j < 240 then nI 0 else (I) 9 j)) 12 (fun j => if j < 240 then nI 0 else (I) 12 j)) 0 30 (nI (s))) 0 31 (nI 0)) 0 32 (nI 0)) 0 33 (nI 0)) 0 34 (nI 0)) 1 (71) (nI ((e + s)))) 1 (72) (nI 0)) 1 (110) (nI 0)) 1 (111) (nI (s))) 1 (130) (nI 0)) 1 (131) (nI 0)) 1 (132) (nI 0)) 1 (133) (nI 0)) 1 (134) (nI 0)) 1 (135) (nI 0)) 1 (70) (nI ((k + 1)))) 1 2))) 1 ((6010 + (3 * (((k + 1) - 1) % 60)))) (nI (s))) 1 (((6010 + (3 * (((k + 1) - 1) % 60))) + 1)) (nI 0)) 1 (((6010 + (3 * (((k + 1) - 1) % 60))) + 2)) (((upd2 (upd2 (upd2 (upd2 (upd2 (upd2 (upd2 (upd2 (upd2 (upd2 (upd2 (upd2 (upd2 (upd2 (upd2 (upd2 (updA (updA (I) 9 (fun j => if j < 240 then nI 0 else (I) 9 j)) 12 (fun j => if j < 240 then nI 0 else (I) 12 j)) 0 30 (nI (s))) 0 31 (nI 0)) 0 32 (nI 0)) 0 33 (nI 0)) 0 34 (nI 0)) 1 (71) (nI ((e + s)))) 1 (72) (nI 0)) 1 (110) (nI 0)) 1 (111) (nI (s))) 1 (130) (nI 0)) 1 (131) (nI 0)) 1 (132) (nI 0)) 1 (133) (nI 0)) 1 (134) (nI 0)) 1 (135) (nI 0)) 1 (70) (nI ((k + 1)))) 1 73 + (upd2 (upd2 (upd2 (upd2 (upd2 (upd2 (upd2 (upd2 (upd2 (upd2 (upd2 (upd2 (upd2 (upd2 (upd2 (upd2 (updA (updA (I) 9 (fun j => if j < 240 then nI 0 else (I) 9 j)) 12 (fun j => if j < 240 then nI 0 else (I) 12 j)) 0 30 (nI (s))) 0 31 (nI 0)) 0 32 (nI 0)) 0 33 (nI 0)) 0 34 (nI 0)) 1 (71) (nI ((e + s)))) 1 (72) (nI 0)) 1 (110) (nI 0)) 1 (111) (nI (s))) 1 (130) (nI 0)) 1 (131) (nI 0)) 1 (132) (nI 0)) 1 (133) (nI 0)) 1 (134) (nI 0)) 1 (135) (nI 0)) 1 (70) (nI ((k + 1)))) 1 2))) 13 j)) 0 35 (nI 0)) 508 [.ref 0, .int (nI 0), .int (nI ((6010 + (3 * (((k + 1) - 1) % 60))))), uu, uu, uu, uu] [] from ?_)
    refine aw_iload_n rfl rfl d_X_goesOff_508 ?_
    refine as_reti rfl d_X_goesOff_509 ?_
    refine (show As l b 6 y_X_chair KM RM K2 (upd2 (updA (upd2 (upd2 (upd2 (upd2 (upd2 (upd2 (upd2 (upd2 (upd2 (upd2 (upd2 (upd2 (upd2 (upd2 (upd2 (upd2 (upd2 (upd2 (upd2 (upd2 (updA (updA (I) 9 (fun j => if j < 240 then nI 0 else (I) 9 j)) 12 (fun j => if j < 240 then nI 0 else (I) 12 j)) 0 30 (nI (s))) 0 31 (nI 0)) 0 32 (nI 0)) 0 33 (nI 0)) 0 34 (nI 0)) 1 (71) (nI ((e + s)))) 1 (72) (nI 0)) 1 (110) (nI 0)) 1 (111) (nI (s))) 1 (130) (nI 0)) 1 (131) (nI 0)) 1 (132) (nI 0)) 1 (133) (nI 0)) 1 (134) (nI 0)) 1 (135) (nI 0)) 1 (70) (nI ((k + 1)))) 1 (73) (((upd2 (upd2 (upd2 (upd2 (upd2 (upd2 (upd2 (upd2 (upd2 (upd2 (upd2 (upd2 (upd2 (upd2 (upd2 (upd2 (updA (updA (I) 9 (fun j => if j < 240 then nI 0 else (I) 9 j)) 12 (fun j => if j < 240 then nI 0 else (I) 12 j)) 0 30 (nI (s))) 0 31 (nI 0)) 0 32 (nI 0)) 0 33 (nI 0)) 0 34 (nI 0)) 1 (71) (nI ((e + s)))) 1 (72) (nI 0)) 1 (110) (nI 0)) 1 (111) (nI (s))) 1 (130) (nI 0)) 1 (131) (nI 0)) 1 (132) (nI 0)) 1 (133) (nI 0)) 1 (134) (nI 0)) 1 (135) (nI 0)) 1 (70) (nI ((k + 1)))) 1 73 + (upd2 (upd2 (upd2 (upd2 (upd2 (upd2 (upd2 (upd2 (upd2 (upd2 (upd2 (upd2 (upd2 (upd2 (upd2 (upd2 (updA (updA (I) 9 (fun j => if j < 240 then nI 0 else (I) 9 j)) 12 (fun j => if j < 240 then nI 0 else (I) 12 j)) 0 30 (nI (s))) 0 31 (nI 0)) 0 32 (nI 0)) 0 33 (nI 0)) 0 34 (nI 0)) 1 (71) (nI ((e + s)))) 1 (72) (nI 0)) 1 (110) (nI 0)) 1 (111) (nI (s))) 1 (130) (nI 0)) 1 (131) (nI 0)) 1 (132) (nI 0)) 1 (133) (nI 0)) 1 (134) (nI 0)) 1 (135) (nI 0)) 1 (70) (nI ((k + 1)))) 1 2))) 1 ((6010 + (3 * (((k + 1) - 1) % 60)))) (nI (s))) 1 (((6010 + (3 * (((k + 1) - 1) % 60))) + 1)) (nI 0)) 1 (((6010 + (3 * (((k + 1) - 1) % 60))) + 2)) (((upd2 (upd2 (upd2 (upd2 (upd2 (upd2 (upd2 (upd2 (upd2 (upd2 (upd2 (upd2 (upd2 (upd2 (upd2 (upd2 (updA (updA (I) 9 (fun j => if j < 240 then nI 0 else (I) 9 j)) 12 (fun j => if j < 240 then nI 0 else (I) 12 j)) 0 30 (nI (s))) 0 31 (nI 0)) 0 32 (nI 0)) 0 33 (nI 0)) 0 34 (nI 0)) 1 (71) (nI ((e + s)))) 1 (72) (nI 0)) 1 (110) (nI 0)) 1 (111) (nI (s))) 1 (130) (nI 0)) 1 (131) (nI 0)) 1 (132) (nI 0)) 1 (133) (nI 0)) 1 (134) (nI 0)) 1 (135) (nI 0)) 1 (70) (nI ((k + 1)))) 1 73 + (upd2 (upd2 (upd2 (upd2 (upd2 (upd2 (upd2 (upd2 (upd2 (upd2 (upd2 (upd2 (upd2 (upd2 (upd2 (upd2 (updA (updA (I) 9 (fun j => if j < 240 then nI 0 else (I) 9 j)) 12 (fun j => if j < 240 then nI 0 else (I) 12 j)) 0 30 (nI (s))) 0 31 (nI 0)) 0 32 (nI 0)) 0 33 (nI 0)) 0 34 (nI 0)) 1 (71) (nI ((e + s)))) 1 (72) (nI 0)) 1 (110) (nI 0)) 1 (111) (nI (s))) 1 (130) (nI 0)) 1 (131) (nI 0)) 1 (132) (nI 0)) 1 (133) (nI 0)) 1 (134) (nI 0)) 1 (135) (nI 0)) 1 (70) (nI ((k + 1)))) 1 2))) 13 (fun j => if j < 240 then nI 0 else (upd2 (upd2 (upd2 (upd2 (upd2 (upd2 (upd2 (upd2 (upd2 (upd2 (upd2 (upd2 (upd2 (upd2 (upd2 (upd2 (upd2 (upd2 (upd2 (upd2 (updA (updA (I) 9 (fun j => if j < 240 then nI 0 else (I) 9 j)) 12 (fun j => if j < 240 then nI 0 else (I) 12 j)) 0 30 (nI (s))) 0 31 (nI 0)) 0 32 (nI 0)) 0 33 (nI 0)) 0 34 (nI 0)) 1 (71) (nI ((e + s)))) 1 (72) (nI 0)) 1 (110) (nI 0)) 1 (111) (nI (s))) 1 (130) (nI 0)) 1 (131) (nI 0)) 1 (132) (nI 0)) 1 (133) (nI 0)) 1 (134) (nI 0)) 1 (135) (nI 0)) 1 (70) (nI ((k + 1)))) 1 (73) (((upd2 (upd2 (upd2 (upd2 (upd2 (upd2 (upd2 (upd2 (upd2 (upd2 (upd2 (upd2 (upd2 (upd2 (upd2 (upd2 (updA (updA (I) 9 (fun j => if j < 240 then nI 0 else (I) 9 j)) 12 (fun j => if j < 240 then nI 0 else (I) 12 j)) 0 30 (nI (s))) 0 31 (nI 0)) 0 32 (nI 0)) 0 33 (nI 0)) 0 34 (nI 0)) 1 (71) (nI ((e + s)))) 1 (72) (nI 0)) 1 (110) (nI 0)) 1 (111) (nI (s))) 1 (130) (nI 0)) 1 (131) (nI 0)) 1 (132) (nI 0)) 1 (133) (nI 0)) 1 (134) (nI 0)) 1 (135) (nI 0)) 1 (70) (nI ((k + 1)))) 1 73 + (upd2 (upd2 (upd2 (upd2 (upd2 (upd2 (upd2 (upd2 (upd2 (upd2 (upd2 (upd2 (upd2 (upd2 (upd2 (upd2 (updA (updA (I) 9 (fun j => if j < 240 then nI 0 else (I) 9 j)) 12 (fun j => if j < 240 then nI 0 else (I) 12 j)) 0 30 (nI (s))) 0 31 (nI 0)) 0 32 (nI 0)) 0 33 (nI 0)) 0 34 (nI 0)) 1 (71) (nI ((e + s)))) 1 (72) (nI 0)) 1 (110) (nI 0)) 1 (111) (nI (s))) 1 (130) (nI 0)) 1 (131) (nI 0)) 1 (132) (nI 0)) 1 (133) (nI 0)) 1 (134) (nI 0)) 1 (135) (nI 0)) 1 (70) (nI ((k + 1)))) 1 2))) 1 ((6010 + (3 * (((k + 1) - 1) % 60)))) (nI (s))) 1 (((6010 + (3 * (((k + 1) - 1) % 60))) + 1)) (nI 0)) 1 (((6010 + (3 * (((k + 1) - 1) % 60))) + 2)) (((upd2 (upd2 (upd2 (upd2 (upd2 (upd2 (upd2 (upd2 (upd2 (upd2 (upd2 (upd2 (upd2 (upd2 (upd2 (upd2 (updA (updA (I) 9 (fun j => if j < 240 then nI 0 else (I) 9 j)) 12 (fun j => if j < 240 then nI 0 else (I) 12 j)) 0 30 (nI (s))) 0 31 (nI 0)) 0 32 (nI 0)) 0 33 (nI 0)) 0 34 (nI 0)) 1 (71) (nI ((e + s)))) 1 (72) (nI 0)) 1 (110) (nI 0)) 1 (111) (nI (s))) 1 (130) (nI 0)) 1 (131) (nI 0)) 1 (132) (nI 0)) 1 (133) (nI 0)) 1 (134) (nI 0)) 1 (135) (nI 0)) 1 (70) (nI ((k + 1)))) 1 73 + (upd2 (upd2 (upd2 (upd2 (upd2 (upd2 (upd2 (upd2 (upd2 (upd2 (upd2 (upd2 (upd2 (upd2 (upd2 (upd2 (updA (updA (I) 9 (fun j => if j < 240 then nI 0 else (I) 9 j)) 12 (fun j => if j < 240 then nI 0 else (I) 12 j)) 0 30 (nI (s))) 0 31 (nI 0)) 0 32 (nI 0)) 0 33 (nI 0)) 0 34 (nI 0)) 1 (71) (nI ((e + s)))) 1 (72) (nI 0)) 1 (110) (nI 0)) 1 (111) (nI (s))) 1 (130) (nI 0)) 1 (131) (nI 0)) 1 (132) (nI 0)) 1 (133) (nI 0)) 1 (134) (nI 0)) 1 (135) (nI 0)) 1 (70) (nI ((k + 1)))) 1 2))) 13 j)) 0 35 (nI 0)) 8 [.ref 0] [.int (nI 0)] from ?_)
    exact as_reti rfl d_X_chair_8 (hK _ (show GM (upd2 (updA (upd2 (upd2 (upd2 (upd2 (upd2 (upd2 (upd2 (upd2 (upd2 (upd2 (upd2 (upd2 (upd2 (upd2 (upd2 (upd2 (upd2 (upd2 (upd2 (upd2 (updA (updA (I) 9 (fun j => if j < 240 then nI 0 else (I) 9 j)) 12 (fun j => if j < 240 then nI 0 else (I) 12 j)) 0 30 (nI (s))) 0 31 (nI 0)) 0 32 (nI 0)) 0 33 (nI 0)) 0 34 (nI 0)) 1 (71) (nI ((e + s)))) 1 (72) (nI 0)) 1 (110) (nI 0)) 1 (111) (nI (s))) 1 (130) (nI 0)) 1 (131) (nI 0)) 1 (132) (nI 0)) 1 (133) (nI 0)) 1 (134) (nI 0)) 1 (135) (nI 0)) 1 (70) (nI ((k + 1)))) 1 (73) (((upd2 (upd2 (upd2 (upd2 (upd2 (upd2 (upd2 (upd2 (upd2 (upd2 (upd2 (upd2 (upd2 (upd2 (upd2 (upd2 (updA (updA (I) 9 (fun j => if j < 240 then nI 0 else (I) 9 j)) 12 (fun j => if j < 240 then nI 0 else (I) 12 j)) 0 30 (nI (s))) 0 31 (nI 0)) 0 32 (nI 0)) 0 33 (nI 0)) 0 34 (nI 0)) 1 (71) (nI ((e + s)))) 1 (72) (nI 0)) 1 (110) (nI 0)) 1 (111) (nI (s))) 1 (130) (nI 0)) 1 (131) (nI 0)) 1 (132) (nI 0)) 1 (133) (nI 0)) 1 (134) (nI 0)) 1 (135) (nI 0)) 1 (70) (nI ((k + 1)))) 1 73 + (upd2 (upd2 (upd2 (upd2 (upd2 (upd2 (upd2 (upd2 (upd2 (upd2 (upd2 (upd2 (upd2 (upd2 (upd2 (upd2 (updA (updA (I) 9 (fun j => if j < 240 then nI 0 else (I) 9 j)) 12 (fun j => if j < 240 then nI 0 else (I) 12 j)) 0 30 (nI (s))) 0 31 (nI 0)) 0 32 (nI 0)) 0 33 (nI 0)) 0 34 (nI 0)) 1 (71) (nI ((e + s)))) 1 (72) (nI 0)) 1 (110) (nI 0)) 1 (111) (nI (s))) 1 (130) (nI 0)) 1 (131) (nI 0)) 1 (132) (nI 0)) 1 (133) (nI 0)) 1 (134) (nI 0)) 1 (135) (nI 0)) 1 (70) (nI ((k + 1)))) 1 2))) 1 ((6010 + (3 * (((k + 1) - 1) % 60)))) (nI (s))) 1 (((6010 + (3 * (((k + 1) - 1) % 60))) + 1)) (nI 0)) 1 (((6010 + (3 * (((k + 1) - 1) % 60))) + 2)) (((upd2 (upd2 (upd2 (upd2 (upd2 (upd2 (upd2 (upd2 (upd2 (upd2 (upd2 (upd2 (upd2 (upd2 (upd2 (upd2 (updA (updA (I) 9 (fun j => if j < 240 then nI 0 else (I) 9 j)) 12 (fun j => if j < 240 then nI 0 else (I) 12 j)) 0 30 (nI (s))) 0 31 (nI 0)) 0 32 (nI 0)) 0 33 (nI 0)) 0 34 (nI 0)) 1 (71) (nI ((e + s)))) 1 (72) (nI 0)) 1 (110) (nI 0)) 1 (111) (nI (s))) 1 (130) (nI 0)) 1 (131) (nI 0)) 1 (132) (nI 0)) 1 (133) (nI 0)) 1 (134) (nI 0)) 1 (135) (nI 0)) 1 (70) (nI ((k + 1)))) 1 73 + (upd2 (upd2 (upd2 (upd2 (upd2 (upd2 (upd2 (upd2 (upd2 (upd2 (upd2 (upd2 (upd2 (upd2 (upd2 (upd2 (updA (updA (I) 9 (fun j => if j < 240 then nI 0 else (I) 9 j)) 12 (fun j => if j < 240 then nI 0 else (I) 12 j)) 0 30 (nI (s))) 0 31 (nI 0)) 0 32 (nI 0)) 0 33 (nI 0)) 0 34 (nI 0)) 1 (71) (nI ((e + s)))) 1 (72) (nI 0)) 1 (110) (nI 0)) 1 (111) (nI (s))) 1 (130) (nI 0)) 1 (131) (nI 0)) 1 (132) (nI 0)) 1 (133) (nI 0)) 1 (134) (nI 0)) 1 (135) (nI 0)) 1 (70) (nI ((k + 1)))) 1 2))) 13 (fun j => if j < 240 then nI 0 else (upd2 (upd2 (upd2 (upd2 (upd2 (upd2 (upd2 (upd2 (upd2 (upd2 (upd2 (upd2 (upd2 (upd2 (upd2 (upd2 (upd2 (upd2 (upd2 (upd2 (updA (updA (I) 9 (fun j => if j < 240 then nI 0 else (I) 9 j)) 12 (fun j => if j < 240 then nI 0 else (I) 12 j)) 0 30 (nI (s))) 0 31 (nI 0)) 0 32 (nI 0)) 0 33 (nI 0)) 0 34 (nI 0)) 1 (71) (nI ((e + s)))) 1 (72) (nI 0)) 1 (110) (nI 0)) 1 (111) (nI (s))) 1 (130) (nI 0)) 1 (131) (nI 0)) 1 (132) (nI 0)) 1 (133) (nI 0)) 1 (134) (nI 0)) 1 (135) (nI 0)) 1 (70) (nI ((k + 1)))) 1 (73) (((upd2 (upd2 (upd2 (upd2 (upd2 (upd2 (upd2 (upd2 (upd2 (upd2 (upd2 (upd2 (upd2 (upd2 (upd2 (upd2 (updA (updA (I) 9 (fun j => if j < 240 then nI 0 else (I) 9 j)) 12 (fun j => if j < 240 then nI 0 else (I) 12 j)) 0 30 (nI (s))) 0 31 (nI 0)) 0 32 (nI 0)) 0 33 (nI 0)) 0 34 (nI 0)) 1 (71) (nI ((e + s)))) 1 (72) (nI 0)) 1 (110) (nI 0)) 1 (111) (nI (s))) 1 (130) (nI 0)) 1 (131) (nI 0)) 1 (132) (nI 0)) 1 (133) (nI 0)) 1 (134) (nI 0)) 1 (135) (nI 0)) 1 (70) (nI ((k + 1)))) 1 73 + (upd2 (upd2 (upd2 (upd2 (upd2 (upd2 (upd2 (upd2 (upd2 (upd2 (upd2 (upd2 (upd2 (upd2 (upd2 (upd2 (updA (updA (I) 9 (fun j => if j < 240 then nI 0 else (I) 9 j)) 12 (fun j => if j < 240 then nI 0 else (I) 12 j)) 0 30 (nI (s))) 0 31 (nI 0)) 0 32 (nI 0)) 0 33 (nI 0)) 0 34 (nI 0)) 1 (71) (nI ((e + s)))) 1 (72) (nI 0)) 1 (110) (nI 0)) 1 (111) (nI (s))) 1 (130) (nI 0)) 1 (131) (nI 0)) 1 (132) (nI 0)) 1 (133) (nI 0)) 1 (134) (nI 0)) 1 (135) (nI 0)) 1 (70) (nI ((k + 1)))) 1 2))) 1 ((6010 + (3 * (((k + 1) - 1) % 60)))) (nI (s))) 1 (((6010 + (3 * (((k + 1) - 1) % 60))) + 1)) (nI 0)) 1 (((6010 + (3 * (((k + 1) - 1) % 60))) + 2)) (((upd2 (upd2 (upd2 (upd2 (upd2 (upd2 (upd2 (upd2 (upd2 (upd2 (upd2 (upd2 (upd2 (upd2 (upd2 (upd2 (updA (updA (I) 9 (fun j => if j < 240 then nI 0 else (I) 9 j)) 12 (fun j => if j < 240 then nI 0 else (I) 12 j)) 0 30 (nI (s))) 0 31 (nI 0)) 0 32 (nI 0)) 0 33 (nI 0)) 0 34 (nI 0)) 1 (71) (nI ((e + s)))) 1 (72) (nI 0)) 1 (110) (nI 0)) 1 (111) (nI (s))) 1 (130) (nI 0)) 1 (131) (nI 0)) 1 (132) (nI 0)) 1 (133) (nI 0)) 1 (134) (nI 0)) 1 (135) (nI 0)) 1 (70) (nI ((k + 1)))) 1 73 + (upd2 (upd2 (upd2 (upd2 (upd2 (upd2 (upd2 (upd2 (upd2 (upd2 (upd2 (upd2 (upd2 (upd2 (upd2 (upd2 (updA (updA (I) 9 (fun j => if j < 240 then nI 0 else (I) 9 j)) 12 (fun j => if j < 240 then nI 0 else (I) 12 j)) 0 30 (nI (s))) 0 31 (nI 0)) 0 32 (nI 0)) 0 33 (nI 0)) 0 34 (nI 0)) 1 (71) (nI ((e + s)))) 1 (72) (nI 0)) 1 (110) (nI 0)) 1 (111) (nI (s))) 1 (130) (nI 0)) 1 (131) (nI 0)) 1 (132) (nI 0)) 1 (133) (nI 0)) 1 (134) (nI 0)) 1 (135) (nI 0)) 1 (70) (nI ((k + 1)))) 1 2))) 13 j)) 0 35 (nI 0)) (s) ((e + s)) ((k + 1)) from ⟨fun j hj => (Eq.trans (congrFun (upd2_ne (by decide)) ((26 + j))) (Eq.trans (congrFun (updA_ne (by decide)) ((26 + j))) (Eq.trans (upd2_nx (by omega)) (Eq.trans (upd2_nx (by omega)) (Eq.trans (upd2_nx (by omega)) (Eq.trans (upd2_nx (by omega)) (Eq.trans (upd2_nx (by omega)) (Eq.trans (upd2_nx (by omega)) (Eq.trans (upd2_nx (by omega)) (Eq.trans (upd2_nx (by omega)) (Eq.trans (upd2_nx (by omega)) (Eq.trans (upd2_nx (by omega)) (Eq.trans (upd2_nx (by omega)) (Eq.trans (upd2_nx (by omega)) (Eq.trans (upd2_nx (by omega)) (Eq.trans (upd2_nx (by omega)) (Eq.trans (upd2_nx (by omega)) (Eq.trans (congrFun (upd2_ne (by decide)) ((26 + j))) (Eq.trans (congrFun (upd2_ne (by decide)) ((26 + j))) (Eq.trans (congrFun (upd2_ne (by decide)) ((26 + j))) (Eq.trans (congrFun (upd2_ne (by decide)) ((26 + j))) (Eq.trans (congrFun (upd2_ne (by decide)) ((26 + j))) (Eq.trans (congrFun (updA_ne (by decide)) ((26 + j))) (Eq.trans (congrFun (updA_ne (by decide)) ((26 + j))) (g0 j (by omega)))))))))))))))))))))))))), m6 (P := fun j => (upd2 (updA (upd2 (upd2 (upd2 (upd2 (upd2 (upd2 (upd2 (upd2 (upd2 (upd2 (upd2 (upd2 (upd2 (upd2 (upd2 (upd2 (upd2 (upd2 (upd2 (upd2 (updA (updA (I) 9 (fun j => if j < 240 then nI 0 else (I) 9 j)) 12 (fun j => if j < 240 then nI 0 else (I) 12 j)) 0 30 (nI (s))) 0 31 (nI 0)) 0 32 (nI 0)) 0 33 (nI 0)) 0 34 (nI 0)) 1 (71) (nI ((e + s)))) 1 (72) (nI 0)) 1 (110) (nI 0)) 1 (111) (nI (s))) 1 (130) (nI 0)) 1 (131) (nI 0)) 1 (132) (nI 0)) 1 (133) (nI 0)) 1 (134) (nI 0)) 1 (135) (nI 0)) 1 (70) (nI ((k + 1)))) 1 (73) (((upd2 (upd2 (upd2 (upd2 (upd2 (upd2 (upd2 (upd2 (upd2 (upd2 (upd2 (upd2 (upd2 (upd2 (upd2 (upd2 (updA (updA (I) 9 (fun j => if j < 240 then nI 0 else (I) 9 j)) 12 (fun j => if j < 240 then nI 0 else (I) 12 j)) 0 30 (nI (s))) 0 31 (nI 0)) 0 32 (nI 0)) 0 33 (nI 0)) 0 34 (nI 0)) 1 (71) (nI ((e + s)))) 1 (72) (nI 0)) 1 (110) (nI 0)) 1 (111) (nI (s))) 1 (130) (nI 0)) 1 (131) (nI 0)) 1 (132) (nI 0)) 1 (133) (nI 0)) 1 (134) (nI 0)) 1 (135) (nI 0)) 1 (70) (nI ((k + 1)))) 1 73 + (upd2 (upd2 (upd2 (upd2 (upd2 (upd2 (upd2 (upd2 (upd2 (upd2 (upd2 (upd2 (upd2 (upd2 (upd2 (upd2 (updA (updA (I) 9 (fun j => if j < 240 then nI 0 else (I) 9 j)) 12 (fun j => if j < 240 then nI 0 else (I) 12 j)) 0 30 (nI (s))) 0 31 (nI 0)) 0 32 (nI 0)) 0 33 (nI 0)) 0 34 (nI 0)) 1 (71) (nI ((e + s)))) 1 (72) (nI 0)) 1 (110) (nI 0)) 1 (111) (nI (s))) 1 (130) (nI 0)) 1 (131) (nI 0)) 1 (132) (nI 0)) 1 (133) (nI 0)) 1 (134) (nI 0)) 1 (135) (nI 0)) 1 (70) (nI ((k + 1)))) 1 2))) 1 ((6010 + (3 * (((k + 1) - 1) % 60)))) (nI (s))) 1 (((6010 + (3 * (((k + 1) - 1) % 60))) + 1)) (nI 0)) 1 (((6010 + (3 * (((k + 1) - 1) % 60))) + 2)) (((upd2 (upd2 (upd2 (upd2 (upd2 (upd2 (upd2 (upd2 (upd2 (upd2 (upd2 (upd2 (upd2 (upd2 (upd2 (upd2 (updA (updA (I) 9 (fun j => if j < 240 then nI 0 else (I) 9 j)) 12 (fun j => if j < 240 then nI 0 else (I) 12 j)) 0 30 (nI (s))) 0 31 (nI 0)) 0 32 (nI 0)) 0 33 (nI 0)) 0 34 (nI 0)) 1 (71) (nI ((e + s)))) 1 (72) (nI 0)) 1 (110) (nI 0)) 1 (111) (nI (s))) 1 (130) (nI 0)) 1 (131) (nI 0)) 1 (132) (nI 0)) 1 (133) (nI 0)) 1 (134) (nI 0)) 1 (135) (nI 0)) 1 (70) (nI ((k + 1)))) 1 73 + (upd2 (upd2 (upd2 (upd2 (upd2 (upd2 (upd2 (upd2 (upd2 (upd2 (upd2 (upd2 (upd2 (upd2 (upd2 (upd2 (updA (updA (I) 9 (fun j => if j < 240 then nI 0 else (I) 9 j)) 12 (fun j => if j < 240 then nI 0 else (I) 12 j)) 0 30 (nI (s))) 0 31 (nI 0)) 0 32 (nI 0)) 0 33 (nI 0)) 0 34 (nI 0)) 1 (71) (nI ((e + s)))) 1 (72) (nI 0)) 1 (110) (nI 0)) 1 (111) (nI (s))) 1 (130) (nI 0)) 1 (131) (nI 0)) 1 (132) (nI 0)) 1 (133) (nI 0)) 1 (134) (nI 0)) 1 (135) (nI 0)) 1 (70) (nI ((k + 1)))) 1 2))) 13 (fun j => if j < 240 then nI 0 else (upd2 (upd2 (upd2 (upd2 (upd2 (upd2 (upd2 (upd2 (upd2 (upd2 (upd2 (upd2 (upd2 (upd2 (upd2 (upd2 (upd2 (upd2 (upd2 (upd2 (updA (updA (I) 9 (fun j => if j < 240 then nI 0 else (I) 9 j)) 12 (fun j => if j < 240 then nI 0 else (I) 12 j)) 0 30 (nI (s))) 0 31 (nI 0)) 0 32 (nI 0)) 0 33 (nI 0)) 0 34 (nI 0)) 1 (71) (nI ((e + s)))) 1 (72) (nI 0)) 1 (110) (nI 0)) 1 (111) (nI (s))) 1 (130) (nI 0)) 1 (131) (nI 0)) 1 (132) (nI 0)) 1 (133) (nI 0)) 1 (134) (nI 0)) 1 (135) (nI 0)) 1 (70) (nI ((k + 1)))) 1 (73) (((upd2 (upd2 (upd2 (upd2 (upd2 (upd2 (upd2 (upd2 (upd2 (upd2 (upd2 (upd2 (upd2 (upd2 (upd2 (upd2 (updA (updA (I) 9 (fun j => if j < 240 then nI 0 else (I) 9 j)) 12 (fun j => if j < 240 then nI 0 else (I) 12 j)) 0 30 (nI (s))) 0 31 (nI 0)) 0 32 (nI 0)) 0 33 (nI 0)) 0 34 (nI 0)) 1 (71) (nI ((e + s)))) 1 (72) (nI 0)) 1 (110) (nI 0)) 1 (111) (nI (s))) 1 (130) (nI 0)) 1 (131) (nI 0)) 1 (132) (nI 0)) 1 (133) (nI 0)) 1 (134) (nI 0)) 1 (135) (nI 0)) 1 (70) (nI ((k + 1)))) 1 73 + (upd2 (upd2 (upd2 (upd2 (upd2 (upd2 (upd2 (upd2 (upd2 (upd2 (upd2 (upd2 (upd2 (upd2 (upd2 (upd2 (updA (updA (I) 9 (fun j => if j < 240 then nI 0 else (I) 9 j)) 12 (fun j => if j < 240 then nI 0 else (I) 12 j)) 0 30 (nI (s))) 0 31 (nI 0)) 0 32 (nI 0)) 0 33 (nI 0)) 0 34 (nI 0)) 1 (71) (nI ((e + s)))) 1 (72) (nI 0)) 1 (110) (nI 0)) 1 (111) (nI (s))) 1 (130) (nI 0)) 1 (131) (nI 0)) 1 (132) (nI 0)) 1 (133) (nI 0)) 1 (134) (nI 0)) 1 (135) (nI 0)) 1 (70) (nI ((k + 1)))) 1 2))) 1 ((6010 + (3 * (((k + 1) - 1) % 60)))) (nI (s))) 1 (((6010 + (3 * (((k + 1) - 1) % 60))) + 1)) (nI 0)) 1 (((6010 + (3 * (((k + 1) - 1) % 60))) + 2)) (((upd2 (upd2 (upd2 (upd2 (upd2 (upd2 (upd2 (upd2 (upd2 (upd2 (upd2 (upd2 (upd2 (upd2 (upd2 (upd2 (updA (updA (I) 9 (fun j => if j < 240 then nI 0 else (I) 9 j)) 12 (fun j => if j < 240 then nI 0 else (I) 12 j)) 0 30 (nI (s))) 0 31 (nI 0)) 0 32 (nI 0)) 0 33 (nI 0)) 0 34 (nI 0)) 1 (71) (nI ((e + s)))) 1 (72) (nI 0)) 1 (110) (nI 0)) 1 (111) (nI (s))) 1 (130) (nI 0)) 1 (131) (nI 0)) 1 (132) (nI 0)) 1 (133) (nI 0)) 1 (134) (nI 0)) 1 (135) (nI 0)) 1 (70) (nI ((k + 1)))) 1 73 + (upd2 (upd2 (upd2 (upd2 (upd2 (upd2 (upd2 (upd2 (upd2 (upd2 (upd2 (upd2 (upd2 (upd2 (upd2 (upd2 (updA (updA (I) 9 (fun j => if j < 240 then nI 0 else (I) 9 j)) 12 (fun j => if j < 240 then nI 0 else (I) 12 j)) 0 30 (nI (s))) 0 31 (nI 0)) 0 32 (nI 0)) 0 33 (nI 0)) 0 34 (nI 0)) 1 (71) (nI ((e + s)))) 1 (72) (nI 0)) 1 (110) (nI 0)) 1 (111) (nI (s))) 1 (130) (nI 0)) 1 (131) (nI 0)) 1 (132) (nI 0)) 1 (133) (nI 0)) 1 (134) (nI 0)) 1 (135) (nI 0)) 1 (70) (nI ((k + 1)))) 1 2))) 13 j)) 0 35 (nI 0)) 1 (130 + j) = nI 0) (Eq.trans (congrFun (upd2_ne (by decide)) (130)) (Eq.trans (congrFun (updA_ne (by decide)) (130)) (Eq.trans (upd2_nx (by omega)) (Eq.trans (upd2_nx (by omega)) (Eq.trans (upd2_nx (by omega)) (Eq.trans (upd2_nx (by omega)) (Eq.trans (upd2_nx (by omega)) (Eq.trans (upd2_nx (by omega)) (Eq.trans (upd2_nx (by omega)) (Eq.trans (upd2_nx (by omega)) (Eq.trans (upd2_nx (by omega)) (Eq.trans (upd2_nx (by omega)) (upd2_eq))))))))))))) (Eq.trans (congrFun (upd2_ne (by decide)) (131)) (Eq.trans (congrFun (updA_ne (by decide)) (131)) (Eq.trans (upd2_nx (by omega)) (Eq.trans (upd2_nx (by omega)) (Eq.trans (upd2_nx (by omega)) (Eq.trans (upd2_nx (by omega)) (Eq.trans (upd2_nx (by omega)) (Eq.trans (upd2_nx (by omega)) (Eq.trans (upd2_nx (by omega)) (Eq.trans (upd2_nx (by omega)) (Eq.trans (upd2_nx (by omega)) (upd2_eq)))))))))))) (Eq.trans (congrFun (upd2_ne (by decide)) (132)) (Eq.trans (congrFun (updA_ne (by decide)) (132)) (Eq.trans (upd2_nx (by omega)) (Eq.trans (upd2_nx (by omega)) (Eq.trans (upd2_nx (by omega)) (Eq.trans (upd2_nx (by omega)) (Eq.trans (upd2_nx (by omega)) (Eq.trans (upd2_nx (by omega)) (Eq.trans (upd2_nx (by omega)) (Eq.trans (upd2_nx (by omega)) (upd2_eq))))))))))) (Eq.trans (congrFun (upd2_ne (by decide)) (133)) (Eq.trans (congrFun (updA_ne (by decide)) (133)) (Eq.trans (upd2_nx (by omega)) (Eq.trans (upd2_nx (by omega)) (Eq.trans (upd2_nx (by omega)) (Eq.trans (upd2_nx (by omega)) (Eq.trans (upd2_nx (by omega)) (Eq.trans (upd2_nx (by omega)) (Eq.trans (upd2_nx (by omega)) (upd2_eq)))))))))) (Eq.trans (congrFun (upd2_ne (by decide)) (134)) (Eq.trans (congrFun (updA_ne (by decide)) (134)) (Eq.trans (upd2_nx (by omega)) (Eq.trans (upd2_nx (by omega)) (Eq.trans (upd2_nx (by omega)) (Eq.trans (upd2_nx (by omega)) (Eq.trans (upd2_nx (by omega)) (Eq.trans (upd2_nx (by omega)) (upd2_eq))))))))) (Eq.trans (congrFun (upd2_ne (by decide)) (135)) (Eq.trans (congrFun (updA_ne (by decide)) (135)) (Eq.trans (upd2_nx (by omega)) (Eq.trans (upd2_nx (by omega)) (Eq.trans (upd2_nx (by omega)) (Eq.trans (upd2_nx (by omega)) (Eq.trans (upd2_nx (by omega)) (upd2_eq)))))))), fun j hj => (Eq.trans (congrFun (upd2_ne (by decide)) ((10 + j))) (Eq.trans (congrFun (updA_ne (by decide)) ((10 + j))) (Eq.trans (upd2_nx (by omega)) (Eq.trans (upd2_nx (by omega)) (Eq.trans (upd2_nx (by omega)) (Eq.trans (upd2_nx (by omega)) (Eq.trans (upd2_nx (by omega)) (Eq.trans (upd2_nx (by omega)) (Eq.trans (upd2_nx (by omega)) (Eq.trans (upd2_nx (by omega)) (Eq.trans (upd2_nx (by omega)) (Eq.trans (upd2_nx (by omega)) (Eq.trans (upd2_nx (by omega)) (Eq.trans (upd2_nx (by omega)) (Eq.trans (upd2_nx (by omega)) (Eq.trans (upd2_nx (by omega)) (Eq.trans (upd2_nx (by omega)) (Eq.trans (congrFun (upd2_ne (by decide)) ((10 + j))) (Eq.trans (congrFun (upd2_ne (by decide)) ((10 + j))) (Eq.trans (congrFun (upd2_ne (by decide)) ((10 + j))) (Eq.trans (congrFun (upd2_ne (by decide)) ((10 + j))) (Eq.trans (congrFun (upd2_ne (by decide)) ((10 + j))) (Eq.trans (congrFun (updA_ne (by decide)) ((10 + j))) (Eq.trans (congrFun (updA_ne (by decide)) ((10 + j))) (g2 j (by omega)))))))))))))))))))))))))), (Eq.trans (congrFun (upd2_ne (by decide)) (1)) (Eq.trans (congrFun (updA_ne (by decide)) (1)) (Eq.trans (upd2_nx (by omega)) (Eq.trans (upd2_nx (by omega)) (Eq.trans (upd2_nx (by omega)) (Eq.trans (upd2_nx (by omega)) (Eq.trans (upd2_nx (by omega)) (Eq.trans (upd2_nx (by omega)) (Eq.trans (upd2_nx (by omega)) (Eq.trans (upd2_nx (by omega)) (Eq.trans (upd2_nx (by omega)) (Eq.trans (upd2_nx (by omega)) (Eq.trans (upd2_nx (by omega)) (Eq.trans (upd2_nx (by omega)) (Eq.trans (upd2_nx (by omega)) (Eq.trans (upd2_nx (by omega)) (Eq.trans (upd2_nx (by omega)) (Eq.trans (congrFun (upd2_ne (by decide)) (1)) (Eq.trans (congrFun (upd2_ne (by decide)) (1)) (Eq.trans (congrFun (upd2_ne (by decide)) (1)) (Eq.trans (congrFun (upd2_ne (by decide)) (1)) (Eq.trans (congrFun (upd2_ne (by decide)) (1)) (Eq.trans (congrFun (updA_ne (by decide)) (1)) (Eq.trans (congrFun (updA_ne (by decide)) (1)) (g3))))))))))))))))))))))))), (Eq.trans (congrFun (upd2_ne (by decide)) (4)) (Eq.trans (congrFun (updA_ne (by decide)) (4)) (Eq.trans (upd2_nx (by omega)) (Eq.trans (upd2_nx (by omega)) (Eq.trans (upd2_nx (by omega)) (Eq.trans (upd2_nx (by omega)) (Eq.trans (upd2_nx (by omega)) (Eq.trans (upd2_nx (by omega)) (Eq.trans (upd2_nx (by omega)) (Eq.trans (upd2_nx (by omega)) (Eq.trans (upd2_nx (by omega)) (Eq.trans (upd2_nx (by omega)) (Eq.trans (upd2_nx (by omega)) (Eq.trans (upd2_nx (by omega)) (Eq.trans (upd2_nx (by omega)) (Eq.trans (upd2_nx (by omega)) (Eq.trans (upd2_nx (by omega)) (Eq.trans (congrFun (upd2_ne (by decide)) (4)) (Eq.trans (congrFun (upd2_ne (by decide)) (4)) (Eq.trans (congrFun (upd2_ne (by decide)) (4)) (Eq.trans (congrFun (upd2_ne (by decide)) (4)) (Eq.trans (congrFun (upd2_ne (by decide)) (4)) (Eq.trans (congrFun (updA_ne (by decide)) (4)) (Eq.trans (congrFun (updA_ne (by decide)) (4)) (g4))))))))))))))))))))))))), (Eq.trans (congrFun (upd2_ne (by decide)) (71)) (Eq.trans (congrFun (updA_ne (by decide)) (71)) (Eq.trans (upd2_nx (by omega)) (Eq.trans (upd2_nx (by omega)) (Eq.trans (upd2_nx (by omega)) (Eq.trans (upd2_nx (by omega)) (Eq.trans (upd2_nx (by omega)) (Eq.trans (upd2_nx (by omega)) (Eq.trans (upd2_nx (by omega)) (Eq.trans (upd2_nx (by omega)) (Eq.trans (upd2_nx (by omega)) (Eq.trans (upd2_nx (by omega)) (Eq.trans (upd2_nx (by omega)) (Eq.trans (upd2_nx (by omega)) (Eq.trans (upd2_nx (by omega)) (Eq.trans (upd2_nx (by omega)) (upd2_eq))))))))))))))))), (Eq.trans (congrFun (upd2_ne (by decide)) (70)) (Eq.trans (congrFun (updA_ne (by decide)) (70)) (Eq.trans (upd2_nx (by omega)) (Eq.trans (upd2_nx (by omega)) (Eq.trans (upd2_nx (by omega)) (Eq.trans (upd2_nx (by omega)) (upd2_eq))))))), (Eq.trans (congrFun (upd2_ne (by decide)) (72)) (Eq.trans (congrFun (updA_ne (by decide)) (72)) (Eq.trans (upd2_nx (by omega)) (Eq.trans (upd2_nx (by omega)) (Eq.trans (upd2_nx (by omega)) (Eq.trans (upd2_nx (by omega)) (Eq.trans (upd2_nx (by omega)) (Eq.trans (upd2_nx (by omega)) (Eq.trans (upd2_nx (by omega)) (Eq.trans (upd2_nx (by omega)) (Eq.trans (upd2_nx (by omega)) (Eq.trans (upd2_nx (by omega)) (Eq.trans (upd2_nx (by omega)) (Eq.trans (upd2_nx (by omega)) (Eq.trans (upd2_nx (by omega)) (upd2_eq)))))))))))))))), (Eq.trans (congrFun (upd2_ne (by decide)) (75)) (Eq.trans (congrFun (updA_ne (by decide)) (75)) (Eq.trans (upd2_nx (by omega)) (Eq.trans (upd2_nx (by omega)) (Eq.trans (upd2_nx (by omega)) (Eq.trans (upd2_nx (by omega)) (Eq.trans (upd2_nx (by omega)) (Eq.trans (upd2_nx (by omega)) (Eq.trans (upd2_nx (by omega)) (Eq.trans (upd2_nx (by omega)) (Eq.trans (upd2_nx (by omega)) (Eq.trans (upd2_nx (by omega)) (Eq.trans (upd2_nx (by omega)) (Eq.trans (upd2_nx (by omega)) (Eq.trans (upd2_nx (by omega)) (Eq.trans (upd2_nx (by omega)) (Eq.trans (upd2_nx (by omega)) (Eq.trans (congrFun (upd2_ne (by decide)) (75)) (Eq.trans (congrFun (upd2_ne (by decide)) (75)) (Eq.trans (congrFun (upd2_ne (by decide)) (75)) (Eq.trans (congrFun (upd2_ne (by decide)) (75)) (Eq.trans (congrFun (upd2_ne (by decide)) (75)) (Eq.trans (congrFun (updA_ne (by decide)) (75)) (Eq.trans (congrFun (updA_ne (by decide)) (75)) (g8))))))))))))))))))))))))), (Eq.trans (congrFun (upd2_ne (by decide)) (76)) (Eq.trans (congrFun (updA_ne (by decide)) (76)) (Eq.trans (upd2_nx (by omega)) (Eq.trans (upd2_nx (by omega)) (Eq.trans (upd2_nx (by omega)) (Eq.trans (upd2_nx (by omega)) (Eq.trans (upd2_nx (by omega)) (Eq.trans (upd2_nx (by omega)) (Eq.trans (upd2_nx (by omega)) (Eq.trans (upd2_nx (by omega)) (Eq.trans (upd2_nx (by omega)) (Eq.trans (upd2_nx (by omega)) (Eq.trans (upd2_nx (by omega)) (Eq.trans (upd2_nx (by omega)) (Eq.trans (upd2_nx (by omega)) (Eq.trans (upd2_nx (by omega)) (Eq.trans (upd2_nx (by omega)) (Eq.trans (congrFun (upd2_ne (by decide)) (76)) (Eq.trans (congrFun (upd2_ne (by decide)) (76)) (Eq.trans (congrFun (upd2_ne (by decide)) (76)) (Eq.trans (congrFun (upd2_ne (by decide)) (76)) (Eq.trans (congrFun (upd2_ne (by decide)) (76)) (Eq.trans (congrFun (updA_ne (by decide)) (76)) (Eq.trans (congrFun (updA_ne (by decide)) (76)) (g9))))))))))))))))))))))))), fun j hj => (Eq.trans (congrFun (upd2_ne (by decide)) ((80 + j))) (Eq.trans (congrFun (updA_ne (by decide)) ((80 + j))) (Eq.trans (upd2_nx (by omega)) (Eq.trans (upd2_nx (by omega)) (Eq.trans (upd2_nx (by omega)) (Eq.trans (upd2_nx (by omega)) (Eq.trans (upd2_nx (by omega)) (Eq.trans (upd2_nx (by omega)) (Eq.trans (upd2_nx (by omega)) (Eq.trans (upd2_nx (by omega)) (Eq.trans (upd2_nx (by omega)) (Eq.trans (upd2_nx (by omega)) (Eq.trans (upd2_nx (by omega)) (Eq.trans (upd2_nx (by omega)) (Eq.trans (upd2_nx (by omega)) (Eq.trans (upd2_nx (by omega)) (Eq.trans (upd2_nx (by omega)) (Eq.trans (congrFun (upd2_ne (by decide)) ((80 + j))) (Eq.trans (congrFun (upd2_ne (by decide)) ((80 + j))) (Eq.trans (congrFun (upd2_ne (by decide)) ((80 + j))) (Eq.trans (congrFun (upd2_ne (by decide)) ((80 + j))) (Eq.trans (congrFun (upd2_ne (by decide)) ((80 + j))) (Eq.trans (congrFun (updA_ne (by decide)) ((80 + j))) (Eq.trans (congrFun (updA_ne (by decide)) ((80 + j))) (g10 j (by omega)))))))))))))))))))))))))), fun j hj => (Eq.trans (congrFun (upd2_ne (by decide)) ((1580 + j))) (Eq.trans (congrFun (updA_ne (by decide)) ((1580 + j))) (Eq.trans (upd2_nx (by omega)) (Eq.trans (upd2_nx (by omega)) (Eq.trans (upd2_nx (by omega)) (Eq.trans (upd2_nx (by omega)) (Eq.trans (upd2_nx (by omega)) (Eq.trans (upd2_nx (by omega)) (Eq.trans (upd2_nx (by omega)) (Eq.trans (upd2_nx (by omega)) (Eq.trans (upd2_nx (by omega)) (Eq.trans (upd2_nx (by omega)) (Eq.trans (upd2_nx (by omega)) (Eq.trans (upd2_nx (by omega)) (Eq.trans (upd2_nx (by omega)) (Eq.trans (upd2_nx (by omega)) (Eq.trans (upd2_nx (by omega)) (Eq.trans (congrFun (upd2_ne (by decide)) ((1580 + j))) (Eq.trans (congrFun (upd2_ne (by decide)) ((1580 + j))) (Eq.trans (congrFun (upd2_ne (by decide)) ((1580 + j))) (Eq.trans (congrFun (upd2_ne (by decide)) ((1580 + j))) (Eq.trans (congrFun (upd2_ne (by decide)) ((1580 + j))) (Eq.trans (congrFun (updA_ne (by decide)) ((1580 + j))) (Eq.trans (congrFun (updA_ne (by decide)) ((1580 + j))) (g11 j (by omega)))))))))))))))))))))))))), fun j hj => (Eq.trans (congrFun (upd2_ne (by decide)) (j)) (fill_at (by omega))), (by omega)⟩) (fun q hq => by have n0 : q ≠ 0 := (by omega); have n1 : q ≠ 1 := (by omega); have n9 : q ≠ 9 := (by omega); have n12 : q ≠ 12 := (by omega); have n13 : q ≠ 13 := (by omega); simp only [upd2, updA, n0, n1, n9, n12, n13, if_false]))
end
