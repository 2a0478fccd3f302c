/-! the reference: calls in loops -/
abbrev y_X_setsOut : MI := (⟨"SinglesUpModel", "setsOut", "()V"⟩, prog_11_method_82_code, 2, none)
theorem d_X_setsOut_56 : decode y_X_setsOut.2.1 56 = .ok (.iload_n 1, 1) := by decide +kernel
theorem d_X_setsOut_57 : decode y_X_setsOut.2.1 57 = .ok (.bipush 8, 2) := by decide +kernel
theorem d_X_setsOut_59 : decode y_X_setsOut.2.1 59 = .ok (.if_icmp .ge 21, 3) := by decide +kernel
theorem d_X_setsOut_62 : decode y_X_setsOut.2.1 62 = .ok (.aload_n 0, 1) := by decide +kernel
theorem d_X_setsOut_63 : decode y_X_setsOut.2.1 63 = .ok (.getfield 90, 3) := by decide +kernel
theorem fl_X_90 : FL "SinglesUpModel" 90 9 48 := ⟨"SinglesUpModel", zT9, 51, rfl, by decide, rfl, Or.inl (tw_in 1196 (by decide +kernel) rfl)⟩
theorem rm_0_48 : RM 0 48 = some 24 := by decide +kernel
theorem d_X_setsOut_66 : decode y_X_setsOut.2.1 66 = .ok (.iload_n 1, 1) := by decide +kernel
theorem d_X_setsOut_67 : decode y_X_setsOut.2.1 67 = .ok (.aload_n 0, 1) := by decide +kernel
theorem d_X_setsOut_68 : decode y_X_setsOut.2.1 68 = .ok (.getfield 63, 3) := by decide +kernel
theorem fl_X_63 : FL "SinglesUpModel" 63 9 37 := ⟨"SinglesUpModel", zT9, 51, rfl, by decide, rfl, Or.inl (tw_in 1186 (by decide +kernel) rfl)⟩
theorem rm_0_37 : RM 0 37 = some 15 := by decide +kernel
theorem d_X_setsOut_71 : decode y_X_setsOut.2.1 71 = .ok (.iload_n 1, 1) := by decide +kernel
theorem d_X_setsOut_72 : decode y_X_setsOut.2.1 72 = .ok (.iaload, 1) := by decide +kernel
theorem km_15 : KM[15]? = some (0, 8) := by decide +kernel
theorem d_X_setsOut_73 : decode y_X_setsOut.2.1 73 = .ok (.iastore, 1) := by decide +kernel
theorem km_24 : KM[24]? = some (0, 8) := by decide +kernel
theorem d_X_setsOut_74 : decode y_X_setsOut.2.1 74 = .ok (.iinc 1 1, 3) := by decide +kernel
theorem d_X_setsOut_77 : decode y_X_setsOut.2.1 77 = .ok (.goto (-21), 3) := by decide +kernel
theorem d_X_setsOut_80 : decode y_X_setsOut.2.1 80 = .ok (.aload_n 0, 1) := by decide +kernel
theorem d_X_setsOut_81 : decode y_X_setsOut.2.1 81 = .ok (.aload_n 0, 1) := by decide +kernel
theorem d_X_setsOut_82 : decode y_X_setsOut.2.1 82 = .ok (.getfield 344, 3) := by decide +kernel
theorem d_X_setsOut_85 : decode y_X_setsOut.2.1 85 = .ok (.putfield 383, 3) := by decide +kernel
theorem fl_X_383 : FL "SinglesUpModel" 383 9 50 := ⟨"SinglesUpModel", zT9, 51, rfl, by decide, rfl, Or.inl (tw_in 1198 (by decide +kernel) rfl)⟩
theorem d_X_setsOut_88 : decode y_X_setsOut.2.1 88 = .ok (.return_, 1) := by decide +kernel
theorem d_X_setsOut_29 : decode y_X_setsOut.2.1 29 = .ok (.iload_n 1, 1) := by decide +kernel
theorem d_X_setsOut_30 : decode y_X_setsOut.2.1 30 = .ok (.sipush 240, 3) := by decide +kernel
theorem d_X_setsOut_33 : decode y_X_setsOut.2.1 33 = .ok (.if_icmp .ge 21, 3) := by decide +kernel
theorem d_X_setsOut_54 : decode y_X_setsOut.2.1 54 = .ok (.iconst 0, 1) := by decide +kernel
theorem d_X_setsOut_55 : decode y_X_setsOut.2.1 55 = .ok (.istore_n 1, 1) := by decide +kernel
theorem d_X_setsOut_36 : decode y_X_setsOut.2.1 36 = .ok (.aload_n 0, 1) := by decide +kernel
theorem d_X_setsOut_37 : decode y_X_setsOut.2.1 37 = .ok (.getfield 87, 3) := by decide +kernel
theorem fl_X_87 : FL "SinglesUpModel" 87 9 47 := ⟨"SinglesUpModel", zT9, 51, rfl, by decide, rfl, Or.inl (tw_in 1195 (by decide +kernel) rfl)⟩
theorem rm_0_47 : RM 0 47 = some 23 := by decide +kernel
theorem d_X_setsOut_40 : decode y_X_setsOut.2.1 40 = .ok (.iload_n 1, 1) := by decide +kernel
theorem d_X_setsOut_41 : decode y_X_setsOut.2.1 41 = .ok (.aload_n 0, 1) := by decide +kernel
theorem d_X_setsOut_42 : decode y_X_setsOut.2.1 42 = .ok (.getfield 57, 3) := by decide +kernel
theorem d_X_setsOut_45 : decode y_X_setsOut.2.1 45 = .ok (.iload_n 1, 1) := by decide +kernel
theorem d_X_setsOut_46 : decode y_X_setsOut.2.1 46 = .ok (.baload, 1) := by decide +kernel
theorem d_X_setsOut_47 : decode y_X_setsOut.2.1 47 = .ok (.bastore, 1) := by decide +kernel
theorem km_23 : KM[23]? = some (1, 240) := by decide +kernel
theorem d_X_setsOut_48 : decode y_X_setsOut.2.1 48 = .ok (.iinc 1 1, 3) := by decide +kernel
theorem d_X_setsOut_51 : decode y_X_setsOut.2.1 51 = .ok (.goto (-22), 3) := by decide +kernel
theorem d_X_setsOut_2 : decode y_X_setsOut.2.1 2 = .ok (.iload_n 1, 1) := by decide +kernel
theorem d_X_setsOut_3 : decode y_X_setsOut.2.1 3 = .ok (.sipush 6190, 3) := by decide +kernel
theorem cs_6190 : (Int16.ofInt 6190).toInt32 = nI 6190 := by decide +kernel
theorem d_X_setsOut_6 : decode y_X_setsOut.2.1 6 = .ok (.if_icmp .ge 21, 3) := by decide +kernel
theorem d_X_setsOut_27 : decode y_X_setsOut.2.1 27 = .ok (.iconst 0, 1) := by decide +kernel
theorem d_X_setsOut_28 : decode y_X_setsOut.2.1 28 = .ok (.istore_n 1, 1) := by decide +kernel
theorem d_X_setsOut_9 : decode y_X_setsOut.2.1 9 = .ok (.aload_n 0, 1) := by decide +kernel
theorem d_X_setsOut_10 : decode y_X_setsOut.2.1 10 = .ok (.getfield 16, 3) := by decide +kernel
theorem fl_X_16 : FL "SinglesUpModel" 16 9 2 := ⟨"SinglesUpModel", zT9, 51, rfl, by decide, rfl, Or.inl (tw_in 1151 (by decide +kernel) rfl)⟩
theorem rm_0_2 : RM 0 2 = some 3 := by decide +kernel
theorem d_X_setsOut_13 : decode y_X_setsOut.2.1 13 = .ok (.iload_n 1, 1) := by decide +kernel
theorem d_X_setsOut_14 : decode y_X_setsOut.2.1 14 = .ok (.aload_n 0, 1) := by decide +kernel
theorem d_X_setsOut_15 : decode y_X_setsOut.2.1 15 = .ok (.getfield 7, 3) := by decide +kernel
theorem d_X_setsOut_18 : decode y_X_setsOut.2.1 18 = .ok (.iload_n 1, 1) := by decide +kernel
theorem d_X_setsOut_19 : decode y_X_setsOut.2.1 19 = .ok (.iaload, 1) := by decide +kernel
theorem d_X_setsOut_20 : decode y_X_setsOut.2.1 20 = .ok (.iastore, 1) := by decide +kernel
theorem km_3 : KM[3]? = some (0, 6190) := by decide +kernel
theorem d_X_setsOut_21 : decode y_X_setsOut.2.1 21 = .ok (.iinc 1 1, 3) := by decide +kernel
theorem d_X_setsOut_24 : decode y_X_setsOut.2.1 24 = .ok (.goto (-22), 3) := by decide +kernel
theorem d_X_setsOut_0 : decode y_X_setsOut.2.1 0 = .ok (.iconst 0, 1) := by decide +kernel
theorem d_X_setsOut_1 : decode y_X_setsOut.2.1 1 = .ok (.istore_n 1, 1) := by decide +kernel
abbrev y_X_comesBack : MI := (⟨"SinglesUpModel", "comesBack", "()V"⟩, prog_11_method_83_code, 2, none)
theorem d_X_comesBack_56 : decode y_X_comesBack.2.1 56 = .ok (.iload_n 1, 1) := by decide +kernel
theorem d_X_comesBack_57 : decode y_X_comesBack.2.1 57 = .ok (.bipush 8, 2) := by decide +kernel
theorem d_X_comesBack_59 : decode y_X_comesBack.2.1 59 = .ok (.if_icmp .ge 21, 3) := by decide +kernel
theorem d_X_comesBack_62 : decode y_X_comesBack.2.1 62 = .ok (.aload_n 0, 1) := by decide +kernel
theorem d_X_comesBack_63 : decode y_X_comesBack.2.1 63 = .ok (.getfield 63, 3) := by decide +kernel
theorem d_X_comesBack_66 : decode y_X_comesBack.2.1 66 = .ok (.iload_n 1, 1) := by decide +kernel
theorem d_X_comesBack_67 : decode y_X_comesBack.2.1 67 = .ok (.aload_n 0, 1) := by decide +kernel
theorem d_X_comesBack_68 : decode y_X_comesBack.2.1 68 = .ok (.getfield 90, 3) := by decide +kernel
theorem d_X_comesBack_71 : decode y_X_comesBack.2.1 71 = .ok (.iload_n 1, 1) := by decide +kernel
theorem d_X_comesBack_72 : decode y_X_comesBack.2.1 72 = .ok (.iaload, 1) := by decide +kernel
theorem d_X_comesBack_73 : decode y_X_comesBack.2.1 73 = .ok (.iastore, 1) := by decide +kernel
theorem d_X_comesBack_74 : decode y_X_comesBack.2.1 74 = .ok (.iinc 1 1, 3) := by decide +kernel
theorem d_X_comesBack_77 : decode y_X_comesBack.2.1 77 = .ok (.goto (-21), 3) := by decide +kernel
theorem d_X_comesBack_80 : decode y_X_comesBack.2.1 80 = .ok (.aload_n 0, 1) := by decide +kernel
theorem d_X_comesBack_81 : decode y_X_comesBack.2.1 81 = .ok (.aload_n 0, 1) := by decide +kernel
theorem d_X_comesBack_82 : decode y_X_comesBack.2.1 82 = .ok (.getfield 383, 3) := by decide +kernel
theorem d_X_comesBack_85 : decode y_X_comesBack.2.1 85 = .ok (.putfield 344, 3) := by decide +kernel
theorem d_X_comesBack_88 : decode y_X_comesBack.2.1 88 = .ok (.return_, 1) := by decide +kernel
theorem d_X_comesBack_29 : decode y_X_comesBack.2.1 29 = .ok (.iload_n 1, 1) := by decide +kernel
theorem d_X_comesBack_30 : decode y_X_comesBack.2.1 30 = .ok (.sipush 240, 3) := by decide +kernel
theorem d_X_comesBack_33 : decode y_X_comesBack.2.1 33 = .ok (.if_icmp .ge 21, 3) := by decide +kernel
theorem d_X_comesBack_54 : decode y_X_comesBack.2.1 54 = .ok (.iconst 0, 1) := by decide +kernel
theorem d_X_comesBack_55 : decode y_X_comesBack.2.1 55 = .ok (.istore_n 1, 1) := by decide +kernel
theorem d_X_comesBack_36 : decode y_X_comesBack.2.1 36 = .ok (.aload_n 0, 1) := by decide +kernel
theorem d_X_comesBack_37 : decode y_X_comesBack.2.1 37 = .ok (.getfield 57, 3) := by decide +kernel
theorem d_X_comesBack_40 : decode y_X_comesBack.2.1 40 = .ok (.iload_n 1, 1) := by decide +kernel
theorem d_X_comesBack_41 : decode y_X_comesBack.2.1 41 = .ok (.aload_n 0, 1) := by decide +kernel
theorem d_X_comesBack_42 : decode y_X_comesBack.2.1 42 = .ok (.getfield 87, 3) := by decide +kernel
theorem d_X_comesBack_45 : decode y_X_comesBack.2.1 45 = .ok (.iload_n 1, 1) := by decide +kernel
theorem d_X_comesBack_46 : decode y_X_comesBack.2.1 46 = .ok (.baload, 1) := by decide +kernel
theorem d_X_comesBack_47 : decode y_X_comesBack.2.1 47 = .ok (.bastore, 1) := by decide +kernel
theorem d_X_comesBack_48 : decode y_X_comesBack.2.1 48 = .ok (.iinc 1 1, 3) := by decide +kernel
theorem d_X_comesBack_51 : decode y_X_comesBack.2.1 51 = .ok (.goto (-22), 3) := by decide +kernel
theorem d_X_comesBack_2 : decode y_X_comesBack.2.1 2 = .ok (.iload_n 1, 1) := by decide +kernel
theorem d_X_comesBack_3 : decode y_X_comesBack.2.1 3 = .ok (.sipush 6190, 3) := by decide +kernel
theorem d_X_comesBack_6 : decode y_X_comesBack.2.1 6 = .ok (.if_icmp .ge 21, 3) := by decide +kernel
theorem d_X_comesBack_27 : decode y_X_comesBack.2.1 27 = .ok (.iconst 0, 1) := by decide +kernel
theorem d_X_comesBack_28 : decode y_X_comesBack.2.1 28 = .ok (.istore_n 1, 1) := by decide +kernel
theorem d_X_comesBack_9 : decode y_X_comesBack.2.1 9 = .ok (.aload_n 0, 1) := by decide +kernel
theorem d_X_comesBack_10 : decode y_X_comesBack.2.1 10 = .ok (.getfield 7, 3) := by decide +kernel
theorem d_X_comesBack_13 : decode y_X_comesBack.2.1 13 = .ok (.iload_n 1, 1) := by decide +kernel
theorem d_X_comesBack_14 : decode y_X_comesBack.2.1 14 = .ok (.aload_n 0, 1) := by decide +kernel
theorem d_X_comesBack_15 : decode y_X_comesBack.2.1 15 = .ok (.getfield 16, 3) := by decide +kernel
theorem d_X_comesBack_18 : decode y_X_comesBack.2.1 18 = .ok (.iload_n 1, 1) := by decide +kernel
theorem d_X_comesBack_19 : decode y_X_comesBack.2.1 19 = .ok (.iaload, 1) := by decide +kernel
theorem d_X_comesBack_20 : decode y_X_comesBack.2.1 20 = .ok (.iastore, 1) := by decide +kernel
theorem d_X_comesBack_21 : decode y_X_comesBack.2.1 21 = .ok (.iinc 1 1, 3) := by decide +kernel
theorem d_X_comesBack_24 : decode y_X_comesBack.2.1 24 = .ok (.goto (-22), 3) := by decide +kernel
theorem d_X_comesBack_0 : decode y_X_comesBack.2.1 0 = .ok (.iconst 0, 1) := by decide +kernel
theorem d_X_comesBack_1 : decode y_X_comesBack.2.1 1 = .ok (.istore_n 1, 1) := by decide +kernel
abbrev y_X_turn : MI := (⟨"SinglesUpModel", "turn", "()I"⟩, prog_11_method_58_code, 3, some .int)
theorem d_X_turn_0 : decode y_X_turn.2.1 0 = .ok (.iconst 0, 1) := by decide +kernel
theorem d_X_turn_1 : decode y_X_turn.2.1 1 = .ok (.istore_n 1, 1) := by decide +kernel
theorem d_X_turn_2 : decode y_X_turn.2.1 2 = .ok (.iload_n 1, 1) := by decide +kernel
theorem d_X_turn_3 : decode y_X_turn.2.1 3 = .ok (.bipush 8, 2) := by decide +kernel
theorem d_X_turn_5 : decode y_X_turn.2.1 5 = .ok (.if_icmp .ge 72, 3) := by decide +kernel
theorem d_X_turn_8 : decode y_X_turn.2.1 8 = .ok (.bipush 26, 2) := by decide +kernel
theorem d_X_turn_10 : decode y_X_turn.2.1 10 = .ok (.iconst 4, 1) := by decide +kernel
theorem d_X_turn_11 : decode y_X_turn.2.1 11 = .ok (.iload_n 1, 1) := by decide +kernel
theorem d_X_turn_12 : decode y_X_turn.2.1 12 = .ok (.imul, 1) := by decide +kernel
theorem d_X_turn_13 : decode y_X_turn.2.1 13 = .ok (.iadd, 1) := by decide +kernel
theorem d_X_turn_14 : decode y_X_turn.2.1 14 = .ok (.istore_n 2, 1) := by decide +kernel
theorem d_X_turn_15 : decode y_X_turn.2.1 15 = .ok (.aload_n 0, 1) := by decide +kernel
theorem d_X_turn_16 : decode y_X_turn.2.1 16 = .ok (.getfield 7, 3) := by decide +kernel
theorem d_X_turn_19 : decode y_X_turn.2.1 19 = .ok (.iload_n 2, 1) := by decide +kernel
theorem d_X_turn_20 : decode y_X_turn.2.1 20 = .ok (.iconst 3, 1) := by decide +kernel
theorem d_X_turn_21 : decode y_X_turn.2.1 21 = .ok (.iadd, 1) := by decide +kernel
theorem d_X_turn_22 : decode y_X_turn.2.1 22 = .ok (.iaload, 1) := by decide +kernel
theorem d_X_turn_23 : decode y_X_turn.2.1 23 = .ok (.ifCond .le 48, 3) := by decide +kernel
theorem d_X_turn_71 : decode y_X_turn.2.1 71 = .ok (.iinc 1 1, 3) := by decide +kernel
theorem d_X_turn_74 : decode y_X_turn.2.1 74 = .ok (.goto (-72), 3) := by decide +kernel
theorem d_X_turn_77 : decode y_X_turn.2.1 77 = .ok (.aload_n 0, 1) := by decide +kernel
theorem d_X_turn_78 : decode y_X_turn.2.1 78 = .ok (.invokevirtual 338, 3) := by decide +kernel
theorem lk_X_338 : LkV "SinglesUpModel" 338 y_X_chair := ⟨tw_in 1496 (by decide +kernel) rfl, tw_in 1497 (by decide +kernel) rfl, Or.inl (tw_in 1553 (by decide +kernel) rfl)⟩
theorem mo_X_chair : MOk y_X_chair 0 := ⟨by decide +kernel, tw_in 1498 (by decide +kernel) rfl, tw_in 108 (by decide +kernel) rfl, by decide +kernel, by decide +kernel, by decide +kernel⟩
theorem d_X_turn_81 : decode y_X_turn.2.1 81 = .ok (.ireturn, 1) := by decide +kernel
abbrev y_X_run : MI := (⟨"SinglesUpModel", "run", "(I)I"⟩, prog_11_method_59_code, 4, some .int)
theorem d_X_run_16 : decode y_X_run.2.1 16 = .ok (.iload_n 3, 1) := by decide +kernel
theorem d_X_run_17 : decode y_X_run.2.1 17 = .ok (.iload_n 1, 1) := by decide +kernel
theorem d_X_run_18 : decode y_X_run.2.1 18 = .ok (.if_icmp .ge 16, 3) := by decide +kernel
theorem d_X_run_34 : decode y_X_run.2.1 34 = .ok (.iload_n 2, 1) := by decide +kernel
theorem d_X_run_35 : decode y_X_run.2.1 35 = .ok (.ireturn, 1) := by decide +kernel
theorem d_X_run_21 : decode y_X_run.2.1 21 = .ok (.iload_n 2, 1) := by decide +kernel
theorem d_X_run_22 : decode y_X_run.2.1 22 = .ok (.aload_n 0, 1) := by decide +kernel
theorem d_X_run_23 : decode y_X_run.2.1 23 = .ok (.invokevirtual 341, 3) := by decide +kernel
theorem lk_X_341 : LkV "SinglesUpModel" 341 y_X_turn := ⟨tw_in 1551 (by decide +kernel) rfl, tw_in 76 (by decide +kernel) rfl, Or.inl (tw_in 1549 (by decide +kernel) rfl)⟩
theorem mo_X_turn : MOk y_X_turn 0 := ⟨by decide +kernel, tw_in 1552 (by decide +kernel) rfl, tw_in 108 (by decide +kernel) rfl, by decide +kernel, by decide +kernel, by decide +kernel⟩
theorem d_X_run_26 : decode y_X_run.2.1 26 = .ok (.iadd, 1) := by decide +kernel
theorem d_X_run_27 : decode y_X_run.2.1 27 = .ok (.istore_n 2, 1) := by decide +kernel
theorem d_X_run_28 : decode y_X_run.2.1 28 = .ok (.iinc 3 1, 3) := by decide +kernel
theorem d_X_run_31 : decode y_X_run.2.1 31 = .ok (.goto (-15), 3) := by decide +kernel
theorem d_X_run_0 : decode y_X_run.2.1 0 = .ok (.iload_n 1, 1) := by decide +kernel
theorem d_X_run_1 : decode y_X_run.2.1 1 = .ok (.iconst 1, 1) := by decide +kernel
theorem d_X_run_2 : decode y_X_run.2.1 2 = .ok (.bipush 60, 2) := by decide +kernel
theorem d_X_run_4 : decode y_X_run.2.1 4 = .ok (.invokestatic 98, 3) := by decide +kernel
theorem d_X_run_7 : decode y_X_run.2.1 7 = .ok (.ifCond .ne 5, 3) := by decide +kernel
theorem d_X_run_10 : decode y_X_run.2.1 10 = .ok (.iconst (-1), 1) := by decide +kernel
theorem d_X_run_11 : decode y_X_run.2.1 11 = .ok (.ireturn, 1) := by decide +kernel
theorem d_X_run_12 : decode y_X_run.2.1 12 = .ok (.iconst 0, 1) := by decide +kernel
theorem d_X_run_13 : decode y_X_run.2.1 13 = .ok (.istore_n 2, 1) := by decide +kernel
theorem d_X_run_14 : decode y_X_run.2.1 14 = .ok (.iconst 0, 1) := by decide +kernel
theorem d_X_run_15 : decode y_X_run.2.1 15 = .ok (.istore_n 3, 1) := by decide +kernel
abbrev y_X_send : MI := (⟨"SinglesUpModel", "send", "()I"⟩, prog_11_method_65_code, 2, some .int)
theorem d_X_send_0 : decode y_X_send.2.1 0 = .ok (.aload_n 0, 1) := by decide +kernel
theorem d_X_send_1 : decode y_X_send.2.1 1 = .ok (.invokevirtual 315, 3) := by decide +kernel
theorem d_X_send_4 : decode y_X_send.2.1 4 = .ok (.iconst 0, 1) := by decide +kernel
theorem d_X_send_5 : decode y_X_send.2.1 5 = .ok (.istore_n 1, 1) := by decide +kernel
theorem d_X_send_6 : decode y_X_send.2.1 6 = .ok (.iload_n 1, 1) := by decide +kernel
theorem d_X_send_7 : decode y_X_send.2.1 7 = .ok (.aload_n 0, 1) := by decide +kernel
theorem d_X_send_8 : decode y_X_send.2.1 8 = .ok (.getfield 344, 3) := by decide +kernel
theorem d_X_send_11 : decode y_X_send.2.1 11 = .ok (.if_icmp .ge 51, 3) := by decide +kernel
theorem d_X_send_62 : decode y_X_send.2.1 62 = .ok (.aload_n 0, 1) := by decide +kernel
theorem d_X_send_63 : decode y_X_send.2.1 63 = .ok (.invokevirtual 335, 3) := by decide +kernel
theorem d_X_send_66 : decode y_X_send.2.1 66 = .ok (.ireturn, 1) := by decide +kernel
abbrev y_X_needed : MI := (⟨"SinglesUpModel", "needed", "(I)I"⟩, prog_11_method_91_code, 5, some .int)
theorem d_X_needed_20 : decode y_X_needed.2.1 20 = .ok (.iload_n 3, 1) := by decide +kernel
theorem d_X_needed_21 : decode y_X_needed.2.1 21 = .ok (.iload_n 1, 1) := by decide +kernel
theorem d_X_needed_22 : decode y_X_needed.2.1 22 = .ok (.if_icmp .ge 34, 3) := by decide +kernel
theorem d_X_needed_56 : decode y_X_needed.2.1 56 = .ok (.aload_n 0, 1) := by decide +kernel
theorem d_X_needed_57 : decode y_X_needed.2.1 57 = .ok (.invokevirtual 398, 3) := by decide +kernel
theorem lk_X_398 : LkV "SinglesUpModel" 398 y_X_comesBack := ⟨tw_in 1652 (by decide +kernel) rfl, tw_in 90 (by decide +kernel) rfl, Or.inl (tw_in 1650 (by decide +kernel) rfl)⟩
theorem mo_X_comesBack : MOk y_X_comesBack 0 := ⟨by decide +kernel, tw_in 1653 (by decide +kernel) rfl, tw_in 108 (by decide +kernel) rfl, by decide +kernel, by decide +kernel, by decide +kernel⟩
theorem d_X_needed_60 : decode y_X_needed.2.1 60 = .ok (.iload_n 2, 1) := by decide +kernel
theorem d_X_needed_61 : decode y_X_needed.2.1 61 = .ok (.ireturn, 1) := by decide +kernel
theorem d_X_needed_25 : decode y_X_needed.2.1 25 = .ok (.aload_n 0, 1) := by decide +kernel
theorem d_X_needed_26 : decode y_X_needed.2.1 26 = .ok (.invokevirtual 338, 3) := by decide +kernel
theorem d_X_needed_29 : decode y_X_needed.2.1 29 = .ok (.istore 4, 2) := by decide +kernel
theorem d_X_needed_31 : decode y_X_needed.2.1 31 = .ok (.iload_n 2, 1) := by decide +kernel
theorem d_X_needed_32 : decode y_X_needed.2.1 32 = .ok (.iload 4, 2) := by decide +kernel
theorem d_X_needed_34 : decode y_X_needed.2.1 34 = .ok (.ifCond .le 13, 3) := by decide +kernel
theorem d_X_needed_47 : decode y_X_needed.2.1 47 = .ok (.iconst 0, 1) := by decide +kernel
theorem d_X_needed_48 : decode y_X_needed.2.1 48 = .ok (.iadd, 1) := by decide +kernel
theorem d_X_needed_49 : decode y_X_needed.2.1 49 = .ok (.istore_n 2, 1) := by decide +kernel
theorem d_X_needed_50 : decode y_X_needed.2.1 50 = .ok (.iinc 3 1, 3) := by decide +kernel
theorem d_X_needed_53 : decode y_X_needed.2.1 53 = .ok (.goto (-33), 3) := by decide +kernel
theorem d_X_needed_0 : decode y_X_needed.2.1 0 = .ok (.iload_n 1, 1) := by decide +kernel
theorem d_X_needed_1 : decode y_X_needed.2.1 1 = .ok (.iconst 1, 1) := by decide +kernel
theorem d_X_needed_2 : decode y_X_needed.2.1 2 = .ok (.bipush 40, 2) := by decide +kernel
theorem d_X_needed_4 : decode y_X_needed.2.1 4 = .ok (.invokestatic 98, 3) := by decide +kernel
theorem d_X_needed_7 : decode y_X_needed.2.1 7 = .ok (.ifCond .ne 5, 3) := by decide +kernel
theorem d_X_needed_10 : decode y_X_needed.2.1 10 = .ok (.iconst (-1), 1) := by decide +kernel
theorem d_X_needed_11 : decode y_X_needed.2.1 11 = .ok (.ireturn, 1) := by decide +kernel
theorem d_X_needed_12 : decode y_X_needed.2.1 12 = .ok (.aload_n 0, 1) := by decide +kernel
theorem d_X_needed_13 : decode y_X_needed.2.1 13 = .ok (.invokevirtual 392, 3) := by decide +kernel
theorem lk_X_392 : LkV "SinglesUpModel" 392 y_X_setsOut := ⟨tw_in 1640 (by decide +kernel) rfl, tw_in 87 (by decide +kernel) rfl, Or.inl (tw_in 1638 (by decide +kernel) rfl)⟩
theorem mo_X_setsOut : MOk y_X_setsOut 0 := ⟨by decide +kernel, tw_in 1641 (by decide +kernel) rfl, tw_in 108 (by decide +kernel) rfl, by decide +kernel, by decide +kernel, by decide +kernel⟩
theorem d_X_needed_16 : decode y_X_needed.2.1 16 = .ok (.iconst 0, 1) := by decide +kernel
theorem d_X_needed_17 : decode y_X_needed.2.1 17 = .ok (.istore_n 2, 1) := by decide +kernel
theorem d_X_needed_18 : decode y_X_needed.2.1 18 = .ok (.iconst 0, 1) := by decide +kernel
theorem d_X_needed_19 : decode y_X_needed.2.1 19 = .ok (.istore_n 3, 1) := by decide +kernel
abbrev y_X_leads : MI := (⟨"SinglesUpModel", "leads", "(IIII)V"⟩, prog_11_method_92_code, 7, none)
theorem d_X_leads_37 : decode y_X_leads.2.1 37 = .ok (.iload 6, 2) := by decide +kernel
theorem d_X_leads_39 : decode y_X_leads.2.1 39 = .ok (.iload 4, 2) := by decide +kernel
theorem d_X_leads_41 : decode y_X_leads.2.1 41 = .ok (.if_icmp .ge 14, 3) := by decide +kernel
theorem d_X_leads_55 : decode y_X_leads.2.1 55 = .ok (.aload_n 0, 1) := by decide +kernel
theorem d_X_leads_56 : decode y_X_leads.2.1 56 = .ok (.getfield 93, 3) := by decide +kernel
theorem fl_X_93 : FL "SinglesUpModel" 93 9 49 := ⟨"SinglesUpModel", zT9, 51, rfl, by decide, rfl, Or.inl (tw_in 1197 (by decide +kernel) rfl)⟩
theorem rm_0_49 : RM 0 49 = some 25 := by decide +kernel
theorem d_X_leads_59 : decode y_X_leads.2.1 59 = .ok (.iconst 0, 1) := by decide +kernel
theorem d_X_leads_60 : decode y_X_leads.2.1 60 = .ok (.aload_n 0, 1) := by decide +kernel
theorem d_X_leads_61 : decode y_X_leads.2.1 61 = .ok (.getfield 7, 3) := by decide +kernel
theorem d_X_leads_64 : decode y_X_leads.2.1 64 = .ok (.bipush 71, 2) := by decide +kernel
theorem d_X_leads_66 : decode y_X_leads.2.1 66 = .ok (.iaload, 1) := by decide +kernel
theorem d_X_leads_67 : decode y_X_leads.2.1 67 = .ok (.aload_n 0, 1) := by decide +kernel
theorem d_X_leads_68 : decode y_X_leads.2.1 68 = .ok (.getfield 16, 3) := by decide +kernel
theorem d_X_leads_71 : decode y_X_leads.2.1 71 = .ok (.bipush 71, 2) := by decide +kernel
theorem d_X_leads_73 : decode y_X_leads.2.1 73 = .ok (.iaload, 1) := by decide +kernel
theorem d_X_leads_74 : decode y_X_leads.2.1 74 = .ok (.isub, 1) := by decide +kernel
theorem d_X_leads_75 : decode y_X_leads.2.1 75 = .ok (.iastore, 1) := by decide +kernel
theorem km_25 : KM[25]? = some (0, 6) := by decide +kernel
theorem d_X_leads_76 : decode y_X_leads.2.1 76 = .ok (.aload_n 0, 1) := by decide +kernel
theorem d_X_leads_77 : decode y_X_leads.2.1 77 = .ok (.getfield 93, 3) := by decide +kernel
theorem d_X_leads_80 : decode y_X_leads.2.1 80 = .ok (.iconst 1, 1) := by decide +kernel
theorem d_X_leads_81 : decode y_X_leads.2.1 81 = .ok (.aload_n 0, 1) := by decide +kernel
theorem d_X_leads_82 : decode y_X_leads.2.1 82 = .ok (.getfield 7, 3) := by decide +kernel
theorem d_X_leads_85 : decode y_X_leads.2.1 85 = .ok (.bipush 72, 2) := by decide +kernel
theorem d_X_leads_87 : decode y_X_leads.2.1 87 = .ok (.iaload, 1) := by decide +kernel
theorem d_X_leads_88 : decode y_X_leads.2.1 88 = .ok (.aload_n 0, 1) := by decide +kernel
theorem d_X_leads_89 : decode y_X_leads.2.1 89 = .ok (.getfield 16, 3) := by decide +kernel
theorem d_X_leads_92 : decode y_X_leads.2.1 92 = .ok (.bipush 72, 2) := by decide +kernel
theorem d_X_leads_94 : decode y_X_leads.2.1 94 = .ok (.iaload, 1) := by decide +kernel
theorem d_X_leads_95 : decode y_X_leads.2.1 95 = .ok (.isub, 1) := by decide +kernel
theorem d_X_leads_96 : decode y_X_leads.2.1 96 = .ok (.iastore, 1) := by decide +kernel
theorem d_X_leads_97 : decode y_X_leads.2.1 97 = .ok (.aload_n 0, 1) := by decide +kernel
theorem d_X_leads_98 : decode y_X_leads.2.1 98 = .ok (.getfield 93, 3) := by decide +kernel
theorem d_X_leads_101 : decode y_X_leads.2.1 101 = .ok (.iconst 2, 1) := by decide +kernel
theorem d_X_leads_102 : decode y_X_leads.2.1 102 = .ok (.aload_n 0, 1) := by decide +kernel
theorem d_X_leads_103 : decode y_X_leads.2.1 103 = .ok (.bipush 90, 2) := by decide +kernel
theorem cb_90 : (Int8.ofInt 90).toInt32 = nI 90 := by decide +kernel
theorem d_X_leads_105 : decode y_X_leads.2.1 105 = .ok (.invokevirtual 410, 3) := by decide +kernel
abbrev y_X_sum : MI := (⟨"SinglesUpModel", "sum", "(I)I"⟩, prog_11_method_80_code, 4, some .int)
theorem lk_X_410 : LkV "SinglesUpModel" 410 y_X_sum := ⟨tw_in 1681 (by decide +kernel) rfl, tw_in 94 (by decide +kernel) rfl, Or.inl (tw_in 1679 (by decide +kernel) rfl)⟩
theorem mo_X_sum : MOk y_X_sum 1 := ⟨by decide +kernel, tw_in 1682 (by decide +kernel) rfl, tw_in 108 (by decide +kernel) rfl, by decide +kernel, by decide +kernel, by decide +kernel⟩
theorem d_X_sum_0 : decode y_X_sum.2.1 0 = .ok (.iconst 0, 1) := by decide +kernel
theorem d_X_sum_1 : decode y_X_sum.2.1 1 = .ok (.istore_n 2, 1) := by decide +kernel
theorem d_X_sum_2 : decode y_X_sum.2.1 2 = .ok (.iconst 1, 1) := by decide +kernel
theorem d_X_sum_3 : decode y_X_sum.2.1 3 = .ok (.istore_n 3, 1) := by decide +kernel
theorem d_X_sum_4 : decode y_X_sum.2.1 4 = .ok (.iload_n 3, 1) := by decide +kernel
theorem d_X_sum_5 : decode y_X_sum.2.1 5 = .ok (.bipush 8, 2) := by decide +kernel
theorem d_X_sum_7 : decode y_X_sum.2.1 7 = .ok (.if_icmp .gt 20, 3) := by decide +kernel
theorem d_X_sum_10 : decode y_X_sum.2.1 10 = .ok (.iload_n 2, 1) := by decide +kernel
theorem d_X_sum_11 : decode y_X_sum.2.1 11 = .ok (.aload_n 0, 1) := by decide +kernel
theorem d_X_sum_12 : decode y_X_sum.2.1 12 = .ok (.getfield 7, 3) := by decide +kernel
theorem d_X_sum_15 : decode y_X_sum.2.1 15 = .ok (.iload_n 1, 1) := by decide +kernel
theorem d_X_sum_16 : decode y_X_sum.2.1 16 = .ok (.iload_n 3, 1) := by decide +kernel
theorem d_X_sum_17 : decode y_X_sum.2.1 17 = .ok (.iadd, 1) := by decide +kernel
theorem d_X_sum_18 : decode y_X_sum.2.1 18 = .ok (.iaload, 1) := by decide +kernel
theorem d_X_sum_19 : decode y_X_sum.2.1 19 = .ok (.iadd, 1) := by decide +kernel
theorem d_X_sum_20 : decode y_X_sum.2.1 20 = .ok (.istore_n 2, 1) := by decide +kernel
theorem d_X_sum_21 : decode y_X_sum.2.1 21 = .ok (.iinc 3 1, 3) := by decide +kernel
theorem d_X_sum_24 : decode y_X_sum.2.1 24 = .ok (.goto (-20), 3) := by decide +kernel
theorem d_X_sum_27 : decode y_X_sum.2.1 27 = .ok (.iload_n 2, 1) := by decide +kernel
theorem d_X_sum_28 : decode y_X_sum.2.1 28 = .ok (.ireturn, 1) := by decide +kernel
theorem d_X_leads_108 : decode y_X_leads.2.1 108 = .ok (.iload 5, 2) := by decide +kernel
theorem d_X_leads_110 : decode y_X_leads.2.1 110 = .ok (.isub, 1) := by decide +kernel
theorem d_X_leads_111 : decode y_X_leads.2.1 111 = .ok (.iastore, 1) := by decide +kernel
theorem d_X_leads_112 : decode y_X_leads.2.1 112 = .ok (.aload_n 0, 1) := by decide +kernel
theorem d_X_leads_113 : decode y_X_leads.2.1 113 = .ok (.getfield 93, 3) := by decide +kernel
theorem d_X_leads_116 : decode y_X_leads.2.1 116 = .ok (.iconst 3, 1) := by decide +kernel
theorem d_X_leads_117 : decode y_X_leads.2.1 117 = .ok (.aload_n 0, 1) := by decide +kernel
theorem d_X_leads_118 : decode y_X_leads.2.1 118 = .ok (.getfield 7, 3) := by decide +kernel
theorem d_X_leads_121 : decode y_X_leads.2.1 121 = .ok (.bipush 76, 2) := by decide +kernel
theorem cb_76 : (Int8.ofInt 76).toInt32 = nI 76 := by decide +kernel
theorem d_X_leads_123 : decode y_X_leads.2.1 123 = .ok (.iaload, 1) := by decide +kernel
theorem d_X_leads_124 : decode y_X_leads.2.1 124 = .ok (.aload_n 0, 1) := by decide +kernel
theorem d_X_leads_125 : decode y_X_leads.2.1 125 = .ok (.getfield 16, 3) := by decide +kernel
theorem d_X_leads_128 : decode y_X_leads.2.1 128 = .ok (.bipush 76, 2) := by decide +kernel
theorem d_X_leads_130 : decode y_X_leads.2.1 130 = .ok (.iaload, 1) := by decide +kernel
theorem d_X_leads_131 : decode y_X_leads.2.1 131 = .ok (.isub, 1) := by decide +kernel
theorem d_X_leads_132 : decode y_X_leads.2.1 132 = .ok (.iastore, 1) := by decide +kernel
theorem d_X_leads_133 : decode y_X_leads.2.1 133 = .ok (.aload_n 0, 1) := by decide +kernel
theorem d_X_leads_134 : decode y_X_leads.2.1 134 = .ok (.getfield 93, 3) := by decide +kernel
theorem d_X_leads_137 : decode y_X_leads.2.1 137 = .ok (.iconst 4, 1) := by decide +kernel
theorem d_X_leads_138 : decode y_X_leads.2.1 138 = .ok (.aload_n 0, 1) := by decide +kernel
theorem d_X_leads_139 : decode y_X_leads.2.1 139 = .ok (.getfield 7, 3) := by decide +kernel
theorem d_X_leads_142 : decode y_X_leads.2.1 142 = .ok (.bipush 75, 2) := by decide +kernel
theorem cb_75 : (Int8.ofInt 75).toInt32 = nI 75 := by decide +kernel
theorem d_X_leads_144 : decode y_X_leads.2.1 144 = .ok (.iaload, 1) := by decide +kernel
theorem d_X_leads_145 : decode y_X_leads.2.1 145 = .ok (.aload_n 0, 1) := by decide +kernel
theorem d_X_leads_146 : decode y_X_leads.2.1 146 = .ok (.getfield 16, 3) := by decide +kernel
theorem d_X_leads_149 : decode y_X_leads.2.1 149 = .ok (.bipush 75, 2) := by decide +kernel
theorem d_X_leads_151 : decode y_X_leads.2.1 151 = .ok (.iaload, 1) := by decide +kernel
theorem d_X_leads_152 : decode y_X_leads.2.1 152 = .ok (.isub, 1) := by decide +kernel
theorem d_X_leads_153 : decode y_X_leads.2.1 153 = .ok (.iastore, 1) := by decide +kernel
theorem d_X_leads_154 : decode y_X_leads.2.1 154 = .ok (.aload_n 0, 1) := by decide +kernel
theorem d_X_leads_155 : decode y_X_leads.2.1 155 = .ok (.getfield 93, 3) := by decide +kernel
theorem d_X_leads_158 : decode y_X_leads.2.1 158 = .ok (.iconst 5, 1) := by decide +kernel
theorem d_X_leads_159 : decode y_X_leads.2.1 159 = .ok (.aload_n 0, 1) := by decide +kernel
theorem d_X_leads_160 : decode y_X_leads.2.1 160 = .ok (.invokevirtual 413, 3) := by decide +kernel
abbrev y_X_longest : MI := (⟨"SinglesUpModel", "longest", "()I"⟩, prog_11_method_81_code, 3, some .int)
theorem lk_X_413 : LkV "SinglesUpModel" 413 y_X_longest := ⟨tw_in 1685 (by decide +kernel) rfl, tw_in 95 (by decide +kernel) rfl, Or.inl (tw_in 1683 (by decide +kernel) rfl)⟩
theorem mo_X_longest : MOk y_X_longest 0 := ⟨by decide +kernel, tw_in 1686 (by decide +kernel) rfl, tw_in 108 (by decide +kernel) rfl, by decide +kernel, by decide +kernel, by decide +kernel⟩
theorem d_X_longest_0 : decode y_X_longest.2.1 0 = .ok (.iconst 0, 1) := by decide +kernel
theorem d_X_longest_1 : decode y_X_longest.2.1 1 = .ok (.istore_n 1, 1) := by decide +kernel
theorem d_X_longest_2 : decode y_X_longest.2.1 2 = .ok (.iconst 1, 1) := by decide +kernel
theorem d_X_longest_3 : decode y_X_longest.2.1 3 = .ok (.istore_n 2, 1) := by decide +kernel
theorem d_X_longest_4 : decode y_X_longest.2.1 4 = .ok (.iload_n 2, 1) := by decide +kernel
theorem d_X_longest_5 : decode y_X_longest.2.1 5 = .ok (.bipush 8, 2) := by decide +kernel
theorem d_X_longest_7 : decode y_X_longest.2.1 7 = .ok (.if_icmp .gt 36, 3) := by decide +kernel
theorem d_X_longest_10 : decode y_X_longest.2.1 10 = .ok (.aload_n 0, 1) := by decide +kernel
theorem d_X_longest_11 : decode y_X_longest.2.1 11 = .ok (.getfield 7, 3) := by decide +kernel
theorem d_X_longest_14 : decode y_X_longest.2.1 14 = .ok (.bipush 100, 2) := by decide +kernel
theorem cb_100 : (Int8.ofInt 100).toInt32 = nI 100 := by decide +kernel
theorem d_X_longest_16 : decode y_X_longest.2.1 16 = .ok (.iload_n 2, 1) := by decide +kernel
theorem d_X_longest_17 : decode y_X_longest.2.1 17 = .ok (.iadd, 1) := by decide +kernel
theorem d_X_longest_18 : decode y_X_longest.2.1 18 = .ok (.iaload, 1) := by decide +kernel
theorem d_X_longest_19 : decode y_X_longest.2.1 19 = .ok (.iload_n 1, 1) := by decide +kernel
theorem d_X_longest_20 : decode y_X_longest.2.1 20 = .ok (.if_icmp .le 15, 3) := by decide +kernel
theorem d_X_longest_35 : decode y_X_longest.2.1 35 = .ok (.iload_n 1, 1) := by decide +kernel
theorem d_X_longest_36 : decode y_X_longest.2.1 36 = .ok (.istore_n 1, 1) := by decide +kernel
theorem d_X_longest_37 : decode y_X_longest.2.1 37 = .ok (.iinc 2 1, 3) := by decide +kernel
theorem d_X_longest_40 : decode y_X_longest.2.1 40 = .ok (.goto (-36), 3) := by decide +kernel
theorem d_X_longest_43 : decode y_X_longest.2.1 43 = .ok (.iload_n 1, 1) := by decide +kernel
theorem d_X_longest_44 : decode y_X_longest.2.1 44 = .ok (.ireturn, 1) := by decide +kernel
theorem d_X_leads_163 : decode y_X_leads.2.1 163 = .ok (.iastore, 1) := by decide +kernel
theorem d_X_leads_164 : decode y_X_leads.2.1 164 = .ok (.aload_n 0, 1) := by decide +kernel
theorem d_X_leads_165 : decode y_X_leads.2.1 165 = .ok (.invokevirtual 398, 3) := by decide +kernel
theorem d_X_leads_168 : decode y_X_leads.2.1 168 = .ok (.return_, 1) := by decide +kernel
theorem d_X_leads_44 : decode y_X_leads.2.1 44 = .ok (.aload_n 0, 1) := by decide +kernel
theorem d_X_leads_45 : decode y_X_leads.2.1 45 = .ok (.invokevirtual 341, 3) := by decide +kernel
theorem d_X_leads_48 : decode y_X_leads.2.1 48 = .ok (.pop, 1) := by decide +kernel
theorem d_X_leads_49 : decode y_X_leads.2.1 49 = .ok (.iinc 6 1, 3) := by decide +kernel
theorem d_X_leads_52 : decode y_X_leads.2.1 52 = .ok (.goto (-15), 3) := by decide +kernel
theorem d_X_leads_0 : decode y_X_leads.2.1 0 = .ok (.aload_n 0, 1) := by decide +kernel
theorem d_X_leads_1 : decode y_X_leads.2.1 1 = .ok (.invokevirtual 392, 3) := by decide +kernel
theorem d_X_leads_4 : decode y_X_leads.2.1 4 = .ok (.aload_n 0, 1) := by decide +kernel
theorem d_X_leads_5 : decode y_X_leads.2.1 5 = .ok (.bipush 90, 2) := by decide +kernel
theorem d_X_leads_7 : decode y_X_leads.2.1 7 = .ok (.invokevirtual 410, 3) := by decide +kernel
theorem d_X_leads_10 : decode y_X_leads.2.1 10 = .ok (.istore 5, 2) := by decide +kernel
theorem d_X_leads_12 : decode y_X_leads.2.1 12 = .ok (.aload_n 0, 1) := by decide +kernel
theorem d_X_leads_13 : decode y_X_leads.2.1 13 = .ok (.getfield 7, 3) := by decide +kernel
theorem d_X_leads_16 : decode y_X_leads.2.1 16 = .ok (.bipush 6, 2) := by decide +kernel
theorem d_X_leads_18 : decode y_X_leads.2.1 18 = .ok (.iload_n 1, 1) := by decide +kernel
theorem d_X_leads_19 : decode y_X_leads.2.1 19 = .ok (.iastore, 1) := by decide +kernel
theorem d_X_leads_20 : decode y_X_leads.2.1 20 = .ok (.aload_n 0, 1) := by decide +kernel
theorem d_X_leads_21 : decode y_X_leads.2.1 21 = .ok (.getfield 7, 3) := by decide +kernel
theorem d_X_leads_24 : decode y_X_leads.2.1 24 = .ok (.iconst 5, 1) := by decide +kernel
theorem d_X_leads_25 : decode y_X_leads.2.1 25 = .ok (.iload_n 2, 1) := by decide +kernel
theorem d_X_leads_26 : decode y_X_leads.2.1 26 = .ok (.iastore, 1) := by decide +kernel
theorem d_X_leads_27 : decode y_X_leads.2.1 27 = .ok (.aload_n 0, 1) := by decide +kernel
theorem d_X_leads_28 : decode y_X_leads.2.1 28 = .ok (.getfield 7, 3) := by decide +kernel
theorem d_X_leads_31 : decode y_X_leads.2.1 31 = .ok (.iconst 1, 1) := by decide +kernel
theorem d_X_leads_32 : decode y_X_leads.2.1 32 = .ok (.iload_n 3, 1) := by decide +kernel
theorem d_X_leads_33 : decode y_X_leads.2.1 33 = .ok (.iastore, 1) := by decide +kernel
theorem d_X_leads_34 : decode y_X_leads.2.1 34 = .ok (.iconst 0, 1) := by decide +kernel
theorem d_X_leads_35 : decode y_X_leads.2.1 35 = .ok (.istore 6, 2) := by decide +kernel
abbrev y_X_thought : MI := (⟨"SinglesUpModel", "thought", "(IIIII)I"⟩, prog_11_method_93_code, 6, some .int)
theorem d_X_thought_0 : decode y_X_thought.2.1 0 = .ok (.iload_n 1, 1) := by decide +kernel
theorem d_X_thought_1 : decode y_X_thought.2.1 1 = .ok (.iconst 0, 1) := by decide +kernel
theorem d_X_thought_2 : decode y_X_thought.2.1 2 = .ok (.iconst 3, 1) := by decide +kernel
theorem d_X_thought_3 : decode y_X_thought.2.1 3 = .ok (.invokestatic 98, 3) := by decide +kernel
theorem d_X_thought_6 : decode y_X_thought.2.1 6 = .ok (.ifCond .eq 44, 3) := by decide +kernel
theorem d_X_thought_50 : decode y_X_thought.2.1 50 = .ok (.iconst (-1), 1) := by decide +kernel
theorem d_X_thought_51 : decode y_X_thought.2.1 51 = .ok (.ireturn, 1) := by decide +kernel
theorem d_X_thought_9 : decode y_X_thought.2.1 9 = .ok (.iload_n 2, 1) := by decide +kernel
theorem d_X_thought_10 : decode y_X_thought.2.1 10 = .ok (.iconst 0, 1) := by decide +kernel
theorem d_X_thought_11 : decode y_X_thought.2.1 11 = .ok (.bipush 99, 2) := by decide +kernel
theorem d_X_thought_13 : decode y_X_thought.2.1 13 = .ok (.invokestatic 98, 3) := by decide +kernel
theorem d_X_thought_16 : decode y_X_thought.2.1 16 = .ok (.ifCond .eq 34, 3) := by decide +kernel
theorem d_X_thought_19 : decode y_X_thought.2.1 19 = .ok (.iload_n 3, 1) := by decide +kernel
theorem d_X_thought_20 : decode y_X_thought.2.1 20 = .ok (.iconst 2, 1) := by decide +kernel
theorem d_X_thought_21 : decode y_X_thought.2.1 21 = .ok (.bipush 8, 2) := by decide +kernel
theorem d_X_thought_23 : decode y_X_thought.2.1 23 = .ok (.invokestatic 98, 3) := by decide +kernel
theorem d_X_thought_26 : decode y_X_thought.2.1 26 = .ok (.ifCond .eq 24, 3) := by decide +kernel
theorem d_X_thought_29 : decode y_X_thought.2.1 29 = .ok (.iload 4, 2) := by decide +kernel
theorem d_X_thought_31 : decode y_X_thought.2.1 31 = .ok (.iconst 1, 1) := by decide +kernel
theorem d_X_thought_32 : decode y_X_thought.2.1 32 = .ok (.bipush 40, 2) := by decide +kernel
theorem d_X_thought_34 : decode y_X_thought.2.1 34 = .ok (.invokestatic 98, 3) := by decide +kernel
theorem d_X_thought_37 : decode y_X_thought.2.1 37 = .ok (.ifCond .eq 13, 3) := by decide +kernel
theorem d_X_thought_40 : decode y_X_thought.2.1 40 = .ok (.iload 5, 2) := by decide +kernel
theorem d_X_thought_42 : decode y_X_thought.2.1 42 = .ok (.iconst 0, 1) := by decide +kernel
theorem d_X_thought_43 : decode y_X_thought.2.1 43 = .ok (.iconst 5, 1) := by decide +kernel
theorem d_X_thought_44 : decode y_X_thought.2.1 44 = .ok (.invokestatic 98, 3) := by decide +kernel
theorem d_X_thought_47 : decode y_X_thought.2.1 47 = .ok (.ifCond .ne 5, 3) := by decide +kernel
theorem d_X_thought_52 : decode y_X_thought.2.1 52 = .ok (.aload_n 0, 1) := by decide +kernel
theorem d_X_thought_53 : decode y_X_thought.2.1 53 = .ok (.iload_n 1, 1) := by decide +kernel
theorem d_X_thought_54 : decode y_X_thought.2.1 54 = .ok (.iload_n 2, 1) := by decide +kernel
theorem d_X_thought_55 : decode y_X_thought.2.1 55 = .ok (.iload_n 3, 1) := by decide +kernel
theorem d_X_thought_56 : decode y_X_thought.2.1 56 = .ok (.iload 4, 2) := by decide +kernel
theorem d_X_thought_58 : decode y_X_thought.2.1 58 = .ok (.invokevirtual 416, 3) := by decide +kernel
theorem lk_X_416 : LkV "SinglesUpModel" 416 y_X_leads := ⟨tw_in 1677 (by decide +kernel) rfl, tw_in 93 (by decide +kernel) rfl, Or.inl (tw_in 1675 (by decide +kernel) rfl)⟩
theorem mo_X_leads : MOk y_X_leads 4 := ⟨by decide +kernel, tw_in 1678 (by decide +kernel) rfl, tw_in 108 (by decide +kernel) rfl, by decide +kernel, by decide +kernel, by decide +kernel⟩
theorem d_X_thought_61 : decode y_X_thought.2.1 61 = .ok (.aload_n 0, 1) := by decide +kernel
theorem d_X_thought_62 : decode y_X_thought.2.1 62 = .ok (.getfield 93, 3) := by decide +kernel
theorem d_X_thought_65 : decode y_X_thought.2.1 65 = .ok (.iload 5, 2) := by decide +kernel
theorem d_X_thought_67 : decode y_X_thought.2.1 67 = .ok (.iaload, 1) := by decide +kernel
theorem d_X_thought_68 : decode y_X_thought.2.1 68 = .ok (.ireturn, 1) := by decide +kernel
abbrev y_X_price : MI := (⟨"SinglesUpModel", "price", "(II)I"⟩, prog_11_method_94_code, 4, some .int)
theorem d_X_price_0 : decode y_X_price.2.1 0 = .ok (.iload_n 1, 1) := by decide +kernel
theorem d_X_price_1 : decode y_X_price.2.1 1 = .ok (.iconst 0, 1) := by decide +kernel
theorem d_X_price_2 : decode y_X_price.2.1 2 = .ok (.bipush 99, 2) := by decide +kernel
theorem d_X_price_4 : decode y_X_price.2.1 4 = .ok (.invokestatic 98, 3) := by decide +kernel
theorem d_X_price_7 : decode y_X_price.2.1 7 = .ok (.ifCond .eq 13, 3) := by decide +kernel
theorem d_X_price_20 : decode y_X_price.2.1 20 = .ok (.ldc_w 284, 3) := by decide +kernel
theorem d_X_price_23 : decode y_X_price.2.1 23 = .ok (.ireturn, 1) := by decide +kernel
theorem d_X_price_10 : decode y_X_price.2.1 10 = .ok (.iload_n 2, 1) := by decide +kernel
theorem d_X_price_11 : decode y_X_price.2.1 11 = .ok (.iconst 1, 1) := by decide +kernel
theorem d_X_price_12 : decode y_X_price.2.1 12 = .ok (.bipush 40, 2) := by decide +kernel
theorem d_X_price_14 : decode y_X_price.2.1 14 = .ok (.invokestatic 98, 3) := by decide +kernel
theorem d_X_price_17 : decode y_X_price.2.1 17 = .ok (.ifCond .ne 7, 3) := by decide +kernel
theorem d_X_price_24 : decode y_X_price.2.1 24 = .ok (.aload_n 0, 1) := by decide +kernel
theorem d_X_price_25 : decode y_X_price.2.1 25 = .ok (.aload_n 0, 1) := by decide +kernel
theorem d_X_price_26 : decode y_X_price.2.1 26 = .ok (.getfield 7, 3) := by decide +kernel
theorem d_X_price_29 : decode y_X_price.2.1 29 = .ok (.bipush 6, 2) := by decide +kernel
theorem d_X_price_31 : decode y_X_price.2.1 31 = .ok (.iaload, 1) := by decide +kernel
theorem d_X_price_32 : decode y_X_price.2.1 32 = .ok (.iload_n 1, 1) := by decide +kernel
theorem d_X_price_33 : decode y_X_price.2.1 33 = .ok (.aload_n 0, 1) := by decide +kernel
theorem d_X_price_34 : decode y_X_price.2.1 34 = .ok (.getfield 7, 3) := by decide +kernel
theorem d_X_price_37 : decode y_X_price.2.1 37 = .ok (.iconst 1, 1) := by decide +kernel
theorem d_X_price_38 : decode y_X_price.2.1 38 = .ok (.iaload, 1) := by decide +kernel
theorem d_X_price_39 : decode y_X_price.2.1 39 = .ok (.iload_n 2, 1) := by decide +kernel
theorem d_X_price_40 : decode y_X_price.2.1 40 = .ok (.invokevirtual 416, 3) := by decide +kernel
theorem d_X_price_43 : decode y_X_price.2.1 43 = .ok (.aload_n 0, 1) := by decide +kernel
theorem d_X_price_44 : decode y_X_price.2.1 44 = .ok (.getfield 93, 3) := by decide +kernel
theorem d_X_price_47 : decode y_X_price.2.1 47 = .ok (.iconst 0, 1) := by decide +kernel
theorem d_X_price_48 : decode y_X_price.2.1 48 = .ok (.iaload, 1) := by decide +kernel
theorem d_X_price_49 : decode y_X_price.2.1 49 = .ok (.istore_n 3, 1) := by decide +kernel
theorem d_X_price_50 : decode y_X_price.2.1 50 = .ok (.aload_n 0, 1) := by decide +kernel
theorem d_X_price_51 : decode y_X_price.2.1 51 = .ok (.aload_n 0, 1) := by decide +kernel
theorem d_X_price_52 : decode y_X_price.2.1 52 = .ok (.getfield 7, 3) := by decide +kernel
theorem d_X_price_55 : decode y_X_price.2.1 55 = .ok (.bipush 6, 2) := by decide +kernel
theorem d_X_price_57 : decode y_X_price.2.1 57 = .ok (.iaload, 1) := by decide +kernel
theorem d_X_price_58 : decode y_X_price.2.1 58 = .ok (.iconst 0, 1) := by decide +kernel
theorem d_X_price_59 : decode y_X_price.2.1 59 = .ok (.aload_n 0, 1) := by decide +kernel
theorem d_X_price_60 : decode y_X_price.2.1 60 = .ok (.getfield 7, 3) := by decide +kernel
theorem d_X_price_63 : decode y_X_price.2.1 63 = .ok (.iconst 1, 1) := by decide +kernel
theorem d_X_price_64 : decode y_X_price.2.1 64 = .ok (.iaload, 1) := by decide +kernel
theorem d_X_price_65 : decode y_X_price.2.1 65 = .ok (.iload_n 2, 1) := by decide +kernel
theorem d_X_price_66 : decode y_X_price.2.1 66 = .ok (.invokevirtual 416, 3) := by decide +kernel
theorem d_X_price_69 : decode y_X_price.2.1 69 = .ok (.iload_n 3, 1) := by decide +kernel
theorem d_X_price_70 : decode y_X_price.2.1 70 = .ok (.aload_n 0, 1) := by decide +kernel
theorem d_X_price_71 : decode y_X_price.2.1 71 = .ok (.getfield 93, 3) := by decide +kernel
theorem d_X_price_74 : decode y_X_price.2.1 74 = .ok (.iconst 0, 1) := by decide +kernel
theorem d_X_price_75 : decode y_X_price.2.1 75 = .ok (.iaload, 1) := by decide +kernel
theorem d_X_price_76 : decode y_X_price.2.1 76 = .ok (.isub, 1) := by decide +kernel
theorem d_X_price_77 : decode y_X_price.2.1 77 = .ok (.ireturn, 1) := by decide +kernel
abbrev y_X_which : MI := (⟨"SinglesUpModel", "which", "(II)I"⟩, prog_11_method_95_code, 7, some .int)
theorem d_X_which_0 : decode y_X_which.2.1 0 = .ok (.iload_n 1, 1) := by decide +kernel
theorem d_X_which_1 : decode y_X_which.2.1 1 = .ok (.iconst 1, 1) := by decide +kernel
theorem d_X_which_2 : decode y_X_which.2.1 2 = .ok (.bipush 20, 2) := by decide +kernel
theorem d_X_which_4 : decode y_X_which.2.1 4 = .ok (.invokestatic 98, 3) := by decide +kernel
theorem d_X_which_7 : decode y_X_which.2.1 7 = .ok (.ifCond .eq 12, 3) := by decide +kernel
theorem d_X_which_19 : decode y_X_which.2.1 19 = .ok (.iconst (-1), 1) := by decide +kernel
theorem d_X_which_20 : decode y_X_which.2.1 20 = .ok (.ireturn, 1) := by decide +kernel
theorem d_X_which_10 : decode y_X_which.2.1 10 = .ok (.iload_n 2, 1) := by decide +kernel
theorem d_X_which_11 : decode y_X_which.2.1 11 = .ok (.iconst 0, 1) := by decide +kernel
theorem d_X_which_12 : decode y_X_which.2.1 12 = .ok (.iconst 2, 1) := by decide +kernel
theorem d_X_which_13 : decode y_X_which.2.1 13 = .ok (.invokestatic 98, 3) := by decide +kernel
theorem d_X_which_16 : decode y_X_which.2.1 16 = .ok (.ifCond .ne 5, 3) := by decide +kernel
theorem d_X_which_21 : decode y_X_which.2.1 21 = .ok (.iconst (-1), 1) := by decide +kernel
theorem d_X_which_22 : decode y_X_which.2.1 22 = .ok (.istore_n 3, 1) := by decide +kernel
theorem d_X_which_23 : decode y_X_which.2.1 23 = .ok (.iconst 0, 1) := by decide +kernel
theorem d_X_which_24 : decode y_X_which.2.1 24 = .ok (.istore 4, 2) := by decide +kernel
theorem d_X_which_26 : decode y_X_which.2.1 26 = .ok (.iconst 0, 1) := by decide +kernel
theorem d_X_which_27 : decode y_X_which.2.1 27 = .ok (.istore 5, 2) := by decide +kernel
theorem d_X_which_29 : decode y_X_which.2.1 29 = .ok (.iconst 0, 1) := by decide +kernel
theorem d_X_which_30 : decode y_X_which.2.1 30 = .ok (.istore 6, 2) := by decide +kernel
theorem d_X_which_32 : decode y_X_which.2.1 32 = .ok (.iload 6, 2) := by decide +kernel
theorem d_X_which_34 : decode y_X_which.2.1 34 = .ok (.bipush 16, 2) := by decide +kernel
theorem d_X_which_36 : decode y_X_which.2.1 36 = .ok (.if_icmp .ge 99, 3) := by decide +kernel
theorem d_X_which_39 : decode y_X_which.2.1 39 = .ok (.aload_n 0, 1) := by decide +kernel
theorem d_X_which_40 : decode y_X_which.2.1 40 = .ok (.iload 6, 2) := by decide +kernel
theorem d_X_which_42 : decode y_X_which.2.1 42 = .ok (.putfield 38, 3) := by decide +kernel
theorem d_X_which_45 : decode y_X_which.2.1 45 = .ok (.aload_n 0, 1) := by decide +kernel
theorem d_X_which_46 : decode y_X_which.2.1 46 = .ok (.aload_n 0, 1) := by decide +kernel
theorem d_X_which_47 : decode y_X_which.2.1 47 = .ok (.getfield 7, 3) := by decide +kernel
theorem d_X_which_50 : decode y_X_which.2.1 50 = .ok (.bipush 6, 2) := by decide +kernel
theorem d_X_which_52 : decode y_X_which.2.1 52 = .ok (.iaload, 1) := by decide +kernel
theorem d_X_which_53 : decode y_X_which.2.1 53 = .ok (.aload_n 0, 1) := by decide +kernel
theorem d_X_which_54 : decode y_X_which.2.1 54 = .ok (.getfield 7, 3) := by decide +kernel
theorem d_X_which_57 : decode y_X_which.2.1 57 = .ok (.iconst 5, 1) := by decide +kernel
theorem d_X_which_58 : decode y_X_which.2.1 58 = .ok (.iaload, 1) := by decide +kernel
theorem d_X_which_59 : decode y_X_which.2.1 59 = .ok (.aload_n 0, 1) := by decide +kernel
theorem d_X_which_60 : decode y_X_which.2.1 60 = .ok (.getfield 7, 3) := by decide +kernel
theorem d_X_which_63 : decode y_X_which.2.1 63 = .ok (.iconst 1, 1) := by decide +kernel
theorem d_X_which_64 : decode y_X_which.2.1 64 = .ok (.iaload, 1) := by decide +kernel
theorem d_X_which_65 : decode y_X_which.2.1 65 = .ok (.iload_n 1, 1) := by decide +kernel
theorem d_X_which_66 : decode y_X_which.2.1 66 = .ok (.invokevirtual 416, 3) := by decide +kernel
theorem d_X_which_69 : decode y_X_which.2.1 69 = .ok (.iload_n 3, 1) := by decide +kernel
theorem d_X_which_70 : decode y_X_which.2.1 70 = .ok (.iconst (-1), 1) := by decide +kernel
theorem d_X_which_71 : decode y_X_which.2.1 71 = .ok (.if_icmp .eq 39, 3) := by decide +kernel
theorem d_X_which_110 : decode y_X_which.2.1 110 = .ok (.iload 6, 2) := by decide +kernel
theorem d_X_which_112 : decode y_X_which.2.1 112 = .ok (.istore_n 3, 1) := by decide +kernel
theorem d_X_which_113 : decode y_X_which.2.1 113 = .ok (.aload_n 0, 1) := by decide +kernel
theorem d_X_which_114 : decode y_X_which.2.1 114 = .ok (.getfield 93, 3) := by decide +kernel
theorem d_X_which_117 : decode y_X_which.2.1 117 = .ok (.iconst 0, 1) := by decide +kernel
theorem d_X_which_118 : decode y_X_which.2.1 118 = .ok (.iaload, 1) := by decide +kernel
theorem d_X_which_119 : decode y_X_which.2.1 119 = .ok (.istore 4, 2) := by decide +kernel
theorem d_X_which_121 : decode y_X_which.2.1 121 = .ok (.aload_n 0, 1) := by decide +kernel
theorem d_X_which_122 : decode y_X_which.2.1 122 = .ok (.getfield 93, 3) := by decide +kernel
theorem d_X_which_125 : decode y_X_which.2.1 125 = .ok (.iconst 2, 1) := by decide +kernel
theorem d_X_which_126 : decode y_X_which.2.1 126 = .ok (.iaload, 1) := by decide +kernel
theorem d_X_which_127 : decode y_X_which.2.1 127 = .ok (.istore 5, 2) := by decide +kernel
theorem d_X_which_129 : decode y_X_which.2.1 129 = .ok (.iinc 6 1, 3) := by decide +kernel
theorem d_X_which_132 : decode y_X_which.2.1 132 = .ok (.goto (-100), 3) := by decide +kernel
theorem d_X_which_74 : decode y_X_which.2.1 74 = .ok (.aload_n 0, 1) := by decide +kernel
theorem d_X_which_75 : decode y_X_which.2.1 75 = .ok (.getfield 93, 3) := by decide +kernel
theorem d_X_which_78 : decode y_X_which.2.1 78 = .ok (.iconst 0, 1) := by decide +kernel
theorem d_X_which_79 : decode y_X_which.2.1 79 = .ok (.iaload, 1) := by decide +kernel
theorem d_X_which_80 : decode y_X_which.2.1 80 = .ok (.iload 4, 2) := by decide +kernel
theorem d_X_which_82 : decode y_X_which.2.1 82 = .ok (.if_icmp .gt 47, 3) := by decide +kernel
theorem d_X_which_85 : decode y_X_which.2.1 85 = .ok (.aload_n 0, 1) := by decide +kernel
theorem d_X_which_86 : decode y_X_which.2.1 86 = .ok (.getfield 93, 3) := by decide +kernel
theorem d_X_which_89 : decode y_X_which.2.1 89 = .ok (.iconst 0, 1) := by decide +kernel
theorem d_X_which_90 : decode y_X_which.2.1 90 = .ok (.iaload, 1) := by decide +kernel
theorem d_X_which_91 : decode y_X_which.2.1 91 = .ok (.iload 4, 2) := by decide +kernel
theorem d_X_which_93 : decode y_X_which.2.1 93 = .ok (.if_icmp .ne 17, 3) := by decide +kernel
theorem d_X_which_96 : decode y_X_which.2.1 96 = .ok (.aload_n 0, 1) := by decide +kernel
theorem d_X_which_97 : decode y_X_which.2.1 97 = .ok (.getfield 93, 3) := by decide +kernel
theorem d_X_which_100 : decode y_X_which.2.1 100 = .ok (.iconst 2, 1) := by decide +kernel
theorem d_X_which_101 : decode y_X_which.2.1 101 = .ok (.iaload, 1) := by decide +kernel
theorem d_X_which_102 : decode y_X_which.2.1 102 = .ok (.iload 5, 2) := by decide +kernel
theorem d_X_which_104 : decode y_X_which.2.1 104 = .ok (.if_icmp .lt 6, 3) := by decide +kernel
theorem d_X_which_107 : decode y_X_which.2.1 107 = .ok (.goto 22, 3) := by decide +kernel
theorem d_X_which_135 : decode y_X_which.2.1 135 = .ok (.aload_n 0, 1) := by decide +kernel
theorem d_X_which_136 : decode y_X_which.2.1 136 = .ok (.iconst (-1), 1) := by decide +kernel
theorem d_X_which_137 : decode y_X_which.2.1 137 = .ok (.putfield 38, 3) := by decide +kernel
theorem d_X_which_140 : decode y_X_which.2.1 140 = .ok (.iload_n 2, 1) := by decide +kernel
theorem d_X_which_141 : decode y_X_which.2.1 141 = .ok (.ifCond .ne 7, 3) := by decide +kernel
theorem d_X_which_148 : decode y_X_which.2.1 148 = .ok (.iload_n 2, 1) := by decide +kernel
theorem d_X_which_149 : decode y_X_which.2.1 149 = .ok (.iconst 1, 1) := by decide +kernel
theorem d_X_which_150 : decode y_X_which.2.1 150 = .ok (.if_icmp .ne 8, 3) := by decide +kernel
theorem d_X_which_158 : decode y_X_which.2.1 158 = .ok (.iload 5, 2) := by decide +kernel
theorem d_X_which_160 : decode y_X_which.2.1 160 = .ok (.ireturn, 1) := by decide +kernel
theorem d_X_which_153 : decode y_X_which.2.1 153 = .ok (.iload 4, 2) := by decide +kernel
theorem d_X_which_155 : decode y_X_which.2.1 155 = .ok (.goto 5, 3) := by decide +kernel
theorem d_X_which_144 : decode y_X_which.2.1 144 = .ok (.iload_n 3, 1) := by decide +kernel
theorem d_X_which_145 : decode y_X_which.2.1 145 = .ok (.goto 15, 3) := by decide +kernel
abbrev y_X_reckons : MI := (⟨"SinglesUpModel", "reckons", "()V"⟩, prog_11_method_70_code, 6, none)
theorem d_X_reckons_0 : decode y_X_reckons.2.1 0 = .ok (.aload_n 0, 1) := by decide +kernel
theorem d_X_reckons_1 : decode y_X_reckons.2.1 1 = .ok (.invokevirtual 356, 3) := by decide +kernel
abbrev y_X_laysRow : MI := (⟨"SinglesUpModel", "laysRow", "()V"⟩, prog_11_method_66_code, 3, none)
theorem lk_X_356 : LkV "SinglesUpModel" 356 y_X_laysRow := ⟨tw_in 1584 (by decide +kernel) rfl, tw_in 78 (by decide +kernel) rfl, Or.inl (tw_in 1582 (by decide +kernel) rfl)⟩
theorem mo_X_laysRow : MOk y_X_laysRow 0 := ⟨by decide +kernel, tw_in 1585 (by decide +kernel) rfl, tw_in 108 (by decide +kernel) rfl, by decide +kernel, by decide +kernel, by decide +kernel⟩
theorem d_X_laysRow_0 : decode y_X_laysRow.2.1 0 = .ok (.aload_n 0, 1) := by decide +kernel
theorem d_X_laysRow_1 : decode y_X_laysRow.2.1 1 = .ok (.iconst 0, 1) := by decide +kernel
theorem d_X_laysRow_2 : decode y_X_laysRow.2.1 2 = .ok (.putfield 347, 3) := by decide +kernel
theorem fl_X_347 : FL "SinglesUpModel" 347 9 40 := ⟨"SinglesUpModel", zT9, 51, rfl, by decide, rfl, Or.inl (tw_in 1189 (by decide +kernel) rfl)⟩
theorem d_X_laysRow_5 : decode y_X_laysRow.2.1 5 = .ok (.iconst 0, 1) := by decide +kernel
theorem d_X_laysRow_6 : decode y_X_laysRow.2.1 6 = .ok (.istore_n 1, 1) := by decide +kernel
theorem d_X_laysRow_7 : decode y_X_laysRow.2.1 7 = .ok (.iload_n 1, 1) := by decide +kernel
theorem d_X_laysRow_8 : decode y_X_laysRow.2.1 8 = .ok (.bipush 6, 2) := by decide +kernel
theorem d_X_laysRow_10 : decode y_X_laysRow.2.1 10 = .ok (.if_icmp .ge 83, 3) := by decide +kernel
theorem d_X_laysRow_13 : decode y_X_laysRow.2.1 13 = .ok (.iconst 0, 1) := by decide +kernel
theorem d_X_laysRow_14 : decode y_X_laysRow.2.1 14 = .ok (.istore_n 2, 1) := by decide +kernel
theorem d_X_laysRow_15 : decode y_X_laysRow.2.1 15 = .ok (.iload_n 2, 1) := by decide +kernel
theorem d_X_laysRow_16 : decode y_X_laysRow.2.1 16 = .ok (.aload_n 0, 1) := by decide +kernel
theorem d_X_laysRow_17 : decode y_X_laysRow.2.1 17 = .ok (.getfield 7, 3) := by decide +kernel
theorem d_X_laysRow_20 : decode y_X_laysRow.2.1 20 = .ok (.sipush 130, 3) := by decide +kernel
theorem d_X_laysRow_23 : decode y_X_laysRow.2.1 23 = .ok (.iload_n 1, 1) := by decide +kernel
theorem d_X_laysRow_24 : decode y_X_laysRow.2.1 24 = .ok (.iadd, 1) := by decide +kernel
theorem d_X_laysRow_25 : decode y_X_laysRow.2.1 25 = .ok (.iaload, 1) := by decide +kernel
theorem d_X_laysRow_26 : decode y_X_laysRow.2.1 26 = .ok (.if_icmp .ge 61, 3) := by decide +kernel
theorem d_X_laysRow_87 : decode y_X_laysRow.2.1 87 = .ok (.iinc 1 1, 3) := by decide +kernel
theorem d_X_laysRow_90 : decode y_X_laysRow.2.1 90 = .ok (.goto (-83), 3) := by decide +kernel
theorem d_X_laysRow_93 : decode y_X_laysRow.2.1 93 = .ok (.return_, 1) := by decide +kernel
theorem d_X_reckons_4 : decode y_X_reckons.2.1 4 = .ok (.iconst 0, 1) := by decide +kernel
theorem d_X_reckons_5 : decode y_X_reckons.2.1 5 = .ok (.istore_n 1, 1) := by decide +kernel
theorem d_X_reckons_6 : decode y_X_reckons.2.1 6 = .ok (.iload_n 1, 1) := by decide +kernel
theorem d_X_reckons_7 : decode y_X_reckons.2.1 7 = .ok (.bipush 9, 2) := by decide +kernel
theorem d_X_reckons_9 : decode y_X_reckons.2.1 9 = .ok (.if_icmp .ge 47, 3) := by decide +kernel
theorem d_X_reckons_12 : decode y_X_reckons.2.1 12 = .ok (.iconst 0, 1) := by decide +kernel
theorem d_X_reckons_13 : decode y_X_reckons.2.1 13 = .ok (.istore_n 2, 1) := by decide +kernel
theorem d_X_reckons_14 : decode y_X_reckons.2.1 14 = .ok (.iload_n 2, 1) := by decide +kernel
theorem d_X_reckons_15 : decode y_X_reckons.2.1 15 = .ok (.iconst 4, 1) := by decide +kernel
theorem d_X_reckons_16 : decode y_X_reckons.2.1 16 = .ok (.if_icmp .ge 34, 3) := by decide +kernel
theorem d_X_reckons_19 : decode y_X_reckons.2.1 19 = .ok (.aload_n 0, 1) := by decide +kernel
theorem d_X_reckons_20 : decode y_X_reckons.2.1 20 = .ok (.getfield 69, 3) := by decide +kernel
theorem fl_X_69 : FL "SinglesUpModel" 69 9 39 := ⟨"SinglesUpModel", zT9, 51, rfl, by decide, rfl, Or.inl (tw_in 1188 (by decide +kernel) rfl)⟩
theorem rm_0_39 : RM 0 39 = some 17 := by decide +kernel
theorem d_X_reckons_23 : decode y_X_reckons.2.1 23 = .ok (.aload_n 0, 1) := by decide +kernel
theorem d_X_reckons_24 : decode y_X_reckons.2.1 24 = .ok (.getfield 347, 3) := by decide +kernel
theorem d_X_reckons_27 : decode y_X_reckons.2.1 27 = .ok (.iload_n 1, 1) := by decide +kernel
theorem d_X_reckons_28 : decode y_X_reckons.2.1 28 = .ok (.iload_n 2, 1) := by decide +kernel
theorem d_X_reckons_29 : decode y_X_reckons.2.1 29 = .ok (.invokestatic 353, 3) := by decide +kernel
abbrev y_X_spot : MI := (⟨"SinglesUpModel", "spot", "(III)I"⟩, prog_11_method_67_code, 3, some .int)
theorem lk_X_353 : LkS "SinglesUpModel" 353 y_X_spot := ⟨tw_in 1587 (by decide +kernel) rfl, Or.inl (tw_in 1586 (by decide +kernel) rfl)⟩
theorem mo_X_spot : MOk y_X_spot 3 := ⟨by decide +kernel, tw_in 1588 (by decide +kernel) rfl, tw_in 108 (by decide +kernel) rfl, by decide +kernel, by decide +kernel, by decide +kernel⟩
theorem d_X_spot_0 : decode y_X_spot.2.1 0 = .ok (.bipush 36, 2) := by decide +kernel
theorem cb_36 : (Int8.ofInt 36).toInt32 = nI 36 := by decide +kernel
theorem d_X_spot_2 : decode y_X_spot.2.1 2 = .ok (.iload_n 0, 1) := by decide +kernel
theorem d_X_spot_3 : decode y_X_spot.2.1 3 = .ok (.imul, 1) := by decide +kernel
theorem d_X_spot_4 : decode y_X_spot.2.1 4 = .ok (.iconst 4, 1) := by decide +kernel
theorem d_X_spot_5 : decode y_X_spot.2.1 5 = .ok (.iload_n 1, 1) := by decide +kernel
theorem d_X_spot_6 : decode y_X_spot.2.1 6 = .ok (.imul, 1) := by decide +kernel
theorem d_X_spot_7 : decode y_X_spot.2.1 7 = .ok (.iadd, 1) := by decide +kernel
theorem d_X_spot_8 : decode y_X_spot.2.1 8 = .ok (.iload_n 2, 1) := by decide +kernel
theorem d_X_spot_9 : decode y_X_spot.2.1 9 = .ok (.iadd, 1) := by decide +kernel
theorem d_X_spot_10 : decode y_X_spot.2.1 10 = .ok (.ireturn, 1) := by decide +kernel
theorem d_X_reckons_32 : decode y_X_reckons.2.1 32 = .ok (.iload_n 2, 1) := by decide +kernel
theorem d_X_reckons_33 : decode y_X_reckons.2.1 33 = .ok (.iconst 1, 1) := by decide +kernel
theorem d_X_reckons_34 : decode y_X_reckons.2.1 34 = .ok (.if_icmp .ne 8, 3) := by decide +kernel
theorem d_X_reckons_42 : decode y_X_reckons.2.1 42 = .ok (.iconst 0, 1) := by decide +kernel
theorem d_X_reckons_43 : decode y_X_reckons.2.1 43 = .ok (.iastore, 1) := by decide +kernel
theorem km_17 : KM[17]? = some (0, 5440) := by decide +kernel
theorem d_X_reckons_44 : decode y_X_reckons.2.1 44 = .ok (.iinc 2 1, 3) := by decide +kernel
theorem d_X_reckons_47 : decode y_X_reckons.2.1 47 = .ok (.goto (-33), 3) := by decide +kernel
theorem d_X_reckons_37 : decode y_X_reckons.2.1 37 = .ok (.bipush (-99), 2) := by decide +kernel
theorem d_X_reckons_39 : decode y_X_reckons.2.1 39 = .ok (.goto 4, 3) := by decide +kernel
theorem d_X_reckons_50 : decode y_X_reckons.2.1 50 = .ok (.iinc 1 1, 3) := by decide +kernel
theorem d_X_reckons_53 : decode y_X_reckons.2.1 53 = .ok (.goto (-47), 3) := by decide +kernel
theorem d_X_reckons_56 : decode y_X_reckons.2.1 56 = .ok (.aload_n 0, 1) := by decide +kernel
theorem d_X_reckons_57 : decode y_X_reckons.2.1 57 = .ok (.getfield 347, 3) := by decide +kernel
theorem d_X_reckons_60 : decode y_X_reckons.2.1 60 = .ok (.iconst 1, 1) := by decide +kernel
theorem d_X_reckons_61 : decode y_X_reckons.2.1 61 = .ok (.isub, 1) := by decide +kernel
theorem d_X_reckons_62 : decode y_X_reckons.2.1 62 = .ok (.istore_n 1, 1) := by decide +kernel
theorem d_X_reckons_63 : decode y_X_reckons.2.1 63 = .ok (.iload_n 1, 1) := by decide +kernel
theorem d_X_reckons_64 : decode y_X_reckons.2.1 64 = .ok (.ifCond .lt 85, 3) := by decide +kernel
theorem d_X_reckons_149 : decode y_X_reckons.2.1 149 = .ok (.return_, 1) := by decide +kernel
abbrev y_X_best : MI := (⟨"SinglesUpModel", "best", "(I)I"⟩, prog_11_method_71_code, 7, some .int)
theorem d_X_best_0 : decode y_X_best.2.1 0 = .ok (.aload_n 0, 1) := by decide +kernel
theorem d_X_best_1 : decode y_X_best.2.1 1 = .ok (.invokevirtual 362, 3) := by decide +kernel
theorem lk_X_362 : LkV "SinglesUpModel" 362 y_X_reckons := ⟨tw_in 1580 (by decide +kernel) rfl, tw_in 77 (by decide +kernel) rfl, Or.inl (tw_in 1578 (by decide +kernel) rfl)⟩
theorem mo_X_reckons : MOk y_X_reckons 0 := ⟨by decide +kernel, tw_in 1581 (by decide +kernel) rfl, tw_in 108 (by decide +kernel) rfl, by decide +kernel, by decide +kernel, by decide +kernel⟩
theorem d_X_best_4 : decode y_X_best.2.1 4 = .ok (.aload_n 0, 1) := by decide +kernel
theorem d_X_best_5 : decode y_X_best.2.1 5 = .ok (.getfield 7, 3) := by decide +kernel
theorem d_X_best_8 : decode y_X_best.2.1 8 = .ok (.iconst 1, 1) := by decide +kernel
theorem d_X_best_9 : decode y_X_best.2.1 9 = .ok (.iaload, 1) := by decide +kernel
theorem d_X_best_10 : decode y_X_best.2.1 10 = .ok (.istore_n 2, 1) := by decide +kernel
theorem d_X_best_11 : decode y_X_best.2.1 11 = .ok (.iconst 0, 1) := by decide +kernel
theorem d_X_best_12 : decode y_X_best.2.1 12 = .ok (.istore_n 3, 1) := by decide +kernel
theorem d_X_best_13 : decode y_X_best.2.1 13 = .ok (.iconst 0, 1) := by decide +kernel
theorem d_X_best_14 : decode y_X_best.2.1 14 = .ok (.istore 4, 2) := by decide +kernel
theorem d_X_best_16 : decode y_X_best.2.1 16 = .ok (.iload_n 1, 1) := by decide +kernel
theorem d_X_best_17 : decode y_X_best.2.1 17 = .ok (.ifCond .ne 15, 3) := by decide +kernel
theorem d_X_best_32 : decode y_X_best.2.1 32 = .ok (.iconst 0, 1) := by decide +kernel
theorem d_X_best_33 : decode y_X_best.2.1 33 = .ok (.istore 5, 2) := by decide +kernel
theorem d_X_best_35 : decode y_X_best.2.1 35 = .ok (.iload 5, 2) := by decide +kernel
theorem d_X_best_37 : decode y_X_best.2.1 37 = .ok (.aload_n 0, 1) := by decide +kernel
theorem d_X_best_38 : decode y_X_best.2.1 38 = .ok (.getfield 347, 3) := by decide +kernel
theorem d_X_best_41 : decode y_X_best.2.1 41 = .ok (.if_icmp .ge 118, 3) := by decide +kernel
theorem d_X_best_159 : decode y_X_best.2.1 159 = .ok (.iload_n 1, 1) := by decide +kernel
theorem d_X_best_160 : decode y_X_best.2.1 160 = .ok (.iconst 1, 1) := by decide +kernel
theorem d_X_best_161 : decode y_X_best.2.1 161 = .ok (.if_icmp .ne 8, 3) := by decide +kernel
theorem d_X_best_169 : decode y_X_best.2.1 169 = .ok (.iconst (-1), 1) := by decide +kernel
theorem d_X_best_170 : decode y_X_best.2.1 170 = .ok (.ireturn, 1) := by decide +kernel
theorem d_X_best_164 : decode y_X_best.2.1 164 = .ok (.iload 4, 2) := by decide +kernel
theorem d_X_best_166 : decode y_X_best.2.1 166 = .ok (.goto 4, 3) := by decide +kernel
theorem d_X_best_20 : decode y_X_best.2.1 20 = .ok (.aload_n 0, 1) := by decide +kernel
theorem d_X_best_21 : decode y_X_best.2.1 21 = .ok (.getfield 69, 3) := by decide +kernel
theorem d_X_best_24 : decode y_X_best.2.1 24 = .ok (.iconst 0, 1) := by decide +kernel
theorem d_X_best_25 : decode y_X_best.2.1 25 = .ok (.iload_n 2, 1) := by decide +kernel
theorem d_X_best_26 : decode y_X_best.2.1 26 = .ok (.iconst 0, 1) := by decide +kernel
theorem d_X_best_27 : decode y_X_best.2.1 27 = .ok (.invokestatic 353, 3) := by decide +kernel
theorem d_X_best_30 : decode y_X_best.2.1 30 = .ok (.iaload, 1) := by decide +kernel
theorem d_X_best_31 : decode y_X_best.2.1 31 = .ok (.ireturn, 1) := by decide +kernel
abbrev y_X_look : MI := (⟨"SinglesUpModel", "look", "(I)I"⟩, prog_11_method_72_code, 4, some .int)
theorem d_X_look_0 : decode y_X_look.2.1 0 = .ok (.iload_n 1, 1) := by decide +kernel
theorem d_X_look_1 : decode y_X_look.2.1 1 = .ok (.invokestatic 105, 3) := by decide +kernel
theorem d_X_look_4 : decode y_X_look.2.1 4 = .ok (.ifCond .eq 17, 3) := by decide +kernel
theorem d_X_look_21 : decode y_X_look.2.1 21 = .ok (.iconst (-1), 1) := by decide +kernel
theorem d_X_look_22 : decode y_X_look.2.1 22 = .ok (.ireturn, 1) := by decide +kernel
theorem d_X_look_7 : decode y_X_look.2.1 7 = .ok (.aload_n 0, 1) := by decide +kernel
theorem d_X_look_8 : decode y_X_look.2.1 8 = .ok (.getfield 7, 3) := by decide +kernel
theorem d_X_look_11 : decode y_X_look.2.1 11 = .ok (.bipush 10, 2) := by decide +kernel
theorem d_X_look_13 : decode y_X_look.2.1 13 = .ok (.iload_n 1, 1) := by decide +kernel
theorem d_X_look_14 : decode y_X_look.2.1 14 = .ok (.iadd, 1) := by decide +kernel
theorem d_X_look_15 : decode y_X_look.2.1 15 = .ok (.iaload, 1) := by decide +kernel
theorem d_X_look_16 : decode y_X_look.2.1 16 = .ok (.bipush 24, 2) := by decide +kernel
theorem d_X_look_18 : decode y_X_look.2.1 18 = .ok (.if_icmp .ne 5, 3) := by decide +kernel
theorem d_X_look_23 : decode y_X_look.2.1 23 = .ok (.aload_n 0, 1) := by decide +kernel
theorem d_X_look_24 : decode y_X_look.2.1 24 = .ok (.iconst 0, 1) := by decide +kernel
theorem d_X_look_25 : decode y_X_look.2.1 25 = .ok (.invokevirtual 365, 3) := by decide +kernel
theorem lk_X_365 : LkV "SinglesUpModel" 365 y_X_best := ⟨tw_in 1575 (by decide +kernel) rfl, tw_in 1576 (by decide +kernel) rfl, Or.inl (tw_in 1601 (by decide +kernel) rfl)⟩
theorem mo_X_best : MOk y_X_best 1 := ⟨by decide +kernel, tw_in 1577 (by decide +kernel) rfl, tw_in 108 (by decide +kernel) rfl, by decide +kernel, by decide +kernel, by decide +kernel⟩
theorem d_X_look_28 : decode y_X_look.2.1 28 = .ok (.istore_n 2, 1) := by decide +kernel
theorem d_X_look_29 : decode y_X_look.2.1 29 = .ok (.aload_n 0, 1) := by decide +kernel
theorem d_X_look_30 : decode y_X_look.2.1 30 = .ok (.getfield 7, 3) := by decide +kernel
theorem d_X_look_33 : decode y_X_look.2.1 33 = .ok (.bipush 10, 2) := by decide +kernel
theorem d_X_look_35 : decode y_X_look.2.1 35 = .ok (.iload_n 1, 1) := by decide +kernel
theorem d_X_look_36 : decode y_X_look.2.1 36 = .ok (.iadd, 1) := by decide +kernel
theorem d_X_look_37 : decode y_X_look.2.1 37 = .ok (.dup2, 1) := by decide +kernel
theorem d_X_look_38 : decode y_X_look.2.1 38 = .ok (.iaload, 1) := by decide +kernel
theorem d_X_look_39 : decode y_X_look.2.1 39 = .ok (.iconst 1, 1) := by decide +kernel
theorem d_X_look_40 : decode y_X_look.2.1 40 = .ok (.iadd, 1) := by decide +kernel
theorem d_X_look_41 : decode y_X_look.2.1 41 = .ok (.iastore, 1) := by decide +kernel
theorem d_X_look_42 : decode y_X_look.2.1 42 = .ok (.aload_n 0, 1) := by decide +kernel
theorem d_X_look_43 : decode y_X_look.2.1 43 = .ok (.iconst 0, 1) := by decide +kernel
theorem d_X_look_44 : decode y_X_look.2.1 44 = .ok (.invokevirtual 365, 3) := by decide +kernel
theorem d_X_look_47 : decode y_X_look.2.1 47 = .ok (.istore_n 3, 1) := by decide +kernel
theorem d_X_look_48 : decode y_X_look.2.1 48 = .ok (.aload_n 0, 1) := by decide +kernel
theorem d_X_look_49 : decode y_X_look.2.1 49 = .ok (.getfield 7, 3) := by decide +kernel
theorem d_X_look_52 : decode y_X_look.2.1 52 = .ok (.bipush 10, 2) := by decide +kernel
theorem d_X_look_54 : decode y_X_look.2.1 54 = .ok (.iload_n 1, 1) := by decide +kernel
theorem d_X_look_55 : decode y_X_look.2.1 55 = .ok (.iadd, 1) := by decide +kernel
theorem d_X_look_56 : decode y_X_look.2.1 56 = .ok (.dup2, 1) := by decide +kernel
theorem d_X_look_57 : decode y_X_look.2.1 57 = .ok (.iaload, 1) := by decide +kernel
theorem d_X_look_58 : decode y_X_look.2.1 58 = .ok (.iconst 1, 1) := by decide +kernel
theorem d_X_look_59 : decode y_X_look.2.1 59 = .ok (.isub, 1) := by decide +kernel
theorem d_X_look_60 : decode y_X_look.2.1 60 = .ok (.iastore, 1) := by decide +kernel
theorem d_X_look_61 : decode y_X_look.2.1 61 = .ok (.iload_n 3, 1) := by decide +kernel
theorem d_X_look_62 : decode y_X_look.2.1 62 = .ok (.iload_n 2, 1) := by decide +kernel
theorem d_X_look_63 : decode y_X_look.2.1 63 = .ok (.isub, 1) := by decide +kernel
theorem d_X_look_64 : decode y_X_look.2.1 64 = .ok (.ireturn, 1) := by decide +kernel
theorem d_X_image_15 : decode y_X_image.2.1 15 = .ok (.iload_n 2, 1) := by decide +kernel
theorem d_X_image_16 : decode y_X_image.2.1 16 = .ok (.sipush 6190, 3) := by decide +kernel
theorem d_X_image_19 : decode y_X_image.2.1 19 = .ok (.if_icmp .ge 40, 3) := by decide +kernel
theorem d_X_image_59 : decode y_X_image.2.1 59 = .ok (.iload_n 1, 1) := by decide +kernel
theorem d_X_image_60 : decode y_X_image.2.1 60 = .ok (.ifCond .ne 7, 3) := by decide +kernel
theorem d_X_image_67 : decode y_X_image.2.1 67 = .ok (.aload_n 0, 1) := by decide +kernel
theorem d_X_image_68 : decode y_X_image.2.1 68 = .ok (.iconst 1, 1) := by decide +kernel
theorem d_X_image_69 : decode y_X_image.2.1 69 = .ok (.putfield 420, 3) := by decide +kernel
theorem d_X_image_72 : decode y_X_image.2.1 72 = .ok (.iconst 1, 1) := by decide +kernel
theorem d_X_image_73 : decode y_X_image.2.1 73 = .ok (.ireturn, 1) := by decide +kernel
theorem d_X_image_22 : decode y_X_image.2.1 22 = .ok (.iload_n 1, 1) := by decide +kernel
theorem d_X_image_23 : decode y_X_image.2.1 23 = .ok (.ifCond .eq 18, 3) := by decide +kernel
theorem d_X_image_26 : decode y_X_image.2.1 26 = .ok (.aload_n 0, 1) := by decide +kernel
theorem d_X_image_27 : decode y_X_image.2.1 27 = .ok (.getfield 13, 3) := by decide +kernel
theorem fl_X_13 : FL "SinglesUpModel" 13 9 1 := ⟨"SinglesUpModel", zT9, 51, rfl, by decide, rfl, Or.inl (tw_in 1150 (by decide +kernel) rfl)⟩
theorem rm_0_1 : RM 0 1 = some 2 := by decide +kernel
theorem d_X_image_30 : decode y_X_image.2.1 30 = .ok (.iload_n 2, 1) := by decide +kernel
theorem d_X_image_31 : decode y_X_image.2.1 31 = .ok (.aload_n 0, 1) := by decide +kernel
theorem d_X_image_32 : decode y_X_image.2.1 32 = .ok (.getfield 7, 3) := by decide +kernel
theorem d_X_image_35 : decode y_X_image.2.1 35 = .ok (.iload_n 2, 1) := by decide +kernel
theorem d_X_image_36 : decode y_X_image.2.1 36 = .ok (.iaload, 1) := by decide +kernel
theorem d_X_image_37 : decode y_X_image.2.1 37 = .ok (.iastore, 1) := by decide +kernel
theorem km_2 : KM[2]? = some (0, 6190) := by decide +kernel
theorem d_X_image_38 : decode y_X_image.2.1 38 = .ok (.goto 15, 3) := by decide +kernel
theorem d_X_image_53 : decode y_X_image.2.1 53 = .ok (.iinc 2 1, 3) := by decide +kernel
theorem d_X_image_56 : decode y_X_image.2.1 56 = .ok (.goto (-41), 3) := by decide +kernel
theorem d_X_image_13 : decode y_X_image.2.1 13 = .ok (.iconst 0, 1) := by decide +kernel
theorem d_X_image_14 : decode y_X_image.2.1 14 = .ok (.istore_n 2, 1) := by decide +kernel
section
variable {l : Launch} {b : PB}
set_option maxRecDepth 20000 in
theorem fr_so3 {K2 : K2T} {I : Nat → Nat → Int32} (hK : ∀ J, (∀ q, q ≠ 0 ∧ q ≠ 24 → J q = I q) → K2 none J) : As l b 1 y_X_setsOut KM RM K2 (I) 56 [.ref 0, .int (nI 0)] [] := by
  refine aw_iload_n rfl rfl d_X_setsOut_56 ?_
  refine aw_bipush (v := nI 8) cb_8 d_X_setsOut_57 ?_
  refine aw_icmp_geI (tgt := 80) (0) (8) (by decide +kernel) (by decide +kernel) (by decide) d_X_setsOut_59 (fun q => absurd q (by decide)) (fun _ => ?_)
  refine aw_aload_n rfl rfl d_X_setsOut_62 ?_
  refine aw_getr fl_X_90 km_0 (by decide) rfl rm_0_48 d_X_setsOut_63 ?_
  refine aw_iload_n rfl rfl d_X_setsOut_66 ?_
  refine aw_aload_n rfl rfl d_X_setsOut_67 ?_
  refine aw_getr fl_X_63 km_0 (by decide) rfl rm_0_37 d_X_setsOut_68 ?_
  refine aw_iload_n rfl rfl d_X_setsOut_71 ?_
  refine aw_iald (j := 0) km_15 (vp_in_nI (by decide) (by decide)) (nI_clamp (by decide)) d_X_setsOut_72 ?_
  refine aw_top (x2 := I 15 (0)) (rfl) ?_
  refine aw_iast (j := 0) km_24 (vp_in_nI (by decide) (by decide)) (nI_clamp (by decide)) d_X_setsOut_73 ?_
  refine aw_iinc (v := nI 1) (lv2 := [.ref 0, .int (nI 1)]) rfl (by decide +kernel) (by decide) rfl d_X_setsOut_74 ?_
  refine aw_goto (tgt := 56) (by decide) d_X_setsOut_77 ?_
  refine aw_iload_n rfl rfl d_X_setsOut_56 ?_
  refine aw_bipush (v := nI 8) cb_8 d_X_setsOut_57 ?_
  refine aw_icmp_geI (tgt := 80) (1) (8) (by decide +kernel) (by decide +kernel) (by decide) d_X_setsOut_59 (fun q => absurd q (by decide)) (fun _ => ?_)
  refine aw_aload_n rfl rfl d_X_setsOut_62 ?_
  refine aw_getr fl_X_90 km_0 (by decide) rfl rm_0_48 d_X_setsOut_63 ?_
  refine aw_iload_n rfl rfl d_X_setsOut_66 ?_
  refine aw_aload_n rfl rfl d_X_setsOut_67 ?_
  refine aw_getr fl_X_63 km_0 (by decide) rfl rm_0_37 d_X_setsOut_68 ?_
  refine aw_iload_n rfl rfl d_X_setsOut_71 ?_
  refine aw_iald (j := 1) km_15 (vp_in_nI (by decide) (by decide)) (nI_clamp (by decide)) d_X_setsOut_72 ?_
  refine aw_top (x2 := I 15 (1)) (Eq.trans (congrFun (upd2_ne (by decide)) (1)) (rfl)) ?_
  refine aw_iast (j := 1) km_24 (vp_in_nI (by decide) (by decide)) (nI_clamp (by decide)) d_X_setsOut_73 ?_
  refine aw_iinc (v := nI 2) (lv2 := [.ref 0, .int (nI 2)]) rfl (by decide +kernel) (by decide) rfl d_X_setsOut_74 ?_
  refine aw_goto (tgt := 56) (by decide) d_X_setsOut_77 ?_
  refine aw_iload_n rfl rfl d_X_setsOut_56 ?_
  refine aw_bipush (v := nI 8) cb_8 d_X_setsOut_57 ?_
  refine aw_icmp_geI (tgt := 80) (2) (8) (by decide +kernel) (by decide +kernel) (by decide) d_X_setsOut_59 (fun q => absurd q (by decide)) (fun _ => ?_)
  refine aw_aload_n rfl rfl d_X_setsOut_62 ?_
  refine aw_getr fl_X_90 km_0 (by decide) rfl rm_0_48 d_X_setsOut_63 ?_
  refine aw_iload_n rfl rfl d_X_setsOut_66 ?_
  refine aw_aload_n rfl rfl d_X_setsOut_67 ?_
  refine aw_getr fl_X_63 km_0 (by decide) rfl rm_0_37 d_X_setsOut_68 ?_
  refine aw_iload_n rfl rfl d_X_setsOut_71 ?_
  refine aw_iald (j := 2) km_15 (vp_in_nI (by decide) (by decide)) (nI_clamp (by decide)) d_X_setsOut_72 ?_
  refine aw_top (x2 := I 15 (2)) (Eq.trans (congrFun (upd2_ne (by decide)) (2)) (Eq.trans (congrFun (upd2_ne (by decide)) (2)) (rfl))) ?_
  refine aw_iast (j := 2) km_24 (vp_in_nI (by decide) (by decide)) (nI_clamp (by decide)) d_X_setsOut_73 ?_
  refine aw_iinc (v := nI 3) (lv2 := [.ref 0, .int (nI 3)]) rfl (by decide +kernel) (by decide) rfl d_X_setsOut_74 ?_
  refine aw_goto (tgt := 56) (by decide) d_X_setsOut_77 ?_
  refine aw_iload_n rfl rfl d_X_setsOut_56 ?_
  refine aw_bipush (v := nI 8) cb_8 d_X_setsOut_57 ?_
  refine aw_icmp_geI (tgt := 80) (3) (8) (by decide +kernel) (by decide +kernel) (by decide) d_X_setsOut_59 (fun q => absurd q (by decide)) (fun _ => ?_)
  refine aw_aload_n rfl rfl d_X_setsOut_62 ?_
  refine aw_getr fl_X_90 km_0 (by decide) rfl rm_0_48 d_X_setsOut_63 ?_
  refine aw_iload_n rfl rfl d_X_setsOut_66 ?_
  refine aw_aload_n rfl rfl d_X_setsOut_67 ?_
  refine aw_getr fl_X_63 km_0 (by decide) rfl rm_0_37 d_X_setsOut_68 ?_
  refine aw_iload_n rfl rfl d_X_setsOut_71 ?_
  refine aw_iald (j := 3) km_15 (vp_in_nI (by decide) (by decide)) (nI_clamp (by decide)) d_X_setsOut_72 ?_
  refine aw_top (x2 := I 15 (3)) (Eq.trans (congrFun (upd2_ne (by decide)) (3)) (Eq.trans (congrFun (upd2_ne (by decide)) (3)) (Eq.trans (congrFun (upd2_ne (by decide)) (3)) (rfl)))) ?_
  refine aw_iast (j := 3) km_24 (vp_in_nI (by decide) (by decide)) (nI_clamp (by decide)) d_X_setsOut_73 ?_
  refine aw_iinc (v := nI 4) (lv2 := [.ref 0, .int (nI 4)]) rfl (by decide +kernel) (by decide) rfl d_X_setsOut_74 ?_
  refine aw_goto (tgt := 56) (by decide) d_X_setsOut_77 ?_
  refine aw_iload_n rfl rfl d_X_setsOut_56 ?_
  refine aw_bipush (v := nI 8) cb_8 d_X_setsOut_57 ?_
  refine aw_icmp_geI (tgt := 80) (4) (8) (by decide +kernel) (by decide +kernel) (by decide) d_X_setsOut_59 (fun q => absurd q (by decide)) (fun _ => ?_)
  refine aw_aload_n rfl rfl d_X_setsOut_62 ?_
  refine aw_getr fl_X_90 km_0 (by decide) rfl rm_0_48 d_X_setsOut_63 ?_
  refine aw_iload_n rfl rfl d_X_setsOut_66 ?_
  refine aw_aload_n rfl rfl d_X_setsOut_67 ?_
  refine aw_getr fl_X_63 km_0 (by decide) rfl rm_0_37 d_X_setsOut_68 ?_
  refine aw_iload_n rfl rfl d_X_setsOut_71 ?_
  refine aw_iald (j := 4) km_15 (vp_in_nI (by decide) (by decide)) (nI_clamp (by decide)) d_X_setsOut_72 ?_
  refine aw_top (x2 := I 15 (4)) (Eq.trans (congrFun (upd2_ne (by decide)) (4)) (Eq.trans (congrFun (upd2_ne (by decide)) (4)) (Eq.trans (congrFun (upd2_ne (by decide)) (4)) (Eq.trans (congrFun (upd2_ne (by decide)) (4)) (rfl))))) ?_
  refine aw_iast (j := 4) km_24 (vp_in_nI (by decide) (by decide)) (nI_clamp (by decide)) d_X_setsOut_73 ?_
  refine aw_iinc (v := nI 5) (lv2 := [.ref 0, .int (nI 5)]) rfl (by decide +kernel) (by decide) rfl d_X_setsOut_74 ?_
  refine aw_goto (tgt := 56) (by decide) d_X_setsOut_77 ?_
  refine aw_iload_n rfl rfl d_X_setsOut_56 ?_
  refine aw_bipush (v := nI 8) cb_8 d_X_setsOut_57 ?_
  refine aw_icmp_geI (tgt := 80) (5) (8) (by decide +kernel) (by decide +kernel) (by decide) d_X_setsOut_59 (fun q => absurd q (by decide)) (fun _ => ?_)
  refine aw_aload_n rfl rfl d_X_setsOut_62 ?_
  refine aw_getr fl_X_90 km_0 (by decide) rfl rm_0_48 d_X_setsOut_63 ?_
  refine aw_iload_n rfl rfl d_X_setsOut_66 ?_
  refine aw_aload_n rfl rfl d_X_setsOut_67 ?_
  refine aw_getr fl_X_63 km_0 (by decide) rfl rm_0_37 d_X_setsOut_68 ?_
  refine aw_iload_n rfl rfl d_X_setsOut_71 ?_
  refine aw_iald (j := 5) km_15 (vp_in_nI (by decide) (by decide)) (nI_clamp (by decide)) d_X_setsOut_72 ?_
  refine aw_top (x2 := I 15 (5)) (Eq.trans (congrFun (upd2_ne (by decide)) (5)) (Eq.trans (congrFun (upd2_ne (by decide)) (5)) (Eq.trans (congrFun (upd2_ne (by decide)) (5)) (Eq.trans (congrFun (upd2_ne (by decide)) (5)) (Eq.trans (congrFun (upd2_ne (by decide)) (5)) (rfl)))))) ?_
  refine aw_iast (j := 5) km_24 (vp_in_nI (by decide) (by decide)) (nI_clamp (by decide)) d_X_setsOut_73 ?_
  refine aw_iinc (v := nI 6) (lv2 := [.ref 0, .int (nI 6)]) rfl (by decide +kernel) (by decide) rfl d_X_setsOut_74 ?_
  refine aw_goto (tgt := 56) (by decide) d_X_setsOut_77 ?_
  refine aw_iload_n rfl rfl d_X_setsOut_56 ?_
  refine aw_bipush (v := nI 8) cb_8 d_X_setsOut_57 ?_
  refine aw_icmp_geI (tgt := 80) (6) (8) (by decide +kernel) (by decide +kernel) (by decide) d_X_setsOut_59 (fun q => absurd q (by decide)) (fun _ => ?_)
  refine aw_aload_n rfl rfl d_X_setsOut_62 ?_
  refine aw_getr fl_X_90 km_0 (by decide) rfl rm_0_48 d_X_setsOut_63 ?_
  refine aw_iload_n rfl rfl d_X_setsOut_66 ?_
  refine aw_aload_n rfl rfl d_X_setsOut_67 ?_
  refine aw_getr fl_X_63 km_0 (by decide) rfl rm_0_37 d_X_setsOut_68 ?_
  refine aw_iload_n rfl rfl d_X_setsOut_71 ?_
  refine aw_iald (j := 6) km_15 (vp_in_nI (by decide) (by decide)) (nI_clamp (by decide)) d_X_setsOut_72 ?_
  refine aw_top (x2 := I 15 (6)) (Eq.trans (congrFun (upd2_ne (by decide)) (6)) (Eq.trans (congrFun (upd2_ne (by decide)) (6)) (Eq.trans (congrFun (upd2_ne (by decide)) (6)) (Eq.trans (congrFun (upd2_ne (by decide)) (6)) (Eq.trans (congrFun (upd2_ne (by decide)) (6)) (Eq.trans (congrFun (upd2_ne (by decide)) (6)) (rfl))))))) ?_
  refine aw_iast (j := 6) km_24 (vp_in_nI (by decide) (by decide)) (nI_clamp (by decide)) d_X_setsOut_73 ?_
  refine aw_iinc (v := nI 7) (lv2 := [.ref 0, .int (nI 7)]) rfl (by decide +kernel) (by decide) rfl d_X_setsOut_74 ?_
  refine aw_goto (tgt := 56) (by decide) d_X_setsOut_77 ?_
  refine aw_iload_n rfl rfl d_X_setsOut_56 ?_
  refine aw_bipush (v := nI 8) cb_8 d_X_setsOut_57 ?_
  refine aw_icmp_geI (tgt := 80) (7) (8) (by decide +kernel) (by decide +kernel) (by decide) d_X_setsOut_59 (fun q => absurd q (by decide)) (fun _ => ?_)
  refine aw_aload_n rfl rfl d_X_setsOut_62 ?_
  refine aw_getr fl_X_90 km_0 (by decide) rfl rm_0_48 d_X_setsOut_63 ?_
  refine aw_iload_n rfl rfl d_X_setsOut_66 ?_
  refine aw_aload_n rfl rfl d_X_setsOut_67 ?_
  refine aw_getr fl_X_63 km_0 (by decide) rfl rm_0_37 d_X_setsOut_68 ?_
  refine aw_iload_n rfl rfl d_X_setsOut_71 ?_
  refine aw_iald (j := 7) km_15 (vp_in_nI (by decide) (by decide)) (nI_clamp (by decide)) d_X_setsOut_72 ?_
  refine aw_top (x2 := I 15 (7)) (Eq.trans (congrFun (upd2_ne (by decide)) (7)) (Eq.trans (congrFun (upd2_ne (by decide)) (7)) (Eq.trans (congrFun (upd2_ne (by decide)) (7)) (Eq.trans (congrFun (upd2_ne (by decide)) (7)) (Eq.trans (congrFun (upd2_ne (by decide)) (7)) (Eq.trans (congrFun (upd2_ne (by decide)) (7)) (Eq.trans (congrFun (upd2_ne (by decide)) (7)) (rfl)))))))) ?_
  refine aw_iast (j := 7) km_24 (vp_in_nI (by decide) (by decide)) (nI_clamp (by decide)) d_X_setsOut_73 ?_
  refine aw_iinc (v := nI 8) (lv2 := [.ref 0, .int (nI 8)]) rfl (by decide +kernel) (by decide) rfl d_X_setsOut_74 ?_
  refine aw_goto (tgt := 56) (by decide) d_X_setsOut_77 ?_
  refine aw_iload_n rfl rfl d_X_setsOut_56 ?_
  refine aw_bipush (v := nI 8) cb_8 d_X_setsOut_57 ?_
  refine aw_icmp_geI (tgt := 80) (8) (8) (by decide +kernel) (by decide +kernel) (by decide) d_X_setsOut_59 (fun _ => ?_) (fun q => absurd q (by decide))
  refine aw_aload_n rfl rfl d_X_setsOut_80 ?_
  refine aw_aload_n rfl rfl d_X_setsOut_81 ?_
  refine aw_geti fl_X_344 km_0 (by decide) rfl d_X_setsOut_82 ?_
  refine aw_puti fl_X_383 km_0 (by decide) rfl rfl rfl rfl d_X_setsOut_85 ?_
  exact as_retv rfl d_X_setsOut_88 (hK _ (fun q hq => by have n0 : q ≠ 0 := (by omega); have n24 : q ≠ 24 := (by omega); exact (upd2_ne n0).trans ((upd2_ne n24).trans ((upd2_ne n24).trans ((upd2_ne n24).trans ((upd2_ne n24).trans ((upd2_ne n24).trans ((upd2_ne n24).trans ((upd2_ne n24).trans (upd2_ne n24))))))))))
set_option maxRecDepth 20000 in
theorem lp_so2 {K2 : K2T} {I : Nat → Nat → Int32} (gp : ∀ j, j < 240 → I 13 j = nI 0) (hK : ∀ J, (∀ j, j < 240 → J 23 j = nI 0) → (∀ q, q ≠ 0 ∧ q ≠ 23 ∧ q ≠ 24 → J q = I q) → K2 none J) : ∀ (n i : Nat), i + n = 240 → As l b 1 y_X_setsOut KM RM K2 (updA I 23 (fun j => if j < i then nI 0 else I 23 j)) 29 [.ref 0, .int (nI (i))] [] := by
  intro n
  induction n with
  | zero =>
    intro i hi
    refine aw_iload_n rfl rfl d_X_setsOut_29 ?_
    refine aw_sipush (v := nI 240) cs_240 d_X_setsOut_30 ?_
    refine aw_icmp_geI (tgt := 54) ((i : Nat) : Int) (240) (nI_toInt (by omega)) (by decide +kernel) (by decide) d_X_setsOut_33 (fun _ => ?_) (fun q => absurd q (by omega))
    refine aw_iconst (v := nI 0) ci_0 d_X_setsOut_54 ?_
    refine aw_istore_n (lv2 := [.ref 0, .int (nI 0)]) rfl (by decide) rfl d_X_setsOut_55 ?_
    rw [show i = 240 by omega]; exact fr_so3 (fun J fJ => hK J (fun j hj => by rw [fJ 23 (by omega)]; exact fill_at (by omega)) (fun q hq => (fJ q (by omega)).trans (updA_ne (by omega))))
  | succ n ih =>
    intro i hi
    refine aw_iload_n rfl rfl d_X_setsOut_29 ?_
    refine aw_sipush (v := nI 240) cs_240 d_X_setsOut_30 ?_
    refine aw_icmp_geI (tgt := 54) ((i : Nat) : Int) (240) (nI_toInt (by omega)) (by decide +kernel) (by decide) d_X_setsOut_33 (fun q => absurd q (by omega)) (fun _ => ?_)
    refine aw_aload_n rfl rfl d_X_setsOut_36 ?_
    refine aw_getr fl_X_87 km_0 (by decide) rfl rm_0_47 d_X_setsOut_37 ?_
    refine aw_iload_n rfl rfl d_X_setsOut_40 ?_
    refine aw_aload_n rfl rfl d_X_setsOut_41 ?_
    refine aw_getr fl_X_57 km_0 (by decide) rfl rm_0_29 d_X_setsOut_42 ?_
    refine aw_iload_n rfl rfl d_X_setsOut_45 ?_
    refine aw_zald (j := i) km_13 (vp_in_nI (by omega) (by decide)) (nI_clamp (by omega)) d_X_setsOut_46 ?_
    refine aw_top (x2 := nI 0) ((congrFun (updA_ne (by decide)) _).trans (gp (i) (by omega))) ?_
    refine aw_zast (j := i) km_23 (vp_in_nI (by omega) (by decide)) (nI_clamp (by omega)) (by decide +kernel) d_X_setsOut_47 ?_
    refine aw_iinc (v := nI (i + 1)) (lv2 := [.ref 0, .int (nI (i + 1))]) rfl (inc_1 _) (by decide) rfl d_X_setsOut_48 ?_
    refine aw_goto (tgt := 29) (by decide) d_X_setsOut_51 ?_
    rw [fill_s]; exact ih (i + 1) (by omega)
set_option maxRecDepth 20000 in
theorem lp_so1 {K2 : K2T} {I : Nat → Nat → Int32} (gp : ∀ j, j < 240 → I 13 j = nI 0) (hK : ∀ J, (∀ j, j < 6190 → J 3 j = I 1 j) → (∀ j, j < 240 → J 23 j = nI 0) → (∀ q, q ≠ 0 ∧ q ≠ 3 ∧ q ≠ 23 ∧ q ≠ 24 → J q = I q) → K2 none J) : ∀ (n i : Nat), i + n = 6190 → As l b 1 y_X_setsOut KM RM K2 (updA I 3 (fun j => if j < i then I 1 j else I 3 j)) 2 [.ref 0, .int (nI (i))] [] := by
  intro n
  induction n with
  | zero =>
    intro i hi
    refine aw_iload_n rfl rfl d_X_setsOut_2 ?_
    refine aw_sipush (v := nI 6190) cs_6190 d_X_setsOut_3 ?_
    refine aw_icmp_geI (tgt := 27) ((i : Nat) : Int) (6190) (nI_toInt (by omega)) (by decide +kernel) (by decide) d_X_setsOut_6 (fun _ => ?_) (fun q => absurd q (by omega))
    refine aw_iconst (v := nI 0) ci_0 d_X_setsOut_27 ?_
    refine aw_istore_n (lv2 := [.ref 0, .int (nI 0)]) rfl (by decide) rfl d_X_setsOut_28 ?_
    have i9 : i = 6190 := (by omega); subst i9; have h9 := lp_so2 (l := l) (b := b) (K2 := K2) (I := updA I 3 (fun j => if j < 6190 then I 1 j else I 3 j)) (fun j hj => (congrFun (updA_ne (by decide)) _).trans (gp j hj)) (fun J eJ fJ => hK J (fun j hj => by rw [fJ 3 (by omega)]; exact copy_at (by omega)) eJ (fun q hq => (fJ q (by omega)).trans (updA_ne (by omega)))) 240 0 (by decide); rw [fill_0] at h9; exact h9
  | succ n ih =>
    intro i hi
    refine aw_iload_n rfl rfl d_X_setsOut_2 ?_
    refine aw_sipush (v := nI 6190) cs_6190 d_X_setsOut_3 ?_
    refine aw_icmp_geI (tgt := 27) ((i : Nat) : Int) (6190) (nI_toInt (by omega)) (by decide +kernel) (by decide) d_X_setsOut_6 (fun q => absurd q (by omega)) (fun _ => ?_)
    refine aw_aload_n rfl rfl d_X_setsOut_9 ?_
    refine aw_getr fl_X_16 km_0 (by decide) rfl rm_0_2 d_X_setsOut_10 ?_
    refine aw_iload_n rfl rfl d_X_setsOut_13 ?_
    refine aw_aload_n rfl rfl d_X_setsOut_14 ?_
    refine aw_getr fl_X_7 km_0 (by decide) rfl rm_0_0 d_X_setsOut_15 ?_
    refine aw_iload_n rfl rfl d_X_setsOut_18 ?_
    refine aw_iald (j := i) km_1 (vp_in_nI (by omega) (by decide)) (nI_clamp (by omega)) d_X_setsOut_19 ?_
    refine aw_top (x2 := I 1 (i)) ((congrFun (updA_ne (by decide)) _)) ?_
    refine aw_iast (j := i) km_3 (vp_in_nI (by omega) (by decide)) (nI_clamp (by omega)) d_X_setsOut_20 ?_
    refine aw_iinc (v := nI (i + 1)) (lv2 := [.ref 0, .int (nI (i + 1))]) rfl (inc_1 _) (by decide) rfl d_X_setsOut_21 ?_
    refine aw_goto (tgt := 2) (by decide) d_X_setsOut_24 ?_
    rw [copy_s]; exact ih (i + 1) (by omega)
set_option maxRecDepth 20000 in
theorem sp_so {K2 : K2T} {I : Nat → Nat → Int32} (gp : ∀ j, j < 240 → I 13 j = nI 0) (hK : ∀ J, (∀ j, j < 6190 → J 3 j = I 1 j) → (∀ j, j < 240 → J 23 j = nI 0) → (∀ q, q ≠ 0 ∧ q ≠ 3 ∧ q ≠ 23 ∧ q ≠ 24 → J q = I q) → K2 none J) : Ss l b 1 y_X_setsOut KM RM [.ref 0] (I) K2 := by
  refine Ss.of (show As l b 1 y_X_setsOut KM RM K2 (I) 0 [.ref 0, uu] [] from ?_)
  refine aw_iconst (v := nI 0) ci_0 d_X_setsOut_0 ?_
  refine aw_istore_n (lv2 := [.ref 0, .int (nI 0)]) rfl (by decide) rfl d_X_setsOut_1 ?_
  have h0 := lp_so1 (l := l) (b := b) (K2 := K2) (I := I) gp hK 6190 0 (by decide); rw [copy_0] at h0; exact h0
set_option maxRecDepth 20000 in
theorem fr_cb3 {K2 : K2T} {I : Nat → Nat → Int32} (hK : ∀ J, (∀ q, q ≠ 0 ∧ q ≠ 15 → J q = I q) → K2 none J) : As l b 1 y_X_comesBack KM RM K2 (I) 56 [.ref 0, .int (nI 0)] [] := by
  refine aw_iload_n rfl rfl d_X_comesBack_56 ?_
  refine aw_bipush (v := nI 8) cb_8 d_X_comesBack_57 ?_
  refine aw_icmp_geI (tgt := 80) (0) (8) (by decide +kernel) (by decide +kernel) (by decide) d_X_comesBack_59 (fun q => absurd q (by decide)) (fun _ => ?_)
  refine aw_aload_n rfl rfl d_X_comesBack_62 ?_
  refine aw_getr fl_X_63 km_0 (by decide) rfl rm_0_37 d_X_comesBack_63 ?_
  refine aw_iload_n rfl rfl d_X_comesBack_66 ?_
  refine aw_aload_n rfl rfl d_X_comesBack_67 ?_
  refine aw_getr fl_X_90 km_0 (by decide) rfl rm_0_48 d_X_comesBack_68 ?_
  refine aw_iload_n rfl rfl d_X_comesBack_71 ?_
  refine aw_iald (j := 0) km_24 (vp_in_nI (by decide) (by decide)) (nI_clamp (by decide)) d_X_comesBack_72 ?_
  refine aw_top (x2 := I 24 (0)) (rfl) ?_
  refine aw_iast (j := 0) km_15 (vp_in_nI (by decide) (by decide)) (nI_clamp (by decide)) d_X_comesBack_73 ?_
  refine aw_iinc (v := nI 1) (lv2 := [.ref 0, .int (nI 1)]) rfl (by decide +kernel) (by decide) rfl d_X_comesBack_74 ?_
  refine aw_goto (tgt := 56) (by decide) d_X_comesBack_77 ?_
  refine aw_iload_n rfl rfl d_X_comesBack_56 ?_
  refine aw_bipush (v := nI 8) cb_8 d_X_comesBack_57 ?_
  refine aw_icmp_geI (tgt := 80) (1) (8) (by decide +kernel) (by decide +kernel) (by decide) d_X_comesBack_59 (fun q => absurd q (by decide)) (fun _ => ?_)
  refine aw_aload_n rfl rfl d_X_comesBack_62 ?_
  refine aw_getr fl_X_63 km_0 (by decide) rfl rm_0_37 d_X_comesBack_63 ?_
  refine aw_iload_n rfl rfl d_X_comesBack_66 ?_
  refine aw_aload_n rfl rfl d_X_comesBack_67 ?_
  refine aw_getr fl_X_90 km_0 (by decide) rfl rm_0_48 d_X_comesBack_68 ?_
  refine aw_iload_n rfl rfl d_X_comesBack_71 ?_
  refine aw_iald (j := 1) km_24 (vp_in_nI (by decide) (by decide)) (nI_clamp (by decide)) d_X_comesBack_72 ?_
  refine aw_top (x2 := I 24 (1)) (Eq.trans (congrFun (upd2_ne (by decide)) (1)) (rfl)) ?_
  refine aw_iast (j := 1) km_15 (vp_in_nI (by decide) (by decide)) (nI_clamp (by decide)) d_X_comesBack_73 ?_
  refine aw_iinc (v := nI 2) (lv2 := [.ref 0, .int (nI 2)]) rfl (by decide +kernel) (by decide) rfl d_X_comesBack_74 ?_
  refine aw_goto (tgt := 56) (by decide) d_X_comesBack_77 ?_
  refine aw_iload_n rfl rfl d_X_comesBack_56 ?_
  refine aw_bipush (v := nI 8) cb_8 d_X_comesBack_57 ?_
  refine aw_icmp_geI (tgt := 80) (2) (8) (by decide +kernel) (by decide +kernel) (by decide) d_X_comesBack_59 (fun q => absurd q (by decide)) (fun _ => ?_)
  refine aw_aload_n rfl rfl d_X_comesBack_62 ?_
  refine aw_getr fl_X_63 km_0 (by decide) rfl rm_0_37 d_X_comesBack_63 ?_
  refine aw_iload_n rfl rfl d_X_comesBack_66 ?_
  refine aw_aload_n rfl rfl d_X_comesBack_67 ?_
  refine aw_getr fl_X_90 km_0 (by decide) rfl rm_0_48 d_X_comesBack_68 ?_
  refine aw_iload_n rfl rfl d_X_comesBack_71 ?_
  refine aw_iald (j := 2) km_24 (vp_in_nI (by decide) (by decide)) (nI_clamp (by decide)) d_X_comesBack_72 ?_
  refine aw_top (x2 := I 24 (2)) (Eq.trans (congrFun (upd2_ne (by decide)) (2)) (Eq.trans (congrFun (upd2_ne (by decide)) (2)) (rfl))) ?_
  refine aw_iast (j := 2) km_15 (vp_in_nI (by decide) (by decide)) (nI_clamp (by decide)) d_X_comesBack_73 ?_
  refine aw_iinc (v := nI 3) (lv2 := [.ref 0, .int (nI 3)]) rfl (by decide +kernel) (by decide) rfl d_X_comesBack_74 ?_
  refine aw_goto (tgt := 56) (by decide) d_X_comesBack_77 ?_
  refine aw_iload_n rfl rfl d_X_comesBack_56 ?_
  refine aw_bipush (v := nI 8) cb_8 d_X_comesBack_57 ?_
  refine aw_icmp_geI (tgt := 80) (3) (8) (by decide +kernel) (by decide +kernel) (by decide) d_X_comesBack_59 (fun q => absurd q (by decide)) (fun _ => ?_)
  refine aw_aload_n rfl rfl d_X_comesBack_62 ?_
  refine aw_getr fl_X_63 km_0 (by decide) rfl rm_0_37 d_X_comesBack_63 ?_
  refine aw_iload_n rfl rfl d_X_comesBack_66 ?_
  refine aw_aload_n rfl rfl d_X_comesBack_67 ?_
  refine aw_getr fl_X_90 km_0 (by decide) rfl rm_0_48 d_X_comesBack_68 ?_
  refine aw_iload_n rfl rfl d_X_comesBack_71 ?_
  refine aw_iald (j := 3) km_24 (vp_in_nI (by decide) (by decide)) (nI_clamp (by decide)) d_X_comesBack_72 ?_
  refine aw_top (x2 := I 24 (3)) (Eq.trans (congrFun (upd2_ne (by decide)) (3)) (Eq.trans (congrFun (upd2_ne (by decide)) (3)) (Eq.trans (congrFun (upd2_ne (by decide)) (3)) (rfl)))) ?_
  refine aw_iast (j := 3) km_15 (vp_in_nI (by decide) (by decide)) (nI_clamp (by decide)) d_X_comesBack_73 ?_
  refine aw_iinc (v := nI 4) (lv2 := [.ref 0, .int (nI 4)]) rfl (by decide +kernel) (by decide) rfl d_X_comesBack_74 ?_
  refine aw_goto (tgt := 56) (by decide) d_X_comesBack_77 ?_
  refine aw_iload_n rfl rfl d_X_comesBack_56 ?_
  refine aw_bipush (v := nI 8) cb_8 d_X_comesBack_57 ?_
  refine aw_icmp_geI (tgt := 80) (4) (8) (by decide +kernel) (by decide +kernel) (by decide) d_X_comesBack_59 (fun q => absurd q (by decide)) (fun _ => ?_)
  refine aw_aload_n rfl rfl d_X_comesBack_62 ?_
  refine aw_getr fl_X_63 km_0 (by decide) rfl rm_0_37 d_X_comesBack_63 ?_
  refine aw_iload_n rfl rfl d_X_comesBack_66 ?_
  refine aw_aload_n rfl rfl d_X_comesBack_67 ?_
  refine aw_getr fl_X_90 km_0 (by decide) rfl rm_0_48 d_X_comesBack_68 ?_
  refine aw_iload_n rfl rfl d_X_comesBack_71 ?_
  refine aw_iald (j := 4) km_24 (vp_in_nI (by decide) (by decide)) (nI_clamp (by decide)) d_X_comesBack_72 ?_
  refine aw_top (x2 := I 24 (4)) (Eq.trans (congrFun (upd2_ne (by decide)) (4)) (Eq.trans (congrFun (upd2_ne (by decide)) (4)) (Eq.trans (congrFun (upd2_ne (by decide)) (4)) (Eq.trans (congrFun (upd2_ne (by decide)) (4)) (rfl))))) ?_
  refine aw_iast (j := 4) km_15 (vp_in_nI (by decide) (by decide)) (nI_clamp (by decide)) d_X_comesBack_73 ?_
  refine aw_iinc (v := nI 5) (lv2 := [.ref 0, .int (nI 5)]) rfl (by decide +kernel) (by decide) rfl d_X_comesBack_74 ?_
  refine aw_goto (tgt := 56) (by decide) d_X_comesBack_77 ?_
  refine aw_iload_n rfl rfl d_X_comesBack_56 ?_
  refine aw_bipush (v := nI 8) cb_8 d_X_comesBack_57 ?_
  refine aw_icmp_geI (tgt := 80) (5) (8) (by decide +kernel) (by decide +kernel) (by decide) d_X_comesBack_59 (fun q => absurd q (by decide)) (fun _ => ?_)
  refine aw_aload_n rfl rfl d_X_comesBack_62 ?_
  refine aw_getr fl_X_63 km_0 (by decide) rfl rm_0_37 d_X_comesBack_63 ?_
  refine aw_iload_n rfl rfl d_X_comesBack_66 ?_
  refine aw_aload_n rfl rfl d_X_comesBack_67 ?_
  refine aw_getr fl_X_90 km_0 (by decide) rfl rm_0_48 d_X_comesBack_68 ?_
  refine aw_iload_n rfl rfl d_X_comesBack_71 ?_
  refine aw_iald (j := 5) km_24 (vp_in_nI (by decide) (by decide)) (nI_clamp (by decide)) d_X_comesBack_72 ?_
  refine aw_top (x2 := I 24 (5)) (Eq.trans (congrFun (upd2_ne (by decide)) (5)) (Eq.trans (congrFun (upd2_ne (by decide)) (5)) (Eq.trans (congrFun (upd2_ne (by decide)) (5)) (Eq.trans (congrFun (upd2_ne (by decide)) (5)) (Eq.trans (congrFun (upd2_ne (by decide)) (5)) (rfl)))))) ?_
  refine aw_iast (j := 5) km_15 (vp_in_nI (by decide) (by decide)) (nI_clamp (by decide)) d_X_comesBack_73 ?_
  refine aw_iinc (v := nI 6) (lv2 := [.ref 0, .int (nI 6)]) rfl (by decide +kernel) (by decide) rfl d_X_comesBack_74 ?_
  refine aw_goto (tgt := 56) (by decide) d_X_comesBack_77 ?_
  refine aw_iload_n rfl rfl d_X_comesBack_56 ?_
  refine aw_bipush (v := nI 8) cb_8 d_X_comesBack_57 ?_
  refine aw_icmp_geI (tgt := 80) (6) (8) (by decide +kernel) (by decide +kernel) (by decide) d_X_comesBack_59 (fun q => absurd q (by decide)) (fun _ => ?_)
  refine aw_aload_n rfl rfl d_X_comesBack_62 ?_
  refine aw_getr fl_X_63 km_0 (by decide) rfl rm_0_37 d_X_comesBack_63 ?_
  refine aw_iload_n rfl rfl d_X_comesBack_66 ?_
  refine aw_aload_n rfl rfl d_X_comesBack_67 ?_
  refine aw_getr fl_X_90 km_0 (by decide) rfl rm_0_48 d_X_comesBack_68 ?_
  refine aw_iload_n rfl rfl d_X_comesBack_71 ?_
  refine aw_iald (j := 6) km_24 (vp_in_nI (by decide) (by decide)) (nI_clamp (by decide)) d_X_comesBack_72 ?_
  refine aw_top (x2 := I 24 (6)) (Eq.trans (congrFun (upd2_ne (by decide)) (6)) (Eq.trans (congrFun (upd2_ne (by decide)) (6)) (Eq.trans (congrFun (upd2_ne (by decide)) (6)) (Eq.trans (congrFun (upd2_ne (by decide)) (6)) (Eq.trans (congrFun (upd2_ne (by decide)) (6)) (Eq.trans (congrFun (upd2_ne (by decide)) (6)) (rfl))))))) ?_
  refine aw_iast (j := 6) km_15 (vp_in_nI (by decide) (by decide)) (nI_clamp (by decide)) d_X_comesBack_73 ?_
  refine aw_iinc (v := nI 7) (lv2 := [.ref 0, .int (nI 7)]) rfl (by decide +kernel) (by decide) rfl d_X_comesBack_74 ?_
  refine aw_goto (tgt := 56) (by decide) d_X_comesBack_77 ?_
  refine aw_iload_n rfl rfl d_X_comesBack_56 ?_
  refine aw_bipush (v := nI 8) cb_8 d_X_comesBack_57 ?_
  refine aw_icmp_geI (tgt := 80) (7) (8) (by decide +kernel) (by decide +kernel) (by decide) d_X_comesBack_59 (fun q => absurd q (by decide)) (fun _ => ?_)
  refine aw_aload_n rfl rfl d_X_comesBack_62 ?_
  refine aw_getr fl_X_63 km_0 (by decide) rfl rm_0_37 d_X_comesBack_63 ?_
  refine aw_iload_n rfl rfl d_X_comesBack_66 ?_
  refine aw_aload_n rfl rfl d_X_comesBack_67 ?_
  refine aw_getr fl_X_90 km_0 (by decide) rfl rm_0_48 d_X_comesBack_68 ?_
  refine aw_iload_n rfl rfl d_X_comesBack_71 ?_
  refine aw_iald (j := 7) km_24 (vp_in_nI (by decide) (by decide)) (nI_clamp (by decide)) d_X_comesBack_72 ?_
  refine aw_top (x2 := I 24 (7)) (Eq.trans (congrFun (upd2_ne (by decide)) (7)) (Eq.trans (congrFun (upd2_ne (by decide)) (7)) (Eq.trans (congrFun (upd2_ne (by decide)) (7)) (Eq.trans (congrFun (upd2_ne (by decide)) (7)) (Eq.trans (congrFun (upd2_ne (by decide)) (7)) (Eq.trans (congrFun (upd2_ne (by decide)) (7)) (Eq.trans (congrFun (upd2_ne (by decide)) (7)) (rfl)))))))) ?_
  refine aw_iast (j := 7) km_15 (vp_in_nI (by decide) (by decide)) (nI_clamp (by decide)) d_X_comesBack_73 ?_
  refine aw_iinc (v := nI 8) (lv2 := [.ref 0, .int (nI 8)]) rfl (by decide +kernel) (by decide) rfl d_X_comesBack_74 ?_
  refine aw_goto (tgt := 56) (by decide) d_X_comesBack_77 ?_
  refine aw_iload_n rfl rfl d_X_comesBack_56 ?_
  refine aw_bipush (v := nI 8) cb_8 d_X_comesBack_57 ?_
  refine aw_icmp_geI (tgt := 80) (8) (8) (by decide +kernel) (by decide +kernel) (by decide) d_X_comesBack_59 (fun _ => ?_) (fun q => absurd q (by decide))
  refine aw_aload_n rfl rfl d_X_comesBack_80 ?_
  refine aw_aload_n rfl rfl d_X_comesBack_81 ?_
  refine aw_geti fl_X_383 km_0 (by decide) rfl d_X_comesBack_82 ?_
  refine aw_puti fl_X_344 km_0 (by decide) rfl rfl rfl rfl d_X_comesBack_85 ?_
  exact as_retv rfl d_X_comesBack_88 (hK _ (fun q hq => by have n0 : q ≠ 0 := (by omega); have n15 : q ≠ 15 := (by omega); exact (upd2_ne n0).trans ((upd2_ne n15).trans ((upd2_ne n15).trans ((upd2_ne n15).trans ((upd2_ne n15).trans ((upd2_ne n15).trans ((upd2_ne n15).trans ((upd2_ne n15).trans (upd2_ne n15))))))))))
set_option maxRecDepth 20000 in
theorem lp_cb2 {K2 : K2T} {I : Nat → Nat → Int32} (gp : ∀ j, j < 240 → I 23 j = nI 0) (hK : ∀ J, (∀ j, j < 240 → J 13 j = nI 0) → (∀ q, q ≠ 0 ∧ q ≠ 13 ∧ q ≠ 15 → J q = I q) → K2 none J) : ∀ (n i : Nat), i + n = 240 → As l b 1 y_X_comesBack KM RM K2 (updA I 13 (fun j => if j < i then nI 0 else I 13 j)) 29 [.ref 0, .int (nI (i))] [] := by
  intro n
  induction n with
  | zero =>
    intro i hi
    refine aw_iload_n rfl rfl d_X_comesBack_29 ?_
    refine aw_sipush (v := nI 240) cs_240 d_X_comesBack_30 ?_
    refine aw_icmp_geI (tgt := 54) ((i : Nat) : Int) (240) (nI_toInt (by omega)) (by decide +kernel) (by decide) d_X_comesBack_33 (fun _ => ?_) (fun q => absurd q (by omega))
    refine aw_iconst (v := nI 0) ci_0 d_X_comesBack_54 ?_
    refine aw_istore_n (lv2 := [.ref 0, .int (nI 0)]) rfl (by decide) rfl d_X_comesBack_55 ?_
    rw [show i = 240 by omega]; exact fr_cb3 (fun J fJ => hK J (fun j hj => by rw [fJ 13 (by omega)]; exact fill_at (by omega)) (fun q hq => (fJ q (by omega)).trans (updA_ne (by omega))))
  | succ n ih =>
    intro i hi
    refine aw_iload_n rfl rfl d_X_comesBack_29 ?_
    refine aw_sipush (v := nI 240) cs_240 d_X_comesBack_30 ?_
    refine aw_icmp_geI (tgt := 54) ((i : Nat) : Int) (240) (nI_toInt (by omega)) (by decide +kernel) (by decide) d_X_comesBack_33 (fun q => absurd q (by omega)) (fun _ => ?_)
    refine aw_aload_n rfl rfl d_X_comesBack_36 ?_
    refine aw_getr fl_X_57 km_0 (by decide) rfl rm_0_29 d_X_comesBack_37 ?_
    refine aw_iload_n rfl rfl d_X_comesBack_40 ?_
    refine aw_aload_n rfl rfl d_X_comesBack_41 ?_
    refine aw_getr fl_X_87 km_0 (by decide) rfl rm_0_47 d_X_comesBack_42 ?_
    refine aw_iload_n rfl rfl d_X_comesBack_45 ?_
    refine aw_zald (j := i) km_23 (vp_in_nI (by omega) (by decide)) (nI_clamp (by omega)) d_X_comesBack_46 ?_
    refine aw_top (x2 := nI 0) ((congrFun (updA_ne (by decide)) _).trans (gp (i) (by omega))) ?_
    refine aw_zast (j := i) km_13 (vp_in_nI (by omega) (by decide)) (nI_clamp (by omega)) (by decide +kernel) d_X_comesBack_47 ?_
    refine aw_iinc (v := nI (i + 1)) (lv2 := [.ref 0, .int (nI (i + 1))]) rfl (inc_1 _) (by decide) rfl d_X_comesBack_48 ?_
    refine aw_goto (tgt := 29) (by decide) d_X_comesBack_51 ?_
    rw [fill_s]; exact ih (i + 1) (by omega)
set_option maxRecDepth 20000 in
theorem lp_cb1 {K2 : K2T} {I : Nat → Nat → Int32} (gp : ∀ j, j < 240 → I 23 j = nI 0) (hK : ∀ J, (∀ j, j < 6190 → J 1 j = I 3 j) → (∀ j, j < 240 → J 13 j = nI 0) → (∀ q, q ≠ 0 ∧ q ≠ 1 ∧ q ≠ 13 ∧ q ≠ 15 → J q = I q) → K2 none J) : ∀ (n i : Nat), i + n = 6190 → As l b 1 y_X_comesBack KM RM K2 (updA I 1 (fun j => if j < i then I 3 j else I 1 j)) 2 [.ref 0, .int (nI (i))] [] := by
  intro n
  induction n with
  | zero =>
    intro i hi
    refine aw_iload_n rfl rfl d_X_comesBack_2 ?_
    refine aw_sipush (v := nI 6190) cs_6190 d_X_comesBack_3 ?_
    refine aw_icmp_geI (tgt := 27) ((i : Nat) : Int) (6190) (nI_toInt (by omega)) (by decide +kernel) (by decide) d_X_comesBack_6 (fun _ => ?_) (fun q => absurd q (by omega))
    refine aw_iconst (v := nI 0) ci_0 d_X_comesBack_27 ?_
    refine aw_istore_n (lv2 := [.ref 0, .int (nI 0)]) rfl (by decide) rfl d_X_comesBack_28 ?_
    have i9 : i = 6190 := (by omega); subst i9; have h9 := lp_cb2 (l := l) (b := b) (K2 := K2) (I := updA I 1 (fun j => if j < 6190 then I 3 j else I 1 j)) (fun j hj => (congrFun (updA_ne (by decide)) _).trans (gp j hj)) (fun J eJ fJ => hK J (fun j hj => by rw [fJ 1 (by omega)]; exact copy_at (by omega)) eJ (fun q hq => (fJ q (by omega)).trans (updA_ne (by omega)))) 240 0 (by decide); rw [fill_0] at h9; exact h9
  | succ n ih =>
    intro i hi
    refine aw_iload_n rfl rfl d_X_comesBack_2 ?_
    refine aw_sipush (v := nI 6190) cs_6190 d_X_comesBack_3 ?_
    refine aw_icmp_geI (tgt := 27) ((i : Nat) : Int) (6190) (nI_toInt (by omega)) (by decide +kernel) (by decide) d_X_comesBack_6 (fun q => absurd q (by omega)) (fun _ => ?_)
    refine aw_aload_n rfl rfl d_X_comesBack_9 ?_
    refine aw_getr fl_X_7 km_0 (by decide) rfl rm_0_0 d_X_comesBack_10 ?_
    refine aw_iload_n rfl rfl d_X_comesBack_13 ?_
    refine aw_aload_n rfl rfl d_X_comesBack_14 ?_
    refine aw_getr fl_X_16 km_0 (by decide) rfl rm_0_2 d_X_comesBack_15 ?_
    refine aw_iload_n rfl rfl d_X_comesBack_18 ?_
    refine aw_iald (j := i) km_3 (vp_in_nI (by omega) (by decide)) (nI_clamp (by omega)) d_X_comesBack_19 ?_
    refine aw_top (x2 := I 3 (i)) ((congrFun (updA_ne (by decide)) _)) ?_
    refine aw_iast (j := i) km_1 (vp_in_nI (by omega) (by decide)) (nI_clamp (by omega)) d_X_comesBack_20 ?_
    refine aw_iinc (v := nI (i + 1)) (lv2 := [.ref 0, .int (nI (i + 1))]) rfl (inc_1 _) (by decide) rfl d_X_comesBack_21 ?_
    refine aw_goto (tgt := 2) (by decide) d_X_comesBack_24 ?_
    rw [copy_s]; exact ih (i + 1) (by omega)
set_option maxRecDepth 20000 in
theorem sp_cb {K2 : K2T} {I : Nat → Nat → Int32} (gp : ∀ j, j < 240 → I 23 j = nI 0) (hK : ∀ J, (∀ j, j < 6190 → J 1 j = I 3 j) → (∀ j, j < 240 → J 13 j = nI 0) → (∀ q, q ≠ 0 ∧ q ≠ 1 ∧ q ≠ 13 ∧ q ≠ 15 → J q = I q) → K2 none J) : Ss l b 1 y_X_comesBack KM RM [.ref 0] (I) K2 := by
  refine Ss.of (show As l b 1 y_X_comesBack KM RM K2 (I) 0 [.ref 0, uu] [] from ?_)
  refine aw_iconst (v := nI 0) ci_0 d_X_comesBack_0 ?_
  refine aw_istore_n (lv2 := [.ref 0, .int (nI 0)]) rfl (by decide) rfl d_X_comesBack_1 ?_
  have h0 := lp_cb1 (l := l) (b := b) (K2 := K2) (I := I) gp hK 6190 0 (by decide); rw [copy_0] at h0; exact h0
theorem GM_of {I J : Nat → Nat → Int32} {s e k : Nat} (h : GM I s e k) (h1 : ∀ j, j < 6190 → J 1 j = I 1 j) (h2 : ∀ j, j < 240 → J 13 j = nI 0) : GM J s e k := by
  obtain ⟨g0, g1, g2, g3, g4, g5, g6, g7, g8, g9, g10, g11, g12, gb⟩ := h
  exact ⟨fun j hj => (h1 _ (by omega)).trans (g0 j hj), fun j hj => (h1 _ (by omega)).trans (g1 j hj), fun j hj => (h1 _ (by omega)).trans (g2 j hj), (h1 _ (by omega)).trans g3, (h1 _ (by omega)).trans g4, (h1 _ (by omega)).trans g5, (h1 _ (by omega)).trans g6, (h1 _ (by omega)).trans g7, (h1 _ (by omega)).trans g8, (h1 _ (by omega)).trans g9, fun j hj => (h1 _ (by omega)).trans (g10 j hj), fun j hj => (h1 _ (by omega)).trans (g11 j hj), h2, gb⟩
set_option maxRecDepth 20000 in
theorem sp_mturn {K2 : K2T} {I : Nat → Nat → Int32} {s e k : Nat} (hF : GM I s e k) (hb : e + s < 100000 ∧ k + 1 < 100000) (hK : ∀ I', GM I' s (e + s) (k + 1) → (∀ q, q ≠ 0 ∧ q ≠ 1 ∧ q ≠ 9 ∧ q ≠ 12 ∧ q ≠ 13 → I' q = I q) → K2 (some (.int (nI 0))) I') : Ss l b 7 y_X_turn KM RM [.ref 0] (I) K2 := by
  have hF0 := hF
  obtain ⟨g0, g1, g2, g3, g4, g5, g6, g7, g8, g9, g10, g11, g12, gb⟩ := hF
  refine Ss.of (show As l b 7 y_X_turn KM RM K2 (I) 0 [.ref 0, uu, uu] [] from ?_)
  refine aw_iconst (v := nI 0) ci_0 d_X_turn_0 ?_
  refine aw_istore_n (lv2 := [.ref 0, .int (nI 0), uu]) rfl (by decide) rfl d_X_turn_1 ?_
  refine aw_iload_n rfl rfl d_X_turn_2 ?_
  refine aw_bipush (v := nI 8) cb_8 d_X_turn_3 ?_
  refine aw_icmp_geI (tgt := 77) (0) (8) (by decide +kernel) (by decide +kernel) (by decide) d_X_turn_5 (fun q => absurd q (by decide)) (fun _ => ?_)
  refine aw_bipush (v := nI 26) cb_26 d_X_turn_8 ?_
  refine aw_iconst (v := nI 4) ci_4 d_X_turn_10 ?_
  refine aw_iload_n rfl rfl d_X_turn_11 ?_
  refine aw_imul d_X_turn_12 ?_
  refine aw_top (x2 := nI 0) (by decide +kernel) ?_
  refine aw_iadd d_X_turn_13 ?_
  refine aw_top (x2 := nI 26) (by decide +kernel) ?_
  refine aw_istore_n (lv2 := [.ref 0, .int (nI 0), .int (nI 26)]) rfl (by decide) rfl d_X_turn_14 ?_
  refine aw_aload_n rfl rfl d_X_turn_15 ?_
  refine aw_getr fl_X_7 km_0 (by decide) rfl rm_0_0 d_X_turn_16 ?_
  refine aw_iload_n rfl rfl d_X_turn_19 ?_
  refine aw_iconst (v := nI 3) ci_3 d_X_turn_20 ?_
  refine aw_iadd d_X_turn_21 ?_
  refine aw_top (x2 := nI 29) (by decide +kernel) ?_
  refine aw_iald (j := 29) km_1 (vp_in_nI (by decide) (by decide)) (nI_clamp (by decide)) d_X_turn_22 ?_
  refine aw_top (x2 := nI 0) (g0 3 (by decide)) ?_
  refine aw_if_leI (tgt := 71) (0) (by decide +kernel) (by decide) d_X_turn_23 (fun _ => ?_) (fun q => absurd q (by decide))
  refine aw_iinc (v := nI 1) (lv2 := [.ref 0, .int (nI 1), .int (nI 26)]) rfl (by decide +kernel) (by decide) rfl d_X_turn_71 ?_
  refine aw_goto (tgt := 2) (by decide) d_X_turn_74 ?_
  refine aw_iload_n rfl rfl d_X_turn_2 ?_
  refine aw_bipush (v := nI 8) cb_8 d_X_turn_3 ?_
  refine aw_icmp_geI (tgt := 77) (1) (8) (by decide +kernel) (by decide +kernel) (by decide) d_X_turn_5 (fun q => absurd q (by decide)) (fun _ => ?_)
  refine aw_bipush (v := nI 26) cb_26 d_X_turn_8 ?_
  refine aw_iconst (v := nI 4) ci_4 d_X_turn_10 ?_
  refine aw_iload_n rfl rfl d_X_turn_11 ?_
  refine aw_imul d_X_turn_12 ?_
  refine aw_top (x2 := nI 4) (by decide +kernel) ?_
  refine aw_iadd d_X_turn_13 ?_
  refine aw_top (x2 := nI 30) (by decide +kernel) ?_
  refine aw_istore_n (lv2 := [.ref 0, .int (nI 1), .int (nI 30)]) rfl (by decide) rfl d_X_turn_14 ?_
  refine aw_aload_n rfl rfl d_X_turn_15 ?_
  refine aw_getr fl_X_7 km_0 (by decide) rfl rm_0_0 d_X_turn_16 ?_
  refine aw_iload_n rfl rfl d_X_turn_19 ?_
  refine aw_iconst (v := nI 3) ci_3 d_X_turn_20 ?_
  refine aw_iadd d_X_turn_21 ?_
  refine aw_top (x2 := nI 33) (by decide +kernel) ?_
  refine aw_iald (j := 33) km_1 (vp_in_nI (by decide) (by decide)) (nI_clamp (by decide)) d_X_turn_22 ?_
  refine aw_top (x2 := nI 0) (g0 7 (by decide)) ?_
  refine aw_if_leI (tgt := 71) (0) (by decide +kernel) (by decide) d_X_turn_23 (fun _ => ?_) (fun q => absurd q (by decide))
  refine aw_iinc (v := nI 2) (lv2 := [.ref 0, .int (nI 2), .int (nI 30)]) rfl (by decide +kernel) (by decide) rfl d_X_turn_71 ?_
  refine aw_goto (tgt := 2) (by decide) d_X_turn_74 ?_
  refine aw_iload_n rfl rfl d_X_turn_2 ?_
  refine aw_bipush (v := nI 8) cb_8 d_X_turn_3 ?_
  refine aw_icmp_geI (tgt := 77) (2) (8) (by decide +kernel) (by decide +kernel) (by decide) d_X_turn_5 (fun q => absurd q (by decide)) (fun _ => ?_)
  refine aw_bipush (v := nI 26) cb_26 d_X_turn_8 ?_
  refine aw_iconst (v := nI 4) ci_4 d_X_turn_10 ?_
  refine aw_iload_n rfl rfl d_X_turn_11 ?_
  refine aw_imul d_X_turn_12 ?_
  refine aw_top (x2 := nI 8) (by decide +kernel) ?_
  refine aw_iadd d_X_turn_13 ?_
  refine aw_top (x2 := nI 34) (by decide +kernel) ?_
  refine aw_istore_n (lv2 := [.ref 0, .int (nI 2), .int (nI 34)]) rfl (by decide) rfl d_X_turn_14 ?_
  refine aw_aload_n rfl rfl d_X_turn_15 ?_
  refine aw_getr fl_X_7 km_0 (by decide) rfl rm_0_0 d_X_turn_16 ?_
  refine aw_iload_n rfl rfl d_X_turn_19 ?_
  refine aw_iconst (v := nI 3) ci_3 d_X_turn_20 ?_
  refine aw_iadd d_X_turn_21 ?_
  refine aw_top (x2 := nI 37) (by decide +kernel) ?_
  refine aw_iald (j := 37) km_1 (vp_in_nI (by decide) (by decide)) (nI_clamp (by decide)) d_X_turn_22 ?_
  refine aw_top (x2 := nI 0) (g0 11 (by decide)) ?_
  refine aw_if_leI (tgt := 71) (0) (by decide +kernel) (by decide) d_X_turn_23 (fun _ => ?_) (fun q => absurd q (by decide))
  refine aw_iinc (v := nI 3) (lv2 := [.ref 0, .int (nI 3), .int (nI 34)]) rfl (by decide +kernel) (by decide) rfl d_X_turn_71 ?_
  refine aw_goto (tgt := 2) (by decide) d_X_turn_74 ?_
  refine aw_iload_n rfl rfl d_X_turn_2 ?_
  refine aw_bipush (v := nI 8) cb_8 d_X_turn_3 ?_
  refine aw_icmp_geI (tgt := 77) (3) (8) (by decide +kernel) (by decide +kernel) (by decide) d_X_turn_5 (fun q => absurd q (by decide)) (fun _ => ?_)
  refine aw_bipush (v := nI 26) cb_26 d_X_turn_8 ?_
  refine aw_iconst (v := nI 4) ci_4 d_X_turn_10 ?_
  refine aw_iload_n rfl rfl d_X_turn_11 ?_
  refine aw_imul d_X_turn_12 ?_
  refine aw_top (x2 := nI 12) (by decide +kernel) ?_
  refine aw_iadd d_X_turn_13 ?_
  refine aw_top (x2 := nI 38) (by decide +kernel) ?_
  refine aw_istore_n (lv2 := [.ref 0, .int (nI 3), .int (nI 38)]) rfl (by decide) rfl d_X_turn_14 ?_
  refine aw_aload_n rfl rfl d_X_turn_15 ?_
  refine aw_getr fl_X_7 km_0 (by decide) rfl rm_0_0 d_X_turn_16 ?_
  refine aw_iload_n rfl rfl d_X_turn_19 ?_
  refine aw_iconst (v := nI 3) ci_3 d_X_turn_20 ?_
  refine aw_iadd d_X_turn_21 ?_
  refine aw_top (x2 := nI 41) (by decide +kernel) ?_
  refine aw_iald (j := 41) km_1 (vp_in_nI (by decide) (by decide)) (nI_clamp (by decide)) d_X_turn_22 ?_
  refine aw_top (x2 := nI 0) (g0 15 (by decide)) ?_
  refine aw_if_leI (tgt := 71) (0) (by decide +kernel) (by decide) d_X_turn_23 (fun _ => ?_) (fun q => absurd q (by decide))
  refine aw_iinc (v := nI 4) (lv2 := [.ref 0, .int (nI 4), .int (nI 38)]) rfl (by decide +kernel) (by decide) rfl d_X_turn_71 ?_
  refine aw_goto (tgt := 2) (by decide) d_X_turn_74 ?_
  refine aw_iload_n rfl rfl d_X_turn_2 ?_
  refine aw_bipush (v := nI 8) cb_8 d_X_turn_3 ?_
  refine aw_icmp_geI (tgt := 77) (4) (8) (by decide +kernel) (by decide +kernel) (by decide) d_X_turn_5 (fun q => absurd q (by decide)) (fun _ => ?_)
  refine aw_bipush (v := nI 26) cb_26 d_X_turn_8 ?_
  refine aw_iconst (v := nI 4) ci_4 d_X_turn_10 ?_
  refine aw_iload_n rfl rfl d_X_turn_11 ?_
  refine aw_imul d_X_turn_12 ?_
  refine aw_top (x2 := nI 16) (by decide +kernel) ?_
  refine aw_iadd d_X_turn_13 ?_
  refine aw_top (x2 := nI 42) (by decide +kernel) ?_
  refine aw_istore_n (lv2 := [.ref 0, .int (nI 4), .int (nI 42)]) rfl (by decide) rfl d_X_turn_14 ?_
  refine aw_aload_n rfl rfl d_X_turn_15 ?_
  refine aw_getr fl_X_7 km_0 (by decide) rfl rm_0_0 d_X_turn_16 ?_
  refine aw_iload_n rfl rfl d_X_turn_19 ?_
  refine aw_iconst (v := nI 3) ci_3 d_X_turn_20 ?_
  refine aw_iadd d_X_turn_21 ?_
  refine aw_top (x2 := nI 45) (by decide +kernel) ?_
  refine aw_iald (j := 45) km_1 (vp_in_nI (by decide) (by decide)) (nI_clamp (by decide)) d_X_turn_22 ?_
  refine aw_top (x2 := nI 0) (g0 19 (by decide)) ?_
  refine aw_if_leI (tgt := 71) (0) (by decide +kernel) (by decide) d_X_turn_23 (fun _ => ?_) (fun q => absurd q (by decide))
  refine aw_iinc (v := nI 5) (lv2 := [.ref 0, .int (nI 5), .int (nI 42)]) rfl (by decide +kernel) (by decide) rfl d_X_turn_71 ?_
  refine aw_goto (tgt := 2) (by decide) d_X_turn_74 ?_
  refine aw_iload_n rfl rfl d_X_turn_2 ?_
  refine aw_bipush (v := nI 8) cb_8 d_X_turn_3 ?_
  refine aw_icmp_geI (tgt := 77) (5) (8) (by decide +kernel) (by decide +kernel) (by decide) d_X_turn_5 (fun q => absurd q (by decide)) (fun _ => ?_)
  refine aw_bipush (v := nI 26) cb_26 d_X_turn_8 ?_
  refine aw_iconst (v := nI 4) ci_4 d_X_turn_10 ?_
  refine aw_iload_n rfl rfl d_X_turn_11 ?_
  refine aw_imul d_X_turn_12 ?_
  refine aw_top (x2 := nI 20) (by decide +kernel) ?_
  refine aw_iadd d_X_turn_13 ?_
  refine aw_top (x2 := nI 46) (by decide +kernel) ?_
  refine aw_istore_n (lv2 := [.ref 0, .int (nI 5), .int (nI 46)]) rfl (by decide) rfl d_X_turn_14 ?_
  refine aw_aload_n rfl rfl d_X_turn_15 ?_
  refine aw_getr fl_X_7 km_0 (by decide) rfl rm_0_0 d_X_turn_16 ?_
  refine aw_iload_n rfl rfl d_X_turn_19 ?_
  refine aw_iconst (v := nI 3) ci_3 d_X_turn_20 ?_
  refine aw_iadd d_X_turn_21 ?_
  refine aw_top (x2 := nI 49) (by decide +kernel) ?_
  refine aw_iald (j := 49) km_1 (vp_in_nI (by decide) (by decide)) (nI_clamp (by decide)) d_X_turn_22 ?_
  refine aw_top (x2 := nI 0) (g0 23 (by decide)) ?_
  refine aw_if_leI (tgt := 71) (0) (by decide +kernel) (by decide) d_X_turn_23 (fun _ => ?_) (fun q => absurd q (by decide))
  refine aw_iinc (v := nI 6) (lv2 := [.ref 0, .int (nI 6), .int (nI 46)]) rfl (by decide +kernel) (by decide) rfl d_X_turn_71 ?_
  refine aw_goto (tgt := 2) (by decide) d_X_turn_74 ?_
  refine aw_iload_n rfl rfl d_X_turn_2 ?_
  refine aw_bipush (v := nI 8) cb_8 d_X_turn_3 ?_
  refine aw_icmp_geI (tgt := 77) (6) (8) (by decide +kernel) (by decide +kernel) (by decide) d_X_turn_5 (fun q => absurd q (by decide)) (fun _ => ?_)
  refine aw_bipush (v := nI 26) cb_26 d_X_turn_8 ?_
  refine aw_iconst (v := nI 4) ci_4 d_X_turn_10 ?_
  refine aw_iload_n rfl rfl d_X_turn_11 ?_
  refine aw_imul d_X_turn_12 ?_
  refine aw_top (x2 := nI 24) (by decide +kernel) ?_
  refine aw_iadd d_X_turn_13 ?_
  refine aw_top (x2 := nI 50) (by decide +kernel) ?_
  refine aw_istore_n (lv2 := [.ref 0, .int (nI 6), .int (nI 50)]) rfl (by decide) rfl d_X_turn_14 ?_
  refine aw_aload_n rfl rfl d_X_turn_15 ?_
  refine aw_getr fl_X_7 km_0 (by decide) rfl rm_0_0 d_X_turn_16 ?_
  refine aw_iload_n rfl rfl d_X_turn_19 ?_
  refine aw_iconst (v := nI 3) ci_3 d_X_turn_20 ?_
  refine aw_iadd d_X_turn_21 ?_
  refine aw_top (x2 := nI 53) (by decide +kernel) ?_
  refine aw_iald (j := 53) km_1 (vp_in_nI (by decide) (by decide)) (nI_clamp (by decide)) d_X_turn_22 ?_
  refine aw_top (x2 := nI 0) (g0 27 (by decide)) ?_
  refine aw_if_leI (tgt := 71) (0) (by decide +kernel) (by decide) d_X_turn_23 (fun _ => ?_) (fun q => absurd q (by decide))
  refine aw_iinc (v := nI 7) (lv2 := [.ref 0, .int (nI 7), .int (nI 50)]) rfl (by decide +kernel) (by decide) rfl d_X_turn_71 ?_
  refine aw_goto (tgt := 2) (by decide) d_X_turn_74 ?_
  refine aw_iload_n rfl rfl d_X_turn_2 ?_
  refine aw_bipush (v := nI 8) cb_8 d_X_turn_3 ?_
  refine aw_icmp_geI (tgt := 77) (7) (8) (by decide +kernel) (by decide +kernel) (by decide) d_X_turn_5 (fun q => absurd q (by decide)) (fun _ => ?_)
  refine aw_bipush (v := nI 26) cb_26 d_X_turn_8 ?_
  refine aw_iconst (v := nI 4) ci_4 d_X_turn_10 ?_
  refine aw_iload_n rfl rfl d_X_turn_11 ?_
  refine aw_imul d_X_turn_12 ?_
  refine aw_top (x2 := nI 28) (by decide +kernel) ?_
  refine aw_iadd d_X_turn_13 ?_
  refine aw_top (x2 := nI 54) (by decide +kernel) ?_
  refine aw_istore_n (lv2 := [.ref 0, .int (nI 7), .int (nI 54)]) rfl (by decide) rfl d_X_turn_14 ?_
  refine aw_aload_n rfl rfl d_X_turn_15 ?_
  refine aw_getr fl_X_7 km_0 (by decide) rfl rm_0_0 d_X_turn_16 ?_
  refine aw_iload_n rfl rfl d_X_turn_19 ?_
  refine aw_iconst (v := nI 3) ci_3 d_X_turn_20 ?_
  refine aw_iadd d_X_turn_21 ?_
  refine aw_top (x2 := nI 57) (by decide +kernel) ?_
  refine aw_iald (j := 57) km_1 (vp_in_nI (by decide) (by decide)) (nI_clamp (by decide)) d_X_turn_22 ?_
  refine aw_top (x2 := nI 0) (g0 31 (by decide)) ?_
  refine aw_if_leI (tgt := 71) (0) (by decide +kernel) (by decide) d_X_turn_23 (fun _ => ?_) (fun q => absurd q (by decide))
  refine aw_iinc (v := nI 8) (lv2 := [.ref 0, .int (nI 8), .int (nI 54)]) rfl (by decide +kernel) (by decide) rfl d_X_turn_71 ?_
  refine aw_goto (tgt := 2) (by decide) d_X_turn_74 ?_
  refine aw_iload_n rfl rfl d_X_turn_2 ?_
  refine aw_bipush (v := nI 8) cb_8 d_X_turn_3 ?_
  refine aw_icmp_geI (tgt := 77) (8) (8) (by decide +kernel) (by decide +kernel) (by decide) d_X_turn_5 (fun _ => ?_) (fun q => absurd q (by decide))
  refine aw_aload_n rfl rfl d_X_turn_77 ?_
  refine as_callV (as := []) (d' := 6) (q := ("SinglesUpModel", zT9, 51)) mo_X_chair lk_X_338 km_0 rfl rfl rfl ⟨by decide, by decide⟩ rfl rfl (by decide) d_X_turn_78 (sp_mchair (I := I) (s := s) (e := e) (k := k) hF0 (by omega) (fun J1 gm2 f3 => ?_))
  refine (show As l b 7 y_X_turn KM RM K2 (J1) 81 [.ref 0, .int (nI 8), .int (nI 54)] [.int (nI 0)] from ?_)
  exact as_reti rfl d_X_turn_81 (hK _ gm2 f3)
set_option maxRecDepth 20000 in
theorem lp_mrun {K2 : K2T} {n0 : Nat} (hn0 : n0 ≤ 60) (hK : ∀ I', K2 (some (.int (nI 0))) I') : ∀ (n i : Nat) (I : Nat → Nat → Int32), i + n = n0 → GM I 4 (i * 4) i → As l b 14 y_X_run KM RM K2 (I) 16 [.ref 0, .int (nI (n0)), .int (nI 0), .int (nI (i))] [] := by
  intro n
  induction n with
  | zero =>
    intro i I hi hF0
    refine aw_iload_n rfl rfl d_X_run_16 ?_
    refine aw_iload_n rfl rfl d_X_run_17 ?_
    refine aw_icmp_geI (tgt := 34) ((i : Nat) : Int) ((n0 : Nat) : Int) (nI_toInt (by omega)) (nI_toInt (by omega)) (by decide) d_X_run_18 (fun _ => ?_) (fun q => absurd q (by omega))
    refine aw_iload_n rfl rfl d_X_run_34 ?_
    exact as_reti rfl d_X_run_35 (hK _)
  | succ n ih =>
    intro i I hi hF0
    refine aw_iload_n rfl rfl d_X_run_16 ?_
    refine aw_iload_n rfl rfl d_X_run_17 ?_
    refine aw_icmp_geI (tgt := 34) ((i : Nat) : Int) ((n0 : Nat) : Int) (nI_toInt (by omega)) (nI_toInt (by omega)) (by decide) d_X_run_18 (fun q => absurd q (by omega)) (fun _ => ?_)
    refine aw_iload_n rfl rfl d_X_run_21 ?_
    refine aw_aload_n rfl rfl d_X_run_22 ?_
    refine as_callV (as := []) (d' := 7) (q := ("SinglesUpModel", zT9, 51)) mo_X_turn lk_X_341 km_0 rfl rfl rfl ⟨by decide, by decide⟩ rfl rfl (by decide) d_X_run_23 (sp_mturn (I := I) (s := 4) (e := (i * 4)) (k := i) hF0 (by omega) (fun J1 gm2 f3 => ?_))
    refine (show As l b 14 y_X_run KM RM K2 (J1) 26 [.ref 0, .int (nI (n0)), .int (nI 0), .int (nI (i))] [.int (nI 0), .int (nI 0)] from ?_)
    refine aw_iadd d_X_run_26 ?_
    refine aw_top (x2 := nI 0) (by decide +kernel) ?_
    refine aw_istore_n (lv2 := [.ref 0, .int (nI (n0)), .int (nI 0), .int (nI (i))]) rfl (by decide) rfl d_X_run_27 ?_
    refine aw_iinc (v := nI (i + 1)) (lv2 := [.ref 0, .int (nI (n0)), .int (nI 0), .int (nI (i + 1))]) rfl (inc_1 _) (by decide) rfl d_X_run_28 ?_
    refine aw_goto (tgt := 16) (by decide) d_X_run_31 ?_
    exact ih (i + 1) _ (by omega) (by rw [show (i + 1) * 4 = i * 4 + 4 by omega]; exact gm2)
set_option maxRecDepth 20000 in
theorem ms_run {K2 : K2T} {I : Nat → Nat → Int32} (hR : FRm I) {x : Int32} (hg : 1 ≤ x.toInt ∧ x.toInt ≤ 60 → ∀ I', K2 (some (.int (nI 0))) I') (hb : ¬ (1 ≤ x.toInt ∧ x.toInt ≤ 60) → ∀ I', K2 (some (.int (-1))) I') : Ss l b 14 y_X_run KM RM [.ref 0, .int (x)] (I) K2 := by
  obtain ⟨hF, w0, w2, w3, w5, w6, w7, w73, w74, wh, w110, o3, o12, o19, o21, o22, o23, o35⟩ := hR
  have hF0 := hF
  obtain ⟨g0, g1, g2, g3, g4, g5, g6, g7, g8, g9, g10, g11, g12, gb⟩ := hF
  refine Ss.of (show As l b 14 y_X_run KM RM K2 (I) 0 [.ref 0, .int (x), uu, uu] [] from ?_)
  refine aw_iload_n rfl rfl d_X_run_0 ?_
  refine aw_iconst (v := nI 1) ci_1 d_X_run_1 ?_
  refine aw_bipush (v := nI 60) cb_60 d_X_run_2 ?_
  refine as_callS (as := [.int (x), .int (nI 1), .int (nI 60)]) (d' := 13) mo_X_isIn lk_X_98 rfl ⟨by decide, by decide⟩ rfl rfl (by decide) d_X_run_4 (Ss.of (show As l b 13 y_X_isIn KM RM _ (I) 0 [.int (x), .int (nI 1), .int (nI 60)] [] from ?_))
  refine aw_iload_n rfl rfl d_X_isIn_0 ?_
  refine aw_iload_n rfl rfl d_X_isIn_1 ?_
  refine aw_icmp_ltI (tgt := 14) (x).toInt (1) rfl (by decide +kernel) (by decide) d_X_isIn_2 (fun c1 => ?_) (fun c1 => ?_)
  · refine aw_iconst (v := nI 0) ci_0 d_X_isIn_14 ?_
    refine as_retz rfl (by decide +kernel) d_X_isIn_15 ?_
    refine (show As l b 14 y_X_run KM RM K2 (I) 7 [.ref 0, .int (x), uu, uu] [.int (nI 0)] from ?_)
    refine aw_if_neI (tgt := 12) (0) (by decide +kernel) (by decide) d_X_run_7 (fun q => absurd q (by decide)) (fun _ => ?_)
    refine aw_iconst (v := (-1 : Int32)) rfl d_X_run_10 ?_
    exact as_reti rfl d_X_run_11 (hb (by omega) _)
  · refine aw_iload_n rfl rfl d_X_isIn_5 ?_
    refine aw_iload_n rfl rfl d_X_isIn_6 ?_
    refine aw_icmp_gtI (tgt := 14) (x).toInt (60) rfl (by decide +kernel) (by decide) d_X_isIn_7 (fun c2 => ?_) (fun c2 => ?_)
    · refine aw_iconst (v := nI 0) ci_0 d_X_isIn_14 ?_
      refine as_retz rfl (by decide +kernel) d_X_isIn_15 ?_
      refine (show As l b 14 y_X_run KM RM K2 (I) 7 [.ref 0, .int (x), uu, uu] [.int (nI 0)] from ?_)
      refine aw_if_neI (tgt := 12) (0) (by decide +kernel) (by decide) d_X_run_7 (fun q => absurd q (by decide)) (fun _ => ?_)
      refine aw_iconst (v := (-1 : Int32)) rfl d_X_run_10 ?_
      exact as_reti rfl d_X_run_11 (hb (by omega) _)
    · refine aw_iconst (v := nI 1) ci_1 d_X_isIn_10 ?_
      refine aw_goto (tgt := 15) (by decide) d_X_isIn_11 ?_
      refine as_retz rfl (by decide +kernel) d_X_isIn_15 ?_
      refine (show As l b 14 y_X_run KM RM K2 (I) 7 [.ref 0, .int (x), uu, uu] [.int (nI 1)] from ?_)
      refine aw_if_neI (tgt := 12) (1) (by decide +kernel) (by decide) d_X_run_7 (fun _ => ?_) (fun q => absurd q (by decide))
      obtain ⟨w1, hw1, ew1, gw1⟩ := nI_of_range (x := x) (n := 61) (by omega) (by omega)
      subst ew1
      refine aw_iconst (v := nI 0) ci_0 d_X_run_12 ?_
      refine aw_istore_n (lv2 := [.ref 0, .int (nI (w1)), .int (nI 0), uu]) rfl (by decide) rfl d_X_run_13 ?_
      refine aw_iconst (v := nI 0) ci_0 d_X_run_14 ?_
      refine aw_istore_n (lv2 := [.ref 0, .int (nI (w1)), .int (nI 0), .int (nI 0)]) rfl (by decide) rfl d_X_run_15 ?_
      exact lp_mrun (by omega) (hg (by omega)) w1 0 I (by omega) hF0
theorem ms_chair {K2 : K2T} {I : Nat → Nat → Int32} (hR : FRm I) (hK : ∀ I', K2 (some (.int (nI 0))) I') : Ss l b 6 y_X_chair KM RM [.ref 0] (I) K2 := sp_mchair hR.1 (by decide) (fun I' _ _ => hK I')
set_option maxRecDepth 20000 in
theorem ms_send {K2 : K2T} {I : Nat → Nat → Int32} (hR : FRm I) (hK : ∀ I', K2 (some (.int (nI 0))) I') : Ss l b 14 y_X_send KM RM [.ref 0] (I) K2 := by
  obtain ⟨hF, w0, w2, w3, w5, w6, w7, w73, w74, wh, w110, o3, o12, o19, o21, o22, o23, o35⟩ := hR
  have hF0 := hF
  obtain ⟨g0, g1, g2, g3, g4, g5, g6, g7, g8, g9, g10, g11, g12, gb⟩ := hF
  refine Ss.of (show As l b 14 y_X_send KM RM K2 (I) 0 [.ref 0, uu] [] from ?_)
  refine aw_aload_n rfl rfl d_X_send_0 ?_
  refine as_callV (as := []) (d' := 1) (q := ("SinglesUpModel", zT9, 51)) mo_X_begins lk_X_315 km_0 rfl rfl rfl ⟨by decide, by decide⟩ rfl rfl (by decide) d_X_send_1 (sp_begins (I := I) (s := 4) (g3) ?_)
  refine (show As l b 14 y_X_send KM RM K2 (upd2 (upd2 (upd2 (upd2 (upd2 (updA (updA (I) 9 (fun j => if j < 240 then nI 0 else (I) 9 j)) 12 (fun j => if j < 240 then nI 0 else (I) 12 j)) 0 30 (nI (4))) 0 31 (nI 0)) 0 32 (nI 0)) 0 33 (nI 0)) 0 34 (nI 0)) 4 [.ref 0, uu] [] from ?_)
  refine aw_iconst (v := nI 0) ci_0 d_X_send_4 ?_
  refine aw_istore_n (lv2 := [.ref 0, .int (nI 0)]) rfl (by decide) rfl d_X_send_5 ?_
  refine aw_iload_n rfl rfl d_X_send_6 ?_
  refine aw_aload_n rfl rfl d_X_send_7 ?_
  refine aw_geti fl_X_344 km_0 (by decide) rfl d_X_send_8 ?_
  refine aw_top (x2 := nI 0) (Eq.trans (upd2_nx (by omega)) (Eq.trans (upd2_nx (by omega)) (Eq.trans (upd2_nx (by omega)) (Eq.trans (upd2_nx (by omega)) (Eq.trans (upd2_nx (by omega)) (Eq.trans (congrFun (updA_ne (by decide)) (35)) (Eq.trans (congrFun (updA_ne (by decide)) (35)) (o35)))))))) ?_
  refine aw_icmp_geI (tgt := 62) (0) (0) (by decide +kernel) (by decide +kernel) (by decide) d_X_send_11 (fun _ => ?_) (fun q => absurd q (by decide))
  refine aw_aload_n rfl rfl d_X_send_62 ?_
  refine as_callV (as := []) (d' := 13) (q := ("SinglesUpModel", zT9, 51)) mo_X_goesOff lk_X_335 km_0 rfl rfl rfl ⟨by decide, by decide⟩ rfl rfl (by decide) d_X_send_63 (Ss.of (show As l b 13 y_X_goesOff KM RM _ (upd2 (upd2 (upd2 (upd2 (upd2 (updA (updA (I) 9 (fun j => if j < 240 then nI 0 else (I) 9 j)) 12 (fun j => if j < 240 then nI 0 else (I) 12 j)) 0 30 (nI (4))) 0 31 (nI 0)) 0 32 (nI 0)) 0 33 (nI 0)) 0 34 (nI 0)) 0 [.ref 0, uu, uu, uu, uu, uu, uu] [] from ?_))
  refine aw_aload_n rfl rfl d_X_goesOff_0 ?_
  refine aw_getr fl_X_7 km_0 (by decide) rfl rm_0_0 d_X_goesOff_1 ?_
  refine aw_iconst (v := nI 1) ci_1 d_X_goesOff_4 ?_
  refine aw_iald (j := 1) km_1 (vp_in_nI (by decide) (by decide)) (nI_clamp (by decide)) d_X_goesOff_5 ?_
  refine aw_top (x2 := nI 4) (Eq.trans (congrFun (upd2_ne (by decide)) (1)) (Eq.trans (congrFun (upd2_ne (by decide)) (1)) (Eq.trans (congrFun (upd2_ne (by decide)) (1)) (Eq.trans (congrFun (upd2_ne (by decide)) (1)) (Eq.trans (congrFun (upd2_ne (by decide)) (1)) (Eq.trans (congrFun (updA_ne (by decide)) (1)) (Eq.trans (congrFun (updA_ne (by decide)) (1)) (g3)))))))) ?_
  refine aw_aload_n rfl rfl d_X_goesOff_6 ?_
  refine aw_geti fl_X_289 km_0 (by decide) rfl d_X_goesOff_7 ?_
  refine aw_top (x2 := nI 4) (Eq.trans (upd2_nx (by omega)) (Eq.trans (upd2_nx (by omega)) (Eq.trans (upd2_nx (by omega)) (Eq.trans (upd2_nx (by omega)) (upd2_eq))))) ?_
  refine aw_isub d_X_goesOff_10 ?_
  refine aw_top (x2 := nI 0) (by decide +kernel) ?_
  refine aw_istore_n (lv2 := [.ref 0, .int (nI 0), uu, uu, uu, uu, uu]) rfl (by decide) rfl d_X_goesOff_11 ?_
  refine aw_aload_n rfl rfl d_X_goesOff_12 ?_
  refine aw_getr fl_X_7 km_0 (by decide) rfl rm_0_0 d_X_goesOff_13 ?_
  refine aw_bipush (v := nI 71) cb_71 d_X_goesOff_16 ?_
  refine aw_dup2 rfl rfl d_X_goesOff_18 ?_
  refine aw_iald (j := 71) km_1 (vp_in_nI (by decide) (by decide)) (nI_clamp (by decide)) d_X_goesOff_19 ?_
  refine aw_top (x2 := nI 0) (Eq.trans (congrFun (upd2_ne (by decide)) (71)) (Eq.trans (congrFun (upd2_ne (by decide)) (71)) (Eq.trans (congrFun (upd2_ne (by decide)) (71)) (Eq.trans (congrFun (upd2_ne (by decide)) (71)) (Eq.trans (congrFun (upd2_ne (by decide)) (71)) (Eq.trans (congrFun (updA_ne (by decide)) (71)) (Eq.trans (congrFun (updA_ne (by decide)) (71)) (g5)))))))) ?_
  refine aw_aload_n rfl rfl d_X_goesOff_20 ?_
  refine aw_geti fl_X_289 km_0 (by decide) rfl d_X_goesOff_21 ?_
  refine aw_top (x2 := nI 4) (Eq.trans (upd2_nx (by omega)) (Eq.trans (upd2_nx (by omega)) (Eq.trans (upd2_nx (by omega)) (Eq.trans (upd2_nx (by omega)) (upd2_eq))))) ?_
  refine aw_iadd d_X_goesOff_24 ?_
  refine aw_top (x2 := nI 4) (by decide +kernel) ?_
  refine aw_iast (j := 71) km_1 (vp_in_nI (by decide) (by decide)) (nI_clamp (by decide)) d_X_goesOff_25 ?_
  refine aw_aload_n rfl rfl d_X_goesOff_26 ?_
  refine aw_getr fl_X_7 km_0 (by decide) rfl rm_0_0 d_X_goesOff_27 ?_
  refine aw_bipush (v := nI 72) cb_72 d_X_goesOff_30 ?_
  refine aw_dup2 rfl rfl d_X_goesOff_32 ?_
  refine aw_iald (j := 72) km_1 (vp_in_nI (by decide) (by decide)) (nI_clamp (by decide)) d_X_goesOff_33 ?_
  refine aw_top (x2 := nI 0) (Eq.trans (upd2_nx (by omega)) (Eq.trans (congrFun (upd2_ne (by decide)) (72)) (Eq.trans (congrFun (upd2_ne (by decide)) (72)) (Eq.trans (congrFun (upd2_ne (by decide)) (72)) (Eq.trans (congrFun (upd2_ne (by decide)) (72)) (Eq.trans (congrFun (upd2_ne (by decide)) (72)) (Eq.trans (congrFun (updA_ne (by decide)) (72)) (Eq.trans (congrFun (updA_ne (by decide)) (72)) (g7))))))))) ?_
  refine aw_iload_n rfl rfl d_X_goesOff_34 ?_
  refine aw_iadd d_X_goesOff_35 ?_
  refine aw_top (x2 := nI 0) (by decide +kernel) ?_
  refine aw_iast (j := 72) km_1 (vp_in_nI (by decide) (by decide)) (nI_clamp (by decide)) d_X_goesOff_36 ?_
  refine aw_aload_n rfl rfl d_X_goesOff_37 ?_
  refine aw_getr fl_X_7 km_0 (by decide) rfl rm_0_0 d_X_goesOff_38 ?_
  refine aw_bipush (v := nI 110) cb_110 d_X_goesOff_41 ?_
  refine aw_aload_n rfl rfl d_X_goesOff_43 ?_
  refine aw_geti fl_X_291 km_0 (by decide) rfl d_X_goesOff_44 ?_
  refine aw_top (x2 := nI 0) (Eq.trans (congrFun (upd2_ne (by decide)) (31)) (Eq.trans (congrFun (upd2_ne (by decide)) (31)) (Eq.trans (upd2_nx (by omega)) (Eq.trans (upd2_nx (by omega)) (Eq.trans (upd2_nx (by omega)) (upd2_eq)))))) ?_
  refine aw_iast (j := 110) km_1 (vp_in_nI (by decide) (by decide)) (nI_clamp (by decide)) d_X_goesOff_47 ?_
  refine aw_aload_n rfl rfl d_X_goesOff_48 ?_
  refine aw_getr fl_X_7 km_0 (by decide) rfl rm_0_0 d_X_goesOff_49 ?_
  refine aw_bipush (v := nI 111) cb_111 d_X_goesOff_52 ?_
  refine aw_aload_n rfl rfl d_X_goesOff_54 ?_
  refine aw_geti fl_X_289 km_0 (by decide) rfl d_X_goesOff_55 ?_
  refine aw_top (x2 := nI 4) (Eq.trans (congrFun (upd2_ne (by decide)) (30)) (Eq.trans (congrFun (upd2_ne (by decide)) (30)) (Eq.trans (congrFun (upd2_ne (by decide)) (30)) (Eq.trans (upd2_nx (by omega)) (Eq.trans (upd2_nx (by omega)) (Eq.trans (upd2_nx (by omega)) (Eq.trans (upd2_nx (by omega)) (upd2_eq)))))))) ?_
  refine aw_iast (j := 111) km_1 (vp_in_nI (by decide) (by decide)) (nI_clamp (by decide)) d_X_goesOff_58 ?_
  refine aw_iconst (v := nI 0) ci_0 d_X_goesOff_59 ?_
  refine aw_istore_n (lv2 := [.ref 0, .int (nI 0), .int (nI 0), uu, uu, uu, uu]) rfl (by decide) rfl d_X_goesOff_60 ?_
  refine aw_iload_n rfl rfl d_X_goesOff_61 ?_
  refine aw_aload_n rfl rfl d_X_goesOff_62 ?_
  refine aw_geti fl_X_291 km_0 (by decide) rfl d_X_goesOff_63 ?_
  refine aw_top (x2 := nI 0) (Eq.trans (congrFun (upd2_ne (by decide)) (31)) (Eq.trans (congrFun (upd2_ne (by decide)) (31)) (Eq.trans (congrFun (upd2_ne (by decide)) (31)) (Eq.trans (congrFun (upd2_ne (by decide)) (31)) (Eq.trans (upd2_nx (by omega)) (Eq.trans (upd2_nx (by omega)) (Eq.trans (upd2_nx (by omega)) (upd2_eq)))))))) ?_
  refine aw_icmp_geI (tgt := 203) (0) (0) (by decide +kernel) (by decide +kernel) (by decide) d_X_goesOff_66 (fun _ => ?_) (fun q => absurd q (by decide))
  refine aw_iconst (v := nI 0) ci_0 d_X_goesOff_203 ?_
  refine aw_istore_n (lv2 := [.ref 0, .int (nI 0), .int (nI 0), uu, uu, uu, uu]) rfl (by decide) rfl d_X_goesOff_204 ?_
  refine aw_iload_n rfl rfl d_X_goesOff_205 ?_
  refine aw_aload_n rfl rfl d_X_goesOff_206 ?_
  refine aw_geti fl_X_293 km_0 (by decide) rfl d_X_goesOff_207 ?_
  refine aw_top (x2 := nI 0) (Eq.trans (congrFun (upd2_ne (by decide)) (32)) (Eq.trans (congrFun (upd2_ne (by decide)) (32)) (Eq.trans (congrFun (upd2_ne (by decide)) (32)) (Eq.trans (congrFun (upd2_ne (by decide)) (32)) (Eq.trans (upd2_nx (by omega)) (Eq.trans (upd2_nx (by omega)) (upd2_eq))))))) ?_
  refine aw_icmp_geI (tgt := 264) (0) (0) (by decide +kernel) (by decide +kernel) (by decide) d_X_goesOff_210 (fun _ => ?_) (fun q => absurd q (by decide))
  refine aw_iconst (v := nI 0) ci_0 d_X_goesOff_264 ?_
  refine aw_istore_n (lv2 := [.ref 0, .int (nI 0), .int (nI 0), uu, uu, uu, uu]) rfl (by decide) rfl d_X_goesOff_265 ?_
  refine aw_iload_n rfl rfl d_X_goesOff_266 ?_
  refine aw_bipush (v := nI 6) cb_6 d_X_goesOff_267 ?_
  refine aw_icmp_geI (tgt := 283) (0) (6) (by decide +kernel) (by decide +kernel) (by decide) d_X_goesOff_269 (fun q => absurd q (by decide)) (fun _ => ?_)
  refine aw_aload_n rfl rfl d_X_goesOff_272 ?_
  refine aw_iload_n rfl rfl d_X_goesOff_273 ?_
  refine as_callV (as := [.int (nI 0)]) (d' := 12) (q := ("SinglesUpModel", zT9, 51)) mo_X_movesUp lk_X_325 km_0 rfl rfl rfl ⟨by decide, by decide⟩ rfl rfl (by decide) d_X_goesOff_274 (Ss.of (show As l b 12 y_X_movesUp KM RM _ (upd2 (upd2 (upd2 (upd2 (upd2 (upd2 (upd2 (upd2 (upd2 (updA (updA (I) 9 (fun j => if j < 240 then nI 0 else (I) 9 j)) 12 (fun j => if j < 240 then nI 0 else (I) 12 j)) 0 30 (nI (4))) 0 31 (nI 0)) 0 32 (nI 0)) 0 33 (nI 0)) 0 34 (nI 0)) 1 (71) (nI 4)) 1 (72) (nI 0)) 1 (110) (nI 0)) 1 (111) (nI 4)) 0 [.ref 0, .int (nI 0), uu, uu, uu, uu, uu, uu, uu] [] from ?_))
  refine aw_aload_n rfl rfl d_X_movesUp_0 ?_
  refine aw_getr fl_X_7 km_0 (by decide) rfl rm_0_0 d_X_movesUp_1 ?_
  refine aw_sipush (v := nI 130) cs_130 d_X_movesUp_4 ?_
  refine aw_iload_n rfl rfl d_X_movesUp_7 ?_
  refine aw_iadd d_X_movesUp_8 ?_
  refine aw_top (x2 := nI 130) (by decide +kernel) ?_
  refine aw_iald (j := 130) km_1 (vp_in_nI (by decide) (by decide)) (nI_clamp (by decide)) d_X_movesUp_9 ?_
  refine aw_top (x2 := nI 0) (Eq.trans (upd2_nx (by omega)) (Eq.trans (upd2_nx (by omega)) (Eq.trans (upd2_nx (by omega)) (Eq.trans (upd2_nx (by omega)) (Eq.trans (congrFun (upd2_ne (by decide)) (130)) (Eq.trans (congrFun (upd2_ne (by decide)) (130)) (Eq.trans (congrFun (upd2_ne (by decide)) (130)) (Eq.trans (congrFun (upd2_ne (by decide)) (130)) (Eq.trans (congrFun (upd2_ne (by decide)) (130)) (Eq.trans (congrFun (updA_ne (by decide)) (130)) (Eq.trans (congrFun (updA_ne (by decide)) (130)) (g1 0 (by decide))))))))))))) ?_
  refine aw_istore_n (lv2 := [.ref 0, .int (nI 0), .int (nI 0), uu, uu, uu, uu, uu, uu]) rfl (by decide) rfl d_X_movesUp_10 ?_
  refine aw_iconst (v := nI 0) ci_0 d_X_movesUp_11 ?_
  refine aw_istore_n (lv2 := [.ref 0, .int (nI 0), .int (nI 0), .int (nI 0), uu, uu, uu, uu, uu]) rfl (by decide) rfl d_X_movesUp_12 ?_
  refine aw_iconst (v := nI 0) ci_0 d_X_movesUp_13 ?_
  refine aw_istore (lv2 := [.ref 0, .int (nI 0), .int (nI 0), .int (nI 0), .int (nI 0), uu, uu, uu, uu]) (by decide) rfl d_X_movesUp_14 ?_
  refine aw_iload rfl d_X_movesUp_16 ?_
  refine aw_iload_n rfl rfl d_X_movesUp_18 ?_
  refine aw_icmp_geI (tgt := 51) (0) (0) (by decide +kernel) (by decide +kernel) (by decide) d_X_movesUp_19 (fun _ => ?_) (fun q => absurd q (by decide))
  refine aw_iconst (v := nI 0) ci_0 d_X_movesUp_51 ?_
  refine aw_istore (lv2 := [.ref 0, .int (nI 0), .int (nI 0), .int (nI 0), .int (nI 0), uu, uu, uu, uu]) (by decide) rfl d_X_movesUp_52 ?_
  refine aw_iconst (v := nI 0) ci_0 d_X_movesUp_54 ?_
  refine aw_istore (lv2 := [.ref 0, .int (nI 0), .int (nI 0), .int (nI 0), .int (nI 0), .int (nI 0), uu, uu, uu]) (by decide) rfl d_X_movesUp_55 ?_
  refine aw_iload rfl d_X_movesUp_57 ?_
  refine aw_iload_n rfl rfl d_X_movesUp_59 ?_
  refine aw_icmp_geI (tgt := 254) (0) (0) (by decide +kernel) (by decide +kernel) (by decide) d_X_movesUp_60 (fun _ => ?_) (fun q => absurd q (by decide))
  refine aw_aload_n rfl rfl d_X_movesUp_254 ?_
  refine aw_getr fl_X_7 km_0 (by decide) rfl rm_0_0 d_X_movesUp_255 ?_
  refine aw_sipush (v := nI 130) cs_130 d_X_movesUp_258 ?_
  refine aw_iload_n rfl rfl d_X_movesUp_261 ?_
  refine aw_iadd d_X_movesUp_262 ?_
  refine aw_top (x2 := nI 130) (by decide +kernel) ?_
  refine aw_iload rfl d_X_movesUp_263 ?_
  refine aw_iast (j := 130) km_1 (vp_in_nI (by decide) (by decide)) (nI_clamp (by decide)) d_X_movesUp_265 ?_
  refine as_retv rfl d_X_movesUp_266 ?_
  refine (show As l b 13 y_X_goesOff KM RM _ (upd2 (upd2 (upd2 (upd2 (upd2 (upd2 (upd2 (upd2 (upd2 (upd2 (updA (updA (I) 9 (fun j => if j < 240 then nI 0 else (I) 9 j)) 12 (fun j => if j < 240 then nI 0 else (I) 12 j)) 0 30 (nI (4))) 0 31 (nI 0)) 0 32 (nI 0)) 0 33 (nI 0)) 0 34 (nI 0)) 1 (71) (nI 4)) 1 (72) (nI 0)) 1 (110) (nI 0)) 1 (111) (nI 4)) 1 (130) (nI 0)) 277 [.ref 0, .int (nI 0), .int (nI 0), uu, uu, uu, uu] [] from ?_)
  refine aw_iinc (v := nI 1) (lv2 := [.ref 0, .int (nI 0), .int (nI 1), uu, uu, uu, uu]) rfl (by decide +kernel) (by decide) rfl d_X_goesOff_277 ?_
  refine aw_goto (tgt := 266) (by decide) d_X_goesOff_280 ?_
  refine aw_iload_n rfl rfl d_X_goesOff_266 ?_
  refine aw_bipush (v := nI 6) cb_6 d_X_goesOff_267 ?_
  refine aw_icmp_geI (tgt := 283) (1) (6) (by decide +kernel) (by decide +kernel) (by decide) d_X_goesOff_269 (fun q => absurd q (by decide)) (fun _ => ?_)
  refine aw_aload_n rfl rfl d_X_goesOff_272 ?_
  refine aw_iload_n rfl rfl d_X_goesOff_273 ?_
  refine as_callV (as := [.int (nI 1)]) (d' := 12) (q := ("SinglesUpModel", zT9, 51)) mo_X_movesUp lk_X_325 km_0 rfl rfl rfl ⟨by decide, by decide⟩ rfl rfl (by decide) d_X_goesOff_274 (Ss.of (show As l b 12 y_X_movesUp KM RM _ (upd2 (upd2 (upd2 (upd2 (upd2 (upd2 (upd2 (upd2 (upd2 (upd2 (updA (updA (I) 9 (fun j => if j < 240 then nI 0 else (I) 9 j)) 12 (fun j => if j < 240 then nI 0 else (I) 12 j)) 0 30 (nI (4))) 0 31 (nI 0)) 0 32 (nI 0)) 0 33 (nI 0)) 0 34 (nI 0)) 1 (71) (nI 4)) 1 (72) (nI 0)) 1 (110) (nI 0)) 1 (111) (nI 4)) 1 (130) (nI 0)) 0 [.ref 0, .int (nI 1), uu, uu, uu, uu, uu, uu, uu] [] from ?_))
  refine aw_aload_n rfl rfl d_X_movesUp_0 ?_
  refine aw_getr fl_X_7 km_0 (by decide) rfl rm_0_0 d_X_movesUp_1 ?_
  refine aw_sipush (v := nI 130) cs_130 d_X_movesUp_4 ?_
  refine aw_iload_n rfl rfl d_X_movesUp_7 ?_
  refine aw_iadd d_X_movesUp_8 ?_
  refine aw_top (x2 := nI 131) (by decide +kernel) ?_
  refine aw_iald (j := 131) km_1 (vp_in_nI (by decide) (by decide)) (nI_clamp (by decide)) d_X_movesUp_9 ?_
  refine aw_top (x2 := nI 0) (Eq.trans (upd2_nx (by omega)) (Eq.trans (upd2_nx (by omega)) (Eq.trans (upd2_nx (by omega)) (Eq.trans (upd2_nx (by omega)) (Eq.trans (upd2_nx (by omega)) (Eq.trans (congrFun (upd2_ne (by decide)) (131)) (Eq.trans (congrFun (upd2_ne (by decide)) (131)) (Eq.trans (congrFun (upd2_ne (by decide)) (131)) (Eq.trans (congrFun (upd2_ne (by decide)) (131)) (Eq.trans (congrFun (upd2_ne (by decide)) (131)) (Eq.trans (congrFun (updA_ne (by decide)) (131)) (Eq.trans (congrFun (updA_ne (by decide)) (131)) (g1 1 (by decide)))))))))))))) ?_
  refine aw_istore_n (lv2 := [.ref 0, .int (nI 1), .int (nI 0), uu, uu, uu, uu, uu, uu]) rfl (by decide) rfl d_X_movesUp_10 ?_
  refine aw_iconst (v := nI 0) ci_0 d_X_movesUp_11 ?_
  refine aw_istore_n (lv2 := [.ref 0, .int (nI 1), .int (nI 0), .int (nI 0), uu, uu, uu, uu, uu]) rfl (by decide) rfl d_X_movesUp_12 ?_
  refine aw_iconst (v := nI 0) ci_0 d_X_movesUp_13 ?_
  refine aw_istore (lv2 := [.ref 0, .int (nI 1), .int (nI 0), .int (nI 0), .int (nI 0), uu, uu, uu, uu]) (by decide) rfl d_X_movesUp_14 ?_
  refine aw_iload rfl d_X_movesUp_16 ?_
  refine aw_iload_n rfl rfl d_X_movesUp_18 ?_
  refine aw_icmp_geI (tgt := 51) (0) (0) (by decide +kernel) (by decide +kernel) (by decide) d_X_movesUp_19 (fun _ => ?_) (fun q => absurd q (by decide))
  refine aw_iconst (v := nI 0) ci_0 d_X_movesUp_51 ?_
  refine aw_istore (lv2 := [.ref 0, .int (nI 1), .int (nI 0), .int (nI 0), .int (nI 0), uu, uu, uu, uu]) (by decide) rfl d_X_movesUp_52 ?_
  refine aw_iconst (v := nI 0) ci_0 d_X_movesUp_54 ?_
  refine aw_istore (lv2 := [.ref 0, .int (nI 1), .int (nI 0), .int (nI 0), .int (nI 0), .int (nI 0), uu, uu, uu]) (by decide) rfl d_X_movesUp_55 ?_
  refine aw_iload rfl d_X_movesUp_57 ?_
  refine aw_iload_n rfl rfl d_X_movesUp_59 ?_
  refine aw_icmp_geI (tgt := 254) (0) (0) (by decide +kernel) (by decide +kernel) (by decide) d_X_movesUp_60 (fun _ => ?_) (fun q => absurd q (by decide))
  refine aw_aload_n rfl rfl d_X_movesUp_254 ?_
  refine aw_getr fl_X_7 km_0 (by decide) rfl rm_0_0 d_X_movesUp_255 ?_
  refine aw_sipush (v := nI 130) cs_130 d_X_movesUp_258 ?_
  refine aw_iload_n rfl rfl d_X_movesUp_261 ?_
  refine aw_iadd d_X_movesUp_262 ?_
  refine aw_top (x2 := nI 131) (by decide +kernel) ?_
  refine aw_iload rfl d_X_movesUp_263 ?_
  refine aw_iast (j := 131) km_1 (vp_in_nI (by decide) (by decide)) (nI_clamp (by decide)) d_X_movesUp_265 ?_
  refine as_retv rfl d_X_movesUp_266 ?_
  refine (show As l b 13 y_X_goesOff KM RM _ (upd2 (upd2 (upd2 (upd2 (upd2 (upd2 (upd2 (upd2 (upd2 (upd2 (upd2 (updA (updA (I) 9 (fun j => if j < 240 then nI 0 else (I) 9 j)) 12 (fun j => if j < 240 then nI 0 else (I) 12 j)) 0 30 (nI (4))) 0 31 (nI 0)) 0 32 (nI 0)) 0 33 (nI 0)) 0 34 (nI 0)) 1 (71) (nI 4)) 1 (72) (nI 0)) 1 (110) (nI 0)) 1 (111) (nI 4)) 1 (130) (nI 0)) 1 (131) (nI 0)) 277 [.ref 0, .int (nI 0), .int (nI 1), uu, uu, uu, uu] [] from ?_)
  refine aw_iinc (v := nI 2) (lv2 := [.ref 0, .int (nI 0), .int (nI 2), uu, uu, uu, uu]) rfl (by decide +kernel) (by decide) rfl d_X_goesOff_277 ?_
  refine aw_goto (tgt := 266) (by decide) d_X_goesOff_280 ?_
  refine aw_iload_n rfl rfl d_X_goesOff_266 ?_
  refine aw_bipush (v := nI 6) cb_6 d_X_goesOff_267 ?_
  refine aw_icmp_geI (tgt := 283) (2) (6) (by decide +kernel) (by decide +kernel) (by decide) d_X_goesOff_269 (fun q => absurd q (by decide)) (fun _ => ?_)
  refine aw_aload_n rfl rfl d_X_goesOff_272 ?_
  refine aw_iload_n rfl rfl d_X_goesOff_273 ?_
  refine as_callV (as := [.int (nI 2)]) (d' := 12) (q := ("SinglesUpModel", zT9, 51)) mo_X_movesUp lk_X_325 km_0 rfl rfl rfl ⟨by decide, by decide⟩ rfl rfl (by decide) d_X_goesOff_274 (Ss.of (show As l b 12 y_X_movesUp KM RM _ (upd2 (upd2 (upd2 (upd2 (upd2 (upd2 (upd2 (upd2 (upd2 (upd2 (upd2 (updA (updA (I) 9 (fun j => if j < 240 then nI 0 else (I) 9 j)) 12 (fun j => if j < 240 then nI 0 else (I) 12 j)) 0 30 (nI (4))) 0 31 (nI 0)) 0 32 (nI 0)) 0 33 (nI 0)) 0 34 (nI 0)) 1 (71) (nI 4)) 1 (72) (nI 0)) 1 (110) (nI 0)) 1 (111) (nI 4)) 1 (130) (nI 0)) 1 (131) (nI 0)) 0 [.ref 0, .int (nI 2), uu, uu, uu, uu, uu, uu, uu] [] from ?_))
  refine aw_aload_n rfl rfl d_X_movesUp_0 ?_
  refine aw_getr fl_X_7 km_0 (by decide) rfl rm_0_0 d_X_movesUp_1 ?_
  refine aw_sipush (v := nI 130) cs_130 d_X_movesUp_4 ?_
  refine aw_iload_n rfl rfl d_X_movesUp_7 ?_
  refine aw_iadd d_X_movesUp_8 ?_
  refine aw_top (x2 := nI 132) (by decide +kernel) ?_
  refine aw_iald (j := 132) km_1 (vp_in_nI (by decide) (by decide)) (nI_clamp (by decide)) d_X_movesUp_9 ?_
  refine aw_top (x2 := nI 0) (Eq.trans (upd2_nx (by omega)) (Eq.trans (upd2_nx (by omega)) (Eq.trans (upd2_nx (by omega)) (Eq.trans (upd2_nx (by omega)) (Eq.trans (upd2_nx (by omega)) (Eq.trans (upd2_nx (by omega)) (Eq.trans (congrFun (upd2_ne (by decide)) (132)) (Eq.trans (congrFun (upd2_ne (by decide)) (132)) (Eq.trans (congrFun (upd2_ne (by decide)) (132)) (Eq.trans (congrFun (upd2_ne (by decide)) (132)) (Eq.trans (congrFun (upd2_ne (by decide)) (132)) (Eq.trans (congrFun (updA_ne (by decide)) (132)) (Eq.trans (congrFun (updA_ne (by decide)) (132)) (g1 2 (by decide))))))))))))))) ?_
  refine aw_istore_n (lv2 := [.ref 0, .int (nI 2), .int (nI 0), uu, uu, uu, uu, uu, uu]) rfl (by decide) rfl d_X_movesUp_10 ?_
  refine aw_iconst (v := nI 0) ci_0 d_X_movesUp_11 ?_
  refine aw_istore_n (lv2 := [.ref 0, .int (nI 2), .int (nI 0), .int (nI 0), uu, uu, uu, uu, uu]) rfl (by decide) rfl d_X_movesUp_12 ?_
  refine aw_iconst (v := nI 0) ci_0 d_X_movesUp_13 ?_
  refine aw_istore (lv2 := [.ref 0, .int (nI 2), .int (nI 0), .int (nI 0), .int (nI 0), uu, uu, uu, uu]) (by decide) rfl d_X_movesUp_14 ?_
  refine aw_iload rfl d_X_movesUp_16 ?_
  refine aw_iload_n rfl rfl d_X_movesUp_18 ?_
  refine aw_icmp_geI (tgt := 51) (0) (0) (by decide +kernel) (by decide +kernel) (by decide) d_X_movesUp_19 (fun _ => ?_) (fun q => absurd q (by decide))
  refine aw_iconst (v := nI 0) ci_0 d_X_movesUp_51 ?_
  refine aw_istore (lv2 := [.ref 0, .int (nI 2), .int (nI 0), .int (nI 0), .int (nI 0), uu, uu, uu, uu]) (by decide) rfl d_X_movesUp_52 ?_
  refine aw_iconst (v := nI 0) ci_0 d_X_movesUp_54 ?_
  refine aw_istore (lv2 := [.ref 0, .int (nI 2), .int (nI 0), .int (nI 0), .int (nI 0), .int (nI 0), uu, uu, uu]) (by decide) rfl d_X_movesUp_55 ?_
  refine aw_iload rfl d_X_movesUp_57 ?_
  refine aw_iload_n rfl rfl d_X_movesUp_59 ?_
  refine aw_icmp_geI (tgt := 254) (0) (0) (by decide +kernel) (by decide +kernel) (by decide) d_X_movesUp_60 (fun _ => ?_) (fun q => absurd q (by decide))
  refine aw_aload_n rfl rfl d_X_movesUp_254 ?_
  refine aw_getr fl_X_7 km_0 (by decide) rfl rm_0_0 d_X_movesUp_255 ?_
  refine aw_sipush (v := nI 130) cs_130 d_X_movesUp_258 ?_
  refine aw_iload_n rfl rfl d_X_movesUp_261 ?_
  refine aw_iadd d_X_movesUp_262 ?_
  refine aw_top (x2 := nI 132) (by decide +kernel) ?_
  refine aw_iload rfl d_X_movesUp_263 ?_
  refine aw_iast (j := 132) km_1 (vp_in_nI (by decide) (by decide)) (nI_clamp (by decide)) d_X_movesUp_265 ?_
  refine as_retv rfl d_X_movesUp_266 ?_
  refine (show As l b 13 y_X_goesOff KM RM _ (upd2 (upd2 (upd2 (upd2 (upd2 (upd2 (upd2 (upd2 (upd2 (upd2 (upd2 (upd2 (updA (updA (I) 9 (fun j => if j < 240 then nI 0 else (I) 9 j)) 12 (fun j => if j < 240 then nI 0 else (I) 12 j)) 0 30 (nI (4))) 0 31 (nI 0)) 0 32 (nI 0)) 0 33 (nI 0)) 0 34 (nI 0)) 1 (71) (nI 4)) 1 (72) (nI 0)) 1 (110) (nI 0)) 1 (111) (nI 4)) 1 (130) (nI 0)) 1 (131) (nI 0)) 1 (132) (nI 0)) 277 [.ref 0, .int (nI 0), .int (nI 2), uu, uu, uu, uu] [] from ?_)
  refine aw_iinc (v := nI 3) (lv2 := [.ref 0, .int (nI 0), .int (nI 3), uu, uu, uu, uu]) rfl (by decide +kernel) (by decide) rfl d_X_goesOff_277 ?_
  refine aw_goto (tgt := 266) (by decide) d_X_goesOff_280 ?_
  refine aw_iload_n rfl rfl d_X_goesOff_266 ?_
  refine aw_bipush (v := nI 6) cb_6 d_X_goesOff_267 ?_
  refine aw_icmp_geI (tgt := 283) (3) (6) (by decide +kernel) (by decide +kernel) (by decide) d_X_goesOff_269 (fun q => absurd q (by decide)) (fun _ => ?_)
  refine aw_aload_n rfl rfl d_X_goesOff_272 ?_
  refine aw_iload_n rfl rfl d_X_goesOff_273 ?_
  refine as_callV (as := [.int (nI 3)]) (d' := 12) (q := ("SinglesUpModel", zT9, 51)) mo_X_movesUp lk_X_325 km_0 rfl rfl rfl ⟨by decide, by decide⟩ rfl rfl (by decide) d_X_goesOff_274 (Ss.of (show As l b 12 y_X_movesUp KM RM _ (upd2 (upd2 (upd2 (upd2 (upd2 (upd2 (upd2 (upd2 (upd2 (upd2 (upd2 (upd2 (updA (updA (I) 9 (fun j => if j < 240 then nI 0 else (I) 9 j)) 12 (fun j => if j < 240 then nI 0 else (I) 12 j)) 0 30 (nI (4))) 0 31 (nI 0)) 0 32 (nI 0)) 0 33 (nI 0)) 0 34 (nI 0)) 1 (71) (nI 4)) 1 (72) (nI 0)) 1 (110) (nI 0)) 1 (111) (nI 4)) 1 (130) (nI 0)) 1 (131) (nI 0)) 1 (132) (nI 0)) 0 [.ref 0, .int (nI 3), uu, uu, uu, uu, uu, uu, uu] [] from ?_))
  refine aw_aload_n rfl rfl d_X_movesUp_0 ?_
  refine aw_getr fl_X_7 km_0 (by decide) rfl rm_0_0 d_X_movesUp_1 ?_
  refine aw_sipush (v := nI 130) cs_130 d_X_movesUp_4 ?_
  refine aw_iload_n rfl rfl d_X_movesUp_7 ?_
  refine aw_iadd d_X_movesUp_8 ?_
  refine aw_top (x2 := nI 133) (by decide +kernel) ?_
  refine aw_iald (j := 133) km_1 (vp_in_nI (by decide) (by decide)) (nI_clamp (by decide)) d_X_movesUp_9 ?_
  refine aw_top (x2 := nI 0) (Eq.trans (upd2_nx (by omega)) (Eq.trans (upd2_nx (by omega)) (Eq.trans (upd2_nx (by omega)) (Eq.trans (upd2_nx (by omega)) (Eq.trans (upd2_nx (by omega)) (Eq.trans (upd2_nx (by omega)) (Eq.trans (upd2_nx (by omega)) (Eq.trans (congrFun (upd2_ne (by decide)) (133)) (Eq.trans (congrFun (upd2_ne (by decide)) (133)) (Eq.trans (congrFun (upd2_ne (by decide)) (133)) (Eq.trans (congrFun (upd2_ne (by decide)) (133)) (Eq.trans (congrFun (upd2_ne (by decide)) (133)) (Eq.trans (congrFun (updA_ne (by decide)) (133)) (Eq.trans (congrFun (updA_ne (by decide)) (133)) (g1 3 (by decide)))))))))))))))) ?_
  refine aw_istore_n (lv2 := [.ref 0, .int (nI 3), .int (nI 0), uu, uu, uu, uu, uu, uu]) rfl (by decide) rfl d_X_movesUp_10 ?_
  refine aw_iconst (v := nI 0) ci_0 d_X_movesUp_11 ?_
  refine aw_istore_n (lv2 := [.ref 0, .int (nI 3), .int (nI 0), .int (nI 0), uu, uu, uu, uu, uu]) rfl (by decide) rfl d_X_movesUp_12 ?_
  refine aw_iconst (v := nI 0) ci_0 d_X_movesUp_13 ?_
  refine aw_istore (lv2 := [.ref 0, .int (nI 3), .int (nI 0), .int (nI 0), .int (nI 0), uu, uu, uu, uu]) (by decide) rfl d_X_movesUp_14 ?_
  refine aw_iload rfl d_X_movesUp_16 ?_
  refine aw_iload_n rfl rfl d_X_movesUp_18 ?_
  refine aw_icmp_geI (tgt := 51) (0) (0) (by decide +kernel) (by decide +kernel) (by decide) d_X_movesUp_19 (fun _ => ?_) (fun q => absurd q (by decide))
  refine aw_iconst (v := nI 0) ci_0 d_X_movesUp_51 ?_
  refine aw_istore (lv2 := [.ref 0, .int (nI 3), .int (nI 0), .int (nI 0), .int (nI 0), uu, uu, uu, uu]) (by decide) rfl d_X_movesUp_52 ?_
  refine aw_iconst (v := nI 0) ci_0 d_X_movesUp_54 ?_
  refine aw_istore (lv2 := [.ref 0, .int (nI 3), .int (nI 0), .int (nI 0), .int (nI 0), .int (nI 0), uu, uu, uu]) (by decide) rfl d_X_movesUp_55 ?_
  refine aw_iload rfl d_X_movesUp_57 ?_
  refine aw_iload_n rfl rfl d_X_movesUp_59 ?_
  refine aw_icmp_geI (tgt := 254) (0) (0) (by decide +kernel) (by decide +kernel) (by decide) d_X_movesUp_60 (fun _ => ?_) (fun q => absurd q (by decide))
  refine aw_aload_n rfl rfl d_X_movesUp_254 ?_
  refine aw_getr fl_X_7 km_0 (by decide) rfl rm_0_0 d_X_movesUp_255 ?_
  refine aw_sipush (v := nI 130) cs_130 d_X_movesUp_258 ?_
  refine aw_iload_n rfl rfl d_X_movesUp_261 ?_
  refine aw_iadd d_X_movesUp_262 ?_
  refine aw_top (x2 := nI 133) (by decide +kernel) ?_
  refine aw_iload rfl d_X_movesUp_263 ?_
  refine aw_iast (j := 133) km_1 (vp_in_nI (by decide) (by decide)) (nI_clamp (by decide)) d_X_movesUp_265 ?_
  refine as_retv rfl d_X_movesUp_266 ?_
  refine (show As l b 13 y_X_goesOff KM RM _ (upd2 (upd2 (upd2 (upd2 (upd2 (upd2 (upd2 (upd2 (upd2 (upd2 (upd2 (upd2 (upd2 (updA (updA (I) 9 (fun j => if j < 240 then nI 0 else (I) 9 j)) 12 (fun j => if j < 240 then nI 0 else (I) 12 j)) 0 30 (nI (4))) 0 31 (nI 0)) 0 32 (nI 0)) 0 33 (nI 0)) 0 34 (nI 0)) 1 (71) (nI 4)) 1 (72) (nI 0)) 1 (110) (nI 0)) 1 (111) (nI 4)) 1 (130) (nI 0)) 1 (131) (nI 0)) 1 (132) (nI 0)) 1 (133) (nI 0)) 277 [.ref 0, .int (nI 0), .int (nI 3), uu, uu, uu, uu] [] from ?_)
  refine aw_iinc (v := nI 4) (lv2 := [.ref 0, .int (nI 0), .int (nI 4), uu, uu, uu, uu]) rfl (by decide +kernel) (by decide) rfl d_X_goesOff_277 ?_
  refine aw_goto (tgt := 266) (by decide) d_X_goesOff_280 ?_
  refine aw_iload_n rfl rfl d_X_goesOff_266 ?_
  refine aw_bipush (v := nI 6) cb_6 d_X_goesOff_267 ?_
  refine aw_icmp_geI (tgt := 283) (4) (6) (by decide +kernel) (by decide +kernel) (by decide) d_X_goesOff_269 (fun q => absurd q (by decide)) (fun _ => ?_)
  refine aw_aload_n rfl rfl d_X_goesOff_272 ?_
  refine aw_iload_n rfl rfl d_X_goesOff_273 ?_
  refine as_callV (as := [.int (nI 4)]) (d' := 12) (q := ("SinglesUpModel", zT9, 51)) mo_X_movesUp lk_X_325 km_0 rfl rfl rfl ⟨by decide, by decide⟩ rfl rfl (by decide) d_X_goesOff_274 (Ss.of (show As l b 12 y_X_movesUp KM RM _ (upd2 (upd2 (upd2 (upd2 (upd2 (upd2 (upd2 (upd2 (upd2 (upd2 (upd2 (upd2 (upd2 (updA (updA (I) 9 (fun j => if j < 240 then nI 0 else (I) 9 j)) 12 (fun j => if j < 240 then nI 0 else (I) 12 j)) 0 30 (nI (4))) 0 31 (nI 0)) 0 32 (nI 0)) 0 33 (nI 0)) 0 34 (nI 0)) 1 (71) (nI 4)) 1 (72) (nI 0)) 1 (110) (nI 0)) 1 (111) (nI 4)) 1 (130) (nI 0)) 1 (131) (nI 0)) 1 (132) (nI 0)) 1 (133) (nI 0)) 0 [.ref 0, .int (nI 4), uu, uu, uu, uu, uu, uu, uu] [] from ?_))
  refine aw_aload_n rfl rfl d_X_movesUp_0 ?_
  refine aw_getr fl_X_7 km_0 (by decide) rfl rm_0_0 d_X_movesUp_1 ?_
  refine aw_sipush (v := nI 130) cs_130 d_X_movesUp_4 ?_
  refine aw_iload_n rfl rfl d_X_movesUp_7 ?_
  refine aw_iadd d_X_movesUp_8 ?_
  refine aw_top (x2 := nI 134) (by decide +kernel) ?_
  refine aw_iald (j := 134) km_1 (vp_in_nI (by decide) (by decide)) (nI_clamp (by decide)) d_X_movesUp_9 ?_
  refine aw_top (x2 := nI 0) (Eq.trans (upd2_nx (by omega)) (Eq.trans (upd2_nx (by omega)) (Eq.trans (upd2_nx (by omega)) (Eq.trans (upd2_nx (by omega)) (Eq.trans (upd2_nx (by omega)) (Eq.trans (upd2_nx (by omega)) (Eq.trans (upd2_nx (by omega)) (Eq.trans (upd2_nx (by omega)) (Eq.trans (congrFun (upd2_ne (by decide)) (134)) (Eq.trans (congrFun (upd2_ne (by decide)) (134)) (Eq.trans (congrFun (upd2_ne (by decide)) (134)) (Eq.trans (congrFun (upd2_ne (by decide)) (134)) (Eq.trans (congrFun (upd2_ne (by decide)) (134)) (Eq.trans (congrFun (updA_ne (by decide)) (134)) (Eq.trans (congrFun (updA_ne (by decide)) (134)) (g1 4 (by decide))))))))))))))))) ?_
  refine aw_istore_n (lv2 := [.ref 0, .int (nI 4), .int (nI 0), uu, uu, uu, uu, uu, uu]) rfl (by decide) rfl d_X_movesUp_10 ?_
  refine aw_iconst (v := nI 0) ci_0 d_X_movesUp_11 ?_
  refine aw_istore_n (lv2 := [.ref 0, .int (nI 4), .int (nI 0), .int (nI 0), uu, uu, uu, uu, uu]) rfl (by decide) rfl d_X_movesUp_12 ?_
  refine aw_iconst (v := nI 0) ci_0 d_X_movesUp_13 ?_
  refine aw_istore (lv2 := [.ref 0, .int (nI 4), .int (nI 0), .int (nI 0), .int (nI 0), uu, uu, uu, uu]) (by decide) rfl d_X_movesUp_14 ?_
  refine aw_iload rfl d_X_movesUp_16 ?_
  refine aw_iload_n rfl rfl d_X_movesUp_18 ?_
  refine aw_icmp_geI (tgt := 51) (0) (0) (by decide +kernel) (by decide +kernel) (by decide) d_X_movesUp_19 (fun _ => ?_) (fun q => absurd q (by decide))
  refine aw_iconst (v := nI 0) ci_0 d_X_movesUp_51 ?_
  refine aw_istore (lv2 := [.ref 0, .int (nI 4), .int (nI 0), .int (nI 0), .int (nI 0), uu, uu, uu, uu]) (by decide) rfl d_X_movesUp_52 ?_
  refine aw_iconst (v := nI 0) ci_0 d_X_movesUp_54 ?_
  refine aw_istore (lv2 := [.ref 0, .int (nI 4), .int (nI 0), .int (nI 0), .int (nI 0), .int (nI 0), uu, uu, uu]) (by decide) rfl d_X_movesUp_55 ?_
  refine aw_iload rfl d_X_movesUp_57 ?_
  refine aw_iload_n rfl rfl d_X_movesUp_59 ?_
  refine aw_icmp_geI (tgt := 254) (0) (0) (by decide +kernel) (by decide +kernel) (by decide) d_X_movesUp_60 (fun _ => ?_) (fun q => absurd q (by decide))
  refine aw_aload_n rfl rfl d_X_movesUp_254 ?_
  refine aw_getr fl_X_7 km_0 (by decide) rfl rm_0_0 d_X_movesUp_255 ?_
  refine aw_sipush (v := nI 130) cs_130 d_X_movesUp_258 ?_
  refine aw_iload_n rfl rfl d_X_movesUp_261 ?_
  refine aw_iadd d_X_movesUp_262 ?_
  refine aw_top (x2 := nI 134) (by decide +kernel) ?_
  refine aw_iload rfl d_X_movesUp_263 ?_
  refine aw_iast (j := 134) km_1 (vp_in_nI (by decide) (by decide)) (nI_clamp (by decide)) d_X_movesUp_265 ?_
  refine as_retv rfl d_X_movesUp_266 ?_
  refine (show As l b 13 y_X_goesOff KM RM _ (upd2 (upd2 (upd2 (upd2 (upd2 (upd2 (upd2 (upd2 (upd2 (upd2 (upd2 (upd2 (upd2 (upd2 (updA (updA (I) 9 (fun j => if j < 240 then nI 0 else (I) 9 j)) 12 (fun j => if j < 240 then nI 0 else (I) 12 j)) 0 30 (nI (4))) 0 31 (nI 0)) 0 32 (nI 0)) 0 33 (nI 0)) 0 34 (nI 0)) 1 (71) (nI 4)) 1 (72) (nI 0)) 1 (110) (nI 0)) 1 (111) (nI 4)) 1 (130) (nI 0)) 1 (131) (nI 0)) 1 (132) (nI 0)) 1 (133) (nI 0)) 1 (134) (nI 0)) 277 [.ref 0, .int (nI 0), .int (nI 4), uu, uu, uu, uu] [] from ?_)
  refine aw_iinc (v := nI 5) (lv2 := [.ref 0, .int (nI 0), .int (nI 5), uu, uu, uu, uu]) rfl (by decide +kernel) (by decide) rfl d_X_goesOff_277 ?_
  refine aw_goto (tgt := 266) (by decide) d_X_goesOff_280 ?_
  refine aw_iload_n rfl rfl d_X_goesOff_266 ?_
  refine aw_bipush (v := nI 6) cb_6 d_X_goesOff_267 ?_
  refine aw_icmp_geI (tgt := 283) (5) (6) (by decide +kernel) (by decide +kernel) (by decide) d_X_goesOff_269 (fun q => absurd q (by decide)) (fun _ => ?_)
  refine aw_aload_n rfl rfl d_X_goesOff_272 ?_
  refine aw_iload_n rfl rfl d_X_goesOff_273 ?_
  refine as_callV (as := [.int (nI 5)]) (d' := 12) (q := ("SinglesUpModel", zT9, 51)) mo_X_movesUp lk_X_325 km_0 rfl rfl rfl ⟨by decide, by decide⟩ rfl rfl (by decide) d_X_goesOff_274 (Ss.of (show As l b 12 y_X_movesUp KM RM _ (upd2 (upd2 (upd2 (upd2 (upd2 (upd2 (upd2 (upd2 (upd2 (upd2 (upd2 (upd2 (upd2 (upd2 (updA (updA (I) 9 (fun j => if j < 240 then nI 0 else (I) 9 j)) 12 (fun j => if j < 240 then nI 0 else (I) 12 j)) 0 30 (nI (4))) 0 31 (nI 0)) 0 32 (nI 0)) 0 33 (nI 0)) 0 34 (nI 0)) 1 (71) (nI 4)) 1 (72) (nI 0)) 1 (110) (nI 0)) 1 (111) (nI 4)) 1 (130) (nI 0)) 1 (131) (nI 0)) 1 (132) (nI 0)) 1 (133) (nI 0)) 1 (134) (nI 0)) 0 [.ref 0, .int (nI 5), uu, uu, uu, uu, uu, uu, uu] [] from ?_))
  refine aw_aload_n rfl rfl d_X_movesUp_0 ?_
  refine aw_getr fl_X_7 km_0 (by decide) rfl rm_0_0 d_X_movesUp_1 ?_
  refine aw_sipush (v := nI 130) cs_130 d_X_movesUp_4 ?_
  refine aw_iload_n rfl rfl d_X_movesUp_7 ?_
  refine aw_iadd d_X_movesUp_8 ?_
  refine aw_top (x2 := nI 135) (by decide +kernel) ?_
  refine aw_iald (j := 135) km_1 (vp_in_nI (by decide) (by decide)) (nI_clamp (by decide)) d_X_movesUp_9 ?_
  refine aw_top (x2 := nI 0) (Eq.trans (upd2_nx (by omega)) (Eq.trans (upd2_nx (by omega)) (Eq.trans (upd2_nx (by omega)) (Eq.trans (upd2_nx (by omega)) (Eq.trans (upd2_nx (by omega)) (Eq.trans (upd2_nx (by omega)) (Eq.trans (upd2_nx (by omega)) (Eq.trans (upd2_nx (by omega)) (Eq.trans (upd2_nx (by omega)) (Eq.trans (congrFun (upd2_ne (by decide)) (135)) (Eq.trans (congrFun (upd2_ne (by decide)) (135)) (Eq.trans (congrFun (upd2_ne (by decide)) (135)) (Eq.trans (congrFun (upd2_ne (by decide)) (135)) (Eq.trans (congrFun (upd2_ne (by decide)) (135)) (Eq.trans (congrFun (updA_ne (by decide)) (135)) (Eq.trans (congrFun (updA_ne (by decide)) (135)) (g1 5 (by decide)))))))))))))))))) ?_
  refine aw_istore_n (lv2 := [.ref 0, .int (nI 5), .int (nI 0), uu, uu, uu, uu, uu, uu]) rfl (by decide) rfl d_X_movesUp_10 ?_
  refine aw_iconst (v := nI 0) ci_0 d_X_movesUp_11 ?_
  refine aw_istore_n (lv2 := [.ref 0, .int (nI 5), .int (nI 0), .int (nI 0), uu, uu, uu, uu, uu]) rfl (by decide) rfl d_X_movesUp_12 ?_
  refine aw_iconst (v := nI 0) ci_0 d_X_movesUp_13 ?_
  refine aw_istore (lv2 := [.ref 0, .int (nI 5), .int (nI 0), .int (nI 0), .int (nI 0), uu, uu, uu, uu]) (by decide) rfl d_X_movesUp_14 ?_
  refine aw_iload rfl d_X_movesUp_16 ?_
  refine aw_iload_n rfl rfl d_X_movesUp_18 ?_
  refine aw_icmp_geI (tgt := 51) (0) (0) (by decide +kernel) (by decide +kernel) (by decide) d_X_movesUp_19 (fun _ => ?_) (fun q => absurd q (by decide))
  refine aw_iconst (v := nI 0) ci_0 d_X_movesUp_51 ?_
  refine aw_istore (lv2 := [.ref 0, .int (nI 5), .int (nI 0), .int (nI 0), .int (nI 0), uu, uu, uu, uu]) (by decide) rfl d_X_movesUp_52 ?_
  refine aw_iconst (v := nI 0) ci_0 d_X_movesUp_54 ?_
  refine aw_istore (lv2 := [.ref 0, .int (nI 5), .int (nI 0), .int (nI 0), .int (nI 0), .int (nI 0), uu, uu, uu]) (by decide) rfl d_X_movesUp_55 ?_
  refine aw_iload rfl d_X_movesUp_57 ?_
  refine aw_iload_n rfl rfl d_X_movesUp_59 ?_
  refine aw_icmp_geI (tgt := 254) (0) (0) (by decide +kernel) (by decide +kernel) (by decide) d_X_movesUp_60 (fun _ => ?_) (fun q => absurd q (by decide))
  refine aw_aload_n rfl rfl d_X_movesUp_254 ?_
  refine aw_getr fl_X_7 km_0 (by decide) rfl rm_0_0 d_X_movesUp_255 ?_
  refine aw_sipush (v := nI 130) cs_130 d_X_movesUp_258 ?_
  refine aw_iload_n rfl rfl d_X_movesUp_261 ?_
  refine aw_iadd d_X_movesUp_262 ?_
  refine aw_top (x2 := nI 135) (by decide +kernel) ?_
  refine aw_iload rfl d_X_movesUp_263 ?_
  refine aw_iast (j := 135) km_1 (vp_in_nI (by decide) (by decide)) (nI_clamp (by decide)) d_X_movesUp_265 ?_
  refine as_retv rfl d_X_movesUp_266 ?_
  refine (show As l b 13 y_X_goesOff KM RM _ (upd2 (upd2 (upd2 (upd2 (upd2 (upd2 (upd2 (upd2 (upd2 (upd2 (upd2 (upd2 (upd2 (upd2 (upd2 (updA (updA (I) 9 (fun j => if j < 240 then nI 0 else (I) 9 j)) 12 (fun j => if j < 240 then nI 0 else (I) 12 j)) 0 30 (nI (4))) 0 31 (nI 0)) 0 32 (nI 0)) 0 33 (nI 0)) 0 34 (nI 0)) 1 (71) (nI 4)) 1 (72) (nI 0)) 1 (110) (nI 0)) 1 (111) (nI 4)) 1 (130) (nI 0)) 1 (131) (nI 0)) 1 (132) (nI 0)) 1 (133) (nI 0)) 1 (134) (nI 0)) 1 (135) (nI 0)) 277 [.ref 0, .int (nI 0), .int (nI 5), uu, uu, uu, uu] [] from ?_)
  refine aw_iinc (v := nI 6) (lv2 := [.ref 0, .int (nI 0), .int (nI 6), uu, uu, uu, uu]) rfl (by decide +kernel) (by decide) rfl d_X_goesOff_277 ?_
  refine aw_goto (tgt := 266) (by decide) d_X_goesOff_280 ?_
  refine aw_iload_n rfl rfl d_X_goesOff_266 ?_
  refine aw_bipush (v := nI 6) cb_6 d_X_goesOff_267 ?_
  refine aw_icmp_geI (tgt := 283) (6) (6) (by decide +kernel) (by decide +kernel) (by decide) d_X_goesOff_269 (fun _ => ?_) (fun q => absurd q (by decide))
  refine aw_iconst (v := nI 0) ci_0 d_X_goesOff_283 ?_
  refine aw_istore_n (lv2 := [.ref 0, .int (nI 0), .int (nI 0), uu, uu, uu, uu]) rfl (by decide) rfl d_X_goesOff_284 ?_
  refine aw_iload_n rfl rfl d_X_goesOff_285 ?_
  refine aw_aload_n rfl rfl d_X_goesOff_286 ?_
  refine aw_geti fl_X_293 km_0 (by decide) rfl d_X_goesOff_287 ?_
  refine aw_top (x2 := nI 0) (Eq.trans (congrFun (upd2_ne (by decide)) (32)) (Eq.trans (congrFun (upd2_ne (by decide)) (32)) (Eq.trans (congrFun (upd2_ne (by decide)) (32)) (Eq.trans (congrFun (upd2_ne (by decide)) (32)) (Eq.trans (congrFun (upd2_ne (by decide)) (32)) (Eq.trans (congrFun (upd2_ne (by decide)) (32)) (Eq.trans (congrFun (upd2_ne (by decide)) (32)) (Eq.trans (congrFun (upd2_ne (by decide)) (32)) (Eq.trans (congrFun (upd2_ne (by decide)) (32)) (Eq.trans (congrFun (upd2_ne (by decide)) (32)) (Eq.trans (upd2_nx (by omega)) (Eq.trans (upd2_nx (by omega)) (upd2_eq))))))))))))) ?_
  refine aw_icmp_geI (tgt := 369) (0) (0) (by decide +kernel) (by decide +kernel) (by decide) d_X_goesOff_290 (fun _ => ?_) (fun q => absurd q (by decide))
  refine aw_aload_n rfl rfl d_X_goesOff_369 ?_
  refine aw_getr fl_X_7 km_0 (by decide) rfl rm_0_0 d_X_goesOff_370 ?_
  refine aw_bipush (v := nI 70) cb_70 d_X_goesOff_373 ?_
  refine aw_dup2 rfl rfl d_X_goesOff_375 ?_
  refine aw_iald (j := 70) km_1 (vp_in_nI (by decide) (by decide)) (nI_clamp (by decide)) d_X_goesOff_376 ?_
  refine aw_top (x2 := nI 0) (Eq.trans (upd2_nx (by omega)) (Eq.trans (upd2_nx (by omega)) (Eq.trans (upd2_nx (by omega)) (Eq.trans (upd2_nx (by omega)) (Eq.trans (upd2_nx (by omega)) (Eq.trans (upd2_nx (by omega)) (Eq.trans (upd2_nx (by omega)) (Eq.trans (upd2_nx (by omega)) (Eq.trans (upd2_nx (by omega)) (Eq.trans (upd2_nx (by omega)) (Eq.trans (congrFun (upd2_ne (by decide)) (70)) (Eq.trans (congrFun (upd2_ne (by decide)) (70)) (Eq.trans (congrFun (upd2_ne (by decide)) (70)) (Eq.trans (congrFun (upd2_ne (by decide)) (70)) (Eq.trans (congrFun (upd2_ne (by decide)) (70)) (Eq.trans (congrFun (updA_ne (by decide)) (70)) (Eq.trans (congrFun (updA_ne (by decide)) (70)) (g6)))))))))))))))))) ?_
  refine aw_iconst (v := nI 1) ci_1 d_X_goesOff_377 ?_
  refine aw_iadd d_X_goesOff_378 ?_
  refine aw_top (x2 := nI 1) (by decide +kernel) ?_
  refine aw_iast (j := 70) km_1 (vp_in_nI (by decide) (by decide)) (nI_clamp (by decide)) d_X_goesOff_379 ?_
  refine aw_aload_n rfl rfl d_X_goesOff_380 ?_
  refine aw_getr fl_X_7 km_0 (by decide) rfl rm_0_0 d_X_goesOff_381 ?_
  refine aw_bipush (v := nI 73) cb_73 d_X_goesOff_384 ?_
  refine aw_dup2 rfl rfl d_X_goesOff_386 ?_
  refine aw_iald (j := 73) km_1 (vp_in_nI (by decide) (by decide)) (nI_clamp (by decide)) d_X_goesOff_387 ?_
  refine aw_top (x2 := nI 0) (Eq.trans (upd2_nx (by omega)) (Eq.trans (upd2_nx (by omega)) (Eq.trans (upd2_nx (by omega)) (Eq.trans (upd2_nx (by omega)) (Eq.trans (upd2_nx (by omega)) (Eq.trans (upd2_nx (by omega)) (Eq.trans (upd2_nx (by omega)) (Eq.trans (upd2_nx (by omega)) (Eq.trans (upd2_nx (by omega)) (Eq.trans (upd2_nx (by omega)) (Eq.trans (upd2_nx (by omega)) (Eq.trans (congrFun (upd2_ne (by decide)) (73)) (Eq.trans (congrFun (upd2_ne (by decide)) (73)) (Eq.trans (congrFun (upd2_ne (by decide)) (73)) (Eq.trans (congrFun (upd2_ne (by decide)) (73)) (Eq.trans (congrFun (upd2_ne (by decide)) (73)) (Eq.trans (congrFun (updA_ne (by decide)) (73)) (Eq.trans (congrFun (updA_ne (by decide)) (73)) (w73))))))))))))))))))) ?_
  refine aw_aload_n rfl rfl d_X_goesOff_388 ?_
  refine aw_getr fl_X_7 km_0 (by decide) rfl rm_0_0 d_X_goesOff_389 ?_
  refine aw_iconst (v := nI 2) ci_2 d_X_goesOff_392 ?_
  refine aw_iald (j := 2) km_1 (vp_in_nI (by decide) (by decide)) (nI_clamp (by decide)) d_X_goesOff_393 ?_
  refine aw_top (x2 := nI 6) (Eq.trans (upd2_nx (by omega)) (Eq.trans (upd2_nx (by omega)) (Eq.trans (upd2_nx (by omega)) (Eq.trans (upd2_nx (by omega)) (Eq.trans (upd2_nx (by omega)) (Eq.trans (upd2_nx (by omega)) (Eq.trans (upd2_nx (by omega)) (Eq.trans (upd2_nx (by omega)) (Eq.trans (upd2_nx (by omega)) (Eq.trans (upd2_nx (by omega)) (Eq.trans (upd2_nx (by omega)) (Eq.trans (congrFun (upd2_ne (by decide)) (2)) (Eq.trans (congrFun (upd2_ne (by decide)) (2)) (Eq.trans (congrFun (upd2_ne (by decide)) (2)) (Eq.trans (congrFun (upd2_ne (by decide)) (2)) (Eq.trans (congrFun (upd2_ne (by decide)) (2)) (Eq.trans (congrFun (updA_ne (by decide)) (2)) (Eq.trans (congrFun (updA_ne (by decide)) (2)) (w2))))))))))))))))))) ?_
  refine aw_iadd d_X_goesOff_394 ?_
  refine aw_top (x2 := nI 6) (by decide +kernel) ?_
  refine aw_iast (j := 73) km_1 (vp_in_nI (by decide) (by decide)) (nI_clamp (by decide)) d_X_goesOff_395 ?_
  refine aw_aload_n rfl rfl d_X_goesOff_396 ?_
  refine aw_getr fl_X_7 km_0 (by decide) rfl rm_0_0 d_X_goesOff_397 ?_
  refine aw_iconst (v := nI 4) ci_4 d_X_goesOff_400 ?_
  refine aw_iald (j := 4) km_1 (vp_in_nI (by decide) (by decide)) (nI_clamp (by decide)) d_X_goesOff_401 ?_
  refine aw_top (x2 := nI 0) (Eq.trans (upd2_nx (by omega)) (Eq.trans (upd2_nx (by omega)) (Eq.trans (upd2_nx (by omega)) (Eq.trans (upd2_nx (by omega)) (Eq.trans (upd2_nx (by omega)) (Eq.trans (upd2_nx (by omega)) (Eq.trans (upd2_nx (by omega)) (Eq.trans (upd2_nx (by omega)) (Eq.trans (upd2_nx (by omega)) (Eq.trans (upd2_nx (by omega)) (Eq.trans (upd2_nx (by omega)) (Eq.trans (upd2_nx (by omega)) (Eq.trans (congrFun (upd2_ne (by decide)) (4)) (Eq.trans (congrFun (upd2_ne (by decide)) (4)) (Eq.trans (congrFun (upd2_ne (by decide)) (4)) (Eq.trans (congrFun (upd2_ne (by decide)) (4)) (Eq.trans (congrFun (upd2_ne (by decide)) (4)) (Eq.trans (congrFun (updA_ne (by decide)) (4)) (Eq.trans (congrFun (updA_ne (by decide)) (4)) (g4)))))))))))))))))))) ?_
  refine aw_if_leI (tgt := 448) (0) (by decide +kernel) (by decide) d_X_goesOff_402 (fun _ => ?_) (fun q => absurd q (by decide))
  refine aw_sipush (v := nI 6010) cs_6010 d_X_goesOff_448 ?_
  refine aw_iconst (v := nI 3) ci_3 d_X_goesOff_451 ?_
  refine aw_aload_n rfl rfl d_X_goesOff_452 ?_
  refine aw_getr fl_X_7 km_0 (by decide) rfl rm_0_0 d_X_goesOff_453 ?_
  refine aw_bipush (v := nI 70) cb_70 d_X_goesOff_456 ?_
  refine aw_iald (j := 70) km_1 (vp_in_nI (by decide) (by decide)) (nI_clamp (by decide)) d_X_goesOff_458 ?_
  refine aw_top (x2 := nI 1) (Eq.trans (upd2_nx (by omega)) (upd2_eq)) ?_
  refine aw_iconst (v := nI 1) ci_1 d_X_goesOff_459 ?_
  refine aw_isub d_X_goesOff_460 ?_
  refine aw_top (x2 := nI 0) (by decide +kernel) ?_
  refine aw_bipush (v := nI 60) cb_60 d_X_goesOff_461 ?_
  refine aw_iremN (by omega) (by omega) (by omega) d_X_goesOff_463 ?_
  refine aw_imulN d_X_goesOff_464 ?_
  refine aw_iaddN d_X_goesOff_465 ?_
  refine aw_istore_n (lv2 := [.ref 0, .int (nI 0), .int (nI ((6010 + (3 * (0 % 60))))), uu, uu, uu, uu]) rfl (by decide) rfl d_X_goesOff_466 ?_
  refine aw_aload_n rfl rfl d_X_goesOff_467 ?_
  refine aw_getr fl_X_7 km_0 (by decide) rfl rm_0_0 d_X_goesOff_468 ?_
  refine aw_iload_n rfl rfl d_X_goesOff_471 ?_
  refine aw_aload_n rfl rfl d_X_goesOff_472 ?_
  refine aw_geti fl_X_289 km_0 (by decide) rfl d_X_goesOff_473 ?_
  refine aw_top (x2 := nI 4) (Eq.trans (congrFun (upd2_ne (by decide)) (30)) (Eq.trans (congrFun (upd2_ne (by decide)) (30)) (Eq.trans (congrFun (upd2_ne (by decide)) (30)) (Eq.trans (congrFun (upd2_ne (by decide)) (30)) (Eq.trans (congrFun (upd2_ne (by decide)) (30)) (Eq.trans (congrFun (upd2_ne (by decide)) (30)) (Eq.trans (congrFun (upd2_ne (by decide)) (30)) (Eq.trans (congrFun (upd2_ne (by decide)) (30)) (Eq.trans (congrFun (upd2_ne (by decide)) (30)) (Eq.trans (congrFun (upd2_ne (by decide)) (30)) (Eq.trans (congrFun (upd2_ne (by decide)) (30)) (Eq.trans (congrFun (upd2_ne (by decide)) (30)) (Eq.trans (upd2_nx (by omega)) (Eq.trans (upd2_nx (by omega)) (Eq.trans (upd2_nx (by omega)) (Eq.trans (upd2_nx (by omega)) (upd2_eq))))))))))))))))) ?_
  refine aw_iast (j := (6010 + (3 * (0 % 60)))) km_1 (vp_in_nI (by omega) (by decide)) (nI_clamp (by omega)) d_X_goesOff_476 ?_
  refine aw_aload_n rfl rfl d_X_goesOff_477 ?_
  refine aw_getr fl_X_7 km_0 (by decide) rfl rm_0_0 d_X_goesOff_478 ?_
  refine aw_iload_n rfl rfl d_X_goesOff_481 ?_
  refine aw_iconst (v := nI 1) ci_1 d_X_goesOff_482 ?_
  refine aw_iaddN d_X_goesOff_483 ?_
  refine aw_aload_n rfl rfl d_X_goesOff_484 ?_
  refine aw_geti fl_X_291 km_0 (by decide) rfl d_X_goesOff_485 ?_
  refine aw_top (x2 := nI 0) (Eq.trans (congrFun (upd2_ne (by decide)) (31)) (Eq.trans (congrFun (upd2_ne (by decide)) (31)) (Eq.trans (congrFun (upd2_ne (by decide)) (31)) (Eq.trans (congrFun (upd2_ne (by decide)) (31)) (Eq.trans (congrFun (upd2_ne (by decide)) (31)) (Eq.trans (congrFun (upd2_ne (by decide)) (31)) (Eq.trans (congrFun (upd2_ne (by decide)) (31)) (Eq.trans (congrFun (upd2_ne (by decide)) (31)) (Eq.trans (congrFun (upd2_ne (by decide)) (31)) (Eq.trans (congrFun (upd2_ne (by decide)) (31)) (Eq.trans (congrFun (upd2_ne (by decide)) (31)) (Eq.trans (congrFun (upd2_ne (by decide)) (31)) (Eq.trans (congrFun (upd2_ne (by decide)) (31)) (Eq.trans (upd2_nx (by omega)) (Eq.trans (upd2_nx (by omega)) (Eq.trans (upd2_nx (by omega)) (upd2_eq))))))))))))))))) ?_
  refine aw_iast (j := ((6010 + (3 * (0 % 60))) + 1)) km_1 (vp_in_nI (by omega) (by decide)) (nI_clamp (by omega)) d_X_goesOff_488 ?_
  refine aw_aload_n rfl rfl d_X_goesOff_489 ?_
  refine aw_getr fl_X_7 km_0 (by decide) rfl rm_0_0 d_X_goesOff_490 ?_
  refine aw_iload_n rfl rfl d_X_goesOff_493 ?_
  refine aw_iconst (v := nI 2) ci_2 d_X_goesOff_494 ?_
  refine aw_iaddN d_X_goesOff_495 ?_
  refine aw_aload_n rfl rfl d_X_goesOff_496 ?_
  refine aw_getr fl_X_7 km_0 (by decide) rfl rm_0_0 d_X_goesOff_497 ?_
  refine aw_bipush (v := nI 73) cb_73 d_X_goesOff_500 ?_
  refine aw_iald (j := 73) km_1 (vp_in_nI (by decide) (by decide)) (nI_clamp (by decide)) d_X_goesOff_502 ?_
  refine aw_top (x2 := nI 6) (Eq.trans (upd2_nx (by omega)) (Eq.trans (upd2_nx (by omega)) (upd2_eq))) ?_
  refine aw_iast (j := ((6010 + (3 * (0 % 60))) + 2)) km_1 (vp_in_nI (by omega) (by decide)) (nI_clamp (by omega)) d_X_goesOff_503 ?_
  refine aw_aload_n rfl rfl d_X_goesOff_504 ?_
  refine as_callV (as := []) (d' := 1) (q := ("SinglesUpModel", zT9, 51)) mo_X_forgets lk_X_102 km_0 rfl rfl rfl ⟨by decide, by decide⟩ rfl rfl (by decide) d_X_goesOff_505 (sp_forgets (I := upd2 (upd2 (upd2 (upd2 (upd2 (upd2 (upd2 (upd2 (upd2 (upd2 (upd2 (upd2 (upd2 (upd2 (upd2 (upd2 (upd2 (upd2 (upd2 (upd2 (updA (updA (I) 9 (fun j => if j < 240 then nI 0 else (I) 9 j)) 12 (fun j => if j < 240 then nI 0 else (I) 12 j)) 0 30 (nI (4))) 0 31 (nI 0)) 0 32 (nI 0)) 0 33 (nI 0)) 0 34 (nI 0)) 1 (71) (nI 4)) 1 (72) (nI 0)) 1 (110) (nI 0)) 1 (111) (nI 4)) 1 (130) (nI 0)) 1 (131) (nI 0)) 1 (132) (nI 0)) 1 (133) (nI 0)) 1 (134) (nI 0)) 1 (135) (nI 0)) 1 (70) (nI 1)) 1 (73) (nI 6)) 1 ((6010 + (3 * (0 % 60)))) (nI 4)) 1 (((6010 + (3 * (0 % 60))) + 1)) (nI 0)) 1 (((6010 + (3 * (0 % 60))) + 2)) (nI 6)) ?_)
  refine (show As l b 13 y_X_goesOff KM RM _ (upd2 (updA (upd2 (upd2 (upd2 (upd2 (upd2 (upd2 (upd2 (upd2 (upd2 (upd2 (upd2 (upd2 (upd2 (upd2 (upd2 (upd2 (upd2 (upd2 (upd2 (upd2 (updA (updA (I) 9 (fun j => if j < 240 then nI 0 else (I) 9 j)) 12 (fun j => if j < 240 then nI 0 else (I) 12 j)) 0 30 (nI (4))) 0 31 (nI 0)) 0 32 (nI 0)) 0 33 (nI 0)) 0 34 (nI 0)) 1 (71) (nI 4)) 1 (72) (nI 0)) 1 (110) (nI 0)) 1 (111) (nI 4)) 1 (130) (nI 0)) 1 (131) (nI 0)) 1 (132) (nI 0)) 1 (133) (nI 0)) 1 (134) (nI 0)) 1 (135) (nI 0)) 1 (70) (nI 1)) 1 (73) (nI 6)) 1 ((6010 + (3 * (0 % 60)))) (nI 4)) 1 (((6010 + (3 * (0 % 60))) + 1)) (nI 0)) 1 (((6010 + (3 * (0 % 60))) + 2)) (nI 6)) 13 (fun j => if j < 240 then nI 0 else (upd2 (upd2 (upd2 (upd2 (upd2 (upd2 (upd2 (upd2 (upd2 (upd2 (upd2 (upd2 (upd2 (upd2 (upd2 (upd2 (upd2 (upd2 (upd2 (upd2 (updA (updA (I) 9 (fun j => if j < 240 then nI 0 else (I) 9 j)) 12 (fun j => if j < 240 then nI 0 else (I) 12 j)) 0 30 (nI (4))) 0 31 (nI 0)) 0 32 (nI 0)) 0 33 (nI 0)) 0 34 (nI 0)) 1 (71) (nI 4)) 1 (72) (nI 0)) 1 (110) (nI 0)) 1 (111) (nI 4)) 1 (130) (nI 0)) 1 (131) (nI 0)) 1 (132) (nI 0)) 1 (133) (nI 0)) 1 (134) (nI 0)) 1 (135) (nI 0)) 1 (70) (nI 1)) 1 (73) (nI 6)) 1 ((6010 + (3 * (0 % 60)))) (nI 4)) 1 (((6010 + (3 * (0 % 60))) + 1)) (nI 0)) 1 (((6010 + (3 * (0 % 60))) + 2)) (nI 6)) 13 j)) 0 35 (nI 0)) 508 [.ref 0, .int (nI 0), .int (nI ((6010 + (3 * (0 % 60))))), uu, uu, uu, uu] [] from ?_)
  refine aw_iload_n rfl rfl d_X_goesOff_508 ?_
  refine as_reti rfl d_X_goesOff_509 ?_
  refine (show As l b 14 y_X_send KM RM K2 (upd2 (updA (upd2 (upd2 (upd2 (upd2 (upd2 (upd2 (upd2 (upd2 (upd2 (upd2 (upd2 (upd2 (upd2 (upd2 (upd2 (upd2 (upd2 (upd2 (upd2 (upd2 (updA (updA (I) 9 (fun j => if j < 240 then nI 0 else (I) 9 j)) 12 (fun j => if j < 240 then nI 0 else (I) 12 j)) 0 30 (nI (4))) 0 31 (nI 0)) 0 32 (nI 0)) 0 33 (nI 0)) 0 34 (nI 0)) 1 (71) (nI 4)) 1 (72) (nI 0)) 1 (110) (nI 0)) 1 (111) (nI 4)) 1 (130) (nI 0)) 1 (131) (nI 0)) 1 (132) (nI 0)) 1 (133) (nI 0)) 1 (134) (nI 0)) 1 (135) (nI 0)) 1 (70) (nI 1)) 1 (73) (nI 6)) 1 ((6010 + (3 * (0 % 60)))) (nI 4)) 1 (((6010 + (3 * (0 % 60))) + 1)) (nI 0)) 1 (((6010 + (3 * (0 % 60))) + 2)) (nI 6)) 13 (fun j => if j < 240 then nI 0 else (upd2 (upd2 (upd2 (upd2 (upd2 (upd2 (upd2 (upd2 (upd2 (upd2 (upd2 (upd2 (upd2 (upd2 (upd2 (upd2 (upd2 (upd2 (upd2 (upd2 (updA (updA (I) 9 (fun j => if j < 240 then nI 0 else (I) 9 j)) 12 (fun j => if j < 240 then nI 0 else (I) 12 j)) 0 30 (nI (4))) 0 31 (nI 0)) 0 32 (nI 0)) 0 33 (nI 0)) 0 34 (nI 0)) 1 (71) (nI 4)) 1 (72) (nI 0)) 1 (110) (nI 0)) 1 (111) (nI 4)) 1 (130) (nI 0)) 1 (131) (nI 0)) 1 (132) (nI 0)) 1 (133) (nI 0)) 1 (134) (nI 0)) 1 (135) (nI 0)) 1 (70) (nI 1)) 1 (73) (nI 6)) 1 ((6010 + (3 * (0 % 60)))) (nI 4)) 1 (((6010 + (3 * (0 % 60))) + 1)) (nI 0)) 1 (((6010 + (3 * (0 % 60))) + 2)) (nI 6)) 13 j)) 0 35 (nI 0)) 66 [.ref 0, .int (nI 0)] [.int (nI 0)] from ?_)
  exact as_reti rfl d_X_send_66 (hK _)
set_option maxRecDepth 20000 in
theorem lp_mneeded {K2 : K2T} {n0 : Nat} (hn0 : n0 ≤ 40) (hK : ∀ I', K2 (some (.int (nI 0))) I') : ∀ (n i : Nat) (I : Nat → Nat → Int32), i + n = n0 → GM I 4 (i * 4) i → (∀ j, j < 240 → I 23 j = nI 0) → As l b 14 y_X_needed KM RM K2 (I) 20 [.ref 0, .int (nI (n0)), .int (nI 0), .int (nI (i)), uu] [] := by
  intro n
  induction n with
  | zero =>
    intro i I hi hF0 hp
    refine aw_iload_n rfl rfl d_X_needed_20 ?_
    refine aw_iload_n rfl rfl d_X_needed_21 ?_
    refine aw_icmp_geI (tgt := 56) ((i : Nat) : Int) ((n0 : Nat) : Int) (nI_toInt (by omega)) (nI_toInt (by omega)) (by decide) d_X_needed_22 (fun _ => ?_) (fun q => absurd q (by omega))
    refine aw_aload_n rfl rfl d_X_needed_56 ?_
    refine as_callV (as := []) (d' := 1) (q := ("SinglesUpModel", zT9, 51)) mo_X_comesBack lk_X_398 km_0 rfl rfl rfl ⟨by decide, by decide⟩ rfl rfl (by decide) d_X_needed_57 (sp_cb (I := I) (fun j hj => (hp (j) (by omega))) (fun J1 e2 e3 e4 => ?_))
    refine (show As l b 14 y_X_needed KM RM K2 (J1) 60 [.ref 0, .int (nI (n0)), .int (nI 0), .int (nI (i)), uu] [] from ?_)
    refine aw_iload_n rfl rfl d_X_needed_60 ?_
    exact as_reti rfl d_X_needed_61 (hK _)
  | succ n ih =>
    intro i I hi hF0 hp
    refine aw_iload_n rfl rfl d_X_needed_20 ?_
    refine aw_iload_n rfl rfl d_X_needed_21 ?_
    refine aw_icmp_geI (tgt := 56) ((i : Nat) : Int) ((n0 : Nat) : Int) (nI_toInt (by omega)) (nI_toInt (by omega)) (by decide) d_X_needed_22 (fun q => absurd q (by omega)) (fun _ => ?_)
    refine aw_aload_n rfl rfl d_X_needed_25 ?_
    refine as_callV (as := []) (d' := 6) (q := ("SinglesUpModel", zT9, 51)) mo_X_chair lk_X_338 km_0 rfl rfl rfl ⟨by decide, by decide⟩ rfl rfl (by decide) d_X_needed_26 (sp_mchair (I := I) (s := 4) (e := (i * 4)) (k := i) hF0 (by omega) (fun J1 gm2 f3 => ?_))
    refine (show As l b 14 y_X_needed KM RM K2 (J1) 29 [.ref 0, .int (nI (n0)), .int (nI 0), .int (nI (i)), uu] [.int (nI 0)] from ?_)
    refine aw_istore (lv2 := [.ref 0, .int (nI (n0)), .int (nI 0), .int (nI (i)), .int (nI 0)]) (by decide) rfl d_X_needed_29 ?_
    refine aw_iload_n rfl rfl d_X_needed_31 ?_
    refine aw_iload rfl d_X_needed_32 ?_
    refine aw_if_leI (tgt := 47) (0) (by decide +kernel) (by decide) d_X_needed_34 (fun _ => ?_) (fun q => absurd q (by decide))
    refine aw_iconst (v := nI 0) ci_0 d_X_needed_47 ?_
    refine aw_iadd d_X_needed_48 ?_
    refine aw_top (x2 := nI 0) (by decide +kernel) ?_
    refine aw_istore_n (lv2 := [.ref 0, .int (nI (n0)), .int (nI 0), .int (nI (i)), .int (nI 0)]) rfl (by decide) rfl d_X_needed_49 ?_
    refine aw_iinc (v := nI (i + 1)) (lv2 := [.ref 0, .int (nI (n0)), .int (nI 0), .int (nI (i + 1)), .int (nI 0)]) rfl (inc_1 _) (by decide) rfl d_X_needed_50 ?_
    refine aw_goto (tgt := 20) (by decide) d_X_needed_53 ?_
    refine aw_weak (lv2 := [.ref 0, .int (nI (n0)), .int (nI 0), .int (nI (i + 1)), uu]) rfl (fun i9 v9 h9 => by rcases i9 with _ | _ | _ | _ | _ | i9 <;> first | exact Or.inr h9 | exact Or.inl (by cases h9; exact ⟨rfl, rfl⟩) | cases h9) ?_; exact ih (i + 1) _ (by omega) (by rw [show (i + 1) * 4 = i * 4 + 4 by omega]; exact gm2) (fun j hj => (congrFun (f3 23 (by omega)) j).trans (hp j hj))
set_option maxRecDepth 20000 in
theorem ms_needed {K2 : K2T} {I : Nat → Nat → Int32} (hR : FRm I) {x : Int32} (hg : 1 ≤ x.toInt ∧ x.toInt ≤ 40 → ∀ I', K2 (some (.int (nI 0))) I') (hb : ¬ (1 ≤ x.toInt ∧ x.toInt ≤ 40) → ∀ I', K2 (some (.int (-1))) I') : Ss l b 14 y_X_needed KM RM [.ref 0, .int (x)] (I) K2 := by
  obtain ⟨hF, w0, w2, w3, w5, w6, w7, w73, w74, wh, w110, o3, o12, o19, o21, o22, o23, o35⟩ := hR
  have hF0 := hF
  obtain ⟨g0, g1, g2, g3, g4, g5, g6, g7, g8, g9, g10, g11, g12, gb⟩ := hF
  refine Ss.of (show As l b 14 y_X_needed KM RM K2 (I) 0 [.ref 0, .int (x), uu, uu, uu] [] from ?_)
  refine aw_iload_n rfl rfl d_X_needed_0 ?_
  refine aw_iconst (v := nI 1) ci_1 d_X_needed_1 ?_
  refine aw_bipush (v := nI 40) cb_40 d_X_needed_2 ?_
  refine as_callS (as := [.int (x), .int (nI 1), .int (nI 40)]) (d' := 13) mo_X_isIn lk_X_98 rfl ⟨by decide, by decide⟩ rfl rfl (by decide) d_X_needed_4 (Ss.of (show As l b 13 y_X_isIn KM RM _ (I) 0 [.int (x), .int (nI 1), .int (nI 40)] [] from ?_))
  refine aw_iload_n rfl rfl d_X_isIn_0 ?_
  refine aw_iload_n rfl rfl d_X_isIn_1 ?_
  refine aw_icmp_ltI (tgt := 14) (x).toInt (1) rfl (by decide +kernel) (by decide) d_X_isIn_2 (fun c1 => ?_) (fun c1 => ?_)
  · refine aw_iconst (v := nI 0) ci_0 d_X_isIn_14 ?_
    refine as_retz rfl (by decide +kernel) d_X_isIn_15 ?_
    refine (show As l b 14 y_X_needed KM RM K2 (I) 7 [.ref 0, .int (x), uu, uu, uu] [.int (nI 0)] from ?_)
    refine aw_if_neI (tgt := 12) (0) (by decide +kernel) (by decide) d_X_needed_7 (fun q => absurd q (by decide)) (fun _ => ?_)
    refine aw_iconst (v := (-1 : Int32)) rfl d_X_needed_10 ?_
    exact as_reti rfl d_X_needed_11 (hb (by omega) _)
  · refine aw_iload_n rfl rfl d_X_isIn_5 ?_
    refine aw_iload_n rfl rfl d_X_isIn_6 ?_
    refine aw_icmp_gtI (tgt := 14) (x).toInt (40) rfl (by decide +kernel) (by decide) d_X_isIn_7 (fun c2 => ?_) (fun c2 => ?_)
    · refine aw_iconst (v := nI 0) ci_0 d_X_isIn_14 ?_
      refine as_retz rfl (by decide +kernel) d_X_isIn_15 ?_
      refine (show As l b 14 y_X_needed KM RM K2 (I) 7 [.ref 0, .int (x), uu, uu, uu] [.int (nI 0)] from ?_)
      refine aw_if_neI (tgt := 12) (0) (by decide +kernel) (by decide) d_X_needed_7 (fun q => absurd q (by decide)) (fun _ => ?_)
      refine aw_iconst (v := (-1 : Int32)) rfl d_X_needed_10 ?_
      exact as_reti rfl d_X_needed_11 (hb (by omega) _)
    · refine aw_iconst (v := nI 1) ci_1 d_X_isIn_10 ?_
      refine aw_goto (tgt := 15) (by decide) d_X_isIn_11 ?_
      refine as_retz rfl (by decide +kernel) d_X_isIn_15 ?_
      refine (show As l b 14 y_X_needed KM RM K2 (I) 7 [.ref 0, .int (x), uu, uu, uu] [.int (nI 1)] from ?_)
      refine aw_if_neI (tgt := 12) (1) (by decide +kernel) (by decide) d_X_needed_7 (fun _ => ?_) (fun q => absurd q (by decide))
      obtain ⟨w4, hw4, ew4, gw4⟩ := nI_of_range (x := x) (n := 41) (by omega) (by omega)
      subst ew4
      refine aw_aload_n rfl rfl d_X_needed_12 ?_
      refine as_callV (as := []) (d' := 1) (q := ("SinglesUpModel", zT9, 51)) mo_X_setsOut lk_X_392 km_0 rfl rfl rfl ⟨by decide, by decide⟩ rfl rfl (by decide) d_X_needed_13 (sp_so (I := I) (fun j hj => (g12 (j) (by omega))) (fun J3 e4 e5 e6 => ?_))
      refine (show As l b 14 y_X_needed KM RM K2 (J3) 16 [.ref 0, .int (nI (w4)), uu, uu, uu] [] from ?_)
      refine aw_iconst (v := nI 0) ci_0 d_X_needed_16 ?_
      refine aw_istore_n (lv2 := [.ref 0, .int (nI (w4)), .int (nI 0), uu, uu]) rfl (by decide) rfl d_X_needed_17 ?_
      refine aw_iconst (v := nI 0) ci_0 d_X_needed_18 ?_
      refine aw_istore_n (lv2 := [.ref 0, .int (nI (w4)), .int (nI 0), .int (nI 0), uu]) rfl (by decide) rfl d_X_needed_19 ?_
      exact lp_mneeded (by omega) (hg (by omega)) w4 0 J3 (by omega) (GM_of hF0 (fun j hj => congrFun (e6 1 (by omega)) j) (fun j hj => (congrFun (e6 13 (by omega)) j).trans (g12 j hj))) e5
set_option maxRecDepth 20000 in
theorem lp_leads {K2 : K2T} {I0 : Nat → Nat → Int32} {rule bound : Int32} {t n0 : Nat} (ht : t < 9) (hn0 : n0 ≤ 40) (hI : GM I0 4 0 0) (hK : ∀ I', GM I' 4 0 0 → I' 25 0 = nI (n0 * t) → (∀ j, 1 ≤ j → j < 6 → I' 25 j = nI 0) → K2 none I') : ∀ (n i : Nat) (I : Nat → Nat → Int32), i + n = n0 → GM I t (i * t) i → (∀ j, j < 6190 → I 3 j = I0 1 j) → (∀ j, j < 240 → I 23 j = nI 0) → As l b 8 y_X_leads KM RM K2 (I) 37 [.ref 0, .int (rule), .int (bound), .int (nI (t)), .int (nI (n0)), .int (nI 0), .int (nI (i))] [] := by
  intro n
  induction n with
  | zero =>
    intro i I hi hF hB hp
    have hF0 := hF
    have hI0 := hI
    have hm : i * t ≤ 40 * 8 := Nat.mul_le_mul (by omega) (by omega)
    obtain ⟨g0, g1, g2, g3, g4, g5, g6, g7, g8, g9, g10, g11, g12, gb⟩ := hF
    obtain ⟨x0, x1, x2, x3, x4, x5, x6, x7, x8, x9, x10, x11, x12, xb⟩ := hI
    refine aw_iload rfl d_X_leads_37 ?_
    refine aw_iload rfl d_X_leads_39 ?_
    refine aw_icmp_geI (tgt := 55) ((i : Nat) : Int) ((n0 : Nat) : Int) (nI_toInt (by omega)) (nI_toInt (by omega)) (by decide) d_X_leads_41 (fun _ => ?_) (fun q => absurd q (by omega))
    refine aw_aload_n rfl rfl d_X_leads_55 ?_
    refine aw_getr fl_X_93 km_0 (by decide) rfl rm_0_49 d_X_leads_56 ?_
    refine aw_iconst (v := nI 0) ci_0 d_X_leads_59 ?_
    refine aw_aload_n rfl rfl d_X_leads_60 ?_
    refine aw_getr fl_X_7 km_0 (by decide) rfl rm_0_0 d_X_leads_61 ?_
    refine aw_bipush (v := nI 71) cb_71 d_X_leads_64 ?_
    refine aw_iald (j := 71) km_1 (vp_in_nI (by decide) (by decide)) (nI_clamp (by decide)) d_X_leads_66 ?_
    refine aw_top (x2 := nI ((i * t))) (g5) ?_
    refine aw_aload_n rfl rfl d_X_leads_67 ?_
    refine aw_getr fl_X_16 km_0 (by decide) rfl rm_0_2 d_X_leads_68 ?_
    refine aw_bipush (v := nI 71) cb_71 d_X_leads_71 ?_
    refine aw_iald (j := 71) km_3 (vp_in_nI (by decide) (by decide)) (nI_clamp (by decide)) d_X_leads_73 ?_
    refine aw_top (x2 := nI 0) (((hB (71) (by omega)).trans (x5))) ?_
    refine aw_isubN (by omega) d_X_leads_74 ?_
    refine aw_iast (j := 0) km_25 (vp_in_nI (by decide) (by decide)) (nI_clamp (by decide)) d_X_leads_75 ?_
    refine aw_aload_n rfl rfl d_X_leads_76 ?_
    refine aw_getr fl_X_93 km_0 (by decide) rfl rm_0_49 d_X_leads_77 ?_
    refine aw_iconst (v := nI 1) ci_1 d_X_leads_80 ?_
    refine aw_aload_n rfl rfl d_X_leads_81 ?_
    refine aw_getr fl_X_7 km_0 (by decide) rfl rm_0_0 d_X_leads_82 ?_
    refine aw_bipush (v := nI 72) cb_72 d_X_leads_85 ?_
    refine aw_iald (j := 72) km_1 (vp_in_nI (by decide) (by decide)) (nI_clamp (by decide)) d_X_leads_87 ?_
    refine aw_top (x2 := nI 0) (Eq.trans (congrFun (upd2_ne (by decide)) (72)) (g7)) ?_
    refine aw_aload_n rfl rfl d_X_leads_88 ?_
    refine aw_getr fl_X_16 km_0 (by decide) rfl rm_0_2 d_X_leads_89 ?_
    refine aw_bipush (v := nI 72) cb_72 d_X_leads_92 ?_
    refine aw_iald (j := 72) km_3 (vp_in_nI (by decide) (by decide)) (nI_clamp (by decide)) d_X_leads_94 ?_
    refine aw_top (x2 := nI 0) (Eq.trans (congrFun (upd2_ne (by decide)) (72)) (((hB (72) (by omega)).trans (x7)))) ?_
    refine aw_isub d_X_leads_95 ?_
    refine aw_top (x2 := nI 0) (by decide +kernel) ?_
    refine aw_iast (j := 1) km_25 (vp_in_nI (by decide) (by decide)) (nI_clamp (by decide)) d_X_leads_96 ?_
    refine aw_aload_n rfl rfl d_X_leads_97 ?_
    refine aw_getr fl_X_93 km_0 (by decide) rfl rm_0_49 d_X_leads_98 ?_
    refine aw_iconst (v := nI 2) ci_2 d_X_leads_101 ?_
    refine aw_aload_n rfl rfl d_X_leads_102 ?_
    refine aw_bipush (v := nI 90) cb_90 d_X_leads_103 ?_
    refine as_callV (as := [.int (nI 90)]) (d' := 7) (q := ("SinglesUpModel", zT9, 51)) mo_X_sum lk_X_410 km_0 rfl rfl rfl ⟨by decide, by decide⟩ rfl rfl (by decide) d_X_leads_105 (Ss.of (show As l b 7 y_X_sum KM RM _ (upd2 (upd2 I 25 (0) (nI (((i * t) - 0)))) 25 (1) (nI 0)) 0 [.ref 0, .int (nI 90), uu, uu] [] from ?_))
    refine aw_iconst (v := nI 0) ci_0 d_X_sum_0 ?_
    refine aw_istore_n (lv2 := [.ref 0, .int (nI 90), .int (nI 0), uu]) rfl (by decide) rfl d_X_sum_1 ?_
    refine aw_iconst (v := nI 1) ci_1 d_X_sum_2 ?_
    refine aw_istore_n (lv2 := [.ref 0, .int (nI 90), .int (nI 0), .int (nI 1)]) rfl (by decide) rfl d_X_sum_3 ?_
    refine aw_iload_n rfl rfl d_X_sum_4 ?_
    refine aw_bipush (v := nI 8) cb_8 d_X_sum_5 ?_
    refine aw_icmp_gtI (tgt := 27) (1) (8) (by decide +kernel) (by decide +kernel) (by decide) d_X_sum_7 (fun q => absurd q (by decide)) (fun _ => ?_)
    refine aw_iload_n rfl rfl d_X_sum_10 ?_
    refine aw_aload_n rfl rfl d_X_sum_11 ?_
    refine aw_getr fl_X_7 km_0 (by decide) rfl rm_0_0 d_X_sum_12 ?_
    refine aw_iload_n rfl rfl d_X_sum_15 ?_
    refine aw_iload_n rfl rfl d_X_sum_16 ?_
    refine aw_iadd d_X_sum_17 ?_
    refine aw_top (x2 := nI 91) (by decide +kernel) ?_
    refine aw_iald (j := 91) km_1 (vp_in_nI (by decide) (by decide)) (nI_clamp (by decide)) d_X_sum_18 ?_
    refine aw_top (x2 := nI 0) (Eq.trans (congrFun (upd2_ne (by decide)) (91)) (Eq.trans (congrFun (upd2_ne (by decide)) (91)) (g10 11 (by decide)))) ?_
    refine aw_iadd d_X_sum_19 ?_
    refine aw_top (x2 := nI 0) (by decide +kernel) ?_
    refine aw_istore_n (lv2 := [.ref 0, .int (nI 90), .int (nI 0), .int (nI 1)]) rfl (by decide) rfl d_X_sum_20 ?_
    refine aw_iinc (v := nI 2) (lv2 := [.ref 0, .int (nI 90), .int (nI 0), .int (nI 2)]) rfl (by decide +kernel) (by decide) rfl d_X_sum_21 ?_
    refine aw_goto (tgt := 4) (by decide) d_X_sum_24 ?_
    refine aw_iload_n rfl rfl d_X_sum_4 ?_
    refine aw_bipush (v := nI 8) cb_8 d_X_sum_5 ?_
    refine aw_icmp_gtI (tgt := 27) (2) (8) (by decide +kernel) (by decide +kernel) (by decide) d_X_sum_7 (fun q => absurd q (by decide)) (fun _ => ?_)
    refine aw_iload_n rfl rfl d_X_sum_10 ?_
    refine aw_aload_n rfl rfl d_X_sum_11 ?_
    refine aw_getr fl_X_7 km_0 (by decide) rfl rm_0_0 d_X_sum_12 ?_
    refine aw_iload_n rfl rfl d_X_sum_15 ?_
    refine aw_iload_n rfl rfl d_X_sum_16 ?_
    refine aw_iadd d_X_sum_17 ?_
    refine aw_top (x2 := nI 92) (by decide +kernel) ?_
    refine aw_iald (j := 92) km_1 (vp_in_nI (by decide) (by decide)) (nI_clamp (by decide)) d_X_sum_18 ?_
    refine aw_top (x2 := nI 0) (Eq.trans (congrFun (upd2_ne (by decide)) (92)) (Eq.trans (congrFun (upd2_ne (by decide)) (92)) (g10 12 (by decide)))) ?_
    refine aw_iadd d_X_sum_19 ?_
    refine aw_top (x2 := nI 0) (by decide +kernel) ?_
    refine aw_istore_n (lv2 := [.ref 0, .int (nI 90), .int (nI 0), .int (nI 2)]) rfl (by decide) rfl d_X_sum_20 ?_
    refine aw_iinc (v := nI 3) (lv2 := [.ref 0, .int (nI 90), .int (nI 0), .int (nI 3)]) rfl (by decide +kernel) (by decide) rfl d_X_sum_21 ?_
    refine aw_goto (tgt := 4) (by decide) d_X_sum_24 ?_
    refine aw_iload_n rfl rfl d_X_sum_4 ?_
    refine aw_bipush (v := nI 8) cb_8 d_X_sum_5 ?_
    refine aw_icmp_gtI (tgt := 27) (3) (8) (by decide +kernel) (by decide +kernel) (by decide) d_X_sum_7 (fun q => absurd q (by decide)) (fun _ => ?_)
    refine aw_iload_n rfl rfl d_X_sum_10 ?_
    refine aw_aload_n rfl rfl d_X_sum_11 ?_
    refine aw_getr fl_X_7 km_0 (by decide) rfl rm_0_0 d_X_sum_12 ?_
    refine aw_iload_n rfl rfl d_X_sum_15 ?_
    refine aw_iload_n rfl rfl d_X_sum_16 ?_
    refine aw_iadd d_X_sum_17 ?_
    refine aw_top (x2 := nI 93) (by decide +kernel) ?_
    refine aw_iald (j := 93) km_1 (vp_in_nI (by decide) (by decide)) (nI_clamp (by decide)) d_X_sum_18 ?_
    refine aw_top (x2 := nI 0) (Eq.trans (congrFun (upd2_ne (by decide)) (93)) (Eq.trans (congrFun (upd2_ne (by decide)) (93)) (g10 13 (by decide)))) ?_
    refine aw_iadd d_X_sum_19 ?_
    refine aw_top (x2 := nI 0) (by decide +kernel) ?_
    refine aw_istore_n (lv2 := [.ref 0, .int (nI 90), .int (nI 0), .int (nI 3)]) rfl (by decide) rfl d_X_sum_20 ?_
    refine aw_iinc (v := nI 4) (lv2 := [.ref 0, .int (nI 90), .int (nI 0), .int (nI 4)]) rfl (by decide +kernel) (by decide) rfl d_X_sum_21 ?_
    refine aw_goto (tgt := 4) (by decide) d_X_sum_24 ?_
    refine aw_iload_n rfl rfl d_X_sum_4 ?_
    refine aw_bipush (v := nI 8) cb_8 d_X_sum_5 ?_
    refine aw_icmp_gtI (tgt := 27) (4) (8) (by decide +kernel) (by decide +kernel) (by decide) d_X_sum_7 (fun q => absurd q (by decide)) (fun _ => ?_)
    refine aw_iload_n rfl rfl d_X_sum_10 ?_
    refine aw_aload_n rfl rfl d_X_sum_11 ?_
    refine aw_getr fl_X_7 km_0 (by decide) rfl rm_0_0 d_X_sum_12 ?_
    refine aw_iload_n rfl rfl d_X_sum_15 ?_
    refine aw_iload_n rfl rfl d_X_sum_16 ?_
    refine aw_iadd d_X_sum_17 ?_
    refine aw_top (x2 := nI 94) (by decide +kernel) ?_
    refine aw_iald (j := 94) km_1 (vp_in_nI (by decide) (by decide)) (nI_clamp (by decide)) d_X_sum_18 ?_
    refine aw_top (x2 := nI 0) (Eq.trans (congrFun (upd2_ne (by decide)) (94)) (Eq.trans (congrFun (upd2_ne (by decide)) (94)) (g10 14 (by decide)))) ?_
    refine aw_iadd d_X_sum_19 ?_
    refine aw_top (x2 := nI 0) (by decide +kernel) ?_
    refine aw_istore_n (lv2 := [.ref 0, .int (nI 90), .int (nI 0), .int (nI 4)]) rfl (by decide) rfl d_X_sum_20 ?_
    refine aw_iinc (v := nI 5) (lv2 := [.ref 0, .int (nI 90), .int (nI 0), .int (nI 5)]) rfl (by decide +kernel) (by decide) rfl d_X_sum_21 ?_
    refine aw_goto (tgt := 4) (by decide) d_X_sum_24 ?_
    refine aw_iload_n rfl rfl d_X_sum_4 ?_
    refine aw_bipush (v := nI 8) cb_8 d_X_sum_5 ?_
    refine aw_icmp_gtI (tgt := 27) (5) (8) (by decide +kernel) (by decide +kernel) (by decide) d_X_sum_7 (fun q => absurd q (by decide)) (fun _ => ?_)
    refine aw_iload_n rfl rfl d_X_sum_10 ?_
    refine aw_aload_n rfl rfl d_X_sum_11 ?_
    refine aw_getr fl_X_7 km_0 (by decide) rfl rm_0_0 d_X_sum_12 ?_
    refine aw_iload_n rfl rfl d_X_sum_15 ?_
    refine aw_iload_n rfl rfl d_X_sum_16 ?_
    refine aw_iadd d_X_sum_17 ?_
    refine aw_top (x2 := nI 95) (by decide +kernel) ?_
    refine aw_iald (j := 95) km_1 (vp_in_nI (by decide) (by decide)) (nI_clamp (by decide)) d_X_sum_18 ?_
    refine aw_top (x2 := nI 0) (Eq.trans (congrFun (upd2_ne (by decide)) (95)) (Eq.trans (congrFun (upd2_ne (by decide)) (95)) (g10 15 (by decide)))) ?_
    refine aw_iadd d_X_sum_19 ?_
    refine aw_top (x2 := nI 0) (by decide +kernel) ?_
    refine aw_istore_n (lv2 := [.ref 0, .int (nI 90), .int (nI 0), .int (nI 5)]) rfl (by decide) rfl d_X_sum_20 ?_
    refine aw_iinc (v := nI 6) (lv2 := [.ref 0, .int (nI 90), .int (nI 0), .int (nI 6)]) rfl (by decide +kernel) (by decide) rfl d_X_sum_21 ?_
    refine aw_goto (tgt := 4) (by decide) d_X_sum_24 ?_
    refine aw_iload_n rfl rfl d_X_sum_4 ?_
    refine aw_bipush (v := nI 8) cb_8 d_X_sum_5 ?_
    refine aw_icmp_gtI (tgt := 27) (6) (8) (by decide +kernel) (by decide +kernel) (by decide) d_X_sum_7 (fun q => absurd q (by decide)) (fun _ => ?_)
    refine aw_iload_n rfl rfl d_X_sum_10 ?_
    refine aw_aload_n rfl rfl d_X_sum_11 ?_
    refine aw_getr fl_X_7 km_0 (by decide) rfl rm_0_0 d_X_sum_12 ?_
    refine aw_iload_n rfl rfl d_X_sum_15 ?_
    refine aw_iload_n rfl rfl d_X_sum_16 ?_
    refine aw_iadd d_X_sum_17 ?_
    refine aw_top (x2 := nI 96) (by decide +kernel) ?_
    refine aw_iald (j := 96) km_1 (vp_in_nI (by decide) (by decide)) (nI_clamp (by decide)) d_X_sum_18 ?_
    refine aw_top (x2 := nI 0) (Eq.trans (congrFun (upd2_ne (by decide)) (96)) (Eq.trans (congrFun (upd2_ne (by decide)) (96)) (g10 16 (by decide)))) ?_
    refine aw_iadd d_X_sum_19 ?_
    refine aw_top (x2 := nI 0) (by decide +kernel) ?_
    refine aw_istore_n (lv2 := [.ref 0, .int (nI 90), .int (nI 0), .int (nI 6)]) rfl (by decide) rfl d_X_sum_20 ?_
    refine aw_iinc (v := nI 7) (lv2 := [.ref 0, .int (nI 90), .int (nI 0), .int (nI 7)]) rfl (by decide +kernel) (by decide) rfl d_X_sum_21 ?_
    refine aw_goto (tgt := 4) (by decide) d_X_sum_24 ?_
    refine aw_iload_n rfl rfl d_X_sum_4 ?_
    refine aw_bipush (v := nI 8) cb_8 d_X_sum_5 ?_
    refine aw_icmp_gtI (tgt := 27) (7) (8) (by decide +kernel) (by decide +kernel) (by decide) d_X_sum_7 (fun q => absurd q (by decide)) (fun _ => ?_)
    refine aw_iload_n rfl rfl d_X_sum_10 ?_
    refine aw_aload_n rfl rfl d_X_sum_11 ?_
    refine aw_getr fl_X_7 km_0 (by decide) rfl rm_0_0 d_X_sum_12 ?_
    refine aw_iload_n rfl rfl d_X_sum_15 ?_
    refine aw_iload_n rfl rfl d_X_sum_16 ?_
    refine aw_iadd d_X_sum_17 ?_
    refine aw_top (x2 := nI 97) (by decide +kernel) ?_
    refine aw_iald (j := 97) km_1 (vp_in_nI (by decide) (by decide)) (nI_clamp (by decide)) d_X_sum_18 ?_
    refine aw_top (x2 := nI 0) (Eq.trans (congrFun (upd2_ne (by decide)) (97)) (Eq.trans (congrFun (upd2_ne (by decide)) (97)) (g10 17 (by decide)))) ?_
    refine aw_iadd d_X_sum_19 ?_
    refine aw_top (x2 := nI 0) (by decide +kernel) ?_
    refine aw_istore_n (lv2 := [.ref 0, .int (nI 90), .int (nI 0), .int (nI 7)]) rfl (by decide) rfl d_X_sum_20 ?_
    refine aw_iinc (v := nI 8) (lv2 := [.ref 0, .int (nI 90), .int (nI 0), .int (nI 8)]) rfl (by decide +kernel) (by decide) rfl d_X_sum_21 ?_
    refine aw_goto (tgt := 4) (by decide) d_X_sum_24 ?_
    refine aw_iload_n rfl rfl d_X_sum_4 ?_
    refine aw_bipush (v := nI 8) cb_8 d_X_sum_5 ?_
    refine aw_icmp_gtI (tgt := 27) (8) (8) (by decide +kernel) (by decide +kernel) (by decide) d_X_sum_7 (fun q => absurd q (by decide)) (fun _ => ?_)
    refine aw_iload_n rfl rfl d_X_sum_10 ?_
    refine aw_aload_n rfl rfl d_X_sum_11 ?_
    refine aw_getr fl_X_7 km_0 (by decide) rfl rm_0_0 d_X_sum_12 ?_
    refine aw_iload_n rfl rfl d_X_sum_15 ?_
    refine aw_iload_n rfl rfl d_X_sum_16 ?_
    refine aw_iadd d_X_sum_17 ?_
    refine aw_top (x2 := nI 98) (by decide +kernel) ?_
    refine aw_iald (j := 98) km_1 (vp_in_nI (by decide) (by decide)) (nI_clamp (by decide)) d_X_sum_18 ?_
    refine aw_top (x2 := nI 0) (Eq.trans (congrFun (upd2_ne (by decide)) (98)) (Eq.trans (congrFun (upd2_ne (by decide)) (98)) (g10 18 (by decide)))) ?_
    refine aw_iadd d_X_sum_19 ?_
    refine aw_top (x2 := nI 0) (by decide +kernel) ?_
    refine aw_istore_n (lv2 := [.ref 0, .int (nI 90), .int (nI 0), .int (nI 8)]) rfl (by decide) rfl d_X_sum_20 ?_
    refine aw_iinc (v := nI 9) (lv2 := [.ref 0, .int (nI 90), .int (nI 0), .int (nI 9)]) rfl (by decide +kernel) (by decide) rfl d_X_sum_21 ?_
    refine aw_goto (tgt := 4) (by decide) d_X_sum_24 ?_
    refine aw_iload_n rfl rfl d_X_sum_4 ?_
    refine aw_bipush (v := nI 8) cb_8 d_X_sum_5 ?_
    refine aw_icmp_gtI (tgt := 27) (9) (8) (by decide +kernel) (by decide +kernel) (by decide) d_X_sum_7 (fun _ => ?_) (fun q => absurd q (by decide))
    refine aw_iload_n rfl rfl d_X_sum_27 ?_
    refine as_reti rfl d_X_sum_28 ?_
    refine (show As l b 8 y_X_leads KM RM K2 (upd2 (upd2 I 25 (0) (nI (((i * t) - 0)))) 25 (1) (nI 0)) 108 [.ref 0, .int (rule), .int (bound), .int (nI (t)), .int (nI (n0)), .int (nI 0), .int (nI (i))] [.int (nI 0), .int (nI 2), .ref 25] from ?_)
    refine aw_iload rfl d_X_leads_108 ?_
    refine aw_isub d_X_leads_110 ?_
    refine aw_top (x2 := nI 0) (by decide +kernel) ?_
    refine aw_iast (j := 2) km_25 (vp_in_nI (by decide) (by decide)) (nI_clamp (by decide)) d_X_leads_111 ?_
    refine aw_aload_n rfl rfl d_X_leads_112 ?_
    refine aw_getr fl_X_93 km_0 (by decide) rfl rm_0_49 d_X_leads_113 ?_
    refine aw_iconst (v := nI 3) ci_3 d_X_leads_116 ?_
    refine aw_aload_n rfl rfl d_X_leads_117 ?_
    refine aw_getr fl_X_7 km_0 (by decide) rfl rm_0_0 d_X_leads_118 ?_
    refine aw_bipush (v := nI 76) cb_76 d_X_leads_121 ?_
    refine aw_iald (j := 76) km_1 (vp_in_nI (by decide) (by decide)) (nI_clamp (by decide)) d_X_leads_123 ?_
    refine aw_top (x2 := nI 0) (Eq.trans (congrFun (upd2_ne (by decide)) (76)) (Eq.trans (congrFun (upd2_ne (by decide)) (76)) (Eq.trans (congrFun (upd2_ne (by decide)) (76)) (g9)))) ?_
    refine aw_aload_n rfl rfl d_X_leads_124 ?_
    refine aw_getr fl_X_16 km_0 (by decide) rfl rm_0_2 d_X_leads_125 ?_
    refine aw_bipush (v := nI 76) cb_76 d_X_leads_128 ?_
    refine aw_iald (j := 76) km_3 (vp_in_nI (by decide) (by decide)) (nI_clamp (by decide)) d_X_leads_130 ?_
    refine aw_top (x2 := nI 0) (Eq.trans (congrFun (upd2_ne (by decide)) (76)) (Eq.trans (congrFun (upd2_ne (by decide)) (76)) (Eq.trans (congrFun (upd2_ne (by decide)) (76)) (((hB (76) (by omega)).trans (x9)))))) ?_
    refine aw_isub d_X_leads_131 ?_
    refine aw_top (x2 := nI 0) (by decide +kernel) ?_
    refine aw_iast (j := 3) km_25 (vp_in_nI (by decide) (by decide)) (nI_clamp (by decide)) d_X_leads_132 ?_
    refine aw_aload_n rfl rfl d_X_leads_133 ?_
    refine aw_getr fl_X_93 km_0 (by decide) rfl rm_0_49 d_X_leads_134 ?_
    refine aw_iconst (v := nI 4) ci_4 d_X_leads_137 ?_
    refine aw_aload_n rfl rfl d_X_leads_138 ?_
    refine aw_getr fl_X_7 km_0 (by decide) rfl rm_0_0 d_X_leads_139 ?_
    refine aw_bipush (v := nI 75) cb_75 d_X_leads_142 ?_
    refine aw_iald (j := 75) km_1 (vp_in_nI (by decide) (by decide)) (nI_clamp (by decide)) d_X_leads_144 ?_
    refine aw_top (x2 := nI 0) (Eq.trans (congrFun (upd2_ne (by decide)) (75)) (Eq.trans (congrFun (upd2_ne (by decide)) (75)) (Eq.trans (congrFun (upd2_ne (by decide)) (75)) (Eq.trans (congrFun (upd2_ne (by decide)) (75)) (g8))))) ?_
    refine aw_aload_n rfl rfl d_X_leads_145 ?_
    refine aw_getr fl_X_16 km_0 (by decide) rfl rm_0_2 d_X_leads_146 ?_
    refine aw_bipush (v := nI 75) cb_75 d_X_leads_149 ?_
    refine aw_iald (j := 75) km_3 (vp_in_nI (by decide) (by decide)) (nI_clamp (by decide)) d_X_leads_151 ?_
    refine aw_top (x2 := nI 0) (Eq.trans (congrFun (upd2_ne (by decide)) (75)) (Eq.trans (congrFun (upd2_ne (by decide)) (75)) (Eq.trans (congrFun (upd2_ne (by decide)) (75)) (Eq.trans (congrFun (upd2_ne (by decide)) (75)) (((hB (75) (by omega)).trans (x8))))))) ?_
    refine aw_isub d_X_leads_152 ?_
    refine aw_top (x2 := nI 0) (by decide +kernel) ?_
    refine aw_iast (j := 4) km_25 (vp_in_nI (by decide) (by decide)) (nI_clamp (by decide)) d_X_leads_153 ?_
    refine aw_aload_n rfl rfl d_X_leads_154 ?_
    refine aw_getr fl_X_93 km_0 (by decide) rfl rm_0_49 d_X_leads_155 ?_
    refine aw_iconst (v := nI 5) ci_5 d_X_leads_158 ?_
    refine aw_aload_n rfl rfl d_X_leads_159 ?_
    refine as_callV (as := []) (d' := 7) (q := ("SinglesUpModel", zT9, 51)) mo_X_longest lk_X_413 km_0 rfl rfl rfl ⟨by decide, by decide⟩ rfl rfl (by decide) d_X_leads_160 (Ss.of (show As l b 7 y_X_longest KM RM _ (upd2 (upd2 (upd2 (upd2 (upd2 I 25 (0) (nI (((i * t) - 0)))) 25 (1) (nI 0)) 25 (2) (nI 0)) 25 (3) (nI 0)) 25 (4) (nI 0)) 0 [.ref 0, uu, uu] [] from ?_))
    refine aw_iconst (v := nI 0) ci_0 d_X_longest_0 ?_
    refine aw_istore_n (lv2 := [.ref 0, .int (nI 0), uu]) rfl (by decide) rfl d_X_longest_1 ?_
    refine aw_iconst (v := nI 1) ci_1 d_X_longest_2 ?_
    refine aw_istore_n (lv2 := [.ref 0, .int (nI 0), .int (nI 1)]) rfl (by decide) rfl d_X_longest_3 ?_
    refine aw_iload_n rfl rfl d_X_longest_4 ?_
    refine aw_bipush (v := nI 8) cb_8 d_X_longest_5 ?_
    refine aw_icmp_gtI (tgt := 43) (1) (8) (by decide +kernel) (by decide +kernel) (by decide) d_X_longest_7 (fun q => absurd q (by decide)) (fun _ => ?_)
    refine aw_aload_n rfl rfl d_X_longest_10 ?_
    refine aw_getr fl_X_7 km_0 (by decide) rfl rm_0_0 d_X_longest_11 ?_
    refine aw_bipush (v := nI 100) cb_100 d_X_longest_14 ?_
    refine aw_iload_n rfl rfl d_X_longest_16 ?_
    refine aw_iadd d_X_longest_17 ?_
    refine aw_top (x2 := nI 101) (by decide +kernel) ?_
    refine aw_iald (j := 101) km_1 (vp_in_nI (by decide) (by decide)) (nI_clamp (by decide)) d_X_longest_18 ?_
    refine aw_top (x2 := nI 0) (Eq.trans (congrFun (upd2_ne (by decide)) (101)) (Eq.trans (congrFun (upd2_ne (by decide)) (101)) (Eq.trans (congrFun (upd2_ne (by decide)) (101)) (Eq.trans (congrFun (upd2_ne (by decide)) (101)) (Eq.trans (congrFun (upd2_ne (by decide)) (101)) (g10 21 (by decide))))))) ?_
    refine aw_iload_n rfl rfl d_X_longest_19 ?_
    refine aw_icmp_leI (tgt := 35) (0) (0) (by decide +kernel) (by decide +kernel) (by decide) d_X_longest_20 (fun _ => ?_) (fun q => absurd q (by decide))
    refine aw_iload_n rfl rfl d_X_longest_35 ?_
    refine aw_istore_n (lv2 := [.ref 0, .int (nI 0), .int (nI 1)]) rfl (by decide) rfl d_X_longest_36 ?_
    refine aw_iinc (v := nI 2) (lv2 := [.ref 0, .int (nI 0), .int (nI 2)]) rfl (by decide +kernel) (by decide) rfl d_X_longest_37 ?_
    refine aw_goto (tgt := 4) (by decide) d_X_longest_40 ?_
    refine aw_iload_n rfl rfl d_X_longest_4 ?_
    refine aw_bipush (v := nI 8) cb_8 d_X_longest_5 ?_
    refine aw_icmp_gtI (tgt := 43) (2) (8) (by decide +kernel) (by decide +kernel) (by decide) d_X_longest_7 (fun q => absurd q (by decide)) (fun _ => ?_)
    refine aw_aload_n rfl rfl d_X_longest_10 ?_
    refine aw_getr fl_X_7 km_0 (by decide) rfl rm_0_0 d_X_longest_11 ?_
    refine aw_bipush (v := nI 100) cb_100 d_X_longest_14 ?_
    refine aw_iload_n rfl rfl d_X_longest_16 ?_
    refine aw_iadd d_X_longest_17 ?_
    refine aw_top (x2 := nI 102) (by decide +kernel) ?_
    refine aw_iald (j := 102) km_1 (vp_in_nI (by decide) (by decide)) (nI_clamp (by decide)) d_X_longest_18 ?_
    refine aw_top (x2 := nI 0) (Eq.trans (congrFun (upd2_ne (by decide)) (102)) (Eq.trans (congrFun (upd2_ne (by decide)) (102)) (Eq.trans (congrFun (upd2_ne (by decide)) (102)) (Eq.trans (congrFun (upd2_ne (by decide)) (102)) (Eq.trans (congrFun (upd2_ne (by decide)) (102)) (g10 22 (by decide))))))) ?_
    refine aw_iload_n rfl rfl d_X_longest_19 ?_
    refine aw_icmp_leI (tgt := 35) (0) (0) (by decide +kernel) (by decide +kernel) (by decide) d_X_longest_20 (fun _ => ?_) (fun q => absurd q (by decide))
    refine aw_iload_n rfl rfl d_X_longest_35 ?_
    refine aw_istore_n (lv2 := [.ref 0, .int (nI 0), .int (nI 2)]) rfl (by decide) rfl d_X_longest_36 ?_
    refine aw_iinc (v := nI 3) (lv2 := [.ref 0, .int (nI 0), .int (nI 3)]) rfl (by decide +kernel) (by decide) rfl d_X_longest_37 ?_
    refine aw_goto (tgt := 4) (by decide) d_X_longest_40 ?_
    refine aw_iload_n rfl rfl d_X_longest_4 ?_
    refine aw_bipush (v := nI 8) cb_8 d_X_longest_5 ?_
    refine aw_icmp_gtI (tgt := 43) (3) (8) (by decide +kernel) (by decide +kernel) (by decide) d_X_longest_7 (fun q => absurd q (by decide)) (fun _ => ?_)
    refine aw_aload_n rfl rfl d_X_longest_10 ?_
    refine aw_getr fl_X_7 km_0 (by decide) rfl rm_0_0 d_X_longest_11 ?_
    refine aw_bipush (v := nI 100) cb_100 d_X_longest_14 ?_
    refine aw_iload_n rfl rfl d_X_longest_16 ?_
    refine aw_iadd d_X_longest_17 ?_
    refine aw_top (x2 := nI 103) (by decide +kernel) ?_
    refine aw_iald (j := 103) km_1 (vp_in_nI (by decide) (by decide)) (nI_clamp (by decide)) d_X_longest_18 ?_
    refine aw_top (x2 := nI 0) (Eq.trans (congrFun (upd2_ne (by decide)) (103)) (Eq.trans (congrFun (upd2_ne (by decide)) (103)) (Eq.trans (congrFun (upd2_ne (by decide)) (103)) (Eq.trans (congrFun (upd2_ne (by decide)) (103)) (Eq.trans (congrFun (upd2_ne (by decide)) (103)) (g10 23 (by decide))))))) ?_
    refine aw_iload_n rfl rfl d_X_longest_19 ?_
    refine aw_icmp_leI (tgt := 35) (0) (0) (by decide +kernel) (by decide +kernel) (by decide) d_X_longest_20 (fun _ => ?_) (fun q => absurd q (by decide))
    refine aw_iload_n rfl rfl d_X_longest_35 ?_
    refine aw_istore_n (lv2 := [.ref 0, .int (nI 0), .int (nI 3)]) rfl (by decide) rfl d_X_longest_36 ?_
    refine aw_iinc (v := nI 4) (lv2 := [.ref 0, .int (nI 0), .int (nI 4)]) rfl (by decide +kernel) (by decide) rfl d_X_longest_37 ?_
    refine aw_goto (tgt := 4) (by decide) d_X_longest_40 ?_
    refine aw_iload_n rfl rfl d_X_longest_4 ?_
    refine aw_bipush (v := nI 8) cb_8 d_X_longest_5 ?_
    refine aw_icmp_gtI (tgt := 43) (4) (8) (by decide +kernel) (by decide +kernel) (by decide) d_X_longest_7 (fun q => absurd q (by decide)) (fun _ => ?_)
    refine aw_aload_n rfl rfl d_X_longest_10 ?_
    refine aw_getr fl_X_7 km_0 (by decide) rfl rm_0_0 d_X_longest_11 ?_
    refine aw_bipush (v := nI 100) cb_100 d_X_longest_14 ?_
    refine aw_iload_n rfl rfl d_X_longest_16 ?_
    refine aw_iadd d_X_longest_17 ?_
    refine aw_top (x2 := nI 104) (by decide +kernel) ?_
    refine aw_iald (j := 104) km_1 (vp_in_nI (by decide) (by decide)) (nI_clamp (by decide)) d_X_longest_18 ?_
    refine aw_top (x2 := nI 0) (Eq.trans (congrFun (upd2_ne (by decide)) (104)) (Eq.trans (congrFun (upd2_ne (by decide)) (104)) (Eq.trans (congrFun (upd2_ne (by decide)) (104)) (Eq.trans (congrFun (upd2_ne (by decide)) (104)) (Eq.trans (congrFun (upd2_ne (by decide)) (104)) (g10 24 (by decide))))))) ?_
    refine aw_iload_n rfl rfl d_X_longest_19 ?_
    refine aw_icmp_leI (tgt := 35) (0) (0) (by decide +kernel) (by decide +kernel) (by decide) d_X_longest_20 (fun _ => ?_) (fun q => absurd q (by decide))
    refine aw_iload_n rfl rfl d_X_longest_35 ?_
    refine aw_istore_n (lv2 := [.ref 0, .int (nI 0), .int (nI 4)]) rfl (by decide) rfl d_X_longest_36 ?_
    refine aw_iinc (v := nI 5) (lv2 := [.ref 0, .int (nI 0), .int (nI 5)]) rfl (by decide +kernel) (by decide) rfl d_X_longest_37 ?_
    refine aw_goto (tgt := 4) (by decide) d_X_longest_40 ?_
    refine aw_iload_n rfl rfl d_X_longest_4 ?_
    refine aw_bipush (v := nI 8) cb_8 d_X_longest_5 ?_
    refine aw_icmp_gtI (tgt := 43) (5) (8) (by decide +kernel) (by decide +kernel) (by decide) d_X_longest_7 (fun q => absurd q (by decide)) (fun _ => ?_)
    refine aw_aload_n rfl rfl d_X_longest_10 ?_
    refine aw_getr fl_X_7 km_0 (by decide) rfl rm_0_0 d_X_longest_11 ?_
    refine aw_bipush (v := nI 100) cb_100 d_X_longest_14 ?_
    refine aw_iload_n rfl rfl d_X_longest_16 ?_
    refine aw_iadd d_X_longest_17 ?_
    refine aw_top (x2 := nI 105) (by decide +kernel) ?_
    refine aw_iald (j := 105) km_1 (vp_in_nI (by decide) (by decide)) (nI_clamp (by decide)) d_X_longest_18 ?_
    refine aw_top (x2 := nI 0) (Eq.trans (congrFun (upd2_ne (by decide)) (105)) (Eq.trans (congrFun (upd2_ne (by decide)) (105)) (Eq.trans (congrFun (upd2_ne (by decide)) (105)) (Eq.trans (congrFun (upd2_ne (by decide)) (105)) (Eq.trans (congrFun (upd2_ne (by decide)) (105)) (g10 25 (by decide))))))) ?_
    refine aw_iload_n rfl rfl d_X_longest_19 ?_
    refine aw_icmp_leI (tgt := 35) (0) (0) (by decide +kernel) (by decide +kernel) (by decide) d_X_longest_20 (fun _ => ?_) (fun q => absurd q (by decide))
    refine aw_iload_n rfl rfl d_X_longest_35 ?_
    refine aw_istore_n (lv2 := [.ref 0, .int (nI 0), .int (nI 5)]) rfl (by decide) rfl d_X_longest_36 ?_
    refine aw_iinc (v := nI 6) (lv2 := [.ref 0, .int (nI 0), .int (nI 6)]) rfl (by decide +kernel) (by decide) rfl d_X_longest_37 ?_
    refine aw_goto (tgt := 4) (by decide) d_X_longest_40 ?_
    refine aw_iload_n rfl rfl d_X_longest_4 ?_
    refine aw_bipush (v := nI 8) cb_8 d_X_longest_5 ?_
    refine aw_icmp_gtI (tgt := 43) (6) (8) (by decide +kernel) (by decide +kernel) (by decide) d_X_longest_7 (fun q => absurd q (by decide)) (fun _ => ?_)
    refine aw_aload_n rfl rfl d_X_longest_10 ?_
    refine aw_getr fl_X_7 km_0 (by decide) rfl rm_0_0 d_X_longest_11 ?_
    refine aw_bipush (v := nI 100) cb_100 d_X_longest_14 ?_
    refine aw_iload_n rfl rfl d_X_longest_16 ?_
    refine aw_iadd d_X_longest_17 ?_
    refine aw_top (x2 := nI 106) (by decide +kernel) ?_
    refine aw_iald (j := 106) km_1 (vp_in_nI (by decide) (by decide)) (nI_clamp (by decide)) d_X_longest_18 ?_
    refine aw_top (x2 := nI 0) (Eq.trans (congrFun (upd2_ne (by decide)) (106)) (Eq.trans (congrFun (upd2_ne (by decide)) (106)) (Eq.trans (congrFun (upd2_ne (by decide)) (106)) (Eq.trans (congrFun (upd2_ne (by decide)) (106)) (Eq.trans (congrFun (upd2_ne (by decide)) (106)) (g10 26 (by decide))))))) ?_
    refine aw_iload_n rfl rfl d_X_longest_19 ?_
    refine aw_icmp_leI (tgt := 35) (0) (0) (by decide +kernel) (by decide +kernel) (by decide) d_X_longest_20 (fun _ => ?_) (fun q => absurd q (by decide))
    refine aw_iload_n rfl rfl d_X_longest_35 ?_
    refine aw_istore_n (lv2 := [.ref 0, .int (nI 0), .int (nI 6)]) rfl (by decide) rfl d_X_longest_36 ?_
    refine aw_iinc (v := nI 7) (lv2 := [.ref 0, .int (nI 0), .int (nI 7)]) rfl (by decide +kernel) (by decide) rfl d_X_longest_37 ?_
    refine aw_goto (tgt := 4) (by decide) d_X_longest_40 ?_
    refine aw_iload_n rfl rfl d_X_longest_4 ?_
    refine aw_bipush (v := nI 8) cb_8 d_X_longest_5 ?_
    refine aw_icmp_gtI (tgt := 43) (7) (8) (by decide +kernel) (by decide +kernel) (by decide) d_X_longest_7 (fun q => absurd q (by decide)) (fun _ => ?_)
    refine aw_aload_n rfl rfl d_X_longest_10 ?_
    refine aw_getr fl_X_7 km_0 (by decide) rfl rm_0_0 d_X_longest_11 ?_
    refine aw_bipush (v := nI 100) cb_100 d_X_longest_14 ?_
    refine aw_iload_n rfl rfl d_X_longest_16 ?_
    refine aw_iadd d_X_longest_17 ?_
    refine aw_top (x2 := nI 107) (by decide +kernel) ?_
    refine aw_iald (j := 107) km_1 (vp_in_nI (by decide) (by decide)) (nI_clamp (by decide)) d_X_longest_18 ?_
    refine aw_top (x2 := nI 0) (Eq.trans (congrFun (upd2_ne (by decide)) (107)) (Eq.trans (congrFun (upd2_ne (by decide)) (107)) (Eq.trans (congrFun (upd2_ne (by decide)) (107)) (Eq.trans (congrFun (upd2_ne (by decide)) (107)) (Eq.trans (congrFun (upd2_ne (by decide)) (107)) (g10 27 (by decide))))))) ?_
    refine aw_iload_n rfl rfl d_X_longest_19 ?_
    refine aw_icmp_leI (tgt := 35) (0) (0) (by decide +kernel) (by decide +kernel) (by decide) d_X_longest_20 (fun _ => ?_) (fun q => absurd q (by decide))
    refine aw_iload_n rfl rfl d_X_longest_35 ?_
    refine aw_istore_n (lv2 := [.ref 0, .int (nI 0), .int (nI 7)]) rfl (by decide) rfl d_X_longest_36 ?_
    refine aw_iinc (v := nI 8) (lv2 := [.ref 0, .int (nI 0), .int (nI 8)]) rfl (by decide +kernel) (by decide) rfl d_X_longest_37 ?_
    refine aw_goto (tgt := 4) (by decide) d_X_longest_40 ?_
    refine aw_iload_n rfl rfl d_X_longest_4 ?_
    refine aw_bipush (v := nI 8) cb_8 d_X_longest_5 ?_
    refine aw_icmp_gtI (tgt := 43) (8) (8) (by decide +kernel) (by decide +kernel) (by decide) d_X_longest_7 (fun q => absurd q (by decide)) (fun _ => ?_)
    refine aw_aload_n rfl rfl d_X_longest_10 ?_
    refine aw_getr fl_X_7 km_0 (by decide) rfl rm_0_0 d_X_longest_11 ?_
    refine aw_bipush (v := nI 100) cb_100 d_X_longest_14 ?_
    refine aw_iload_n rfl rfl d_X_longest_16 ?_
    refine aw_iadd d_X_longest_17 ?_
    refine aw_top (x2 := nI 108) (by decide +kernel) ?_
    refine aw_iald (j := 108) km_1 (vp_in_nI (by decide) (by decide)) (nI_clamp (by decide)) d_X_longest_18 ?_
    refine aw_top (x2 := nI 0) (Eq.trans (congrFun (upd2_ne (by decide)) (108)) (Eq.trans (congrFun (upd2_ne (by decide)) (108)) (Eq.trans (congrFun (upd2_ne (by decide)) (108)) (Eq.trans (congrFun (upd2_ne (by decide)) (108)) (Eq.trans (congrFun (upd2_ne (by decide)) (108)) (g10 28 (by decide))))))) ?_
    refine aw_iload_n rfl rfl d_X_longest_19 ?_
    refine aw_icmp_leI (tgt := 35) (0) (0) (by decide +kernel) (by decide +kernel) (by decide) d_X_longest_20 (fun _ => ?_) (fun q => absurd q (by decide))
    refine aw_iload_n rfl rfl d_X_longest_35 ?_
    refine aw_istore_n (lv2 := [.ref 0, .int (nI 0), .int (nI 8)]) rfl (by decide) rfl d_X_longest_36 ?_
    refine aw_iinc (v := nI 9) (lv2 := [.ref 0, .int (nI 0), .int (nI 9)]) rfl (by decide +kernel) (by decide) rfl d_X_longest_37 ?_
    refine aw_goto (tgt := 4) (by decide) d_X_longest_40 ?_
    refine aw_iload_n rfl rfl d_X_longest_4 ?_
    refine aw_bipush (v := nI 8) cb_8 d_X_longest_5 ?_
    refine aw_icmp_gtI (tgt := 43) (9) (8) (by decide +kernel) (by decide +kernel) (by decide) d_X_longest_7 (fun _ => ?_) (fun q => absurd q (by decide))
    refine aw_iload_n rfl rfl d_X_longest_43 ?_
    refine as_reti rfl d_X_longest_44 ?_
    refine (show As l b 8 y_X_leads KM RM K2 (upd2 (upd2 (upd2 (upd2 (upd2 I 25 (0) (nI (((i * t) - 0)))) 25 (1) (nI 0)) 25 (2) (nI 0)) 25 (3) (nI 0)) 25 (4) (nI 0)) 163 [.ref 0, .int (rule), .int (bound), .int (nI (t)), .int (nI (n0)), .int (nI 0), .int (nI (i))] [.int (nI 0), .int (nI 5), .ref 25] from ?_)
    refine aw_iast (j := 5) km_25 (vp_in_nI (by decide) (by decide)) (nI_clamp (by decide)) d_X_leads_163 ?_
    refine aw_aload_n rfl rfl d_X_leads_164 ?_
    refine as_callV (as := []) (d' := 1) (q := ("SinglesUpModel", zT9, 51)) mo_X_comesBack lk_X_398 km_0 rfl rfl rfl ⟨by decide, by decide⟩ rfl rfl (by decide) d_X_leads_165 (sp_cb (I := upd2 (upd2 (upd2 (upd2 (upd2 (upd2 I 25 (0) (nI (((i * t) - 0)))) 25 (1) (nI 0)) 25 (2) (nI 0)) 25 (3) (nI 0)) 25 (4) (nI 0)) 25 (5) (nI 0)) (fun j hj => (Eq.trans (congrFun (upd2_ne (by decide)) (j)) (Eq.trans (congrFun (upd2_ne (by decide)) (j)) (Eq.trans (congrFun (upd2_ne (by decide)) (j)) (Eq.trans (congrFun (upd2_ne (by decide)) (j)) (Eq.trans (congrFun (upd2_ne (by decide)) (j)) (Eq.trans (congrFun (upd2_ne (by decide)) (j)) ((hp (j) (by omega)))))))))) (fun J1 e2 e3 e4 => ?_))
    refine (show As l b 8 y_X_leads KM RM K2 (J1) 168 [.ref 0, .int (rule), .int (bound), .int (nI (t)), .int (nI (n0)), .int (nI 0), .int (nI (i))] [] from ?_)
    exact as_retv rfl d_X_leads_168 (hK J1 (GM_of hI0 (fun j hj => (e2 j hj).trans ((Eq.trans (congrFun (upd2_ne (by decide)) (j)) (Eq.trans (congrFun (upd2_ne (by decide)) (j)) (Eq.trans (congrFun (upd2_ne (by decide)) (j)) (Eq.trans (congrFun (upd2_ne (by decide)) (j)) (Eq.trans (congrFun (upd2_ne (by decide)) (j)) (Eq.trans (congrFun (upd2_ne (by decide)) (j)) ((hB (j) (by omega))))))))))) e3) (Eq.trans (((congrFun (e4 25 (by omega)) (0)).trans (Eq.trans (upd2_nx (by omega)) (Eq.trans (upd2_nx (by omega)) (Eq.trans (upd2_nx (by omega)) (Eq.trans (upd2_nx (by omega)) (Eq.trans (upd2_nx (by omega)) (upd2_eq)))))))) (congrArg nI (show ((i * t) - 0) = n0 * t by rw [show i = n0 by omega]; omega))) (fun j h1 h6 => by rcases (show j = 1 ∨ j = 2 ∨ j = 3 ∨ j = 4 ∨ j = 5 by omega) with rfl | rfl | rfl | rfl | rfl; exact (((congrFun (e4 25 (by omega)) (1)).trans (Eq.trans (upd2_nx (by omega)) (Eq.trans (upd2_nx (by omega)) (Eq.trans (upd2_nx (by omega)) (Eq.trans (upd2_nx (by omega)) (upd2_eq))))))); exact (((congrFun (e4 25 (by omega)) (2)).trans (Eq.trans (upd2_nx (by omega)) (Eq.trans (upd2_nx (by omega)) (Eq.trans (upd2_nx (by omega)) (upd2_eq)))))); exact (((congrFun (e4 25 (by omega)) (3)).trans (Eq.trans (upd2_nx (by omega)) (Eq.trans (upd2_nx (by omega)) (upd2_eq))))); exact (((congrFun (e4 25 (by omega)) (4)).trans (Eq.trans (upd2_nx (by omega)) (upd2_eq)))); exact (((congrFun (e4 25 (by omega)) (5)).trans (upd2_eq)))))
  | succ n ih =>
    intro i I hi hF hB hp
    have hF0 := hF
    have hI0 := hI
    have hm : i * t ≤ 40 * 8 := Nat.mul_le_mul (by omega) (by omega)
    obtain ⟨g0, g1, g2, g3, g4, g5, g6, g7, g8, g9, g10, g11, g12, gb⟩ := hF
    obtain ⟨x0, x1, x2, x3, x4, x5, x6, x7, x8, x9, x10, x11, x12, xb⟩ := hI
    refine aw_iload rfl d_X_leads_37 ?_
    refine aw_iload rfl d_X_leads_39 ?_
    refine aw_icmp_geI (tgt := 55) ((i : Nat) : Int) ((n0 : Nat) : Int) (nI_toInt (by omega)) (nI_toInt (by omega)) (by decide) d_X_leads_41 (fun q => absurd q (by omega)) (fun _ => ?_)
    refine aw_aload_n rfl rfl d_X_leads_44 ?_
    refine as_callV (as := []) (d' := 7) (q := ("SinglesUpModel", zT9, 51)) mo_X_turn lk_X_341 km_0 rfl rfl rfl ⟨by decide, by decide⟩ rfl rfl (by decide) d_X_leads_45 (sp_mturn (I := I) (s := t) (e := (i * t)) (k := i) hF0 (by omega) (fun J1 gm2 f3 => ?_))
    refine (show As l b 8 y_X_leads KM RM K2 (J1) 48 [.ref 0, .int (rule), .int (bound), .int (nI (t)), .int (nI (n0)), .int (nI 0), .int (nI (i))] [.int (nI 0)] from ?_)
    refine aw_pop rfl d_X_leads_48 ?_
    refine aw_iinc (v := nI (i + 1)) (lv2 := [.ref 0, .int (rule), .int (bound), .int (nI (t)), .int (nI (n0)), .int (nI 0), .int (nI (i + 1))]) rfl (inc_1 _) (by decide) rfl d_X_leads_49 ?_
    refine aw_goto (tgt := 37) (by decide) d_X_leads_52 ?_
    exact ih (i + 1) _ (by omega) (by rw [Nat.succ_mul]; exact gm2) (fun j hj => (congrFun (f3 3 (by omega)) j).trans (hB j hj)) (fun j hj => (congrFun (f3 23 (by omega)) j).trans (hp j hj))
set_option maxRecDepth 20000 in
theorem sp_leads {K2 : K2T} {I : Nat → Nat → Int32} {rule bound : Int32} {t n0 : Nat} (ht : t < 9) (hn0 : n0 ≤ 40) (hI : GM I 4 0 0) (hK : ∀ I', GM I' 4 0 0 → I' 25 0 = nI (n0 * t) → (∀ j, 1 ≤ j → j < 6 → I' 25 j = nI 0) → K2 none I') : Ss l b 8 y_X_leads KM RM [.ref 0, .int (rule), .int (bound), .int (nI (t)), .int (nI (n0))] (I) K2 := by
  have hF := hI
  obtain ⟨g0, g1, g2, g3, g4, g5, g6, g7, g8, g9, g10, g11, g12, gb⟩ := hF
  refine Ss.of (show As l b 8 y_X_leads KM RM K2 (I) 0 [.ref 0, .int (rule), .int (bound), .int (nI (t)), .int (nI (n0)), uu, uu] [] from ?_)
  refine aw_aload_n rfl rfl d_X_leads_0 ?_
  refine as_callV (as := []) (d' := 1) (q := ("SinglesUpModel", zT9, 51)) mo_X_setsOut lk_X_392 km_0 rfl rfl rfl ⟨by decide, by decide⟩ rfl rfl (by decide) d_X_leads_1 (sp_so (I := I) (fun j hj => (g12 (j) (by omega))) (fun J1 e2 e3 e4 => ?_))
  refine (show As l b 8 y_X_leads KM RM K2 (J1) 4 [.ref 0, .int (rule), .int (bound), .int (nI (t)), .int (nI (n0)), uu, uu] [] from ?_)
  refine aw_aload_n rfl rfl d_X_leads_4 ?_
  refine aw_bipush (v := nI 90) cb_90 d_X_leads_5 ?_
  refine as_callV (as := [.int (nI 90)]) (d' := 7) (q := ("SinglesUpModel", zT9, 51)) mo_X_sum lk_X_410 km_0 rfl rfl rfl ⟨by decide, by decide⟩ rfl rfl (by decide) d_X_leads_7 (Ss.of (show As l b 7 y_X_sum KM RM _ (J1) 0 [.ref 0, .int (nI 90), uu, uu] [] from ?_))
  refine aw_iconst (v := nI 0) ci_0 d_X_sum_0 ?_
  refine aw_istore_n (lv2 := [.ref 0, .int (nI 90), .int (nI 0), uu]) rfl (by decide) rfl d_X_sum_1 ?_
  refine aw_iconst (v := nI 1) ci_1 d_X_sum_2 ?_
  refine aw_istore_n (lv2 := [.ref 0, .int (nI 90), .int (nI 0), .int (nI 1)]) rfl (by decide) rfl d_X_sum_3 ?_
  refine aw_iload_n rfl rfl d_X_sum_4 ?_
  refine aw_bipush (v := nI 8) cb_8 d_X_sum_5 ?_
  refine aw_icmp_gtI (tgt := 27) (1) (8) (by decide +kernel) (by decide +kernel) (by decide) d_X_sum_7 (fun q => absurd q (by decide)) (fun _ => ?_)
  refine aw_iload_n rfl rfl d_X_sum_10 ?_
  refine aw_aload_n rfl rfl d_X_sum_11 ?_
  refine aw_getr fl_X_7 km_0 (by decide) rfl rm_0_0 d_X_sum_12 ?_
  refine aw_iload_n rfl rfl d_X_sum_15 ?_
  refine aw_iload_n rfl rfl d_X_sum_16 ?_
  refine aw_iadd d_X_sum_17 ?_
  refine aw_top (x2 := nI 91) (by decide +kernel) ?_
  refine aw_iald (j := 91) km_1 (vp_in_nI (by decide) (by decide)) (nI_clamp (by decide)) d_X_sum_18 ?_
  refine aw_top (x2 := nI 0) (((congrFun (e4 1 (by omega)) (91)).trans (g10 11 (by decide)))) ?_
  refine aw_iadd d_X_sum_19 ?_
  refine aw_top (x2 := nI 0) (by decide +kernel) ?_
  refine aw_istore_n (lv2 := [.ref 0, .int (nI 90), .int (nI 0), .int (nI 1)]) rfl (by decide) rfl d_X_sum_20 ?_
  refine aw_iinc (v := nI 2) (lv2 := [.ref 0, .int (nI 90), .int (nI 0), .int (nI 2)]) rfl (by decide +kernel) (by decide) rfl d_X_sum_21 ?_
  refine aw_goto (tgt := 4) (by decide) d_X_sum_24 ?_
  refine aw_iload_n rfl rfl d_X_sum_4 ?_
  refine aw_bipush (v := nI 8) cb_8 d_X_sum_5 ?_
  refine aw_icmp_gtI (tgt := 27) (2) (8) (by decide +kernel) (by decide +kernel) (by decide) d_X_sum_7 (fun q => absurd q (by decide)) (fun _ => ?_)
  refine aw_iload_n rfl rfl d_X_sum_10 ?_
  refine aw_aload_n rfl rfl d_X_sum_11 ?_
  refine aw_getr fl_X_7 km_0 (by decide) rfl rm_0_0 d_X_sum_12 ?_
  refine aw_iload_n rfl rfl d_X_sum_15 ?_
  refine aw_iload_n rfl rfl d_X_sum_16 ?_
  refine aw_iadd d_X_sum_17 ?_
  refine aw_top (x2 := nI 92) (by decide +kernel) ?_
  refine aw_iald (j := 92) km_1 (vp_in_nI (by decide) (by decide)) (nI_clamp (by decide)) d_X_sum_18 ?_
  refine aw_top (x2 := nI 0) (((congrFun (e4 1 (by omega)) (92)).trans (g10 12 (by decide)))) ?_
  refine aw_iadd d_X_sum_19 ?_
  refine aw_top (x2 := nI 0) (by decide +kernel) ?_
  refine aw_istore_n (lv2 := [.ref 0, .int (nI 90), .int (nI 0), .int (nI 2)]) rfl (by decide) rfl d_X_sum_20 ?_
  refine aw_iinc (v := nI 3) (lv2 := [.ref 0, .int (nI 90), .int (nI 0), .int (nI 3)]) rfl (by decide +kernel) (by decide) rfl d_X_sum_21 ?_
  refine aw_goto (tgt := 4) (by decide) d_X_sum_24 ?_
  refine aw_iload_n rfl rfl d_X_sum_4 ?_
  refine aw_bipush (v := nI 8) cb_8 d_X_sum_5 ?_
  refine aw_icmp_gtI (tgt := 27) (3) (8) (by decide +kernel) (by decide +kernel) (by decide) d_X_sum_7 (fun q => absurd q (by decide)) (fun _ => ?_)
  refine aw_iload_n rfl rfl d_X_sum_10 ?_
  refine aw_aload_n rfl rfl d_X_sum_11 ?_
  refine aw_getr fl_X_7 km_0 (by decide) rfl rm_0_0 d_X_sum_12 ?_
  refine aw_iload_n rfl rfl d_X_sum_15 ?_
  refine aw_iload_n rfl rfl d_X_sum_16 ?_
  refine aw_iadd d_X_sum_17 ?_
  refine aw_top (x2 := nI 93) (by decide +kernel) ?_
  refine aw_iald (j := 93) km_1 (vp_in_nI (by decide) (by decide)) (nI_clamp (by decide)) d_X_sum_18 ?_
  refine aw_top (x2 := nI 0) (((congrFun (e4 1 (by omega)) (93)).trans (g10 13 (by decide)))) ?_
  refine aw_iadd d_X_sum_19 ?_
  refine aw_top (x2 := nI 0) (by decide +kernel) ?_
  refine aw_istore_n (lv2 := [.ref 0, .int (nI 90), .int (nI 0), .int (nI 3)]) rfl (by decide) rfl d_X_sum_20 ?_
  refine aw_iinc (v := nI 4) (lv2 := [.ref 0, .int (nI 90), .int (nI 0), .int (nI 4)]) rfl (by decide +kernel) (by decide) rfl d_X_sum_21 ?_
  refine aw_goto (tgt := 4) (by decide) d_X_sum_24 ?_
  refine aw_iload_n rfl rfl d_X_sum_4 ?_
  refine aw_bipush (v := nI 8) cb_8 d_X_sum_5 ?_
  refine aw_icmp_gtI (tgt := 27) (4) (8) (by decide +kernel) (by decide +kernel) (by decide) d_X_sum_7 (fun q => absurd q (by decide)) (fun _ => ?_)
  refine aw_iload_n rfl rfl d_X_sum_10 ?_
  refine aw_aload_n rfl rfl d_X_sum_11 ?_
  refine aw_getr fl_X_7 km_0 (by decide) rfl rm_0_0 d_X_sum_12 ?_
  refine aw_iload_n rfl rfl d_X_sum_15 ?_
  refine aw_iload_n rfl rfl d_X_sum_16 ?_
  refine aw_iadd d_X_sum_17 ?_
  refine aw_top (x2 := nI 94) (by decide +kernel) ?_
  refine aw_iald (j := 94) km_1 (vp_in_nI (by decide) (by decide)) (nI_clamp (by decide)) d_X_sum_18 ?_
  refine aw_top (x2 := nI 0) (((congrFun (e4 1 (by omega)) (94)).trans (g10 14 (by decide)))) ?_
  refine aw_iadd d_X_sum_19 ?_
  refine aw_top (x2 := nI 0) (by decide +kernel) ?_
  refine aw_istore_n (lv2 := [.ref 0, .int (nI 90), .int (nI 0), .int (nI 4)]) rfl (by decide) rfl d_X_sum_20 ?_
  refine aw_iinc (v := nI 5) (lv2 := [.ref 0, .int (nI 90), .int (nI 0), .int (nI 5)]) rfl (by decide +kernel) (by decide) rfl d_X_sum_21 ?_
  refine aw_goto (tgt := 4) (by decide) d_X_sum_24 ?_
  refine aw_iload_n rfl rfl d_X_sum_4 ?_
  refine aw_bipush (v := nI 8) cb_8 d_X_sum_5 ?_
  refine aw_icmp_gtI (tgt := 27) (5) (8) (by decide +kernel) (by decide +kernel) (by decide) d_X_sum_7 (fun q => absurd q (by decide)) (fun _ => ?_)
  refine aw_iload_n rfl rfl d_X_sum_10 ?_
  refine aw_aload_n rfl rfl d_X_sum_11 ?_
  refine aw_getr fl_X_7 km_0 (by decide) rfl rm_0_0 d_X_sum_12 ?_
  refine aw_iload_n rfl rfl d_X_sum_15 ?_
  refine aw_iload_n rfl rfl d_X_sum_16 ?_
  refine aw_iadd d_X_sum_17 ?_
  refine aw_top (x2 := nI 95) (by decide +kernel) ?_
  refine aw_iald (j := 95) km_1 (vp_in_nI (by decide) (by decide)) (nI_clamp (by decide)) d_X_sum_18 ?_
  refine aw_top (x2 := nI 0) (((congrFun (e4 1 (by omega)) (95)).trans (g10 15 (by decide)))) ?_
  refine aw_iadd d_X_sum_19 ?_
  refine aw_top (x2 := nI 0) (by decide +kernel) ?_
  refine aw_istore_n (lv2 := [.ref 0, .int (nI 90), .int (nI 0), .int (nI 5)]) rfl (by decide) rfl d_X_sum_20 ?_
  refine aw_iinc (v := nI 6) (lv2 := [.ref 0, .int (nI 90), .int (nI 0), .int (nI 6)]) rfl (by decide +kernel) (by decide) rfl d_X_sum_21 ?_
  refine aw_goto (tgt := 4) (by decide) d_X_sum_24 ?_
  refine aw_iload_n rfl rfl d_X_sum_4 ?_
  refine aw_bipush (v := nI 8) cb_8 d_X_sum_5 ?_
  refine aw_icmp_gtI (tgt := 27) (6) (8) (by decide +kernel) (by decide +kernel) (by decide) d_X_sum_7 (fun q => absurd q (by decide)) (fun _ => ?_)
  refine aw_iload_n rfl rfl d_X_sum_10 ?_
  refine aw_aload_n rfl rfl d_X_sum_11 ?_
  refine aw_getr fl_X_7 km_0 (by decide) rfl rm_0_0 d_X_sum_12 ?_
  refine aw_iload_n rfl rfl d_X_sum_15 ?_
  refine aw_iload_n rfl rfl d_X_sum_16 ?_
  refine aw_iadd d_X_sum_17 ?_
  refine aw_top (x2 := nI 96) (by decide +kernel) ?_
  refine aw_iald (j := 96) km_1 (vp_in_nI (by decide) (by decide)) (nI_clamp (by decide)) d_X_sum_18 ?_
  refine aw_top (x2 := nI 0) (((congrFun (e4 1 (by omega)) (96)).trans (g10 16 (by decide)))) ?_
  refine aw_iadd d_X_sum_19 ?_
  refine aw_top (x2 := nI 0) (by decide +kernel) ?_
  refine aw_istore_n (lv2 := [.ref 0, .int (nI 90), .int (nI 0), .int (nI 6)]) rfl (by decide) rfl d_X_sum_20 ?_
  refine aw_iinc (v := nI 7) (lv2 := [.ref 0, .int (nI 90), .int (nI 0), .int (nI 7)]) rfl (by decide +kernel) (by decide) rfl d_X_sum_21 ?_
  refine aw_goto (tgt := 4) (by decide) d_X_sum_24 ?_
  refine aw_iload_n rfl rfl d_X_sum_4 ?_
  refine aw_bipush (v := nI 8) cb_8 d_X_sum_5 ?_
  refine aw_icmp_gtI (tgt := 27) (7) (8) (by decide +kernel) (by decide +kernel) (by decide) d_X_sum_7 (fun q => absurd q (by decide)) (fun _ => ?_)
  refine aw_iload_n rfl rfl d_X_sum_10 ?_
  refine aw_aload_n rfl rfl d_X_sum_11 ?_
  refine aw_getr fl_X_7 km_0 (by decide) rfl rm_0_0 d_X_sum_12 ?_
  refine aw_iload_n rfl rfl d_X_sum_15 ?_
  refine aw_iload_n rfl rfl d_X_sum_16 ?_
  refine aw_iadd d_X_sum_17 ?_
  refine aw_top (x2 := nI 97) (by decide +kernel) ?_
  refine aw_iald (j := 97) km_1 (vp_in_nI (by decide) (by decide)) (nI_clamp (by decide)) d_X_sum_18 ?_
  refine aw_top (x2 := nI 0) (((congrFun (e4 1 (by omega)) (97)).trans (g10 17 (by decide)))) ?_
  refine aw_iadd d_X_sum_19 ?_
  refine aw_top (x2 := nI 0) (by decide +kernel) ?_
  refine aw_istore_n (lv2 := [.ref 0, .int (nI 90), .int (nI 0), .int (nI 7)]) rfl (by decide) rfl d_X_sum_20 ?_
  refine aw_iinc (v := nI 8) (lv2 := [.ref 0, .int (nI 90), .int (nI 0), .int (nI 8)]) rfl (by decide +kernel) (by decide) rfl d_X_sum_21 ?_
  refine aw_goto (tgt := 4) (by decide) d_X_sum_24 ?_
  refine aw_iload_n rfl rfl d_X_sum_4 ?_
  refine aw_bipush (v := nI 8) cb_8 d_X_sum_5 ?_
  refine aw_icmp_gtI (tgt := 27) (8) (8) (by decide +kernel) (by decide +kernel) (by decide) d_X_sum_7 (fun q => absurd q (by decide)) (fun _ => ?_)
  refine aw_iload_n rfl rfl d_X_sum_10 ?_
  refine aw_aload_n rfl rfl d_X_sum_11 ?_
  refine aw_getr fl_X_7 km_0 (by decide) rfl rm_0_0 d_X_sum_12 ?_
  refine aw_iload_n rfl rfl d_X_sum_15 ?_
  refine aw_iload_n rfl rfl d_X_sum_16 ?_
  refine aw_iadd d_X_sum_17 ?_
  refine aw_top (x2 := nI 98) (by decide +kernel) ?_
  refine aw_iald (j := 98) km_1 (vp_in_nI (by decide) (by decide)) (nI_clamp (by decide)) d_X_sum_18 ?_
  refine aw_top (x2 := nI 0) (((congrFun (e4 1 (by omega)) (98)).trans (g10 18 (by decide)))) ?_
  refine aw_iadd d_X_sum_19 ?_
  refine aw_top (x2 := nI 0) (by decide +kernel) ?_
  refine aw_istore_n (lv2 := [.ref 0, .int (nI 90), .int (nI 0), .int (nI 8)]) rfl (by decide) rfl d_X_sum_20 ?_
  refine aw_iinc (v := nI 9) (lv2 := [.ref 0, .int (nI 90), .int (nI 0), .int (nI 9)]) rfl (by decide +kernel) (by decide) rfl d_X_sum_21 ?_
  refine aw_goto (tgt := 4) (by decide) d_X_sum_24 ?_
  refine aw_iload_n rfl rfl d_X_sum_4 ?_
  refine aw_bipush (v := nI 8) cb_8 d_X_sum_5 ?_
  refine aw_icmp_gtI (tgt := 27) (9) (8) (by decide +kernel) (by decide +kernel) (by decide) d_X_sum_7 (fun _ => ?_) (fun q => absurd q (by decide))
  refine aw_iload_n rfl rfl d_X_sum_27 ?_
  refine as_reti rfl d_X_sum_28 ?_
  refine (show As l b 8 y_X_leads KM RM K2 (J1) 10 [.ref 0, .int (rule), .int (bound), .int (nI (t)), .int (nI (n0)), uu, uu] [.int (nI 0)] from ?_)
  refine aw_istore (lv2 := [.ref 0, .int (rule), .int (bound), .int (nI (t)), .int (nI (n0)), .int (nI 0), uu]) (by decide) rfl d_X_leads_10 ?_
  refine aw_aload_n rfl rfl d_X_leads_12 ?_
  refine aw_getr fl_X_7 km_0 (by decide) rfl rm_0_0 d_X_leads_13 ?_
  refine aw_bipush (v := nI 6) cb_6 d_X_leads_16 ?_
  refine aw_iload_n rfl rfl d_X_leads_18 ?_
  refine aw_iast (j := 6) km_1 (vp_in_nI (by decide) (by decide)) (nI_clamp (by decide)) d_X_leads_19 ?_
  refine aw_aload_n rfl rfl d_X_leads_20 ?_
  refine aw_getr fl_X_7 km_0 (by decide) rfl rm_0_0 d_X_leads_21 ?_
  refine aw_iconst (v := nI 5) ci_5 d_X_leads_24 ?_
  refine aw_iload_n rfl rfl d_X_leads_25 ?_
  refine aw_iast (j := 5) km_1 (vp_in_nI (by decide) (by decide)) (nI_clamp (by decide)) d_X_leads_26 ?_
  refine aw_aload_n rfl rfl d_X_leads_27 ?_
  refine aw_getr fl_X_7 km_0 (by decide) rfl rm_0_0 d_X_leads_28 ?_
  refine aw_iconst (v := nI 1) ci_1 d_X_leads_31 ?_
  refine aw_iload_n rfl rfl d_X_leads_32 ?_
  refine aw_iast (j := 1) km_1 (vp_in_nI (by decide) (by decide)) (nI_clamp (by decide)) d_X_leads_33 ?_
  refine aw_iconst (v := nI 0) ci_0 d_X_leads_34 ?_
  refine aw_istore (lv2 := [.ref 0, .int (rule), .int (bound), .int (nI (t)), .int (nI (n0)), .int (nI 0), .int (nI 0)]) (by decide) rfl d_X_leads_35 ?_
  exact lp_leads (I0 := I) ht hn0 hI hK n0 0 _ (by omega) (by rw [Nat.zero_mul]; exact (show GM (upd2 (upd2 (upd2 J1 1 (6) (rule)) 1 (5) (bound)) 1 (1) (nI (t))) (t) (0) (0) from ⟨fun j hj => (Eq.trans (upd2_nx (by omega)) (Eq.trans (upd2_nx (by omega)) (Eq.trans (upd2_nx (by omega)) (((congrFun (e4 1 (by omega)) ((26 + j))).trans (g0 j (by omega))))))), fun j hj => (Eq.trans (upd2_nx (by omega)) (Eq.trans (upd2_nx (by omega)) (Eq.trans (upd2_nx (by omega)) (((congrFun (e4 1 (by omega)) ((130 + j))).trans (g1 j (by omega))))))), fun j hj => (Eq.trans (upd2_nx (by omega)) (Eq.trans (upd2_nx (by omega)) (Eq.trans (upd2_nx (by omega)) (((congrFun (e4 1 (by omega)) ((10 + j))).trans (g2 j (by omega))))))), (upd2_eq), (Eq.trans (upd2_nx (by omega)) (Eq.trans (upd2_nx (by omega)) (Eq.trans (upd2_nx (by omega)) (((congrFun (e4 1 (by omega)) (4)).trans (g4)))))), (Eq.trans (upd2_nx (by omega)) (Eq.trans (upd2_nx (by omega)) (Eq.trans (upd2_nx (by omega)) (((congrFun (e4 1 (by omega)) (71)).trans (g5)))))), (Eq.trans (upd2_nx (by omega)) (Eq.trans (upd2_nx (by omega)) (Eq.trans (upd2_nx (by omega)) (((congrFun (e4 1 (by omega)) (70)).trans (g6)))))), (Eq.trans (upd2_nx (by omega)) (Eq.trans (upd2_nx (by omega)) (Eq.trans (upd2_nx (by omega)) (((congrFun (e4 1 (by omega)) (72)).trans (g7)))))), (Eq.trans (upd2_nx (by omega)) (Eq.trans (upd2_nx (by omega)) (Eq.trans (upd2_nx (by omega)) (((congrFun (e4 1 (by omega)) (75)).trans (g8)))))), (Eq.trans (upd2_nx (by omega)) (Eq.trans (upd2_nx (by omega)) (Eq.trans (upd2_nx (by omega)) (((congrFun (e4 1 (by omega)) (76)).trans (g9)))))), fun j hj => (Eq.trans (upd2_nx (by omega)) (Eq.trans (upd2_nx (by omega)) (Eq.trans (upd2_nx (by omega)) (((congrFun (e4 1 (by omega)) ((80 + j))).trans (g10 j (by omega))))))), fun j hj => (Eq.trans (upd2_nx (by omega)) (Eq.trans (upd2_nx (by omega)) (Eq.trans (upd2_nx (by omega)) (((congrFun (e4 1 (by omega)) ((1580 + j))).trans (g11 j (by omega))))))), fun j hj => (Eq.trans (congrFun (upd2_ne (by decide)) (j)) (Eq.trans (congrFun (upd2_ne (by decide)) (j)) (Eq.trans (congrFun (upd2_ne (by decide)) (j)) (((congrFun (e4 13 (by omega)) (j)).trans (g12 (j) (by omega))))))), (by omega)⟩)) (fun j hj => (Eq.trans (congrFun (upd2_ne (by decide)) (j)) (Eq.trans (congrFun (upd2_ne (by decide)) (j)) (Eq.trans (congrFun (upd2_ne (by decide)) (j)) (((e2 (j) (by omega)).trans (rfl))))))) (fun j hj => (Eq.trans (congrFun (upd2_ne (by decide)) (j)) (Eq.trans (congrFun (upd2_ne (by decide)) (j)) (Eq.trans (congrFun (upd2_ne (by decide)) (j)) ((e3 (j) (by omega)))))))
set_option maxRecDepth 20000 in
theorem ms_thought {K2 : K2T} {I : Nat → Nat → Int32} (hR : FRm I) {x z u v c : Int32} (he : (0 ≤ x.toInt ∧ x.toInt ≤ 3 ∧ 0 ≤ z.toInt ∧ z.toInt ≤ 99 ∧ 2 ≤ u.toInt ∧ u.toInt ≤ 8 ∧ 1 ≤ v.toInt ∧ v.toInt ≤ 40 ∧ 0 ≤ c.toInt ∧ c.toInt ≤ 5) ∧ c.toInt = 0 → ∀ I', K2 (some (.int (nI (v.toInt.toNat * u.toInt.toNat)))) I') (hz : (0 ≤ x.toInt ∧ x.toInt ≤ 3 ∧ 0 ≤ z.toInt ∧ z.toInt ≤ 99 ∧ 2 ≤ u.toInt ∧ u.toInt ≤ 8 ∧ 1 ≤ v.toInt ∧ v.toInt ≤ 40 ∧ 0 ≤ c.toInt ∧ c.toInt ≤ 5) ∧ c.toInt ≠ 0 → ∀ I', K2 (some (.int (nI 0))) I') (hb : ¬ (0 ≤ x.toInt ∧ x.toInt ≤ 3 ∧ 0 ≤ z.toInt ∧ z.toInt ≤ 99 ∧ 2 ≤ u.toInt ∧ u.toInt ≤ 8 ∧ 1 ≤ v.toInt ∧ v.toInt ≤ 40 ∧ 0 ≤ c.toInt ∧ c.toInt ≤ 5) → ∀ I', K2 (some (.int (-1))) I') : Ss l b 14 y_X_thought KM RM [.ref 0, .int (x), .int (z), .int (u), .int (v), .int (c)] (I) K2 := by
  obtain ⟨hF, w0, w2, w3, w5, w6, w7, w73, w74, wh, w110, o3, o12, o19, o21, o22, o23, o35⟩ := hR
  have hF0 := hF
  obtain ⟨g0, g1, g2, g3, g4, g5, g6, g7, g8, g9, g10, g11, g12, gb⟩ := hF
  refine Ss.of (show As l b 14 y_X_thought KM RM K2 (I) 0 [.ref 0, .int (x), .int (z), .int (u), .int (v), .int (c)] [] from ?_)
  refine aw_iload_n rfl rfl d_X_thought_0 ?_
  refine aw_iconst (v := nI 0) ci_0 d_X_thought_1 ?_
  refine aw_iconst (v := nI 3) ci_3 d_X_thought_2 ?_
  refine as_callS (as := [.int (x), .int (nI 0), .int (nI 3)]) (d' := 13) mo_X_isIn lk_X_98 rfl ⟨by decide, by decide⟩ rfl rfl (by decide) d_X_thought_3 (Ss.of (show As l b 13 y_X_isIn KM RM _ (I) 0 [.int (x), .int (nI 0), .int (nI 3)] [] from ?_))
  refine aw_iload_n rfl rfl d_X_isIn_0 ?_
  refine aw_iload_n rfl rfl d_X_isIn_1 ?_
  refine aw_icmp_ltI (tgt := 14) (x).toInt (0) rfl (by decide +kernel) (by decide) d_X_isIn_2 (fun c1 => ?_) (fun c1 => ?_)
  · refine aw_iconst (v := nI 0) ci_0 d_X_isIn_14 ?_
    refine as_retz rfl (by decide +kernel) d_X_isIn_15 ?_
    refine (show As l b 14 y_X_thought KM RM K2 (I) 6 [.ref 0, .int (x), .int (z), .int (u), .int (v), .int (c)] [.int (nI 0)] from ?_)
    refine aw_if_eqI (tgt := 50) (0) (by decide +kernel) (by decide) d_X_thought_6 (fun _ => ?_) (fun q => absurd q (by decide))
    refine aw_iconst (v := (-1 : Int32)) rfl d_X_thought_50 ?_
    exact as_reti rfl d_X_thought_51 (hb (by omega) _)
  · refine aw_iload_n rfl rfl d_X_isIn_5 ?_
    refine aw_iload_n rfl rfl d_X_isIn_6 ?_
    refine aw_icmp_gtI (tgt := 14) (x).toInt (3) rfl (by decide +kernel) (by decide) d_X_isIn_7 (fun c2 => ?_) (fun c2 => ?_)
    · refine aw_iconst (v := nI 0) ci_0 d_X_isIn_14 ?_
      refine as_retz rfl (by decide +kernel) d_X_isIn_15 ?_
      refine (show As l b 14 y_X_thought KM RM K2 (I) 6 [.ref 0, .int (x), .int (z), .int (u), .int (v), .int (c)] [.int (nI 0)] from ?_)
      refine aw_if_eqI (tgt := 50) (0) (by decide +kernel) (by decide) d_X_thought_6 (fun _ => ?_) (fun q => absurd q (by decide))
      refine aw_iconst (v := (-1 : Int32)) rfl d_X_thought_50 ?_
      exact as_reti rfl d_X_thought_51 (hb (by omega) _)
    · refine aw_iconst (v := nI 1) ci_1 d_X_isIn_10 ?_
      refine aw_goto (tgt := 15) (by decide) d_X_isIn_11 ?_
      refine as_retz rfl (by decide +kernel) d_X_isIn_15 ?_
      refine (show As l b 14 y_X_thought KM RM K2 (I) 6 [.ref 0, .int (x), .int (z), .int (u), .int (v), .int (c)] [.int (nI 1)] from ?_)
      refine aw_if_eqI (tgt := 50) (1) (by decide +kernel) (by decide) d_X_thought_6 (fun q => absurd q (by decide)) (fun _ => ?_)
      refine aw_iload_n rfl rfl d_X_thought_9 ?_
      refine aw_iconst (v := nI 0) ci_0 d_X_thought_10 ?_
      refine aw_bipush (v := nI 99) cb_99 d_X_thought_11 ?_
      refine as_callS (as := [.int (z), .int (nI 0), .int (nI 99)]) (d' := 13) mo_X_isIn lk_X_98 rfl ⟨by decide, by decide⟩ rfl rfl (by decide) d_X_thought_13 (Ss.of (show As l b 13 y_X_isIn KM RM _ (I) 0 [.int (z), .int (nI 0), .int (nI 99)] [] from ?_))
      refine aw_iload_n rfl rfl d_X_isIn_0 ?_
      refine aw_iload_n rfl rfl d_X_isIn_1 ?_
      refine aw_icmp_ltI (tgt := 14) (z).toInt (0) rfl (by decide +kernel) (by decide) d_X_isIn_2 (fun c3 => ?_) (fun c3 => ?_)
      · refine aw_iconst (v := nI 0) ci_0 d_X_isIn_14 ?_
        refine as_retz rfl (by decide +kernel) d_X_isIn_15 ?_
        refine (show As l b 14 y_X_thought KM RM K2 (I) 16 [.ref 0, .int (x), .int (z), .int (u), .int (v), .int (c)] [.int (nI 0)] from ?_)
        refine aw_if_eqI (tgt := 50) (0) (by decide +kernel) (by decide) d_X_thought_16 (fun _ => ?_) (fun q => absurd q (by decide))
        refine aw_iconst (v := (-1 : Int32)) rfl d_X_thought_50 ?_
        exact as_reti rfl d_X_thought_51 (hb (by omega) _)
      · refine aw_iload_n rfl rfl d_X_isIn_5 ?_
        refine aw_iload_n rfl rfl d_X_isIn_6 ?_
        refine aw_icmp_gtI (tgt := 14) (z).toInt (99) rfl (by decide +kernel) (by decide) d_X_isIn_7 (fun c4 => ?_) (fun c4 => ?_)
        · refine aw_iconst (v := nI 0) ci_0 d_X_isIn_14 ?_
          refine as_retz rfl (by decide +kernel) d_X_isIn_15 ?_
          refine (show As l b 14 y_X_thought KM RM K2 (I) 16 [.ref 0, .int (x), .int (z), .int (u), .int (v), .int (c)] [.int (nI 0)] from ?_)
          refine aw_if_eqI (tgt := 50) (0) (by decide +kernel) (by decide) d_X_thought_16 (fun _ => ?_) (fun q => absurd q (by decide))
          refine aw_iconst (v := (-1 : Int32)) rfl d_X_thought_50 ?_
          exact as_reti rfl d_X_thought_51 (hb (by omega) _)
        · refine aw_iconst (v := nI 1) ci_1 d_X_isIn_10 ?_
          refine aw_goto (tgt := 15) (by decide) d_X_isIn_11 ?_
          refine as_retz rfl (by decide +kernel) d_X_isIn_15 ?_
          refine (show As l b 14 y_X_thought KM RM K2 (I) 16 [.ref 0, .int (x), .int (z), .int (u), .int (v), .int (c)] [.int (nI 1)] from ?_)
          refine aw_if_eqI (tgt := 50) (1) (by decide +kernel) (by decide) d_X_thought_16 (fun q => absurd q (by decide)) (fun _ => ?_)
          refine aw_iload_n rfl rfl d_X_thought_19 ?_
          refine aw_iconst (v := nI 2) ci_2 d_X_thought_20 ?_
          refine aw_bipush (v := nI 8) cb_8 d_X_thought_21 ?_
          refine as_callS (as := [.int (u), .int (nI 2), .int (nI 8)]) (d' := 13) mo_X_isIn lk_X_98 rfl ⟨by decide, by decide⟩ rfl rfl (by decide) d_X_thought_23 (Ss.of (show As l b 13 y_X_isIn KM RM _ (I) 0 [.int (u), .int (nI 2), .int (nI 8)] [] from ?_))
          refine aw_iload_n rfl rfl d_X_isIn_0 ?_
          refine aw_iload_n rfl rfl d_X_isIn_1 ?_
          refine aw_icmp_ltI (tgt := 14) (u).toInt (2) rfl (by decide +kernel) (by decide) d_X_isIn_2 (fun c5 => ?_) (fun c5 => ?_)
          · refine aw_iconst (v := nI 0) ci_0 d_X_isIn_14 ?_
            refine as_retz rfl (by decide +kernel) d_X_isIn_15 ?_
            refine (show As l b 14 y_X_thought KM RM K2 (I) 26 [.ref 0, .int (x), .int (z), .int (u), .int (v), .int (c)] [.int (nI 0)] from ?_)
            refine aw_if_eqI (tgt := 50) (0) (by decide +kernel) (by decide) d_X_thought_26 (fun _ => ?_) (fun q => absurd q (by decide))
            refine aw_iconst (v := (-1 : Int32)) rfl d_X_thought_50 ?_
            exact as_reti rfl d_X_thought_51 (hb (by omega) _)
          · refine aw_iload_n rfl rfl d_X_isIn_5 ?_
            refine aw_iload_n rfl rfl d_X_isIn_6 ?_
            refine aw_icmp_gtI (tgt := 14) (u).toInt (8) rfl (by decide +kernel) (by decide) d_X_isIn_7 (fun c6 => ?_) (fun c6 => ?_)
            · refine aw_iconst (v := nI 0) ci_0 d_X_isIn_14 ?_
              refine as_retz rfl (by decide +kernel) d_X_isIn_15 ?_
              refine (show As l b 14 y_X_thought KM RM K2 (I) 26 [.ref 0, .int (x), .int (z), .int (u), .int (v), .int (c)] [.int (nI 0)] from ?_)
              refine aw_if_eqI (tgt := 50) (0) (by decide +kernel) (by decide) d_X_thought_26 (fun _ => ?_) (fun q => absurd q (by decide))
              refine aw_iconst (v := (-1 : Int32)) rfl d_X_thought_50 ?_
              exact as_reti rfl d_X_thought_51 (hb (by omega) _)
            · refine aw_iconst (v := nI 1) ci_1 d_X_isIn_10 ?_
              refine aw_goto (tgt := 15) (by decide) d_X_isIn_11 ?_
              refine as_retz rfl (by decide +kernel) d_X_isIn_15 ?_
              refine (show As l b 14 y_X_thought KM RM K2 (I) 26 [.ref 0, .int (x), .int (z), .int (u), .int (v), .int (c)] [.int (nI 1)] from ?_)
              refine aw_if_eqI (tgt := 50) (1) (by decide +kernel) (by decide) d_X_thought_26 (fun q => absurd q (by decide)) (fun _ => ?_)
              refine aw_iload rfl d_X_thought_29 ?_
              refine aw_iconst (v := nI 1) ci_1 d_X_thought_31 ?_
              refine aw_bipush (v := nI 40) cb_40 d_X_thought_32 ?_
              refine as_callS (as := [.int (v), .int (nI 1), .int (nI 40)]) (d' := 13) mo_X_isIn lk_X_98 rfl ⟨by decide, by decide⟩ rfl rfl (by decide) d_X_thought_34 (Ss.of (show As l b 13 y_X_isIn KM RM _ (I) 0 [.int (v), .int (nI 1), .int (nI 40)] [] from ?_))
              refine aw_iload_n rfl rfl d_X_isIn_0 ?_
              refine aw_iload_n rfl rfl d_X_isIn_1 ?_
              refine aw_icmp_ltI (tgt := 14) (v).toInt (1) rfl (by decide +kernel) (by decide) d_X_isIn_2 (fun c7 => ?_) (fun c7 => ?_)
              · refine aw_iconst (v := nI 0) ci_0 d_X_isIn_14 ?_
                refine as_retz rfl (by decide +kernel) d_X_isIn_15 ?_
                refine (show As l b 14 y_X_thought KM RM K2 (I) 37 [.ref 0, .int (x), .int (z), .int (u), .int (v), .int (c)] [.int (nI 0)] from ?_)
                refine aw_if_eqI (tgt := 50) (0) (by decide +kernel) (by decide) d_X_thought_37 (fun _ => ?_) (fun q => absurd q (by decide))
                refine aw_iconst (v := (-1 : Int32)) rfl d_X_thought_50 ?_
                exact as_reti rfl d_X_thought_51 (hb (by omega) _)
              · refine aw_iload_n rfl rfl d_X_isIn_5 ?_
                refine aw_iload_n rfl rfl d_X_isIn_6 ?_
                refine aw_icmp_gtI (tgt := 14) (v).toInt (40) rfl (by decide +kernel) (by decide) d_X_isIn_7 (fun c8 => ?_) (fun c8 => ?_)
                · refine aw_iconst (v := nI 0) ci_0 d_X_isIn_14 ?_
                  refine as_retz rfl (by decide +kernel) d_X_isIn_15 ?_
                  refine (show As l b 14 y_X_thought KM RM K2 (I) 37 [.ref 0, .int (x), .int (z), .int (u), .int (v), .int (c)] [.int (nI 0)] from ?_)
                  refine aw_if_eqI (tgt := 50) (0) (by decide +kernel) (by decide) d_X_thought_37 (fun _ => ?_) (fun q => absurd q (by decide))
                  refine aw_iconst (v := (-1 : Int32)) rfl d_X_thought_50 ?_
                  exact as_reti rfl d_X_thought_51 (hb (by omega) _)
                · refine aw_iconst (v := nI 1) ci_1 d_X_isIn_10 ?_
                  refine aw_goto (tgt := 15) (by decide) d_X_isIn_11 ?_
                  refine as_retz rfl (by decide +kernel) d_X_isIn_15 ?_
                  refine (show As l b 14 y_X_thought KM RM K2 (I) 37 [.ref 0, .int (x), .int (z), .int (u), .int (v), .int (c)] [.int (nI 1)] from ?_)
                  refine aw_if_eqI (tgt := 50) (1) (by decide +kernel) (by decide) d_X_thought_37 (fun q => absurd q (by decide)) (fun _ => ?_)
                  refine aw_iload rfl d_X_thought_40 ?_
                  refine aw_iconst (v := nI 0) ci_0 d_X_thought_42 ?_
                  refine aw_iconst (v := nI 5) ci_5 d_X_thought_43 ?_
                  refine as_callS (as := [.int (c), .int (nI 0), .int (nI 5)]) (d' := 13) mo_X_isIn lk_X_98 rfl ⟨by decide, by decide⟩ rfl rfl (by decide) d_X_thought_44 (Ss.of (show As l b 13 y_X_isIn KM RM _ (I) 0 [.int (c), .int (nI 0), .int (nI 5)] [] from ?_))
                  refine aw_iload_n rfl rfl d_X_isIn_0 ?_
                  refine aw_iload_n rfl rfl d_X_isIn_1 ?_
                  refine aw_icmp_ltI (tgt := 14) (c).toInt (0) rfl (by decide +kernel) (by decide) d_X_isIn_2 (fun c9 => ?_) (fun c9 => ?_)
                  · refine aw_iconst (v := nI 0) ci_0 d_X_isIn_14 ?_
                    refine as_retz rfl (by decide +kernel) d_X_isIn_15 ?_
                    refine (show As l b 14 y_X_thought KM RM K2 (I) 47 [.ref 0, .int (x), .int (z), .int (u), .int (v), .int (c)] [.int (nI 0)] from ?_)
                    refine aw_if_neI (tgt := 52) (0) (by decide +kernel) (by decide) d_X_thought_47 (fun q => absurd q (by decide)) (fun _ => ?_)
                    refine aw_iconst (v := (-1 : Int32)) rfl d_X_thought_50 ?_
                    exact as_reti rfl d_X_thought_51 (hb (by omega) _)
                  · refine aw_iload_n rfl rfl d_X_isIn_5 ?_
                    refine aw_iload_n rfl rfl d_X_isIn_6 ?_
                    refine aw_icmp_gtI (tgt := 14) (c).toInt (5) rfl (by decide +kernel) (by decide) d_X_isIn_7 (fun c10 => ?_) (fun c10 => ?_)
                    · refine aw_iconst (v := nI 0) ci_0 d_X_isIn_14 ?_
                      refine as_retz rfl (by decide +kernel) d_X_isIn_15 ?_
                      refine (show As l b 14 y_X_thought KM RM K2 (I) 47 [.ref 0, .int (x), .int (z), .int (u), .int (v), .int (c)] [.int (nI 0)] from ?_)
                      refine aw_if_neI (tgt := 52) (0) (by decide +kernel) (by decide) d_X_thought_47 (fun q => absurd q (by decide)) (fun _ => ?_)
                      refine aw_iconst (v := (-1 : Int32)) rfl d_X_thought_50 ?_
                      exact as_reti rfl d_X_thought_51 (hb (by omega) _)
                    · refine aw_iconst (v := nI 1) ci_1 d_X_isIn_10 ?_
                      refine aw_goto (tgt := 15) (by decide) d_X_isIn_11 ?_
                      refine as_retz rfl (by decide +kernel) d_X_isIn_15 ?_
                      refine (show As l b 14 y_X_thought KM RM K2 (I) 47 [.ref 0, .int (x), .int (z), .int (u), .int (v), .int (c)] [.int (nI 1)] from ?_)
                      refine aw_if_neI (tgt := 52) (1) (by decide +kernel) (by decide) d_X_thought_47 (fun _ => ?_) (fun q => absurd q (by decide))
                      obtain ⟨w3, hw3, ew3, gw3⟩ := nI_of_range (x := u) (n := 9) (by omega) (by omega)
                      subst ew3
                      obtain ⟨w4, hw4, ew4, gw4⟩ := nI_of_range (x := v) (n := 41) (by omega) (by omega)
                      subst ew4
                      refine aw_aload_n rfl rfl d_X_thought_52 ?_
                      refine aw_iload_n rfl rfl d_X_thought_53 ?_
                      refine aw_iload_n rfl rfl d_X_thought_54 ?_
                      refine aw_iload_n rfl rfl d_X_thought_55 ?_
                      refine aw_iload rfl d_X_thought_56 ?_
                      refine as_callV (as := [.int (x), .int (z), .int (nI (w3)), .int (nI (w4))]) (d' := 8) (q := ("SinglesUpModel", zT9, 51)) mo_X_leads lk_X_416 km_0 rfl rfl rfl ⟨by decide, by decide⟩ rfl rfl (by decide) d_X_thought_58 (sp_leads (I := I) (rule := x) (bound := z) (t := w3) (n0 := w4) (by omega) (by omega) hF0 (fun J11 gm12 e13 e14 => ?_))
                      have gm12c := gm12
                      obtain ⟨y11_0, y11_1, y11_2, y11_3, y11_4, y11_5, y11_6, y11_7, y11_8, y11_9, y11_10, y11_11, y11_12, y11_b⟩ := gm12c
                      refine (show As l b 14 y_X_thought KM RM K2 (J11) 61 [.ref 0, .int (x), .int (z), .int (nI (w3)), .int (nI (w4)), .int (c)] [] from ?_)
                      obtain ⟨w5, hw5, ew5, gw5⟩ := nI_of_range (x := c) (n := 6) (by omega) (by omega)
                      subst ew5
                      rcases (show w5 = 0 ∨ w5 = 1 ∨ w5 = 2 ∨ w5 = 3 ∨ w5 = 4 ∨ w5 = 5 by omega) with rfl | rfl | rfl | rfl | rfl | rfl
                      · refine aw_aload_n rfl rfl d_X_thought_61 ?_
                        refine aw_getr fl_X_93 km_0 (by decide) rfl rm_0_49 d_X_thought_62 ?_
                        refine aw_iload rfl d_X_thought_65 ?_
                        refine aw_iald (j := 0) km_25 (vp_in_nI (by decide) (by decide)) (nI_clamp (by decide)) d_X_thought_67 ?_
                        refine aw_top (x2 := nI ((w4 * w3))) (e13) ?_
                        exact as_reti rfl d_X_thought_68 (by have h9 := he (by omega) J11; rw [gw3, gw4] at h9; simpa using h9)
                      · refine aw_aload_n rfl rfl d_X_thought_61 ?_
                        refine aw_getr fl_X_93 km_0 (by decide) rfl rm_0_49 d_X_thought_62 ?_
                        refine aw_iload rfl d_X_thought_65 ?_
                        refine aw_iald (j := 1) km_25 (vp_in_nI (by decide) (by decide)) (nI_clamp (by decide)) d_X_thought_67 ?_
                        refine aw_top (x2 := nI 0) ((e14 1 (by decide) (by decide))) ?_
                        exact as_reti rfl d_X_thought_68 (hz (by omega) _)
                      · refine aw_aload_n rfl rfl d_X_thought_61 ?_
                        refine aw_getr fl_X_93 km_0 (by decide) rfl rm_0_49 d_X_thought_62 ?_
                        refine aw_iload rfl d_X_thought_65 ?_
                        refine aw_iald (j := 2) km_25 (vp_in_nI (by decide) (by decide)) (nI_clamp (by decide)) d_X_thought_67 ?_
                        refine aw_top (x2 := nI 0) ((e14 2 (by decide) (by decide))) ?_
                        exact as_reti rfl d_X_thought_68 (hz (by omega) _)
                      · refine aw_aload_n rfl rfl d_X_thought_61 ?_
                        refine aw_getr fl_X_93 km_0 (by decide) rfl rm_0_49 d_X_thought_62 ?_
                        refine aw_iload rfl d_X_thought_65 ?_
                        refine aw_iald (j := 3) km_25 (vp_in_nI (by decide) (by decide)) (nI_clamp (by decide)) d_X_thought_67 ?_
                        refine aw_top (x2 := nI 0) ((e14 3 (by decide) (by decide))) ?_
                        exact as_reti rfl d_X_thought_68 (hz (by omega) _)
                      · refine aw_aload_n rfl rfl d_X_thought_61 ?_
                        refine aw_getr fl_X_93 km_0 (by decide) rfl rm_0_49 d_X_thought_62 ?_
                        refine aw_iload rfl d_X_thought_65 ?_
                        refine aw_iald (j := 4) km_25 (vp_in_nI (by decide) (by decide)) (nI_clamp (by decide)) d_X_thought_67 ?_
                        refine aw_top (x2 := nI 0) ((e14 4 (by decide) (by decide))) ?_
                        exact as_reti rfl d_X_thought_68 (hz (by omega) _)
                      · refine aw_aload_n rfl rfl d_X_thought_61 ?_
                        refine aw_getr fl_X_93 km_0 (by decide) rfl rm_0_49 d_X_thought_62 ?_
                        refine aw_iload rfl d_X_thought_65 ?_
                        refine aw_iald (j := 5) km_25 (vp_in_nI (by decide) (by decide)) (nI_clamp (by decide)) d_X_thought_67 ?_
                        refine aw_top (x2 := nI 0) ((e14 5 (by decide) (by decide))) ?_
                        exact as_reti rfl d_X_thought_68 (hz (by omega) _)
set_option maxRecDepth 20000 in
theorem ms_price {K2 : K2T} {I : Nat → Nat → Int32} (hR : FRm I) {x z : Int32} (hg : 0 ≤ x.toInt ∧ x.toInt ≤ 99 ∧ 1 ≤ z.toInt ∧ z.toInt ≤ 40 → ∀ I', K2 (some (.int (nI 0))) I') (hb : ¬ (0 ≤ x.toInt ∧ x.toInt ≤ 99 ∧ 1 ≤ z.toInt ∧ z.toInt ≤ 40) → ∀ I', K2 (some (.int (-1000000))) I') : Ss l b 14 y_X_price KM RM [.ref 0, .int (x), .int (z)] (I) K2 := by
  obtain ⟨hF, w0, w2, w3, w5, w6, w7, w73, w74, wh, w110, o3, o12, o19, o21, o22, o23, o35⟩ := hR
  have hF0 := hF
  obtain ⟨g0, g1, g2, g3, g4, g5, g6, g7, g8, g9, g10, g11, g12, gb⟩ := hF
  refine Ss.of (show As l b 14 y_X_price KM RM K2 (I) 0 [.ref 0, .int (x), .int (z), uu] [] from ?_)
  refine aw_iload_n rfl rfl d_X_price_0 ?_
  refine aw_iconst (v := nI 0) ci_0 d_X_price_1 ?_
  refine aw_bipush (v := nI 99) cb_99 d_X_price_2 ?_
  refine as_callS (as := [.int (x), .int (nI 0), .int (nI 99)]) (d' := 13) mo_X_isIn lk_X_98 rfl ⟨by decide, by decide⟩ rfl rfl (by decide) d_X_price_4 (Ss.of (show As l b 13 y_X_isIn KM RM _ (I) 0 [.int (x), .int (nI 0), .int (nI 99)] [] from ?_))
  refine aw_iload_n rfl rfl d_X_isIn_0 ?_
  refine aw_iload_n rfl rfl d_X_isIn_1 ?_
  refine aw_icmp_ltI (tgt := 14) (x).toInt (0) rfl (by decide +kernel) (by decide) d_X_isIn_2 (fun c1 => ?_) (fun c1 => ?_)
  · refine aw_iconst (v := nI 0) ci_0 d_X_isIn_14 ?_
    refine as_retz rfl (by decide +kernel) d_X_isIn_15 ?_
    refine (show As l b 14 y_X_price KM RM K2 (I) 7 [.ref 0, .int (x), .int (z), uu] [.int (nI 0)] from ?_)
    refine aw_if_eqI (tgt := 20) (0) (by decide +kernel) (by decide) d_X_price_7 (fun _ => ?_) (fun q => absurd q (by decide))
    refine aw_ldc_w (v := -1000000) lc_X_284 d_X_price_20 ?_
    refine aw_top (x2 := (-1000000 : Int32)) (by decide +kernel) ?_
    exact as_reti rfl d_X_price_23 (hb (by omega) _)
  · refine aw_iload_n rfl rfl d_X_isIn_5 ?_
    refine aw_iload_n rfl rfl d_X_isIn_6 ?_
    refine aw_icmp_gtI (tgt := 14) (x).toInt (99) rfl (by decide +kernel) (by decide) d_X_isIn_7 (fun c2 => ?_) (fun c2 => ?_)
    · refine aw_iconst (v := nI 0) ci_0 d_X_isIn_14 ?_
      refine as_retz rfl (by decide +kernel) d_X_isIn_15 ?_
      refine (show As l b 14 y_X_price KM RM K2 (I) 7 [.ref 0, .int (x), .int (z), uu] [.int (nI 0)] from ?_)
      refine aw_if_eqI (tgt := 20) (0) (by decide +kernel) (by decide) d_X_price_7 (fun _ => ?_) (fun q => absurd q (by decide))
      refine aw_ldc_w (v := -1000000) lc_X_284 d_X_price_20 ?_
      refine aw_top (x2 := (-1000000 : Int32)) (by decide +kernel) ?_
      exact as_reti rfl d_X_price_23 (hb (by omega) _)
    · refine aw_iconst (v := nI 1) ci_1 d_X_isIn_10 ?_
      refine aw_goto (tgt := 15) (by decide) d_X_isIn_11 ?_
      refine as_retz rfl (by decide +kernel) d_X_isIn_15 ?_
      refine (show As l b 14 y_X_price KM RM K2 (I) 7 [.ref 0, .int (x), .int (z), uu] [.int (nI 1)] from ?_)
      refine aw_if_eqI (tgt := 20) (1) (by decide +kernel) (by decide) d_X_price_7 (fun q => absurd q (by decide)) (fun _ => ?_)
      refine aw_iload_n rfl rfl d_X_price_10 ?_
      refine aw_iconst (v := nI 1) ci_1 d_X_price_11 ?_
      refine aw_bipush (v := nI 40) cb_40 d_X_price_12 ?_
      refine as_callS (as := [.int (z), .int (nI 1), .int (nI 40)]) (d' := 13) mo_X_isIn lk_X_98 rfl ⟨by decide, by decide⟩ rfl rfl (by decide) d_X_price_14 (Ss.of (show As l b 13 y_X_isIn KM RM _ (I) 0 [.int (z), .int (nI 1), .int (nI 40)] [] from ?_))
      refine aw_iload_n rfl rfl d_X_isIn_0 ?_
      refine aw_iload_n rfl rfl d_X_isIn_1 ?_
      refine aw_icmp_ltI (tgt := 14) (z).toInt (1) rfl (by decide +kernel) (by decide) d_X_isIn_2 (fun c3 => ?_) (fun c3 => ?_)
      · refine aw_iconst (v := nI 0) ci_0 d_X_isIn_14 ?_
        refine as_retz rfl (by decide +kernel) d_X_isIn_15 ?_
        refine (show As l b 14 y_X_price KM RM K2 (I) 17 [.ref 0, .int (x), .int (z), uu] [.int (nI 0)] from ?_)
        refine aw_if_neI (tgt := 24) (0) (by decide +kernel) (by decide) d_X_price_17 (fun q => absurd q (by decide)) (fun _ => ?_)
        refine aw_ldc_w (v := -1000000) lc_X_284 d_X_price_20 ?_
        refine aw_top (x2 := (-1000000 : Int32)) (by decide +kernel) ?_
        exact as_reti rfl d_X_price_23 (hb (by omega) _)
      · refine aw_iload_n rfl rfl d_X_isIn_5 ?_
        refine aw_iload_n rfl rfl d_X_isIn_6 ?_
        refine aw_icmp_gtI (tgt := 14) (z).toInt (40) rfl (by decide +kernel) (by decide) d_X_isIn_7 (fun c4 => ?_) (fun c4 => ?_)
        · refine aw_iconst (v := nI 0) ci_0 d_X_isIn_14 ?_
          refine as_retz rfl (by decide +kernel) d_X_isIn_15 ?_
          refine (show As l b 14 y_X_price KM RM K2 (I) 17 [.ref 0, .int (x), .int (z), uu] [.int (nI 0)] from ?_)
          refine aw_if_neI (tgt := 24) (0) (by decide +kernel) (by decide) d_X_price_17 (fun q => absurd q (by decide)) (fun _ => ?_)
          refine aw_ldc_w (v := -1000000) lc_X_284 d_X_price_20 ?_
          refine aw_top (x2 := (-1000000 : Int32)) (by decide +kernel) ?_
          exact as_reti rfl d_X_price_23 (hb (by omega) _)
        · refine aw_iconst (v := nI 1) ci_1 d_X_isIn_10 ?_
          refine aw_goto (tgt := 15) (by decide) d_X_isIn_11 ?_
          refine as_retz rfl (by decide +kernel) d_X_isIn_15 ?_
          refine (show As l b 14 y_X_price KM RM K2 (I) 17 [.ref 0, .int (x), .int (z), uu] [.int (nI 1)] from ?_)
          refine aw_if_neI (tgt := 24) (1) (by decide +kernel) (by decide) d_X_price_17 (fun _ => ?_) (fun q => absurd q (by decide))
          obtain ⟨w4, hw4, ew4, gw4⟩ := nI_of_range (x := z) (n := 41) (by omega) (by omega)
          subst ew4
          refine aw_aload_n rfl rfl d_X_price_24 ?_
          refine aw_aload_n rfl rfl d_X_price_25 ?_
          refine aw_getr fl_X_7 km_0 (by decide) rfl rm_0_0 d_X_price_26 ?_
          refine aw_bipush (v := nI 6) cb_6 d_X_price_29 ?_
          refine aw_iald (j := 6) km_1 (vp_in_nI (by decide) (by decide)) (nI_clamp (by decide)) d_X_price_31 ?_
          refine aw_top (x2 := nI 0) (w6) ?_
          refine aw_iload_n rfl rfl d_X_price_32 ?_
          refine aw_aload_n rfl rfl d_X_price_33 ?_
          refine aw_getr fl_X_7 km_0 (by decide) rfl rm_0_0 d_X_price_34 ?_
          refine aw_iconst (v := nI 1) ci_1 d_X_price_37 ?_
          refine aw_iald (j := 1) km_1 (vp_in_nI (by decide) (by decide)) (nI_clamp (by decide)) d_X_price_38 ?_
          refine aw_top (x2 := nI 4) (g3) ?_
          refine aw_iload_n rfl rfl d_X_price_39 ?_
          refine as_callV (as := [.int (nI 0), .int (x), .int (nI 4), .int (nI (w4))]) (d' := 8) (q := ("SinglesUpModel", zT9, 51)) mo_X_leads lk_X_416 km_0 rfl rfl rfl ⟨by decide, by decide⟩ rfl rfl (by decide) d_X_price_40 (sp_leads (I := I) (rule := nI 0) (bound := x) (t := 4) (n0 := w4) (by omega) (by omega) hF0 (fun J5 gm6 e7 e8 => ?_))
          have gm6c := gm6
          obtain ⟨y5_0, y5_1, y5_2, y5_3, y5_4, y5_5, y5_6, y5_7, y5_8, y5_9, y5_10, y5_11, y5_12, y5_b⟩ := gm6c
          refine (show As l b 14 y_X_price KM RM K2 (J5) 43 [.ref 0, .int (x), .int (nI (w4)), uu] [] from ?_)
          refine aw_aload_n rfl rfl d_X_price_43 ?_
          refine aw_getr fl_X_93 km_0 (by decide) rfl rm_0_49 d_X_price_44 ?_
          refine aw_iconst (v := nI 0) ci_0 d_X_price_47 ?_
          refine aw_iald (j := 0) km_25 (vp_in_nI (by decide) (by decide)) (nI_clamp (by decide)) d_X_price_48 ?_
          refine aw_top (x2 := nI ((w4 * 4))) (e7) ?_
          refine aw_istore_n (lv2 := [.ref 0, .int (x), .int (nI (w4)), .int (nI ((w4 * 4)))]) rfl (by decide) rfl d_X_price_49 ?_
          refine aw_aload_n rfl rfl d_X_price_50 ?_
          refine aw_aload_n rfl rfl d_X_price_51 ?_
          refine aw_getr fl_X_7 km_0 (by decide) rfl rm_0_0 d_X_price_52 ?_
          refine aw_bipush (v := nI 6) cb_6 d_X_price_55 ?_
          refine aw_iald (j := 6) km_1 (vp_in_nI (by decide) (by decide)) (nI_clamp (by decide)) d_X_price_57 ?_
          refine aw_iconst (v := nI 0) ci_0 d_X_price_58 ?_
          refine aw_aload_n rfl rfl d_X_price_59 ?_
          refine aw_getr fl_X_7 km_0 (by decide) rfl rm_0_0 d_X_price_60 ?_
          refine aw_iconst (v := nI 1) ci_1 d_X_price_63 ?_
          refine aw_iald (j := 1) km_1 (vp_in_nI (by decide) (by decide)) (nI_clamp (by decide)) d_X_price_64 ?_
          refine aw_top (x2 := nI 4) (y5_3) ?_
          refine aw_iload_n rfl rfl d_X_price_65 ?_
          refine as_callV (as := [.int ((J5) 1 6), .int (nI 0), .int (nI 4), .int (nI (w4))]) (d' := 8) (q := ("SinglesUpModel", zT9, 51)) mo_X_leads lk_X_416 km_0 rfl rfl rfl ⟨by decide, by decide⟩ rfl rfl (by decide) d_X_price_66 (sp_leads (I := J5) (rule := (J5) 1 6) (bound := nI 0) (t := 4) (n0 := w4) (by omega) (by omega) gm6 (fun J9 gm10 e11 e12 => ?_))
          have gm10c := gm10
          obtain ⟨y9_0, y9_1, y9_2, y9_3, y9_4, y9_5, y9_6, y9_7, y9_8, y9_9, y9_10, y9_11, y9_12, y9_b⟩ := gm10c
          refine (show As l b 14 y_X_price KM RM K2 (J9) 69 [.ref 0, .int (x), .int (nI (w4)), .int (nI ((w4 * 4)))] [] from ?_)
          refine aw_iload_n rfl rfl d_X_price_69 ?_
          refine aw_aload_n rfl rfl d_X_price_70 ?_
          refine aw_getr fl_X_93 km_0 (by decide) rfl rm_0_49 d_X_price_71 ?_
          refine aw_iconst (v := nI 0) ci_0 d_X_price_74 ?_
          refine aw_iald (j := 0) km_25 (vp_in_nI (by decide) (by decide)) (nI_clamp (by decide)) d_X_price_75 ?_
          refine aw_top (x2 := nI ((w4 * 4))) (e11) ?_
          refine aw_isubN (by omega) d_X_price_76 ?_
          exact as_reti rfl d_X_price_77 (by have h9 := hg (by omega) (J9); rw [show ((w4 * 4) - (w4 * 4)) = 0 by omega]; exact h9)
set_option maxRecDepth 20000 in
theorem ms_which {K2 : K2T} {I : Nat → Nat → Int32} (hR : FRm I) {x z : Int32} (he : (1 ≤ x.toInt ∧ x.toInt ≤ 20 ∧ 0 ≤ z.toInt ∧ z.toInt ≤ 2) ∧ z.toInt = 1 → ∀ I', K2 (some (.int (nI (x.toInt.toNat * 4)))) I') (hz : (1 ≤ x.toInt ∧ x.toInt ≤ 20 ∧ 0 ≤ z.toInt ∧ z.toInt ≤ 2) ∧ z.toInt ≠ 1 → ∀ I', K2 (some (.int (nI 0))) I') (hb : ¬ (1 ≤ x.toInt ∧ x.toInt ≤ 20 ∧ 0 ≤ z.toInt ∧ z.toInt ≤ 2) → ∀ I', K2 (some (.int (-1))) I') : Ss l b 14 y_X_which KM RM [.ref 0, .int (x), .int (z)] (I) K2 := by
  obtain ⟨hF, w0, w2, w3, w5, w6, w7, w73, w74, wh, w110, o3, o12, o19, o21, o22, o23, o35⟩ := hR
  have hF0 := hF
  obtain ⟨g0, g1, g2, g3, g4, g5, g6, g7, g8, g9, g10, g11, g12, gb⟩ := hF
  refine Ss.of (show As l b 14 y_X_which KM RM K2 (I) 0 [.ref 0, .int (x), .int (z), uu, uu, uu, uu] [] from ?_)
  refine aw_iload_n rfl rfl d_X_which_0 ?_
  refine aw_iconst (v := nI 1) ci_1 d_X_which_1 ?_
  refine aw_bipush (v := nI 20) cb_20 d_X_which_2 ?_
  refine as_callS (as := [.int (x), .int (nI 1), .int (nI 20)]) (d' := 13) mo_X_isIn lk_X_98 rfl ⟨by decide, by decide⟩ rfl rfl (by decide) d_X_which_4 (Ss.of (show As l b 13 y_X_isIn KM RM _ (I) 0 [.int (x), .int (nI 1), .int (nI 20)] [] from ?_))
  refine aw_iload_n rfl rfl d_X_isIn_0 ?_
  refine aw_iload_n rfl rfl d_X_isIn_1 ?_
  refine aw_icmp_ltI (tgt := 14) (x).toInt (1) rfl (by decide +kernel) (by decide) d_X_isIn_2 (fun c1 => ?_) (fun c1 => ?_)
  · refine aw_iconst (v := nI 0) ci_0 d_X_isIn_14 ?_
    refine as_retz rfl (by decide +kernel) d_X_isIn_15 ?_
    refine (show As l b 14 y_X_which KM RM K2 (I) 7 [.ref 0, .int (x), .int (z), uu, uu, uu, uu] [.int (nI 0)] from ?_)
    refine aw_if_eqI (tgt := 19) (0) (by decide +kernel) (by decide) d_X_which_7 (fun _ => ?_) (fun q => absurd q (by decide))
    refine aw_iconst (v := (-1 : Int32)) rfl d_X_which_19 ?_
    exact as_reti rfl d_X_which_20 (hb (by omega) _)
  · refine aw_iload_n rfl rfl d_X_isIn_5 ?_
    refine aw_iload_n rfl rfl d_X_isIn_6 ?_
    refine aw_icmp_gtI (tgt := 14) (x).toInt (20) rfl (by decide +kernel) (by decide) d_X_isIn_7 (fun c2 => ?_) (fun c2 => ?_)
    · refine aw_iconst (v := nI 0) ci_0 d_X_isIn_14 ?_
      refine as_retz rfl (by decide +kernel) d_X_isIn_15 ?_
      refine (show As l b 14 y_X_which KM RM K2 (I) 7 [.ref 0, .int (x), .int (z), uu, uu, uu, uu] [.int (nI 0)] from ?_)
      refine aw_if_eqI (tgt := 19) (0) (by decide +kernel) (by decide) d_X_which_7 (fun _ => ?_) (fun q => absurd q (by decide))
      refine aw_iconst (v := (-1 : Int32)) rfl d_X_which_19 ?_
      exact as_reti rfl d_X_which_20 (hb (by omega) _)
    · refine aw_iconst (v := nI 1) ci_1 d_X_isIn_10 ?_
      refine aw_goto (tgt := 15) (by decide) d_X_isIn_11 ?_
      refine as_retz rfl (by decide +kernel) d_X_isIn_15 ?_
      refine (show As l b 14 y_X_which KM RM K2 (I) 7 [.ref 0, .int (x), .int (z), uu, uu, uu, uu] [.int (nI 1)] from ?_)
      refine aw_if_eqI (tgt := 19) (1) (by decide +kernel) (by decide) d_X_which_7 (fun q => absurd q (by decide)) (fun _ => ?_)
      refine aw_iload_n rfl rfl d_X_which_10 ?_
      refine aw_iconst (v := nI 0) ci_0 d_X_which_11 ?_
      refine aw_iconst (v := nI 2) ci_2 d_X_which_12 ?_
      refine as_callS (as := [.int (z), .int (nI 0), .int (nI 2)]) (d' := 13) mo_X_isIn lk_X_98 rfl ⟨by decide, by decide⟩ rfl rfl (by decide) d_X_which_13 (Ss.of (show As l b 13 y_X_isIn KM RM _ (I) 0 [.int (z), .int (nI 0), .int (nI 2)] [] from ?_))
      refine aw_iload_n rfl rfl d_X_isIn_0 ?_
      refine aw_iload_n rfl rfl d_X_isIn_1 ?_
      refine aw_icmp_ltI (tgt := 14) (z).toInt (0) rfl (by decide +kernel) (by decide) d_X_isIn_2 (fun c3 => ?_) (fun c3 => ?_)
      · refine aw_iconst (v := nI 0) ci_0 d_X_isIn_14 ?_
        refine as_retz rfl (by decide +kernel) d_X_isIn_15 ?_
        refine (show As l b 14 y_X_which KM RM K2 (I) 16 [.ref 0, .int (x), .int (z), uu, uu, uu, uu] [.int (nI 0)] from ?_)
        refine aw_if_neI (tgt := 21) (0) (by decide +kernel) (by decide) d_X_which_16 (fun q => absurd q (by decide)) (fun _ => ?_)
        refine aw_iconst (v := (-1 : Int32)) rfl d_X_which_19 ?_
        exact as_reti rfl d_X_which_20 (hb (by omega) _)
      · refine aw_iload_n rfl rfl d_X_isIn_5 ?_
        refine aw_iload_n rfl rfl d_X_isIn_6 ?_
        refine aw_icmp_gtI (tgt := 14) (z).toInt (2) rfl (by decide +kernel) (by decide) d_X_isIn_7 (fun c4 => ?_) (fun c4 => ?_)
        · refine aw_iconst (v := nI 0) ci_0 d_X_isIn_14 ?_
          refine as_retz rfl (by decide +kernel) d_X_isIn_15 ?_
          refine (show As l b 14 y_X_which KM RM K2 (I) 16 [.ref 0, .int (x), .int (z), uu, uu, uu, uu] [.int (nI 0)] from ?_)
          refine aw_if_neI (tgt := 21) (0) (by decide +kernel) (by decide) d_X_which_16 (fun q => absurd q (by decide)) (fun _ => ?_)
          refine aw_iconst (v := (-1 : Int32)) rfl d_X_which_19 ?_
          exact as_reti rfl d_X_which_20 (hb (by omega) _)
        · refine aw_iconst (v := nI 1) ci_1 d_X_isIn_10 ?_
          refine aw_goto (tgt := 15) (by decide) d_X_isIn_11 ?_
          refine as_retz rfl (by decide +kernel) d_X_isIn_15 ?_
          refine (show As l b 14 y_X_which KM RM K2 (I) 16 [.ref 0, .int (x), .int (z), uu, uu, uu, uu] [.int (nI 1)] from ?_)
          refine aw_if_neI (tgt := 21) (1) (by decide +kernel) (by decide) d_X_which_16 (fun _ => ?_) (fun q => absurd q (by decide))
          obtain ⟨w4, hw4, ew4, gw4⟩ := nI_of_range (x := x) (n := 21) (by omega) (by omega)
          subst ew4
          refine aw_iconst (v := (-1 : Int32)) rfl d_X_which_21 ?_
          refine aw_istore_n (lv2 := [.ref 0, .int (nI (w4)), .int (z), .int ((-1 : Int32)), uu, uu, uu]) rfl (by decide) rfl d_X_which_22 ?_
          refine aw_iconst (v := nI 0) ci_0 d_X_which_23 ?_
          refine aw_istore (lv2 := [.ref 0, .int (nI (w4)), .int (z), .int ((-1 : Int32)), .int (nI 0), uu, uu]) (by decide) rfl d_X_which_24 ?_
          refine aw_iconst (v := nI 0) ci_0 d_X_which_26 ?_
          refine aw_istore (lv2 := [.ref 0, .int (nI (w4)), .int (z), .int ((-1 : Int32)), .int (nI 0), .int (nI 0), uu]) (by decide) rfl d_X_which_27 ?_
          refine aw_iconst (v := nI 0) ci_0 d_X_which_29 ?_
          refine aw_istore (lv2 := [.ref 0, .int (nI (w4)), .int (z), .int ((-1 : Int32)), .int (nI 0), .int (nI 0), .int (nI 0)]) (by decide) rfl d_X_which_30 ?_
          refine aw_iload rfl d_X_which_32 ?_
          refine aw_bipush (v := nI 16) cb_16 d_X_which_34 ?_
          refine aw_icmp_geI (tgt := 135) (0) (16) (by decide +kernel) (by decide +kernel) (by decide) d_X_which_36 (fun q => absurd q (by decide)) (fun _ => ?_)
          refine aw_aload_n rfl rfl d_X_which_39 ?_
          refine aw_iload rfl d_X_which_40 ?_
          refine aw_puti fl_X_38 km_0 (by decide) rfl rfl rfl rfl d_X_which_42 ?_
          refine aw_aload_n rfl rfl d_X_which_45 ?_
          refine aw_aload_n rfl rfl d_X_which_46 ?_
          refine aw_getr fl_X_7 km_0 (by decide) rfl rm_0_0 d_X_which_47 ?_
          refine aw_bipush (v := nI 6) cb_6 d_X_which_50 ?_
          refine aw_iald (j := 6) km_1 (vp_in_nI (by decide) (by decide)) (nI_clamp (by decide)) d_X_which_52 ?_
          refine aw_top (x2 := nI 0) (Eq.trans (congrFun (upd2_ne (by decide)) (6)) (w6)) ?_
          refine aw_aload_n rfl rfl d_X_which_53 ?_
          refine aw_getr fl_X_7 km_0 (by decide) rfl rm_0_0 d_X_which_54 ?_
          refine aw_iconst (v := nI 5) ci_5 d_X_which_57 ?_
          refine aw_iald (j := 5) km_1 (vp_in_nI (by decide) (by decide)) (nI_clamp (by decide)) d_X_which_58 ?_
          refine aw_top (x2 := nI 0) (Eq.trans (congrFun (upd2_ne (by decide)) (5)) (w5)) ?_
          refine aw_aload_n rfl rfl d_X_which_59 ?_
          refine aw_getr fl_X_7 km_0 (by decide) rfl rm_0_0 d_X_which_60 ?_
          refine aw_iconst (v := nI 1) ci_1 d_X_which_63 ?_
          refine aw_iald (j := 1) km_1 (vp_in_nI (by decide) (by decide)) (nI_clamp (by decide)) d_X_which_64 ?_
          refine aw_top (x2 := nI 4) (Eq.trans (congrFun (upd2_ne (by decide)) (1)) (g3)) ?_
          refine aw_iload_n rfl rfl d_X_which_65 ?_
          refine as_callV (as := [.int (nI 0), .int (nI 0), .int (nI 4), .int (nI (w4))]) (d' := 8) (q := ("SinglesUpModel", zT9, 51)) mo_X_leads lk_X_416 km_0 rfl rfl rfl ⟨by decide, by decide⟩ rfl rfl (by decide) d_X_which_66 (sp_leads (I := upd2 I 0 22 (nI 0)) (rule := nI 0) (bound := nI 0) (t := 4) (n0 := w4) (by omega) (by omega) (GM_of hF0 (fun j hj => (congrFun (upd2_ne (by decide)) _)) (fun j hj => (Eq.trans (congrFun (upd2_ne (by decide)) (j)) (g12 (j) (by omega))))) (fun J5 gm6 e7 e8 => ?_))
          have gm6c := gm6
          obtain ⟨y5_0, y5_1, y5_2, y5_3, y5_4, y5_5, y5_6, y5_7, y5_8, y5_9, y5_10, y5_11, y5_12, y5_b⟩ := gm6c
          refine (show As l b 14 y_X_which KM RM K2 (J5) 69 [.ref 0, .int (nI (w4)), .int (z), .int ((-1 : Int32)), .int (nI 0), .int (nI 0), .int (nI 0)] [] from ?_)
          refine aw_iload_n rfl rfl d_X_which_69 ?_
          refine aw_iconst (v := (-1 : Int32)) rfl d_X_which_70 ?_
          refine aw_icmp_eqI (tgt := 110) (-1) (-1) (by decide +kernel) (by decide +kernel) (by decide) d_X_which_71 (fun _ => ?_) (fun q => absurd q (by decide))
          refine aw_iload rfl d_X_which_110 ?_
          refine aw_istore_n (lv2 := [.ref 0, .int (nI (w4)), .int (z), .int (nI 0), .int (nI 0), .int (nI 0), .int (nI 0)]) rfl (by decide) rfl d_X_which_112 ?_
          refine aw_aload_n rfl rfl d_X_which_113 ?_
          refine aw_getr fl_X_93 km_0 (by decide) rfl rm_0_49 d_X_which_114 ?_
          refine aw_iconst (v := nI 0) ci_0 d_X_which_117 ?_
          refine aw_iald (j := 0) km_25 (vp_in_nI (by decide) (by decide)) (nI_clamp (by decide)) d_X_which_118 ?_
          refine aw_top (x2 := nI ((w4 * 4))) (e7) ?_
          refine aw_istore (lv2 := [.ref 0, .int (nI (w4)), .int (z), .int (nI 0), .int (nI ((w4 * 4))), .int (nI 0), .int (nI 0)]) (by decide) rfl d_X_which_119 ?_
          refine aw_aload_n rfl rfl d_X_which_121 ?_
          refine aw_getr fl_X_93 km_0 (by decide) rfl rm_0_49 d_X_which_122 ?_
          refine aw_iconst (v := nI 2) ci_2 d_X_which_125 ?_
          refine aw_iald (j := 2) km_25 (vp_in_nI (by decide) (by decide)) (nI_clamp (by decide)) d_X_which_126 ?_
          refine aw_top (x2 := nI 0) ((e8 2 (by decide) (by decide))) ?_
          refine aw_istore (lv2 := [.ref 0, .int (nI (w4)), .int (z), .int (nI 0), .int (nI ((w4 * 4))), .int (nI 0), .int (nI 0)]) (by decide) rfl d_X_which_127 ?_
          refine aw_iinc (v := nI 1) (lv2 := [.ref 0, .int (nI (w4)), .int (z), .int (nI 0), .int (nI ((w4 * 4))), .int (nI 0), .int (nI 1)]) rfl (by decide +kernel) (by decide) rfl d_X_which_129 ?_
          refine aw_goto (tgt := 32) (by decide) d_X_which_132 ?_
          refine aw_iload rfl d_X_which_32 ?_
          refine aw_bipush (v := nI 16) cb_16 d_X_which_34 ?_
          refine aw_icmp_geI (tgt := 135) (1) (16) (by decide +kernel) (by decide +kernel) (by decide) d_X_which_36 (fun q => absurd q (by decide)) (fun _ => ?_)
          refine aw_aload_n rfl rfl d_X_which_39 ?_
          refine aw_iload rfl d_X_which_40 ?_
          refine aw_puti fl_X_38 km_0 (by decide) rfl rfl rfl rfl d_X_which_42 ?_
          refine aw_aload_n rfl rfl d_X_which_45 ?_
          refine aw_aload_n rfl rfl d_X_which_46 ?_
          refine aw_getr fl_X_7 km_0 (by decide) rfl rm_0_0 d_X_which_47 ?_
          refine aw_bipush (v := nI 6) cb_6 d_X_which_50 ?_
          refine aw_iald (j := 6) km_1 (vp_in_nI (by decide) (by decide)) (nI_clamp (by decide)) d_X_which_52 ?_
          refine aw_aload_n rfl rfl d_X_which_53 ?_
          refine aw_getr fl_X_7 km_0 (by decide) rfl rm_0_0 d_X_which_54 ?_
          refine aw_iconst (v := nI 5) ci_5 d_X_which_57 ?_
          refine aw_iald (j := 5) km_1 (vp_in_nI (by decide) (by decide)) (nI_clamp (by decide)) d_X_which_58 ?_
          refine aw_aload_n rfl rfl d_X_which_59 ?_
          refine aw_getr fl_X_7 km_0 (by decide) rfl rm_0_0 d_X_which_60 ?_
          refine aw_iconst (v := nI 1) ci_1 d_X_which_63 ?_
          refine aw_iald (j := 1) km_1 (vp_in_nI (by decide) (by decide)) (nI_clamp (by decide)) d_X_which_64 ?_
          refine aw_top (x2 := nI 4) (Eq.trans (congrFun (upd2_ne (by decide)) (1)) (y5_3)) ?_
          refine aw_iload_n rfl rfl d_X_which_65 ?_
          refine as_callV (as := [.int ((upd2 J5 0 22 (nI 1)) 1 6), .int ((upd2 J5 0 22 (nI 1)) 1 5), .int (nI 4), .int (nI (w4))]) (d' := 8) (q := ("SinglesUpModel", zT9, 51)) mo_X_leads lk_X_416 km_0 rfl rfl rfl ⟨by decide, by decide⟩ rfl rfl (by decide) d_X_which_66 (sp_leads (I := upd2 J5 0 22 (nI 1)) (rule := (upd2 J5 0 22 (nI 1)) 1 6) (bound := (upd2 J5 0 22 (nI 1)) 1 5) (t := 4) (n0 := w4) (by omega) (by omega) (GM_of gm6 (fun j hj => (congrFun (upd2_ne (by decide)) _)) (fun j hj => (Eq.trans (congrFun (upd2_ne (by decide)) (j)) (y5_12 (j) (by omega))))) (fun J9 gm10 e11 e12 => ?_))
          have gm10c := gm10
          obtain ⟨y9_0, y9_1, y9_2, y9_3, y9_4, y9_5, y9_6, y9_7, y9_8, y9_9, y9_10, y9_11, y9_12, y9_b⟩ := gm10c
          refine (show As l b 14 y_X_which KM RM K2 (J9) 69 [.ref 0, .int (nI (w4)), .int (z), .int (nI 0), .int (nI ((w4 * 4))), .int (nI 0), .int (nI 1)] [] from ?_)
          refine aw_iload_n rfl rfl d_X_which_69 ?_
          refine aw_iconst (v := (-1 : Int32)) rfl d_X_which_70 ?_
          refine aw_icmp_eqI (tgt := 110) (0) (-1) (by decide +kernel) (by decide +kernel) (by decide) d_X_which_71 (fun q => absurd q (by decide)) (fun _ => ?_)
          refine aw_aload_n rfl rfl d_X_which_74 ?_
          refine aw_getr fl_X_93 km_0 (by decide) rfl rm_0_49 d_X_which_75 ?_
          refine aw_iconst (v := nI 0) ci_0 d_X_which_78 ?_
          refine aw_iald (j := 0) km_25 (vp_in_nI (by decide) (by decide)) (nI_clamp (by decide)) d_X_which_79 ?_
          refine aw_top (x2 := nI ((w4 * 4))) (e11) ?_
          refine aw_iload rfl d_X_which_80 ?_
          refine aw_icmp_gtI (tgt := 129) (((w4 * 4) : Nat) : Int) (((w4 * 4) : Nat) : Int) (nI_toInt (by omega)) (nI_toInt (by omega)) (by decide) d_X_which_82 (fun q => absurd q (by omega)) (fun _ => ?_)
          refine aw_aload_n rfl rfl d_X_which_85 ?_
          refine aw_getr fl_X_93 km_0 (by decide) rfl rm_0_49 d_X_which_86 ?_
          refine aw_iconst (v := nI 0) ci_0 d_X_which_89 ?_
          refine aw_iald (j := 0) km_25 (vp_in_nI (by decide) (by decide)) (nI_clamp (by decide)) d_X_which_90 ?_
          refine aw_top (x2 := nI ((w4 * 4))) (e11) ?_
          refine aw_iload rfl d_X_which_91 ?_
          refine aw_icmp_neI (tgt := 110) (((w4 * 4) : Nat) : Int) (((w4 * 4) : Nat) : Int) (nI_toInt (by omega)) (nI_toInt (by omega)) (by decide) d_X_which_93 (fun q => absurd q (by omega)) (fun _ => ?_)
          refine aw_aload_n rfl rfl d_X_which_96 ?_
          refine aw_getr fl_X_93 km_0 (by decide) rfl rm_0_49 d_X_which_97 ?_
          refine aw_iconst (v := nI 2) ci_2 d_X_which_100 ?_
          refine aw_iald (j := 2) km_25 (vp_in_nI (by decide) (by decide)) (nI_clamp (by decide)) d_X_which_101 ?_
          refine aw_top (x2 := nI 0) ((e12 2 (by decide) (by decide))) ?_
          refine aw_iload rfl d_X_which_102 ?_
          refine aw_icmp_ltI (tgt := 110) (0) (0) (by decide +kernel) (by decide +kernel) (by decide) d_X_which_104 (fun q => absurd q (by decide)) (fun _ => ?_)
          refine aw_goto (tgt := 129) (by decide) d_X_which_107 ?_
          refine aw_iinc (v := nI 2) (lv2 := [.ref 0, .int (nI (w4)), .int (z), .int (nI 0), .int (nI ((w4 * 4))), .int (nI 0), .int (nI 2)]) rfl (by decide +kernel) (by decide) rfl d_X_which_129 ?_
          refine aw_goto (tgt := 32) (by decide) d_X_which_132 ?_
          refine aw_iload rfl d_X_which_32 ?_
          refine aw_bipush (v := nI 16) cb_16 d_X_which_34 ?_
          refine aw_icmp_geI (tgt := 135) (2) (16) (by decide +kernel) (by decide +kernel) (by decide) d_X_which_36 (fun q => absurd q (by decide)) (fun _ => ?_)
          refine aw_aload_n rfl rfl d_X_which_39 ?_
          refine aw_iload rfl d_X_which_40 ?_
          refine aw_puti fl_X_38 km_0 (by decide) rfl rfl rfl rfl d_X_which_42 ?_
          refine aw_aload_n rfl rfl d_X_which_45 ?_
          refine aw_aload_n rfl rfl d_X_which_46 ?_
          refine aw_getr fl_X_7 km_0 (by decide) rfl rm_0_0 d_X_which_47 ?_
          refine aw_bipush (v := nI 6) cb_6 d_X_which_50 ?_
          refine aw_iald (j := 6) km_1 (vp_in_nI (by decide) (by decide)) (nI_clamp (by decide)) d_X_which_52 ?_
          refine aw_aload_n rfl rfl d_X_which_53 ?_
          refine aw_getr fl_X_7 km_0 (by decide) rfl rm_0_0 d_X_which_54 ?_
          refine aw_iconst (v := nI 5) ci_5 d_X_which_57 ?_
          refine aw_iald (j := 5) km_1 (vp_in_nI (by decide) (by decide)) (nI_clamp (by decide)) d_X_which_58 ?_
          refine aw_aload_n rfl rfl d_X_which_59 ?_
          refine aw_getr fl_X_7 km_0 (by decide) rfl rm_0_0 d_X_which_60 ?_
          refine aw_iconst (v := nI 1) ci_1 d_X_which_63 ?_
          refine aw_iald (j := 1) km_1 (vp_in_nI (by decide) (by decide)) (nI_clamp (by decide)) d_X_which_64 ?_
          refine aw_top (x2 := nI 4) (Eq.trans (congrFun (upd2_ne (by decide)) (1)) (y9_3)) ?_
          refine aw_iload_n rfl rfl d_X_which_65 ?_
          refine as_callV (as := [.int ((upd2 J9 0 22 (nI 2)) 1 6), .int ((upd2 J9 0 22 (nI 2)) 1 5), .int (nI 4), .int (nI (w4))]) (d' := 8) (q := ("SinglesUpModel", zT9, 51)) mo_X_leads lk_X_416 km_0 rfl rfl rfl ⟨by decide, by decide⟩ rfl rfl (by decide) d_X_which_66 (sp_leads (I := upd2 J9 0 22 (nI 2)) (rule := (upd2 J9 0 22 (nI 2)) 1 6) (bound := (upd2 J9 0 22 (nI 2)) 1 5) (t := 4) (n0 := w4) (by omega) (by omega) (GM_of gm10 (fun j hj => (congrFun (upd2_ne (by decide)) _)) (fun j hj => (Eq.trans (congrFun (upd2_ne (by decide)) (j)) (y9_12 (j) (by omega))))) (fun J13 gm14 e15 e16 => ?_))
          have gm14c := gm14
          obtain ⟨y13_0, y13_1, y13_2, y13_3, y13_4, y13_5, y13_6, y13_7, y13_8, y13_9, y13_10, y13_11, y13_12, y13_b⟩ := gm14c
          refine (show As l b 14 y_X_which KM RM K2 (J13) 69 [.ref 0, .int (nI (w4)), .int (z), .int (nI 0), .int (nI ((w4 * 4))), .int (nI 0), .int (nI 2)] [] from ?_)
          refine aw_iload_n rfl rfl d_X_which_69 ?_
          refine aw_iconst (v := (-1 : Int32)) rfl d_X_which_70 ?_
          refine aw_icmp_eqI (tgt := 110) (0) (-1) (by decide +kernel) (by decide +kernel) (by decide) d_X_which_71 (fun q => absurd q (by decide)) (fun _ => ?_)
          refine aw_aload_n rfl rfl d_X_which_74 ?_
          refine aw_getr fl_X_93 km_0 (by decide) rfl rm_0_49 d_X_which_75 ?_
          refine aw_iconst (v := nI 0) ci_0 d_X_which_78 ?_
          refine aw_iald (j := 0) km_25 (vp_in_nI (by decide) (by decide)) (nI_clamp (by decide)) d_X_which_79 ?_
          refine aw_top (x2 := nI ((w4 * 4))) (e15) ?_
          refine aw_iload rfl d_X_which_80 ?_
          refine aw_icmp_gtI (tgt := 129) (((w4 * 4) : Nat) : Int) (((w4 * 4) : Nat) : Int) (nI_toInt (by omega)) (nI_toInt (by omega)) (by decide) d_X_which_82 (fun q => absurd q (by omega)) (fun _ => ?_)
          refine aw_aload_n rfl rfl d_X_which_85 ?_
          refine aw_getr fl_X_93 km_0 (by decide) rfl rm_0_49 d_X_which_86 ?_
          refine aw_iconst (v := nI 0) ci_0 d_X_which_89 ?_
          refine aw_iald (j := 0) km_25 (vp_in_nI (by decide) (by decide)) (nI_clamp (by decide)) d_X_which_90 ?_
          refine aw_top (x2 := nI ((w4 * 4))) (e15) ?_
          refine aw_iload rfl d_X_which_91 ?_
          refine aw_icmp_neI (tgt := 110) (((w4 * 4) : Nat) : Int) (((w4 * 4) : Nat) : Int) (nI_toInt (by omega)) (nI_toInt (by omega)) (by decide) d_X_which_93 (fun q => absurd q (by omega)) (fun _ => ?_)
          refine aw_aload_n rfl rfl d_X_which_96 ?_
          refine aw_getr fl_X_93 km_0 (by decide) rfl rm_0_49 d_X_which_97 ?_
          refine aw_iconst (v := nI 2) ci_2 d_X_which_100 ?_
          refine aw_iald (j := 2) km_25 (vp_in_nI (by decide) (by decide)) (nI_clamp (by decide)) d_X_which_101 ?_
          refine aw_top (x2 := nI 0) ((e16 2 (by decide) (by decide))) ?_
          refine aw_iload rfl d_X_which_102 ?_
          refine aw_icmp_ltI (tgt := 110) (0) (0) (by decide +kernel) (by decide +kernel) (by decide) d_X_which_104 (fun q => absurd q (by decide)) (fun _ => ?_)
          refine aw_goto (tgt := 129) (by decide) d_X_which_107 ?_
          refine aw_iinc (v := nI 3) (lv2 := [.ref 0, .int (nI (w4)), .int (z), .int (nI 0), .int (nI ((w4 * 4))), .int (nI 0), .int (nI 3)]) rfl (by decide +kernel) (by decide) rfl d_X_which_129 ?_
          refine aw_goto (tgt := 32) (by decide) d_X_which_132 ?_
          refine aw_iload rfl d_X_which_32 ?_
          refine aw_bipush (v := nI 16) cb_16 d_X_which_34 ?_
          refine aw_icmp_geI (tgt := 135) (3) (16) (by decide +kernel) (by decide +kernel) (by decide) d_X_which_36 (fun q => absurd q (by decide)) (fun _ => ?_)
          refine aw_aload_n rfl rfl d_X_which_39 ?_
          refine aw_iload rfl d_X_which_40 ?_
          refine aw_puti fl_X_38 km_0 (by decide) rfl rfl rfl rfl d_X_which_42 ?_
          refine aw_aload_n rfl rfl d_X_which_45 ?_
          refine aw_aload_n rfl rfl d_X_which_46 ?_
          refine aw_getr fl_X_7 km_0 (by decide) rfl rm_0_0 d_X_which_47 ?_
          refine aw_bipush (v := nI 6) cb_6 d_X_which_50 ?_
          refine aw_iald (j := 6) km_1 (vp_in_nI (by decide) (by decide)) (nI_clamp (by decide)) d_X_which_52 ?_
          refine aw_aload_n rfl rfl d_X_which_53 ?_
          refine aw_getr fl_X_7 km_0 (by decide) rfl rm_0_0 d_X_which_54 ?_
          refine aw_iconst (v := nI 5) ci_5 d_X_which_57 ?_
          refine aw_iald (j := 5) km_1 (vp_in_nI (by decide) (by decide)) (nI_clamp (by decide)) d_X_which_58 ?_
          refine aw_aload_n rfl rfl d_X_which_59 ?_
          refine aw_getr fl_X_7 km_0 (by decide) rfl rm_0_0 d_X_which_60 ?_
          refine aw_iconst (v := nI 1) ci_1 d_X_which_63 ?_
          refine aw_iald (j := 1) km_1 (vp_in_nI (by decide) (by decide)) (nI_clamp (by decide)) d_X_which_64 ?_
          refine aw_top (x2 := nI 4) (Eq.trans (congrFun (upd2_ne (by decide)) (1)) (y13_3)) ?_
          refine aw_iload_n rfl rfl d_X_which_65 ?_
          refine as_callV (as := [.int ((upd2 J13 0 22 (nI 3)) 1 6), .int ((upd2 J13 0 22 (nI 3)) 1 5), .int (nI 4), .int (nI (w4))]) (d' := 8) (q := ("SinglesUpModel", zT9, 51)) mo_X_leads lk_X_416 km_0 rfl rfl rfl ⟨by decide, by decide⟩ rfl rfl (by decide) d_X_which_66 (sp_leads (I := upd2 J13 0 22 (nI 3)) (rule := (upd2 J13 0 22 (nI 3)) 1 6) (bound := (upd2 J13 0 22 (nI 3)) 1 5) (t := 4) (n0 := w4) (by omega) (by omega) (GM_of gm14 (fun j hj => (congrFun (upd2_ne (by decide)) _)) (fun j hj => (Eq.trans (congrFun (upd2_ne (by decide)) (j)) (y13_12 (j) (by omega))))) (fun J17 gm18 e19 e20 => ?_))
          have gm18c := gm18
          obtain ⟨y17_0, y17_1, y17_2, y17_3, y17_4, y17_5, y17_6, y17_7, y17_8, y17_9, y17_10, y17_11, y17_12, y17_b⟩ := gm18c
          refine (show As l b 14 y_X_which KM RM K2 (J17) 69 [.ref 0, .int (nI (w4)), .int (z), .int (nI 0), .int (nI ((w4 * 4))), .int (nI 0), .int (nI 3)] [] from ?_)
          refine aw_iload_n rfl rfl d_X_which_69 ?_
          refine aw_iconst (v := (-1 : Int32)) rfl d_X_which_70 ?_
          refine aw_icmp_eqI (tgt := 110) (0) (-1) (by decide +kernel) (by decide +kernel) (by decide) d_X_which_71 (fun q => absurd q (by decide)) (fun _ => ?_)
          refine aw_aload_n rfl rfl d_X_which_74 ?_
          refine aw_getr fl_X_93 km_0 (by decide) rfl rm_0_49 d_X_which_75 ?_
          refine aw_iconst (v := nI 0) ci_0 d_X_which_78 ?_
          refine aw_iald (j := 0) km_25 (vp_in_nI (by decide) (by decide)) (nI_clamp (by decide)) d_X_which_79 ?_
          refine aw_top (x2 := nI ((w4 * 4))) (e19) ?_
          refine aw_iload rfl d_X_which_80 ?_
          refine aw_icmp_gtI (tgt := 129) (((w4 * 4) : Nat) : Int) (((w4 * 4) : Nat) : Int) (nI_toInt (by omega)) (nI_toInt (by omega)) (by decide) d_X_which_82 (fun q => absurd q (by omega)) (fun _ => ?_)
          refine aw_aload_n rfl rfl d_X_which_85 ?_
          refine aw_getr fl_X_93 km_0 (by decide) rfl rm_0_49 d_X_which_86 ?_
          refine aw_iconst (v := nI 0) ci_0 d_X_which_89 ?_
          refine aw_iald (j := 0) km_25 (vp_in_nI (by decide) (by decide)) (nI_clamp (by decide)) d_X_which_90 ?_
          refine aw_top (x2 := nI ((w4 * 4))) (e19) ?_
          refine aw_iload rfl d_X_which_91 ?_
          refine aw_icmp_neI (tgt := 110) (((w4 * 4) : Nat) : Int) (((w4 * 4) : Nat) : Int) (nI_toInt (by omega)) (nI_toInt (by omega)) (by decide) d_X_which_93 (fun q => absurd q (by omega)) (fun _ => ?_)
          refine aw_aload_n rfl rfl d_X_which_96 ?_
          refine aw_getr fl_X_93 km_0 (by decide) rfl rm_0_49 d_X_which_97 ?_
          refine aw_iconst (v := nI 2) ci_2 d_X_which_100 ?_
          refine aw_iald (j := 2) km_25 (vp_in_nI (by decide) (by decide)) (nI_clamp (by decide)) d_X_which_101 ?_
          refine aw_top (x2 := nI 0) ((e20 2 (by decide) (by decide))) ?_
          refine aw_iload rfl d_X_which_102 ?_
          refine aw_icmp_ltI (tgt := 110) (0) (0) (by decide +kernel) (by decide +kernel) (by decide) d_X_which_104 (fun q => absurd q (by decide)) (fun _ => ?_)
          refine aw_goto (tgt := 129) (by decide) d_X_which_107 ?_
          refine aw_iinc (v := nI 4) (lv2 := [.ref 0, .int (nI (w4)), .int (z), .int (nI 0), .int (nI ((w4 * 4))), .int (nI 0), .int (nI 4)]) rfl (by decide +kernel) (by decide) rfl d_X_which_129 ?_
          refine aw_goto (tgt := 32) (by decide) d_X_which_132 ?_
          refine aw_iload rfl d_X_which_32 ?_
          refine aw_bipush (v := nI 16) cb_16 d_X_which_34 ?_
          refine aw_icmp_geI (tgt := 135) (4) (16) (by decide +kernel) (by decide +kernel) (by decide) d_X_which_36 (fun q => absurd q (by decide)) (fun _ => ?_)
          refine aw_aload_n rfl rfl d_X_which_39 ?_
          refine aw_iload rfl d_X_which_40 ?_
          refine aw_puti fl_X_38 km_0 (by decide) rfl rfl rfl rfl d_X_which_42 ?_
          refine aw_aload_n rfl rfl d_X_which_45 ?_
          refine aw_aload_n rfl rfl d_X_which_46 ?_
          refine aw_getr fl_X_7 km_0 (by decide) rfl rm_0_0 d_X_which_47 ?_
          refine aw_bipush (v := nI 6) cb_6 d_X_which_50 ?_
          refine aw_iald (j := 6) km_1 (vp_in_nI (by decide) (by decide)) (nI_clamp (by decide)) d_X_which_52 ?_
          refine aw_aload_n rfl rfl d_X_which_53 ?_
          refine aw_getr fl_X_7 km_0 (by decide) rfl rm_0_0 d_X_which_54 ?_
          refine aw_iconst (v := nI 5) ci_5 d_X_which_57 ?_
          refine aw_iald (j := 5) km_1 (vp_in_nI (by decide) (by decide)) (nI_clamp (by decide)) d_X_which_58 ?_
          refine aw_aload_n rfl rfl d_X_which_59 ?_
          refine aw_getr fl_X_7 km_0 (by decide) rfl rm_0_0 d_X_which_60 ?_
          refine aw_iconst (v := nI 1) ci_1 d_X_which_63 ?_
          refine aw_iald (j := 1) km_1 (vp_in_nI (by decide) (by decide)) (nI_clamp (by decide)) d_X_which_64 ?_
          refine aw_top (x2 := nI 4) (Eq.trans (congrFun (upd2_ne (by decide)) (1)) (y17_3)) ?_
          refine aw_iload_n rfl rfl d_X_which_65 ?_
          refine as_callV (as := [.int ((upd2 J17 0 22 (nI 4)) 1 6), .int ((upd2 J17 0 22 (nI 4)) 1 5), .int (nI 4), .int (nI (w4))]) (d' := 8) (q := ("SinglesUpModel", zT9, 51)) mo_X_leads lk_X_416 km_0 rfl rfl rfl ⟨by decide, by decide⟩ rfl rfl (by decide) d_X_which_66 (sp_leads (I := upd2 J17 0 22 (nI 4)) (rule := (upd2 J17 0 22 (nI 4)) 1 6) (bound := (upd2 J17 0 22 (nI 4)) 1 5) (t := 4) (n0 := w4) (by omega) (by omega) (GM_of gm18 (fun j hj => (congrFun (upd2_ne (by decide)) _)) (fun j hj => (Eq.trans (congrFun (upd2_ne (by decide)) (j)) (y17_12 (j) (by omega))))) (fun J21 gm22 e23 e24 => ?_))
          have gm22c := gm22
          obtain ⟨y21_0, y21_1, y21_2, y21_3, y21_4, y21_5, y21_6, y21_7, y21_8, y21_9, y21_10, y21_11, y21_12, y21_b⟩ := gm22c
          refine (show As l b 14 y_X_which KM RM K2 (J21) 69 [.ref 0, .int (nI (w4)), .int (z), .int (nI 0), .int (nI ((w4 * 4))), .int (nI 0), .int (nI 4)] [] from ?_)
          refine aw_iload_n rfl rfl d_X_which_69 ?_
          refine aw_iconst (v := (-1 : Int32)) rfl d_X_which_70 ?_
          refine aw_icmp_eqI (tgt := 110) (0) (-1) (by decide +kernel) (by decide +kernel) (by decide) d_X_which_71 (fun q => absurd q (by decide)) (fun _ => ?_)
          refine aw_aload_n rfl rfl d_X_which_74 ?_
          refine aw_getr fl_X_93 km_0 (by decide) rfl rm_0_49 d_X_which_75 ?_
          refine aw_iconst (v := nI 0) ci_0 d_X_which_78 ?_
          refine aw_iald (j := 0) km_25 (vp_in_nI (by decide) (by decide)) (nI_clamp (by decide)) d_X_which_79 ?_
          refine aw_top (x2 := nI ((w4 * 4))) (e23) ?_
          refine aw_iload rfl d_X_which_80 ?_
          refine aw_icmp_gtI (tgt := 129) (((w4 * 4) : Nat) : Int) (((w4 * 4) : Nat) : Int) (nI_toInt (by omega)) (nI_toInt (by omega)) (by decide) d_X_which_82 (fun q => absurd q (by omega)) (fun _ => ?_)
          refine aw_aload_n rfl rfl d_X_which_85 ?_
          refine aw_getr fl_X_93 km_0 (by decide) rfl rm_0_49 d_X_which_86 ?_
          refine aw_iconst (v := nI 0) ci_0 d_X_which_89 ?_
          refine aw_iald (j := 0) km_25 (vp_in_nI (by decide) (by decide)) (nI_clamp (by decide)) d_X_which_90 ?_
          refine aw_top (x2 := nI ((w4 * 4))) (e23) ?_
          refine aw_iload rfl d_X_which_91 ?_
          refine aw_icmp_neI (tgt := 110) (((w4 * 4) : Nat) : Int) (((w4 * 4) : Nat) : Int) (nI_toInt (by omega)) (nI_toInt (by omega)) (by decide) d_X_which_93 (fun q => absurd q (by omega)) (fun _ => ?_)
          refine aw_aload_n rfl rfl d_X_which_96 ?_
          refine aw_getr fl_X_93 km_0 (by decide) rfl rm_0_49 d_X_which_97 ?_
          refine aw_iconst (v := nI 2) ci_2 d_X_which_100 ?_
          refine aw_iald (j := 2) km_25 (vp_in_nI (by decide) (by decide)) (nI_clamp (by decide)) d_X_which_101 ?_
          refine aw_top (x2 := nI 0) ((e24 2 (by decide) (by decide))) ?_
          refine aw_iload rfl d_X_which_102 ?_
          refine aw_icmp_ltI (tgt := 110) (0) (0) (by decide +kernel) (by decide +kernel) (by decide) d_X_which_104 (fun q => absurd q (by decide)) (fun _ => ?_)
          refine aw_goto (tgt := 129) (by decide) d_X_which_107 ?_
          refine aw_iinc (v := nI 5) (lv2 := [.ref 0, .int (nI (w4)), .int (z), .int (nI 0), .int (nI ((w4 * 4))), .int (nI 0), .int (nI 5)]) rfl (by decide +kernel) (by decide) rfl d_X_which_129 ?_
          refine aw_goto (tgt := 32) (by decide) d_X_which_132 ?_
          refine aw_iload rfl d_X_which_32 ?_
          refine aw_bipush (v := nI 16) cb_16 d_X_which_34 ?_
          refine aw_icmp_geI (tgt := 135) (5) (16) (by decide +kernel) (by decide +kernel) (by decide) d_X_which_36 (fun q => absurd q (by decide)) (fun _ => ?_)
          refine aw_aload_n rfl rfl d_X_which_39 ?_
          refine aw_iload rfl d_X_which_40 ?_
          refine aw_puti fl_X_38 km_0 (by decide) rfl rfl rfl rfl d_X_which_42 ?_
          refine aw_aload_n rfl rfl d_X_which_45 ?_
          refine aw_aload_n rfl rfl d_X_which_46 ?_
          refine aw_getr fl_X_7 km_0 (by decide) rfl rm_0_0 d_X_which_47 ?_
          refine aw_bipush (v := nI 6) cb_6 d_X_which_50 ?_
          refine aw_iald (j := 6) km_1 (vp_in_nI (by decide) (by decide)) (nI_clamp (by decide)) d_X_which_52 ?_
          refine aw_aload_n rfl rfl d_X_which_53 ?_
          refine aw_getr fl_X_7 km_0 (by decide) rfl rm_0_0 d_X_which_54 ?_
          refine aw_iconst (v := nI 5) ci_5 d_X_which_57 ?_
          refine aw_iald (j := 5) km_1 (vp_in_nI (by decide) (by decide)) (nI_clamp (by decide)) d_X_which_58 ?_
          refine aw_aload_n rfl rfl d_X_which_59 ?_
          refine aw_getr fl_X_7 km_0 (by decide) rfl rm_0_0 d_X_which_60 ?_
          refine aw_iconst (v := nI 1) ci_1 d_X_which_63 ?_
          refine aw_iald (j := 1) km_1 (vp_in_nI (by decide) (by decide)) (nI_clamp (by decide)) d_X_which_64 ?_
          refine aw_top (x2 := nI 4) (Eq.trans (congrFun (upd2_ne (by decide)) (1)) (y21_3)) ?_
          refine aw_iload_n rfl rfl d_X_which_65 ?_
          refine as_callV (as := [.int ((upd2 J21 0 22 (nI 5)) 1 6), .int ((upd2 J21 0 22 (nI 5)) 1 5), .int (nI 4), .int (nI (w4))]) (d' := 8) (q := ("SinglesUpModel", zT9, 51)) mo_X_leads lk_X_416 km_0 rfl rfl rfl ⟨by decide, by decide⟩ rfl rfl (by decide) d_X_which_66 (sp_leads (I := upd2 J21 0 22 (nI 5)) (rule := (upd2 J21 0 22 (nI 5)) 1 6) (bound := (upd2 J21 0 22 (nI 5)) 1 5) (t := 4) (n0 := w4) (by omega) (by omega) (GM_of gm22 (fun j hj => (congrFun (upd2_ne (by decide)) _)) (fun j hj => (Eq.trans (congrFun (upd2_ne (by decide)) (j)) (y21_12 (j) (by omega))))) (fun J25 gm26 e27 e28 => ?_))
          have gm26c := gm26
          obtain ⟨y25_0, y25_1, y25_2, y25_3, y25_4, y25_5, y25_6, y25_7, y25_8, y25_9, y25_10, y25_11, y25_12, y25_b⟩ := gm26c
          refine (show As l b 14 y_X_which KM RM K2 (J25) 69 [.ref 0, .int (nI (w4)), .int (z), .int (nI 0), .int (nI ((w4 * 4))), .int (nI 0), .int (nI 5)] [] from ?_)
          refine aw_iload_n rfl rfl d_X_which_69 ?_
          refine aw_iconst (v := (-1 : Int32)) rfl d_X_which_70 ?_
          refine aw_icmp_eqI (tgt := 110) (0) (-1) (by decide +kernel) (by decide +kernel) (by decide) d_X_which_71 (fun q => absurd q (by decide)) (fun _ => ?_)
          refine aw_aload_n rfl rfl d_X_which_74 ?_
          refine aw_getr fl_X_93 km_0 (by decide) rfl rm_0_49 d_X_which_75 ?_
          refine aw_iconst (v := nI 0) ci_0 d_X_which_78 ?_
          refine aw_iald (j := 0) km_25 (vp_in_nI (by decide) (by decide)) (nI_clamp (by decide)) d_X_which_79 ?_
          refine aw_top (x2 := nI ((w4 * 4))) (e27) ?_
          refine aw_iload rfl d_X_which_80 ?_
          refine aw_icmp_gtI (tgt := 129) (((w4 * 4) : Nat) : Int) (((w4 * 4) : Nat) : Int) (nI_toInt (by omega)) (nI_toInt (by omega)) (by decide) d_X_which_82 (fun q => absurd q (by omega)) (fun _ => ?_)
          refine aw_aload_n rfl rfl d_X_which_85 ?_
          refine aw_getr fl_X_93 km_0 (by decide) rfl rm_0_49 d_X_which_86 ?_
          refine aw_iconst (v := nI 0) ci_0 d_X_which_89 ?_
          refine aw_iald (j := 0) km_25 (vp_in_nI (by decide) (by decide)) (nI_clamp (by decide)) d_X_which_90 ?_
          refine aw_top (x2 := nI ((w4 * 4))) (e27) ?_
          refine aw_iload rfl d_X_which_91 ?_
          refine aw_icmp_neI (tgt := 110) (((w4 * 4) : Nat) : Int) (((w4 * 4) : Nat) : Int) (nI_toInt (by omega)) (nI_toInt (by omega)) (by decide) d_X_which_93 (fun q => absurd q (by omega)) (fun _ => ?_)
          refine aw_aload_n rfl rfl d_X_which_96 ?_
          refine aw_getr fl_X_93 km_0 (by decide) rfl rm_0_49 d_X_which_97 ?_
          refine aw_iconst (v := nI 2) ci_2 d_X_which_100 ?_
          refine aw_iald (j := 2) km_25 (vp_in_nI (by decide) (by decide)) (nI_clamp (by decide)) d_X_which_101 ?_
          refine aw_top (x2 := nI 0) ((e28 2 (by decide) (by decide))) ?_
          refine aw_iload rfl d_X_which_102 ?_
          refine aw_icmp_ltI (tgt := 110) (0) (0) (by decide +kernel) (by decide +kernel) (by decide) d_X_which_104 (fun q => absurd q (by decide)) (fun _ => ?_)
          refine aw_goto (tgt := 129) (by decide) d_X_which_107 ?_
          refine aw_iinc (v := nI 6) (lv2 := [.ref 0, .int (nI (w4)), .int (z), .int (nI 0), .int (nI ((w4 * 4))), .int (nI 0), .int (nI 6)]) rfl (by decide +kernel) (by decide) rfl d_X_which_129 ?_
          refine aw_goto (tgt := 32) (by decide) d_X_which_132 ?_
          refine aw_iload rfl d_X_which_32 ?_
          refine aw_bipush (v := nI 16) cb_16 d_X_which_34 ?_
          refine aw_icmp_geI (tgt := 135) (6) (16) (by decide +kernel) (by decide +kernel) (by decide) d_X_which_36 (fun q => absurd q (by decide)) (fun _ => ?_)
          refine aw_aload_n rfl rfl d_X_which_39 ?_
          refine aw_iload rfl d_X_which_40 ?_
          refine aw_puti fl_X_38 km_0 (by decide) rfl rfl rfl rfl d_X_which_42 ?_
          refine aw_aload_n rfl rfl d_X_which_45 ?_
          refine aw_aload_n rfl rfl d_X_which_46 ?_
          refine aw_getr fl_X_7 km_0 (by decide) rfl rm_0_0 d_X_which_47 ?_
          refine aw_bipush (v := nI 6) cb_6 d_X_which_50 ?_
          refine aw_iald (j := 6) km_1 (vp_in_nI (by decide) (by decide)) (nI_clamp (by decide)) d_X_which_52 ?_
          refine aw_aload_n rfl rfl d_X_which_53 ?_
          refine aw_getr fl_X_7 km_0 (by decide) rfl rm_0_0 d_X_which_54 ?_
          refine aw_iconst (v := nI 5) ci_5 d_X_which_57 ?_
          refine aw_iald (j := 5) km_1 (vp_in_nI (by decide) (by decide)) (nI_clamp (by decide)) d_X_which_58 ?_
          refine aw_aload_n rfl rfl d_X_which_59 ?_
          refine aw_getr fl_X_7 km_0 (by decide) rfl rm_0_0 d_X_which_60 ?_
          refine aw_iconst (v := nI 1) ci_1 d_X_which_63 ?_
          refine aw_iald (j := 1) km_1 (vp_in_nI (by decide) (by decide)) (nI_clamp (by decide)) d_X_which_64 ?_
          refine aw_top (x2 := nI 4) (Eq.trans (congrFun (upd2_ne (by decide)) (1)) (y25_3)) ?_
          refine aw_iload_n rfl rfl d_X_which_65 ?_
          refine as_callV (as := [.int ((upd2 J25 0 22 (nI 6)) 1 6), .int ((upd2 J25 0 22 (nI 6)) 1 5), .int (nI 4), .int (nI (w4))]) (d' := 8) (q := ("SinglesUpModel", zT9, 51)) mo_X_leads lk_X_416 km_0 rfl rfl rfl ⟨by decide, by decide⟩ rfl rfl (by decide) d_X_which_66 (sp_leads (I := upd2 J25 0 22 (nI 6)) (rule := (upd2 J25 0 22 (nI 6)) 1 6) (bound := (upd2 J25 0 22 (nI 6)) 1 5) (t := 4) (n0 := w4) (by omega) (by omega) (GM_of gm26 (fun j hj => (congrFun (upd2_ne (by decide)) _)) (fun j hj => (Eq.trans (congrFun (upd2_ne (by decide)) (j)) (y25_12 (j) (by omega))))) (fun J29 gm30 e31 e32 => ?_))
          have gm30c := gm30
          obtain ⟨y29_0, y29_1, y29_2, y29_3, y29_4, y29_5, y29_6, y29_7, y29_8, y29_9, y29_10, y29_11, y29_12, y29_b⟩ := gm30c
          refine (show As l b 14 y_X_which KM RM K2 (J29) 69 [.ref 0, .int (nI (w4)), .int (z), .int (nI 0), .int (nI ((w4 * 4))), .int (nI 0), .int (nI 6)] [] from ?_)
          refine aw_iload_n rfl rfl d_X_which_69 ?_
          refine aw_iconst (v := (-1 : Int32)) rfl d_X_which_70 ?_
          refine aw_icmp_eqI (tgt := 110) (0) (-1) (by decide +kernel) (by decide +kernel) (by decide) d_X_which_71 (fun q => absurd q (by decide)) (fun _ => ?_)
          refine aw_aload_n rfl rfl d_X_which_74 ?_
          refine aw_getr fl_X_93 km_0 (by decide) rfl rm_0_49 d_X_which_75 ?_
          refine aw_iconst (v := nI 0) ci_0 d_X_which_78 ?_
          refine aw_iald (j := 0) km_25 (vp_in_nI (by decide) (by decide)) (nI_clamp (by decide)) d_X_which_79 ?_
          refine aw_top (x2 := nI ((w4 * 4))) (e31) ?_
          refine aw_iload rfl d_X_which_80 ?_
          refine aw_icmp_gtI (tgt := 129) (((w4 * 4) : Nat) : Int) (((w4 * 4) : Nat) : Int) (nI_toInt (by omega)) (nI_toInt (by omega)) (by decide) d_X_which_82 (fun q => absurd q (by omega)) (fun _ => ?_)
          refine aw_aload_n rfl rfl d_X_which_85 ?_
          refine aw_getr fl_X_93 km_0 (by decide) rfl rm_0_49 d_X_which_86 ?_
          refine aw_iconst (v := nI 0) ci_0 d_X_which_89 ?_
          refine aw_iald (j := 0) km_25 (vp_in_nI (by decide) (by decide)) (nI_clamp (by decide)) d_X_which_90 ?_
          refine aw_top (x2 := nI ((w4 * 4))) (e31) ?_
          refine aw_iload rfl d_X_which_91 ?_
          refine aw_icmp_neI (tgt := 110) (((w4 * 4) : Nat) : Int) (((w4 * 4) : Nat) : Int) (nI_toInt (by omega)) (nI_toInt (by omega)) (by decide) d_X_which_93 (fun q => absurd q (by omega)) (fun _ => ?_)
          refine aw_aload_n rfl rfl d_X_which_96 ?_
          refine aw_getr fl_X_93 km_0 (by decide) rfl rm_0_49 d_X_which_97 ?_
          refine aw_iconst (v := nI 2) ci_2 d_X_which_100 ?_
          refine aw_iald (j := 2) km_25 (vp_in_nI (by decide) (by decide)) (nI_clamp (by decide)) d_X_which_101 ?_
          refine aw_top (x2 := nI 0) ((e32 2 (by decide) (by decide))) ?_
          refine aw_iload rfl d_X_which_102 ?_
          refine aw_icmp_ltI (tgt := 110) (0) (0) (by decide +kernel) (by decide +kernel) (by decide) d_X_which_104 (fun q => absurd q (by decide)) (fun _ => ?_)
          refine aw_goto (tgt := 129) (by decide) d_X_which_107 ?_
          refine aw_iinc (v := nI 7) (lv2 := [.ref 0, .int (nI (w4)), .int (z), .int (nI 0), .int (nI ((w4 * 4))), .int (nI 0), .int (nI 7)]) rfl (by decide +kernel) (by decide) rfl d_X_which_129 ?_
          refine aw_goto (tgt := 32) (by decide) d_X_which_132 ?_
          refine aw_iload rfl d_X_which_32 ?_
          refine aw_bipush (v := nI 16) cb_16 d_X_which_34 ?_
          refine aw_icmp_geI (tgt := 135) (7) (16) (by decide +kernel) (by decide +kernel) (by decide) d_X_which_36 (fun q => absurd q (by decide)) (fun _ => ?_)
          refine aw_aload_n rfl rfl d_X_which_39 ?_
          refine aw_iload rfl d_X_which_40 ?_
          refine aw_puti fl_X_38 km_0 (by decide) rfl rfl rfl rfl d_X_which_42 ?_
          refine aw_aload_n rfl rfl d_X_which_45 ?_
          refine aw_aload_n rfl rfl d_X_which_46 ?_
          refine aw_getr fl_X_7 km_0 (by decide) rfl rm_0_0 d_X_which_47 ?_
          refine aw_bipush (v := nI 6) cb_6 d_X_which_50 ?_
          refine aw_iald (j := 6) km_1 (vp_in_nI (by decide) (by decide)) (nI_clamp (by decide)) d_X_which_52 ?_
          refine aw_aload_n rfl rfl d_X_which_53 ?_
          refine aw_getr fl_X_7 km_0 (by decide) rfl rm_0_0 d_X_which_54 ?_
          refine aw_iconst (v := nI 5) ci_5 d_X_which_57 ?_
          refine aw_iald (j := 5) km_1 (vp_in_nI (by decide) (by decide)) (nI_clamp (by decide)) d_X_which_58 ?_
          refine aw_aload_n rfl rfl d_X_which_59 ?_
          refine aw_getr fl_X_7 km_0 (by decide) rfl rm_0_0 d_X_which_60 ?_
          refine aw_iconst (v := nI 1) ci_1 d_X_which_63 ?_
          refine aw_iald (j := 1) km_1 (vp_in_nI (by decide) (by decide)) (nI_clamp (by decide)) d_X_which_64 ?_
          refine aw_top (x2 := nI 4) (Eq.trans (congrFun (upd2_ne (by decide)) (1)) (y29_3)) ?_
          refine aw_iload_n rfl rfl d_X_which_65 ?_
          refine as_callV (as := [.int ((upd2 J29 0 22 (nI 7)) 1 6), .int ((upd2 J29 0 22 (nI 7)) 1 5), .int (nI 4), .int (nI (w4))]) (d' := 8) (q := ("SinglesUpModel", zT9, 51)) mo_X_leads lk_X_416 km_0 rfl rfl rfl ⟨by decide, by decide⟩ rfl rfl (by decide) d_X_which_66 (sp_leads (I := upd2 J29 0 22 (nI 7)) (rule := (upd2 J29 0 22 (nI 7)) 1 6) (bound := (upd2 J29 0 22 (nI 7)) 1 5) (t := 4) (n0 := w4) (by omega) (by omega) (GM_of gm30 (fun j hj => (congrFun (upd2_ne (by decide)) _)) (fun j hj => (Eq.trans (congrFun (upd2_ne (by decide)) (j)) (y29_12 (j) (by omega))))) (fun J33 gm34 e35 e36 => ?_))
          have gm34c := gm34
          obtain ⟨y33_0, y33_1, y33_2, y33_3, y33_4, y33_5, y33_6, y33_7, y33_8, y33_9, y33_10, y33_11, y33_12, y33_b⟩ := gm34c
          refine (show As l b 14 y_X_which KM RM K2 (J33) 69 [.ref 0, .int (nI (w4)), .int (z), .int (nI 0), .int (nI ((w4 * 4))), .int (nI 0), .int (nI 7)] [] from ?_)
          refine aw_iload_n rfl rfl d_X_which_69 ?_
          refine aw_iconst (v := (-1 : Int32)) rfl d_X_which_70 ?_
          refine aw_icmp_eqI (tgt := 110) (0) (-1) (by decide +kernel) (by decide +kernel) (by decide) d_X_which_71 (fun q => absurd q (by decide)) (fun _ => ?_)
          refine aw_aload_n rfl rfl d_X_which_74 ?_
          refine aw_getr fl_X_93 km_0 (by decide) rfl rm_0_49 d_X_which_75 ?_
          refine aw_iconst (v := nI 0) ci_0 d_X_which_78 ?_
          refine aw_iald (j := 0) km_25 (vp_in_nI (by decide) (by decide)) (nI_clamp (by decide)) d_X_which_79 ?_
          refine aw_top (x2 := nI ((w4 * 4))) (e35) ?_
          refine aw_iload rfl d_X_which_80 ?_
          refine aw_icmp_gtI (tgt := 129) (((w4 * 4) : Nat) : Int) (((w4 * 4) : Nat) : Int) (nI_toInt (by omega)) (nI_toInt (by omega)) (by decide) d_X_which_82 (fun q => absurd q (by omega)) (fun _ => ?_)
          refine aw_aload_n rfl rfl d_X_which_85 ?_
          refine aw_getr fl_X_93 km_0 (by decide) rfl rm_0_49 d_X_which_86 ?_
          refine aw_iconst (v := nI 0) ci_0 d_X_which_89 ?_
          refine aw_iald (j := 0) km_25 (vp_in_nI (by decide) (by decide)) (nI_clamp (by decide)) d_X_which_90 ?_
          refine aw_top (x2 := nI ((w4 * 4))) (e35) ?_
          refine aw_iload rfl d_X_which_91 ?_
          refine aw_icmp_neI (tgt := 110) (((w4 * 4) : Nat) : Int) (((w4 * 4) : Nat) : Int) (nI_toInt (by omega)) (nI_toInt (by omega)) (by decide) d_X_which_93 (fun q => absurd q (by omega)) (fun _ => ?_)
          refine aw_aload_n rfl rfl d_X_which_96 ?_
          refine aw_getr fl_X_93 km_0 (by decide) rfl rm_0_49 d_X_which_97 ?_
          refine aw_iconst (v := nI 2) ci_2 d_X_which_100 ?_
          refine aw_iald (j := 2) km_25 (vp_in_nI (by decide) (by decide)) (nI_clamp (by decide)) d_X_which_101 ?_
          refine aw_top (x2 := nI 0) ((e36 2 (by decide) (by decide))) ?_
          refine aw_iload rfl d_X_which_102 ?_
          refine aw_icmp_ltI (tgt := 110) (0) (0) (by decide +kernel) (by decide +kernel) (by decide) d_X_which_104 (fun q => absurd q (by decide)) (fun _ => ?_)
          refine aw_goto (tgt := 129) (by decide) d_X_which_107 ?_
          refine aw_iinc (v := nI 8) (lv2 := [.ref 0, .int (nI (w4)), .int (z), .int (nI 0), .int (nI ((w4 * 4))), .int (nI 0), .int (nI 8)]) rfl (by decide +kernel) (by decide) rfl d_X_which_129 ?_
          refine aw_goto (tgt := 32) (by decide) d_X_which_132 ?_
          refine aw_iload rfl d_X_which_32 ?_
          refine aw_bipush (v := nI 16) cb_16 d_X_which_34 ?_
          refine aw_icmp_geI (tgt := 135) (8) (16) (by decide +kernel) (by decide +kernel) (by decide) d_X_which_36 (fun q => absurd q (by decide)) (fun _ => ?_)
          refine aw_aload_n rfl rfl d_X_which_39 ?_
          refine aw_iload rfl d_X_which_40 ?_
          refine aw_puti fl_X_38 km_0 (by decide) rfl rfl rfl rfl d_X_which_42 ?_
          refine aw_aload_n rfl rfl d_X_which_45 ?_
          refine aw_aload_n rfl rfl d_X_which_46 ?_
          refine aw_getr fl_X_7 km_0 (by decide) rfl rm_0_0 d_X_which_47 ?_
          refine aw_bipush (v := nI 6) cb_6 d_X_which_50 ?_
          refine aw_iald (j := 6) km_1 (vp_in_nI (by decide) (by decide)) (nI_clamp (by decide)) d_X_which_52 ?_
          refine aw_aload_n rfl rfl d_X_which_53 ?_
          refine aw_getr fl_X_7 km_0 (by decide) rfl rm_0_0 d_X_which_54 ?_
          refine aw_iconst (v := nI 5) ci_5 d_X_which_57 ?_
          refine aw_iald (j := 5) km_1 (vp_in_nI (by decide) (by decide)) (nI_clamp (by decide)) d_X_which_58 ?_
          refine aw_aload_n rfl rfl d_X_which_59 ?_
          refine aw_getr fl_X_7 km_0 (by decide) rfl rm_0_0 d_X_which_60 ?_
          refine aw_iconst (v := nI 1) ci_1 d_X_which_63 ?_
          refine aw_iald (j := 1) km_1 (vp_in_nI (by decide) (by decide)) (nI_clamp (by decide)) d_X_which_64 ?_
          refine aw_top (x2 := nI 4) (Eq.trans (congrFun (upd2_ne (by decide)) (1)) (y33_3)) ?_
          refine aw_iload_n rfl rfl d_X_which_65 ?_
          refine as_callV (as := [.int ((upd2 J33 0 22 (nI 8)) 1 6), .int ((upd2 J33 0 22 (nI 8)) 1 5), .int (nI 4), .int (nI (w4))]) (d' := 8) (q := ("SinglesUpModel", zT9, 51)) mo_X_leads lk_X_416 km_0 rfl rfl rfl ⟨by decide, by decide⟩ rfl rfl (by decide) d_X_which_66 (sp_leads (I := upd2 J33 0 22 (nI 8)) (rule := (upd2 J33 0 22 (nI 8)) 1 6) (bound := (upd2 J33 0 22 (nI 8)) 1 5) (t := 4) (n0 := w4) (by omega) (by omega) (GM_of gm34 (fun j hj => (congrFun (upd2_ne (by decide)) _)) (fun j hj => (Eq.trans (congrFun (upd2_ne (by decide)) (j)) (y33_12 (j) (by omega))))) (fun J37 gm38 e39 e40 => ?_))
          have gm38c := gm38
          obtain ⟨y37_0, y37_1, y37_2, y37_3, y37_4, y37_5, y37_6, y37_7, y37_8, y37_9, y37_10, y37_11, y37_12, y37_b⟩ := gm38c
          refine (show As l b 14 y_X_which KM RM K2 (J37) 69 [.ref 0, .int (nI (w4)), .int (z), .int (nI 0), .int (nI ((w4 * 4))), .int (nI 0), .int (nI 8)] [] from ?_)
          refine aw_iload_n rfl rfl d_X_which_69 ?_
          refine aw_iconst (v := (-1 : Int32)) rfl d_X_which_70 ?_
          refine aw_icmp_eqI (tgt := 110) (0) (-1) (by decide +kernel) (by decide +kernel) (by decide) d_X_which_71 (fun q => absurd q (by decide)) (fun _ => ?_)
          refine aw_aload_n rfl rfl d_X_which_74 ?_
          refine aw_getr fl_X_93 km_0 (by decide) rfl rm_0_49 d_X_which_75 ?_
          refine aw_iconst (v := nI 0) ci_0 d_X_which_78 ?_
          refine aw_iald (j := 0) km_25 (vp_in_nI (by decide) (by decide)) (nI_clamp (by decide)) d_X_which_79 ?_
          refine aw_top (x2 := nI ((w4 * 4))) (e39) ?_
          refine aw_iload rfl d_X_which_80 ?_
          refine aw_icmp_gtI (tgt := 129) (((w4 * 4) : Nat) : Int) (((w4 * 4) : Nat) : Int) (nI_toInt (by omega)) (nI_toInt (by omega)) (by decide) d_X_which_82 (fun q => absurd q (by omega)) (fun _ => ?_)
          refine aw_aload_n rfl rfl d_X_which_85 ?_
          refine aw_getr fl_X_93 km_0 (by decide) rfl rm_0_49 d_X_which_86 ?_
          refine aw_iconst (v := nI 0) ci_0 d_X_which_89 ?_
          refine aw_iald (j := 0) km_25 (vp_in_nI (by decide) (by decide)) (nI_clamp (by decide)) d_X_which_90 ?_
          refine aw_top (x2 := nI ((w4 * 4))) (e39) ?_
          refine aw_iload rfl d_X_which_91 ?_
          refine aw_icmp_neI (tgt := 110) (((w4 * 4) : Nat) : Int) (((w4 * 4) : Nat) : Int) (nI_toInt (by omega)) (nI_toInt (by omega)) (by decide) d_X_which_93 (fun q => absurd q (by omega)) (fun _ => ?_)
          refine aw_aload_n rfl rfl d_X_which_96 ?_
          refine aw_getr fl_X_93 km_0 (by decide) rfl rm_0_49 d_X_which_97 ?_
          refine aw_iconst (v := nI 2) ci_2 d_X_which_100 ?_
          refine aw_iald (j := 2) km_25 (vp_in_nI (by decide) (by decide)) (nI_clamp (by decide)) d_X_which_101 ?_
          refine aw_top (x2 := nI 0) ((e40 2 (by decide) (by decide))) ?_
          refine aw_iload rfl d_X_which_102 ?_
          refine aw_icmp_ltI (tgt := 110) (0) (0) (by decide +kernel) (by decide +kernel) (by decide) d_X_which_104 (fun q => absurd q (by decide)) (fun _ => ?_)
          refine aw_goto (tgt := 129) (by decide) d_X_which_107 ?_
          refine aw_iinc (v := nI 9) (lv2 := [.ref 0, .int (nI (w4)), .int (z), .int (nI 0), .int (nI ((w4 * 4))), .int (nI 0), .int (nI 9)]) rfl (by decide +kernel) (by decide) rfl d_X_which_129 ?_
          refine aw_goto (tgt := 32) (by decide) d_X_which_132 ?_
          refine aw_iload rfl d_X_which_32 ?_
          refine aw_bipush (v := nI 16) cb_16 d_X_which_34 ?_
          refine aw_icmp_geI (tgt := 135) (9) (16) (by decide +kernel) (by decide +kernel) (by decide) d_X_which_36 (fun q => absurd q (by decide)) (fun _ => ?_)
          refine aw_aload_n rfl rfl d_X_which_39 ?_
          refine aw_iload rfl d_X_which_40 ?_
          refine aw_puti fl_X_38 km_0 (by decide) rfl rfl rfl rfl d_X_which_42 ?_
          refine aw_aload_n rfl rfl d_X_which_45 ?_
          refine aw_aload_n rfl rfl d_X_which_46 ?_
          refine aw_getr fl_X_7 km_0 (by decide) rfl rm_0_0 d_X_which_47 ?_
          refine aw_bipush (v := nI 6) cb_6 d_X_which_50 ?_
          refine aw_iald (j := 6) km_1 (vp_in_nI (by decide) (by decide)) (nI_clamp (by decide)) d_X_which_52 ?_
          refine aw_aload_n rfl rfl d_X_which_53 ?_
          refine aw_getr fl_X_7 km_0 (by decide) rfl rm_0_0 d_X_which_54 ?_
          refine aw_iconst (v := nI 5) ci_5 d_X_which_57 ?_
          refine aw_iald (j := 5) km_1 (vp_in_nI (by decide) (by decide)) (nI_clamp (by decide)) d_X_which_58 ?_
          refine aw_aload_n rfl rfl d_X_which_59 ?_
          refine aw_getr fl_X_7 km_0 (by decide) rfl rm_0_0 d_X_which_60 ?_
          refine aw_iconst (v := nI 1) ci_1 d_X_which_63 ?_
          refine aw_iald (j := 1) km_1 (vp_in_nI (by decide) (by decide)) (nI_clamp (by decide)) d_X_which_64 ?_
          refine aw_top (x2 := nI 4) (Eq.trans (congrFun (upd2_ne (by decide)) (1)) (y37_3)) ?_
          refine aw_iload_n rfl rfl d_X_which_65 ?_
          refine as_callV (as := [.int ((upd2 J37 0 22 (nI 9)) 1 6), .int ((upd2 J37 0 22 (nI 9)) 1 5), .int (nI 4), .int (nI (w4))]) (d' := 8) (q := ("SinglesUpModel", zT9, 51)) mo_X_leads lk_X_416 km_0 rfl rfl rfl ⟨by decide, by decide⟩ rfl rfl (by decide) d_X_which_66 (sp_leads (I := upd2 J37 0 22 (nI 9)) (rule := (upd2 J37 0 22 (nI 9)) 1 6) (bound := (upd2 J37 0 22 (nI 9)) 1 5) (t := 4) (n0 := w4) (by omega) (by omega) (GM_of gm38 (fun j hj => (congrFun (upd2_ne (by decide)) _)) (fun j hj => (Eq.trans (congrFun (upd2_ne (by decide)) (j)) (y37_12 (j) (by omega))))) (fun J41 gm42 e43 e44 => ?_))
          have gm42c := gm42
          obtain ⟨y41_0, y41_1, y41_2, y41_3, y41_4, y41_5, y41_6, y41_7, y41_8, y41_9, y41_10, y41_11, y41_12, y41_b⟩ := gm42c
          refine (show As l b 14 y_X_which KM RM K2 (J41) 69 [.ref 0, .int (nI (w4)), .int (z), .int (nI 0), .int (nI ((w4 * 4))), .int (nI 0), .int (nI 9)] [] from ?_)
          refine aw_iload_n rfl rfl d_X_which_69 ?_
          refine aw_iconst (v := (-1 : Int32)) rfl d_X_which_70 ?_
          refine aw_icmp_eqI (tgt := 110) (0) (-1) (by decide +kernel) (by decide +kernel) (by decide) d_X_which_71 (fun q => absurd q (by decide)) (fun _ => ?_)
          refine aw_aload_n rfl rfl d_X_which_74 ?_
          refine aw_getr fl_X_93 km_0 (by decide) rfl rm_0_49 d_X_which_75 ?_
          refine aw_iconst (v := nI 0) ci_0 d_X_which_78 ?_
          refine aw_iald (j := 0) km_25 (vp_in_nI (by decide) (by decide)) (nI_clamp (by decide)) d_X_which_79 ?_
          refine aw_top (x2 := nI ((w4 * 4))) (e43) ?_
          refine aw_iload rfl d_X_which_80 ?_
          refine aw_icmp_gtI (tgt := 129) (((w4 * 4) : Nat) : Int) (((w4 * 4) : Nat) : Int) (nI_toInt (by omega)) (nI_toInt (by omega)) (by decide) d_X_which_82 (fun q => absurd q (by omega)) (fun _ => ?_)
          refine aw_aload_n rfl rfl d_X_which_85 ?_
          refine aw_getr fl_X_93 km_0 (by decide) rfl rm_0_49 d_X_which_86 ?_
          refine aw_iconst (v := nI 0) ci_0 d_X_which_89 ?_
          refine aw_iald (j := 0) km_25 (vp_in_nI (by decide) (by decide)) (nI_clamp (by decide)) d_X_which_90 ?_
          refine aw_top (x2 := nI ((w4 * 4))) (e43) ?_
          refine aw_iload rfl d_X_which_91 ?_
          refine aw_icmp_neI (tgt := 110) (((w4 * 4) : Nat) : Int) (((w4 * 4) : Nat) : Int) (nI_toInt (by omega)) (nI_toInt (by omega)) (by decide) d_X_which_93 (fun q => absurd q (by omega)) (fun _ => ?_)
          refine aw_aload_n rfl rfl d_X_which_96 ?_
          refine aw_getr fl_X_93 km_0 (by decide) rfl rm_0_49 d_X_which_97 ?_
          refine aw_iconst (v := nI 2) ci_2 d_X_which_100 ?_
          refine aw_iald (j := 2) km_25 (vp_in_nI (by decide) (by decide)) (nI_clamp (by decide)) d_X_which_101 ?_
          refine aw_top (x2 := nI 0) ((e44 2 (by decide) (by decide))) ?_
          refine aw_iload rfl d_X_which_102 ?_
          refine aw_icmp_ltI (tgt := 110) (0) (0) (by decide +kernel) (by decide +kernel) (by decide) d_X_which_104 (fun q => absurd q (by decide)) (fun _ => ?_)
          refine aw_goto (tgt := 129) (by decide) d_X_which_107 ?_
          refine aw_iinc (v := nI 10) (lv2 := [.ref 0, .int (nI (w4)), .int (z), .int (nI 0), .int (nI ((w4 * 4))), .int (nI 0), .int (nI 10)]) rfl (by decide +kernel) (by decide) rfl d_X_which_129 ?_
          refine aw_goto (tgt := 32) (by decide) d_X_which_132 ?_
          refine aw_iload rfl d_X_which_32 ?_
          refine aw_bipush (v := nI 16) cb_16 d_X_which_34 ?_
          refine aw_icmp_geI (tgt := 135) (10) (16) (by decide +kernel) (by decide +kernel) (by decide) d_X_which_36 (fun q => absurd q (by decide)) (fun _ => ?_)
          refine aw_aload_n rfl rfl d_X_which_39 ?_
          refine aw_iload rfl d_X_which_40 ?_
          refine aw_puti fl_X_38 km_0 (by decide) rfl rfl rfl rfl d_X_which_42 ?_
          refine aw_aload_n rfl rfl d_X_which_45 ?_
          refine aw_aload_n rfl rfl d_X_which_46 ?_
          refine aw_getr fl_X_7 km_0 (by decide) rfl rm_0_0 d_X_which_47 ?_
          refine aw_bipush (v := nI 6) cb_6 d_X_which_50 ?_
          refine aw_iald (j := 6) km_1 (vp_in_nI (by decide) (by decide)) (nI_clamp (by decide)) d_X_which_52 ?_
          refine aw_aload_n rfl rfl d_X_which_53 ?_
          refine aw_getr fl_X_7 km_0 (by decide) rfl rm_0_0 d_X_which_54 ?_
          refine aw_iconst (v := nI 5) ci_5 d_X_which_57 ?_
          refine aw_iald (j := 5) km_1 (vp_in_nI (by decide) (by decide)) (nI_clamp (by decide)) d_X_which_58 ?_
          refine aw_aload_n rfl rfl d_X_which_59 ?_
          refine aw_getr fl_X_7 km_0 (by decide) rfl rm_0_0 d_X_which_60 ?_
          refine aw_iconst (v := nI 1) ci_1 d_X_which_63 ?_
          refine aw_iald (j := 1) km_1 (vp_in_nI (by decide) (by decide)) (nI_clamp (by decide)) d_X_which_64 ?_
          refine aw_top (x2 := nI 4) (Eq.trans (congrFun (upd2_ne (by decide)) (1)) (y41_3)) ?_
          refine aw_iload_n rfl rfl d_X_which_65 ?_
          refine as_callV (as := [.int ((upd2 J41 0 22 (nI 10)) 1 6), .int ((upd2 J41 0 22 (nI 10)) 1 5), .int (nI 4), .int (nI (w4))]) (d' := 8) (q := ("SinglesUpModel", zT9, 51)) mo_X_leads lk_X_416 km_0 rfl rfl rfl ⟨by decide, by decide⟩ rfl rfl (by decide) d_X_which_66 (sp_leads (I := upd2 J41 0 22 (nI 10)) (rule := (upd2 J41 0 22 (nI 10)) 1 6) (bound := (upd2 J41 0 22 (nI 10)) 1 5) (t := 4) (n0 := w4) (by omega) (by omega) (GM_of gm42 (fun j hj => (congrFun (upd2_ne (by decide)) _)) (fun j hj => (Eq.trans (congrFun (upd2_ne (by decide)) (j)) (y41_12 (j) (by omega))))) (fun J45 gm46 e47 e48 => ?_))
          have gm46c := gm46
          obtain ⟨y45_0, y45_1, y45_2, y45_3, y45_4, y45_5, y45_6, y45_7, y45_8, y45_9, y45_10, y45_11, y45_12, y45_b⟩ := gm46c
          refine (show As l b 14 y_X_which KM RM K2 (J45) 69 [.ref 0, .int (nI (w4)), .int (z), .int (nI 0), .int (nI ((w4 * 4))), .int (nI 0), .int (nI 10)] [] from ?_)
          refine aw_iload_n rfl rfl d_X_which_69 ?_
          refine aw_iconst (v := (-1 : Int32)) rfl d_X_which_70 ?_
          refine aw_icmp_eqI (tgt := 110) (0) (-1) (by decide +kernel) (by decide +kernel) (by decide) d_X_which_71 (fun q => absurd q (by decide)) (fun _ => ?_)
          refine aw_aload_n rfl rfl d_X_which_74 ?_
          refine aw_getr fl_X_93 km_0 (by decide) rfl rm_0_49 d_X_which_75 ?_
          refine aw_iconst (v := nI 0) ci_0 d_X_which_78 ?_
          refine aw_iald (j := 0) km_25 (vp_in_nI (by decide) (by decide)) (nI_clamp (by decide)) d_X_which_79 ?_
          refine aw_top (x2 := nI ((w4 * 4))) (e47) ?_
          refine aw_iload rfl d_X_which_80 ?_
          refine aw_icmp_gtI (tgt := 129) (((w4 * 4) : Nat) : Int) (((w4 * 4) : Nat) : Int) (nI_toInt (by omega)) (nI_toInt (by omega)) (by decide) d_X_which_82 (fun q => absurd q (by omega)) (fun _ => ?_)
          refine aw_aload_n rfl rfl d_X_which_85 ?_
          refine aw_getr fl_X_93 km_0 (by decide) rfl rm_0_49 d_X_which_86 ?_
          refine aw_iconst (v := nI 0) ci_0 d_X_which_89 ?_
          refine aw_iald (j := 0) km_25 (vp_in_nI (by decide) (by decide)) (nI_clamp (by decide)) d_X_which_90 ?_
          refine aw_top (x2 := nI ((w4 * 4))) (e47) ?_
          refine aw_iload rfl d_X_which_91 ?_
          refine aw_icmp_neI (tgt := 110) (((w4 * 4) : Nat) : Int) (((w4 * 4) : Nat) : Int) (nI_toInt (by omega)) (nI_toInt (by omega)) (by decide) d_X_which_93 (fun q => absurd q (by omega)) (fun _ => ?_)
          refine aw_aload_n rfl rfl d_X_which_96 ?_
          refine aw_getr fl_X_93 km_0 (by decide) rfl rm_0_49 d_X_which_97 ?_
          refine aw_iconst (v := nI 2) ci_2 d_X_which_100 ?_
          refine aw_iald (j := 2) km_25 (vp_in_nI (by decide) (by decide)) (nI_clamp (by decide)) d_X_which_101 ?_
          refine aw_top (x2 := nI 0) ((e48 2 (by decide) (by decide))) ?_
          refine aw_iload rfl d_X_which_102 ?_
          refine aw_icmp_ltI (tgt := 110) (0) (0) (by decide +kernel) (by decide +kernel) (by decide) d_X_which_104 (fun q => absurd q (by decide)) (fun _ => ?_)
          refine aw_goto (tgt := 129) (by decide) d_X_which_107 ?_
          refine aw_iinc (v := nI 11) (lv2 := [.ref 0, .int (nI (w4)), .int (z), .int (nI 0), .int (nI ((w4 * 4))), .int (nI 0), .int (nI 11)]) rfl (by decide +kernel) (by decide) rfl d_X_which_129 ?_
          refine aw_goto (tgt := 32) (by decide) d_X_which_132 ?_
          refine aw_iload rfl d_X_which_32 ?_
          refine aw_bipush (v := nI 16) cb_16 d_X_which_34 ?_
          refine aw_icmp_geI (tgt := 135) (11) (16) (by decide +kernel) (by decide +kernel) (by decide) d_X_which_36 (fun q => absurd q (by decide)) (fun _ => ?_)
          refine aw_aload_n rfl rfl d_X_which_39 ?_
          refine aw_iload rfl d_X_which_40 ?_
          refine aw_puti fl_X_38 km_0 (by decide) rfl rfl rfl rfl d_X_which_42 ?_
          refine aw_aload_n rfl rfl d_X_which_45 ?_
          refine aw_aload_n rfl rfl d_X_which_46 ?_
          refine aw_getr fl_X_7 km_0 (by decide) rfl rm_0_0 d_X_which_47 ?_
          refine aw_bipush (v := nI 6) cb_6 d_X_which_50 ?_
          refine aw_iald (j := 6) km_1 (vp_in_nI (by decide) (by decide)) (nI_clamp (by decide)) d_X_which_52 ?_
          refine aw_aload_n rfl rfl d_X_which_53 ?_
          refine aw_getr fl_X_7 km_0 (by decide) rfl rm_0_0 d_X_which_54 ?_
          refine aw_iconst (v := nI 5) ci_5 d_X_which_57 ?_
          refine aw_iald (j := 5) km_1 (vp_in_nI (by decide) (by decide)) (nI_clamp (by decide)) d_X_which_58 ?_
          refine aw_aload_n rfl rfl d_X_which_59 ?_
          refine aw_getr fl_X_7 km_0 (by decide) rfl rm_0_0 d_X_which_60 ?_
          refine aw_iconst (v := nI 1) ci_1 d_X_which_63 ?_
          refine aw_iald (j := 1) km_1 (vp_in_nI (by decide) (by decide)) (nI_clamp (by decide)) d_X_which_64 ?_
          refine aw_top (x2 := nI 4) (Eq.trans (congrFun (upd2_ne (by decide)) (1)) (y45_3)) ?_
          refine aw_iload_n rfl rfl d_X_which_65 ?_
          refine as_callV (as := [.int ((upd2 J45 0 22 (nI 11)) 1 6), .int ((upd2 J45 0 22 (nI 11)) 1 5), .int (nI 4), .int (nI (w4))]) (d' := 8) (q := ("SinglesUpModel", zT9, 51)) mo_X_leads lk_X_416 km_0 rfl rfl rfl ⟨by decide, by decide⟩ rfl rfl (by decide) d_X_which_66 (sp_leads (I := upd2 J45 0 22 (nI 11)) (rule := (upd2 J45 0 22 (nI 11)) 1 6) (bound := (upd2 J45 0 22 (nI 11)) 1 5) (t := 4) (n0 := w4) (by omega) (by omega) (GM_of gm46 (fun j hj => (congrFun (upd2_ne (by decide)) _)) (fun j hj => (Eq.trans (congrFun (upd2_ne (by decide)) (j)) (y45_12 (j) (by omega))))) (fun J49 gm50 e51 e52 => ?_))
          have gm50c := gm50
          obtain ⟨y49_0, y49_1, y49_2, y49_3, y49_4, y49_5, y49_6, y49_7, y49_8, y49_9, y49_10, y49_11, y49_12, y49_b⟩ := gm50c
          refine (show As l b 14 y_X_which KM RM K2 (J49) 69 [.ref 0, .int (nI (w4)), .int (z), .int (nI 0), .int (nI ((w4 * 4))), .int (nI 0), .int (nI 11)] [] from ?_)
          refine aw_iload_n rfl rfl d_X_which_69 ?_
          refine aw_iconst (v := (-1 : Int32)) rfl d_X_which_70 ?_
          refine aw_icmp_eqI (tgt := 110) (0) (-1) (by decide +kernel) (by decide +kernel) (by decide) d_X_which_71 (fun q => absurd q (by decide)) (fun _ => ?_)
          refine aw_aload_n rfl rfl d_X_which_74 ?_
          refine aw_getr fl_X_93 km_0 (by decide) rfl rm_0_49 d_X_which_75 ?_
          refine aw_iconst (v := nI 0) ci_0 d_X_which_78 ?_
          refine aw_iald (j := 0) km_25 (vp_in_nI (by decide) (by decide)) (nI_clamp (by decide)) d_X_which_79 ?_
          refine aw_top (x2 := nI ((w4 * 4))) (e51) ?_
          refine aw_iload rfl d_X_which_80 ?_
          refine aw_icmp_gtI (tgt := 129) (((w4 * 4) : Nat) : Int) (((w4 * 4) : Nat) : Int) (nI_toInt (by omega)) (nI_toInt (by omega)) (by decide) d_X_which_82 (fun q => absurd q (by omega)) (fun _ => ?_)
          refine aw_aload_n rfl rfl d_X_which_85 ?_
          refine aw_getr fl_X_93 km_0 (by decide) rfl rm_0_49 d_X_which_86 ?_
          refine aw_iconst (v := nI 0) ci_0 d_X_which_89 ?_
          refine aw_iald (j := 0) km_25 (vp_in_nI (by decide) (by decide)) (nI_clamp (by decide)) d_X_which_90 ?_
          refine aw_top (x2 := nI ((w4 * 4))) (e51) ?_
          refine aw_iload rfl d_X_which_91 ?_
          refine aw_icmp_neI (tgt := 110) (((w4 * 4) : Nat) : Int) (((w4 * 4) : Nat) : Int) (nI_toInt (by omega)) (nI_toInt (by omega)) (by decide) d_X_which_93 (fun q => absurd q (by omega)) (fun _ => ?_)
          refine aw_aload_n rfl rfl d_X_which_96 ?_
          refine aw_getr fl_X_93 km_0 (by decide) rfl rm_0_49 d_X_which_97 ?_
          refine aw_iconst (v := nI 2) ci_2 d_X_which_100 ?_
          refine aw_iald (j := 2) km_25 (vp_in_nI (by decide) (by decide)) (nI_clamp (by decide)) d_X_which_101 ?_
          refine aw_top (x2 := nI 0) ((e52 2 (by decide) (by decide))) ?_
          refine aw_iload rfl d_X_which_102 ?_
          refine aw_icmp_ltI (tgt := 110) (0) (0) (by decide +kernel) (by decide +kernel) (by decide) d_X_which_104 (fun q => absurd q (by decide)) (fun _ => ?_)
          refine aw_goto (tgt := 129) (by decide) d_X_which_107 ?_
          refine aw_iinc (v := nI 12) (lv2 := [.ref 0, .int (nI (w4)), .int (z), .int (nI 0), .int (nI ((w4 * 4))), .int (nI 0), .int (nI 12)]) rfl (by decide +kernel) (by decide) rfl d_X_which_129 ?_
          refine aw_goto (tgt := 32) (by decide) d_X_which_132 ?_
          refine aw_iload rfl d_X_which_32 ?_
          refine aw_bipush (v := nI 16) cb_16 d_X_which_34 ?_
          refine aw_icmp_geI (tgt := 135) (12) (16) (by decide +kernel) (by decide +kernel) (by decide) d_X_which_36 (fun q => absurd q (by decide)) (fun _ => ?_)
          refine aw_aload_n rfl rfl d_X_which_39 ?_
          refine aw_iload rfl d_X_which_40 ?_
          refine aw_puti fl_X_38 km_0 (by decide) rfl rfl rfl rfl d_X_which_42 ?_
          refine aw_aload_n rfl rfl d_X_which_45 ?_
          refine aw_aload_n rfl rfl d_X_which_46 ?_
          refine aw_getr fl_X_7 km_0 (by decide) rfl rm_0_0 d_X_which_47 ?_
          refine aw_bipush (v := nI 6) cb_6 d_X_which_50 ?_
          refine aw_iald (j := 6) km_1 (vp_in_nI (by decide) (by decide)) (nI_clamp (by decide)) d_X_which_52 ?_
          refine aw_aload_n rfl rfl d_X_which_53 ?_
          refine aw_getr fl_X_7 km_0 (by decide) rfl rm_0_0 d_X_which_54 ?_
          refine aw_iconst (v := nI 5) ci_5 d_X_which_57 ?_
          refine aw_iald (j := 5) km_1 (vp_in_nI (by decide) (by decide)) (nI_clamp (by decide)) d_X_which_58 ?_
          refine aw_aload_n rfl rfl d_X_which_59 ?_
          refine aw_getr fl_X_7 km_0 (by decide) rfl rm_0_0 d_X_which_60 ?_
          refine aw_iconst (v := nI 1) ci_1 d_X_which_63 ?_
          refine aw_iald (j := 1) km_1 (vp_in_nI (by decide) (by decide)) (nI_clamp (by decide)) d_X_which_64 ?_
          refine aw_top (x2 := nI 4) (Eq.trans (congrFun (upd2_ne (by decide)) (1)) (y49_3)) ?_
          refine aw_iload_n rfl rfl d_X_which_65 ?_
          refine as_callV (as := [.int ((upd2 J49 0 22 (nI 12)) 1 6), .int ((upd2 J49 0 22 (nI 12)) 1 5), .int (nI 4), .int (nI (w4))]) (d' := 8) (q := ("SinglesUpModel", zT9, 51)) mo_X_leads lk_X_416 km_0 rfl rfl rfl ⟨by decide, by decide⟩ rfl rfl (by decide) d_X_which_66 (sp_leads (I := upd2 J49 0 22 (nI 12)) (rule := (upd2 J49 0 22 (nI 12)) 1 6) (bound := (upd2 J49 0 22 (nI 12)) 1 5) (t := 4) (n0 := w4) (by omega) (by omega) (GM_of gm50 (fun j hj => (congrFun (upd2_ne (by decide)) _)) (fun j hj => (Eq.trans (congrFun (upd2_ne (by decide)) (j)) (y49_12 (j) (by omega))))) (fun J53 gm54 e55 e56 => ?_))
          have gm54c := gm54
          obtain ⟨y53_0, y53_1, y53_2, y53_3, y53_4, y53_5, y53_6, y53_7, y53_8, y53_9, y53_10, y53_11, y53_12, y53_b⟩ := gm54c
          refine (show As l b 14 y_X_which KM RM K2 (J53) 69 [.ref 0, .int (nI (w4)), .int (z), .int (nI 0), .int (nI ((w4 * 4))), .int (nI 0), .int (nI 12)] [] from ?_)
          refine aw_iload_n rfl rfl d_X_which_69 ?_
          refine aw_iconst (v := (-1 : Int32)) rfl d_X_which_70 ?_
          refine aw_icmp_eqI (tgt := 110) (0) (-1) (by decide +kernel) (by decide +kernel) (by decide) d_X_which_71 (fun q => absurd q (by decide)) (fun _ => ?_)
          refine aw_aload_n rfl rfl d_X_which_74 ?_
          refine aw_getr fl_X_93 km_0 (by decide) rfl rm_0_49 d_X_which_75 ?_
          refine aw_iconst (v := nI 0) ci_0 d_X_which_78 ?_
          refine aw_iald (j := 0) km_25 (vp_in_nI (by decide) (by decide)) (nI_clamp (by decide)) d_X_which_79 ?_
          refine aw_top (x2 := nI ((w4 * 4))) (e55) ?_
          refine aw_iload rfl d_X_which_80 ?_
          refine aw_icmp_gtI (tgt := 129) (((w4 * 4) : Nat) : Int) (((w4 * 4) : Nat) : Int) (nI_toInt (by omega)) (nI_toInt (by omega)) (by decide) d_X_which_82 (fun q => absurd q (by omega)) (fun _ => ?_)
          refine aw_aload_n rfl rfl d_X_which_85 ?_
          refine aw_getr fl_X_93 km_0 (by decide) rfl rm_0_49 d_X_which_86 ?_
          refine aw_iconst (v := nI 0) ci_0 d_X_which_89 ?_
          refine aw_iald (j := 0) km_25 (vp_in_nI (by decide) (by decide)) (nI_clamp (by decide)) d_X_which_90 ?_
          refine aw_top (x2 := nI ((w4 * 4))) (e55) ?_
          refine aw_iload rfl d_X_which_91 ?_
          refine aw_icmp_neI (tgt := 110) (((w4 * 4) : Nat) : Int) (((w4 * 4) : Nat) : Int) (nI_toInt (by omega)) (nI_toInt (by omega)) (by decide) d_X_which_93 (fun q => absurd q (by omega)) (fun _ => ?_)
          refine aw_aload_n rfl rfl d_X_which_96 ?_
          refine aw_getr fl_X_93 km_0 (by decide) rfl rm_0_49 d_X_which_97 ?_
          refine aw_iconst (v := nI 2) ci_2 d_X_which_100 ?_
          refine aw_iald (j := 2) km_25 (vp_in_nI (by decide) (by decide)) (nI_clamp (by decide)) d_X_which_101 ?_
          refine aw_top (x2 := nI 0) ((e56 2 (by decide) (by decide))) ?_
          refine aw_iload rfl d_X_which_102 ?_
          refine aw_icmp_ltI (tgt := 110) (0) (0) (by decide +kernel) (by decide +kernel) (by decide) d_X_which_104 (fun q => absurd q (by decide)) (fun _ => ?_)
          refine aw_goto (tgt := 129) (by decide) d_X_which_107 ?_
          refine aw_iinc (v := nI 13) (lv2 := [.ref 0, .int (nI (w4)), .int (z), .int (nI 0), .int (nI ((w4 * 4))), .int (nI 0), .int (nI 13)]) rfl (by decide +kernel) (by decide) rfl d_X_which_129 ?_
          refine aw_goto (tgt := 32) (by decide) d_X_which_132 ?_
          refine aw_iload rfl d_X_which_32 ?_
          refine aw_bipush (v := nI 16) cb_16 d_X_which_34 ?_
          refine aw_icmp_geI (tgt := 135) (13) (16) (by decide +kernel) (by decide +kernel) (by decide) d_X_which_36 (fun q => absurd q (by decide)) (fun _ => ?_)
          refine aw_aload_n rfl rfl d_X_which_39 ?_
          refine aw_iload rfl d_X_which_40 ?_
          refine aw_puti fl_X_38 km_0 (by decide) rfl rfl rfl rfl d_X_which_42 ?_
          refine aw_aload_n rfl rfl d_X_which_45 ?_
          refine aw_aload_n rfl rfl d_X_which_46 ?_
          refine aw_getr fl_X_7 km_0 (by decide) rfl rm_0_0 d_X_which_47 ?_
          refine aw_bipush (v := nI 6) cb_6 d_X_which_50 ?_
          refine aw_iald (j := 6) km_1 (vp_in_nI (by decide) (by decide)) (nI_clamp (by decide)) d_X_which_52 ?_
          refine aw_aload_n rfl rfl d_X_which_53 ?_
          refine aw_getr fl_X_7 km_0 (by decide) rfl rm_0_0 d_X_which_54 ?_
          refine aw_iconst (v := nI 5) ci_5 d_X_which_57 ?_
          refine aw_iald (j := 5) km_1 (vp_in_nI (by decide) (by decide)) (nI_clamp (by decide)) d_X_which_58 ?_
          refine aw_aload_n rfl rfl d_X_which_59 ?_
          refine aw_getr fl_X_7 km_0 (by decide) rfl rm_0_0 d_X_which_60 ?_
          refine aw_iconst (v := nI 1) ci_1 d_X_which_63 ?_
          refine aw_iald (j := 1) km_1 (vp_in_nI (by decide) (by decide)) (nI_clamp (by decide)) d_X_which_64 ?_
          refine aw_top (x2 := nI 4) (Eq.trans (congrFun (upd2_ne (by decide)) (1)) (y53_3)) ?_
          refine aw_iload_n rfl rfl d_X_which_65 ?_
          refine as_callV (as := [.int ((upd2 J53 0 22 (nI 13)) 1 6), .int ((upd2 J53 0 22 (nI 13)) 1 5), .int (nI 4), .int (nI (w4))]) (d' := 8) (q := ("SinglesUpModel", zT9, 51)) mo_X_leads lk_X_416 km_0 rfl rfl rfl ⟨by decide, by decide⟩ rfl rfl (by decide) d_X_which_66 (sp_leads (I := upd2 J53 0 22 (nI 13)) (rule := (upd2 J53 0 22 (nI 13)) 1 6) (bound := (upd2 J53 0 22 (nI 13)) 1 5) (t := 4) (n0 := w4) (by omega) (by omega) (GM_of gm54 (fun j hj => (congrFun (upd2_ne (by decide)) _)) (fun j hj => (Eq.trans (congrFun (upd2_ne (by decide)) (j)) (y53_12 (j) (by omega))))) (fun J57 gm58 e59 e60 => ?_))
          have gm58c := gm58
          obtain ⟨y57_0, y57_1, y57_2, y57_3, y57_4, y57_5, y57_6, y57_7, y57_8, y57_9, y57_10, y57_11, y57_12, y57_b⟩ := gm58c
          refine (show As l b 14 y_X_which KM RM K2 (J57) 69 [.ref 0, .int (nI (w4)), .int (z), .int (nI 0), .int (nI ((w4 * 4))), .int (nI 0), .int (nI 13)] [] from ?_)
          refine aw_iload_n rfl rfl d_X_which_69 ?_
          refine aw_iconst (v := (-1 : Int32)) rfl d_X_which_70 ?_
          refine aw_icmp_eqI (tgt := 110) (0) (-1) (by decide +kernel) (by decide +kernel) (by decide) d_X_which_71 (fun q => absurd q (by decide)) (fun _ => ?_)
          refine aw_aload_n rfl rfl d_X_which_74 ?_
          refine aw_getr fl_X_93 km_0 (by decide) rfl rm_0_49 d_X_which_75 ?_
          refine aw_iconst (v := nI 0) ci_0 d_X_which_78 ?_
          refine aw_iald (j := 0) km_25 (vp_in_nI (by decide) (by decide)) (nI_clamp (by decide)) d_X_which_79 ?_
          refine aw_top (x2 := nI ((w4 * 4))) (e59) ?_
          refine aw_iload rfl d_X_which_80 ?_
          refine aw_icmp_gtI (tgt := 129) (((w4 * 4) : Nat) : Int) (((w4 * 4) : Nat) : Int) (nI_toInt (by omega)) (nI_toInt (by omega)) (by decide) d_X_which_82 (fun q => absurd q (by omega)) (fun _ => ?_)
          refine aw_aload_n rfl rfl d_X_which_85 ?_
          refine aw_getr fl_X_93 km_0 (by decide) rfl rm_0_49 d_X_which_86 ?_
          refine aw_iconst (v := nI 0) ci_0 d_X_which_89 ?_
          refine aw_iald (j := 0) km_25 (vp_in_nI (by decide) (by decide)) (nI_clamp (by decide)) d_X_which_90 ?_
          refine aw_top (x2 := nI ((w4 * 4))) (e59) ?_
          refine aw_iload rfl d_X_which_91 ?_
          refine aw_icmp_neI (tgt := 110) (((w4 * 4) : Nat) : Int) (((w4 * 4) : Nat) : Int) (nI_toInt (by omega)) (nI_toInt (by omega)) (by decide) d_X_which_93 (fun q => absurd q (by omega)) (fun _ => ?_)
          refine aw_aload_n rfl rfl d_X_which_96 ?_
          refine aw_getr fl_X_93 km_0 (by decide) rfl rm_0_49 d_X_which_97 ?_
          refine aw_iconst (v := nI 2) ci_2 d_X_which_100 ?_
          refine aw_iald (j := 2) km_25 (vp_in_nI (by decide) (by decide)) (nI_clamp (by decide)) d_X_which_101 ?_
          refine aw_top (x2 := nI 0) ((e60 2 (by decide) (by decide))) ?_
          refine aw_iload rfl d_X_which_102 ?_
          refine aw_icmp_ltI (tgt := 110) (0) (0) (by decide +kernel) (by decide +kernel) (by decide) d_X_which_104 (fun q => absurd q (by decide)) (fun _ => ?_)
          refine aw_goto (tgt := 129) (by decide) d_X_which_107 ?_
          refine aw_iinc (v := nI 14) (lv2 := [.ref 0, .int (nI (w4)), .int (z), .int (nI 0), .int (nI ((w4 * 4))), .int (nI 0), .int (nI 14)]) rfl (by decide +kernel) (by decide) rfl d_X_which_129 ?_
          refine aw_goto (tgt := 32) (by decide) d_X_which_132 ?_
          refine aw_iload rfl d_X_which_32 ?_
          refine aw_bipush (v := nI 16) cb_16 d_X_which_34 ?_
          refine aw_icmp_geI (tgt := 135) (14) (16) (by decide +kernel) (by decide +kernel) (by decide) d_X_which_36 (fun q => absurd q (by decide)) (fun _ => ?_)
          refine aw_aload_n rfl rfl d_X_which_39 ?_
          refine aw_iload rfl d_X_which_40 ?_
          refine aw_puti fl_X_38 km_0 (by decide) rfl rfl rfl rfl d_X_which_42 ?_
          refine aw_aload_n rfl rfl d_X_which_45 ?_
          refine aw_aload_n rfl rfl d_X_which_46 ?_
          refine aw_getr fl_X_7 km_0 (by decide) rfl rm_0_0 d_X_which_47 ?_
          refine aw_bipush (v := nI 6) cb_6 d_X_which_50 ?_
          refine aw_iald (j := 6) km_1 (vp_in_nI (by decide) (by decide)) (nI_clamp (by decide)) d_X_which_52 ?_
          refine aw_aload_n rfl rfl d_X_which_53 ?_
          refine aw_getr fl_X_7 km_0 (by decide) rfl rm_0_0 d_X_which_54 ?_
          refine aw_iconst (v := nI 5) ci_5 d_X_which_57 ?_
          refine aw_iald (j := 5) km_1 (vp_in_nI (by decide) (by decide)) (nI_clamp (by decide)) d_X_which_58 ?_
          refine aw_aload_n rfl rfl d_X_which_59 ?_
          refine aw_getr fl_X_7 km_0 (by decide) rfl rm_0_0 d_X_which_60 ?_
          refine aw_iconst (v := nI 1) ci_1 d_X_which_63 ?_
          refine aw_iald (j := 1) km_1 (vp_in_nI (by decide) (by decide)) (nI_clamp (by decide)) d_X_which_64 ?_
          refine aw_top (x2 := nI 4) (Eq.trans (congrFun (upd2_ne (by decide)) (1)) (y57_3)) ?_
          refine aw_iload_n rfl rfl d_X_which_65 ?_
          refine as_callV (as := [.int ((upd2 J57 0 22 (nI 14)) 1 6), .int ((upd2 J57 0 22 (nI 14)) 1 5), .int (nI 4), .int (nI (w4))]) (d' := 8) (q := ("SinglesUpModel", zT9, 51)) mo_X_leads lk_X_416 km_0 rfl rfl rfl ⟨by decide, by decide⟩ rfl rfl (by decide) d_X_which_66 (sp_leads (I := upd2 J57 0 22 (nI 14)) (rule := (upd2 J57 0 22 (nI 14)) 1 6) (bound := (upd2 J57 0 22 (nI 14)) 1 5) (t := 4) (n0 := w4) (by omega) (by omega) (GM_of gm58 (fun j hj => (congrFun (upd2_ne (by decide)) _)) (fun j hj => (Eq.trans (congrFun (upd2_ne (by decide)) (j)) (y57_12 (j) (by omega))))) (fun J61 gm62 e63 e64 => ?_))
          have gm62c := gm62
          obtain ⟨y61_0, y61_1, y61_2, y61_3, y61_4, y61_5, y61_6, y61_7, y61_8, y61_9, y61_10, y61_11, y61_12, y61_b⟩ := gm62c
          refine (show As l b 14 y_X_which KM RM K2 (J61) 69 [.ref 0, .int (nI (w4)), .int (z), .int (nI 0), .int (nI ((w4 * 4))), .int (nI 0), .int (nI 14)] [] from ?_)
          refine aw_iload_n rfl rfl d_X_which_69 ?_
          refine aw_iconst (v := (-1 : Int32)) rfl d_X_which_70 ?_
          refine aw_icmp_eqI (tgt := 110) (0) (-1) (by decide +kernel) (by decide +kernel) (by decide) d_X_which_71 (fun q => absurd q (by decide)) (fun _ => ?_)
          refine aw_aload_n rfl rfl d_X_which_74 ?_
          refine aw_getr fl_X_93 km_0 (by decide) rfl rm_0_49 d_X_which_75 ?_
          refine aw_iconst (v := nI 0) ci_0 d_X_which_78 ?_
          refine aw_iald (j := 0) km_25 (vp_in_nI (by decide) (by decide)) (nI_clamp (by decide)) d_X_which_79 ?_
          refine aw_top (x2 := nI ((w4 * 4))) (e63) ?_
          refine aw_iload rfl d_X_which_80 ?_
          refine aw_icmp_gtI (tgt := 129) (((w4 * 4) : Nat) : Int) (((w4 * 4) : Nat) : Int) (nI_toInt (by omega)) (nI_toInt (by omega)) (by decide) d_X_which_82 (fun q => absurd q (by omega)) (fun _ => ?_)
          refine aw_aload_n rfl rfl d_X_which_85 ?_
          refine aw_getr fl_X_93 km_0 (by decide) rfl rm_0_49 d_X_which_86 ?_
          refine aw_iconst (v := nI 0) ci_0 d_X_which_89 ?_
          refine aw_iald (j := 0) km_25 (vp_in_nI (by decide) (by decide)) (nI_clamp (by decide)) d_X_which_90 ?_
          refine aw_top (x2 := nI ((w4 * 4))) (e63) ?_
          refine aw_iload rfl d_X_which_91 ?_
          refine aw_icmp_neI (tgt := 110) (((w4 * 4) : Nat) : Int) (((w4 * 4) : Nat) : Int) (nI_toInt (by omega)) (nI_toInt (by omega)) (by decide) d_X_which_93 (fun q => absurd q (by omega)) (fun _ => ?_)
          refine aw_aload_n rfl rfl d_X_which_96 ?_
          refine aw_getr fl_X_93 km_0 (by decide) rfl rm_0_49 d_X_which_97 ?_
          refine aw_iconst (v := nI 2) ci_2 d_X_which_100 ?_
          refine aw_iald (j := 2) km_25 (vp_in_nI (by decide) (by decide)) (nI_clamp (by decide)) d_X_which_101 ?_
          refine aw_top (x2 := nI 0) ((e64 2 (by decide) (by decide))) ?_
          refine aw_iload rfl d_X_which_102 ?_
          refine aw_icmp_ltI (tgt := 110) (0) (0) (by decide +kernel) (by decide +kernel) (by decide) d_X_which_104 (fun q => absurd q (by decide)) (fun _ => ?_)
          refine aw_goto (tgt := 129) (by decide) d_X_which_107 ?_
          refine aw_iinc (v := nI 15) (lv2 := [.ref 0, .int (nI (w4)), .int (z), .int (nI 0), .int (nI ((w4 * 4))), .int (nI 0), .int (nI 15)]) rfl (by decide +kernel) (by decide) rfl d_X_which_129 ?_
          refine aw_goto (tgt := 32) (by decide) d_X_which_132 ?_
          refine aw_iload rfl d_X_which_32 ?_
          refine aw_bipush (v := nI 16) cb_16 d_X_which_34 ?_
          refine aw_icmp_geI (tgt := 135) (15) (16) (by decide +kernel) (by decide +kernel) (by decide) d_X_which_36 (fun q => absurd q (by decide)) (fun _ => ?_)
          refine aw_aload_n rfl rfl d_X_which_39 ?_
          refine aw_iload rfl d_X_which_40 ?_
          refine aw_puti fl_X_38 km_0 (by decide) rfl rfl rfl rfl d_X_which_42 ?_
          refine aw_aload_n rfl rfl d_X_which_45 ?_
          refine aw_aload_n rfl rfl d_X_which_46 ?_
          refine aw_getr fl_X_7 km_0 (by decide) rfl rm_0_0 d_X_which_47 ?_
          refine aw_bipush (v := nI 6) cb_6 d_X_which_50 ?_
          refine aw_iald (j := 6) km_1 (vp_in_nI (by decide) (by decide)) (nI_clamp (by decide)) d_X_which_52 ?_
          refine aw_aload_n rfl rfl d_X_which_53 ?_
          refine aw_getr fl_X_7 km_0 (by decide) rfl rm_0_0 d_X_which_54 ?_
          refine aw_iconst (v := nI 5) ci_5 d_X_which_57 ?_
          refine aw_iald (j := 5) km_1 (vp_in_nI (by decide) (by decide)) (nI_clamp (by decide)) d_X_which_58 ?_
          refine aw_aload_n rfl rfl d_X_which_59 ?_
          refine aw_getr fl_X_7 km_0 (by decide) rfl rm_0_0 d_X_which_60 ?_
          refine aw_iconst (v := nI 1) ci_1 d_X_which_63 ?_
          refine aw_iald (j := 1) km_1 (vp_in_nI (by decide) (by decide)) (nI_clamp (by decide)) d_X_which_64 ?_
          refine aw_top (x2 := nI 4) (Eq.trans (congrFun (upd2_ne (by decide)) (1)) (y61_3)) ?_
          refine aw_iload_n rfl rfl d_X_which_65 ?_
          refine as_callV (as := [.int ((upd2 J61 0 22 (nI 15)) 1 6), .int ((upd2 J61 0 22 (nI 15)) 1 5), .int (nI 4), .int (nI (w4))]) (d' := 8) (q := ("SinglesUpModel", zT9, 51)) mo_X_leads lk_X_416 km_0 rfl rfl rfl ⟨by decide, by decide⟩ rfl rfl (by decide) d_X_which_66 (sp_leads (I := upd2 J61 0 22 (nI 15)) (rule := (upd2 J61 0 22 (nI 15)) 1 6) (bound := (upd2 J61 0 22 (nI 15)) 1 5) (t := 4) (n0 := w4) (by omega) (by omega) (GM_of gm62 (fun j hj => (congrFun (upd2_ne (by decide)) _)) (fun j hj => (Eq.trans (congrFun (upd2_ne (by decide)) (j)) (y61_12 (j) (by omega))))) (fun J65 gm66 e67 e68 => ?_))
          have gm66c := gm66
          obtain ⟨y65_0, y65_1, y65_2, y65_3, y65_4, y65_5, y65_6, y65_7, y65_8, y65_9, y65_10, y65_11, y65_12, y65_b⟩ := gm66c
          refine (show As l b 14 y_X_which KM RM K2 (J65) 69 [.ref 0, .int (nI (w4)), .int (z), .int (nI 0), .int (nI ((w4 * 4))), .int (nI 0), .int (nI 15)] [] from ?_)
          refine aw_iload_n rfl rfl d_X_which_69 ?_
          refine aw_iconst (v := (-1 : Int32)) rfl d_X_which_70 ?_
          refine aw_icmp_eqI (tgt := 110) (0) (-1) (by decide +kernel) (by decide +kernel) (by decide) d_X_which_71 (fun q => absurd q (by decide)) (fun _ => ?_)
          refine aw_aload_n rfl rfl d_X_which_74 ?_
          refine aw_getr fl_X_93 km_0 (by decide) rfl rm_0_49 d_X_which_75 ?_
          refine aw_iconst (v := nI 0) ci_0 d_X_which_78 ?_
          refine aw_iald (j := 0) km_25 (vp_in_nI (by decide) (by decide)) (nI_clamp (by decide)) d_X_which_79 ?_
          refine aw_top (x2 := nI ((w4 * 4))) (e67) ?_
          refine aw_iload rfl d_X_which_80 ?_
          refine aw_icmp_gtI (tgt := 129) (((w4 * 4) : Nat) : Int) (((w4 * 4) : Nat) : Int) (nI_toInt (by omega)) (nI_toInt (by omega)) (by decide) d_X_which_82 (fun q => absurd q (by omega)) (fun _ => ?_)
          refine aw_aload_n rfl rfl d_X_which_85 ?_
          refine aw_getr fl_X_93 km_0 (by decide) rfl rm_0_49 d_X_which_86 ?_
          refine aw_iconst (v := nI 0) ci_0 d_X_which_89 ?_
          refine aw_iald (j := 0) km_25 (vp_in_nI (by decide) (by decide)) (nI_clamp (by decide)) d_X_which_90 ?_
          refine aw_top (x2 := nI ((w4 * 4))) (e67) ?_
          refine aw_iload rfl d_X_which_91 ?_
          refine aw_icmp_neI (tgt := 110) (((w4 * 4) : Nat) : Int) (((w4 * 4) : Nat) : Int) (nI_toInt (by omega)) (nI_toInt (by omega)) (by decide) d_X_which_93 (fun q => absurd q (by omega)) (fun _ => ?_)
          refine aw_aload_n rfl rfl d_X_which_96 ?_
          refine aw_getr fl_X_93 km_0 (by decide) rfl rm_0_49 d_X_which_97 ?_
          refine aw_iconst (v := nI 2) ci_2 d_X_which_100 ?_
          refine aw_iald (j := 2) km_25 (vp_in_nI (by decide) (by decide)) (nI_clamp (by decide)) d_X_which_101 ?_
          refine aw_top (x2 := nI 0) ((e68 2 (by decide) (by decide))) ?_
          refine aw_iload rfl d_X_which_102 ?_
          refine aw_icmp_ltI (tgt := 110) (0) (0) (by decide +kernel) (by decide +kernel) (by decide) d_X_which_104 (fun q => absurd q (by decide)) (fun _ => ?_)
          refine aw_goto (tgt := 129) (by decide) d_X_which_107 ?_
          refine aw_iinc (v := nI 16) (lv2 := [.ref 0, .int (nI (w4)), .int (z), .int (nI 0), .int (nI ((w4 * 4))), .int (nI 0), .int (nI 16)]) rfl (by decide +kernel) (by decide) rfl d_X_which_129 ?_
          refine aw_goto (tgt := 32) (by decide) d_X_which_132 ?_
          refine aw_iload rfl d_X_which_32 ?_
          refine aw_bipush (v := nI 16) cb_16 d_X_which_34 ?_
          refine aw_icmp_geI (tgt := 135) (16) (16) (by decide +kernel) (by decide +kernel) (by decide) d_X_which_36 (fun _ => ?_) (fun q => absurd q (by decide))
          refine aw_aload_n rfl rfl d_X_which_135 ?_
          refine aw_iconst (v := (-1 : Int32)) rfl d_X_which_136 ?_
          refine aw_puti fl_X_38 km_0 (by decide) rfl rfl rfl rfl d_X_which_137 ?_
          refine aw_iload_n rfl rfl d_X_which_140 ?_
          refine aw_if_neI (tgt := 148) (z).toInt rfl (by decide) d_X_which_141 (fun c69 => ?_) (fun c69 => ?_)
          · refine aw_iload_n rfl rfl d_X_which_148 ?_
            refine aw_iconst (v := nI 1) ci_1 d_X_which_149 ?_
            refine aw_icmp_neI (tgt := 158) (z).toInt (1) rfl (by decide +kernel) (by decide) d_X_which_150 (fun c70 => ?_) (fun c70 => ?_)
            · refine aw_iload rfl d_X_which_158 ?_
              exact as_reti rfl d_X_which_160 (hz (by omega) _)
            · refine aw_iload rfl d_X_which_153 ?_
              refine aw_goto (tgt := 160) (by decide) d_X_which_155 ?_
              exact as_reti rfl d_X_which_160 (by have h9 := he (by omega) (upd2 J65 0 22 ((-1 : Int32))); rw [gw4] at h9; simpa using h9)
          · refine aw_iload_n rfl rfl d_X_which_144 ?_
            refine aw_goto (tgt := 160) (by decide) d_X_which_145 ?_
            exact as_reti rfl d_X_which_160 (hz (by omega) _)
set_option maxRecDepth 20000 in
theorem sp_reckons {K2 : K2T} {I : Nat → Nat → Int32} {s e k : Nat} (hF : GM I s e k) (hK : ∀ J, (∀ q, q ≠ 0 ∧ q ≠ 17 → J q = I q) → J 0 40 = nI 0 → J 17 16 = nI 0 → K2 none J) : Ss l b 5 y_X_reckons KM RM [.ref 0] (I) K2 := by
  obtain ⟨g0, g1, g2, g3, g4, g5, g6, g7, g8, g9, g10, g11, g12, gb⟩ := hF
  refine Ss.of (show As l b 5 y_X_reckons KM RM K2 (I) 0 [.ref 0, uu, uu, uu, uu, uu] [] from ?_)
  refine aw_aload_n rfl rfl d_X_reckons_0 ?_
  refine as_callV (as := []) (d' := 4) (q := ("SinglesUpModel", zT9, 51)) mo_X_laysRow lk_X_356 km_0 rfl rfl rfl ⟨by decide, by decide⟩ rfl rfl (by decide) d_X_reckons_1 (Ss.of (show As l b 4 y_X_laysRow KM RM _ (I) 0 [.ref 0, uu, uu] [] from ?_))
  refine aw_aload_n rfl rfl d_X_laysRow_0 ?_
  refine aw_iconst (v := nI 0) ci_0 d_X_laysRow_1 ?_
  refine aw_puti fl_X_347 km_0 (by decide) rfl rfl rfl rfl d_X_laysRow_2 ?_
  refine aw_iconst (v := nI 0) ci_0 d_X_laysRow_5 ?_
  refine aw_istore_n (lv2 := [.ref 0, .int (nI 0), uu]) rfl (by decide) rfl d_X_laysRow_6 ?_
  refine aw_iload_n rfl rfl d_X_laysRow_7 ?_
  refine aw_bipush (v := nI 6) cb_6 d_X_laysRow_8 ?_
  refine aw_icmp_geI (tgt := 93) (0) (6) (by decide +kernel) (by decide +kernel) (by decide) d_X_laysRow_10 (fun q => absurd q (by decide)) (fun _ => ?_)
  refine aw_iconst (v := nI 0) ci_0 d_X_laysRow_13 ?_
  refine aw_istore_n (lv2 := [.ref 0, .int (nI 0), .int (nI 0)]) rfl (by decide) rfl d_X_laysRow_14 ?_
  refine aw_iload_n rfl rfl d_X_laysRow_15 ?_
  refine aw_aload_n rfl rfl d_X_laysRow_16 ?_
  refine aw_getr fl_X_7 km_0 (by decide) rfl rm_0_0 d_X_laysRow_17 ?_
  refine aw_sipush (v := nI 130) cs_130 d_X_laysRow_20 ?_
  refine aw_iload_n rfl rfl d_X_laysRow_23 ?_
  refine aw_iadd d_X_laysRow_24 ?_
  refine aw_top (x2 := nI 130) (by decide +kernel) ?_
  refine aw_iald (j := 130) km_1 (vp_in_nI (by decide) (by decide)) (nI_clamp (by decide)) d_X_laysRow_25 ?_
  refine aw_top (x2 := nI 0) (Eq.trans (congrFun (upd2_ne (by decide)) (130)) (g1 0 (by decide))) ?_
  refine aw_icmp_geI (tgt := 87) (0) (0) (by decide +kernel) (by decide +kernel) (by decide) d_X_laysRow_26 (fun _ => ?_) (fun q => absurd q (by decide))
  refine aw_iinc (v := nI 1) (lv2 := [.ref 0, .int (nI 1), .int (nI 0)]) rfl (by decide +kernel) (by decide) rfl d_X_laysRow_87 ?_
  refine aw_goto (tgt := 7) (by decide) d_X_laysRow_90 ?_
  refine aw_iload_n rfl rfl d_X_laysRow_7 ?_
  refine aw_bipush (v := nI 6) cb_6 d_X_laysRow_8 ?_
  refine aw_icmp_geI (tgt := 93) (1) (6) (by decide +kernel) (by decide +kernel) (by decide) d_X_laysRow_10 (fun q => absurd q (by decide)) (fun _ => ?_)
  refine aw_iconst (v := nI 0) ci_0 d_X_laysRow_13 ?_
  refine aw_istore_n (lv2 := [.ref 0, .int (nI 1), .int (nI 0)]) rfl (by decide) rfl d_X_laysRow_14 ?_
  refine aw_iload_n rfl rfl d_X_laysRow_15 ?_
  refine aw_aload_n rfl rfl d_X_laysRow_16 ?_
  refine aw_getr fl_X_7 km_0 (by decide) rfl rm_0_0 d_X_laysRow_17 ?_
  refine aw_sipush (v := nI 130) cs_130 d_X_laysRow_20 ?_
  refine aw_iload_n rfl rfl d_X_laysRow_23 ?_
  refine aw_iadd d_X_laysRow_24 ?_
  refine aw_top (x2 := nI 131) (by decide +kernel) ?_
  refine aw_iald (j := 131) km_1 (vp_in_nI (by decide) (by decide)) (nI_clamp (by decide)) d_X_laysRow_25 ?_
  refine aw_top (x2 := nI 0) (Eq.trans (congrFun (upd2_ne (by decide)) (131)) (g1 1 (by decide))) ?_
  refine aw_icmp_geI (tgt := 87) (0) (0) (by decide +kernel) (by decide +kernel) (by decide) d_X_laysRow_26 (fun _ => ?_) (fun q => absurd q (by decide))
  refine aw_iinc (v := nI 2) (lv2 := [.ref 0, .int (nI 2), .int (nI 0)]) rfl (by decide +kernel) (by decide) rfl d_X_laysRow_87 ?_
  refine aw_goto (tgt := 7) (by decide) d_X_laysRow_90 ?_
  refine aw_iload_n rfl rfl d_X_laysRow_7 ?_
  refine aw_bipush (v := nI 6) cb_6 d_X_laysRow_8 ?_
  refine aw_icmp_geI (tgt := 93) (2) (6) (by decide +kernel) (by decide +kernel) (by decide) d_X_laysRow_10 (fun q => absurd q (by decide)) (fun _ => ?_)
  refine aw_iconst (v := nI 0) ci_0 d_X_laysRow_13 ?_
  refine aw_istore_n (lv2 := [.ref 0, .int (nI 2), .int (nI 0)]) rfl (by decide) rfl d_X_laysRow_14 ?_
  refine aw_iload_n rfl rfl d_X_laysRow_15 ?_
  refine aw_aload_n rfl rfl d_X_laysRow_16 ?_
  refine aw_getr fl_X_7 km_0 (by decide) rfl rm_0_0 d_X_laysRow_17 ?_
  refine aw_sipush (v := nI 130) cs_130 d_X_laysRow_20 ?_
  refine aw_iload_n rfl rfl d_X_laysRow_23 ?_
  refine aw_iadd d_X_laysRow_24 ?_
  refine aw_top (x2 := nI 132) (by decide +kernel) ?_
  refine aw_iald (j := 132) km_1 (vp_in_nI (by decide) (by decide)) (nI_clamp (by decide)) d_X_laysRow_25 ?_
  refine aw_top (x2 := nI 0) (Eq.trans (congrFun (upd2_ne (by decide)) (132)) (g1 2 (by decide))) ?_
  refine aw_icmp_geI (tgt := 87) (0) (0) (by decide +kernel) (by decide +kernel) (by decide) d_X_laysRow_26 (fun _ => ?_) (fun q => absurd q (by decide))
  refine aw_iinc (v := nI 3) (lv2 := [.ref 0, .int (nI 3), .int (nI 0)]) rfl (by decide +kernel) (by decide) rfl d_X_laysRow_87 ?_
  refine aw_goto (tgt := 7) (by decide) d_X_laysRow_90 ?_
  refine aw_iload_n rfl rfl d_X_laysRow_7 ?_
  refine aw_bipush (v := nI 6) cb_6 d_X_laysRow_8 ?_
  refine aw_icmp_geI (tgt := 93) (3) (6) (by decide +kernel) (by decide +kernel) (by decide) d_X_laysRow_10 (fun q => absurd q (by decide)) (fun _ => ?_)
  refine aw_iconst (v := nI 0) ci_0 d_X_laysRow_13 ?_
  refine aw_istore_n (lv2 := [.ref 0, .int (nI 3), .int (nI 0)]) rfl (by decide) rfl d_X_laysRow_14 ?_
  refine aw_iload_n rfl rfl d_X_laysRow_15 ?_
  refine aw_aload_n rfl rfl d_X_laysRow_16 ?_
  refine aw_getr fl_X_7 km_0 (by decide) rfl rm_0_0 d_X_laysRow_17 ?_
  refine aw_sipush (v := nI 130) cs_130 d_X_laysRow_20 ?_
  refine aw_iload_n rfl rfl d_X_laysRow_23 ?_
  refine aw_iadd d_X_laysRow_24 ?_
  refine aw_top (x2 := nI 133) (by decide +kernel) ?_
  refine aw_iald (j := 133) km_1 (vp_in_nI (by decide) (by decide)) (nI_clamp (by decide)) d_X_laysRow_25 ?_
  refine aw_top (x2 := nI 0) (Eq.trans (congrFun (upd2_ne (by decide)) (133)) (g1 3 (by decide))) ?_
  refine aw_icmp_geI (tgt := 87) (0) (0) (by decide +kernel) (by decide +kernel) (by decide) d_X_laysRow_26 (fun _ => ?_) (fun q => absurd q (by decide))
  refine aw_iinc (v := nI 4) (lv2 := [.ref 0, .int (nI 4), .int (nI 0)]) rfl (by decide +kernel) (by decide) rfl d_X_laysRow_87 ?_
  refine aw_goto (tgt := 7) (by decide) d_X_laysRow_90 ?_
  refine aw_iload_n rfl rfl d_X_laysRow_7 ?_
  refine aw_bipush (v := nI 6) cb_6 d_X_laysRow_8 ?_
  refine aw_icmp_geI (tgt := 93) (4) (6) (by decide +kernel) (by decide +kernel) (by decide) d_X_laysRow_10 (fun q => absurd q (by decide)) (fun _ => ?_)
  refine aw_iconst (v := nI 0) ci_0 d_X_laysRow_13 ?_
  refine aw_istore_n (lv2 := [.ref 0, .int (nI 4), .int (nI 0)]) rfl (by decide) rfl d_X_laysRow_14 ?_
  refine aw_iload_n rfl rfl d_X_laysRow_15 ?_
  refine aw_aload_n rfl rfl d_X_laysRow_16 ?_
  refine aw_getr fl_X_7 km_0 (by decide) rfl rm_0_0 d_X_laysRow_17 ?_
  refine aw_sipush (v := nI 130) cs_130 d_X_laysRow_20 ?_
  refine aw_iload_n rfl rfl d_X_laysRow_23 ?_
  refine aw_iadd d_X_laysRow_24 ?_
  refine aw_top (x2 := nI 134) (by decide +kernel) ?_
  refine aw_iald (j := 134) km_1 (vp_in_nI (by decide) (by decide)) (nI_clamp (by decide)) d_X_laysRow_25 ?_
  refine aw_top (x2 := nI 0) (Eq.trans (congrFun (upd2_ne (by decide)) (134)) (g1 4 (by decide))) ?_
  refine aw_icmp_geI (tgt := 87) (0) (0) (by decide +kernel) (by decide +kernel) (by decide) d_X_laysRow_26 (fun _ => ?_) (fun q => absurd q (by decide))
  refine aw_iinc (v := nI 5) (lv2 := [.ref 0, .int (nI 5), .int (nI 0)]) rfl (by decide +kernel) (by decide) rfl d_X_laysRow_87 ?_
  refine aw_goto (tgt := 7) (by decide) d_X_laysRow_90 ?_
  refine aw_iload_n rfl rfl d_X_laysRow_7 ?_
  refine aw_bipush (v := nI 6) cb_6 d_X_laysRow_8 ?_
  refine aw_icmp_geI (tgt := 93) (5) (6) (by decide +kernel) (by decide +kernel) (by decide) d_X_laysRow_10 (fun q => absurd q (by decide)) (fun _ => ?_)
  refine aw_iconst (v := nI 0) ci_0 d_X_laysRow_13 ?_
  refine aw_istore_n (lv2 := [.ref 0, .int (nI 5), .int (nI 0)]) rfl (by decide) rfl d_X_laysRow_14 ?_
  refine aw_iload_n rfl rfl d_X_laysRow_15 ?_
  refine aw_aload_n rfl rfl d_X_laysRow_16 ?_
  refine aw_getr fl_X_7 km_0 (by decide) rfl rm_0_0 d_X_laysRow_17 ?_
  refine aw_sipush (v := nI 130) cs_130 d_X_laysRow_20 ?_
  refine aw_iload_n rfl rfl d_X_laysRow_23 ?_
  refine aw_iadd d_X_laysRow_24 ?_
  refine aw_top (x2 := nI 135) (by decide +kernel) ?_
  refine aw_iald (j := 135) km_1 (vp_in_nI (by decide) (by decide)) (nI_clamp (by decide)) d_X_laysRow_25 ?_
  refine aw_top (x2 := nI 0) (Eq.trans (congrFun (upd2_ne (by decide)) (135)) (g1 5 (by decide))) ?_
  refine aw_icmp_geI (tgt := 87) (0) (0) (by decide +kernel) (by decide +kernel) (by decide) d_X_laysRow_26 (fun _ => ?_) (fun q => absurd q (by decide))
  refine aw_iinc (v := nI 6) (lv2 := [.ref 0, .int (nI 6), .int (nI 0)]) rfl (by decide +kernel) (by decide) rfl d_X_laysRow_87 ?_
  refine aw_goto (tgt := 7) (by decide) d_X_laysRow_90 ?_
  refine aw_iload_n rfl rfl d_X_laysRow_7 ?_
  refine aw_bipush (v := nI 6) cb_6 d_X_laysRow_8 ?_
  refine aw_icmp_geI (tgt := 93) (6) (6) (by decide +kernel) (by decide +kernel) (by decide) d_X_laysRow_10 (fun _ => ?_) (fun q => absurd q (by decide))
  refine as_retv rfl d_X_laysRow_93 ?_
  refine (show As l b 5 y_X_reckons KM RM K2 (upd2 I 0 40 (nI 0)) 4 [.ref 0, uu, uu, uu, uu, uu] [] from ?_)
  refine aw_iconst (v := nI 0) ci_0 d_X_reckons_4 ?_
  refine aw_istore_n (lv2 := [.ref 0, .int (nI 0), uu, uu, uu, uu]) rfl (by decide) rfl d_X_reckons_5 ?_
  refine aw_iload_n rfl rfl d_X_reckons_6 ?_
  refine aw_bipush (v := nI 9) cb_9 d_X_reckons_7 ?_
  refine aw_icmp_geI (tgt := 56) (0) (9) (by decide +kernel) (by decide +kernel) (by decide) d_X_reckons_9 (fun q => absurd q (by decide)) (fun _ => ?_)
  refine aw_iconst (v := nI 0) ci_0 d_X_reckons_12 ?_
  refine aw_istore_n (lv2 := [.ref 0, .int (nI 0), .int (nI 0), uu, uu, uu]) rfl (by decide) rfl d_X_reckons_13 ?_
  refine aw_iload_n rfl rfl d_X_reckons_14 ?_
  refine aw_iconst (v := nI 4) ci_4 d_X_reckons_15 ?_
  refine aw_icmp_geI (tgt := 50) (0) (4) (by decide +kernel) (by decide +kernel) (by decide) d_X_reckons_16 (fun q => absurd q (by decide)) (fun _ => ?_)
  refine aw_aload_n rfl rfl d_X_reckons_19 ?_
  refine aw_getr fl_X_69 km_0 (by decide) rfl rm_0_39 d_X_reckons_20 ?_
  refine aw_aload_n rfl rfl d_X_reckons_23 ?_
  refine aw_geti fl_X_347 km_0 (by decide) rfl d_X_reckons_24 ?_
  refine aw_top (x2 := nI 0) (upd2_eq) ?_
  refine aw_iload_n rfl rfl d_X_reckons_27 ?_
  refine aw_iload_n rfl rfl d_X_reckons_28 ?_
  refine as_callS (as := [.int (nI 0), .int (nI 0), .int (nI 0)]) (d' := 4) mo_X_spot lk_X_353 rfl ⟨by decide, by decide⟩ rfl rfl (by decide) d_X_reckons_29 (Ss.of (show As l b 4 y_X_spot KM RM _ (upd2 I 0 40 (nI 0)) 0 [.int (nI 0), .int (nI 0), .int (nI 0)] [] from ?_))
  refine aw_bipush (v := nI 36) cb_36 d_X_spot_0 ?_
  refine aw_iload_n rfl rfl d_X_spot_2 ?_
  refine aw_imul d_X_spot_3 ?_
  refine aw_top (x2 := nI 0) (by decide +kernel) ?_
  refine aw_iconst (v := nI 4) ci_4 d_X_spot_4 ?_
  refine aw_iload_n rfl rfl d_X_spot_5 ?_
  refine aw_imul d_X_spot_6 ?_
  refine aw_top (x2 := nI 0) (by decide +kernel) ?_
  refine aw_iadd d_X_spot_7 ?_
  refine aw_top (x2 := nI 0) (by decide +kernel) ?_
  refine aw_iload_n rfl rfl d_X_spot_8 ?_
  refine aw_iadd d_X_spot_9 ?_
  refine aw_top (x2 := nI 0) (by decide +kernel) ?_
  refine as_reti rfl d_X_spot_10 ?_
  refine (show As l b 5 y_X_reckons KM RM K2 (upd2 I 0 40 (nI 0)) 32 [.ref 0, .int (nI 0), .int (nI 0), uu, uu, uu] [.int (nI 0), .ref 17] from ?_)
  refine aw_iload_n rfl rfl d_X_reckons_32 ?_
  refine aw_iconst (v := nI 1) ci_1 d_X_reckons_33 ?_
  refine aw_icmp_neI (tgt := 42) (0) (1) (by decide +kernel) (by decide +kernel) (by decide) d_X_reckons_34 (fun _ => ?_) (fun q => absurd q (by decide))
  refine aw_iconst (v := nI 0) ci_0 d_X_reckons_42 ?_
  refine aw_iast (j := 0) km_17 (vp_in_nI (by decide) (by decide)) (nI_clamp (by decide)) d_X_reckons_43 ?_
  refine aw_iinc (v := nI 1) (lv2 := [.ref 0, .int (nI 0), .int (nI 1), uu, uu, uu]) rfl (by decide +kernel) (by decide) rfl d_X_reckons_44 ?_
  refine aw_goto (tgt := 14) (by decide) d_X_reckons_47 ?_
  refine aw_iload_n rfl rfl d_X_reckons_14 ?_
  refine aw_iconst (v := nI 4) ci_4 d_X_reckons_15 ?_
  refine aw_icmp_geI (tgt := 50) (1) (4) (by decide +kernel) (by decide +kernel) (by decide) d_X_reckons_16 (fun q => absurd q (by decide)) (fun _ => ?_)
  refine aw_aload_n rfl rfl d_X_reckons_19 ?_
  refine aw_getr fl_X_69 km_0 (by decide) rfl rm_0_39 d_X_reckons_20 ?_
  refine aw_aload_n rfl rfl d_X_reckons_23 ?_
  refine aw_geti fl_X_347 km_0 (by decide) rfl d_X_reckons_24 ?_
  refine aw_top (x2 := nI 0) (Eq.trans (congrFun (upd2_ne (by decide)) (40)) (upd2_eq)) ?_
  refine aw_iload_n rfl rfl d_X_reckons_27 ?_
  refine aw_iload_n rfl rfl d_X_reckons_28 ?_
  refine as_callS (as := [.int (nI 0), .int (nI 0), .int (nI 1)]) (d' := 4) mo_X_spot lk_X_353 rfl ⟨by decide, by decide⟩ rfl rfl (by decide) d_X_reckons_29 (Ss.of (show As l b 4 y_X_spot KM RM _ (upd2 (upd2 I 0 40 (nI 0)) 17 (0) (nI 0)) 0 [.int (nI 0), .int (nI 0), .int (nI 1)] [] from ?_))
  refine aw_bipush (v := nI 36) cb_36 d_X_spot_0 ?_
  refine aw_iload_n rfl rfl d_X_spot_2 ?_
  refine aw_imul d_X_spot_3 ?_
  refine aw_top (x2 := nI 0) (by decide +kernel) ?_
  refine aw_iconst (v := nI 4) ci_4 d_X_spot_4 ?_
  refine aw_iload_n rfl rfl d_X_spot_5 ?_
  refine aw_imul d_X_spot_6 ?_
  refine aw_top (x2 := nI 0) (by decide +kernel) ?_
  refine aw_iadd d_X_spot_7 ?_
  refine aw_top (x2 := nI 0) (by decide +kernel) ?_
  refine aw_iload_n rfl rfl d_X_spot_8 ?_
  refine aw_iadd d_X_spot_9 ?_
  refine aw_top (x2 := nI 1) (by decide +kernel) ?_
  refine as_reti rfl d_X_spot_10 ?_
  refine (show As l b 5 y_X_reckons KM RM K2 (upd2 (upd2 I 0 40 (nI 0)) 17 (0) (nI 0)) 32 [.ref 0, .int (nI 0), .int (nI 1), uu, uu, uu] [.int (nI 1), .ref 17] from ?_)
  refine aw_iload_n rfl rfl d_X_reckons_32 ?_
  refine aw_iconst (v := nI 1) ci_1 d_X_reckons_33 ?_
  refine aw_icmp_neI (tgt := 42) (1) (1) (by decide +kernel) (by decide +kernel) (by decide) d_X_reckons_34 (fun q => absurd q (by decide)) (fun _ => ?_)
  refine aw_bipush (v := (-99 : Int32)) rfl d_X_reckons_37 ?_
  refine aw_goto (tgt := 43) (by decide) d_X_reckons_39 ?_
  refine aw_iast (j := 1) km_17 (vp_in_nI (by decide) (by decide)) (nI_clamp (by decide)) d_X_reckons_43 ?_
  refine aw_iinc (v := nI 2) (lv2 := [.ref 0, .int (nI 0), .int (nI 2), uu, uu, uu]) rfl (by decide +kernel) (by decide) rfl d_X_reckons_44 ?_
  refine aw_goto (tgt := 14) (by decide) d_X_reckons_47 ?_
  refine aw_iload_n rfl rfl d_X_reckons_14 ?_
  refine aw_iconst (v := nI 4) ci_4 d_X_reckons_15 ?_
  refine aw_icmp_geI (tgt := 50) (2) (4) (by decide +kernel) (by decide +kernel) (by decide) d_X_reckons_16 (fun q => absurd q (by decide)) (fun _ => ?_)
  refine aw_aload_n rfl rfl d_X_reckons_19 ?_
  refine aw_getr fl_X_69 km_0 (by decide) rfl rm_0_39 d_X_reckons_20 ?_
  refine aw_aload_n rfl rfl d_X_reckons_23 ?_
  refine aw_geti fl_X_347 km_0 (by decide) rfl d_X_reckons_24 ?_
  refine aw_top (x2 := nI 0) (Eq.trans (congrFun (upd2_ne (by decide)) (40)) (Eq.trans (congrFun (upd2_ne (by decide)) (40)) (upd2_eq))) ?_
  refine aw_iload_n rfl rfl d_X_reckons_27 ?_
  refine aw_iload_n rfl rfl d_X_reckons_28 ?_
  refine as_callS (as := [.int (nI 0), .int (nI 0), .int (nI 2)]) (d' := 4) mo_X_spot lk_X_353 rfl ⟨by decide, by decide⟩ rfl rfl (by decide) d_X_reckons_29 (Ss.of (show As l b 4 y_X_spot KM RM _ (upd2 (upd2 (upd2 I 0 40 (nI 0)) 17 (0) (nI 0)) 17 (1) ((-99 : Int32))) 0 [.int (nI 0), .int (nI 0), .int (nI 2)] [] from ?_))
  refine aw_bipush (v := nI 36) cb_36 d_X_spot_0 ?_
  refine aw_iload_n rfl rfl d_X_spot_2 ?_
  refine aw_imul d_X_spot_3 ?_
  refine aw_top (x2 := nI 0) (by decide +kernel) ?_
  refine aw_iconst (v := nI 4) ci_4 d_X_spot_4 ?_
  refine aw_iload_n rfl rfl d_X_spot_5 ?_
  refine aw_imul d_X_spot_6 ?_
  refine aw_top (x2 := nI 0) (by decide +kernel) ?_
  refine aw_iadd d_X_spot_7 ?_
  refine aw_top (x2 := nI 0) (by decide +kernel) ?_
  refine aw_iload_n rfl rfl d_X_spot_8 ?_
  refine aw_iadd d_X_spot_9 ?_
  refine aw_top (x2 := nI 2) (by decide +kernel) ?_
  refine as_reti rfl d_X_spot_10 ?_
  refine (show As l b 5 y_X_reckons KM RM K2 (upd2 (upd2 (upd2 I 0 40 (nI 0)) 17 (0) (nI 0)) 17 (1) ((-99 : Int32))) 32 [.ref 0, .int (nI 0), .int (nI 2), uu, uu, uu] [.int (nI 2), .ref 17] from ?_)
  refine aw_iload_n rfl rfl d_X_reckons_32 ?_
  refine aw_iconst (v := nI 1) ci_1 d_X_reckons_33 ?_
  refine aw_icmp_neI (tgt := 42) (2) (1) (by decide +kernel) (by decide +kernel) (by decide) d_X_reckons_34 (fun _ => ?_) (fun q => absurd q (by decide))
  refine aw_iconst (v := nI 0) ci_0 d_X_reckons_42 ?_
  refine aw_iast (j := 2) km_17 (vp_in_nI (by decide) (by decide)) (nI_clamp (by decide)) d_X_reckons_43 ?_
  refine aw_iinc (v := nI 3) (lv2 := [.ref 0, .int (nI 0), .int (nI 3), uu, uu, uu]) rfl (by decide +kernel) (by decide) rfl d_X_reckons_44 ?_
  refine aw_goto (tgt := 14) (by decide) d_X_reckons_47 ?_
  refine aw_iload_n rfl rfl d_X_reckons_14 ?_
  refine aw_iconst (v := nI 4) ci_4 d_X_reckons_15 ?_
  refine aw_icmp_geI (tgt := 50) (3) (4) (by decide +kernel) (by decide +kernel) (by decide) d_X_reckons_16 (fun q => absurd q (by decide)) (fun _ => ?_)
  refine aw_aload_n rfl rfl d_X_reckons_19 ?_
  refine aw_getr fl_X_69 km_0 (by decide) rfl rm_0_39 d_X_reckons_20 ?_
  refine aw_aload_n rfl rfl d_X_reckons_23 ?_
  refine aw_geti fl_X_347 km_0 (by decide) rfl d_X_reckons_24 ?_
  refine aw_top (x2 := nI 0) (Eq.trans (congrFun (upd2_ne (by decide)) (40)) (Eq.trans (congrFun (upd2_ne (by decide)) (40)) (Eq.trans (congrFun (upd2_ne (by decide)) (40)) (upd2_eq)))) ?_
  refine aw_iload_n rfl rfl d_X_reckons_27 ?_
  refine aw_iload_n rfl rfl d_X_reckons_28 ?_
  refine as_callS (as := [.int (nI 0), .int (nI 0), .int (nI 3)]) (d' := 4) mo_X_spot lk_X_353 rfl ⟨by decide, by decide⟩ rfl rfl (by decide) d_X_reckons_29 (Ss.of (show As l b 4 y_X_spot KM RM _ (upd2 (upd2 (upd2 (upd2 I 0 40 (nI 0)) 17 (0) (nI 0)) 17 (1) ((-99 : Int32))) 17 (2) (nI 0)) 0 [.int (nI 0), .int (nI 0), .int (nI 3)] [] from ?_))
  refine aw_bipush (v := nI 36) cb_36 d_X_spot_0 ?_
  refine aw_iload_n rfl rfl d_X_spot_2 ?_
  refine aw_imul d_X_spot_3 ?_
  refine aw_top (x2 := nI 0) (by decide +kernel) ?_
  refine aw_iconst (v := nI 4) ci_4 d_X_spot_4 ?_
  refine aw_iload_n rfl rfl d_X_spot_5 ?_
  refine aw_imul d_X_spot_6 ?_
  refine aw_top (x2 := nI 0) (by decide +kernel) ?_
  refine aw_iadd d_X_spot_7 ?_
  refine aw_top (x2 := nI 0) (by decide +kernel) ?_
  refine aw_iload_n rfl rfl d_X_spot_8 ?_
  refine aw_iadd d_X_spot_9 ?_
  refine aw_top (x2 := nI 3) (by decide +kernel) ?_
  refine as_reti rfl d_X_spot_10 ?_
  refine (show As l b 5 y_X_reckons KM RM K2 (upd2 (upd2 (upd2 (upd2 I 0 40 (nI 0)) 17 (0) (nI 0)) 17 (1) ((-99 : Int32))) 17 (2) (nI 0)) 32 [.ref 0, .int (nI 0), .int (nI 3), uu, uu, uu] [.int (nI 3), .ref 17] from ?_)
  refine aw_iload_n rfl rfl d_X_reckons_32 ?_
  refine aw_iconst (v := nI 1) ci_1 d_X_reckons_33 ?_
  refine aw_icmp_neI (tgt := 42) (3) (1) (by decide +kernel) (by decide +kernel) (by decide) d_X_reckons_34 (fun _ => ?_) (fun q => absurd q (by decide))
  refine aw_iconst (v := nI 0) ci_0 d_X_reckons_42 ?_
  refine aw_iast (j := 3) km_17 (vp_in_nI (by decide) (by decide)) (nI_clamp (by decide)) d_X_reckons_43 ?_
  refine aw_iinc (v := nI 4) (lv2 := [.ref 0, .int (nI 0), .int (nI 4), uu, uu, uu]) rfl (by decide +kernel) (by decide) rfl d_X_reckons_44 ?_
  refine aw_goto (tgt := 14) (by decide) d_X_reckons_47 ?_
  refine aw_iload_n rfl rfl d_X_reckons_14 ?_
  refine aw_iconst (v := nI 4) ci_4 d_X_reckons_15 ?_
  refine aw_icmp_geI (tgt := 50) (4) (4) (by decide +kernel) (by decide +kernel) (by decide) d_X_reckons_16 (fun _ => ?_) (fun q => absurd q (by decide))
  refine aw_iinc (v := nI 1) (lv2 := [.ref 0, .int (nI 1), .int (nI 4), uu, uu, uu]) rfl (by decide +kernel) (by decide) rfl d_X_reckons_50 ?_
  refine aw_goto (tgt := 6) (by decide) d_X_reckons_53 ?_
  refine aw_iload_n rfl rfl d_X_reckons_6 ?_
  refine aw_bipush (v := nI 9) cb_9 d_X_reckons_7 ?_
  refine aw_icmp_geI (tgt := 56) (1) (9) (by decide +kernel) (by decide +kernel) (by decide) d_X_reckons_9 (fun q => absurd q (by decide)) (fun _ => ?_)
  refine aw_iconst (v := nI 0) ci_0 d_X_reckons_12 ?_
  refine aw_istore_n (lv2 := [.ref 0, .int (nI 1), .int (nI 0), uu, uu, uu]) rfl (by decide) rfl d_X_reckons_13 ?_
  refine aw_iload_n rfl rfl d_X_reckons_14 ?_
  refine aw_iconst (v := nI 4) ci_4 d_X_reckons_15 ?_
  refine aw_icmp_geI (tgt := 50) (0) (4) (by decide +kernel) (by decide +kernel) (by decide) d_X_reckons_16 (fun q => absurd q (by decide)) (fun _ => ?_)
  refine aw_aload_n rfl rfl d_X_reckons_19 ?_
  refine aw_getr fl_X_69 km_0 (by decide) rfl rm_0_39 d_X_reckons_20 ?_
  refine aw_aload_n rfl rfl d_X_reckons_23 ?_
  refine aw_geti fl_X_347 km_0 (by decide) rfl d_X_reckons_24 ?_
  refine aw_top (x2 := nI 0) (Eq.trans (congrFun (upd2_ne (by decide)) (40)) (Eq.trans (congrFun (upd2_ne (by decide)) (40)) (Eq.trans (congrFun (upd2_ne (by decide)) (40)) (Eq.trans (congrFun (upd2_ne (by decide)) (40)) (upd2_eq))))) ?_
  refine aw_iload_n rfl rfl d_X_reckons_27 ?_
  refine aw_iload_n rfl rfl d_X_reckons_28 ?_
  refine as_callS (as := [.int (nI 0), .int (nI 1), .int (nI 0)]) (d' := 4) mo_X_spot lk_X_353 rfl ⟨by decide, by decide⟩ rfl rfl (by decide) d_X_reckons_29 (Ss.of (show As l b 4 y_X_spot KM RM _ (upd2 (upd2 (upd2 (upd2 (upd2 I 0 40 (nI 0)) 17 (0) (nI 0)) 17 (1) ((-99 : Int32))) 17 (2) (nI 0)) 17 (3) (nI 0)) 0 [.int (nI 0), .int (nI 1), .int (nI 0)] [] from ?_))
  refine aw_bipush (v := nI 36) cb_36 d_X_spot_0 ?_
  refine aw_iload_n rfl rfl d_X_spot_2 ?_
  refine aw_imul d_X_spot_3 ?_
  refine aw_top (x2 := nI 0) (by decide +kernel) ?_
  refine aw_iconst (v := nI 4) ci_4 d_X_spot_4 ?_
  refine aw_iload_n rfl rfl d_X_spot_5 ?_
  refine aw_imul d_X_spot_6 ?_
  refine aw_top (x2 := nI 4) (by decide +kernel) ?_
  refine aw_iadd d_X_spot_7 ?_
  refine aw_top (x2 := nI 4) (by decide +kernel) ?_
  refine aw_iload_n rfl rfl d_X_spot_8 ?_
  refine aw_iadd d_X_spot_9 ?_
  refine aw_top (x2 := nI 4) (by decide +kernel) ?_
  refine as_reti rfl d_X_spot_10 ?_
  refine (show As l b 5 y_X_reckons KM RM K2 (upd2 (upd2 (upd2 (upd2 (upd2 I 0 40 (nI 0)) 17 (0) (nI 0)) 17 (1) ((-99 : Int32))) 17 (2) (nI 0)) 17 (3) (nI 0)) 32 [.ref 0, .int (nI 1), .int (nI 0), uu, uu, uu] [.int (nI 4), .ref 17] from ?_)
  refine aw_iload_n rfl rfl d_X_reckons_32 ?_
  refine aw_iconst (v := nI 1) ci_1 d_X_reckons_33 ?_
  refine aw_icmp_neI (tgt := 42) (0) (1) (by decide +kernel) (by decide +kernel) (by decide) d_X_reckons_34 (fun _ => ?_) (fun q => absurd q (by decide))
  refine aw_iconst (v := nI 0) ci_0 d_X_reckons_42 ?_
  refine aw_iast (j := 4) km_17 (vp_in_nI (by decide) (by decide)) (nI_clamp (by decide)) d_X_reckons_43 ?_
  refine aw_iinc (v := nI 1) (lv2 := [.ref 0, .int (nI 1), .int (nI 1), uu, uu, uu]) rfl (by decide +kernel) (by decide) rfl d_X_reckons_44 ?_
  refine aw_goto (tgt := 14) (by decide) d_X_reckons_47 ?_
  refine aw_iload_n rfl rfl d_X_reckons_14 ?_
  refine aw_iconst (v := nI 4) ci_4 d_X_reckons_15 ?_
  refine aw_icmp_geI (tgt := 50) (1) (4) (by decide +kernel) (by decide +kernel) (by decide) d_X_reckons_16 (fun q => absurd q (by decide)) (fun _ => ?_)
  refine aw_aload_n rfl rfl d_X_reckons_19 ?_
  refine aw_getr fl_X_69 km_0 (by decide) rfl rm_0_39 d_X_reckons_20 ?_
  refine aw_aload_n rfl rfl d_X_reckons_23 ?_
  refine aw_geti fl_X_347 km_0 (by decide) rfl d_X_reckons_24 ?_
  refine aw_top (x2 := nI 0) (Eq.trans (congrFun (upd2_ne (by decide)) (40)) (Eq.trans (congrFun (upd2_ne (by decide)) (40)) (Eq.trans (congrFun (upd2_ne (by decide)) (40)) (Eq.trans (congrFun (upd2_ne (by decide)) (40)) (Eq.trans (congrFun (upd2_ne (by decide)) (40)) (upd2_eq)))))) ?_
  refine aw_iload_n rfl rfl d_X_reckons_27 ?_
  refine aw_iload_n rfl rfl d_X_reckons_28 ?_
  refine as_callS (as := [.int (nI 0), .int (nI 1), .int (nI 1)]) (d' := 4) mo_X_spot lk_X_353 rfl ⟨by decide, by decide⟩ rfl rfl (by decide) d_X_reckons_29 (Ss.of (show As l b 4 y_X_spot KM RM _ (upd2 (upd2 (upd2 (upd2 (upd2 (upd2 I 0 40 (nI 0)) 17 (0) (nI 0)) 17 (1) ((-99 : Int32))) 17 (2) (nI 0)) 17 (3) (nI 0)) 17 (4) (nI 0)) 0 [.int (nI 0), .int (nI 1), .int (nI 1)] [] from ?_))
  refine aw_bipush (v := nI 36) cb_36 d_X_spot_0 ?_
  refine aw_iload_n rfl rfl d_X_spot_2 ?_
  refine aw_imul d_X_spot_3 ?_
  refine aw_top (x2 := nI 0) (by decide +kernel) ?_
  refine aw_iconst (v := nI 4) ci_4 d_X_spot_4 ?_
  refine aw_iload_n rfl rfl d_X_spot_5 ?_
  refine aw_imul d_X_spot_6 ?_
  refine aw_top (x2 := nI 4) (by decide +kernel) ?_
  refine aw_iadd d_X_spot_7 ?_
  refine aw_top (x2 := nI 4) (by decide +kernel) ?_
  refine aw_iload_n rfl rfl d_X_spot_8 ?_
  refine aw_iadd d_X_spot_9 ?_
  refine aw_top (x2 := nI 5) (by decide +kernel) ?_
  refine as_reti rfl d_X_spot_10 ?_
  refine (show As l b 5 y_X_reckons KM RM K2 (upd2 (upd2 (upd2 (upd2 (upd2 (upd2 I 0 40 (nI 0)) 17 (0) (nI 0)) 17 (1) ((-99 : Int32))) 17 (2) (nI 0)) 17 (3) (nI 0)) 17 (4) (nI 0)) 32 [.ref 0, .int (nI 1), .int (nI 1), uu, uu, uu] [.int (nI 5), .ref 17] from ?_)
  refine aw_iload_n rfl rfl d_X_reckons_32 ?_
  refine aw_iconst (v := nI 1) ci_1 d_X_reckons_33 ?_
  refine aw_icmp_neI (tgt := 42) (1) (1) (by decide +kernel) (by decide +kernel) (by decide) d_X_reckons_34 (fun q => absurd q (by decide)) (fun _ => ?_)
  refine aw_bipush (v := (-99 : Int32)) rfl d_X_reckons_37 ?_
  refine aw_goto (tgt := 43) (by decide) d_X_reckons_39 ?_
  refine aw_iast (j := 5) km_17 (vp_in_nI (by decide) (by decide)) (nI_clamp (by decide)) d_X_reckons_43 ?_
  refine aw_iinc (v := nI 2) (lv2 := [.ref 0, .int (nI 1), .int (nI 2), uu, uu, uu]) rfl (by decide +kernel) (by decide) rfl d_X_reckons_44 ?_
  refine aw_goto (tgt := 14) (by decide) d_X_reckons_47 ?_
  refine aw_iload_n rfl rfl d_X_reckons_14 ?_
  refine aw_iconst (v := nI 4) ci_4 d_X_reckons_15 ?_
  refine aw_icmp_geI (tgt := 50) (2) (4) (by decide +kernel) (by decide +kernel) (by decide) d_X_reckons_16 (fun q => absurd q (by decide)) (fun _ => ?_)
  refine aw_aload_n rfl rfl d_X_reckons_19 ?_
  refine aw_getr fl_X_69 km_0 (by decide) rfl rm_0_39 d_X_reckons_20 ?_
  refine aw_aload_n rfl rfl d_X_reckons_23 ?_
  refine aw_geti fl_X_347 km_0 (by decide) rfl d_X_reckons_24 ?_
  refine aw_top (x2 := nI 0) (Eq.trans (congrFun (upd2_ne (by decide)) (40)) (Eq.trans (congrFun (upd2_ne (by decide)) (40)) (Eq.trans (congrFun (upd2_ne (by decide)) (40)) (Eq.trans (congrFun (upd2_ne (by decide)) (40)) (Eq.trans (congrFun (upd2_ne (by decide)) (40)) (Eq.trans (congrFun (upd2_ne (by decide)) (40)) (upd2_eq))))))) ?_
  refine aw_iload_n rfl rfl d_X_reckons_27 ?_
  refine aw_iload_n rfl rfl d_X_reckons_28 ?_
  refine as_callS (as := [.int (nI 0), .int (nI 1), .int (nI 2)]) (d' := 4) mo_X_spot lk_X_353 rfl ⟨by decide, by decide⟩ rfl rfl (by decide) d_X_reckons_29 (Ss.of (show As l b 4 y_X_spot KM RM _ (upd2 (upd2 (upd2 (upd2 (upd2 (upd2 (upd2 I 0 40 (nI 0)) 17 (0) (nI 0)) 17 (1) ((-99 : Int32))) 17 (2) (nI 0)) 17 (3) (nI 0)) 17 (4) (nI 0)) 17 (5) ((-99 : Int32))) 0 [.int (nI 0), .int (nI 1), .int (nI 2)] [] from ?_))
  refine aw_bipush (v := nI 36) cb_36 d_X_spot_0 ?_
  refine aw_iload_n rfl rfl d_X_spot_2 ?_
  refine aw_imul d_X_spot_3 ?_
  refine aw_top (x2 := nI 0) (by decide +kernel) ?_
  refine aw_iconst (v := nI 4) ci_4 d_X_spot_4 ?_
  refine aw_iload_n rfl rfl d_X_spot_5 ?_
  refine aw_imul d_X_spot_6 ?_
  refine aw_top (x2 := nI 4) (by decide +kernel) ?_
  refine aw_iadd d_X_spot_7 ?_
  refine aw_top (x2 := nI 4) (by decide +kernel) ?_
  refine aw_iload_n rfl rfl d_X_spot_8 ?_
  refine aw_iadd d_X_spot_9 ?_
  refine aw_top (x2 := nI 6) (by decide +kernel) ?_
  refine as_reti rfl d_X_spot_10 ?_
  refine (show As l b 5 y_X_reckons KM RM K2 (upd2 (upd2 (upd2 (upd2 (upd2 (upd2 (upd2 I 0 40 (nI 0)) 17 (0) (nI 0)) 17 (1) ((-99 : Int32))) 17 (2) (nI 0)) 17 (3) (nI 0)) 17 (4) (nI 0)) 17 (5) ((-99 : Int32))) 32 [.ref 0, .int (nI 1), .int (nI 2), uu, uu, uu] [.int (nI 6), .ref 17] from ?_)
  refine aw_iload_n rfl rfl d_X_reckons_32 ?_
  refine aw_iconst (v := nI 1) ci_1 d_X_reckons_33 ?_
  refine aw_icmp_neI (tgt := 42) (2) (1) (by decide +kernel) (by decide +kernel) (by decide) d_X_reckons_34 (fun _ => ?_) (fun q => absurd q (by decide))
  refine aw_iconst (v := nI 0) ci_0 d_X_reckons_42 ?_
  refine aw_iast (j := 6) km_17 (vp_in_nI (by decide) (by decide)) (nI_clamp (by decide)) d_X_reckons_43 ?_
  refine aw_iinc (v := nI 3) (lv2 := [.ref 0, .int (nI 1), .int (nI 3), uu, uu, uu]) rfl (by decide +kernel) (by decide) rfl d_X_reckons_44 ?_
  refine aw_goto (tgt := 14) (by decide) d_X_reckons_47 ?_
  refine aw_iload_n rfl rfl d_X_reckons_14 ?_
  refine aw_iconst (v := nI 4) ci_4 d_X_reckons_15 ?_
  refine aw_icmp_geI (tgt := 50) (3) (4) (by decide +kernel) (by decide +kernel) (by decide) d_X_reckons_16 (fun q => absurd q (by decide)) (fun _ => ?_)
  refine aw_aload_n rfl rfl d_X_reckons_19 ?_
  refine aw_getr fl_X_69 km_0 (by decide) rfl rm_0_39 d_X_reckons_20 ?_
  refine aw_aload_n rfl rfl d_X_reckons_23 ?_
  refine aw_geti fl_X_347 km_0 (by decide) rfl d_X_reckons_24 ?_
  refine aw_top (x2 := nI 0) (Eq.trans (congrFun (upd2_ne (by decide)) (40)) (Eq.trans (congrFun (upd2_ne (by decide)) (40)) (Eq.trans (congrFun (upd2_ne (by decide)) (40)) (Eq.trans (congrFun (upd2_ne (by decide)) (40)) (Eq.trans (congrFun (upd2_ne (by decide)) (40)) (Eq.trans (congrFun (upd2_ne (by decide)) (40)) (Eq.trans (congrFun (upd2_ne (by decide)) (40)) (upd2_eq)))))))) ?_
  refine aw_iload_n rfl rfl d_X_reckons_27 ?_
  refine aw_iload_n rfl rfl d_X_reckons_28 ?_
  refine as_callS (as := [.int (nI 0), .int (nI 1), .int (nI 3)]) (d' := 4) mo_X_spot lk_X_353 rfl ⟨by decide, by decide⟩ rfl rfl (by decide) d_X_reckons_29 (Ss.of (show As l b 4 y_X_spot KM RM _ (upd2 (upd2 (upd2 (upd2 (upd2 (upd2 (upd2 (upd2 I 0 40 (nI 0)) 17 (0) (nI 0)) 17 (1) ((-99 : Int32))) 17 (2) (nI 0)) 17 (3) (nI 0)) 17 (4) (nI 0)) 17 (5) ((-99 : Int32))) 17 (6) (nI 0)) 0 [.int (nI 0), .int (nI 1), .int (nI 3)] [] from ?_))
  refine aw_bipush (v := nI 36) cb_36 d_X_spot_0 ?_
  refine aw_iload_n rfl rfl d_X_spot_2 ?_
  refine aw_imul d_X_spot_3 ?_
  refine aw_top (x2 := nI 0) (by decide +kernel) ?_
  refine aw_iconst (v := nI 4) ci_4 d_X_spot_4 ?_
  refine aw_iload_n rfl rfl d_X_spot_5 ?_
  refine aw_imul d_X_spot_6 ?_
  refine aw_top (x2 := nI 4) (by decide +kernel) ?_
  refine aw_iadd d_X_spot_7 ?_
  refine aw_top (x2 := nI 4) (by decide +kernel) ?_
  refine aw_iload_n rfl rfl d_X_spot_8 ?_
  refine aw_iadd d_X_spot_9 ?_
  refine aw_top (x2 := nI 7) (by decide +kernel) ?_
  refine as_reti rfl d_X_spot_10 ?_
  refine (show As l b 5 y_X_reckons KM RM K2 (upd2 (upd2 (upd2 (upd2 (upd2 (upd2 (upd2 (upd2 I 0 40 (nI 0)) 17 (0) (nI 0)) 17 (1) ((-99 : Int32))) 17 (2) (nI 0)) 17 (3) (nI 0)) 17 (4) (nI 0)) 17 (5) ((-99 : Int32))) 17 (6) (nI 0)) 32 [.ref 0, .int (nI 1), .int (nI 3), uu, uu, uu] [.int (nI 7), .ref 17] from ?_)
  refine aw_iload_n rfl rfl d_X_reckons_32 ?_
  refine aw_iconst (v := nI 1) ci_1 d_X_reckons_33 ?_
  refine aw_icmp_neI (tgt := 42) (3) (1) (by decide +kernel) (by decide +kernel) (by decide) d_X_reckons_34 (fun _ => ?_) (fun q => absurd q (by decide))
  refine aw_iconst (v := nI 0) ci_0 d_X_reckons_42 ?_
  refine aw_iast (j := 7) km_17 (vp_in_nI (by decide) (by decide)) (nI_clamp (by decide)) d_X_reckons_43 ?_
  refine aw_iinc (v := nI 4) (lv2 := [.ref 0, .int (nI 1), .int (nI 4), uu, uu, uu]) rfl (by decide +kernel) (by decide) rfl d_X_reckons_44 ?_
  refine aw_goto (tgt := 14) (by decide) d_X_reckons_47 ?_
  refine aw_iload_n rfl rfl d_X_reckons_14 ?_
  refine aw_iconst (v := nI 4) ci_4 d_X_reckons_15 ?_
  refine aw_icmp_geI (tgt := 50) (4) (4) (by decide +kernel) (by decide +kernel) (by decide) d_X_reckons_16 (fun _ => ?_) (fun q => absurd q (by decide))
  refine aw_iinc (v := nI 2) (lv2 := [.ref 0, .int (nI 2), .int (nI 4), uu, uu, uu]) rfl (by decide +kernel) (by decide) rfl d_X_reckons_50 ?_
  refine aw_goto (tgt := 6) (by decide) d_X_reckons_53 ?_
  refine aw_iload_n rfl rfl d_X_reckons_6 ?_
  refine aw_bipush (v := nI 9) cb_9 d_X_reckons_7 ?_
  refine aw_icmp_geI (tgt := 56) (2) (9) (by decide +kernel) (by decide +kernel) (by decide) d_X_reckons_9 (fun q => absurd q (by decide)) (fun _ => ?_)
  refine aw_iconst (v := nI 0) ci_0 d_X_reckons_12 ?_
  refine aw_istore_n (lv2 := [.ref 0, .int (nI 2), .int (nI 0), uu, uu, uu]) rfl (by decide) rfl d_X_reckons_13 ?_
  refine aw_iload_n rfl rfl d_X_reckons_14 ?_
  refine aw_iconst (v := nI 4) ci_4 d_X_reckons_15 ?_
  refine aw_icmp_geI (tgt := 50) (0) (4) (by decide +kernel) (by decide +kernel) (by decide) d_X_reckons_16 (fun q => absurd q (by decide)) (fun _ => ?_)
  refine aw_aload_n rfl rfl d_X_reckons_19 ?_
  refine aw_getr fl_X_69 km_0 (by decide) rfl rm_0_39 d_X_reckons_20 ?_
  refine aw_aload_n rfl rfl d_X_reckons_23 ?_
  refine aw_geti fl_X_347 km_0 (by decide) rfl d_X_reckons_24 ?_
  refine aw_top (x2 := nI 0) (Eq.trans (congrFun (upd2_ne (by decide)) (40)) (Eq.trans (congrFun (upd2_ne (by decide)) (40)) (Eq.trans (congrFun (upd2_ne (by decide)) (40)) (Eq.trans (congrFun (upd2_ne (by decide)) (40)) (Eq.trans (congrFun (upd2_ne (by decide)) (40)) (Eq.trans (congrFun (upd2_ne (by decide)) (40)) (Eq.trans (congrFun (upd2_ne (by decide)) (40)) (Eq.trans (congrFun (upd2_ne (by decide)) (40)) (upd2_eq))))))))) ?_
  refine aw_iload_n rfl rfl d_X_reckons_27 ?_
  refine aw_iload_n rfl rfl d_X_reckons_28 ?_
  refine as_callS (as := [.int (nI 0), .int (nI 2), .int (nI 0)]) (d' := 4) mo_X_spot lk_X_353 rfl ⟨by decide, by decide⟩ rfl rfl (by decide) d_X_reckons_29 (Ss.of (show As l b 4 y_X_spot KM RM _ (upd2 (upd2 (upd2 (upd2 (upd2 (upd2 (upd2 (upd2 (upd2 I 0 40 (nI 0)) 17 (0) (nI 0)) 17 (1) ((-99 : Int32))) 17 (2) (nI 0)) 17 (3) (nI 0)) 17 (4) (nI 0)) 17 (5) ((-99 : Int32))) 17 (6) (nI 0)) 17 (7) (nI 0)) 0 [.int (nI 0), .int (nI 2), .int (nI 0)] [] from ?_))
  refine aw_bipush (v := nI 36) cb_36 d_X_spot_0 ?_
  refine aw_iload_n rfl rfl d_X_spot_2 ?_
  refine aw_imul d_X_spot_3 ?_
  refine aw_top (x2 := nI 0) (by decide +kernel) ?_
  refine aw_iconst (v := nI 4) ci_4 d_X_spot_4 ?_
  refine aw_iload_n rfl rfl d_X_spot_5 ?_
  refine aw_imul d_X_spot_6 ?_
  refine aw_top (x2 := nI 8) (by decide +kernel) ?_
  refine aw_iadd d_X_spot_7 ?_
  refine aw_top (x2 := nI 8) (by decide +kernel) ?_
  refine aw_iload_n rfl rfl d_X_spot_8 ?_
  refine aw_iadd d_X_spot_9 ?_
  refine aw_top (x2 := nI 8) (by decide +kernel) ?_
  refine as_reti rfl d_X_spot_10 ?_
  refine (show As l b 5 y_X_reckons KM RM K2 (upd2 (upd2 (upd2 (upd2 (upd2 (upd2 (upd2 (upd2 (upd2 I 0 40 (nI 0)) 17 (0) (nI 0)) 17 (1) ((-99 : Int32))) 17 (2) (nI 0)) 17 (3) (nI 0)) 17 (4) (nI 0)) 17 (5) ((-99 : Int32))) 17 (6) (nI 0)) 17 (7) (nI 0)) 32 [.ref 0, .int (nI 2), .int (nI 0), uu, uu, uu] [.int (nI 8), .ref 17] from ?_)
  refine aw_iload_n rfl rfl d_X_reckons_32 ?_
  refine aw_iconst (v := nI 1) ci_1 d_X_reckons_33 ?_
  refine aw_icmp_neI (tgt := 42) (0) (1) (by decide +kernel) (by decide +kernel) (by decide) d_X_reckons_34 (fun _ => ?_) (fun q => absurd q (by decide))
  refine aw_iconst (v := nI 0) ci_0 d_X_reckons_42 ?_
  refine aw_iast (j := 8) km_17 (vp_in_nI (by decide) (by decide)) (nI_clamp (by decide)) d_X_reckons_43 ?_
  refine aw_iinc (v := nI 1) (lv2 := [.ref 0, .int (nI 2), .int (nI 1), uu, uu, uu]) rfl (by decide +kernel) (by decide) rfl d_X_reckons_44 ?_
  refine aw_goto (tgt := 14) (by decide) d_X_reckons_47 ?_
  refine aw_iload_n rfl rfl d_X_reckons_14 ?_
  refine aw_iconst (v := nI 4) ci_4 d_X_reckons_15 ?_
  refine aw_icmp_geI (tgt := 50) (1) (4) (by decide +kernel) (by decide +kernel) (by decide) d_X_reckons_16 (fun q => absurd q (by decide)) (fun _ => ?_)
  refine aw_aload_n rfl rfl d_X_reckons_19 ?_
  refine aw_getr fl_X_69 km_0 (by decide) rfl rm_0_39 d_X_reckons_20 ?_
  refine aw_aload_n rfl rfl d_X_reckons_23 ?_
  refine aw_geti fl_X_347 km_0 (by decide) rfl d_X_reckons_24 ?_
  refine aw_top (x2 := nI 0) (Eq.trans (congrFun (upd2_ne (by decide)) (40)) (Eq.trans (congrFun (upd2_ne (by decide)) (40)) (Eq.trans (congrFun (upd2_ne (by decide)) (40)) (Eq.trans (congrFun (upd2_ne (by decide)) (40)) (Eq.trans (congrFun (upd2_ne (by decide)) (40)) (Eq.trans (congrFun (upd2_ne (by decide)) (40)) (Eq.trans (congrFun (upd2_ne (by decide)) (40)) (Eq.trans (congrFun (upd2_ne (by decide)) (40)) (Eq.trans (congrFun (upd2_ne (by decide)) (40)) (upd2_eq)))))))))) ?_
  refine aw_iload_n rfl rfl d_X_reckons_27 ?_
  refine aw_iload_n rfl rfl d_X_reckons_28 ?_
  refine as_callS (as := [.int (nI 0), .int (nI 2), .int (nI 1)]) (d' := 4) mo_X_spot lk_X_353 rfl ⟨by decide, by decide⟩ rfl rfl (by decide) d_X_reckons_29 (Ss.of (show As l b 4 y_X_spot KM RM _ (upd2 (upd2 (upd2 (upd2 (upd2 (upd2 (upd2 (upd2 (upd2 (upd2 I 0 40 (nI 0)) 17 (0) (nI 0)) 17 (1) ((-99 : Int32))) 17 (2) (nI 0)) 17 (3) (nI 0)) 17 (4) (nI 0)) 17 (5) ((-99 : Int32))) 17 (6) (nI 0)) 17 (7) (nI 0)) 17 (8) (nI 0)) 0 [.int (nI 0), .int (nI 2), .int (nI 1)] [] from ?_))
  refine aw_bipush (v := nI 36) cb_36 d_X_spot_0 ?_
  refine aw_iload_n rfl rfl d_X_spot_2 ?_
  refine aw_imul d_X_spot_3 ?_
  refine aw_top (x2 := nI 0) (by decide +kernel) ?_
  refine aw_iconst (v := nI 4) ci_4 d_X_spot_4 ?_
  refine aw_iload_n rfl rfl d_X_spot_5 ?_
  refine aw_imul d_X_spot_6 ?_
  refine aw_top (x2 := nI 8) (by decide +kernel) ?_
  refine aw_iadd d_X_spot_7 ?_
  refine aw_top (x2 := nI 8) (by decide +kernel) ?_
  refine aw_iload_n rfl rfl d_X_spot_8 ?_
  refine aw_iadd d_X_spot_9 ?_
  refine aw_top (x2 := nI 9) (by decide +kernel) ?_
  refine as_reti rfl d_X_spot_10 ?_
  refine (show As l b 5 y_X_reckons KM RM K2 (upd2 (upd2 (upd2 (upd2 (upd2 (upd2 (upd2 (upd2 (upd2 (upd2 I 0 40 (nI 0)) 17 (0) (nI 0)) 17 (1) ((-99 : Int32))) 17 (2) (nI 0)) 17 (3) (nI 0)) 17 (4) (nI 0)) 17 (5) ((-99 : Int32))) 17 (6) (nI 0)) 17 (7) (nI 0)) 17 (8) (nI 0)) 32 [.ref 0, .int (nI 2), .int (nI 1), uu, uu, uu] [.int (nI 9), .ref 17] from ?_)
  refine aw_iload_n rfl rfl d_X_reckons_32 ?_
  refine aw_iconst (v := nI 1) ci_1 d_X_reckons_33 ?_
  refine aw_icmp_neI (tgt := 42) (1) (1) (by decide +kernel) (by decide +kernel) (by decide) d_X_reckons_34 (fun q => absurd q (by decide)) (fun _ => ?_)
  refine aw_bipush (v := (-99 : Int32)) rfl d_X_reckons_37 ?_
  refine aw_goto (tgt := 43) (by decide) d_X_reckons_39 ?_
  refine aw_iast (j := 9) km_17 (vp_in_nI (by decide) (by decide)) (nI_clamp (by decide)) d_X_reckons_43 ?_
  refine aw_iinc (v := nI 2) (lv2 := [.ref 0, .int (nI 2), .int (nI 2), uu, uu, uu]) rfl (by decide +kernel) (by decide) rfl d_X_reckons_44 ?_
  refine aw_goto (tgt := 14) (by decide) d_X_reckons_47 ?_
  refine aw_iload_n rfl rfl d_X_reckons_14 ?_
  refine aw_iconst (v := nI 4) ci_4 d_X_reckons_15 ?_
  refine aw_icmp_geI (tgt := 50) (2) (4) (by decide +kernel) (by decide +kernel) (by decide) d_X_reckons_16 (fun q => absurd q (by decide)) (fun _ => ?_)
  refine aw_aload_n rfl rfl d_X_reckons_19 ?_
  refine aw_getr fl_X_69 km_0 (by decide) rfl rm_0_39 d_X_reckons_20 ?_
  refine aw_aload_n rfl rfl d_X_reckons_23 ?_
  refine aw_geti fl_X_347 km_0 (by decide) rfl d_X_reckons_24 ?_
  refine aw_top (x2 := nI 0) (Eq.trans (congrFun (upd2_ne (by decide)) (40)) (Eq.trans (congrFun (upd2_ne (by decide)) (40)) (Eq.trans (congrFun (upd2_ne (by decide)) (40)) (Eq.trans (congrFun (upd2_ne (by decide)) (40)) (Eq.trans (congrFun (upd2_ne (by decide)) (40)) (Eq.trans (congrFun (upd2_ne (by decide)) (40)) (Eq.trans (congrFun (upd2_ne (by decide)) (40)) (Eq.trans (congrFun (upd2_ne (by decide)) (40)) (Eq.trans (congrFun (upd2_ne (by decide)) (40)) (Eq.trans (congrFun (upd2_ne (by decide)) (40)) (upd2_eq))))))))))) ?_
  refine aw_iload_n rfl rfl d_X_reckons_27 ?_
  refine aw_iload_n rfl rfl d_X_reckons_28 ?_
  refine as_callS (as := [.int (nI 0), .int (nI 2), .int (nI 2)]) (d' := 4) mo_X_spot lk_X_353 rfl ⟨by decide, by decide⟩ rfl rfl (by decide) d_X_reckons_29 (Ss.of (show As l b 4 y_X_spot KM RM _ (upd2 (upd2 (upd2 (upd2 (upd2 (upd2 (upd2 (upd2 (upd2 (upd2 (upd2 I 0 40 (nI 0)) 17 (0) (nI 0)) 17 (1) ((-99 : Int32))) 17 (2) (nI 0)) 17 (3) (nI 0)) 17 (4) (nI 0)) 17 (5) ((-99 : Int32))) 17 (6) (nI 0)) 17 (7) (nI 0)) 17 (8) (nI 0)) 17 (9) ((-99 : Int32))) 0 [.int (nI 0), .int (nI 2), .int (nI 2)] [] from ?_))
  refine aw_bipush (v := nI 36) cb_36 d_X_spot_0 ?_
  refine aw_iload_n rfl rfl d_X_spot_2 ?_
  refine aw_imul d_X_spot_3 ?_
  refine aw_top (x2 := nI 0) (by decide +kernel) ?_
  refine aw_iconst (v := nI 4) ci_4 d_X_spot_4 ?_
  refine aw_iload_n rfl rfl d_X_spot_5 ?_
  refine aw_imul d_X_spot_6 ?_
  refine aw_top (x2 := nI 8) (by decide +kernel) ?_
  refine aw_iadd d_X_spot_7 ?_
  refine aw_top (x2 := nI 8) (by decide +kernel) ?_
  refine aw_iload_n rfl rfl d_X_spot_8 ?_
  refine aw_iadd d_X_spot_9 ?_
  refine aw_top (x2 := nI 10) (by decide +kernel) ?_
  refine as_reti rfl d_X_spot_10 ?_
  refine (show As l b 5 y_X_reckons KM RM K2 (upd2 (upd2 (upd2 (upd2 (upd2 (upd2 (upd2 (upd2 (upd2 (upd2 (upd2 I 0 40 (nI 0)) 17 (0) (nI 0)) 17 (1) ((-99 : Int32))) 17 (2) (nI 0)) 17 (3) (nI 0)) 17 (4) (nI 0)) 17 (5) ((-99 : Int32))) 17 (6) (nI 0)) 17 (7) (nI 0)) 17 (8) (nI 0)) 17 (9) ((-99 : Int32))) 32 [.ref 0, .int (nI 2), .int (nI 2), uu, uu, uu] [.int (nI 10), .ref 17] from ?_)
  refine aw_iload_n rfl rfl d_X_reckons_32 ?_
  refine aw_iconst (v := nI 1) ci_1 d_X_reckons_33 ?_
  refine aw_icmp_neI (tgt := 42) (2) (1) (by decide +kernel) (by decide +kernel) (by decide) d_X_reckons_34 (fun _ => ?_) (fun q => absurd q (by decide))
  refine aw_iconst (v := nI 0) ci_0 d_X_reckons_42 ?_
  refine aw_iast (j := 10) km_17 (vp_in_nI (by decide) (by decide)) (nI_clamp (by decide)) d_X_reckons_43 ?_
  refine aw_iinc (v := nI 3) (lv2 := [.ref 0, .int (nI 2), .int (nI 3), uu, uu, uu]) rfl (by decide +kernel) (by decide) rfl d_X_reckons_44 ?_
  refine aw_goto (tgt := 14) (by decide) d_X_reckons_47 ?_
  refine aw_iload_n rfl rfl d_X_reckons_14 ?_
  refine aw_iconst (v := nI 4) ci_4 d_X_reckons_15 ?_
  refine aw_icmp_geI (tgt := 50) (3) (4) (by decide +kernel) (by decide +kernel) (by decide) d_X_reckons_16 (fun q => absurd q (by decide)) (fun _ => ?_)
  refine aw_aload_n rfl rfl d_X_reckons_19 ?_
  refine aw_getr fl_X_69 km_0 (by decide) rfl rm_0_39 d_X_reckons_20 ?_
  refine aw_aload_n rfl rfl d_X_reckons_23 ?_
  refine aw_geti fl_X_347 km_0 (by decide) rfl d_X_reckons_24 ?_
  refine aw_top (x2 := nI 0) (Eq.trans (congrFun (upd2_ne (by decide)) (40)) (Eq.trans (congrFun (upd2_ne (by decide)) (40)) (Eq.trans (congrFun (upd2_ne (by decide)) (40)) (Eq.trans (congrFun (upd2_ne (by decide)) (40)) (Eq.trans (congrFun (upd2_ne (by decide)) (40)) (Eq.trans (congrFun (upd2_ne (by decide)) (40)) (Eq.trans (congrFun (upd2_ne (by decide)) (40)) (Eq.trans (congrFun (upd2_ne (by decide)) (40)) (Eq.trans (congrFun (upd2_ne (by decide)) (40)) (Eq.trans (congrFun (upd2_ne (by decide)) (40)) (Eq.trans (congrFun (upd2_ne (by decide)) (40)) (upd2_eq)))))))))))) ?_
  refine aw_iload_n rfl rfl d_X_reckons_27 ?_
  refine aw_iload_n rfl rfl d_X_reckons_28 ?_
  refine as_callS (as := [.int (nI 0), .int (nI 2), .int (nI 3)]) (d' := 4) mo_X_spot lk_X_353 rfl ⟨by decide, by decide⟩ rfl rfl (by decide) d_X_reckons_29 (Ss.of (show As l b 4 y_X_spot KM RM _ (upd2 (upd2 (upd2 (upd2 (upd2 (upd2 (upd2 (upd2 (upd2 (upd2 (upd2 (upd2 I 0 40 (nI 0)) 17 (0) (nI 0)) 17 (1) ((-99 : Int32))) 17 (2) (nI 0)) 17 (3) (nI 0)) 17 (4) (nI 0)) 17 (5) ((-99 : Int32))) 17 (6) (nI 0)) 17 (7) (nI 0)) 17 (8) (nI 0)) 17 (9) ((-99 : Int32))) 17 (10) (nI 0)) 0 [.int (nI 0), .int (nI 2), .int (nI 3)] [] from ?_))
  refine aw_bipush (v := nI 36) cb_36 d_X_spot_0 ?_
  refine aw_iload_n rfl rfl d_X_spot_2 ?_
  refine aw_imul d_X_spot_3 ?_
  refine aw_top (x2 := nI 0) (by decide +kernel) ?_
  refine aw_iconst (v := nI 4) ci_4 d_X_spot_4 ?_
  refine aw_iload_n rfl rfl d_X_spot_5 ?_
  refine aw_imul d_X_spot_6 ?_
  refine aw_top (x2 := nI 8) (by decide +kernel) ?_
  refine aw_iadd d_X_spot_7 ?_
  refine aw_top (x2 := nI 8) (by decide +kernel) ?_
  refine aw_iload_n rfl rfl d_X_spot_8 ?_
  refine aw_iadd d_X_spot_9 ?_
  refine aw_top (x2 := nI 11) (by decide +kernel) ?_
  refine as_reti rfl d_X_spot_10 ?_
  refine (show As l b 5 y_X_reckons KM RM K2 (upd2 (upd2 (upd2 (upd2 (upd2 (upd2 (upd2 (upd2 (upd2 (upd2 (upd2 (upd2 I 0 40 (nI 0)) 17 (0) (nI 0)) 17 (1) ((-99 : Int32))) 17 (2) (nI 0)) 17 (3) (nI 0)) 17 (4) (nI 0)) 17 (5) ((-99 : Int32))) 17 (6) (nI 0)) 17 (7) (nI 0)) 17 (8) (nI 0)) 17 (9) ((-99 : Int32))) 17 (10) (nI 0)) 32 [.ref 0, .int (nI 2), .int (nI 3), uu, uu, uu] [.int (nI 11), .ref 17] from ?_)
  refine aw_iload_n rfl rfl d_X_reckons_32 ?_
  refine aw_iconst (v := nI 1) ci_1 d_X_reckons_33 ?_
  refine aw_icmp_neI (tgt := 42) (3) (1) (by decide +kernel) (by decide +kernel) (by decide) d_X_reckons_34 (fun _ => ?_) (fun q => absurd q (by decide))
  refine aw_iconst (v := nI 0) ci_0 d_X_reckons_42 ?_
  refine aw_iast (j := 11) km_17 (vp_in_nI (by decide) (by decide)) (nI_clamp (by decide)) d_X_reckons_43 ?_
  refine aw_iinc (v := nI 4) (lv2 := [.ref 0, .int (nI 2), .int (nI 4), uu, uu, uu]) rfl (by decide +kernel) (by decide) rfl d_X_reckons_44 ?_
  refine aw_goto (tgt := 14) (by decide) d_X_reckons_47 ?_
  refine aw_iload_n rfl rfl d_X_reckons_14 ?_
  refine aw_iconst (v := nI 4) ci_4 d_X_reckons_15 ?_
  refine aw_icmp_geI (tgt := 50) (4) (4) (by decide +kernel) (by decide +kernel) (by decide) d_X_reckons_16 (fun _ => ?_) (fun q => absurd q (by decide))
  refine aw_iinc (v := nI 3) (lv2 := [.ref 0, .int (nI 3), .int (nI 4), uu, uu, uu]) rfl (by decide +kernel) (by decide) rfl d_X_reckons_50 ?_
  refine aw_goto (tgt := 6) (by decide) d_X_reckons_53 ?_
  refine aw_iload_n rfl rfl d_X_reckons_6 ?_
  refine aw_bipush (v := nI 9) cb_9 d_X_reckons_7 ?_
  refine aw_icmp_geI (tgt := 56) (3) (9) (by decide +kernel) (by decide +kernel) (by decide) d_X_reckons_9 (fun q => absurd q (by decide)) (fun _ => ?_)
  refine aw_iconst (v := nI 0) ci_0 d_X_reckons_12 ?_
  refine aw_istore_n (lv2 := [.ref 0, .int (nI 3), .int (nI 0), uu, uu, uu]) rfl (by decide) rfl d_X_reckons_13 ?_
  refine aw_iload_n rfl rfl d_X_reckons_14 ?_
  refine aw_iconst (v := nI 4) ci_4 d_X_reckons_15 ?_
  refine aw_icmp_geI (tgt := 50) (0) (4) (by decide +kernel) (by decide +kernel) (by decide) d_X_reckons_16 (fun q => absurd q (by decide)) (fun _ => ?_)
  refine aw_aload_n rfl rfl d_X_reckons_19 ?_
  refine aw_getr fl_X_69 km_0 (by decide) rfl rm_0_39 d_X_reckons_20 ?_
  refine aw_aload_n rfl rfl d_X_reckons_23 ?_
  refine aw_geti fl_X_347 km_0 (by decide) rfl d_X_reckons_24 ?_
  refine aw_top (x2 := nI 0) (Eq.trans (congrFun (upd2_ne (by decide)) (40)) (Eq.trans (congrFun (upd2_ne (by decide)) (40)) (Eq.trans (congrFun (upd2_ne (by decide)) (40)) (Eq.trans (congrFun (upd2_ne (by decide)) (40)) (Eq.trans (congrFun (upd2_ne (by decide)) (40)) (Eq.trans (congrFun (upd2_ne (by decide)) (40)) (Eq.trans (congrFun (upd2_ne (by decide)) (40)) (Eq.trans (congrFun (upd2_ne (by decide)) (40)) (Eq.trans (congrFun (upd2_ne (by decide)) (40)) (Eq.trans (congrFun (upd2_ne (by decide)) (40)) (Eq.trans (congrFun (upd2_ne (by decide)) (40)) (Eq.trans (congrFun (upd2_ne (by decide)) (40)) (upd2_eq))))))))))))) ?_
  refine aw_iload_n rfl rfl d_X_reckons_27 ?_
  refine aw_iload_n rfl rfl d_X_reckons_28 ?_
  refine as_callS (as := [.int (nI 0), .int (nI 3), .int (nI 0)]) (d' := 4) mo_X_spot lk_X_353 rfl ⟨by decide, by decide⟩ rfl rfl (by decide) d_X_reckons_29 (Ss.of (show As l b 4 y_X_spot KM RM _ (upd2 (upd2 (upd2 (upd2 (upd2 (upd2 (upd2 (upd2 (upd2 (upd2 (upd2 (upd2 (upd2 I 0 40 (nI 0)) 17 (0) (nI 0)) 17 (1) ((-99 : Int32))) 17 (2) (nI 0)) 17 (3) (nI 0)) 17 (4) (nI 0)) 17 (5) ((-99 : Int32))) 17 (6) (nI 0)) 17 (7) (nI 0)) 17 (8) (nI 0)) 17 (9) ((-99 : Int32))) 17 (10) (nI 0)) 17 (11) (nI 0)) 0 [.int (nI 0), .int (nI 3), .int (nI 0)] [] from ?_))
  refine aw_bipush (v := nI 36) cb_36 d_X_spot_0 ?_
  refine aw_iload_n rfl rfl d_X_spot_2 ?_
  refine aw_imul d_X_spot_3 ?_
  refine aw_top (x2 := nI 0) (by decide +kernel) ?_
  refine aw_iconst (v := nI 4) ci_4 d_X_spot_4 ?_
  refine aw_iload_n rfl rfl d_X_spot_5 ?_
  refine aw_imul d_X_spot_6 ?_
  refine aw_top (x2 := nI 12) (by decide +kernel) ?_
  refine aw_iadd d_X_spot_7 ?_
  refine aw_top (x2 := nI 12) (by decide +kernel) ?_
  refine aw_iload_n rfl rfl d_X_spot_8 ?_
  refine aw_iadd d_X_spot_9 ?_
  refine aw_top (x2 := nI 12) (by decide +kernel) ?_
  refine as_reti rfl d_X_spot_10 ?_
  refine (show As l b 5 y_X_reckons KM RM K2 (upd2 (upd2 (upd2 (upd2 (upd2 (upd2 (upd2 (upd2 (upd2 (upd2 (upd2 (upd2 (upd2 I 0 40 (nI 0)) 17 (0) (nI 0)) 17 (1) ((-99 : Int32))) 17 (2) (nI 0)) 17 (3) (nI 0)) 17 (4) (nI 0)) 17 (5) ((-99 : Int32))) 17 (6) (nI 0)) 17 (7) (nI 0)) 17 (8) (nI 0)) 17 (9) ((-99 : Int32))) 17 (10) (nI 0)) 17 (11) (nI 0)) 32 [.ref 0, .int (nI 3), .int (nI 0), uu, uu, uu] [.int (nI 12), .ref 17] from ?_)
  refine aw_iload_n rfl rfl d_X_reckons_32 ?_
  refine aw_iconst (v := nI 1) ci_1 d_X_reckons_33 ?_
  refine aw_icmp_neI (tgt := 42) (0) (1) (by decide +kernel) (by decide +kernel) (by decide) d_X_reckons_34 (fun _ => ?_) (fun q => absurd q (by decide))
  refine aw_iconst (v := nI 0) ci_0 d_X_reckons_42 ?_
  refine aw_iast (j := 12) km_17 (vp_in_nI (by decide) (by decide)) (nI_clamp (by decide)) d_X_reckons_43 ?_
  refine aw_iinc (v := nI 1) (lv2 := [.ref 0, .int (nI 3), .int (nI 1), uu, uu, uu]) rfl (by decide +kernel) (by decide) rfl d_X_reckons_44 ?_
  refine aw_goto (tgt := 14) (by decide) d_X_reckons_47 ?_
  refine aw_iload_n rfl rfl d_X_reckons_14 ?_
  refine aw_iconst (v := nI 4) ci_4 d_X_reckons_15 ?_
  refine aw_icmp_geI (tgt := 50) (1) (4) (by decide +kernel) (by decide +kernel) (by decide) d_X_reckons_16 (fun q => absurd q (by decide)) (fun _ => ?_)
  refine aw_aload_n rfl rfl d_X_reckons_19 ?_
  refine aw_getr fl_X_69 km_0 (by decide) rfl rm_0_39 d_X_reckons_20 ?_
  refine aw_aload_n rfl rfl d_X_reckons_23 ?_
  refine aw_geti fl_X_347 km_0 (by decide) rfl d_X_reckons_24 ?_
  refine aw_top (x2 := nI 0) (Eq.trans (congrFun (upd2_ne (by decide)) (40)) (Eq.trans (congrFun (upd2_ne (by decide)) (40)) (Eq.trans (congrFun (upd2_ne (by decide)) (40)) (Eq.trans (congrFun (upd2_ne (by decide)) (40)) (Eq.trans (congrFun (upd2_ne (by decide)) (40)) (Eq.trans (congrFun (upd2_ne (by decide)) (40)) (Eq.trans (congrFun (upd2_ne (by decide)) (40)) (Eq.trans (congrFun (upd2_ne (by decide)) (40)) (Eq.trans (congrFun (upd2_ne (by decide)) (40)) (Eq.trans (congrFun (upd2_ne (by decide)) (40)) (Eq.trans (congrFun (upd2_ne (by decide)) (40)) (Eq.trans (congrFun (upd2_ne (by decide)) (40)) (Eq.trans (congrFun (upd2_ne (by decide)) (40)) (upd2_eq)))))))))))))) ?_
  refine aw_iload_n rfl rfl d_X_reckons_27 ?_
  refine aw_iload_n rfl rfl d_X_reckons_28 ?_
  refine as_callS (as := [.int (nI 0), .int (nI 3), .int (nI 1)]) (d' := 4) mo_X_spot lk_X_353 rfl ⟨by decide, by decide⟩ rfl rfl (by decide) d_X_reckons_29 (Ss.of (show As l b 4 y_X_spot KM RM _ (upd2 (upd2 (upd2 (upd2 (upd2 (upd2 (upd2 (upd2 (upd2 (upd2 (upd2 (upd2 (upd2 (upd2 I 0 40 (nI 0)) 17 (0) (nI 0)) 17 (1) ((-99 : Int32))) 17 (2) (nI 0)) 17 (3) (nI 0)) 17 (4) (nI 0)) 17 (5) ((-99 : Int32))) 17 (6) (nI 0)) 17 (7) (nI 0)) 17 (8) (nI 0)) 17 (9) ((-99 : Int32))) 17 (10) (nI 0)) 17 (11) (nI 0)) 17 (12) (nI 0)) 0 [.int (nI 0), .int (nI 3), .int (nI 1)] [] from ?_))
  refine aw_bipush (v := nI 36) cb_36 d_X_spot_0 ?_
  refine aw_iload_n rfl rfl d_X_spot_2 ?_
  refine aw_imul d_X_spot_3 ?_
  refine aw_top (x2 := nI 0) (by decide +kernel) ?_
  refine aw_iconst (v := nI 4) ci_4 d_X_spot_4 ?_
  refine aw_iload_n rfl rfl d_X_spot_5 ?_
  refine aw_imul d_X_spot_6 ?_
  refine aw_top (x2 := nI 12) (by decide +kernel) ?_
  refine aw_iadd d_X_spot_7 ?_
  refine aw_top (x2 := nI 12) (by decide +kernel) ?_
  refine aw_iload_n rfl rfl d_X_spot_8 ?_
  refine aw_iadd d_X_spot_9 ?_
  refine aw_top (x2 := nI 13) (by decide +kernel) ?_
  refine as_reti rfl d_X_spot_10 ?_
  refine (show As l b 5 y_X_reckons KM RM K2 (upd2 (upd2 (upd2 (upd2 (upd2 (upd2 (upd2 (upd2 (upd2 (upd2 (upd2 (upd2 (upd2 (upd2 I 0 40 (nI 0)) 17 (0) (nI 0)) 17 (1) ((-99 : Int32))) 17 (2) (nI 0)) 17 (3) (nI 0)) 17 (4) (nI 0)) 17 (5) ((-99 : Int32))) 17 (6) (nI 0)) 17 (7) (nI 0)) 17 (8) (nI 0)) 17 (9) ((-99 : Int32))) 17 (10) (nI 0)) 17 (11) (nI 0)) 17 (12) (nI 0)) 32 [.ref 0, .int (nI 3), .int (nI 1), uu, uu, uu] [.int (nI 13), .ref 17] from ?_)
  refine aw_iload_n rfl rfl d_X_reckons_32 ?_
  refine aw_iconst (v := nI 1) ci_1 d_X_reckons_33 ?_
  refine aw_icmp_neI (tgt := 42) (1) (1) (by decide +kernel) (by decide +kernel) (by decide) d_X_reckons_34 (fun q => absurd q (by decide)) (fun _ => ?_)
  refine aw_bipush (v := (-99 : Int32)) rfl d_X_reckons_37 ?_
  refine aw_goto (tgt := 43) (by decide) d_X_reckons_39 ?_
  refine aw_iast (j := 13) km_17 (vp_in_nI (by decide) (by decide)) (nI_clamp (by decide)) d_X_reckons_43 ?_
  refine aw_iinc (v := nI 2) (lv2 := [.ref 0, .int (nI 3), .int (nI 2), uu, uu, uu]) rfl (by decide +kernel) (by decide) rfl d_X_reckons_44 ?_
  refine aw_goto (tgt := 14) (by decide) d_X_reckons_47 ?_
  refine aw_iload_n rfl rfl d_X_reckons_14 ?_
  refine aw_iconst (v := nI 4) ci_4 d_X_reckons_15 ?_
  refine aw_icmp_geI (tgt := 50) (2) (4) (by decide +kernel) (by decide +kernel) (by decide) d_X_reckons_16 (fun q => absurd q (by decide)) (fun _ => ?_)
  refine aw_aload_n rfl rfl d_X_reckons_19 ?_
  refine aw_getr fl_X_69 km_0 (by decide) rfl rm_0_39 d_X_reckons_20 ?_
  refine aw_aload_n rfl rfl d_X_reckons_23 ?_
  refine aw_geti fl_X_347 km_0 (by decide) rfl d_X_reckons_24 ?_
  refine aw_top (x2 := nI 0) (Eq.trans (congrFun (upd2_ne (by decide)) (40)) (Eq.trans (congrFun (upd2_ne (by decide)) (40)) (Eq.trans (congrFun (upd2_ne (by decide)) (40)) (Eq.trans (congrFun (upd2_ne (by decide)) (40)) (Eq.trans (congrFun (upd2_ne (by decide)) (40)) (Eq.trans (congrFun (upd2_ne (by decide)) (40)) (Eq.trans (congrFun (upd2_ne (by decide)) (40)) (Eq.trans (congrFun (upd2_ne (by decide)) (40)) (Eq.trans (congrFun (upd2_ne (by decide)) (40)) (Eq.trans (congrFun (upd2_ne (by decide)) (40)) (Eq.trans (congrFun (upd2_ne (by decide)) (40)) (Eq.trans (congrFun (upd2_ne (by decide)) (40)) (Eq.trans (congrFun (upd2_ne (by decide)) (40)) (Eq.trans (congrFun (upd2_ne (by decide)) (40)) (upd2_eq))))))))))))))) ?_
  refine aw_iload_n rfl rfl d_X_reckons_27 ?_
  refine aw_iload_n rfl rfl d_X_reckons_28 ?_
  refine as_callS (as := [.int (nI 0), .int (nI 3), .int (nI 2)]) (d' := 4) mo_X_spot lk_X_353 rfl ⟨by decide, by decide⟩ rfl rfl (by decide) d_X_reckons_29 (Ss.of (show As l b 4 y_X_spot KM RM _ (upd2 (upd2 (upd2 (upd2 (upd2 (upd2 (upd2 (upd2 (upd2 (upd2 (upd2 (upd2 (upd2 (upd2 (upd2 I 0 40 (nI 0)) 17 (0) (nI 0)) 17 (1) ((-99 : Int32))) 17 (2) (nI 0)) 17 (3) (nI 0)) 17 (4) (nI 0)) 17 (5) ((-99 : Int32))) 17 (6) (nI 0)) 17 (7) (nI 0)) 17 (8) (nI 0)) 17 (9) ((-99 : Int32))) 17 (10) (nI 0)) 17 (11) (nI 0)) 17 (12) (nI 0)) 17 (13) ((-99 : Int32))) 0 [.int (nI 0), .int (nI 3), .int (nI 2)] [] from ?_))
  refine aw_bipush (v := nI 36) cb_36 d_X_spot_0 ?_
  refine aw_iload_n rfl rfl d_X_spot_2 ?_
  refine aw_imul d_X_spot_3 ?_
  refine aw_top (x2 := nI 0) (by decide +kernel) ?_
  refine aw_iconst (v := nI 4) ci_4 d_X_spot_4 ?_
  refine aw_iload_n rfl rfl d_X_spot_5 ?_
  refine aw_imul d_X_spot_6 ?_
  refine aw_top (x2 := nI 12) (by decide +kernel) ?_
  refine aw_iadd d_X_spot_7 ?_
  refine aw_top (x2 := nI 12) (by decide +kernel) ?_
  refine aw_iload_n rfl rfl d_X_spot_8 ?_
  refine aw_iadd d_X_spot_9 ?_
  refine aw_top (x2 := nI 14) (by decide +kernel) ?_
  refine as_reti rfl d_X_spot_10 ?_
  refine (show As l b 5 y_X_reckons KM RM K2 (upd2 (upd2 (upd2 (upd2 (upd2 (upd2 (upd2 (upd2 (upd2 (upd2 (upd2 (upd2 (upd2 (upd2 (upd2 I 0 40 (nI 0)) 17 (0) (nI 0)) 17 (1) ((-99 : Int32))) 17 (2) (nI 0)) 17 (3) (nI 0)) 17 (4) (nI 0)) 17 (5) ((-99 : Int32))) 17 (6) (nI 0)) 17 (7) (nI 0)) 17 (8) (nI 0)) 17 (9) ((-99 : Int32))) 17 (10) (nI 0)) 17 (11) (nI 0)) 17 (12) (nI 0)) 17 (13) ((-99 : Int32))) 32 [.ref 0, .int (nI 3), .int (nI 2), uu, uu, uu] [.int (nI 14), .ref 17] from ?_)
  refine aw_iload_n rfl rfl d_X_reckons_32 ?_
  refine aw_iconst (v := nI 1) ci_1 d_X_reckons_33 ?_
  refine aw_icmp_neI (tgt := 42) (2) (1) (by decide +kernel) (by decide +kernel) (by decide) d_X_reckons_34 (fun _ => ?_) (fun q => absurd q (by decide))
  refine aw_iconst (v := nI 0) ci_0 d_X_reckons_42 ?_
  refine aw_iast (j := 14) km_17 (vp_in_nI (by decide) (by decide)) (nI_clamp (by decide)) d_X_reckons_43 ?_
  refine aw_iinc (v := nI 3) (lv2 := [.ref 0, .int (nI 3), .int (nI 3), uu, uu, uu]) rfl (by decide +kernel) (by decide) rfl d_X_reckons_44 ?_
  refine aw_goto (tgt := 14) (by decide) d_X_reckons_47 ?_
  refine aw_iload_n rfl rfl d_X_reckons_14 ?_
  refine aw_iconst (v := nI 4) ci_4 d_X_reckons_15 ?_
  refine aw_icmp_geI (tgt := 50) (3) (4) (by decide +kernel) (by decide +kernel) (by decide) d_X_reckons_16 (fun q => absurd q (by decide)) (fun _ => ?_)
  refine aw_aload_n rfl rfl d_X_reckons_19 ?_
  refine aw_getr fl_X_69 km_0 (by decide) rfl rm_0_39 d_X_reckons_20 ?_
  refine aw_aload_n rfl rfl d_X_reckons_23 ?_
  refine aw_geti fl_X_347 km_0 (by decide) rfl d_X_reckons_24 ?_
  refine aw_top (x2 := nI 0) (Eq.trans (congrFun (upd2_ne (by decide)) (40)) (Eq.trans (congrFun (upd2_ne (by decide)) (40)) (Eq.trans (congrFun (upd2_ne (by decide)) (40)) (Eq.trans (congrFun (upd2_ne (by decide)) (40)) (Eq.trans (congrFun (upd2_ne (by decide)) (40)) (Eq.trans (congrFun (upd2_ne (by decide)) (40)) (Eq.trans (congrFun (upd2_ne (by decide)) (40)) (Eq.trans (congrFun (upd2_ne (by decide)) (40)) (Eq.trans (congrFun (upd2_ne (by decide)) (40)) (Eq.trans (congrFun (upd2_ne (by decide)) (40)) (Eq.trans (congrFun (upd2_ne (by decide)) (40)) (Eq.trans (congrFun (upd2_ne (by decide)) (40)) (Eq.trans (congrFun (upd2_ne (by decide)) (40)) (Eq.trans (congrFun (upd2_ne (by decide)) (40)) (Eq.trans (congrFun (upd2_ne (by decide)) (40)) (upd2_eq)))))))))))))))) ?_
  refine aw_iload_n rfl rfl d_X_reckons_27 ?_
  refine aw_iload_n rfl rfl d_X_reckons_28 ?_
  refine as_callS (as := [.int (nI 0), .int (nI 3), .int (nI 3)]) (d' := 4) mo_X_spot lk_X_353 rfl ⟨by decide, by decide⟩ rfl rfl (by decide) d_X_reckons_29 (Ss.of (show As l b 4 y_X_spot KM RM _ (upd2 (upd2 (upd2 (upd2 (upd2 (upd2 (upd2 (upd2 (upd2 (upd2 (upd2 (upd2 (upd2 (upd2 (upd2 (upd2 I 0 40 (nI 0)) 17 (0) (nI 0)) 17 (1) ((-99 : Int32))) 17 (2) (nI 0)) 17 (3) (nI 0)) 17 (4) (nI 0)) 17 (5) ((-99 : Int32))) 17 (6) (nI 0)) 17 (7) (nI 0)) 17 (8) (nI 0)) 17 (9) ((-99 : Int32))) 17 (10) (nI 0)) 17 (11) (nI 0)) 17 (12) (nI 0)) 17 (13) ((-99 : Int32))) 17 (14) (nI 0)) 0 [.int (nI 0), .int (nI 3), .int (nI 3)] [] from ?_))
  refine aw_bipush (v := nI 36) cb_36 d_X_spot_0 ?_
  refine aw_iload_n rfl rfl d_X_spot_2 ?_
  refine aw_imul d_X_spot_3 ?_
  refine aw_top (x2 := nI 0) (by decide +kernel) ?_
  refine aw_iconst (v := nI 4) ci_4 d_X_spot_4 ?_
  refine aw_iload_n rfl rfl d_X_spot_5 ?_
  refine aw_imul d_X_spot_6 ?_
  refine aw_top (x2 := nI 12) (by decide +kernel) ?_
  refine aw_iadd d_X_spot_7 ?_
  refine aw_top (x2 := nI 12) (by decide +kernel) ?_
  refine aw_iload_n rfl rfl d_X_spot_8 ?_
  refine aw_iadd d_X_spot_9 ?_
  refine aw_top (x2 := nI 15) (by decide +kernel) ?_
  refine as_reti rfl d_X_spot_10 ?_
  refine (show As l b 5 y_X_reckons KM RM K2 (upd2 (upd2 (upd2 (upd2 (upd2 (upd2 (upd2 (upd2 (upd2 (upd2 (upd2 (upd2 (upd2 (upd2 (upd2 (upd2 I 0 40 (nI 0)) 17 (0) (nI 0)) 17 (1) ((-99 : Int32))) 17 (2) (nI 0)) 17 (3) (nI 0)) 17 (4) (nI 0)) 17 (5) ((-99 : Int32))) 17 (6) (nI 0)) 17 (7) (nI 0)) 17 (8) (nI 0)) 17 (9) ((-99 : Int32))) 17 (10) (nI 0)) 17 (11) (nI 0)) 17 (12) (nI 0)) 17 (13) ((-99 : Int32))) 17 (14) (nI 0)) 32 [.ref 0, .int (nI 3), .int (nI 3), uu, uu, uu] [.int (nI 15), .ref 17] from ?_)
  refine aw_iload_n rfl rfl d_X_reckons_32 ?_
  refine aw_iconst (v := nI 1) ci_1 d_X_reckons_33 ?_
  refine aw_icmp_neI (tgt := 42) (3) (1) (by decide +kernel) (by decide +kernel) (by decide) d_X_reckons_34 (fun _ => ?_) (fun q => absurd q (by decide))
  refine aw_iconst (v := nI 0) ci_0 d_X_reckons_42 ?_
  refine aw_iast (j := 15) km_17 (vp_in_nI (by decide) (by decide)) (nI_clamp (by decide)) d_X_reckons_43 ?_
  refine aw_iinc (v := nI 4) (lv2 := [.ref 0, .int (nI 3), .int (nI 4), uu, uu, uu]) rfl (by decide +kernel) (by decide) rfl d_X_reckons_44 ?_
  refine aw_goto (tgt := 14) (by decide) d_X_reckons_47 ?_
  refine aw_iload_n rfl rfl d_X_reckons_14 ?_
  refine aw_iconst (v := nI 4) ci_4 d_X_reckons_15 ?_
  refine aw_icmp_geI (tgt := 50) (4) (4) (by decide +kernel) (by decide +kernel) (by decide) d_X_reckons_16 (fun _ => ?_) (fun q => absurd q (by decide))
  refine aw_iinc (v := nI 4) (lv2 := [.ref 0, .int (nI 4), .int (nI 4), uu, uu, uu]) rfl (by decide +kernel) (by decide) rfl d_X_reckons_50 ?_
  refine aw_goto (tgt := 6) (by decide) d_X_reckons_53 ?_
  refine aw_iload_n rfl rfl d_X_reckons_6 ?_
  refine aw_bipush (v := nI 9) cb_9 d_X_reckons_7 ?_
  refine aw_icmp_geI (tgt := 56) (4) (9) (by decide +kernel) (by decide +kernel) (by decide) d_X_reckons_9 (fun q => absurd q (by decide)) (fun _ => ?_)
  refine aw_iconst (v := nI 0) ci_0 d_X_reckons_12 ?_
  refine aw_istore_n (lv2 := [.ref 0, .int (nI 4), .int (nI 0), uu, uu, uu]) rfl (by decide) rfl d_X_reckons_13 ?_
  refine aw_iload_n rfl rfl d_X_reckons_14 ?_
  refine aw_iconst (v := nI 4) ci_4 d_X_reckons_15 ?_
  refine aw_icmp_geI (tgt := 50) (0) (4) (by decide +kernel) (by decide +kernel) (by decide) d_X_reckons_16 (fun q => absurd q (by decide)) (fun _ => ?_)
  refine aw_aload_n rfl rfl d_X_reckons_19 ?_
  refine aw_getr fl_X_69 km_0 (by decide) rfl rm_0_39 d_X_reckons_20 ?_
  refine aw_aload_n rfl rfl d_X_reckons_23 ?_
  refine aw_geti fl_X_347 km_0 (by decide) rfl d_X_reckons_24 ?_
  refine aw_top (x2 := nI 0) (Eq.trans (congrFun (upd2_ne (by decide)) (40)) (Eq.trans (congrFun (upd2_ne (by decide)) (40)) (Eq.trans (congrFun (upd2_ne (by decide)) (40)) (Eq.trans (congrFun (upd2_ne (by decide)) (40)) (Eq.trans (congrFun (upd2_ne (by decide)) (40)) (Eq.trans (congrFun (upd2_ne (by decide)) (40)) (Eq.trans (congrFun (upd2_ne (by decide)) (40)) (Eq.trans (congrFun (upd2_ne (by decide)) (40)) (Eq.trans (congrFun (upd2_ne (by decide)) (40)) (Eq.trans (congrFun (upd2_ne (by decide)) (40)) (Eq.trans (congrFun (upd2_ne (by decide)) (40)) (Eq.trans (congrFun (upd2_ne (by decide)) (40)) (Eq.trans (congrFun (upd2_ne (by decide)) (40)) (Eq.trans (congrFun (upd2_ne (by decide)) (40)) (Eq.trans (congrFun (upd2_ne (by decide)) (40)) (Eq.trans (congrFun (upd2_ne (by decide)) (40)) (upd2_eq))))))))))))))))) ?_
  refine aw_iload_n rfl rfl d_X_reckons_27 ?_
  refine aw_iload_n rfl rfl d_X_reckons_28 ?_
  refine as_callS (as := [.int (nI 0), .int (nI 4), .int (nI 0)]) (d' := 4) mo_X_spot lk_X_353 rfl ⟨by decide, by decide⟩ rfl rfl (by decide) d_X_reckons_29 (Ss.of (show As l b 4 y_X_spot KM RM _ (upd2 (upd2 (upd2 (upd2 (upd2 (upd2 (upd2 (upd2 (upd2 (upd2 (upd2 (upd2 (upd2 (upd2 (upd2 (upd2 (upd2 I 0 40 (nI 0)) 17 (0) (nI 0)) 17 (1) ((-99 : Int32))) 17 (2) (nI 0)) 17 (3) (nI 0)) 17 (4) (nI 0)) 17 (5) ((-99 : Int32))) 17 (6) (nI 0)) 17 (7) (nI 0)) 17 (8) (nI 0)) 17 (9) ((-99 : Int32))) 17 (10) (nI 0)) 17 (11) (nI 0)) 17 (12) (nI 0)) 17 (13) ((-99 : Int32))) 17 (14) (nI 0)) 17 (15) (nI 0)) 0 [.int (nI 0), .int (nI 4), .int (nI 0)] [] from ?_))
  refine aw_bipush (v := nI 36) cb_36 d_X_spot_0 ?_
  refine aw_iload_n rfl rfl d_X_spot_2 ?_
  refine aw_imul d_X_spot_3 ?_
  refine aw_top (x2 := nI 0) (by decide +kernel) ?_
  refine aw_iconst (v := nI 4) ci_4 d_X_spot_4 ?_
  refine aw_iload_n rfl rfl d_X_spot_5 ?_
  refine aw_imul d_X_spot_6 ?_
  refine aw_top (x2 := nI 16) (by decide +kernel) ?_
  refine aw_iadd d_X_spot_7 ?_
  refine aw_top (x2 := nI 16) (by decide +kernel) ?_
  refine aw_iload_n rfl rfl d_X_spot_8 ?_
  refine aw_iadd d_X_spot_9 ?_
  refine aw_top (x2 := nI 16) (by decide +kernel) ?_
  refine as_reti rfl d_X_spot_10 ?_
  refine (show As l b 5 y_X_reckons KM RM K2 (upd2 (upd2 (upd2 (upd2 (upd2 (upd2 (upd2 (upd2 (upd2 (upd2 (upd2 (upd2 (upd2 (upd2 (upd2 (upd2 (upd2 I 0 40 (nI 0)) 17 (0) (nI 0)) 17 (1) ((-99 : Int32))) 17 (2) (nI 0)) 17 (3) (nI 0)) 17 (4) (nI 0)) 17 (5) ((-99 : Int32))) 17 (6) (nI 0)) 17 (7) (nI 0)) 17 (8) (nI 0)) 17 (9) ((-99 : Int32))) 17 (10) (nI 0)) 17 (11) (nI 0)) 17 (12) (nI 0)) 17 (13) ((-99 : Int32))) 17 (14) (nI 0)) 17 (15) (nI 0)) 32 [.ref 0, .int (nI 4), .int (nI 0), uu, uu, uu] [.int (nI 16), .ref 17] from ?_)
  refine aw_iload_n rfl rfl d_X_reckons_32 ?_
  refine aw_iconst (v := nI 1) ci_1 d_X_reckons_33 ?_
  refine aw_icmp_neI (tgt := 42) (0) (1) (by decide +kernel) (by decide +kernel) (by decide) d_X_reckons_34 (fun _ => ?_) (fun q => absurd q (by decide))
  refine aw_iconst (v := nI 0) ci_0 d_X_reckons_42 ?_
  refine aw_iast (j := 16) km_17 (vp_in_nI (by decide) (by decide)) (nI_clamp (by decide)) d_X_reckons_43 ?_
  refine aw_iinc (v := nI 1) (lv2 := [.ref 0, .int (nI 4), .int (nI 1), uu, uu, uu]) rfl (by decide +kernel) (by decide) rfl d_X_reckons_44 ?_
  refine aw_goto (tgt := 14) (by decide) d_X_reckons_47 ?_
  refine aw_iload_n rfl rfl d_X_reckons_14 ?_
  refine aw_iconst (v := nI 4) ci_4 d_X_reckons_15 ?_
  refine aw_icmp_geI (tgt := 50) (1) (4) (by decide +kernel) (by decide +kernel) (by decide) d_X_reckons_16 (fun q => absurd q (by decide)) (fun _ => ?_)
  refine aw_aload_n rfl rfl d_X_reckons_19 ?_
  refine aw_getr fl_X_69 km_0 (by decide) rfl rm_0_39 d_X_reckons_20 ?_
  refine aw_aload_n rfl rfl d_X_reckons_23 ?_
  refine aw_geti fl_X_347 km_0 (by decide) rfl d_X_reckons_24 ?_
  refine aw_top (x2 := nI 0) (Eq.trans (congrFun (upd2_ne (by decide)) (40)) (Eq.trans (congrFun (upd2_ne (by decide)) (40)) (Eq.trans (congrFun (upd2_ne (by decide)) (40)) (Eq.trans (congrFun (upd2_ne (by decide)) (40)) (Eq.trans (congrFun (upd2_ne (by decide)) (40)) (Eq.trans (congrFun (upd2_ne (by decide)) (40)) (Eq.trans (congrFun (upd2_ne (by decide)) (40)) (Eq.trans (congrFun (upd2_ne (by decide)) (40)) (Eq.trans (congrFun (upd2_ne (by decide)) (40)) (Eq.trans (congrFun (upd2_ne (by decide)) (40)) (Eq.trans (congrFun (upd2_ne (by decide)) (40)) (Eq.trans (congrFun (upd2_ne (by decide)) (40)) (Eq.trans (congrFun (upd2_ne (by decide)) (40)) (Eq.trans (congrFun (upd2_ne (by decide)) (40)) (Eq.trans (congrFun (upd2_ne (by decide)) (40)) (Eq.trans (congrFun (upd2_ne (by decide)) (40)) (Eq.trans (congrFun (upd2_ne (by decide)) (40)) (upd2_eq)))))))))))))))))) ?_
  refine aw_iload_n rfl rfl d_X_reckons_27 ?_
  refine aw_iload_n rfl rfl d_X_reckons_28 ?_
  refine as_callS (as := [.int (nI 0), .int (nI 4), .int (nI 1)]) (d' := 4) mo_X_spot lk_X_353 rfl ⟨by decide, by decide⟩ rfl rfl (by decide) d_X_reckons_29 (Ss.of (show As l b 4 y_X_spot KM RM _ (upd2 (upd2 (upd2 (upd2 (upd2 (upd2 (upd2 (upd2 (upd2 (upd2 (upd2 (upd2 (upd2 (upd2 (upd2 (upd2 (upd2 (upd2 I 0 40 (nI 0)) 17 (0) (nI 0)) 17 (1) ((-99 : Int32))) 17 (2) (nI 0)) 17 (3) (nI 0)) 17 (4) (nI 0)) 17 (5) ((-99 : Int32))) 17 (6) (nI 0)) 17 (7) (nI 0)) 17 (8) (nI 0)) 17 (9) ((-99 : Int32))) 17 (10) (nI 0)) 17 (11) (nI 0)) 17 (12) (nI 0)) 17 (13) ((-99 : Int32))) 17 (14) (nI 0)) 17 (15) (nI 0)) 17 (16) (nI 0)) 0 [.int (nI 0), .int (nI 4), .int (nI 1)] [] from ?_))
  refine aw_bipush (v := nI 36) cb_36 d_X_spot_0 ?_
  refine aw_iload_n rfl rfl d_X_spot_2 ?_
  refine aw_imul d_X_spot_3 ?_
  refine aw_top (x2 := nI 0) (by decide +kernel) ?_
  refine aw_iconst (v := nI 4) ci_4 d_X_spot_4 ?_
  refine aw_iload_n rfl rfl d_X_spot_5 ?_
  refine aw_imul d_X_spot_6 ?_
  refine aw_top (x2 := nI 16) (by decide +kernel) ?_
  refine aw_iadd d_X_spot_7 ?_
  refine aw_top (x2 := nI 16) (by decide +kernel) ?_
  refine aw_iload_n rfl rfl d_X_spot_8 ?_
  refine aw_iadd d_X_spot_9 ?_
  refine aw_top (x2 := nI 17) (by decide +kernel) ?_
  refine as_reti rfl d_X_spot_10 ?_
  refine (show As l b 5 y_X_reckons KM RM K2 (upd2 (upd2 (upd2 (upd2 (upd2 (upd2 (upd2 (upd2 (upd2 (upd2 (upd2 (upd2 (upd2 (upd2 (upd2 (upd2 (upd2 (upd2 I 0 40 (nI 0)) 17 (0) (nI 0)) 17 (1) ((-99 : Int32))) 17 (2) (nI 0)) 17 (3) (nI 0)) 17 (4) (nI 0)) 17 (5) ((-99 : Int32))) 17 (6) (nI 0)) 17 (7) (nI 0)) 17 (8) (nI 0)) 17 (9) ((-99 : Int32))) 17 (10) (nI 0)) 17 (11) (nI 0)) 17 (12) (nI 0)) 17 (13) ((-99 : Int32))) 17 (14) (nI 0)) 17 (15) (nI 0)) 17 (16) (nI 0)) 32 [.ref 0, .int (nI 4), .int (nI 1), uu, uu, uu] [.int (nI 17), .ref 17] from ?_)
  refine aw_iload_n rfl rfl d_X_reckons_32 ?_
  refine aw_iconst (v := nI 1) ci_1 d_X_reckons_33 ?_
  refine aw_icmp_neI (tgt := 42) (1) (1) (by decide +kernel) (by decide +kernel) (by decide) d_X_reckons_34 (fun q => absurd q (by decide)) (fun _ => ?_)
  refine aw_bipush (v := (-99 : Int32)) rfl d_X_reckons_37 ?_
  refine aw_goto (tgt := 43) (by decide) d_X_reckons_39 ?_
  refine aw_iast (j := 17) km_17 (vp_in_nI (by decide) (by decide)) (nI_clamp (by decide)) d_X_reckons_43 ?_
  refine aw_iinc (v := nI 2) (lv2 := [.ref 0, .int (nI 4), .int (nI 2), uu, uu, uu]) rfl (by decide +kernel) (by decide) rfl d_X_reckons_44 ?_
  refine aw_goto (tgt := 14) (by decide) d_X_reckons_47 ?_
  refine aw_iload_n rfl rfl d_X_reckons_14 ?_
  refine aw_iconst (v := nI 4) ci_4 d_X_reckons_15 ?_
  refine aw_icmp_geI (tgt := 50) (2) (4) (by decide +kernel) (by decide +kernel) (by decide) d_X_reckons_16 (fun q => absurd q (by decide)) (fun _ => ?_)
  refine aw_aload_n rfl rfl d_X_reckons_19 ?_
  refine aw_getr fl_X_69 km_0 (by decide) rfl rm_0_39 d_X_reckons_20 ?_
  refine aw_aload_n rfl rfl d_X_reckons_23 ?_
  refine aw_geti fl_X_347 km_0 (by decide) rfl d_X_reckons_24 ?_
  refine aw_top (x2 := nI 0) (Eq.trans (congrFun (upd2_ne (by decide)) (40)) (Eq.trans (congrFun (upd2_ne (by decide)) (40)) (Eq.trans (congrFun (upd2_ne (by decide)) (40)) (Eq.trans (congrFun (upd2_ne (by decide)) (40)) (Eq.trans (congrFun (upd2_ne (by decide)) (40)) (Eq.trans (congrFun (upd2_ne (by decide)) (40)) (Eq.trans (congrFun (upd2_ne (by decide)) (40)) (Eq.trans (congrFun (upd2_ne (by decide)) (40)) (Eq.trans (congrFun (upd2_ne (by decide)) (40)) (Eq.trans (congrFun (upd2_ne (by decide)) (40)) (Eq.trans (congrFun (upd2_ne (by decide)) (40)) (Eq.trans (congrFun (upd2_ne (by decide)) (40)) (Eq.trans (congrFun (upd2_ne (by decide)) (40)) (Eq.trans (congrFun (upd2_ne (by decide)) (40)) (Eq.trans (congrFun (upd2_ne (by decide)) (40)) (Eq.trans (congrFun (upd2_ne (by decide)) (40)) (Eq.trans (congrFun (upd2_ne (by decide)) (40)) (Eq.trans (congrFun (upd2_ne (by decide)) (40)) (upd2_eq))))))))))))))))))) ?_
  refine aw_iload_n rfl rfl d_X_reckons_27 ?_
  refine aw_iload_n rfl rfl d_X_reckons_28 ?_
  refine as_callS (as := [.int (nI 0), .int (nI 4), .int (nI 2)]) (d' := 4) mo_X_spot lk_X_353 rfl ⟨by decide, by decide⟩ rfl rfl (by decide) d_X_reckons_29 (Ss.of (show As l b 4 y_X_spot KM RM _ (upd2 (upd2 (upd2 (upd2 (upd2 (upd2 (upd2 (upd2 (upd2 (upd2 (upd2 (upd2 (upd2 (upd2 (upd2 (upd2 (upd2 (upd2 (upd2 I 0 40 (nI 0)) 17 (0) (nI 0)) 17 (1) ((-99 : Int32))) 17 (2) (nI 0)) 17 (3) (nI 0)) 17 (4) (nI 0)) 17 (5) ((-99 : Int32))) 17 (6) (nI 0)) 17 (7) (nI 0)) 17 (8) (nI 0)) 17 (9) ((-99 : Int32))) 17 (10) (nI 0)) 17 (11) (nI 0)) 17 (12) (nI 0)) 17 (13) ((-99 : Int32))) 17 (14) (nI 0)) 17 (15) (nI 0)) 17 (16) (nI 0)) 17 (17) ((-99 : Int32))) 0 [.int (nI 0), .int (nI 4), .int (nI 2)] [] from ?_))
  refine aw_bipush (v := nI 36) cb_36 d_X_spot_0 ?_
  refine aw_iload_n rfl rfl d_X_spot_2 ?_
  refine aw_imul d_X_spot_3 ?_
  refine aw_top (x2 := nI 0) (by decide +kernel) ?_
  refine aw_iconst (v := nI 4) ci_4 d_X_spot_4 ?_
  refine aw_iload_n rfl rfl d_X_spot_5 ?_
  refine aw_imul d_X_spot_6 ?_
  refine aw_top (x2 := nI 16) (by decide +kernel) ?_
  refine aw_iadd d_X_spot_7 ?_
  refine aw_top (x2 := nI 16) (by decide +kernel) ?_
  refine aw_iload_n rfl rfl d_X_spot_8 ?_
  refine aw_iadd d_X_spot_9 ?_
  refine aw_top (x2 := nI 18) (by decide +kernel) ?_
  refine as_reti rfl d_X_spot_10 ?_
  refine (show As l b 5 y_X_reckons KM RM K2 (upd2 (upd2 (upd2 (upd2 (upd2 (upd2 (upd2 (upd2 (upd2 (upd2 (upd2 (upd2 (upd2 (upd2 (upd2 (upd2 (upd2 (upd2 (upd2 I 0 40 (nI 0)) 17 (0) (nI 0)) 17 (1) ((-99 : Int32))) 17 (2) (nI 0)) 17 (3) (nI 0)) 17 (4) (nI 0)) 17 (5) ((-99 : Int32))) 17 (6) (nI 0)) 17 (7) (nI 0)) 17 (8) (nI 0)) 17 (9) ((-99 : Int32))) 17 (10) (nI 0)) 17 (11) (nI 0)) 17 (12) (nI 0)) 17 (13) ((-99 : Int32))) 17 (14) (nI 0)) 17 (15) (nI 0)) 17 (16) (nI 0)) 17 (17) ((-99 : Int32))) 32 [.ref 0, .int (nI 4), .int (nI 2), uu, uu, uu] [.int (nI 18), .ref 17] from ?_)
  refine aw_iload_n rfl rfl d_X_reckons_32 ?_
  refine aw_iconst (v := nI 1) ci_1 d_X_reckons_33 ?_
  refine aw_icmp_neI (tgt := 42) (2) (1) (by decide +kernel) (by decide +kernel) (by decide) d_X_reckons_34 (fun _ => ?_) (fun q => absurd q (by decide))
  refine aw_iconst (v := nI 0) ci_0 d_X_reckons_42 ?_
  refine aw_iast (j := 18) km_17 (vp_in_nI (by decide) (by decide)) (nI_clamp (by decide)) d_X_reckons_43 ?_
  refine aw_iinc (v := nI 3) (lv2 := [.ref 0, .int (nI 4), .int (nI 3), uu, uu, uu]) rfl (by decide +kernel) (by decide) rfl d_X_reckons_44 ?_
  refine aw_goto (tgt := 14) (by decide) d_X_reckons_47 ?_
  refine aw_iload_n rfl rfl d_X_reckons_14 ?_
  refine aw_iconst (v := nI 4) ci_4 d_X_reckons_15 ?_
  refine aw_icmp_geI (tgt := 50) (3) (4) (by decide +kernel) (by decide +kernel) (by decide) d_X_reckons_16 (fun q => absurd q (by decide)) (fun _ => ?_)
  refine aw_aload_n rfl rfl d_X_reckons_19 ?_
  refine aw_getr fl_X_69 km_0 (by decide) rfl rm_0_39 d_X_reckons_20 ?_
  refine aw_aload_n rfl rfl d_X_reckons_23 ?_
  refine aw_geti fl_X_347 km_0 (by decide) rfl d_X_reckons_24 ?_
  refine aw_top (x2 := nI 0) (Eq.trans (congrFun (upd2_ne (by decide)) (40)) (Eq.trans (congrFun (upd2_ne (by decide)) (40)) (Eq.trans (congrFun (upd2_ne (by decide)) (40)) (Eq.trans (congrFun (upd2_ne (by decide)) (40)) (Eq.trans (congrFun (upd2_ne (by decide)) (40)) (Eq.trans (congrFun (upd2_ne (by decide)) (40)) (Eq.trans (congrFun (upd2_ne (by decide)) (40)) (Eq.trans (congrFun (upd2_ne (by decide)) (40)) (Eq.trans (congrFun (upd2_ne (by decide)) (40)) (Eq.trans (congrFun (upd2_ne (by decide)) (40)) (Eq.trans (congrFun (upd2_ne (by decide)) (40)) (Eq.trans (congrFun (upd2_ne (by decide)) (40)) (Eq.trans (congrFun (upd2_ne (by decide)) (40)) (Eq.trans (congrFun (upd2_ne (by decide)) (40)) (Eq.trans (congrFun (upd2_ne (by decide)) (40)) (Eq.trans (congrFun (upd2_ne (by decide)) (40)) (Eq.trans (congrFun (upd2_ne (by decide)) (40)) (Eq.trans (congrFun (upd2_ne (by decide)) (40)) (Eq.trans (congrFun (upd2_ne (by decide)) (40)) (upd2_eq)))))))))))))))))))) ?_
  refine aw_iload_n rfl rfl d_X_reckons_27 ?_
  refine aw_iload_n rfl rfl d_X_reckons_28 ?_
  refine as_callS (as := [.int (nI 0), .int (nI 4), .int (nI 3)]) (d' := 4) mo_X_spot lk_X_353 rfl ⟨by decide, by decide⟩ rfl rfl (by decide) d_X_reckons_29 (Ss.of (show As l b 4 y_X_spot KM RM _ (upd2 (upd2 (upd2 (upd2 (upd2 (upd2 (upd2 (upd2 (upd2 (upd2 (upd2 (upd2 (upd2 (upd2 (upd2 (upd2 (upd2 (upd2 (upd2 (upd2 I 0 40 (nI 0)) 17 (0) (nI 0)) 17 (1) ((-99 : Int32))) 17 (2) (nI 0)) 17 (3) (nI 0)) 17 (4) (nI 0)) 17 (5) ((-99 : Int32))) 17 (6) (nI 0)) 17 (7) (nI 0)) 17 (8) (nI 0)) 17 (9) ((-99 : Int32))) 17 (10) (nI 0)) 17 (11) (nI 0)) 17 (12) (nI 0)) 17 (13) ((-99 : Int32))) 17 (14) (nI 0)) 17 (15) (nI 0)) 17 (16) (nI 0)) 17 (17) ((-99 : Int32))) 17 (18) (nI 0)) 0 [.int (nI 0), .int (nI 4), .int (nI 3)] [] from ?_))
  refine aw_bipush (v := nI 36) cb_36 d_X_spot_0 ?_
  refine aw_iload_n rfl rfl d_X_spot_2 ?_
  refine aw_imul d_X_spot_3 ?_
  refine aw_top (x2 := nI 0) (by decide +kernel) ?_
  refine aw_iconst (v := nI 4) ci_4 d_X_spot_4 ?_
  refine aw_iload_n rfl rfl d_X_spot_5 ?_
  refine aw_imul d_X_spot_6 ?_
  refine aw_top (x2 := nI 16) (by decide +kernel) ?_
  refine aw_iadd d_X_spot_7 ?_
  refine aw_top (x2 := nI 16) (by decide +kernel) ?_
  refine aw_iload_n rfl rfl d_X_spot_8 ?_
  refine aw_iadd d_X_spot_9 ?_
  refine aw_top (x2 := nI 19) (by decide +kernel) ?_
  refine as_reti rfl d_X_spot_10 ?_
  refine (show As l b 5 y_X_reckons KM RM K2 (upd2 (upd2 (upd2 (upd2 (upd2 (upd2 (upd2 (upd2 (upd2 (upd2 (upd2 (upd2 (upd2 (upd2 (upd2 (upd2 (upd2 (upd2 (upd2 (upd2 I 0 40 (nI 0)) 17 (0) (nI 0)) 17 (1) ((-99 : Int32))) 17 (2) (nI 0)) 17 (3) (nI 0)) 17 (4) (nI 0)) 17 (5) ((-99 : Int32))) 17 (6) (nI 0)) 17 (7) (nI 0)) 17 (8) (nI 0)) 17 (9) ((-99 : Int32))) 17 (10) (nI 0)) 17 (11) (nI 0)) 17 (12) (nI 0)) 17 (13) ((-99 : Int32))) 17 (14) (nI 0)) 17 (15) (nI 0)) 17 (16) (nI 0)) 17 (17) ((-99 : Int32))) 17 (18) (nI 0)) 32 [.ref 0, .int (nI 4), .int (nI 3), uu, uu, uu] [.int (nI 19), .ref 17] from ?_)
  refine aw_iload_n rfl rfl d_X_reckons_32 ?_
  refine aw_iconst (v := nI 1) ci_1 d_X_reckons_33 ?_
  refine aw_icmp_neI (tgt := 42) (3) (1) (by decide +kernel) (by decide +kernel) (by decide) d_X_reckons_34 (fun _ => ?_) (fun q => absurd q (by decide))
  refine aw_iconst (v := nI 0) ci_0 d_X_reckons_42 ?_
  refine aw_iast (j := 19) km_17 (vp_in_nI (by decide) (by decide)) (nI_clamp (by decide)) d_X_reckons_43 ?_
  refine aw_iinc (v := nI 4) (lv2 := [.ref 0, .int (nI 4), .int (nI 4), uu, uu, uu]) rfl (by decide +kernel) (by decide) rfl d_X_reckons_44 ?_
  refine aw_goto (tgt := 14) (by decide) d_X_reckons_47 ?_
  refine aw_iload_n rfl rfl d_X_reckons_14 ?_
  refine aw_iconst (v := nI 4) ci_4 d_X_reckons_15 ?_
  refine aw_icmp_geI (tgt := 50) (4) (4) (by decide +kernel) (by decide +kernel) (by decide) d_X_reckons_16 (fun _ => ?_) (fun q => absurd q (by decide))
  refine aw_iinc (v := nI 5) (lv2 := [.ref 0, .int (nI 5), .int (nI 4), uu, uu, uu]) rfl (by decide +kernel) (by decide) rfl d_X_reckons_50 ?_
  refine aw_goto (tgt := 6) (by decide) d_X_reckons_53 ?_
  refine aw_iload_n rfl rfl d_X_reckons_6 ?_
  refine aw_bipush (v := nI 9) cb_9 d_X_reckons_7 ?_
  refine aw_icmp_geI (tgt := 56) (5) (9) (by decide +kernel) (by decide +kernel) (by decide) d_X_reckons_9 (fun q => absurd q (by decide)) (fun _ => ?_)
  refine aw_iconst (v := nI 0) ci_0 d_X_reckons_12 ?_
  refine aw_istore_n (lv2 := [.ref 0, .int (nI 5), .int (nI 0), uu, uu, uu]) rfl (by decide) rfl d_X_reckons_13 ?_
  refine aw_iload_n rfl rfl d_X_reckons_14 ?_
  refine aw_iconst (v := nI 4) ci_4 d_X_reckons_15 ?_
  refine aw_icmp_geI (tgt := 50) (0) (4) (by decide +kernel) (by decide +kernel) (by decide) d_X_reckons_16 (fun q => absurd q (by decide)) (fun _ => ?_)
  refine aw_aload_n rfl rfl d_X_reckons_19 ?_
  refine aw_getr fl_X_69 km_0 (by decide) rfl rm_0_39 d_X_reckons_20 ?_
  refine aw_aload_n rfl rfl d_X_reckons_23 ?_
  refine aw_geti fl_X_347 km_0 (by decide) rfl d_X_reckons_24 ?_
  refine aw_top (x2 := nI 0) (Eq.trans (congrFun (upd2_ne (by decide)) (40)) (Eq.trans (congrFun (upd2_ne (by decide)) (40)) (Eq.trans (congrFun (upd2_ne (by decide)) (40)) (Eq.trans (congrFun (upd2_ne (by decide)) (40)) (Eq.trans (congrFun (upd2_ne (by decide)) (40)) (Eq.trans (congrFun (upd2_ne (by decide)) (40)) (Eq.trans (congrFun (upd2_ne (by decide)) (40)) (Eq.trans (congrFun (upd2_ne (by decide)) (40)) (Eq.trans (congrFun (upd2_ne (by decide)) (40)) (Eq.trans (congrFun (upd2_ne (by decide)) (40)) (Eq.trans (congrFun (upd2_ne (by decide)) (40)) (Eq.trans (congrFun (upd2_ne (by decide)) (40)) (Eq.trans (congrFun (upd2_ne (by decide)) (40)) (Eq.trans (congrFun (upd2_ne (by decide)) (40)) (Eq.trans (congrFun (upd2_ne (by decide)) (40)) (Eq.trans (congrFun (upd2_ne (by decide)) (40)) (Eq.trans (congrFun (upd2_ne (by decide)) (40)) (Eq.trans (congrFun (upd2_ne (by decide)) (40)) (Eq.trans (congrFun (upd2_ne (by decide)) (40)) (Eq.trans (congrFun (upd2_ne (by decide)) (40)) (upd2_eq))))))))))))))))))))) ?_
  refine aw_iload_n rfl rfl d_X_reckons_27 ?_
  refine aw_iload_n rfl rfl d_X_reckons_28 ?_
  refine as_callS (as := [.int (nI 0), .int (nI 5), .int (nI 0)]) (d' := 4) mo_X_spot lk_X_353 rfl ⟨by decide, by decide⟩ rfl rfl (by decide) d_X_reckons_29 (Ss.of (show As l b 4 y_X_spot KM RM _ (upd2 (upd2 (upd2 (upd2 (upd2 (upd2 (upd2 (upd2 (upd2 (upd2 (upd2 (upd2 (upd2 (upd2 (upd2 (upd2 (upd2 (upd2 (upd2 (upd2 (upd2 I 0 40 (nI 0)) 17 (0) (nI 0)) 17 (1) ((-99 : Int32))) 17 (2) (nI 0)) 17 (3) (nI 0)) 17 (4) (nI 0)) 17 (5) ((-99 : Int32))) 17 (6) (nI 0)) 17 (7) (nI 0)) 17 (8) (nI 0)) 17 (9) ((-99 : Int32))) 17 (10) (nI 0)) 17 (11) (nI 0)) 17 (12) (nI 0)) 17 (13) ((-99 : Int32))) 17 (14) (nI 0)) 17 (15) (nI 0)) 17 (16) (nI 0)) 17 (17) ((-99 : Int32))) 17 (18) (nI 0)) 17 (19) (nI 0)) 0 [.int (nI 0), .int (nI 5), .int (nI 0)] [] from ?_))
  refine aw_bipush (v := nI 36) cb_36 d_X_spot_0 ?_
  refine aw_iload_n rfl rfl d_X_spot_2 ?_
  refine aw_imul d_X_spot_3 ?_
  refine aw_top (x2 := nI 0) (by decide +kernel) ?_
  refine aw_iconst (v := nI 4) ci_4 d_X_spot_4 ?_
  refine aw_iload_n rfl rfl d_X_spot_5 ?_
  refine aw_imul d_X_spot_6 ?_
  refine aw_top (x2 := nI 20) (by decide +kernel) ?_
  refine aw_iadd d_X_spot_7 ?_
  refine aw_top (x2 := nI 20) (by decide +kernel) ?_
  refine aw_iload_n rfl rfl d_X_spot_8 ?_
  refine aw_iadd d_X_spot_9 ?_
  refine aw_top (x2 := nI 20) (by decide +kernel) ?_
  refine as_reti rfl d_X_spot_10 ?_
  refine (show As l b 5 y_X_reckons KM RM K2 (upd2 (upd2 (upd2 (upd2 (upd2 (upd2 (upd2 (upd2 (upd2 (upd2 (upd2 (upd2 (upd2 (upd2 (upd2 (upd2 (upd2 (upd2 (upd2 (upd2 (upd2 I 0 40 (nI 0)) 17 (0) (nI 0)) 17 (1) ((-99 : Int32))) 17 (2) (nI 0)) 17 (3) (nI 0)) 17 (4) (nI 0)) 17 (5) ((-99 : Int32))) 17 (6) (nI 0)) 17 (7) (nI 0)) 17 (8) (nI 0)) 17 (9) ((-99 : Int32))) 17 (10) (nI 0)) 17 (11) (nI 0)) 17 (12) (nI 0)) 17 (13) ((-99 : Int32))) 17 (14) (nI 0)) 17 (15) (nI 0)) 17 (16) (nI 0)) 17 (17) ((-99 : Int32))) 17 (18) (nI 0)) 17 (19) (nI 0)) 32 [.ref 0, .int (nI 5), .int (nI 0), uu, uu, uu] [.int (nI 20), .ref 17] from ?_)
  refine aw_iload_n rfl rfl d_X_reckons_32 ?_
  refine aw_iconst (v := nI 1) ci_1 d_X_reckons_33 ?_
  refine aw_icmp_neI (tgt := 42) (0) (1) (by decide +kernel) (by decide +kernel) (by decide) d_X_reckons_34 (fun _ => ?_) (fun q => absurd q (by decide))
  refine aw_iconst (v := nI 0) ci_0 d_X_reckons_42 ?_
  refine aw_iast (j := 20) km_17 (vp_in_nI (by decide) (by decide)) (nI_clamp (by decide)) d_X_reckons_43 ?_
  refine aw_iinc (v := nI 1) (lv2 := [.ref 0, .int (nI 5), .int (nI 1), uu, uu, uu]) rfl (by decide +kernel) (by decide) rfl d_X_reckons_44 ?_
  refine aw_goto (tgt := 14) (by decide) d_X_reckons_47 ?_
  refine aw_iload_n rfl rfl d_X_reckons_14 ?_
  refine aw_iconst (v := nI 4) ci_4 d_X_reckons_15 ?_
  refine aw_icmp_geI (tgt := 50) (1) (4) (by decide +kernel) (by decide +kernel) (by decide) d_X_reckons_16 (fun q => absurd q (by decide)) (fun _ => ?_)
  refine aw_aload_n rfl rfl d_X_reckons_19 ?_
  refine aw_getr fl_X_69 km_0 (by decide) rfl rm_0_39 d_X_reckons_20 ?_
  refine aw_aload_n rfl rfl d_X_reckons_23 ?_
  refine aw_geti fl_X_347 km_0 (by decide) rfl d_X_reckons_24 ?_
  refine aw_top (x2 := nI 0) (Eq.trans (congrFun (upd2_ne (by decide)) (40)) (Eq.trans (congrFun (upd2_ne (by decide)) (40)) (Eq.trans (congrFun (upd2_ne (by decide)) (40)) (Eq.trans (congrFun (upd2_ne (by decide)) (40)) (Eq.trans (congrFun (upd2_ne (by decide)) (40)) (Eq.trans (congrFun (upd2_ne (by decide)) (40)) (Eq.trans (congrFun (upd2_ne (by decide)) (40)) (Eq.trans (congrFun (upd2_ne (by decide)) (40)) (Eq.trans (congrFun (upd2_ne (by decide)) (40)) (Eq.trans (congrFun (upd2_ne (by decide)) (40)) (Eq.trans (congrFun (upd2_ne (by decide)) (40)) (Eq.trans (congrFun (upd2_ne (by decide)) (40)) (Eq.trans (congrFun (upd2_ne (by decide)) (40)) (Eq.trans (congrFun (upd2_ne (by decide)) (40)) (Eq.trans (congrFun (upd2_ne (by decide)) (40)) (Eq.trans (congrFun (upd2_ne (by decide)) (40)) (Eq.trans (congrFun (upd2_ne (by decide)) (40)) (Eq.trans (congrFun (upd2_ne (by decide)) (40)) (Eq.trans (congrFun (upd2_ne (by decide)) (40)) (Eq.trans (congrFun (upd2_ne (by decide)) (40)) (Eq.trans (congrFun (upd2_ne (by decide)) (40)) (upd2_eq)))))))))))))))))))))) ?_
  refine aw_iload_n rfl rfl d_X_reckons_27 ?_
  refine aw_iload_n rfl rfl d_X_reckons_28 ?_
  refine as_callS (as := [.int (nI 0), .int (nI 5), .int (nI 1)]) (d' := 4) mo_X_spot lk_X_353 rfl ⟨by decide, by decide⟩ rfl rfl (by decide) d_X_reckons_29 (Ss.of (show As l b 4 y_X_spot KM RM _ (upd2 (upd2 (upd2 (upd2 (upd2 (upd2 (upd2 (upd2 (upd2 (upd2 (upd2 (upd2 (upd2 (upd2 (upd2 (upd2 (upd2 (upd2 (upd2 (upd2 (upd2 (upd2 I 0 40 (nI 0)) 17 (0) (nI 0)) 17 (1) ((-99 : Int32))) 17 (2) (nI 0)) 17 (3) (nI 0)) 17 (4) (nI 0)) 17 (5) ((-99 : Int32))) 17 (6) (nI 0)) 17 (7) (nI 0)) 17 (8) (nI 0)) 17 (9) ((-99 : Int32))) 17 (10) (nI 0)) 17 (11) (nI 0)) 17 (12) (nI 0)) 17 (13) ((-99 : Int32))) 17 (14) (nI 0)) 17 (15) (nI 0)) 17 (16) (nI 0)) 17 (17) ((-99 : Int32))) 17 (18) (nI 0)) 17 (19) (nI 0)) 17 (20) (nI 0)) 0 [.int (nI 0), .int (nI 5), .int (nI 1)] [] from ?_))
  refine aw_bipush (v := nI 36) cb_36 d_X_spot_0 ?_
  refine aw_iload_n rfl rfl d_X_spot_2 ?_
  refine aw_imul d_X_spot_3 ?_
  refine aw_top (x2 := nI 0) (by decide +kernel) ?_
  refine aw_iconst (v := nI 4) ci_4 d_X_spot_4 ?_
  refine aw_iload_n rfl rfl d_X_spot_5 ?_
  refine aw_imul d_X_spot_6 ?_
  refine aw_top (x2 := nI 20) (by decide +kernel) ?_
  refine aw_iadd d_X_spot_7 ?_
  refine aw_top (x2 := nI 20) (by decide +kernel) ?_
  refine aw_iload_n rfl rfl d_X_spot_8 ?_
  refine aw_iadd d_X_spot_9 ?_
  refine aw_top (x2 := nI 21) (by decide +kernel) ?_
  refine as_reti rfl d_X_spot_10 ?_
  refine (show As l b 5 y_X_reckons KM RM K2 (upd2 (upd2 (upd2 (upd2 (upd2 (upd2 (upd2 (upd2 (upd2 (upd2 (upd2 (upd2 (upd2 (upd2 (upd2 (upd2 (upd2 (upd2 (upd2 (upd2 (upd2 (upd2 I 0 40 (nI 0)) 17 (0) (nI 0)) 17 (1) ((-99 : Int32))) 17 (2) (nI 0)) 17 (3) (nI 0)) 17 (4) (nI 0)) 17 (5) ((-99 : Int32))) 17 (6) (nI 0)) 17 (7) (nI 0)) 17 (8) (nI 0)) 17 (9) ((-99 : Int32))) 17 (10) (nI 0)) 17 (11) (nI 0)) 17 (12) (nI 0)) 17 (13) ((-99 : Int32))) 17 (14) (nI 0)) 17 (15) (nI 0)) 17 (16) (nI 0)) 17 (17) ((-99 : Int32))) 17 (18) (nI 0)) 17 (19) (nI 0)) 17 (20) (nI 0)) 32 [.ref 0, .int (nI 5), .int (nI 1), uu, uu, uu] [.int (nI 21), .ref 17] from ?_)
  refine aw_iload_n rfl rfl d_X_reckons_32 ?_
  refine aw_iconst (v := nI 1) ci_1 d_X_reckons_33 ?_
  refine aw_icmp_neI (tgt := 42) (1) (1) (by decide +kernel) (by decide +kernel) (by decide) d_X_reckons_34 (fun q => absurd q (by decide)) (fun _ => ?_)
  refine aw_bipush (v := (-99 : Int32)) rfl d_X_reckons_37 ?_
  refine aw_goto (tgt := 43) (by decide) d_X_reckons_39 ?_
  refine aw_iast (j := 21) km_17 (vp_in_nI (by decide) (by decide)) (nI_clamp (by decide)) d_X_reckons_43 ?_
  refine aw_iinc (v := nI 2) (lv2 := [.ref 0, .int (nI 5), .int (nI 2), uu, uu, uu]) rfl (by decide +kernel) (by decide) rfl d_X_reckons_44 ?_
  refine aw_goto (tgt := 14) (by decide) d_X_reckons_47 ?_
  refine aw_iload_n rfl rfl d_X_reckons_14 ?_
  refine aw_iconst (v := nI 4) ci_4 d_X_reckons_15 ?_
  refine aw_icmp_geI (tgt := 50) (2) (4) (by decide +kernel) (by decide +kernel) (by decide) d_X_reckons_16 (fun q => absurd q (by decide)) (fun _ => ?_)
  refine aw_aload_n rfl rfl d_X_reckons_19 ?_
  refine aw_getr fl_X_69 km_0 (by decide) rfl rm_0_39 d_X_reckons_20 ?_
  refine aw_aload_n rfl rfl d_X_reckons_23 ?_
  refine aw_geti fl_X_347 km_0 (by decide) rfl d_X_reckons_24 ?_
  refine aw_top (x2 := nI 0) (Eq.trans (congrFun (upd2_ne (by decide)) (40)) (Eq.trans (congrFun (upd2_ne (by decide)) (40)) (Eq.trans (congrFun (upd2_ne (by decide)) (40)) (Eq.trans (congrFun (upd2_ne (by decide)) (40)) (Eq.trans (congrFun (upd2_ne (by decide)) (40)) (Eq.trans (congrFun (upd2_ne (by decide)) (40)) (Eq.trans (congrFun (upd2_ne (by decide)) (40)) (Eq.trans (congrFun (upd2_ne (by decide)) (40)) (Eq.trans (congrFun (upd2_ne (by decide)) (40)) (Eq.trans (congrFun (upd2_ne (by decide)) (40)) (Eq.trans (congrFun (upd2_ne (by decide)) (40)) (Eq.trans (congrFun (upd2_ne (by decide)) (40)) (Eq.trans (congrFun (upd2_ne (by decide)) (40)) (Eq.trans (congrFun (upd2_ne (by decide)) (40)) (Eq.trans (congrFun (upd2_ne (by decide)) (40)) (Eq.trans (congrFun (upd2_ne (by decide)) (40)) (Eq.trans (congrFun (upd2_ne (by decide)) (40)) (Eq.trans (congrFun (upd2_ne (by decide)) (40)) (Eq.trans (congrFun (upd2_ne (by decide)) (40)) (Eq.trans (congrFun (upd2_ne (by decide)) (40)) (Eq.trans (congrFun (upd2_ne (by decide)) (40)) (Eq.trans (congrFun (upd2_ne (by decide)) (40)) (upd2_eq))))))))))))))))))))))) ?_
  refine aw_iload_n rfl rfl d_X_reckons_27 ?_
  refine aw_iload_n rfl rfl d_X_reckons_28 ?_
  refine as_callS (as := [.int (nI 0), .int (nI 5), .int (nI 2)]) (d' := 4) mo_X_spot lk_X_353 rfl ⟨by decide, by decide⟩ rfl rfl (by decide) d_X_reckons_29 (Ss.of (show As l b 4 y_X_spot KM RM _ (upd2 (upd2 (upd2 (upd2 (upd2 (upd2 (upd2 (upd2 (upd2 (upd2 (upd2 (upd2 (upd2 (upd2 (upd2 (upd2 (upd2 (upd2 (upd2 (upd2 (upd2 (upd2 (upd2 I 0 40 (nI 0)) 17 (0) (nI 0)) 17 (1) ((-99 : Int32))) 17 (2) (nI 0)) 17 (3) (nI 0)) 17 (4) (nI 0)) 17 (5) ((-99 : Int32))) 17 (6) (nI 0)) 17 (7) (nI 0)) 17 (8) (nI 0)) 17 (9) ((-99 : Int32))) 17 (10) (nI 0)) 17 (11) (nI 0)) 17 (12) (nI 0)) 17 (13) ((-99 : Int32))) 17 (14) (nI 0)) 17 (15) (nI 0)) 17 (16) (nI 0)) 17 (17) ((-99 : Int32))) 17 (18) (nI 0)) 17 (19) (nI 0)) 17 (20) (nI 0)) 17 (21) ((-99 : Int32))) 0 [.int (nI 0), .int (nI 5), .int (nI 2)] [] from ?_))
  refine aw_bipush (v := nI 36) cb_36 d_X_spot_0 ?_
  refine aw_iload_n rfl rfl d_X_spot_2 ?_
  refine aw_imul d_X_spot_3 ?_
  refine aw_top (x2 := nI 0) (by decide +kernel) ?_
  refine aw_iconst (v := nI 4) ci_4 d_X_spot_4 ?_
  refine aw_iload_n rfl rfl d_X_spot_5 ?_
  refine aw_imul d_X_spot_6 ?_
  refine aw_top (x2 := nI 20) (by decide +kernel) ?_
  refine aw_iadd d_X_spot_7 ?_
  refine aw_top (x2 := nI 20) (by decide +kernel) ?_
  refine aw_iload_n rfl rfl d_X_spot_8 ?_
  refine aw_iadd d_X_spot_9 ?_
  refine aw_top (x2 := nI 22) (by decide +kernel) ?_
  refine as_reti rfl d_X_spot_10 ?_
  refine (show As l b 5 y_X_reckons KM RM K2 (upd2 (upd2 (upd2 (upd2 (upd2 (upd2 (upd2 (upd2 (upd2 (upd2 (upd2 (upd2 (upd2 (upd2 (upd2 (upd2 (upd2 (upd2 (upd2 (upd2 (upd2 (upd2 (upd2 I 0 40 (nI 0)) 17 (0) (nI 0)) 17 (1) ((-99 : Int32))) 17 (2) (nI 0)) 17 (3) (nI 0)) 17 (4) (nI 0)) 17 (5) ((-99 : Int32))) 17 (6) (nI 0)) 17 (7) (nI 0)) 17 (8) (nI 0)) 17 (9) ((-99 : Int32))) 17 (10) (nI 0)) 17 (11) (nI 0)) 17 (12) (nI 0)) 17 (13) ((-99 : Int32))) 17 (14) (nI 0)) 17 (15) (nI 0)) 17 (16) (nI 0)) 17 (17) ((-99 : Int32))) 17 (18) (nI 0)) 17 (19) (nI 0)) 17 (20) (nI 0)) 17 (21) ((-99 : Int32))) 32 [.ref 0, .int (nI 5), .int (nI 2), uu, uu, uu] [.int (nI 22), .ref 17] from ?_)
  refine aw_iload_n rfl rfl d_X_reckons_32 ?_
  refine aw_iconst (v := nI 1) ci_1 d_X_reckons_33 ?_
  refine aw_icmp_neI (tgt := 42) (2) (1) (by decide +kernel) (by decide +kernel) (by decide) d_X_reckons_34 (fun _ => ?_) (fun q => absurd q (by decide))
  refine aw_iconst (v := nI 0) ci_0 d_X_reckons_42 ?_
  refine aw_iast (j := 22) km_17 (vp_in_nI (by decide) (by decide)) (nI_clamp (by decide)) d_X_reckons_43 ?_
  refine aw_iinc (v := nI 3) (lv2 := [.ref 0, .int (nI 5), .int (nI 3), uu, uu, uu]) rfl (by decide +kernel) (by decide) rfl d_X_reckons_44 ?_
  refine aw_goto (tgt := 14) (by decide) d_X_reckons_47 ?_
  refine aw_iload_n rfl rfl d_X_reckons_14 ?_
  refine aw_iconst (v := nI 4) ci_4 d_X_reckons_15 ?_
  refine aw_icmp_geI (tgt := 50) (3) (4) (by decide +kernel) (by decide +kernel) (by decide) d_X_reckons_16 (fun q => absurd q (by decide)) (fun _ => ?_)
  refine aw_aload_n rfl rfl d_X_reckons_19 ?_
  refine aw_getr fl_X_69 km_0 (by decide) rfl rm_0_39 d_X_reckons_20 ?_
  refine aw_aload_n rfl rfl d_X_reckons_23 ?_
  refine aw_geti fl_X_347 km_0 (by decide) rfl d_X_reckons_24 ?_
  refine aw_top (x2 := nI 0) (Eq.trans (congrFun (upd2_ne (by decide)) (40)) (Eq.trans (congrFun (upd2_ne (by decide)) (40)) (Eq.trans (congrFun (upd2_ne (by decide)) (40)) (Eq.trans (congrFun (upd2_ne (by decide)) (40)) (Eq.trans (congrFun (upd2_ne (by decide)) (40)) (Eq.trans (congrFun (upd2_ne (by decide)) (40)) (Eq.trans (congrFun (upd2_ne (by decide)) (40)) (Eq.trans (congrFun (upd2_ne (by decide)) (40)) (Eq.trans (congrFun (upd2_ne (by decide)) (40)) (Eq.trans (congrFun (upd2_ne (by decide)) (40)) (Eq.trans (congrFun (upd2_ne (by decide)) (40)) (Eq.trans (congrFun (upd2_ne (by decide)) (40)) (Eq.trans (congrFun (upd2_ne (by decide)) (40)) (Eq.trans (congrFun (upd2_ne (by decide)) (40)) (Eq.trans (congrFun (upd2_ne (by decide)) (40)) (Eq.trans (congrFun (upd2_ne (by decide)) (40)) (Eq.trans (congrFun (upd2_ne (by decide)) (40)) (Eq.trans (congrFun (upd2_ne (by decide)) (40)) (Eq.trans (congrFun (upd2_ne (by decide)) (40)) (Eq.trans (congrFun (upd2_ne (by decide)) (40)) (Eq.trans (congrFun (upd2_ne (by decide)) (40)) (Eq.trans (congrFun (upd2_ne (by decide)) (40)) (Eq.trans (congrFun (upd2_ne (by decide)) (40)) (upd2_eq)))))))))))))))))))))))) ?_
  refine aw_iload_n rfl rfl d_X_reckons_27 ?_
  refine aw_iload_n rfl rfl d_X_reckons_28 ?_
  refine as_callS (as := [.int (nI 0), .int (nI 5), .int (nI 3)]) (d' := 4) mo_X_spot lk_X_353 rfl ⟨by decide, by decide⟩ rfl rfl (by decide) d_X_reckons_29 (Ss.of (show As l b 4 y_X_spot KM RM _ (upd2 (upd2 (upd2 (upd2 (upd2 (upd2 (upd2 (upd2 (upd2 (upd2 (upd2 (upd2 (upd2 (upd2 (upd2 (upd2 (upd2 (upd2 (upd2 (upd2 (upd2 (upd2 (upd2 (upd2 I 0 40 (nI 0)) 17 (0) (nI 0)) 17 (1) ((-99 : Int32))) 17 (2) (nI 0)) 17 (3) (nI 0)) 17 (4) (nI 0)) 17 (5) ((-99 : Int32))) 17 (6) (nI 0)) 17 (7) (nI 0)) 17 (8) (nI 0)) 17 (9) ((-99 : Int32))) 17 (10) (nI 0)) 17 (11) (nI 0)) 17 (12) (nI 0)) 17 (13) ((-99 : Int32))) 17 (14) (nI 0)) 17 (15) (nI 0)) 17 (16) (nI 0)) 17 (17) ((-99 : Int32))) 17 (18) (nI 0)) 17 (19) (nI 0)) 17 (20) (nI 0)) 17 (21) ((-99 : Int32))) 17 (22) (nI 0)) 0 [.int (nI 0), .int (nI 5), .int (nI 3)] [] from ?_))
  refine aw_bipush (v := nI 36) cb_36 d_X_spot_0 ?_
  refine aw_iload_n rfl rfl d_X_spot_2 ?_
  refine aw_imul d_X_spot_3 ?_
  refine aw_top (x2 := nI 0) (by decide +kernel) ?_
  refine aw_iconst (v := nI 4) ci_4 d_X_spot_4 ?_
  refine aw_iload_n rfl rfl d_X_spot_5 ?_
  refine aw_imul d_X_spot_6 ?_
  refine aw_top (x2 := nI 20) (by decide +kernel) ?_
  refine aw_iadd d_X_spot_7 ?_
  refine aw_top (x2 := nI 20) (by decide +kernel) ?_
  refine aw_iload_n rfl rfl d_X_spot_8 ?_
  refine aw_iadd d_X_spot_9 ?_
  refine aw_top (x2 := nI 23) (by decide +kernel) ?_
  refine as_reti rfl d_X_spot_10 ?_
  refine (show As l b 5 y_X_reckons KM RM K2 (upd2 (upd2 (upd2 (upd2 (upd2 (upd2 (upd2 (upd2 (upd2 (upd2 (upd2 (upd2 (upd2 (upd2 (upd2 (upd2 (upd2 (upd2 (upd2 (upd2 (upd2 (upd2 (upd2 (upd2 I 0 40 (nI 0)) 17 (0) (nI 0)) 17 (1) ((-99 : Int32))) 17 (2) (nI 0)) 17 (3) (nI 0)) 17 (4) (nI 0)) 17 (5) ((-99 : Int32))) 17 (6) (nI 0)) 17 (7) (nI 0)) 17 (8) (nI 0)) 17 (9) ((-99 : Int32))) 17 (10) (nI 0)) 17 (11) (nI 0)) 17 (12) (nI 0)) 17 (13) ((-99 : Int32))) 17 (14) (nI 0)) 17 (15) (nI 0)) 17 (16) (nI 0)) 17 (17) ((-99 : Int32))) 17 (18) (nI 0)) 17 (19) (nI 0)) 17 (20) (nI 0)) 17 (21) ((-99 : Int32))) 17 (22) (nI 0)) 32 [.ref 0, .int (nI 5), .int (nI 3), uu, uu, uu] [.int (nI 23), .ref 17] from ?_)
  refine aw_iload_n rfl rfl d_X_reckons_32 ?_
  refine aw_iconst (v := nI 1) ci_1 d_X_reckons_33 ?_
  refine aw_icmp_neI (tgt := 42) (3) (1) (by decide +kernel) (by decide +kernel) (by decide) d_X_reckons_34 (fun _ => ?_) (fun q => absurd q (by decide))
  refine aw_iconst (v := nI 0) ci_0 d_X_reckons_42 ?_
  refine aw_iast (j := 23) km_17 (vp_in_nI (by decide) (by decide)) (nI_clamp (by decide)) d_X_reckons_43 ?_
  refine aw_iinc (v := nI 4) (lv2 := [.ref 0, .int (nI 5), .int (nI 4), uu, uu, uu]) rfl (by decide +kernel) (by decide) rfl d_X_reckons_44 ?_
  refine aw_goto (tgt := 14) (by decide) d_X_reckons_47 ?_
  refine aw_iload_n rfl rfl d_X_reckons_14 ?_
  refine aw_iconst (v := nI 4) ci_4 d_X_reckons_15 ?_
  refine aw_icmp_geI (tgt := 50) (4) (4) (by decide +kernel) (by decide +kernel) (by decide) d_X_reckons_16 (fun _ => ?_) (fun q => absurd q (by decide))
  refine aw_iinc (v := nI 6) (lv2 := [.ref 0, .int (nI 6), .int (nI 4), uu, uu, uu]) rfl (by decide +kernel) (by decide) rfl d_X_reckons_50 ?_
  refine aw_goto (tgt := 6) (by decide) d_X_reckons_53 ?_
  refine aw_iload_n rfl rfl d_X_reckons_6 ?_
  refine aw_bipush (v := nI 9) cb_9 d_X_reckons_7 ?_
  refine aw_icmp_geI (tgt := 56) (6) (9) (by decide +kernel) (by decide +kernel) (by decide) d_X_reckons_9 (fun q => absurd q (by decide)) (fun _ => ?_)
  refine aw_iconst (v := nI 0) ci_0 d_X_reckons_12 ?_
  refine aw_istore_n (lv2 := [.ref 0, .int (nI 6), .int (nI 0), uu, uu, uu]) rfl (by decide) rfl d_X_reckons_13 ?_
  refine aw_iload_n rfl rfl d_X_reckons_14 ?_
  refine aw_iconst (v := nI 4) ci_4 d_X_reckons_15 ?_
  refine aw_icmp_geI (tgt := 50) (0) (4) (by decide +kernel) (by decide +kernel) (by decide) d_X_reckons_16 (fun q => absurd q (by decide)) (fun _ => ?_)
  refine aw_aload_n rfl rfl d_X_reckons_19 ?_
  refine aw_getr fl_X_69 km_0 (by decide) rfl rm_0_39 d_X_reckons_20 ?_
  refine aw_aload_n rfl rfl d_X_reckons_23 ?_
  refine aw_geti fl_X_347 km_0 (by decide) rfl d_X_reckons_24 ?_
  refine aw_top (x2 := nI 0) (Eq.trans (congrFun (upd2_ne (by decide)) (40)) (Eq.trans (congrFun (upd2_ne (by decide)) (40)) (Eq.trans (congrFun (upd2_ne (by decide)) (40)) (Eq.trans (congrFun (upd2_ne (by decide)) (40)) (Eq.trans (congrFun (upd2_ne (by decide)) (40)) (Eq.trans (congrFun (upd2_ne (by decide)) (40)) (Eq.trans (congrFun (upd2_ne (by decide)) (40)) (Eq.trans (congrFun (upd2_ne (by decide)) (40)) (Eq.trans (congrFun (upd2_ne (by decide)) (40)) (Eq.trans (congrFun (upd2_ne (by decide)) (40)) (Eq.trans (congrFun (upd2_ne (by decide)) (40)) (Eq.trans (congrFun (upd2_ne (by decide)) (40)) (Eq.trans (congrFun (upd2_ne (by decide)) (40)) (Eq.trans (congrFun (upd2_ne (by decide)) (40)) (Eq.trans (congrFun (upd2_ne (by decide)) (40)) (Eq.trans (congrFun (upd2_ne (by decide)) (40)) (Eq.trans (congrFun (upd2_ne (by decide)) (40)) (Eq.trans (congrFun (upd2_ne (by decide)) (40)) (Eq.trans (congrFun (upd2_ne (by decide)) (40)) (Eq.trans (congrFun (upd2_ne (by decide)) (40)) (Eq.trans (congrFun (upd2_ne (by decide)) (40)) (Eq.trans (congrFun (upd2_ne (by decide)) (40)) (Eq.trans (congrFun (upd2_ne (by decide)) (40)) (Eq.trans (congrFun (upd2_ne (by decide)) (40)) (upd2_eq))))))))))))))))))))))))) ?_
  refine aw_iload_n rfl rfl d_X_reckons_27 ?_
  refine aw_iload_n rfl rfl d_X_reckons_28 ?_
  refine as_callS (as := [.int (nI 0), .int (nI 6), .int (nI 0)]) (d' := 4) mo_X_spot lk_X_353 rfl ⟨by decide, by decide⟩ rfl rfl (by decide) d_X_reckons_29 (Ss.of (show As l b 4 y_X_spot KM RM _ (upd2 (upd2 (upd2 (upd2 (upd2 (upd2 (upd2 (upd2 (upd2 (upd2 (upd2 (upd2 (upd2 (upd2 (upd2 (upd2 (upd2 (upd2 (upd2 (upd2 (upd2 (upd2 (upd2 (upd2 (upd2 I 0 40 (nI 0)) 17 (0) (nI 0)) 17 (1) ((-99 : Int32))) 17 (2) (nI 0)) 17 (3) (nI 0)) 17 (4) (nI 0)) 17 (5) ((-99 : Int32))) 17 (6) (nI 0)) 17 (7) (nI 0)) 17 (8) (nI 0)) 17 (9) ((-99 : Int32))) 17 (10) (nI 0)) 17 (11) (nI 0)) 17 (12) (nI 0)) 17 (13) ((-99 : Int32))) 17 (14) (nI 0)) 17 (15) (nI 0)) 17 (16) (nI 0)) 17 (17) ((-99 : Int32))) 17 (18) (nI 0)) 17 (19) (nI 0)) 17 (20) (nI 0)) 17 (21) ((-99 : Int32))) 17 (22) (nI 0)) 17 (23) (nI 0)) 0 [.int (nI 0), .int (nI 6), .int (nI 0)] [] from ?_))
  refine aw_bipush (v := nI 36) cb_36 d_X_spot_0 ?_
  refine aw_iload_n rfl rfl d_X_spot_2 ?_
  refine aw_imul d_X_spot_3 ?_
  refine aw_top (x2 := nI 0) (by decide +kernel) ?_
  refine aw_iconst (v := nI 4) ci_4 d_X_spot_4 ?_
  refine aw_iload_n rfl rfl d_X_spot_5 ?_
  refine aw_imul d_X_spot_6 ?_
  refine aw_top (x2 := nI 24) (by decide +kernel) ?_
  refine aw_iadd d_X_spot_7 ?_
  refine aw_top (x2 := nI 24) (by decide +kernel) ?_
  refine aw_iload_n rfl rfl d_X_spot_8 ?_
  refine aw_iadd d_X_spot_9 ?_
  refine aw_top (x2 := nI 24) (by decide +kernel) ?_
  refine as_reti rfl d_X_spot_10 ?_
  refine (show As l b 5 y_X_reckons KM RM K2 (upd2 (upd2 (upd2 (upd2 (upd2 (upd2 (upd2 (upd2 (upd2 (upd2 (upd2 (upd2 (upd2 (upd2 (upd2 (upd2 (upd2 (upd2 (upd2 (upd2 (upd2 (upd2 (upd2 (upd2 (upd2 I 0 40 (nI 0)) 17 (0) (nI 0)) 17 (1) ((-99 : Int32))) 17 (2) (nI 0)) 17 (3) (nI 0)) 17 (4) (nI 0)) 17 (5) ((-99 : Int32))) 17 (6) (nI 0)) 17 (7) (nI 0)) 17 (8) (nI 0)) 17 (9) ((-99 : Int32))) 17 (10) (nI 0)) 17 (11) (nI 0)) 17 (12) (nI 0)) 17 (13) ((-99 : Int32))) 17 (14) (nI 0)) 17 (15) (nI 0)) 17 (16) (nI 0)) 17 (17) ((-99 : Int32))) 17 (18) (nI 0)) 17 (19) (nI 0)) 17 (20) (nI 0)) 17 (21) ((-99 : Int32))) 17 (22) (nI 0)) 17 (23) (nI 0)) 32 [.ref 0, .int (nI 6), .int (nI 0), uu, uu, uu] [.int (nI 24), .ref 17] from ?_)
  refine aw_iload_n rfl rfl d_X_reckons_32 ?_
  refine aw_iconst (v := nI 1) ci_1 d_X_reckons_33 ?_
  refine aw_icmp_neI (tgt := 42) (0) (1) (by decide +kernel) (by decide +kernel) (by decide) d_X_reckons_34 (fun _ => ?_) (fun q => absurd q (by decide))
  refine aw_iconst (v := nI 0) ci_0 d_X_reckons_42 ?_
  refine aw_iast (j := 24) km_17 (vp_in_nI (by decide) (by decide)) (nI_clamp (by decide)) d_X_reckons_43 ?_
  refine aw_iinc (v := nI 1) (lv2 := [.ref 0, .int (nI 6), .int (nI 1), uu, uu, uu]) rfl (by decide +kernel) (by decide) rfl d_X_reckons_44 ?_
  refine aw_goto (tgt := 14) (by decide) d_X_reckons_47 ?_
  refine aw_iload_n rfl rfl d_X_reckons_14 ?_
  refine aw_iconst (v := nI 4) ci_4 d_X_reckons_15 ?_
  refine aw_icmp_geI (tgt := 50) (1) (4) (by decide +kernel) (by decide +kernel) (by decide) d_X_reckons_16 (fun q => absurd q (by decide)) (fun _ => ?_)
  refine aw_aload_n rfl rfl d_X_reckons_19 ?_
  refine aw_getr fl_X_69 km_0 (by decide) rfl rm_0_39 d_X_reckons_20 ?_
  refine aw_aload_n rfl rfl d_X_reckons_23 ?_
  refine aw_geti fl_X_347 km_0 (by decide) rfl d_X_reckons_24 ?_
  refine aw_top (x2 := nI 0) (Eq.trans (congrFun (upd2_ne (by decide)) (40)) (Eq.trans (congrFun (upd2_ne (by decide)) (40)) (Eq.trans (congrFun (upd2_ne (by decide)) (40)) (Eq.trans (congrFun (upd2_ne (by decide)) (40)) (Eq.trans (congrFun (upd2_ne (by decide)) (40)) (Eq.trans (congrFun (upd2_ne (by decide)) (40)) (Eq.trans (congrFun (upd2_ne (by decide)) (40)) (Eq.trans (congrFun (upd2_ne (by decide)) (40)) (Eq.trans (congrFun (upd2_ne (by decide)) (40)) (Eq.trans (congrFun (upd2_ne (by decide)) (40)) (Eq.trans (congrFun (upd2_ne (by decide)) (40)) (Eq.trans (congrFun (upd2_ne (by decide)) (40)) (Eq.trans (congrFun (upd2_ne (by decide)) (40)) (Eq.trans (congrFun (upd2_ne (by decide)) (40)) (Eq.trans (congrFun (upd2_ne (by decide)) (40)) (Eq.trans (congrFun (upd2_ne (by decide)) (40)) (Eq.trans (congrFun (upd2_ne (by decide)) (40)) (Eq.trans (congrFun (upd2_ne (by decide)) (40)) (Eq.trans (congrFun (upd2_ne (by decide)) (40)) (Eq.trans (congrFun (upd2_ne (by decide)) (40)) (Eq.trans (congrFun (upd2_ne (by decide)) (40)) (Eq.trans (congrFun (upd2_ne (by decide)) (40)) (Eq.trans (congrFun (upd2_ne (by decide)) (40)) (Eq.trans (congrFun (upd2_ne (by decide)) (40)) (Eq.trans (congrFun (upd2_ne (by decide)) (40)) (upd2_eq)))))))))))))))))))))))))) ?_
  refine aw_iload_n rfl rfl d_X_reckons_27 ?_
  refine aw_iload_n rfl rfl d_X_reckons_28 ?_
  refine as_callS (as := [.int (nI 0), .int (nI 6), .int (nI 1)]) (d' := 4) mo_X_spot lk_X_353 rfl ⟨by decide, by decide⟩ rfl rfl (by decide) d_X_reckons_29 (Ss.of (show As l b 4 y_X_spot KM RM _ (upd2 (upd2 (upd2 (upd2 (upd2 (upd2 (upd2 (upd2 (upd2 (upd2 (upd2 (upd2 (upd2 (upd2 (upd2 (upd2 (upd2 (upd2 (upd2 (upd2 (upd2 (upd2 (upd2 (upd2 (upd2 (upd2 I 0 40 (nI 0)) 17 (0) (nI 0)) 17 (1) ((-99 : Int32))) 17 (2) (nI 0)) 17 (3) (nI 0)) 17 (4) (nI 0)) 17 (5) ((-99 : Int32))) 17 (6) (nI 0)) 17 (7) (nI 0)) 17 (8) (nI 0)) 17 (9) ((-99 : Int32))) 17 (10) (nI 0)) 17 (11) (nI 0)) 17 (12) (nI 0)) 17 (13) ((-99 : Int32))) 17 (14) (nI 0)) 17 (15) (nI 0)) 17 (16) (nI 0)) 17 (17) ((-99 : Int32))) 17 (18) (nI 0)) 17 (19) (nI 0)) 17 (20) (nI 0)) 17 (21) ((-99 : Int32))) 17 (22) (nI 0)) 17 (23) (nI 0)) 17 (24) (nI 0)) 0 [.int (nI 0), .int (nI 6), .int (nI 1)] [] from ?_))
  refine aw_bipush (v := nI 36) cb_36 d_X_spot_0 ?_
  refine aw_iload_n rfl rfl d_X_spot_2 ?_
  refine aw_imul d_X_spot_3 ?_
  refine aw_top (x2 := nI 0) (by decide +kernel) ?_
  refine aw_iconst (v := nI 4) ci_4 d_X_spot_4 ?_
  refine aw_iload_n rfl rfl d_X_spot_5 ?_
  refine aw_imul d_X_spot_6 ?_
  refine aw_top (x2 := nI 24) (by decide +kernel) ?_
  refine aw_iadd d_X_spot_7 ?_
  refine aw_top (x2 := nI 24) (by decide +kernel) ?_
  refine aw_iload_n rfl rfl d_X_spot_8 ?_
  refine aw_iadd d_X_spot_9 ?_
  refine aw_top (x2 := nI 25) (by decide +kernel) ?_
  refine as_reti rfl d_X_spot_10 ?_
  refine (show As l b 5 y_X_reckons KM RM K2 (upd2 (upd2 (upd2 (upd2 (upd2 (upd2 (upd2 (upd2 (upd2 (upd2 (upd2 (upd2 (upd2 (upd2 (upd2 (upd2 (upd2 (upd2 (upd2 (upd2 (upd2 (upd2 (upd2 (upd2 (upd2 (upd2 I 0 40 (nI 0)) 17 (0) (nI 0)) 17 (1) ((-99 : Int32))) 17 (2) (nI 0)) 17 (3) (nI 0)) 17 (4) (nI 0)) 17 (5) ((-99 : Int32))) 17 (6) (nI 0)) 17 (7) (nI 0)) 17 (8) (nI 0)) 17 (9) ((-99 : Int32))) 17 (10) (nI 0)) 17 (11) (nI 0)) 17 (12) (nI 0)) 17 (13) ((-99 : Int32))) 17 (14) (nI 0)) 17 (15) (nI 0)) 17 (16) (nI 0)) 17 (17) ((-99 : Int32))) 17 (18) (nI 0)) 17 (19) (nI 0)) 17 (20) (nI 0)) 17 (21) ((-99 : Int32))) 17 (22) (nI 0)) 17 (23) (nI 0)) 17 (24) (nI 0)) 32 [.ref 0, .int (nI 6), .int (nI 1), uu, uu, uu] [.int (nI 25), .ref 17] from ?_)
  refine aw_iload_n rfl rfl d_X_reckons_32 ?_
  refine aw_iconst (v := nI 1) ci_1 d_X_reckons_33 ?_
  refine aw_icmp_neI (tgt := 42) (1) (1) (by decide +kernel) (by decide +kernel) (by decide) d_X_reckons_34 (fun q => absurd q (by decide)) (fun _ => ?_)
  refine aw_bipush (v := (-99 : Int32)) rfl d_X_reckons_37 ?_
  refine aw_goto (tgt := 43) (by decide) d_X_reckons_39 ?_
  refine aw_iast (j := 25) km_17 (vp_in_nI (by decide) (by decide)) (nI_clamp (by decide)) d_X_reckons_43 ?_
  refine aw_iinc (v := nI 2) (lv2 := [.ref 0, .int (nI 6), .int (nI 2), uu, uu, uu]) rfl (by decide +kernel) (by decide) rfl d_X_reckons_44 ?_
  refine aw_goto (tgt := 14) (by decide) d_X_reckons_47 ?_
  refine aw_iload_n rfl rfl d_X_reckons_14 ?_
  refine aw_iconst (v := nI 4) ci_4 d_X_reckons_15 ?_
  refine aw_icmp_geI (tgt := 50) (2) (4) (by decide +kernel) (by decide +kernel) (by decide) d_X_reckons_16 (fun q => absurd q (by decide)) (fun _ => ?_)
  refine aw_aload_n rfl rfl d_X_reckons_19 ?_
  refine aw_getr fl_X_69 km_0 (by decide) rfl rm_0_39 d_X_reckons_20 ?_
  refine aw_aload_n rfl rfl d_X_reckons_23 ?_
  refine aw_geti fl_X_347 km_0 (by decide) rfl d_X_reckons_24 ?_
  refine aw_top (x2 := nI 0) (Eq.trans (congrFun (upd2_ne (by decide)) (40)) (Eq.trans (congrFun (upd2_ne (by decide)) (40)) (Eq.trans (congrFun (upd2_ne (by decide)) (40)) (Eq.trans (congrFun (upd2_ne (by decide)) (40)) (Eq.trans (congrFun (upd2_ne (by decide)) (40)) (Eq.trans (congrFun (upd2_ne (by decide)) (40)) (Eq.trans (congrFun (upd2_ne (by decide)) (40)) (Eq.trans (congrFun (upd2_ne (by decide)) (40)) (Eq.trans (congrFun (upd2_ne (by decide)) (40)) (Eq.trans (congrFun (upd2_ne (by decide)) (40)) (Eq.trans (congrFun (upd2_ne (by decide)) (40)) (Eq.trans (congrFun (upd2_ne (by decide)) (40)) (Eq.trans (congrFun (upd2_ne (by decide)) (40)) (Eq.trans (congrFun (upd2_ne (by decide)) (40)) (Eq.trans (congrFun (upd2_ne (by decide)) (40)) (Eq.trans (congrFun (upd2_ne (by decide)) (40)) (Eq.trans (congrFun (upd2_ne (by decide)) (40)) (Eq.trans (congrFun (upd2_ne (by decide)) (40)) (Eq.trans (congrFun (upd2_ne (by decide)) (40)) (Eq.trans (congrFun (upd2_ne (by decide)) (40)) (Eq.trans (congrFun (upd2_ne (by decide)) (40)) (Eq.trans (congrFun (upd2_ne (by decide)) (40)) (Eq.trans (congrFun (upd2_ne (by decide)) (40)) (Eq.trans (congrFun (upd2_ne (by decide)) (40)) (Eq.trans (congrFun (upd2_ne (by decide)) (40)) (Eq.trans (congrFun (upd2_ne (by decide)) (40)) (upd2_eq))))))))))))))))))))))))))) ?_
  refine aw_iload_n rfl rfl d_X_reckons_27 ?_
  refine aw_iload_n rfl rfl d_X_reckons_28 ?_
  refine as_callS (as := [.int (nI 0), .int (nI 6), .int (nI 2)]) (d' := 4) mo_X_spot lk_X_353 rfl ⟨by decide, by decide⟩ rfl rfl (by decide) d_X_reckons_29 (Ss.of (show As l b 4 y_X_spot KM RM _ (upd2 (upd2 (upd2 (upd2 (upd2 (upd2 (upd2 (upd2 (upd2 (upd2 (upd2 (upd2 (upd2 (upd2 (upd2 (upd2 (upd2 (upd2 (upd2 (upd2 (upd2 (upd2 (upd2 (upd2 (upd2 (upd2 (upd2 I 0 40 (nI 0)) 17 (0) (nI 0)) 17 (1) ((-99 : Int32))) 17 (2) (nI 0)) 17 (3) (nI 0)) 17 (4) (nI 0)) 17 (5) ((-99 : Int32))) 17 (6) (nI 0)) 17 (7) (nI 0)) 17 (8) (nI 0)) 17 (9) ((-99 : Int32))) 17 (10) (nI 0)) 17 (11) (nI 0)) 17 (12) (nI 0)) 17 (13) ((-99 : Int32))) 17 (14) (nI 0)) 17 (15) (nI 0)) 17 (16) (nI 0)) 17 (17) ((-99 : Int32))) 17 (18) (nI 0)) 17 (19) (nI 0)) 17 (20) (nI 0)) 17 (21) ((-99 : Int32))) 17 (22) (nI 0)) 17 (23) (nI 0)) 17 (24) (nI 0)) 17 (25) ((-99 : Int32))) 0 [.int (nI 0), .int (nI 6), .int (nI 2)] [] from ?_))
  refine aw_bipush (v := nI 36) cb_36 d_X_spot_0 ?_
  refine aw_iload_n rfl rfl d_X_spot_2 ?_
  refine aw_imul d_X_spot_3 ?_
  refine aw_top (x2 := nI 0) (by decide +kernel) ?_
  refine aw_iconst (v := nI 4) ci_4 d_X_spot_4 ?_
  refine aw_iload_n rfl rfl d_X_spot_5 ?_
  refine aw_imul d_X_spot_6 ?_
  refine aw_top (x2 := nI 24) (by decide +kernel) ?_
  refine aw_iadd d_X_spot_7 ?_
  refine aw_top (x2 := nI 24) (by decide +kernel) ?_
  refine aw_iload_n rfl rfl d_X_spot_8 ?_
  refine aw_iadd d_X_spot_9 ?_
  refine aw_top (x2 := nI 26) (by decide +kernel) ?_
  refine as_reti rfl d_X_spot_10 ?_
  refine (show As l b 5 y_X_reckons KM RM K2 (upd2 (upd2 (upd2 (upd2 (upd2 (upd2 (upd2 (upd2 (upd2 (upd2 (upd2 (upd2 (upd2 (upd2 (upd2 (upd2 (upd2 (upd2 (upd2 (upd2 (upd2 (upd2 (upd2 (upd2 (upd2 (upd2 (upd2 I 0 40 (nI 0)) 17 (0) (nI 0)) 17 (1) ((-99 : Int32))) 17 (2) (nI 0)) 17 (3) (nI 0)) 17 (4) (nI 0)) 17 (5) ((-99 : Int32))) 17 (6) (nI 0)) 17 (7) (nI 0)) 17 (8) (nI 0)) 17 (9) ((-99 : Int32))) 17 (10) (nI 0)) 17 (11) (nI 0)) 17 (12) (nI 0)) 17 (13) ((-99 : Int32))) 17 (14) (nI 0)) 17 (15) (nI 0)) 17 (16) (nI 0)) 17 (17) ((-99 : Int32))) 17 (18) (nI 0)) 17 (19) (nI 0)) 17 (20) (nI 0)) 17 (21) ((-99 : Int32))) 17 (22) (nI 0)) 17 (23) (nI 0)) 17 (24) (nI 0)) 17 (25) ((-99 : Int32))) 32 [.ref 0, .int (nI 6), .int (nI 2), uu, uu, uu] [.int (nI 26), .ref 17] from ?_)
  refine aw_iload_n rfl rfl d_X_reckons_32 ?_
  refine aw_iconst (v := nI 1) ci_1 d_X_reckons_33 ?_
  refine aw_icmp_neI (tgt := 42) (2) (1) (by decide +kernel) (by decide +kernel) (by decide) d_X_reckons_34 (fun _ => ?_) (fun q => absurd q (by decide))
  refine aw_iconst (v := nI 0) ci_0 d_X_reckons_42 ?_
  refine aw_iast (j := 26) km_17 (vp_in_nI (by decide) (by decide)) (nI_clamp (by decide)) d_X_reckons_43 ?_
  refine aw_iinc (v := nI 3) (lv2 := [.ref 0, .int (nI 6), .int (nI 3), uu, uu, uu]) rfl (by decide +kernel) (by decide) rfl d_X_reckons_44 ?_
  refine aw_goto (tgt := 14) (by decide) d_X_reckons_47 ?_
  refine aw_iload_n rfl rfl d_X_reckons_14 ?_
  refine aw_iconst (v := nI 4) ci_4 d_X_reckons_15 ?_
  refine aw_icmp_geI (tgt := 50) (3) (4) (by decide +kernel) (by decide +kernel) (by decide) d_X_reckons_16 (fun q => absurd q (by decide)) (fun _ => ?_)
  refine aw_aload_n rfl rfl d_X_reckons_19 ?_
  refine aw_getr fl_X_69 km_0 (by decide) rfl rm_0_39 d_X_reckons_20 ?_
  refine aw_aload_n rfl rfl d_X_reckons_23 ?_
  refine aw_geti fl_X_347 km_0 (by decide) rfl d_X_reckons_24 ?_
  refine aw_top (x2 := nI 0) (Eq.trans (congrFun (upd2_ne (by decide)) (40)) (Eq.trans (congrFun (upd2_ne (by decide)) (40)) (Eq.trans (congrFun (upd2_ne (by decide)) (40)) (Eq.trans (congrFun (upd2_ne (by decide)) (40)) (Eq.trans (congrFun (upd2_ne (by decide)) (40)) (Eq.trans (congrFun (upd2_ne (by decide)) (40)) (Eq.trans (congrFun (upd2_ne (by decide)) (40)) (Eq.trans (congrFun (upd2_ne (by decide)) (40)) (Eq.trans (congrFun (upd2_ne (by decide)) (40)) (Eq.trans (congrFun (upd2_ne (by decide)) (40)) (Eq.trans (congrFun (upd2_ne (by decide)) (40)) (Eq.trans (congrFun (upd2_ne (by decide)) (40)) (Eq.trans (congrFun (upd2_ne (by decide)) (40)) (Eq.trans (congrFun (upd2_ne (by decide)) (40)) (Eq.trans (congrFun (upd2_ne (by decide)) (40)) (Eq.trans (congrFun (upd2_ne (by decide)) (40)) (Eq.trans (congrFun (upd2_ne (by decide)) (40)) (Eq.trans (congrFun (upd2_ne (by decide)) (40)) (Eq.trans (congrFun (upd2_ne (by decide)) (40)) (Eq.trans (congrFun (upd2_ne (by decide)) (40)) (Eq.trans (congrFun (upd2_ne (by decide)) (40)) (Eq.trans (congrFun (upd2_ne (by decide)) (40)) (Eq.trans (congrFun (upd2_ne (by decide)) (40)) (Eq.trans (congrFun (upd2_ne (by decide)) (40)) (Eq.trans (congrFun (upd2_ne (by decide)) (40)) (Eq.trans (congrFun (upd2_ne (by decide)) (40)) (Eq.trans (congrFun (upd2_ne (by decide)) (40)) (upd2_eq)))))))))))))))))))))))))))) ?_
  refine aw_iload_n rfl rfl d_X_reckons_27 ?_
  refine aw_iload_n rfl rfl d_X_reckons_28 ?_
  refine as_callS (as := [.int (nI 0), .int (nI 6), .int (nI 3)]) (d' := 4) mo_X_spot lk_X_353 rfl ⟨by decide, by decide⟩ rfl rfl (by decide) d_X_reckons_29 (Ss.of (show As l b 4 y_X_spot KM RM _ (upd2 (upd2 (upd2 (upd2 (upd2 (upd2 (upd2 (upd2 (upd2 (upd2 (upd2 (upd2 (upd2 (upd2 (upd2 (upd2 (upd2 (upd2 (upd2 (upd2 (upd2 (upd2 (upd2 (upd2 (upd2 (upd2 (upd2 (upd2 I 0 40 (nI 0)) 17 (0) (nI 0)) 17 (1) ((-99 : Int32))) 17 (2) (nI 0)) 17 (3) (nI 0)) 17 (4) (nI 0)) 17 (5) ((-99 : Int32))) 17 (6) (nI 0)) 17 (7) (nI 0)) 17 (8) (nI 0)) 17 (9) ((-99 : Int32))) 17 (10) (nI 0)) 17 (11) (nI 0)) 17 (12) (nI 0)) 17 (13) ((-99 : Int32))) 17 (14) (nI 0)) 17 (15) (nI 0)) 17 (16) (nI 0)) 17 (17) ((-99 : Int32))) 17 (18) (nI 0)) 17 (19) (nI 0)) 17 (20) (nI 0)) 17 (21) ((-99 : Int32))) 17 (22) (nI 0)) 17 (23) (nI 0)) 17 (24) (nI 0)) 17 (25) ((-99 : Int32))) 17 (26) (nI 0)) 0 [.int (nI 0), .int (nI 6), .int (nI 3)] [] from ?_))
  refine aw_bipush (v := nI 36) cb_36 d_X_spot_0 ?_
  refine aw_iload_n rfl rfl d_X_spot_2 ?_
  refine aw_imul d_X_spot_3 ?_
  refine aw_top (x2 := nI 0) (by decide +kernel) ?_
  refine aw_iconst (v := nI 4) ci_4 d_X_spot_4 ?_
  refine aw_iload_n rfl rfl d_X_spot_5 ?_
  refine aw_imul d_X_spot_6 ?_
  refine aw_top (x2 := nI 24) (by decide +kernel) ?_
  refine aw_iadd d_X_spot_7 ?_
  refine aw_top (x2 := nI 24) (by decide +kernel) ?_
  refine aw_iload_n rfl rfl d_X_spot_8 ?_
  refine aw_iadd d_X_spot_9 ?_
  refine aw_top (x2 := nI 27) (by decide +kernel) ?_
  refine as_reti rfl d_X_spot_10 ?_
  refine (show As l b 5 y_X_reckons KM RM K2 (upd2 (upd2 (upd2 (upd2 (upd2 (upd2 (upd2 (upd2 (upd2 (upd2 (upd2 (upd2 (upd2 (upd2 (upd2 (upd2 (upd2 (upd2 (upd2 (upd2 (upd2 (upd2 (upd2 (upd2 (upd2 (upd2 (upd2 (upd2 I 0 40 (nI 0)) 17 (0) (nI 0)) 17 (1) ((-99 : Int32))) 17 (2) (nI 0)) 17 (3) (nI 0)) 17 (4) (nI 0)) 17 (5) ((-99 : Int32))) 17 (6) (nI 0)) 17 (7) (nI 0)) 17 (8) (nI 0)) 17 (9) ((-99 : Int32))) 17 (10) (nI 0)) 17 (11) (nI 0)) 17 (12) (nI 0)) 17 (13) ((-99 : Int32))) 17 (14) (nI 0)) 17 (15) (nI 0)) 17 (16) (nI 0)) 17 (17) ((-99 : Int32))) 17 (18) (nI 0)) 17 (19) (nI 0)) 17 (20) (nI 0)) 17 (21) ((-99 : Int32))) 17 (22) (nI 0)) 17 (23) (nI 0)) 17 (24) (nI 0)) 17 (25) ((-99 : Int32))) 17 (26) (nI 0)) 32 [.ref 0, .int (nI 6), .int (nI 3), uu, uu, uu] [.int (nI 27), .ref 17] from ?_)
  refine aw_iload_n rfl rfl d_X_reckons_32 ?_
  refine aw_iconst (v := nI 1) ci_1 d_X_reckons_33 ?_
  refine aw_icmp_neI (tgt := 42) (3) (1) (by decide +kernel) (by decide +kernel) (by decide) d_X_reckons_34 (fun _ => ?_) (fun q => absurd q (by decide))
  refine aw_iconst (v := nI 0) ci_0 d_X_reckons_42 ?_
  refine aw_iast (j := 27) km_17 (vp_in_nI (by decide) (by decide)) (nI_clamp (by decide)) d_X_reckons_43 ?_
  refine aw_iinc (v := nI 4) (lv2 := [.ref 0, .int (nI 6), .int (nI 4), uu, uu, uu]) rfl (by decide +kernel) (by decide) rfl d_X_reckons_44 ?_
  refine aw_goto (tgt := 14) (by decide) d_X_reckons_47 ?_
  refine aw_iload_n rfl rfl d_X_reckons_14 ?_
  refine aw_iconst (v := nI 4) ci_4 d_X_reckons_15 ?_
  refine aw_icmp_geI (tgt := 50) (4) (4) (by decide +kernel) (by decide +kernel) (by decide) d_X_reckons_16 (fun _ => ?_) (fun q => absurd q (by decide))
  refine aw_iinc (v := nI 7) (lv2 := [.ref 0, .int (nI 7), .int (nI 4), uu, uu, uu]) rfl (by decide +kernel) (by decide) rfl d_X_reckons_50 ?_
  refine aw_goto (tgt := 6) (by decide) d_X_reckons_53 ?_
  refine aw_iload_n rfl rfl d_X_reckons_6 ?_
  refine aw_bipush (v := nI 9) cb_9 d_X_reckons_7 ?_
  refine aw_icmp_geI (tgt := 56) (7) (9) (by decide +kernel) (by decide +kernel) (by decide) d_X_reckons_9 (fun q => absurd q (by decide)) (fun _ => ?_)
  refine aw_iconst (v := nI 0) ci_0 d_X_reckons_12 ?_
  refine aw_istore_n (lv2 := [.ref 0, .int (nI 7), .int (nI 0), uu, uu, uu]) rfl (by decide) rfl d_X_reckons_13 ?_
  refine aw_iload_n rfl rfl d_X_reckons_14 ?_
  refine aw_iconst (v := nI 4) ci_4 d_X_reckons_15 ?_
  refine aw_icmp_geI (tgt := 50) (0) (4) (by decide +kernel) (by decide +kernel) (by decide) d_X_reckons_16 (fun q => absurd q (by decide)) (fun _ => ?_)
  refine aw_aload_n rfl rfl d_X_reckons_19 ?_
  refine aw_getr fl_X_69 km_0 (by decide) rfl rm_0_39 d_X_reckons_20 ?_
  refine aw_aload_n rfl rfl d_X_reckons_23 ?_
  refine aw_geti fl_X_347 km_0 (by decide) rfl d_X_reckons_24 ?_
  refine aw_top (x2 := nI 0) (Eq.trans (congrFun (upd2_ne (by decide)) (40)) (Eq.trans (congrFun (upd2_ne (by decide)) (40)) (Eq.trans (congrFun (upd2_ne (by decide)) (40)) (Eq.trans (congrFun (upd2_ne (by decide)) (40)) (Eq.trans (congrFun (upd2_ne (by decide)) (40)) (Eq.trans (congrFun (upd2_ne (by decide)) (40)) (Eq.trans (congrFun (upd2_ne (by decide)) (40)) (Eq.trans (congrFun (upd2_ne (by decide)) (40)) (Eq.trans (congrFun (upd2_ne (by decide)) (40)) (Eq.trans (congrFun (upd2_ne (by decide)) (40)) (Eq.trans (congrFun (upd2_ne (by decide)) (40)) (Eq.trans (congrFun (upd2_ne (by decide)) (40)) (Eq.trans (congrFun (upd2_ne (by decide)) (40)) (Eq.trans (congrFun (upd2_ne (by decide)) (40)) (Eq.trans (congrFun (upd2_ne (by decide)) (40)) (Eq.trans (congrFun (upd2_ne (by decide)) (40)) (Eq.trans (congrFun (upd2_ne (by decide)) (40)) (Eq.trans (congrFun (upd2_ne (by decide)) (40)) (Eq.trans (congrFun (upd2_ne (by decide)) (40)) (Eq.trans (congrFun (upd2_ne (by decide)) (40)) (Eq.trans (congrFun (upd2_ne (by decide)) (40)) (Eq.trans (congrFun (upd2_ne (by decide)) (40)) (Eq.trans (congrFun (upd2_ne (by decide)) (40)) (Eq.trans (congrFun (upd2_ne (by decide)) (40)) (Eq.trans (congrFun (upd2_ne (by decide)) (40)) (Eq.trans (congrFun (upd2_ne (by decide)) (40)) (Eq.trans (congrFun (upd2_ne (by decide)) (40)) (Eq.trans (congrFun (upd2_ne (by decide)) (40)) (upd2_eq))))))))))))))))))))))))))))) ?_
  refine aw_iload_n rfl rfl d_X_reckons_27 ?_
  refine aw_iload_n rfl rfl d_X_reckons_28 ?_
  refine as_callS (as := [.int (nI 0), .int (nI 7), .int (nI 0)]) (d' := 4) mo_X_spot lk_X_353 rfl ⟨by decide, by decide⟩ rfl rfl (by decide) d_X_reckons_29 (Ss.of (show As l b 4 y_X_spot KM RM _ (upd2 (upd2 (upd2 (upd2 (upd2 (upd2 (upd2 (upd2 (upd2 (upd2 (upd2 (upd2 (upd2 (upd2 (upd2 (upd2 (upd2 (upd2 (upd2 (upd2 (upd2 (upd2 (upd2 (upd2 (upd2 (upd2 (upd2 (upd2 (upd2 I 0 40 (nI 0)) 17 (0) (nI 0)) 17 (1) ((-99 : Int32))) 17 (2) (nI 0)) 17 (3) (nI 0)) 17 (4) (nI 0)) 17 (5) ((-99 : Int32))) 17 (6) (nI 0)) 17 (7) (nI 0)) 17 (8) (nI 0)) 17 (9) ((-99 : Int32))) 17 (10) (nI 0)) 17 (11) (nI 0)) 17 (12) (nI 0)) 17 (13) ((-99 : Int32))) 17 (14) (nI 0)) 17 (15) (nI 0)) 17 (16) (nI 0)) 17 (17) ((-99 : Int32))) 17 (18) (nI 0)) 17 (19) (nI 0)) 17 (20) (nI 0)) 17 (21) ((-99 : Int32))) 17 (22) (nI 0)) 17 (23) (nI 0)) 17 (24) (nI 0)) 17 (25) ((-99 : Int32))) 17 (26) (nI 0)) 17 (27) (nI 0)) 0 [.int (nI 0), .int (nI 7), .int (nI 0)] [] from ?_))
  refine aw_bipush (v := nI 36) cb_36 d_X_spot_0 ?_
  refine aw_iload_n rfl rfl d_X_spot_2 ?_
  refine aw_imul d_X_spot_3 ?_
  refine aw_top (x2 := nI 0) (by decide +kernel) ?_
  refine aw_iconst (v := nI 4) ci_4 d_X_spot_4 ?_
  refine aw_iload_n rfl rfl d_X_spot_5 ?_
  refine aw_imul d_X_spot_6 ?_
  refine aw_top (x2 := nI 28) (by decide +kernel) ?_
  refine aw_iadd d_X_spot_7 ?_
  refine aw_top (x2 := nI 28) (by decide +kernel) ?_
  refine aw_iload_n rfl rfl d_X_spot_8 ?_
  refine aw_iadd d_X_spot_9 ?_
  refine aw_top (x2 := nI 28) (by decide +kernel) ?_
  refine as_reti rfl d_X_spot_10 ?_
  refine (show As l b 5 y_X_reckons KM RM K2 (upd2 (upd2 (upd2 (upd2 (upd2 (upd2 (upd2 (upd2 (upd2 (upd2 (upd2 (upd2 (upd2 (upd2 (upd2 (upd2 (upd2 (upd2 (upd2 (upd2 (upd2 (upd2 (upd2 (upd2 (upd2 (upd2 (upd2 (upd2 (upd2 I 0 40 (nI 0)) 17 (0) (nI 0)) 17 (1) ((-99 : Int32))) 17 (2) (nI 0)) 17 (3) (nI 0)) 17 (4) (nI 0)) 17 (5) ((-99 : Int32))) 17 (6) (nI 0)) 17 (7) (nI 0)) 17 (8) (nI 0)) 17 (9) ((-99 : Int32))) 17 (10) (nI 0)) 17 (11) (nI 0)) 17 (12) (nI 0)) 17 (13) ((-99 : Int32))) 17 (14) (nI 0)) 17 (15) (nI 0)) 17 (16) (nI 0)) 17 (17) ((-99 : Int32))) 17 (18) (nI 0)) 17 (19) (nI 0)) 17 (20) (nI 0)) 17 (21) ((-99 : Int32))) 17 (22) (nI 0)) 17 (23) (nI 0)) 17 (24) (nI 0)) 17 (25) ((-99 : Int32))) 17 (26) (nI 0)) 17 (27) (nI 0)) 32 [.ref 0, .int (nI 7), .int (nI 0), uu, uu, uu] [.int (nI 28), .ref 17] from ?_)
  refine aw_iload_n rfl rfl d_X_reckons_32 ?_
  refine aw_iconst (v := nI 1) ci_1 d_X_reckons_33 ?_
  refine aw_icmp_neI (tgt := 42) (0) (1) (by decide +kernel) (by decide +kernel) (by decide) d_X_reckons_34 (fun _ => ?_) (fun q => absurd q (by decide))
  refine aw_iconst (v := nI 0) ci_0 d_X_reckons_42 ?_
  refine aw_iast (j := 28) km_17 (vp_in_nI (by decide) (by decide)) (nI_clamp (by decide)) d_X_reckons_43 ?_
  refine aw_iinc (v := nI 1) (lv2 := [.ref 0, .int (nI 7), .int (nI 1), uu, uu, uu]) rfl (by decide +kernel) (by decide) rfl d_X_reckons_44 ?_
  refine aw_goto (tgt := 14) (by decide) d_X_reckons_47 ?_
  refine aw_iload_n rfl rfl d_X_reckons_14 ?_
  refine aw_iconst (v := nI 4) ci_4 d_X_reckons_15 ?_
  refine aw_icmp_geI (tgt := 50) (1) (4) (by decide +kernel) (by decide +kernel) (by decide) d_X_reckons_16 (fun q => absurd q (by decide)) (fun _ => ?_)
  refine aw_aload_n rfl rfl d_X_reckons_19 ?_
  refine aw_getr fl_X_69 km_0 (by decide) rfl rm_0_39 d_X_reckons_20 ?_
  refine aw_aload_n rfl rfl d_X_reckons_23 ?_
  refine aw_geti fl_X_347 km_0 (by decide) rfl d_X_reckons_24 ?_
  refine aw_top (x2 := nI 0) (Eq.trans (congrFun (upd2_ne (by decide)) (40)) (Eq.trans (congrFun (upd2_ne (by decide)) (40)) (Eq.trans (congrFun (upd2_ne (by decide)) (40)) (Eq.trans (congrFun (upd2_ne (by decide)) (40)) (Eq.trans (congrFun (upd2_ne (by decide)) (40)) (Eq.trans (congrFun (upd2_ne (by decide)) (40)) (Eq.trans (congrFun (upd2_ne (by decide)) (40)) (Eq.trans (congrFun (upd2_ne (by decide)) (40)) (Eq.trans (congrFun (upd2_ne (by decide)) (40)) (Eq.trans (congrFun (upd2_ne (by decide)) (40)) (Eq.trans (congrFun (upd2_ne (by decide)) (40)) (Eq.trans (congrFun (upd2_ne (by decide)) (40)) (Eq.trans (congrFun (upd2_ne (by decide)) (40)) (Eq.trans (congrFun (upd2_ne (by decide)) (40)) (Eq.trans (congrFun (upd2_ne (by decide)) (40)) (Eq.trans (congrFun (upd2_ne (by decide)) (40)) (Eq.trans (congrFun (upd2_ne (by decide)) (40)) (Eq.trans (congrFun (upd2_ne (by decide)) (40)) (Eq.trans (congrFun (upd2_ne (by decide)) (40)) (Eq.trans (congrFun (upd2_ne (by decide)) (40)) (Eq.trans (congrFun (upd2_ne (by decide)) (40)) (Eq.trans (congrFun (upd2_ne (by decide)) (40)) (Eq.trans (congrFun (upd2_ne (by decide)) (40)) (Eq.trans (congrFun (upd2_ne (by decide)) (40)) (Eq.trans (congrFun (upd2_ne (by decide)) (40)) (Eq.trans (congrFun (upd2_ne (by decide)) (40)) (Eq.trans (congrFun (upd2_ne (by decide)) (40)) (Eq.trans (congrFun (upd2_ne (by decide)) (40)) (Eq.trans (congrFun (upd2_ne (by decide)) (40)) (upd2_eq)))))))))))))))))))))))))))))) ?_
  refine aw_iload_n rfl rfl d_X_reckons_27 ?_
  refine aw_iload_n rfl rfl d_X_reckons_28 ?_
  refine as_callS (as := [.int (nI 0), .int (nI 7), .int (nI 1)]) (d' := 4) mo_X_spot lk_X_353 rfl ⟨by decide, by decide⟩ rfl rfl (by decide) d_X_reckons_29 (Ss.of (show As l b 4 y_X_spot KM RM _ (upd2 (upd2 (upd2 (upd2 (upd2 (upd2 (upd2 (upd2 (upd2 (upd2 (upd2 (upd2 (upd2 (upd2 (upd2 (upd2 (upd2 (upd2 (upd2 (upd2 (upd2 (upd2 (upd2 (upd2 (upd2 (upd2 (upd2 (upd2 (upd2 (upd2 I 0 40 (nI 0)) 17 (0) (nI 0)) 17 (1) ((-99 : Int32))) 17 (2) (nI 0)) 17 (3) (nI 0)) 17 (4) (nI 0)) 17 (5) ((-99 : Int32))) 17 (6) (nI 0)) 17 (7) (nI 0)) 17 (8) (nI 0)) 17 (9) ((-99 : Int32))) 17 (10) (nI 0)) 17 (11) (nI 0)) 17 (12) (nI 0)) 17 (13) ((-99 : Int32))) 17 (14) (nI 0)) 17 (15) (nI 0)) 17 (16) (nI 0)) 17 (17) ((-99 : Int32))) 17 (18) (nI 0)) 17 (19) (nI 0)) 17 (20) (nI 0)) 17 (21) ((-99 : Int32))) 17 (22) (nI 0)) 17 (23) (nI 0)) 17 (24) (nI 0)) 17 (25) ((-99 : Int32))) 17 (26) (nI 0)) 17 (27) (nI 0)) 17 (28) (nI 0)) 0 [.int (nI 0), .int (nI 7), .int (nI 1)] [] from ?_))
  refine aw_bipush (v := nI 36) cb_36 d_X_spot_0 ?_
  refine aw_iload_n rfl rfl d_X_spot_2 ?_
  refine aw_imul d_X_spot_3 ?_
  refine aw_top (x2 := nI 0) (by decide +kernel) ?_
  refine aw_iconst (v := nI 4) ci_4 d_X_spot_4 ?_
  refine aw_iload_n rfl rfl d_X_spot_5 ?_
  refine aw_imul d_X_spot_6 ?_
  refine aw_top (x2 := nI 28) (by decide +kernel) ?_
  refine aw_iadd d_X_spot_7 ?_
  refine aw_top (x2 := nI 28) (by decide +kernel) ?_
  refine aw_iload_n rfl rfl d_X_spot_8 ?_
  refine aw_iadd d_X_spot_9 ?_
  refine aw_top (x2 := nI 29) (by decide +kernel) ?_
  refine as_reti rfl d_X_spot_10 ?_
  refine (show As l b 5 y_X_reckons KM RM K2 (upd2 (upd2 (upd2 (upd2 (upd2 (upd2 (upd2 (upd2 (upd2 (upd2 (upd2 (upd2 (upd2 (upd2 (upd2 (upd2 (upd2 (upd2 (upd2 (upd2 (upd2 (upd2 (upd2 (upd2 (upd2 (upd2 (upd2 (upd2 (upd2 (upd2 I 0 40 (nI 0)) 17 (0) (nI 0)) 17 (1) ((-99 : Int32))) 17 (2) (nI 0)) 17 (3) (nI 0)) 17 (4) (nI 0)) 17 (5) ((-99 : Int32))) 17 (6) (nI 0)) 17 (7) (nI 0)) 17 (8) (nI 0)) 17 (9) ((-99 : Int32))) 17 (10) (nI 0)) 17 (11) (nI 0)) 17 (12) (nI 0)) 17 (13) ((-99 : Int32))) 17 (14) (nI 0)) 17 (15) (nI 0)) 17 (16) (nI 0)) 17 (17) ((-99 : Int32))) 17 (18) (nI 0)) 17 (19) (nI 0)) 17 (20) (nI 0)) 17 (21) ((-99 : Int32))) 17 (22) (nI 0)) 17 (23) (nI 0)) 17 (24) (nI 0)) 17 (25) ((-99 : Int32))) 17 (26) (nI 0)) 17 (27) (nI 0)) 17 (28) (nI 0)) 32 [.ref 0, .int (nI 7), .int (nI 1), uu, uu, uu] [.int (nI 29), .ref 17] from ?_)
  refine aw_iload_n rfl rfl d_X_reckons_32 ?_
  refine aw_iconst (v := nI 1) ci_1 d_X_reckons_33 ?_
  refine aw_icmp_neI (tgt := 42) (1) (1) (by decide +kernel) (by decide +kernel) (by decide) d_X_reckons_34 (fun q => absurd q (by decide)) (fun _ => ?_)
  refine aw_bipush (v := (-99 : Int32)) rfl d_X_reckons_37 ?_
  refine aw_goto (tgt := 43) (by decide) d_X_reckons_39 ?_
  refine aw_iast (j := 29) km_17 (vp_in_nI (by decide) (by decide)) (nI_clamp (by decide)) d_X_reckons_43 ?_
  refine aw_iinc (v := nI 2) (lv2 := [.ref 0, .int (nI 7), .int (nI 2), uu, uu, uu]) rfl (by decide +kernel) (by decide) rfl d_X_reckons_44 ?_
  refine aw_goto (tgt := 14) (by decide) d_X_reckons_47 ?_
  refine aw_iload_n rfl rfl d_X_reckons_14 ?_
  refine aw_iconst (v := nI 4) ci_4 d_X_reckons_15 ?_
  refine aw_icmp_geI (tgt := 50) (2) (4) (by decide +kernel) (by decide +kernel) (by decide) d_X_reckons_16 (fun q => absurd q (by decide)) (fun _ => ?_)
  refine aw_aload_n rfl rfl d_X_reckons_19 ?_
  refine aw_getr fl_X_69 km_0 (by decide) rfl rm_0_39 d_X_reckons_20 ?_
  refine aw_aload_n rfl rfl d_X_reckons_23 ?_
  refine aw_geti fl_X_347 km_0 (by decide) rfl d_X_reckons_24 ?_
  refine aw_top (x2 := nI 0) (Eq.trans (congrFun (upd2_ne (by decide)) (40)) (Eq.trans (congrFun (upd2_ne (by decide)) (40)) (Eq.trans (congrFun (upd2_ne (by decide)) (40)) (Eq.trans (congrFun (upd2_ne (by decide)) (40)) (Eq.trans (congrFun (upd2_ne (by decide)) (40)) (Eq.trans (congrFun (upd2_ne (by decide)) (40)) (Eq.trans (congrFun (upd2_ne (by decide)) (40)) (Eq.trans (congrFun (upd2_ne (by decide)) (40)) (Eq.trans (congrFun (upd2_ne (by decide)) (40)) (Eq.trans (congrFun (upd2_ne (by decide)) (40)) (Eq.trans (congrFun (upd2_ne (by decide)) (40)) (Eq.trans (congrFun (upd2_ne (by decide)) (40)) (Eq.trans (congrFun (upd2_ne (by decide)) (40)) (Eq.trans (congrFun (upd2_ne (by decide)) (40)) (Eq.trans (congrFun (upd2_ne (by decide)) (40)) (Eq.trans (congrFun (upd2_ne (by decide)) (40)) (Eq.trans (congrFun (upd2_ne (by decide)) (40)) (Eq.trans (congrFun (upd2_ne (by decide)) (40)) (Eq.trans (congrFun (upd2_ne (by decide)) (40)) (Eq.trans (congrFun (upd2_ne (by decide)) (40)) (Eq.trans (congrFun (upd2_ne (by decide)) (40)) (Eq.trans (congrFun (upd2_ne (by decide)) (40)) (Eq.trans (congrFun (upd2_ne (by decide)) (40)) (Eq.trans (congrFun (upd2_ne (by decide)) (40)) (Eq.trans (congrFun (upd2_ne (by decide)) (40)) (Eq.trans (congrFun (upd2_ne (by decide)) (40)) (Eq.trans (congrFun (upd2_ne (by decide)) (40)) (Eq.trans (congrFun (upd2_ne (by decide)) (40)) (Eq.trans (congrFun (upd2_ne (by decide)) (40)) (Eq.trans (congrFun (upd2_ne (by decide)) (40)) (upd2_eq))))))))))))))))))))))))))))))) ?_
  refine aw_iload_n rfl rfl d_X_reckons_27 ?_
  refine aw_iload_n rfl rfl d_X_reckons_28 ?_
  refine as_callS (as := [.int (nI 0), .int (nI 7), .int (nI 2)]) (d' := 4) mo_X_spot lk_X_353 rfl ⟨by decide, by decide⟩ rfl rfl (by decide) d_X_reckons_29 (Ss.of (show As l b 4 y_X_spot KM RM _ (upd2 (upd2 (upd2 (upd2 (upd2 (upd2 (upd2 (upd2 (upd2 (upd2 (upd2 (upd2 (upd2 (upd2 (upd2 (upd2 (upd2 (upd2 (upd2 (upd2 (upd2 (upd2 (upd2 (upd2 (upd2 (upd2 (upd2 (upd2 (upd2 (upd2 (upd2 I 0 40 (nI 0)) 17 (0) (nI 0)) 17 (1) ((-99 : Int32))) 17 (2) (nI 0)) 17 (3) (nI 0)) 17 (4) (nI 0)) 17 (5) ((-99 : Int32))) 17 (6) (nI 0)) 17 (7) (nI 0)) 17 (8) (nI 0)) 17 (9) ((-99 : Int32))) 17 (10) (nI 0)) 17 (11) (nI 0)) 17 (12) (nI 0)) 17 (13) ((-99 : Int32))) 17 (14) (nI 0)) 17 (15) (nI 0)) 17 (16) (nI 0)) 17 (17) ((-99 : Int32))) 17 (18) (nI 0)) 17 (19) (nI 0)) 17 (20) (nI 0)) 17 (21) ((-99 : Int32))) 17 (22) (nI 0)) 17 (23) (nI 0)) 17 (24) (nI 0)) 17 (25) ((-99 : Int32))) 17 (26) (nI 0)) 17 (27) (nI 0)) 17 (28) (nI 0)) 17 (29) ((-99 : Int32))) 0 [.int (nI 0), .int (nI 7), .int (nI 2)] [] from ?_))
  refine aw_bipush (v := nI 36) cb_36 d_X_spot_0 ?_
  refine aw_iload_n rfl rfl d_X_spot_2 ?_
  refine aw_imul d_X_spot_3 ?_
  refine aw_top (x2 := nI 0) (by decide +kernel) ?_
  refine aw_iconst (v := nI 4) ci_4 d_X_spot_4 ?_
  refine aw_iload_n rfl rfl d_X_spot_5 ?_
  refine aw_imul d_X_spot_6 ?_
  refine aw_top (x2 := nI 28) (by decide +kernel) ?_
  refine aw_iadd d_X_spot_7 ?_
  refine aw_top (x2 := nI 28) (by decide +kernel) ?_
  refine aw_iload_n rfl rfl d_X_spot_8 ?_
  refine aw_iadd d_X_spot_9 ?_
  refine aw_top (x2 := nI 30) (by decide +kernel) ?_
  refine as_reti rfl d_X_spot_10 ?_
  refine (show As l b 5 y_X_reckons KM RM K2 (upd2 (upd2 (upd2 (upd2 (upd2 (upd2 (upd2 (upd2 (upd2 (upd2 (upd2 (upd2 (upd2 (upd2 (upd2 (upd2 (upd2 (upd2 (upd2 (upd2 (upd2 (upd2 (upd2 (upd2 (upd2 (upd2 (upd2 (upd2 (upd2 (upd2 (upd2 I 0 40 (nI 0)) 17 (0) (nI 0)) 17 (1) ((-99 : Int32))) 17 (2) (nI 0)) 17 (3) (nI 0)) 17 (4) (nI 0)) 17 (5) ((-99 : Int32))) 17 (6) (nI 0)) 17 (7) (nI 0)) 17 (8) (nI 0)) 17 (9) ((-99 : Int32))) 17 (10) (nI 0)) 17 (11) (nI 0)) 17 (12) (nI 0)) 17 (13) ((-99 : Int32))) 17 (14) (nI 0)) 17 (15) (nI 0)) 17 (16) (nI 0)) 17 (17) ((-99 : Int32))) 17 (18) (nI 0)) 17 (19) (nI 0)) 17 (20) (nI 0)) 17 (21) ((-99 : Int32))) 17 (22) (nI 0)) 17 (23) (nI 0)) 17 (24) (nI 0)) 17 (25) ((-99 : Int32))) 17 (26) (nI 0)) 17 (27) (nI 0)) 17 (28) (nI 0)) 17 (29) ((-99 : Int32))) 32 [.ref 0, .int (nI 7), .int (nI 2), uu, uu, uu] [.int (nI 30), .ref 17] from ?_)
  refine aw_iload_n rfl rfl d_X_reckons_32 ?_
  refine aw_iconst (v := nI 1) ci_1 d_X_reckons_33 ?_
  refine aw_icmp_neI (tgt := 42) (2) (1) (by decide +kernel) (by decide +kernel) (by decide) d_X_reckons_34 (fun _ => ?_) (fun q => absurd q (by decide))
  refine aw_iconst (v := nI 0) ci_0 d_X_reckons_42 ?_
  refine aw_iast (j := 30) km_17 (vp_in_nI (by decide) (by decide)) (nI_clamp (by decide)) d_X_reckons_43 ?_
  refine aw_iinc (v := nI 3) (lv2 := [.ref 0, .int (nI 7), .int (nI 3), uu, uu, uu]) rfl (by decide +kernel) (by decide) rfl d_X_reckons_44 ?_
  refine aw_goto (tgt := 14) (by decide) d_X_reckons_47 ?_
  refine aw_iload_n rfl rfl d_X_reckons_14 ?_
  refine aw_iconst (v := nI 4) ci_4 d_X_reckons_15 ?_
  refine aw_icmp_geI (tgt := 50) (3) (4) (by decide +kernel) (by decide +kernel) (by decide) d_X_reckons_16 (fun q => absurd q (by decide)) (fun _ => ?_)
  refine aw_aload_n rfl rfl d_X_reckons_19 ?_
  refine aw_getr fl_X_69 km_0 (by decide) rfl rm_0_39 d_X_reckons_20 ?_
  refine aw_aload_n rfl rfl d_X_reckons_23 ?_
  refine aw_geti fl_X_347 km_0 (by decide) rfl d_X_reckons_24 ?_
  refine aw_top (x2 := nI 0) (Eq.trans (congrFun (upd2_ne (by decide)) (40)) (Eq.trans (congrFun (upd2_ne (by decide)) (40)) (Eq.trans (congrFun (upd2_ne (by decide)) (40)) (Eq.trans (congrFun (upd2_ne (by decide)) (40)) (Eq.trans (congrFun (upd2_ne (by decide)) (40)) (Eq.trans (congrFun (upd2_ne (by decide)) (40)) (Eq.trans (congrFun (upd2_ne (by decide)) (40)) (Eq.trans (congrFun (upd2_ne (by decide)) (40)) (Eq.trans (congrFun (upd2_ne (by decide)) (40)) (Eq.trans (congrFun (upd2_ne (by decide)) (40)) (Eq.trans (congrFun (upd2_ne (by decide)) (40)) (Eq.trans (congrFun (upd2_ne (by decide)) (40)) (Eq.trans (congrFun (upd2_ne (by decide)) (40)) (Eq.trans (congrFun (upd2_ne (by decide)) (40)) (Eq.trans (congrFun (upd2_ne (by decide)) (40)) (Eq.trans (congrFun (upd2_ne (by decide)) (40)) (Eq.trans (congrFun (upd2_ne (by decide)) (40)) (Eq.trans (congrFun (upd2_ne (by decide)) (40)) (Eq.trans (congrFun (upd2_ne (by decide)) (40)) (Eq.trans (congrFun (upd2_ne (by decide)) (40)) (Eq.trans (congrFun (upd2_ne (by decide)) (40)) (Eq.trans (congrFun (upd2_ne (by decide)) (40)) (Eq.trans (congrFun (upd2_ne (by decide)) (40)) (Eq.trans (congrFun (upd2_ne (by decide)) (40)) (Eq.trans (congrFun (upd2_ne (by decide)) (40)) (Eq.trans (congrFun (upd2_ne (by decide)) (40)) (Eq.trans (congrFun (upd2_ne (by decide)) (40)) (Eq.trans (congrFun (upd2_ne (by decide)) (40)) (Eq.trans (congrFun (upd2_ne (by decide)) (40)) (Eq.trans (congrFun (upd2_ne (by decide)) (40)) (Eq.trans (congrFun (upd2_ne (by decide)) (40)) (upd2_eq)))))))))))))))))))))))))))))))) ?_
  refine aw_iload_n rfl rfl d_X_reckons_27 ?_
  refine aw_iload_n rfl rfl d_X_reckons_28 ?_
  refine as_callS (as := [.int (nI 0), .int (nI 7), .int (nI 3)]) (d' := 4) mo_X_spot lk_X_353 rfl ⟨by decide, by decide⟩ rfl rfl (by decide) d_X_reckons_29 (Ss.of (show As l b 4 y_X_spot KM RM _ (upd2 (upd2 (upd2 (upd2 (upd2 (upd2 (upd2 (upd2 (upd2 (upd2 (upd2 (upd2 (upd2 (upd2 (upd2 (upd2 (upd2 (upd2 (upd2 (upd2 (upd2 (upd2 (upd2 (upd2 (upd2 (upd2 (upd2 (upd2 (upd2 (upd2 (upd2 (upd2 I 0 40 (nI 0)) 17 (0) (nI 0)) 17 (1) ((-99 : Int32))) 17 (2) (nI 0)) 17 (3) (nI 0)) 17 (4) (nI 0)) 17 (5) ((-99 : Int32))) 17 (6) (nI 0)) 17 (7) (nI 0)) 17 (8) (nI 0)) 17 (9) ((-99 : Int32))) 17 (10) (nI 0)) 17 (11) (nI 0)) 17 (12) (nI 0)) 17 (13) ((-99 : Int32))) 17 (14) (nI 0)) 17 (15) (nI 0)) 17 (16) (nI 0)) 17 (17) ((-99 : Int32))) 17 (18) (nI 0)) 17 (19) (nI 0)) 17 (20) (nI 0)) 17 (21) ((-99 : Int32))) 17 (22) (nI 0)) 17 (23) (nI 0)) 17 (24) (nI 0)) 17 (25) ((-99 : Int32))) 17 (26) (nI 0)) 17 (27) (nI 0)) 17 (28) (nI 0)) 17 (29) ((-99 : Int32))) 17 (30) (nI 0)) 0 [.int (nI 0), .int (nI 7), .int (nI 3)] [] from ?_))
  refine aw_bipush (v := nI 36) cb_36 d_X_spot_0 ?_
  refine aw_iload_n rfl rfl d_X_spot_2 ?_
  refine aw_imul d_X_spot_3 ?_
  refine aw_top (x2 := nI 0) (by decide +kernel) ?_
  refine aw_iconst (v := nI 4) ci_4 d_X_spot_4 ?_
  refine aw_iload_n rfl rfl d_X_spot_5 ?_
  refine aw_imul d_X_spot_6 ?_
  refine aw_top (x2 := nI 28) (by decide +kernel) ?_
  refine aw_iadd d_X_spot_7 ?_
  refine aw_top (x2 := nI 28) (by decide +kernel) ?_
  refine aw_iload_n rfl rfl d_X_spot_8 ?_
  refine aw_iadd d_X_spot_9 ?_
  refine aw_top (x2 := nI 31) (by decide +kernel) ?_
  refine as_reti rfl d_X_spot_10 ?_
  refine (show As l b 5 y_X_reckons KM RM K2 (upd2 (upd2 (upd2 (upd2 (upd2 (upd2 (upd2 (upd2 (upd2 (upd2 (upd2 (upd2 (upd2 (upd2 (upd2 (upd2 (upd2 (upd2 (upd2 (upd2 (upd2 (upd2 (upd2 (upd2 (upd2 (upd2 (upd2 (upd2 (upd2 (upd2 (upd2 (upd2 I 0 40 (nI 0)) 17 (0) (nI 0)) 17 (1) ((-99 : Int32))) 17 (2) (nI 0)) 17 (3) (nI 0)) 17 (4) (nI 0)) 17 (5) ((-99 : Int32))) 17 (6) (nI 0)) 17 (7) (nI 0)) 17 (8) (nI 0)) 17 (9) ((-99 : Int32))) 17 (10) (nI 0)) 17 (11) (nI 0)) 17 (12) (nI 0)) 17 (13) ((-99 : Int32))) 17 (14) (nI 0)) 17 (15) (nI 0)) 17 (16) (nI 0)) 17 (17) ((-99 : Int32))) 17 (18) (nI 0)) 17 (19) (nI 0)) 17 (20) (nI 0)) 17 (21) ((-99 : Int32))) 17 (22) (nI 0)) 17 (23) (nI 0)) 17 (24) (nI 0)) 17 (25) ((-99 : Int32))) 17 (26) (nI 0)) 17 (27) (nI 0)) 17 (28) (nI 0)) 17 (29) ((-99 : Int32))) 17 (30) (nI 0)) 32 [.ref 0, .int (nI 7), .int (nI 3), uu, uu, uu] [.int (nI 31), .ref 17] from ?_)
  refine aw_iload_n rfl rfl d_X_reckons_32 ?_
  refine aw_iconst (v := nI 1) ci_1 d_X_reckons_33 ?_
  refine aw_icmp_neI (tgt := 42) (3) (1) (by decide +kernel) (by decide +kernel) (by decide) d_X_reckons_34 (fun _ => ?_) (fun q => absurd q (by decide))
  refine aw_iconst (v := nI 0) ci_0 d_X_reckons_42 ?_
  refine aw_iast (j := 31) km_17 (vp_in_nI (by decide) (by decide)) (nI_clamp (by decide)) d_X_reckons_43 ?_
  refine aw_iinc (v := nI 4) (lv2 := [.ref 0, .int (nI 7), .int (nI 4), uu, uu, uu]) rfl (by decide +kernel) (by decide) rfl d_X_reckons_44 ?_
  refine aw_goto (tgt := 14) (by decide) d_X_reckons_47 ?_
  refine aw_iload_n rfl rfl d_X_reckons_14 ?_
  refine aw_iconst (v := nI 4) ci_4 d_X_reckons_15 ?_
  refine aw_icmp_geI (tgt := 50) (4) (4) (by decide +kernel) (by decide +kernel) (by decide) d_X_reckons_16 (fun _ => ?_) (fun q => absurd q (by decide))
  refine aw_iinc (v := nI 8) (lv2 := [.ref 0, .int (nI 8), .int (nI 4), uu, uu, uu]) rfl (by decide +kernel) (by decide) rfl d_X_reckons_50 ?_
  refine aw_goto (tgt := 6) (by decide) d_X_reckons_53 ?_
  refine aw_iload_n rfl rfl d_X_reckons_6 ?_
  refine aw_bipush (v := nI 9) cb_9 d_X_reckons_7 ?_
  refine aw_icmp_geI (tgt := 56) (8) (9) (by decide +kernel) (by decide +kernel) (by decide) d_X_reckons_9 (fun q => absurd q (by decide)) (fun _ => ?_)
  refine aw_iconst (v := nI 0) ci_0 d_X_reckons_12 ?_
  refine aw_istore_n (lv2 := [.ref 0, .int (nI 8), .int (nI 0), uu, uu, uu]) rfl (by decide) rfl d_X_reckons_13 ?_
  refine aw_iload_n rfl rfl d_X_reckons_14 ?_
  refine aw_iconst (v := nI 4) ci_4 d_X_reckons_15 ?_
  refine aw_icmp_geI (tgt := 50) (0) (4) (by decide +kernel) (by decide +kernel) (by decide) d_X_reckons_16 (fun q => absurd q (by decide)) (fun _ => ?_)
  refine aw_aload_n rfl rfl d_X_reckons_19 ?_
  refine aw_getr fl_X_69 km_0 (by decide) rfl rm_0_39 d_X_reckons_20 ?_
  refine aw_aload_n rfl rfl d_X_reckons_23 ?_
  refine aw_geti fl_X_347 km_0 (by decide) rfl d_X_reckons_24 ?_
  refine aw_top (x2 := nI 0) (Eq.trans (congrFun (upd2_ne (by decide)) (40)) (Eq.trans (congrFun (upd2_ne (by decide)) (40)) (Eq.trans (congrFun (upd2_ne (by decide)) (40)) (Eq.trans (congrFun (upd2_ne (by decide)) (40)) (Eq.trans (congrFun (upd2_ne (by decide)) (40)) (Eq.trans (congrFun (upd2_ne (by decide)) (40)) (Eq.trans (congrFun (upd2_ne (by decide)) (40)) (Eq.trans (congrFun (upd2_ne (by decide)) (40)) (Eq.trans (congrFun (upd2_ne (by decide)) (40)) (Eq.trans (congrFun (upd2_ne (by decide)) (40)) (Eq.trans (congrFun (upd2_ne (by decide)) (40)) (Eq.trans (congrFun (upd2_ne (by decide)) (40)) (Eq.trans (congrFun (upd2_ne (by decide)) (40)) (Eq.trans (congrFun (upd2_ne (by decide)) (40)) (Eq.trans (congrFun (upd2_ne (by decide)) (40)) (Eq.trans (congrFun (upd2_ne (by decide)) (40)) (Eq.trans (congrFun (upd2_ne (by decide)) (40)) (Eq.trans (congrFun (upd2_ne (by decide)) (40)) (Eq.trans (congrFun (upd2_ne (by decide)) (40)) (Eq.trans (congrFun (upd2_ne (by decide)) (40)) (Eq.trans (congrFun (upd2_ne (by decide)) (40)) (Eq.trans (congrFun (upd2_ne (by decide)) (40)) (Eq.trans (congrFun (upd2_ne (by decide)) (40)) (Eq.trans (congrFun (upd2_ne (by decide)) (40)) (Eq.trans (congrFun (upd2_ne (by decide)) (40)) (Eq.trans (congrFun (upd2_ne (by decide)) (40)) (Eq.trans (congrFun (upd2_ne (by decide)) (40)) (Eq.trans (congrFun (upd2_ne (by decide)) (40)) (Eq.trans (congrFun (upd2_ne (by decide)) (40)) (Eq.trans (congrFun (upd2_ne (by decide)) (40)) (Eq.trans (congrFun (upd2_ne (by decide)) (40)) (Eq.trans (congrFun (upd2_ne (by decide)) (40)) (upd2_eq))))))))))))))))))))))))))))))))) ?_
  refine aw_iload_n rfl rfl d_X_reckons_27 ?_
  refine aw_iload_n rfl rfl d_X_reckons_28 ?_
  refine as_callS (as := [.int (nI 0), .int (nI 8), .int (nI 0)]) (d' := 4) mo_X_spot lk_X_353 rfl ⟨by decide, by decide⟩ rfl rfl (by decide) d_X_reckons_29 (Ss.of (show As l b 4 y_X_spot KM RM _ (upd2 (upd2 (upd2 (upd2 (upd2 (upd2 (upd2 (upd2 (upd2 (upd2 (upd2 (upd2 (upd2 (upd2 (upd2 (upd2 (upd2 (upd2 (upd2 (upd2 (upd2 (upd2 (upd2 (upd2 (upd2 (upd2 (upd2 (upd2 (upd2 (upd2 (upd2 (upd2 (upd2 I 0 40 (nI 0)) 17 (0) (nI 0)) 17 (1) ((-99 : Int32))) 17 (2) (nI 0)) 17 (3) (nI 0)) 17 (4) (nI 0)) 17 (5) ((-99 : Int32))) 17 (6) (nI 0)) 17 (7) (nI 0)) 17 (8) (nI 0)) 17 (9) ((-99 : Int32))) 17 (10) (nI 0)) 17 (11) (nI 0)) 17 (12) (nI 0)) 17 (13) ((-99 : Int32))) 17 (14) (nI 0)) 17 (15) (nI 0)) 17 (16) (nI 0)) 17 (17) ((-99 : Int32))) 17 (18) (nI 0)) 17 (19) (nI 0)) 17 (20) (nI 0)) 17 (21) ((-99 : Int32))) 17 (22) (nI 0)) 17 (23) (nI 0)) 17 (24) (nI 0)) 17 (25) ((-99 : Int32))) 17 (26) (nI 0)) 17 (27) (nI 0)) 17 (28) (nI 0)) 17 (29) ((-99 : Int32))) 17 (30) (nI 0)) 17 (31) (nI 0)) 0 [.int (nI 0), .int (nI 8), .int (nI 0)] [] from ?_))
  refine aw_bipush (v := nI 36) cb_36 d_X_spot_0 ?_
  refine aw_iload_n rfl rfl d_X_spot_2 ?_
  refine aw_imul d_X_spot_3 ?_
  refine aw_top (x2 := nI 0) (by decide +kernel) ?_
  refine aw_iconst (v := nI 4) ci_4 d_X_spot_4 ?_
  refine aw_iload_n rfl rfl d_X_spot_5 ?_
  refine aw_imul d_X_spot_6 ?_
  refine aw_top (x2 := nI 32) (by decide +kernel) ?_
  refine aw_iadd d_X_spot_7 ?_
  refine aw_top (x2 := nI 32) (by decide +kernel) ?_
  refine aw_iload_n rfl rfl d_X_spot_8 ?_
  refine aw_iadd d_X_spot_9 ?_
  refine aw_top (x2 := nI 32) (by decide +kernel) ?_
  refine as_reti rfl d_X_spot_10 ?_
  refine (show As l b 5 y_X_reckons KM RM K2 (upd2 (upd2 (upd2 (upd2 (upd2 (upd2 (upd2 (upd2 (upd2 (upd2 (upd2 (upd2 (upd2 (upd2 (upd2 (upd2 (upd2 (upd2 (upd2 (upd2 (upd2 (upd2 (upd2 (upd2 (upd2 (upd2 (upd2 (upd2 (upd2 (upd2 (upd2 (upd2 (upd2 I 0 40 (nI 0)) 17 (0) (nI 0)) 17 (1) ((-99 : Int32))) 17 (2) (nI 0)) 17 (3) (nI 0)) 17 (4) (nI 0)) 17 (5) ((-99 : Int32))) 17 (6) (nI 0)) 17 (7) (nI 0)) 17 (8) (nI 0)) 17 (9) ((-99 : Int32))) 17 (10) (nI 0)) 17 (11) (nI 0)) 17 (12) (nI 0)) 17 (13) ((-99 : Int32))) 17 (14) (nI 0)) 17 (15) (nI 0)) 17 (16) (nI 0)) 17 (17) ((-99 : Int32))) 17 (18) (nI 0)) 17 (19) (nI 0)) 17 (20) (nI 0)) 17 (21) ((-99 : Int32))) 17 (22) (nI 0)) 17 (23) (nI 0)) 17 (24) (nI 0)) 17 (25) ((-99 : Int32))) 17 (26) (nI 0)) 17 (27) (nI 0)) 17 (28) (nI 0)) 17 (29) ((-99 : Int32))) 17 (30) (nI 0)) 17 (31) (nI 0)) 32 [.ref 0, .int (nI 8), .int (nI 0), uu, uu, uu] [.int (nI 32), .ref 17] from ?_)
  refine aw_iload_n rfl rfl d_X_reckons_32 ?_
  refine aw_iconst (v := nI 1) ci_1 d_X_reckons_33 ?_
  refine aw_icmp_neI (tgt := 42) (0) (1) (by decide +kernel) (by decide +kernel) (by decide) d_X_reckons_34 (fun _ => ?_) (fun q => absurd q (by decide))
  refine aw_iconst (v := nI 0) ci_0 d_X_reckons_42 ?_
  refine aw_iast (j := 32) km_17 (vp_in_nI (by decide) (by decide)) (nI_clamp (by decide)) d_X_reckons_43 ?_
  refine aw_iinc (v := nI 1) (lv2 := [.ref 0, .int (nI 8), .int (nI 1), uu, uu, uu]) rfl (by decide +kernel) (by decide) rfl d_X_reckons_44 ?_
  refine aw_goto (tgt := 14) (by decide) d_X_reckons_47 ?_
  refine aw_iload_n rfl rfl d_X_reckons_14 ?_
  refine aw_iconst (v := nI 4) ci_4 d_X_reckons_15 ?_
  refine aw_icmp_geI (tgt := 50) (1) (4) (by decide +kernel) (by decide +kernel) (by decide) d_X_reckons_16 (fun q => absurd q (by decide)) (fun _ => ?_)
  refine aw_aload_n rfl rfl d_X_reckons_19 ?_
  refine aw_getr fl_X_69 km_0 (by decide) rfl rm_0_39 d_X_reckons_20 ?_
  refine aw_aload_n rfl rfl d_X_reckons_23 ?_
  refine aw_geti fl_X_347 km_0 (by decide) rfl d_X_reckons_24 ?_
  refine aw_top (x2 := nI 0) (Eq.trans (congrFun (upd2_ne (by decide)) (40)) (Eq.trans (congrFun (upd2_ne (by decide)) (40)) (Eq.trans (congrFun (upd2_ne (by decide)) (40)) (Eq.trans (congrFun (upd2_ne (by decide)) (40)) (Eq.trans (congrFun (upd2_ne (by decide)) (40)) (Eq.trans (congrFun (upd2_ne (by decide)) (40)) (Eq.trans (congrFun (upd2_ne (by decide)) (40)) (Eq.trans (congrFun (upd2_ne (by decide)) (40)) (Eq.trans (congrFun (upd2_ne (by decide)) (40)) (Eq.trans (congrFun (upd2_ne (by decide)) (40)) (Eq.trans (congrFun (upd2_ne (by decide)) (40)) (Eq.trans (congrFun (upd2_ne (by decide)) (40)) (Eq.trans (congrFun (upd2_ne (by decide)) (40)) (Eq.trans (congrFun (upd2_ne (by decide)) (40)) (Eq.trans (congrFun (upd2_ne (by decide)) (40)) (Eq.trans (congrFun (upd2_ne (by decide)) (40)) (Eq.trans (congrFun (upd2_ne (by decide)) (40)) (Eq.trans (congrFun (upd2_ne (by decide)) (40)) (Eq.trans (congrFun (upd2_ne (by decide)) (40)) (Eq.trans (congrFun (upd2_ne (by decide)) (40)) (Eq.trans (congrFun (upd2_ne (by decide)) (40)) (Eq.trans (congrFun (upd2_ne (by decide)) (40)) (Eq.trans (congrFun (upd2_ne (by decide)) (40)) (Eq.trans (congrFun (upd2_ne (by decide)) (40)) (Eq.trans (congrFun (upd2_ne (by decide)) (40)) (Eq.trans (congrFun (upd2_ne (by decide)) (40)) (Eq.trans (congrFun (upd2_ne (by decide)) (40)) (Eq.trans (congrFun (upd2_ne (by decide)) (40)) (Eq.trans (congrFun (upd2_ne (by decide)) (40)) (Eq.trans (congrFun (upd2_ne (by decide)) (40)) (Eq.trans (congrFun (upd2_ne (by decide)) (40)) (Eq.trans (congrFun (upd2_ne (by decide)) (40)) (Eq.trans (congrFun (upd2_ne (by decide)) (40)) (upd2_eq)))))))))))))))))))))))))))))))))) ?_
  refine aw_iload_n rfl rfl d_X_reckons_27 ?_
  refine aw_iload_n rfl rfl d_X_reckons_28 ?_
  refine as_callS (as := [.int (nI 0), .int (nI 8), .int (nI 1)]) (d' := 4) mo_X_spot lk_X_353 rfl ⟨by decide, by decide⟩ rfl rfl (by decide) d_X_reckons_29 (Ss.of (show As l b 4 y_X_spot KM RM _ (upd2 (upd2 (upd2 (upd2 (upd2 (upd2 (upd2 (upd2 (upd2 (upd2 (upd2 (upd2 (upd2 (upd2 (upd2 (upd2 (upd2 (upd2 (upd2 (upd2 (upd2 (upd2 (upd2 (upd2 (upd2 (upd2 (upd2 (upd2 (upd2 (upd2 (upd2 (upd2 (upd2 (upd2 I 0 40 (nI 0)) 17 (0) (nI 0)) 17 (1) ((-99 : Int32))) 17 (2) (nI 0)) 17 (3) (nI 0)) 17 (4) (nI 0)) 17 (5) ((-99 : Int32))) 17 (6) (nI 0)) 17 (7) (nI 0)) 17 (8) (nI 0)) 17 (9) ((-99 : Int32))) 17 (10) (nI 0)) 17 (11) (nI 0)) 17 (12) (nI 0)) 17 (13) ((-99 : Int32))) 17 (14) (nI 0)) 17 (15) (nI 0)) 17 (16) (nI 0)) 17 (17) ((-99 : Int32))) 17 (18) (nI 0)) 17 (19) (nI 0)) 17 (20) (nI 0)) 17 (21) ((-99 : Int32))) 17 (22) (nI 0)) 17 (23) (nI 0)) 17 (24) (nI 0)) 17 (25) ((-99 : Int32))) 17 (26) (nI 0)) 17 (27) (nI 0)) 17 (28) (nI 0)) 17 (29) ((-99 : Int32))) 17 (30) (nI 0)) 17 (31) (nI 0)) 17 (32) (nI 0)) 0 [.int (nI 0), .int (nI 8), .int (nI 1)] [] from ?_))
  refine aw_bipush (v := nI 36) cb_36 d_X_spot_0 ?_
  refine aw_iload_n rfl rfl d_X_spot_2 ?_
  refine aw_imul d_X_spot_3 ?_
  refine aw_top (x2 := nI 0) (by decide +kernel) ?_
  refine aw_iconst (v := nI 4) ci_4 d_X_spot_4 ?_
  refine aw_iload_n rfl rfl d_X_spot_5 ?_
  refine aw_imul d_X_spot_6 ?_
  refine aw_top (x2 := nI 32) (by decide +kernel) ?_
  refine aw_iadd d_X_spot_7 ?_
  refine aw_top (x2 := nI 32) (by decide +kernel) ?_
  refine aw_iload_n rfl rfl d_X_spot_8 ?_
  refine aw_iadd d_X_spot_9 ?_
  refine aw_top (x2 := nI 33) (by decide +kernel) ?_
  refine as_reti rfl d_X_spot_10 ?_
  refine (show As l b 5 y_X_reckons KM RM K2 (upd2 (upd2 (upd2 (upd2 (upd2 (upd2 (upd2 (upd2 (upd2 (upd2 (upd2 (upd2 (upd2 (upd2 (upd2 (upd2 (upd2 (upd2 (upd2 (upd2 (upd2 (upd2 (upd2 (upd2 (upd2 (upd2 (upd2 (upd2 (upd2 (upd2 (upd2 (upd2 (upd2 (upd2 I 0 40 (nI 0)) 17 (0) (nI 0)) 17 (1) ((-99 : Int32))) 17 (2) (nI 0)) 17 (3) (nI 0)) 17 (4) (nI 0)) 17 (5) ((-99 : Int32))) 17 (6) (nI 0)) 17 (7) (nI 0)) 17 (8) (nI 0)) 17 (9) ((-99 : Int32))) 17 (10) (nI 0)) 17 (11) (nI 0)) 17 (12) (nI 0)) 17 (13) ((-99 : Int32))) 17 (14) (nI 0)) 17 (15) (nI 0)) 17 (16) (nI 0)) 17 (17) ((-99 : Int32))) 17 (18) (nI 0)) 17 (19) (nI 0)) 17 (20) (nI 0)) 17 (21) ((-99 : Int32))) 17 (22) (nI 0)) 17 (23) (nI 0)) 17 (24) (nI 0)) 17 (25) ((-99 : Int32))) 17 (26) (nI 0)) 17 (27) (nI 0)) 17 (28) (nI 0)) 17 (29) ((-99 : Int32))) 17 (30) (nI 0)) 17 (31) (nI 0)) 17 (32) (nI 0)) 32 [.ref 0, .int (nI 8), .int (nI 1), uu, uu, uu] [.int (nI 33), .ref 17] from ?_)
  refine aw_iload_n rfl rfl d_X_reckons_32 ?_
  refine aw_iconst (v := nI 1) ci_1 d_X_reckons_33 ?_
  refine aw_icmp_neI (tgt := 42) (1) (1) (by decide +kernel) (by decide +kernel) (by decide) d_X_reckons_34 (fun q => absurd q (by decide)) (fun _ => ?_)
  refine aw_bipush (v := (-99 : Int32)) rfl d_X_reckons_37 ?_
  refine aw_goto (tgt := 43) (by decide) d_X_reckons_39 ?_
  refine aw_iast (j := 33) km_17 (vp_in_nI (by decide) (by decide)) (nI_clamp (by decide)) d_X_reckons_43 ?_
  refine aw_iinc (v := nI 2) (lv2 := [.ref 0, .int (nI 8), .int (nI 2), uu, uu, uu]) rfl (by decide +kernel) (by decide) rfl d_X_reckons_44 ?_
  refine aw_goto (tgt := 14) (by decide) d_X_reckons_47 ?_
  refine aw_iload_n rfl rfl d_X_reckons_14 ?_
  refine aw_iconst (v := nI 4) ci_4 d_X_reckons_15 ?_
  refine aw_icmp_geI (tgt := 50) (2) (4) (by decide +kernel) (by decide +kernel) (by decide) d_X_reckons_16 (fun q => absurd q (by decide)) (fun _ => ?_)
  refine aw_aload_n rfl rfl d_X_reckons_19 ?_
  refine aw_getr fl_X_69 km_0 (by decide) rfl rm_0_39 d_X_reckons_20 ?_
  refine aw_aload_n rfl rfl d_X_reckons_23 ?_
  refine aw_geti fl_X_347 km_0 (by decide) rfl d_X_reckons_24 ?_
  refine aw_top (x2 := nI 0) (Eq.trans (congrFun (upd2_ne (by decide)) (40)) (Eq.trans (congrFun (upd2_ne (by decide)) (40)) (Eq.trans (congrFun (upd2_ne (by decide)) (40)) (Eq.trans (congrFun (upd2_ne (by decide)) (40)) (Eq.trans (congrFun (upd2_ne (by decide)) (40)) (Eq.trans (congrFun (upd2_ne (by decide)) (40)) (Eq.trans (congrFun (upd2_ne (by decide)) (40)) (Eq.trans (congrFun (upd2_ne (by decide)) (40)) (Eq.trans (congrFun (upd2_ne (by decide)) (40)) (Eq.trans (congrFun (upd2_ne (by decide)) (40)) (Eq.trans (congrFun (upd2_ne (by decide)) (40)) (Eq.trans (congrFun (upd2_ne (by decide)) (40)) (Eq.trans (congrFun (upd2_ne (by decide)) (40)) (Eq.trans (congrFun (upd2_ne (by decide)) (40)) (Eq.trans (congrFun (upd2_ne (by decide)) (40)) (Eq.trans (congrFun (upd2_ne (by decide)) (40)) (Eq.trans (congrFun (upd2_ne (by decide)) (40)) (Eq.trans (congrFun (upd2_ne (by decide)) (40)) (Eq.trans (congrFun (upd2_ne (by decide)) (40)) (Eq.trans (congrFun (upd2_ne (by decide)) (40)) (Eq.trans (congrFun (upd2_ne (by decide)) (40)) (Eq.trans (congrFun (upd2_ne (by decide)) (40)) (Eq.trans (congrFun (upd2_ne (by decide)) (40)) (Eq.trans (congrFun (upd2_ne (by decide)) (40)) (Eq.trans (congrFun (upd2_ne (by decide)) (40)) (Eq.trans (congrFun (upd2_ne (by decide)) (40)) (Eq.trans (congrFun (upd2_ne (by decide)) (40)) (Eq.trans (congrFun (upd2_ne (by decide)) (40)) (Eq.trans (congrFun (upd2_ne (by decide)) (40)) (Eq.trans (congrFun (upd2_ne (by decide)) (40)) (Eq.trans (congrFun (upd2_ne (by decide)) (40)) (Eq.trans (congrFun (upd2_ne (by decide)) (40)) (Eq.trans (congrFun (upd2_ne (by decide)) (40)) (Eq.trans (congrFun (upd2_ne (by decide)) (40)) (upd2_eq))))))))))))))))))))))))))))))))))) ?_
  refine aw_iload_n rfl rfl d_X_reckons_27 ?_
  refine aw_iload_n rfl rfl d_X_reckons_28 ?_
  refine as_callS (as := [.int (nI 0), .int (nI 8), .int (nI 2)]) (d' := 4) mo_X_spot lk_X_353 rfl ⟨by decide, by decide⟩ rfl rfl (by decide) d_X_reckons_29 (Ss.of (show As l b 4 y_X_spot KM RM _ (upd2 (upd2 (upd2 (upd2 (upd2 (upd2 (upd2 (upd2 (upd2 (upd2 (upd2 (upd2 (upd2 (upd2 (upd2 (upd2 (upd2 (upd2 (upd2 (upd2 (upd2 (upd2 (upd2 (upd2 (upd2 (upd2 (upd2 (upd2 (upd2 (upd2 (upd2 (upd2 (upd2 (upd2 (upd2 I 0 40 (nI 0)) 17 (0) (nI 0)) 17 (1) ((-99 : Int32))) 17 (2) (nI 0)) 17 (3) (nI 0)) 17 (4) (nI 0)) 17 (5) ((-99 : Int32))) 17 (6) (nI 0)) 17 (7) (nI 0)) 17 (8) (nI 0)) 17 (9) ((-99 : Int32))) 17 (10) (nI 0)) 17 (11) (nI 0)) 17 (12) (nI 0)) 17 (13) ((-99 : Int32))) 17 (14) (nI 0)) 17 (15) (nI 0)) 17 (16) (nI 0)) 17 (17) ((-99 : Int32))) 17 (18) (nI 0)) 17 (19) (nI 0)) 17 (20) (nI 0)) 17 (21) ((-99 : Int32))) 17 (22) (nI 0)) 17 (23) (nI 0)) 17 (24) (nI 0)) 17 (25) ((-99 : Int32))) 17 (26) (nI 0)) 17 (27) (nI 0)) 17 (28) (nI 0)) 17 (29) ((-99 : Int32))) 17 (30) (nI 0)) 17 (31) (nI 0)) 17 (32) (nI 0)) 17 (33) ((-99 : Int32))) 0 [.int (nI 0), .int (nI 8), .int (nI 2)] [] from ?_))
  refine aw_bipush (v := nI 36) cb_36 d_X_spot_0 ?_
  refine aw_iload_n rfl rfl d_X_spot_2 ?_
  refine aw_imul d_X_spot_3 ?_
  refine aw_top (x2 := nI 0) (by decide +kernel) ?_
  refine aw_iconst (v := nI 4) ci_4 d_X_spot_4 ?_
  refine aw_iload_n rfl rfl d_X_spot_5 ?_
  refine aw_imul d_X_spot_6 ?_
  refine aw_top (x2 := nI 32) (by decide +kernel) ?_
  refine aw_iadd d_X_spot_7 ?_
  refine aw_top (x2 := nI 32) (by decide +kernel) ?_
  refine aw_iload_n rfl rfl d_X_spot_8 ?_
  refine aw_iadd d_X_spot_9 ?_
  refine aw_top (x2 := nI 34) (by decide +kernel) ?_
  refine as_reti rfl d_X_spot_10 ?_
  refine (show As l b 5 y_X_reckons KM RM K2 (upd2 (upd2 (upd2 (upd2 (upd2 (upd2 (upd2 (upd2 (upd2 (upd2 (upd2 (upd2 (upd2 (upd2 (upd2 (upd2 (upd2 (upd2 (upd2 (upd2 (upd2 (upd2 (upd2 (upd2 (upd2 (upd2 (upd2 (upd2 (upd2 (upd2 (upd2 (upd2 (upd2 (upd2 (upd2 I 0 40 (nI 0)) 17 (0) (nI 0)) 17 (1) ((-99 : Int32))) 17 (2) (nI 0)) 17 (3) (nI 0)) 17 (4) (nI 0)) 17 (5) ((-99 : Int32))) 17 (6) (nI 0)) 17 (7) (nI 0)) 17 (8) (nI 0)) 17 (9) ((-99 : Int32))) 17 (10) (nI 0)) 17 (11) (nI 0)) 17 (12) (nI 0)) 17 (13) ((-99 : Int32))) 17 (14) (nI 0)) 17 (15) (nI 0)) 17 (16) (nI 0)) 17 (17) ((-99 : Int32))) 17 (18) (nI 0)) 17 (19) (nI 0)) 17 (20) (nI 0)) 17 (21) ((-99 : Int32))) 17 (22) (nI 0)) 17 (23) (nI 0)) 17 (24) (nI 0)) 17 (25) ((-99 : Int32))) 17 (26) (nI 0)) 17 (27) (nI 0)) 17 (28) (nI 0)) 17 (29) ((-99 : Int32))) 17 (30) (nI 0)) 17 (31) (nI 0)) 17 (32) (nI 0)) 17 (33) ((-99 : Int32))) 32 [.ref 0, .int (nI 8), .int (nI 2), uu, uu, uu] [.int (nI 34), .ref 17] from ?_)
  refine aw_iload_n rfl rfl d_X_reckons_32 ?_
  refine aw_iconst (v := nI 1) ci_1 d_X_reckons_33 ?_
  refine aw_icmp_neI (tgt := 42) (2) (1) (by decide +kernel) (by decide +kernel) (by decide) d_X_reckons_34 (fun _ => ?_) (fun q => absurd q (by decide))
  refine aw_iconst (v := nI 0) ci_0 d_X_reckons_42 ?_
  refine aw_iast (j := 34) km_17 (vp_in_nI (by decide) (by decide)) (nI_clamp (by decide)) d_X_reckons_43 ?_
  refine aw_iinc (v := nI 3) (lv2 := [.ref 0, .int (nI 8), .int (nI 3), uu, uu, uu]) rfl (by decide +kernel) (by decide) rfl d_X_reckons_44 ?_
  refine aw_goto (tgt := 14) (by decide) d_X_reckons_47 ?_
  refine aw_iload_n rfl rfl d_X_reckons_14 ?_
  refine aw_iconst (v := nI 4) ci_4 d_X_reckons_15 ?_
  refine aw_icmp_geI (tgt := 50) (3) (4) (by decide +kernel) (by decide +kernel) (by decide) d_X_reckons_16 (fun q => absurd q (by decide)) (fun _ => ?_)
  refine aw_aload_n rfl rfl d_X_reckons_19 ?_
  refine aw_getr fl_X_69 km_0 (by decide) rfl rm_0_39 d_X_reckons_20 ?_
  refine aw_aload_n rfl rfl d_X_reckons_23 ?_
  refine aw_geti fl_X_347 km_0 (by decide) rfl d_X_reckons_24 ?_
  refine aw_top (x2 := nI 0) (Eq.trans (congrFun (upd2_ne (by decide)) (40)) (Eq.trans (congrFun (upd2_ne (by decide)) (40)) (Eq.trans (congrFun (upd2_ne (by decide)) (40)) (Eq.trans (congrFun (upd2_ne (by decide)) (40)) (Eq.trans (congrFun (upd2_ne (by decide)) (40)) (Eq.trans (congrFun (upd2_ne (by decide)) (40)) (Eq.trans (congrFun (upd2_ne (by decide)) (40)) (Eq.trans (congrFun (upd2_ne (by decide)) (40)) (Eq.trans (congrFun (upd2_ne (by decide)) (40)) (Eq.trans (congrFun (upd2_ne (by decide)) (40)) (Eq.trans (congrFun (upd2_ne (by decide)) (40)) (Eq.trans (congrFun (upd2_ne (by decide)) (40)) (Eq.trans (congrFun (upd2_ne (by decide)) (40)) (Eq.trans (congrFun (upd2_ne (by decide)) (40)) (Eq.trans (congrFun (upd2_ne (by decide)) (40)) (Eq.trans (congrFun (upd2_ne (by decide)) (40)) (Eq.trans (congrFun (upd2_ne (by decide)) (40)) (Eq.trans (congrFun (upd2_ne (by decide)) (40)) (Eq.trans (congrFun (upd2_ne (by decide)) (40)) (Eq.trans (congrFun (upd2_ne (by decide)) (40)) (Eq.trans (congrFun (upd2_ne (by decide)) (40)) (Eq.trans (congrFun (upd2_ne (by decide)) (40)) (Eq.trans (congrFun (upd2_ne (by decide)) (40)) (Eq.trans (congrFun (upd2_ne (by decide)) (40)) (Eq.trans (congrFun (upd2_ne (by decide)) (40)) (Eq.trans (congrFun (upd2_ne (by decide)) (40)) (Eq.trans (congrFun (upd2_ne (by decide)) (40)) (Eq.trans (congrFun (upd2_ne (by decide)) (40)) (Eq.trans (congrFun (upd2_ne (by decide)) (40)) (Eq.trans (congrFun (upd2_ne (by decide)) (40)) (Eq.trans (congrFun (upd2_ne (by decide)) (40)) (Eq.trans (congrFun (upd2_ne (by decide)) (40)) (Eq.trans (congrFun (upd2_ne (by decide)) (40)) (Eq.trans (congrFun (upd2_ne (by decide)) (40)) (Eq.trans (congrFun (upd2_ne (by decide)) (40)) (upd2_eq)))))))))))))))))))))))))))))))))))) ?_
  refine aw_iload_n rfl rfl d_X_reckons_27 ?_
  refine aw_iload_n rfl rfl d_X_reckons_28 ?_
  refine as_callS (as := [.int (nI 0), .int (nI 8), .int (nI 3)]) (d' := 4) mo_X_spot lk_X_353 rfl ⟨by decide, by decide⟩ rfl rfl (by decide) d_X_reckons_29 (Ss.of (show As l b 4 y_X_spot KM RM _ (upd2 (upd2 (upd2 (upd2 (upd2 (upd2 (upd2 (upd2 (upd2 (upd2 (upd2 (upd2 (upd2 (upd2 (upd2 (upd2 (upd2 (upd2 (upd2 (upd2 (upd2 (upd2 (upd2 (upd2 (upd2 (upd2 (upd2 (upd2 (upd2 (upd2 (upd2 (upd2 (upd2 (upd2 (upd2 (upd2 I 0 40 (nI 0)) 17 (0) (nI 0)) 17 (1) ((-99 : Int32))) 17 (2) (nI 0)) 17 (3) (nI 0)) 17 (4) (nI 0)) 17 (5) ((-99 : Int32))) 17 (6) (nI 0)) 17 (7) (nI 0)) 17 (8) (nI 0)) 17 (9) ((-99 : Int32))) 17 (10) (nI 0)) 17 (11) (nI 0)) 17 (12) (nI 0)) 17 (13) ((-99 : Int32))) 17 (14) (nI 0)) 17 (15) (nI 0)) 17 (16) (nI 0)) 17 (17) ((-99 : Int32))) 17 (18) (nI 0)) 17 (19) (nI 0)) 17 (20) (nI 0)) 17 (21) ((-99 : Int32))) 17 (22) (nI 0)) 17 (23) (nI 0)) 17 (24) (nI 0)) 17 (25) ((-99 : Int32))) 17 (26) (nI 0)) 17 (27) (nI 0)) 17 (28) (nI 0)) 17 (29) ((-99 : Int32))) 17 (30) (nI 0)) 17 (31) (nI 0)) 17 (32) (nI 0)) 17 (33) ((-99 : Int32))) 17 (34) (nI 0)) 0 [.int (nI 0), .int (nI 8), .int (nI 3)] [] from ?_))
  refine aw_bipush (v := nI 36) cb_36 d_X_spot_0 ?_
  refine aw_iload_n rfl rfl d_X_spot_2 ?_
  refine aw_imul d_X_spot_3 ?_
  refine aw_top (x2 := nI 0) (by decide +kernel) ?_
  refine aw_iconst (v := nI 4) ci_4 d_X_spot_4 ?_
  refine aw_iload_n rfl rfl d_X_spot_5 ?_
  refine aw_imul d_X_spot_6 ?_
  refine aw_top (x2 := nI 32) (by decide +kernel) ?_
  refine aw_iadd d_X_spot_7 ?_
  refine aw_top (x2 := nI 32) (by decide +kernel) ?_
  refine aw_iload_n rfl rfl d_X_spot_8 ?_
  refine aw_iadd d_X_spot_9 ?_
  refine aw_top (x2 := nI 35) (by decide +kernel) ?_
  refine as_reti rfl d_X_spot_10 ?_
  refine (show As l b 5 y_X_reckons KM RM K2 (upd2 (upd2 (upd2 (upd2 (upd2 (upd2 (upd2 (upd2 (upd2 (upd2 (upd2 (upd2 (upd2 (upd2 (upd2 (upd2 (upd2 (upd2 (upd2 (upd2 (upd2 (upd2 (upd2 (upd2 (upd2 (upd2 (upd2 (upd2 (upd2 (upd2 (upd2 (upd2 (upd2 (upd2 (upd2 (upd2 I 0 40 (nI 0)) 17 (0) (nI 0)) 17 (1) ((-99 : Int32))) 17 (2) (nI 0)) 17 (3) (nI 0)) 17 (4) (nI 0)) 17 (5) ((-99 : Int32))) 17 (6) (nI 0)) 17 (7) (nI 0)) 17 (8) (nI 0)) 17 (9) ((-99 : Int32))) 17 (10) (nI 0)) 17 (11) (nI 0)) 17 (12) (nI 0)) 17 (13) ((-99 : Int32))) 17 (14) (nI 0)) 17 (15) (nI 0)) 17 (16) (nI 0)) 17 (17) ((-99 : Int32))) 17 (18) (nI 0)) 17 (19) (nI 0)) 17 (20) (nI 0)) 17 (21) ((-99 : Int32))) 17 (22) (nI 0)) 17 (23) (nI 0)) 17 (24) (nI 0)) 17 (25) ((-99 : Int32))) 17 (26) (nI 0)) 17 (27) (nI 0)) 17 (28) (nI 0)) 17 (29) ((-99 : Int32))) 17 (30) (nI 0)) 17 (31) (nI 0)) 17 (32) (nI 0)) 17 (33) ((-99 : Int32))) 17 (34) (nI 0)) 32 [.ref 0, .int (nI 8), .int (nI 3), uu, uu, uu] [.int (nI 35), .ref 17] from ?_)
  refine aw_iload_n rfl rfl d_X_reckons_32 ?_
  refine aw_iconst (v := nI 1) ci_1 d_X_reckons_33 ?_
  refine aw_icmp_neI (tgt := 42) (3) (1) (by decide +kernel) (by decide +kernel) (by decide) d_X_reckons_34 (fun _ => ?_) (fun q => absurd q (by decide))
  refine aw_iconst (v := nI 0) ci_0 d_X_reckons_42 ?_
  refine aw_iast (j := 35) km_17 (vp_in_nI (by decide) (by decide)) (nI_clamp (by decide)) d_X_reckons_43 ?_
  refine aw_iinc (v := nI 4) (lv2 := [.ref 0, .int (nI 8), .int (nI 4), uu, uu, uu]) rfl (by decide +kernel) (by decide) rfl d_X_reckons_44 ?_
  refine aw_goto (tgt := 14) (by decide) d_X_reckons_47 ?_
  refine aw_iload_n rfl rfl d_X_reckons_14 ?_
  refine aw_iconst (v := nI 4) ci_4 d_X_reckons_15 ?_
  refine aw_icmp_geI (tgt := 50) (4) (4) (by decide +kernel) (by decide +kernel) (by decide) d_X_reckons_16 (fun _ => ?_) (fun q => absurd q (by decide))
  refine aw_iinc (v := nI 9) (lv2 := [.ref 0, .int (nI 9), .int (nI 4), uu, uu, uu]) rfl (by decide +kernel) (by decide) rfl d_X_reckons_50 ?_
  refine aw_goto (tgt := 6) (by decide) d_X_reckons_53 ?_
  refine aw_iload_n rfl rfl d_X_reckons_6 ?_
  refine aw_bipush (v := nI 9) cb_9 d_X_reckons_7 ?_
  refine aw_icmp_geI (tgt := 56) (9) (9) (by decide +kernel) (by decide +kernel) (by decide) d_X_reckons_9 (fun _ => ?_) (fun q => absurd q (by decide))
  refine aw_aload_n rfl rfl d_X_reckons_56 ?_
  refine aw_geti fl_X_347 km_0 (by decide) rfl d_X_reckons_57 ?_
  refine aw_top (x2 := nI 0) (Eq.trans (congrFun (upd2_ne (by decide)) (40)) (Eq.trans (congrFun (upd2_ne (by decide)) (40)) (Eq.trans (congrFun (upd2_ne (by decide)) (40)) (Eq.trans (congrFun (upd2_ne (by decide)) (40)) (Eq.trans (congrFun (upd2_ne (by decide)) (40)) (Eq.trans (congrFun (upd2_ne (by decide)) (40)) (Eq.trans (congrFun (upd2_ne (by decide)) (40)) (Eq.trans (congrFun (upd2_ne (by decide)) (40)) (Eq.trans (congrFun (upd2_ne (by decide)) (40)) (Eq.trans (congrFun (upd2_ne (by decide)) (40)) (Eq.trans (congrFun (upd2_ne (by decide)) (40)) (Eq.trans (congrFun (upd2_ne (by decide)) (40)) (Eq.trans (congrFun (upd2_ne (by decide)) (40)) (Eq.trans (congrFun (upd2_ne (by decide)) (40)) (Eq.trans (congrFun (upd2_ne (by decide)) (40)) (Eq.trans (congrFun (upd2_ne (by decide)) (40)) (Eq.trans (congrFun (upd2_ne (by decide)) (40)) (Eq.trans (congrFun (upd2_ne (by decide)) (40)) (Eq.trans (congrFun (upd2_ne (by decide)) (40)) (Eq.trans (congrFun (upd2_ne (by decide)) (40)) (Eq.trans (congrFun (upd2_ne (by decide)) (40)) (Eq.trans (congrFun (upd2_ne (by decide)) (40)) (Eq.trans (congrFun (upd2_ne (by decide)) (40)) (Eq.trans (congrFun (upd2_ne (by decide)) (40)) (Eq.trans (congrFun (upd2_ne (by decide)) (40)) (Eq.trans (congrFun (upd2_ne (by decide)) (40)) (Eq.trans (congrFun (upd2_ne (by decide)) (40)) (Eq.trans (congrFun (upd2_ne (by decide)) (40)) (Eq.trans (congrFun (upd2_ne (by decide)) (40)) (Eq.trans (congrFun (upd2_ne (by decide)) (40)) (Eq.trans (congrFun (upd2_ne (by decide)) (40)) (Eq.trans (congrFun (upd2_ne (by decide)) (40)) (Eq.trans (congrFun (upd2_ne (by decide)) (40)) (Eq.trans (congrFun (upd2_ne (by decide)) (40)) (Eq.trans (congrFun (upd2_ne (by decide)) (40)) (Eq.trans (congrFun (upd2_ne (by decide)) (40)) (upd2_eq))))))))))))))))))))))))))))))))))))) ?_
  refine aw_iconst (v := nI 1) ci_1 d_X_reckons_60 ?_
  refine aw_isub d_X_reckons_61 ?_
  refine aw_top (x2 := (-1 : Int32)) (by decide +kernel) ?_
  refine aw_istore_n (lv2 := [.ref 0, .int ((-1 : Int32)), .int (nI 4), uu, uu, uu]) rfl (by decide) rfl d_X_reckons_62 ?_
  refine aw_iload_n rfl rfl d_X_reckons_63 ?_
  refine aw_if_ltI (tgt := 149) (-1) (by decide +kernel) (by decide) d_X_reckons_64 (fun _ => ?_) (fun q => absurd q (by decide))
  exact as_retv rfl d_X_reckons_149 (hK _ (fun q hq => by have n0 : q ≠ 0 := (by omega); have n17 : q ≠ 17 := (by omega); exact (upd2_ne n17).trans ((upd2_ne n17).trans ((upd2_ne n17).trans ((upd2_ne n17).trans ((upd2_ne n17).trans ((upd2_ne n17).trans ((upd2_ne n17).trans ((upd2_ne n17).trans ((upd2_ne n17).trans ((upd2_ne n17).trans ((upd2_ne n17).trans ((upd2_ne n17).trans ((upd2_ne n17).trans ((upd2_ne n17).trans ((upd2_ne n17).trans ((upd2_ne n17).trans ((upd2_ne n17).trans ((upd2_ne n17).trans ((upd2_ne n17).trans ((upd2_ne n17).trans ((upd2_ne n17).trans ((upd2_ne n17).trans ((upd2_ne n17).trans ((upd2_ne n17).trans ((upd2_ne n17).trans ((upd2_ne n17).trans ((upd2_ne n17).trans ((upd2_ne n17).trans ((upd2_ne n17).trans ((upd2_ne n17).trans ((upd2_ne n17).trans ((upd2_ne n17).trans ((upd2_ne n17).trans ((upd2_ne n17).trans ((upd2_ne n17).trans ((upd2_ne n17).trans (upd2_ne n0))))))))))))))))))))))))))))))))))))) (Eq.trans (congrFun (upd2_ne (by decide)) (40)) (Eq.trans (congrFun (upd2_ne (by decide)) (40)) (Eq.trans (congrFun (upd2_ne (by decide)) (40)) (Eq.trans (congrFun (upd2_ne (by decide)) (40)) (Eq.trans (congrFun (upd2_ne (by decide)) (40)) (Eq.trans (congrFun (upd2_ne (by decide)) (40)) (Eq.trans (congrFun (upd2_ne (by decide)) (40)) (Eq.trans (congrFun (upd2_ne (by decide)) (40)) (Eq.trans (congrFun (upd2_ne (by decide)) (40)) (Eq.trans (congrFun (upd2_ne (by decide)) (40)) (Eq.trans (congrFun (upd2_ne (by decide)) (40)) (Eq.trans (congrFun (upd2_ne (by decide)) (40)) (Eq.trans (congrFun (upd2_ne (by decide)) (40)) (Eq.trans (congrFun (upd2_ne (by decide)) (40)) (Eq.trans (congrFun (upd2_ne (by decide)) (40)) (Eq.trans (congrFun (upd2_ne (by decide)) (40)) (Eq.trans (congrFun (upd2_ne (by decide)) (40)) (Eq.trans (congrFun (upd2_ne (by decide)) (40)) (Eq.trans (congrFun (upd2_ne (by decide)) (40)) (Eq.trans (congrFun (upd2_ne (by decide)) (40)) (Eq.trans (congrFun (upd2_ne (by decide)) (40)) (Eq.trans (congrFun (upd2_ne (by decide)) (40)) (Eq.trans (congrFun (upd2_ne (by decide)) (40)) (Eq.trans (congrFun (upd2_ne (by decide)) (40)) (Eq.trans (congrFun (upd2_ne (by decide)) (40)) (Eq.trans (congrFun (upd2_ne (by decide)) (40)) (Eq.trans (congrFun (upd2_ne (by decide)) (40)) (Eq.trans (congrFun (upd2_ne (by decide)) (40)) (Eq.trans (congrFun (upd2_ne (by decide)) (40)) (Eq.trans (congrFun (upd2_ne (by decide)) (40)) (Eq.trans (congrFun (upd2_ne (by decide)) (40)) (Eq.trans (congrFun (upd2_ne (by decide)) (40)) (Eq.trans (congrFun (upd2_ne (by decide)) (40)) (Eq.trans (congrFun (upd2_ne (by decide)) (40)) (Eq.trans (congrFun (upd2_ne (by decide)) (40)) (Eq.trans (congrFun (upd2_ne (by decide)) (40)) (upd2_eq))))))))))))))))))))))))))))))))))))) (Eq.trans (upd2_nx (by omega)) (Eq.trans (upd2_nx (by omega)) (Eq.trans (upd2_nx (by omega)) (Eq.trans (upd2_nx (by omega)) (Eq.trans (upd2_nx (by omega)) (Eq.trans (upd2_nx (by omega)) (Eq.trans (upd2_nx (by omega)) (Eq.trans (upd2_nx (by omega)) (Eq.trans (upd2_nx (by omega)) (Eq.trans (upd2_nx (by omega)) (Eq.trans (upd2_nx (by omega)) (Eq.trans (upd2_nx (by omega)) (Eq.trans (upd2_nx (by omega)) (Eq.trans (upd2_nx (by omega)) (Eq.trans (upd2_nx (by omega)) (Eq.trans (upd2_nx (by omega)) (Eq.trans (upd2_nx (by omega)) (Eq.trans (upd2_nx (by omega)) (Eq.trans (upd2_nx (by omega)) (upd2_eq)))))))))))))))))))))
set_option maxRecDepth 20000 in
theorem ms_best {K2 : K2T} {I : Nat → Nat → Int32} (hR : FRm I) {x : Int32} (hg : 0 ≤ x.toInt ∧ x.toInt ≤ 1 → ∀ I', K2 (some (.int (nI 0))) I') (hb : ¬ (0 ≤ x.toInt ∧ x.toInt ≤ 1) → ∀ I', K2 (some (.int (-1))) I') : Ss l b 14 y_X_best KM RM [.ref 0, .int (x)] (I) K2 := by
  obtain ⟨hF, w0, w2, w3, w5, w6, w7, w73, w74, wh, w110, o3, o12, o19, o21, o22, o23, o35⟩ := hR
  have hF0 := hF
  obtain ⟨g0, g1, g2, g3, g4, g5, g6, g7, g8, g9, g10, g11, g12, gb⟩ := hF
  refine Ss.of (show As l b 14 y_X_best KM RM K2 (I) 0 [.ref 0, .int (x), uu, uu, uu, uu, uu] [] from ?_)
  refine aw_aload_n rfl rfl d_X_best_0 ?_
  refine as_callV (as := []) (d' := 5) (q := ("SinglesUpModel", zT9, 51)) mo_X_reckons lk_X_362 km_0 rfl rfl rfl ⟨by decide, by decide⟩ rfl rfl (by decide) d_X_best_1 (sp_reckons (I := I) hF0 (fun J1 f2 e3 e4 => ?_))
  refine (show As l b 14 y_X_best KM RM K2 (J1) 4 [.ref 0, .int (x), uu, uu, uu, uu, uu] [] from ?_)
  refine aw_aload_n rfl rfl d_X_best_4 ?_
  refine aw_getr fl_X_7 km_0 (by decide) rfl rm_0_0 d_X_best_5 ?_
  refine aw_iconst (v := nI 1) ci_1 d_X_best_8 ?_
  refine aw_iald (j := 1) km_1 (vp_in_nI (by decide) (by decide)) (nI_clamp (by decide)) d_X_best_9 ?_
  refine aw_top (x2 := nI 4) (((congrFun (f2 1 (by decide)) (1)).trans (g3))) ?_
  refine aw_istore_n (lv2 := [.ref 0, .int (x), .int (nI 4), uu, uu, uu, uu]) rfl (by decide) rfl d_X_best_10 ?_
  refine aw_iconst (v := nI 0) ci_0 d_X_best_11 ?_
  refine aw_istore_n (lv2 := [.ref 0, .int (x), .int (nI 4), .int (nI 0), uu, uu, uu]) rfl (by decide) rfl d_X_best_12 ?_
  refine aw_iconst (v := nI 0) ci_0 d_X_best_13 ?_
  refine aw_istore (lv2 := [.ref 0, .int (x), .int (nI 4), .int (nI 0), .int (nI 0), uu, uu]) (by decide) rfl d_X_best_14 ?_
  refine aw_iload_n rfl rfl d_X_best_16 ?_
  refine aw_if_neI (tgt := 32) (x).toInt rfl (by decide) d_X_best_17 (fun c5 => ?_) (fun c5 => ?_)
  · refine aw_iconst (v := nI 0) ci_0 d_X_best_32 ?_
    refine aw_istore (lv2 := [.ref 0, .int (x), .int (nI 4), .int (nI 0), .int (nI 0), .int (nI 0), uu]) (by decide) rfl d_X_best_33 ?_
    refine aw_iload rfl d_X_best_35 ?_
    refine aw_aload_n rfl rfl d_X_best_37 ?_
    refine aw_geti fl_X_347 km_0 (by decide) rfl d_X_best_38 ?_
    refine aw_top (x2 := nI 0) (e3) ?_
    refine aw_icmp_geI (tgt := 159) (0) (0) (by decide +kernel) (by decide +kernel) (by decide) d_X_best_41 (fun _ => ?_) (fun q => absurd q (by decide))
    refine aw_iload_n rfl rfl d_X_best_159 ?_
    refine aw_iconst (v := nI 1) ci_1 d_X_best_160 ?_
    refine aw_icmp_neI (tgt := 169) (x).toInt (1) rfl (by decide +kernel) (by decide) d_X_best_161 (fun c6 => ?_) (fun c6 => ?_)
    · refine aw_iconst (v := (-1 : Int32)) rfl d_X_best_169 ?_
      exact as_reti rfl d_X_best_170 (hb (by omega) _)
    · refine aw_iload rfl d_X_best_164 ?_
      refine aw_goto (tgt := 170) (by decide) d_X_best_166 ?_
      exact as_reti rfl d_X_best_170 (hg (by omega) _)
  · refine aw_aload_n rfl rfl d_X_best_20 ?_
    refine aw_getr fl_X_69 km_0 (by decide) rfl rm_0_39 d_X_best_21 ?_
    refine aw_iconst (v := nI 0) ci_0 d_X_best_24 ?_
    refine aw_iload_n rfl rfl d_X_best_25 ?_
    refine aw_iconst (v := nI 0) ci_0 d_X_best_26 ?_
    refine as_callS (as := [.int (nI 0), .int (nI 4), .int (nI 0)]) (d' := 13) mo_X_spot lk_X_353 rfl ⟨by decide, by decide⟩ rfl rfl (by decide) d_X_best_27 (Ss.of (show As l b 13 y_X_spot KM RM _ (J1) 0 [.int (nI 0), .int (nI 4), .int (nI 0)] [] from ?_))
    refine aw_bipush (v := nI 36) cb_36 d_X_spot_0 ?_
    refine aw_iload_n rfl rfl d_X_spot_2 ?_
    refine aw_imul d_X_spot_3 ?_
    refine aw_top (x2 := nI 0) (by decide +kernel) ?_
    refine aw_iconst (v := nI 4) ci_4 d_X_spot_4 ?_
    refine aw_iload_n rfl rfl d_X_spot_5 ?_
    refine aw_imul d_X_spot_6 ?_
    refine aw_top (x2 := nI 16) (by decide +kernel) ?_
    refine aw_iadd d_X_spot_7 ?_
    refine aw_top (x2 := nI 16) (by decide +kernel) ?_
    refine aw_iload_n rfl rfl d_X_spot_8 ?_
    refine aw_iadd d_X_spot_9 ?_
    refine aw_top (x2 := nI 16) (by decide +kernel) ?_
    refine as_reti rfl d_X_spot_10 ?_
    refine (show As l b 14 y_X_best KM RM K2 (J1) 30 [.ref 0, .int (x), .int (nI 4), .int (nI 0), .int (nI 0), uu, uu] [.int (nI 16), .ref 17] from ?_)
    refine aw_iald (j := 16) km_17 (vp_in_nI (by decide) (by decide)) (nI_clamp (by decide)) d_X_best_30 ?_
    refine aw_top (x2 := nI 0) (e4) ?_
    exact as_reti rfl d_X_best_31 (hg (by omega) _)
set_option maxRecDepth 20000 in
theorem sp_reckons2 {K2 : K2T} {I : Nat → Nat → Int32} (g1 : ∀ j, j < 6 → I 1 (130 + j) = nI 0) (hK : ∀ J, (∀ q, q ≠ 0 ∧ q ≠ 17 → J q = I q) → J 0 40 = nI 0 → J 17 16 = nI 0 → K2 none J) : Ss l b 5 y_X_reckons KM RM [.ref 0] (I) K2 := by
  refine Ss.of (show As l b 5 y_X_reckons KM RM K2 (I) 0 [.ref 0, uu, uu, uu, uu, uu] [] from ?_)
  refine aw_aload_n rfl rfl d_X_reckons_0 ?_
  refine as_callV (as := []) (d' := 4) (q := ("SinglesUpModel", zT9, 51)) mo_X_laysRow lk_X_356 km_0 rfl rfl rfl ⟨by decide, by decide⟩ rfl rfl (by decide) d_X_reckons_1 (Ss.of (show As l b 4 y_X_laysRow KM RM _ (I) 0 [.ref 0, uu, uu] [] from ?_))
  refine aw_aload_n rfl rfl d_X_laysRow_0 ?_
  refine aw_iconst (v := nI 0) ci_0 d_X_laysRow_1 ?_
  refine aw_puti fl_X_347 km_0 (by decide) rfl rfl rfl rfl d_X_laysRow_2 ?_
  refine aw_iconst (v := nI 0) ci_0 d_X_laysRow_5 ?_
  refine aw_istore_n (lv2 := [.ref 0, .int (nI 0), uu]) rfl (by decide) rfl d_X_laysRow_6 ?_
  refine aw_iload_n rfl rfl d_X_laysRow_7 ?_
  refine aw_bipush (v := nI 6) cb_6 d_X_laysRow_8 ?_
  refine aw_icmp_geI (tgt := 93) (0) (6) (by decide +kernel) (by decide +kernel) (by decide) d_X_laysRow_10 (fun q => absurd q (by decide)) (fun _ => ?_)
  refine aw_iconst (v := nI 0) ci_0 d_X_laysRow_13 ?_
  refine aw_istore_n (lv2 := [.ref 0, .int (nI 0), .int (nI 0)]) rfl (by decide) rfl d_X_laysRow_14 ?_
  refine aw_iload_n rfl rfl d_X_laysRow_15 ?_
  refine aw_aload_n rfl rfl d_X_laysRow_16 ?_
  refine aw_getr fl_X_7 km_0 (by decide) rfl rm_0_0 d_X_laysRow_17 ?_
  refine aw_sipush (v := nI 130) cs_130 d_X_laysRow_20 ?_
  refine aw_iload_n rfl rfl d_X_laysRow_23 ?_
  refine aw_iadd d_X_laysRow_24 ?_
  refine aw_top (x2 := nI 130) (by decide +kernel) ?_
  refine aw_iald (j := 130) km_1 (vp_in_nI (by decide) (by decide)) (nI_clamp (by decide)) d_X_laysRow_25 ?_
  refine aw_top (x2 := nI 0) (Eq.trans (congrFun (upd2_ne (by decide)) (130)) (g1 0 (by decide))) ?_
  refine aw_icmp_geI (tgt := 87) (0) (0) (by decide +kernel) (by decide +kernel) (by decide) d_X_laysRow_26 (fun _ => ?_) (fun q => absurd q (by decide))
  refine aw_iinc (v := nI 1) (lv2 := [.ref 0, .int (nI 1), .int (nI 0)]) rfl (by decide +kernel) (by decide) rfl d_X_laysRow_87 ?_
  refine aw_goto (tgt := 7) (by decide) d_X_laysRow_90 ?_
  refine aw_iload_n rfl rfl d_X_laysRow_7 ?_
  refine aw_bipush (v := nI 6) cb_6 d_X_laysRow_8 ?_
  refine aw_icmp_geI (tgt := 93) (1) (6) (by decide +kernel) (by decide +kernel) (by decide) d_X_laysRow_10 (fun q => absurd q (by decide)) (fun _ => ?_)
  refine aw_iconst (v := nI 0) ci_0 d_X_laysRow_13 ?_
  refine aw_istore_n (lv2 := [.ref 0, .int (nI 1), .int (nI 0)]) rfl (by decide) rfl d_X_laysRow_14 ?_
  refine aw_iload_n rfl rfl d_X_laysRow_15 ?_
  refine aw_aload_n rfl rfl d_X_laysRow_16 ?_
  refine aw_getr fl_X_7 km_0 (by decide) rfl rm_0_0 d_X_laysRow_17 ?_
  refine aw_sipush (v := nI 130) cs_130 d_X_laysRow_20 ?_
  refine aw_iload_n rfl rfl d_X_laysRow_23 ?_
  refine aw_iadd d_X_laysRow_24 ?_
  refine aw_top (x2 := nI 131) (by decide +kernel) ?_
  refine aw_iald (j := 131) km_1 (vp_in_nI (by decide) (by decide)) (nI_clamp (by decide)) d_X_laysRow_25 ?_
  refine aw_top (x2 := nI 0) (Eq.trans (congrFun (upd2_ne (by decide)) (131)) (g1 1 (by decide))) ?_
  refine aw_icmp_geI (tgt := 87) (0) (0) (by decide +kernel) (by decide +kernel) (by decide) d_X_laysRow_26 (fun _ => ?_) (fun q => absurd q (by decide))
  refine aw_iinc (v := nI 2) (lv2 := [.ref 0, .int (nI 2), .int (nI 0)]) rfl (by decide +kernel) (by decide) rfl d_X_laysRow_87 ?_
  refine aw_goto (tgt := 7) (by decide) d_X_laysRow_90 ?_
  refine aw_iload_n rfl rfl d_X_laysRow_7 ?_
  refine aw_bipush (v := nI 6) cb_6 d_X_laysRow_8 ?_
  refine aw_icmp_geI (tgt := 93) (2) (6) (by decide +kernel) (by decide +kernel) (by decide) d_X_laysRow_10 (fun q => absurd q (by decide)) (fun _ => ?_)
  refine aw_iconst (v := nI 0) ci_0 d_X_laysRow_13 ?_
  refine aw_istore_n (lv2 := [.ref 0, .int (nI 2), .int (nI 0)]) rfl (by decide) rfl d_X_laysRow_14 ?_
  refine aw_iload_n rfl rfl d_X_laysRow_15 ?_
  refine aw_aload_n rfl rfl d_X_laysRow_16 ?_
  refine aw_getr fl_X_7 km_0 (by decide) rfl rm_0_0 d_X_laysRow_17 ?_
  refine aw_sipush (v := nI 130) cs_130 d_X_laysRow_20 ?_
  refine aw_iload_n rfl rfl d_X_laysRow_23 ?_
  refine aw_iadd d_X_laysRow_24 ?_
  refine aw_top (x2 := nI 132) (by decide +kernel) ?_
  refine aw_iald (j := 132) km_1 (vp_in_nI (by decide) (by decide)) (nI_clamp (by decide)) d_X_laysRow_25 ?_
  refine aw_top (x2 := nI 0) (Eq.trans (congrFun (upd2_ne (by decide)) (132)) (g1 2 (by decide))) ?_
  refine aw_icmp_geI (tgt := 87) (0) (0) (by decide +kernel) (by decide +kernel) (by decide) d_X_laysRow_26 (fun _ => ?_) (fun q => absurd q (by decide))
  refine aw_iinc (v := nI 3) (lv2 := [.ref 0, .int (nI 3), .int (nI 0)]) rfl (by decide +kernel) (by decide) rfl d_X_laysRow_87 ?_
  refine aw_goto (tgt := 7) (by decide) d_X_laysRow_90 ?_
  refine aw_iload_n rfl rfl d_X_laysRow_7 ?_
  refine aw_bipush (v := nI 6) cb_6 d_X_laysRow_8 ?_
  refine aw_icmp_geI (tgt := 93) (3) (6) (by decide +kernel) (by decide +kernel) (by decide) d_X_laysRow_10 (fun q => absurd q (by decide)) (fun _ => ?_)
  refine aw_iconst (v := nI 0) ci_0 d_X_laysRow_13 ?_
  refine aw_istore_n (lv2 := [.ref 0, .int (nI 3), .int (nI 0)]) rfl (by decide) rfl d_X_laysRow_14 ?_
  refine aw_iload_n rfl rfl d_X_laysRow_15 ?_
  refine aw_aload_n rfl rfl d_X_laysRow_16 ?_
  refine aw_getr fl_X_7 km_0 (by decide) rfl rm_0_0 d_X_laysRow_17 ?_
  refine aw_sipush (v := nI 130) cs_130 d_X_laysRow_20 ?_
  refine aw_iload_n rfl rfl d_X_laysRow_23 ?_
  refine aw_iadd d_X_laysRow_24 ?_
  refine aw_top (x2 := nI 133) (by decide +kernel) ?_
  refine aw_iald (j := 133) km_1 (vp_in_nI (by decide) (by decide)) (nI_clamp (by decide)) d_X_laysRow_25 ?_
  refine aw_top (x2 := nI 0) (Eq.trans (congrFun (upd2_ne (by decide)) (133)) (g1 3 (by decide))) ?_
  refine aw_icmp_geI (tgt := 87) (0) (0) (by decide +kernel) (by decide +kernel) (by decide) d_X_laysRow_26 (fun _ => ?_) (fun q => absurd q (by decide))
  refine aw_iinc (v := nI 4) (lv2 := [.ref 0, .int (nI 4), .int (nI 0)]) rfl (by decide +kernel) (by decide) rfl d_X_laysRow_87 ?_
  refine aw_goto (tgt := 7) (by decide) d_X_laysRow_90 ?_
  refine aw_iload_n rfl rfl d_X_laysRow_7 ?_
  refine aw_bipush (v := nI 6) cb_6 d_X_laysRow_8 ?_
  refine aw_icmp_geI (tgt := 93) (4) (6) (by decide +kernel) (by decide +kernel) (by decide) d_X_laysRow_10 (fun q => absurd q (by decide)) (fun _ => ?_)
  refine aw_iconst (v := nI 0) ci_0 d_X_laysRow_13 ?_
  refine aw_istore_n (lv2 := [.ref 0, .int (nI 4), .int (nI 0)]) rfl (by decide) rfl d_X_laysRow_14 ?_
  refine aw_iload_n rfl rfl d_X_laysRow_15 ?_
  refine aw_aload_n rfl rfl d_X_laysRow_16 ?_
  refine aw_getr fl_X_7 km_0 (by decide) rfl rm_0_0 d_X_laysRow_17 ?_
  refine aw_sipush (v := nI 130) cs_130 d_X_laysRow_20 ?_
  refine aw_iload_n rfl rfl d_X_laysRow_23 ?_
  refine aw_iadd d_X_laysRow_24 ?_
  refine aw_top (x2 := nI 134) (by decide +kernel) ?_
  refine aw_iald (j := 134) km_1 (vp_in_nI (by decide) (by decide)) (nI_clamp (by decide)) d_X_laysRow_25 ?_
  refine aw_top (x2 := nI 0) (Eq.trans (congrFun (upd2_ne (by decide)) (134)) (g1 4 (by decide))) ?_
  refine aw_icmp_geI (tgt := 87) (0) (0) (by decide +kernel) (by decide +kernel) (by decide) d_X_laysRow_26 (fun _ => ?_) (fun q => absurd q (by decide))
  refine aw_iinc (v := nI 5) (lv2 := [.ref 0, .int (nI 5), .int (nI 0)]) rfl (by decide +kernel) (by decide) rfl d_X_laysRow_87 ?_
  refine aw_goto (tgt := 7) (by decide) d_X_laysRow_90 ?_
  refine aw_iload_n rfl rfl d_X_laysRow_7 ?_
  refine aw_bipush (v := nI 6) cb_6 d_X_laysRow_8 ?_
  refine aw_icmp_geI (tgt := 93) (5) (6) (by decide +kernel) (by decide +kernel) (by decide) d_X_laysRow_10 (fun q => absurd q (by decide)) (fun _ => ?_)
  refine aw_iconst (v := nI 0) ci_0 d_X_laysRow_13 ?_
  refine aw_istore_n (lv2 := [.ref 0, .int (nI 5), .int (nI 0)]) rfl (by decide) rfl d_X_laysRow_14 ?_
  refine aw_iload_n rfl rfl d_X_laysRow_15 ?_
  refine aw_aload_n rfl rfl d_X_laysRow_16 ?_
  refine aw_getr fl_X_7 km_0 (by decide) rfl rm_0_0 d_X_laysRow_17 ?_
  refine aw_sipush (v := nI 130) cs_130 d_X_laysRow_20 ?_
  refine aw_iload_n rfl rfl d_X_laysRow_23 ?_
  refine aw_iadd d_X_laysRow_24 ?_
  refine aw_top (x2 := nI 135) (by decide +kernel) ?_
  refine aw_iald (j := 135) km_1 (vp_in_nI (by decide) (by decide)) (nI_clamp (by decide)) d_X_laysRow_25 ?_
  refine aw_top (x2 := nI 0) (Eq.trans (congrFun (upd2_ne (by decide)) (135)) (g1 5 (by decide))) ?_
  refine aw_icmp_geI (tgt := 87) (0) (0) (by decide +kernel) (by decide +kernel) (by decide) d_X_laysRow_26 (fun _ => ?_) (fun q => absurd q (by decide))
  refine aw_iinc (v := nI 6) (lv2 := [.ref 0, .int (nI 6), .int (nI 0)]) rfl (by decide +kernel) (by decide) rfl d_X_laysRow_87 ?_
  refine aw_goto (tgt := 7) (by decide) d_X_laysRow_90 ?_
  refine aw_iload_n rfl rfl d_X_laysRow_7 ?_
  refine aw_bipush (v := nI 6) cb_6 d_X_laysRow_8 ?_
  refine aw_icmp_geI (tgt := 93) (6) (6) (by decide +kernel) (by decide +kernel) (by decide) d_X_laysRow_10 (fun _ => ?_) (fun q => absurd q (by decide))
  refine as_retv rfl d_X_laysRow_93 ?_
  refine (show As l b 5 y_X_reckons KM RM K2 (upd2 I 0 40 (nI 0)) 4 [.ref 0, uu, uu, uu, uu, uu] [] from ?_)
  refine aw_iconst (v := nI 0) ci_0 d_X_reckons_4 ?_
  refine aw_istore_n (lv2 := [.ref 0, .int (nI 0), uu, uu, uu, uu]) rfl (by decide) rfl d_X_reckons_5 ?_
  refine aw_iload_n rfl rfl d_X_reckons_6 ?_
  refine aw_bipush (v := nI 9) cb_9 d_X_reckons_7 ?_
  refine aw_icmp_geI (tgt := 56) (0) (9) (by decide +kernel) (by decide +kernel) (by decide) d_X_reckons_9 (fun q => absurd q (by decide)) (fun _ => ?_)
  refine aw_iconst (v := nI 0) ci_0 d_X_reckons_12 ?_
  refine aw_istore_n (lv2 := [.ref 0, .int (nI 0), .int (nI 0), uu, uu, uu]) rfl (by decide) rfl d_X_reckons_13 ?_
  refine aw_iload_n rfl rfl d_X_reckons_14 ?_
  refine aw_iconst (v := nI 4) ci_4 d_X_reckons_15 ?_
  refine aw_icmp_geI (tgt := 50) (0) (4) (by decide +kernel) (by decide +kernel) (by decide) d_X_reckons_16 (fun q => absurd q (by decide)) (fun _ => ?_)
  refine aw_aload_n rfl rfl d_X_reckons_19 ?_
  refine aw_getr fl_X_69 km_0 (by decide) rfl rm_0_39 d_X_reckons_20 ?_
  refine aw_aload_n rfl rfl d_X_reckons_23 ?_
  refine aw_geti fl_X_347 km_0 (by decide) rfl d_X_reckons_24 ?_
  refine aw_top (x2 := nI 0) (upd2_eq) ?_
  refine aw_iload_n rfl rfl d_X_reckons_27 ?_
  refine aw_iload_n rfl rfl d_X_reckons_28 ?_
  refine as_callS (as := [.int (nI 0), .int (nI 0), .int (nI 0)]) (d' := 4) mo_X_spot lk_X_353 rfl ⟨by decide, by decide⟩ rfl rfl (by decide) d_X_reckons_29 (Ss.of (show As l b 4 y_X_spot KM RM _ (upd2 I 0 40 (nI 0)) 0 [.int (nI 0), .int (nI 0), .int (nI 0)] [] from ?_))
  refine aw_bipush (v := nI 36) cb_36 d_X_spot_0 ?_
  refine aw_iload_n rfl rfl d_X_spot_2 ?_
  refine aw_imul d_X_spot_3 ?_
  refine aw_top (x2 := nI 0) (by decide +kernel) ?_
  refine aw_iconst (v := nI 4) ci_4 d_X_spot_4 ?_
  refine aw_iload_n rfl rfl d_X_spot_5 ?_
  refine aw_imul d_X_spot_6 ?_
  refine aw_top (x2 := nI 0) (by decide +kernel) ?_
  refine aw_iadd d_X_spot_7 ?_
  refine aw_top (x2 := nI 0) (by decide +kernel) ?_
  refine aw_iload_n rfl rfl d_X_spot_8 ?_
  refine aw_iadd d_X_spot_9 ?_
  refine aw_top (x2 := nI 0) (by decide +kernel) ?_
  refine as_reti rfl d_X_spot_10 ?_
  refine (show As l b 5 y_X_reckons KM RM K2 (upd2 I 0 40 (nI 0)) 32 [.ref 0, .int (nI 0), .int (nI 0), uu, uu, uu] [.int (nI 0), .ref 17] from ?_)
  refine aw_iload_n rfl rfl d_X_reckons_32 ?_
  refine aw_iconst (v := nI 1) ci_1 d_X_reckons_33 ?_
  refine aw_icmp_neI (tgt := 42) (0) (1) (by decide +kernel) (by decide +kernel) (by decide) d_X_reckons_34 (fun _ => ?_) (fun q => absurd q (by decide))
  refine aw_iconst (v := nI 0) ci_0 d_X_reckons_42 ?_
  refine aw_iast (j := 0) km_17 (vp_in_nI (by decide) (by decide)) (nI_clamp (by decide)) d_X_reckons_43 ?_
  refine aw_iinc (v := nI 1) (lv2 := [.ref 0, .int (nI 0), .int (nI 1), uu, uu, uu]) rfl (by decide +kernel) (by decide) rfl d_X_reckons_44 ?_
  refine aw_goto (tgt := 14) (by decide) d_X_reckons_47 ?_
  refine aw_iload_n rfl rfl d_X_reckons_14 ?_
  refine aw_iconst (v := nI 4) ci_4 d_X_reckons_15 ?_
  refine aw_icmp_geI (tgt := 50) (1) (4) (by decide +kernel) (by decide +kernel) (by decide) d_X_reckons_16 (fun q => absurd q (by decide)) (fun _ => ?_)
  refine aw_aload_n rfl rfl d_X_reckons_19 ?_
  refine aw_getr fl_X_69 km_0 (by decide) rfl rm_0_39 d_X_reckons_20 ?_
  refine aw_aload_n rfl rfl d_X_reckons_23 ?_
  refine aw_geti fl_X_347 km_0 (by decide) rfl d_X_reckons_24 ?_
  refine aw_top (x2 := nI 0) (Eq.trans (congrFun (upd2_ne (by decide)) (40)) (upd2_eq)) ?_
  refine aw_iload_n rfl rfl d_X_reckons_27 ?_
  refine aw_iload_n rfl rfl d_X_reckons_28 ?_
  refine as_callS (as := [.int (nI 0), .int (nI 0), .int (nI 1)]) (d' := 4) mo_X_spot lk_X_353 rfl ⟨by decide, by decide⟩ rfl rfl (by decide) d_X_reckons_29 (Ss.of (show As l b 4 y_X_spot KM RM _ (upd2 (upd2 I 0 40 (nI 0)) 17 (0) (nI 0)) 0 [.int (nI 0), .int (nI 0), .int (nI 1)] [] from ?_))
  refine aw_bipush (v := nI 36) cb_36 d_X_spot_0 ?_
  refine aw_iload_n rfl rfl d_X_spot_2 ?_
  refine aw_imul d_X_spot_3 ?_
  refine aw_top (x2 := nI 0) (by decide +kernel) ?_
  refine aw_iconst (v := nI 4) ci_4 d_X_spot_4 ?_
  refine aw_iload_n rfl rfl d_X_spot_5 ?_
  refine aw_imul d_X_spot_6 ?_
  refine aw_top (x2 := nI 0) (by decide +kernel) ?_
  refine aw_iadd d_X_spot_7 ?_
  refine aw_top (x2 := nI 0) (by decide +kernel) ?_
  refine aw_iload_n rfl rfl d_X_spot_8 ?_
  refine aw_iadd d_X_spot_9 ?_
  refine aw_top (x2 := nI 1) (by decide +kernel) ?_
  refine as_reti rfl d_X_spot_10 ?_
  refine (show As l b 5 y_X_reckons KM RM K2 (upd2 (upd2 I 0 40 (nI 0)) 17 (0) (nI 0)) 32 [.ref 0, .int (nI 0), .int (nI 1), uu, uu, uu] [.int (nI 1), .ref 17] from ?_)
  refine aw_iload_n rfl rfl d_X_reckons_32 ?_
  refine aw_iconst (v := nI 1) ci_1 d_X_reckons_33 ?_
  refine aw_icmp_neI (tgt := 42) (1) (1) (by decide +kernel) (by decide +kernel) (by decide) d_X_reckons_34 (fun q => absurd q (by decide)) (fun _ => ?_)
  refine aw_bipush (v := (-99 : Int32)) rfl d_X_reckons_37 ?_
  refine aw_goto (tgt := 43) (by decide) d_X_reckons_39 ?_
  refine aw_iast (j := 1) km_17 (vp_in_nI (by decide) (by decide)) (nI_clamp (by decide)) d_X_reckons_43 ?_
  refine aw_iinc (v := nI 2) (lv2 := [.ref 0, .int (nI 0), .int (nI 2), uu, uu, uu]) rfl (by decide +kernel) (by decide) rfl d_X_reckons_44 ?_
  refine aw_goto (tgt := 14) (by decide) d_X_reckons_47 ?_
  refine aw_iload_n rfl rfl d_X_reckons_14 ?_
  refine aw_iconst (v := nI 4) ci_4 d_X_reckons_15 ?_
  refine aw_icmp_geI (tgt := 50) (2) (4) (by decide +kernel) (by decide +kernel) (by decide) d_X_reckons_16 (fun q => absurd q (by decide)) (fun _ => ?_)
  refine aw_aload_n rfl rfl d_X_reckons_19 ?_
  refine aw_getr fl_X_69 km_0 (by decide) rfl rm_0_39 d_X_reckons_20 ?_
  refine aw_aload_n rfl rfl d_X_reckons_23 ?_
  refine aw_geti fl_X_347 km_0 (by decide) rfl d_X_reckons_24 ?_
  refine aw_top (x2 := nI 0) (Eq.trans (congrFun (upd2_ne (by decide)) (40)) (Eq.trans (congrFun (upd2_ne (by decide)) (40)) (upd2_eq))) ?_
  refine aw_iload_n rfl rfl d_X_reckons_27 ?_
  refine aw_iload_n rfl rfl d_X_reckons_28 ?_
  refine as_callS (as := [.int (nI 0), .int (nI 0), .int (nI 2)]) (d' := 4) mo_X_spot lk_X_353 rfl ⟨by decide, by decide⟩ rfl rfl (by decide) d_X_reckons_29 (Ss.of (show As l b 4 y_X_spot KM RM _ (upd2 (upd2 (upd2 I 0 40 (nI 0)) 17 (0) (nI 0)) 17 (1) ((-99 : Int32))) 0 [.int (nI 0), .int (nI 0), .int (nI 2)] [] from ?_))
  refine aw_bipush (v := nI 36) cb_36 d_X_spot_0 ?_
  refine aw_iload_n rfl rfl d_X_spot_2 ?_
  refine aw_imul d_X_spot_3 ?_
  refine aw_top (x2 := nI 0) (by decide +kernel) ?_
  refine aw_iconst (v := nI 4) ci_4 d_X_spot_4 ?_
  refine aw_iload_n rfl rfl d_X_spot_5 ?_
  refine aw_imul d_X_spot_6 ?_
  refine aw_top (x2 := nI 0) (by decide +kernel) ?_
  refine aw_iadd d_X_spot_7 ?_
  refine aw_top (x2 := nI 0) (by decide +kernel) ?_
  refine aw_iload_n rfl rfl d_X_spot_8 ?_
  refine aw_iadd d_X_spot_9 ?_
  refine aw_top (x2 := nI 2) (by decide +kernel) ?_
  refine as_reti rfl d_X_spot_10 ?_
  refine (show As l b 5 y_X_reckons KM RM K2 (upd2 (upd2 (upd2 I 0 40 (nI 0)) 17 (0) (nI 0)) 17 (1) ((-99 : Int32))) 32 [.ref 0, .int (nI 0), .int (nI 2), uu, uu, uu] [.int (nI 2), .ref 17] from ?_)
  refine aw_iload_n rfl rfl d_X_reckons_32 ?_
  refine aw_iconst (v := nI 1) ci_1 d_X_reckons_33 ?_
  refine aw_icmp_neI (tgt := 42) (2) (1) (by decide +kernel) (by decide +kernel) (by decide) d_X_reckons_34 (fun _ => ?_) (fun q => absurd q (by decide))
  refine aw_iconst (v := nI 0) ci_0 d_X_reckons_42 ?_
  refine aw_iast (j := 2) km_17 (vp_in_nI (by decide) (by decide)) (nI_clamp (by decide)) d_X_reckons_43 ?_
  refine aw_iinc (v := nI 3) (lv2 := [.ref 0, .int (nI 0), .int (nI 3), uu, uu, uu]) rfl (by decide +kernel) (by decide) rfl d_X_reckons_44 ?_
  refine aw_goto (tgt := 14) (by decide) d_X_reckons_47 ?_
  refine aw_iload_n rfl rfl d_X_reckons_14 ?_
  refine aw_iconst (v := nI 4) ci_4 d_X_reckons_15 ?_
  refine aw_icmp_geI (tgt := 50) (3) (4) (by decide +kernel) (by decide +kernel) (by decide) d_X_reckons_16 (fun q => absurd q (by decide)) (fun _ => ?_)
  refine aw_aload_n rfl rfl d_X_reckons_19 ?_
  refine aw_getr fl_X_69 km_0 (by decide) rfl rm_0_39 d_X_reckons_20 ?_
  refine aw_aload_n rfl rfl d_X_reckons_23 ?_
  refine aw_geti fl_X_347 km_0 (by decide) rfl d_X_reckons_24 ?_
  refine aw_top (x2 := nI 0) (Eq.trans (congrFun (upd2_ne (by decide)) (40)) (Eq.trans (congrFun (upd2_ne (by decide)) (40)) (Eq.trans (congrFun (upd2_ne (by decide)) (40)) (upd2_eq)))) ?_
  refine aw_iload_n rfl rfl d_X_reckons_27 ?_
  refine aw_iload_n rfl rfl d_X_reckons_28 ?_
  refine as_callS (as := [.int (nI 0), .int (nI 0), .int (nI 3)]) (d' := 4) mo_X_spot lk_X_353 rfl ⟨by decide, by decide⟩ rfl rfl (by decide) d_X_reckons_29 (Ss.of (show As l b 4 y_X_spot KM RM _ (upd2 (upd2 (upd2 (upd2 I 0 40 (nI 0)) 17 (0) (nI 0)) 17 (1) ((-99 : Int32))) 17 (2) (nI 0)) 0 [.int (nI 0), .int (nI 0), .int (nI 3)] [] from ?_))
  refine aw_bipush (v := nI 36) cb_36 d_X_spot_0 ?_
  refine aw_iload_n rfl rfl d_X_spot_2 ?_
  refine aw_imul d_X_spot_3 ?_
  refine aw_top (x2 := nI 0) (by decide +kernel) ?_
  refine aw_iconst (v := nI 4) ci_4 d_X_spot_4 ?_
  refine aw_iload_n rfl rfl d_X_spot_5 ?_
  refine aw_imul d_X_spot_6 ?_
  refine aw_top (x2 := nI 0) (by decide +kernel) ?_
  refine aw_iadd d_X_spot_7 ?_
  refine aw_top (x2 := nI 0) (by decide +kernel) ?_
  refine aw_iload_n rfl rfl d_X_spot_8 ?_
  refine aw_iadd d_X_spot_9 ?_
  refine aw_top (x2 := nI 3) (by decide +kernel) ?_
  refine as_reti rfl d_X_spot_10 ?_
  refine (show As l b 5 y_X_reckons KM RM K2 (upd2 (upd2 (upd2 (upd2 I 0 40 (nI 0)) 17 (0) (nI 0)) 17 (1) ((-99 : Int32))) 17 (2) (nI 0)) 32 [.ref 0, .int (nI 0), .int (nI 3), uu, uu, uu] [.int (nI 3), .ref 17] from ?_)
  refine aw_iload_n rfl rfl d_X_reckons_32 ?_
  refine aw_iconst (v := nI 1) ci_1 d_X_reckons_33 ?_
  refine aw_icmp_neI (tgt := 42) (3) (1) (by decide +kernel) (by decide +kernel) (by decide) d_X_reckons_34 (fun _ => ?_) (fun q => absurd q (by decide))
  refine aw_iconst (v := nI 0) ci_0 d_X_reckons_42 ?_
  refine aw_iast (j := 3) km_17 (vp_in_nI (by decide) (by decide)) (nI_clamp (by decide)) d_X_reckons_43 ?_
  refine aw_iinc (v := nI 4) (lv2 := [.ref 0, .int (nI 0), .int (nI 4), uu, uu, uu]) rfl (by decide +kernel) (by decide) rfl d_X_reckons_44 ?_
  refine aw_goto (tgt := 14) (by decide) d_X_reckons_47 ?_
  refine aw_iload_n rfl rfl d_X_reckons_14 ?_
  refine aw_iconst (v := nI 4) ci_4 d_X_reckons_15 ?_
  refine aw_icmp_geI (tgt := 50) (4) (4) (by decide +kernel) (by decide +kernel) (by decide) d_X_reckons_16 (fun _ => ?_) (fun q => absurd q (by decide))
  refine aw_iinc (v := nI 1) (lv2 := [.ref 0, .int (nI 1), .int (nI 4), uu, uu, uu]) rfl (by decide +kernel) (by decide) rfl d_X_reckons_50 ?_
  refine aw_goto (tgt := 6) (by decide) d_X_reckons_53 ?_
  refine aw_iload_n rfl rfl d_X_reckons_6 ?_
  refine aw_bipush (v := nI 9) cb_9 d_X_reckons_7 ?_
  refine aw_icmp_geI (tgt := 56) (1) (9) (by decide +kernel) (by decide +kernel) (by decide) d_X_reckons_9 (fun q => absurd q (by decide)) (fun _ => ?_)
  refine aw_iconst (v := nI 0) ci_0 d_X_reckons_12 ?_
  refine aw_istore_n (lv2 := [.ref 0, .int (nI 1), .int (nI 0), uu, uu, uu]) rfl (by decide) rfl d_X_reckons_13 ?_
  refine aw_iload_n rfl rfl d_X_reckons_14 ?_
  refine aw_iconst (v := nI 4) ci_4 d_X_reckons_15 ?_
  refine aw_icmp_geI (tgt := 50) (0) (4) (by decide +kernel) (by decide +kernel) (by decide) d_X_reckons_16 (fun q => absurd q (by decide)) (fun _ => ?_)
  refine aw_aload_n rfl rfl d_X_reckons_19 ?_
  refine aw_getr fl_X_69 km_0 (by decide) rfl rm_0_39 d_X_reckons_20 ?_
  refine aw_aload_n rfl rfl d_X_reckons_23 ?_
  refine aw_geti fl_X_347 km_0 (by decide) rfl d_X_reckons_24 ?_
  refine aw_top (x2 := nI 0) (Eq.trans (congrFun (upd2_ne (by decide)) (40)) (Eq.trans (congrFun (upd2_ne (by decide)) (40)) (Eq.trans (congrFun (upd2_ne (by decide)) (40)) (Eq.trans (congrFun (upd2_ne (by decide)) (40)) (upd2_eq))))) ?_
  refine aw_iload_n rfl rfl d_X_reckons_27 ?_
  refine aw_iload_n rfl rfl d_X_reckons_28 ?_
  refine as_callS (as := [.int (nI 0), .int (nI 1), .int (nI 0)]) (d' := 4) mo_X_spot lk_X_353 rfl ⟨by decide, by decide⟩ rfl rfl (by decide) d_X_reckons_29 (Ss.of (show As l b 4 y_X_spot KM RM _ (upd2 (upd2 (upd2 (upd2 (upd2 I 0 40 (nI 0)) 17 (0) (nI 0)) 17 (1) ((-99 : Int32))) 17 (2) (nI 0)) 17 (3) (nI 0)) 0 [.int (nI 0), .int (nI 1), .int (nI 0)] [] from ?_))
  refine aw_bipush (v := nI 36) cb_36 d_X_spot_0 ?_
  refine aw_iload_n rfl rfl d_X_spot_2 ?_
  refine aw_imul d_X_spot_3 ?_
  refine aw_top (x2 := nI 0) (by decide +kernel) ?_
  refine aw_iconst (v := nI 4) ci_4 d_X_spot_4 ?_
  refine aw_iload_n rfl rfl d_X_spot_5 ?_
  refine aw_imul d_X_spot_6 ?_
  refine aw_top (x2 := nI 4) (by decide +kernel) ?_
  refine aw_iadd d_X_spot_7 ?_
  refine aw_top (x2 := nI 4) (by decide +kernel) ?_
  refine aw_iload_n rfl rfl d_X_spot_8 ?_
  refine aw_iadd d_X_spot_9 ?_
  refine aw_top (x2 := nI 4) (by decide +kernel) ?_
  refine as_reti rfl d_X_spot_10 ?_
  refine (show As l b 5 y_X_reckons KM RM K2 (upd2 (upd2 (upd2 (upd2 (upd2 I 0 40 (nI 0)) 17 (0) (nI 0)) 17 (1) ((-99 : Int32))) 17 (2) (nI 0)) 17 (3) (nI 0)) 32 [.ref 0, .int (nI 1), .int (nI 0), uu, uu, uu] [.int (nI 4), .ref 17] from ?_)
  refine aw_iload_n rfl rfl d_X_reckons_32 ?_
  refine aw_iconst (v := nI 1) ci_1 d_X_reckons_33 ?_
  refine aw_icmp_neI (tgt := 42) (0) (1) (by decide +kernel) (by decide +kernel) (by decide) d_X_reckons_34 (fun _ => ?_) (fun q => absurd q (by decide))
  refine aw_iconst (v := nI 0) ci_0 d_X_reckons_42 ?_
  refine aw_iast (j := 4) km_17 (vp_in_nI (by decide) (by decide)) (nI_clamp (by decide)) d_X_reckons_43 ?_
  refine aw_iinc (v := nI 1) (lv2 := [.ref 0, .int (nI 1), .int (nI 1), uu, uu, uu]) rfl (by decide +kernel) (by decide) rfl d_X_reckons_44 ?_
  refine aw_goto (tgt := 14) (by decide) d_X_reckons_47 ?_
  refine aw_iload_n rfl rfl d_X_reckons_14 ?_
  refine aw_iconst (v := nI 4) ci_4 d_X_reckons_15 ?_
  refine aw_icmp_geI (tgt := 50) (1) (4) (by decide +kernel) (by decide +kernel) (by decide) d_X_reckons_16 (fun q => absurd q (by decide)) (fun _ => ?_)
  refine aw_aload_n rfl rfl d_X_reckons_19 ?_
  refine aw_getr fl_X_69 km_0 (by decide) rfl rm_0_39 d_X_reckons_20 ?_
  refine aw_aload_n rfl rfl d_X_reckons_23 ?_
  refine aw_geti fl_X_347 km_0 (by decide) rfl d_X_reckons_24 ?_
  refine aw_top (x2 := nI 0) (Eq.trans (congrFun (upd2_ne (by decide)) (40)) (Eq.trans (congrFun (upd2_ne (by decide)) (40)) (Eq.trans (congrFun (upd2_ne (by decide)) (40)) (Eq.trans (congrFun (upd2_ne (by decide)) (40)) (Eq.trans (congrFun (upd2_ne (by decide)) (40)) (upd2_eq)))))) ?_
  refine aw_iload_n rfl rfl d_X_reckons_27 ?_
  refine aw_iload_n rfl rfl d_X_reckons_28 ?_
  refine as_callS (as := [.int (nI 0), .int (nI 1), .int (nI 1)]) (d' := 4) mo_X_spot lk_X_353 rfl ⟨by decide, by decide⟩ rfl rfl (by decide) d_X_reckons_29 (Ss.of (show As l b 4 y_X_spot KM RM _ (upd2 (upd2 (upd2 (upd2 (upd2 (upd2 I 0 40 (nI 0)) 17 (0) (nI 0)) 17 (1) ((-99 : Int32))) 17 (2) (nI 0)) 17 (3) (nI 0)) 17 (4) (nI 0)) 0 [.int (nI 0), .int (nI 1), .int (nI 1)] [] from ?_))
  refine aw_bipush (v := nI 36) cb_36 d_X_spot_0 ?_
  refine aw_iload_n rfl rfl d_X_spot_2 ?_
  refine aw_imul d_X_spot_3 ?_
  refine aw_top (x2 := nI 0) (by decide +kernel) ?_
  refine aw_iconst (v := nI 4) ci_4 d_X_spot_4 ?_
  refine aw_iload_n rfl rfl d_X_spot_5 ?_
  refine aw_imul d_X_spot_6 ?_
  refine aw_top (x2 := nI 4) (by decide +kernel) ?_
  refine aw_iadd d_X_spot_7 ?_
  refine aw_top (x2 := nI 4) (by decide +kernel) ?_
  refine aw_iload_n rfl rfl d_X_spot_8 ?_
  refine aw_iadd d_X_spot_9 ?_
  refine aw_top (x2 := nI 5) (by decide +kernel) ?_
  refine as_reti rfl d_X_spot_10 ?_
  refine (show As l b 5 y_X_reckons KM RM K2 (upd2 (upd2 (upd2 (upd2 (upd2 (upd2 I 0 40 (nI 0)) 17 (0) (nI 0)) 17 (1) ((-99 : Int32))) 17 (2) (nI 0)) 17 (3) (nI 0)) 17 (4) (nI 0)) 32 [.ref 0, .int (nI 1), .int (nI 1), uu, uu, uu] [.int (nI 5), .ref 17] from ?_)
  refine aw_iload_n rfl rfl d_X_reckons_32 ?_
  refine aw_iconst (v := nI 1) ci_1 d_X_reckons_33 ?_
  refine aw_icmp_neI (tgt := 42) (1) (1) (by decide +kernel) (by decide +kernel) (by decide) d_X_reckons_34 (fun q => absurd q (by decide)) (fun _ => ?_)
  refine aw_bipush (v := (-99 : Int32)) rfl d_X_reckons_37 ?_
  refine aw_goto (tgt := 43) (by decide) d_X_reckons_39 ?_
  refine aw_iast (j := 5) km_17 (vp_in_nI (by decide) (by decide)) (nI_clamp (by decide)) d_X_reckons_43 ?_
  refine aw_iinc (v := nI 2) (lv2 := [.ref 0, .int (nI 1), .int (nI 2), uu, uu, uu]) rfl (by decide +kernel) (by decide) rfl d_X_reckons_44 ?_
  refine aw_goto (tgt := 14) (by decide) d_X_reckons_47 ?_
  refine aw_iload_n rfl rfl d_X_reckons_14 ?_
  refine aw_iconst (v := nI 4) ci_4 d_X_reckons_15 ?_
  refine aw_icmp_geI (tgt := 50) (2) (4) (by decide +kernel) (by decide +kernel) (by decide) d_X_reckons_16 (fun q => absurd q (by decide)) (fun _ => ?_)
  refine aw_aload_n rfl rfl d_X_reckons_19 ?_
  refine aw_getr fl_X_69 km_0 (by decide) rfl rm_0_39 d_X_reckons_20 ?_
  refine aw_aload_n rfl rfl d_X_reckons_23 ?_
  refine aw_geti fl_X_347 km_0 (by decide) rfl d_X_reckons_24 ?_
  refine aw_top (x2 := nI 0) (Eq.trans (congrFun (upd2_ne (by decide)) (40)) (Eq.trans (congrFun (upd2_ne (by decide)) (40)) (Eq.trans (congrFun (upd2_ne (by decide)) (40)) (Eq.trans (congrFun (upd2_ne (by decide)) (40)) (Eq.trans (congrFun (upd2_ne (by decide)) (40)) (Eq.trans (congrFun (upd2_ne (by decide)) (40)) (upd2_eq))))))) ?_
  refine aw_iload_n rfl rfl d_X_reckons_27 ?_
  refine aw_iload_n rfl rfl d_X_reckons_28 ?_
  refine as_callS (as := [.int (nI 0), .int (nI 1), .int (nI 2)]) (d' := 4) mo_X_spot lk_X_353 rfl ⟨by decide, by decide⟩ rfl rfl (by decide) d_X_reckons_29 (Ss.of (show As l b 4 y_X_spot KM RM _ (upd2 (upd2 (upd2 (upd2 (upd2 (upd2 (upd2 I 0 40 (nI 0)) 17 (0) (nI 0)) 17 (1) ((-99 : Int32))) 17 (2) (nI 0)) 17 (3) (nI 0)) 17 (4) (nI 0)) 17 (5) ((-99 : Int32))) 0 [.int (nI 0), .int (nI 1), .int (nI 2)] [] from ?_))
  refine aw_bipush (v := nI 36) cb_36 d_X_spot_0 ?_
  refine aw_iload_n rfl rfl d_X_spot_2 ?_
  refine aw_imul d_X_spot_3 ?_
  refine aw_top (x2 := nI 0) (by decide +kernel) ?_
  refine aw_iconst (v := nI 4) ci_4 d_X_spot_4 ?_
  refine aw_iload_n rfl rfl d_X_spot_5 ?_
  refine aw_imul d_X_spot_6 ?_
  refine aw_top (x2 := nI 4) (by decide +kernel) ?_
  refine aw_iadd d_X_spot_7 ?_
  refine aw_top (x2 := nI 4) (by decide +kernel) ?_
  refine aw_iload_n rfl rfl d_X_spot_8 ?_
  refine aw_iadd d_X_spot_9 ?_
  refine aw_top (x2 := nI 6) (by decide +kernel) ?_
  refine as_reti rfl d_X_spot_10 ?_
  refine (show As l b 5 y_X_reckons KM RM K2 (upd2 (upd2 (upd2 (upd2 (upd2 (upd2 (upd2 I 0 40 (nI 0)) 17 (0) (nI 0)) 17 (1) ((-99 : Int32))) 17 (2) (nI 0)) 17 (3) (nI 0)) 17 (4) (nI 0)) 17 (5) ((-99 : Int32))) 32 [.ref 0, .int (nI 1), .int (nI 2), uu, uu, uu] [.int (nI 6), .ref 17] from ?_)
  refine aw_iload_n rfl rfl d_X_reckons_32 ?_
  refine aw_iconst (v := nI 1) ci_1 d_X_reckons_33 ?_
  refine aw_icmp_neI (tgt := 42) (2) (1) (by decide +kernel) (by decide +kernel) (by decide) d_X_reckons_34 (fun _ => ?_) (fun q => absurd q (by decide))
  refine aw_iconst (v := nI 0) ci_0 d_X_reckons_42 ?_
  refine aw_iast (j := 6) km_17 (vp_in_nI (by decide) (by decide)) (nI_clamp (by decide)) d_X_reckons_43 ?_
  refine aw_iinc (v := nI 3) (lv2 := [.ref 0, .int (nI 1), .int (nI 3), uu, uu, uu]) rfl (by decide +kernel) (by decide) rfl d_X_reckons_44 ?_
  refine aw_goto (tgt := 14) (by decide) d_X_reckons_47 ?_
  refine aw_iload_n rfl rfl d_X_reckons_14 ?_
  refine aw_iconst (v := nI 4) ci_4 d_X_reckons_15 ?_
  refine aw_icmp_geI (tgt := 50) (3) (4) (by decide +kernel) (by decide +kernel) (by decide) d_X_reckons_16 (fun q => absurd q (by decide)) (fun _ => ?_)
  refine aw_aload_n rfl rfl d_X_reckons_19 ?_
  refine aw_getr fl_X_69 km_0 (by decide) rfl rm_0_39 d_X_reckons_20 ?_
  refine aw_aload_n rfl rfl d_X_reckons_23 ?_
  refine aw_geti fl_X_347 km_0 (by decide) rfl d_X_reckons_24 ?_
  refine aw_top (x2 := nI 0) (Eq.trans (congrFun (upd2_ne (by decide)) (40)) (Eq.trans (congrFun (upd2_ne (by decide)) (40)) (Eq.trans (congrFun (upd2_ne (by decide)) (40)) (Eq.trans (congrFun (upd2_ne (by decide)) (40)) (Eq.trans (congrFun (upd2_ne (by decide)) (40)) (Eq.trans (congrFun (upd2_ne (by decide)) (40)) (Eq.trans (congrFun (upd2_ne (by decide)) (40)) (upd2_eq)))))))) ?_
  refine aw_iload_n rfl rfl d_X_reckons_27 ?_
  refine aw_iload_n rfl rfl d_X_reckons_28 ?_
  refine as_callS (as := [.int (nI 0), .int (nI 1), .int (nI 3)]) (d' := 4) mo_X_spot lk_X_353 rfl ⟨by decide, by decide⟩ rfl rfl (by decide) d_X_reckons_29 (Ss.of (show As l b 4 y_X_spot KM RM _ (upd2 (upd2 (upd2 (upd2 (upd2 (upd2 (upd2 (upd2 I 0 40 (nI 0)) 17 (0) (nI 0)) 17 (1) ((-99 : Int32))) 17 (2) (nI 0)) 17 (3) (nI 0)) 17 (4) (nI 0)) 17 (5) ((-99 : Int32))) 17 (6) (nI 0)) 0 [.int (nI 0), .int (nI 1), .int (nI 3)] [] from ?_))
  refine aw_bipush (v := nI 36) cb_36 d_X_spot_0 ?_
  refine aw_iload_n rfl rfl d_X_spot_2 ?_
  refine aw_imul d_X_spot_3 ?_
  refine aw_top (x2 := nI 0) (by decide +kernel) ?_
  refine aw_iconst (v := nI 4) ci_4 d_X_spot_4 ?_
  refine aw_iload_n rfl rfl d_X_spot_5 ?_
  refine aw_imul d_X_spot_6 ?_
  refine aw_top (x2 := nI 4) (by decide +kernel) ?_
  refine aw_iadd d_X_spot_7 ?_
  refine aw_top (x2 := nI 4) (by decide +kernel) ?_
  refine aw_iload_n rfl rfl d_X_spot_8 ?_
  refine aw_iadd d_X_spot_9 ?_
  refine aw_top (x2 := nI 7) (by decide +kernel) ?_
  refine as_reti rfl d_X_spot_10 ?_
  refine (show As l b 5 y_X_reckons KM RM K2 (upd2 (upd2 (upd2 (upd2 (upd2 (upd2 (upd2 (upd2 I 0 40 (nI 0)) 17 (0) (nI 0)) 17 (1) ((-99 : Int32))) 17 (2) (nI 0)) 17 (3) (nI 0)) 17 (4) (nI 0)) 17 (5) ((-99 : Int32))) 17 (6) (nI 0)) 32 [.ref 0, .int (nI 1), .int (nI 3), uu, uu, uu] [.int (nI 7), .ref 17] from ?_)
  refine aw_iload_n rfl rfl d_X_reckons_32 ?_
  refine aw_iconst (v := nI 1) ci_1 d_X_reckons_33 ?_
  refine aw_icmp_neI (tgt := 42) (3) (1) (by decide +kernel) (by decide +kernel) (by decide) d_X_reckons_34 (fun _ => ?_) (fun q => absurd q (by decide))
  refine aw_iconst (v := nI 0) ci_0 d_X_reckons_42 ?_
  refine aw_iast (j := 7) km_17 (vp_in_nI (by decide) (by decide)) (nI_clamp (by decide)) d_X_reckons_43 ?_
  refine aw_iinc (v := nI 4) (lv2 := [.ref 0, .int (nI 1), .int (nI 4), uu, uu, uu]) rfl (by decide +kernel) (by decide) rfl d_X_reckons_44 ?_
  refine aw_goto (tgt := 14) (by decide) d_X_reckons_47 ?_
  refine aw_iload_n rfl rfl d_X_reckons_14 ?_
  refine aw_iconst (v := nI 4) ci_4 d_X_reckons_15 ?_
  refine aw_icmp_geI (tgt := 50) (4) (4) (by decide +kernel) (by decide +kernel) (by decide) d_X_reckons_16 (fun _ => ?_) (fun q => absurd q (by decide))
  refine aw_iinc (v := nI 2) (lv2 := [.ref 0, .int (nI 2), .int (nI 4), uu, uu, uu]) rfl (by decide +kernel) (by decide) rfl d_X_reckons_50 ?_
  refine aw_goto (tgt := 6) (by decide) d_X_reckons_53 ?_
  refine aw_iload_n rfl rfl d_X_reckons_6 ?_
  refine aw_bipush (v := nI 9) cb_9 d_X_reckons_7 ?_
  refine aw_icmp_geI (tgt := 56) (2) (9) (by decide +kernel) (by decide +kernel) (by decide) d_X_reckons_9 (fun q => absurd q (by decide)) (fun _ => ?_)
  refine aw_iconst (v := nI 0) ci_0 d_X_reckons_12 ?_
  refine aw_istore_n (lv2 := [.ref 0, .int (nI 2), .int (nI 0), uu, uu, uu]) rfl (by decide) rfl d_X_reckons_13 ?_
  refine aw_iload_n rfl rfl d_X_reckons_14 ?_
  refine aw_iconst (v := nI 4) ci_4 d_X_reckons_15 ?_
  refine aw_icmp_geI (tgt := 50) (0) (4) (by decide +kernel) (by decide +kernel) (by decide) d_X_reckons_16 (fun q => absurd q (by decide)) (fun _ => ?_)
  refine aw_aload_n rfl rfl d_X_reckons_19 ?_
  refine aw_getr fl_X_69 km_0 (by decide) rfl rm_0_39 d_X_reckons_20 ?_
  refine aw_aload_n rfl rfl d_X_reckons_23 ?_
  refine aw_geti fl_X_347 km_0 (by decide) rfl d_X_reckons_24 ?_
  refine aw_top (x2 := nI 0) (Eq.trans (congrFun (upd2_ne (by decide)) (40)) (Eq.trans (congrFun (upd2_ne (by decide)) (40)) (Eq.trans (congrFun (upd2_ne (by decide)) (40)) (Eq.trans (congrFun (upd2_ne (by decide)) (40)) (Eq.trans (congrFun (upd2_ne (by decide)) (40)) (Eq.trans (congrFun (upd2_ne (by decide)) (40)) (Eq.trans (congrFun (upd2_ne (by decide)) (40)) (Eq.trans (congrFun (upd2_ne (by decide)) (40)) (upd2_eq))))))))) ?_
  refine aw_iload_n rfl rfl d_X_reckons_27 ?_
  refine aw_iload_n rfl rfl d_X_reckons_28 ?_
  refine as_callS (as := [.int (nI 0), .int (nI 2), .int (nI 0)]) (d' := 4) mo_X_spot lk_X_353 rfl ⟨by decide, by decide⟩ rfl rfl (by decide) d_X_reckons_29 (Ss.of (show As l b 4 y_X_spot KM RM _ (upd2 (upd2 (upd2 (upd2 (upd2 (upd2 (upd2 (upd2 (upd2 I 0 40 (nI 0)) 17 (0) (nI 0)) 17 (1) ((-99 : Int32))) 17 (2) (nI 0)) 17 (3) (nI 0)) 17 (4) (nI 0)) 17 (5) ((-99 : Int32))) 17 (6) (nI 0)) 17 (7) (nI 0)) 0 [.int (nI 0), .int (nI 2), .int (nI 0)] [] from ?_))
  refine aw_bipush (v := nI 36) cb_36 d_X_spot_0 ?_
  refine aw_iload_n rfl rfl d_X_spot_2 ?_
  refine aw_imul d_X_spot_3 ?_
  refine aw_top (x2 := nI 0) (by decide +kernel) ?_
  refine aw_iconst (v := nI 4) ci_4 d_X_spot_4 ?_
  refine aw_iload_n rfl rfl d_X_spot_5 ?_
  refine aw_imul d_X_spot_6 ?_
  refine aw_top (x2 := nI 8) (by decide +kernel) ?_
  refine aw_iadd d_X_spot_7 ?_
  refine aw_top (x2 := nI 8) (by decide +kernel) ?_
  refine aw_iload_n rfl rfl d_X_spot_8 ?_
  refine aw_iadd d_X_spot_9 ?_
  refine aw_top (x2 := nI 8) (by decide +kernel) ?_
  refine as_reti rfl d_X_spot_10 ?_
  refine (show As l b 5 y_X_reckons KM RM K2 (upd2 (upd2 (upd2 (upd2 (upd2 (upd2 (upd2 (upd2 (upd2 I 0 40 (nI 0)) 17 (0) (nI 0)) 17 (1) ((-99 : Int32))) 17 (2) (nI 0)) 17 (3) (nI 0)) 17 (4) (nI 0)) 17 (5) ((-99 : Int32))) 17 (6) (nI 0)) 17 (7) (nI 0)) 32 [.ref 0, .int (nI 2), .int (nI 0), uu, uu, uu] [.int (nI 8), .ref 17] from ?_)
  refine aw_iload_n rfl rfl d_X_reckons_32 ?_
  refine aw_iconst (v := nI 1) ci_1 d_X_reckons_33 ?_
  refine aw_icmp_neI (tgt := 42) (0) (1) (by decide +kernel) (by decide +kernel) (by decide) d_X_reckons_34 (fun _ => ?_) (fun q => absurd q (by decide))
  refine aw_iconst (v := nI 0) ci_0 d_X_reckons_42 ?_
  refine aw_iast (j := 8) km_17 (vp_in_nI (by decide) (by decide)) (nI_clamp (by decide)) d_X_reckons_43 ?_
  refine aw_iinc (v := nI 1) (lv2 := [.ref 0, .int (nI 2), .int (nI 1), uu, uu, uu]) rfl (by decide +kernel) (by decide) rfl d_X_reckons_44 ?_
  refine aw_goto (tgt := 14) (by decide) d_X_reckons_47 ?_
  refine aw_iload_n rfl rfl d_X_reckons_14 ?_
  refine aw_iconst (v := nI 4) ci_4 d_X_reckons_15 ?_
  refine aw_icmp_geI (tgt := 50) (1) (4) (by decide +kernel) (by decide +kernel) (by decide) d_X_reckons_16 (fun q => absurd q (by decide)) (fun _ => ?_)
  refine aw_aload_n rfl rfl d_X_reckons_19 ?_
  refine aw_getr fl_X_69 km_0 (by decide) rfl rm_0_39 d_X_reckons_20 ?_
  refine aw_aload_n rfl rfl d_X_reckons_23 ?_
  refine aw_geti fl_X_347 km_0 (by decide) rfl d_X_reckons_24 ?_
  refine aw_top (x2 := nI 0) (Eq.trans (congrFun (upd2_ne (by decide)) (40)) (Eq.trans (congrFun (upd2_ne (by decide)) (40)) (Eq.trans (congrFun (upd2_ne (by decide)) (40)) (Eq.trans (congrFun (upd2_ne (by decide)) (40)) (Eq.trans (congrFun (upd2_ne (by decide)) (40)) (Eq.trans (congrFun (upd2_ne (by decide)) (40)) (Eq.trans (congrFun (upd2_ne (by decide)) (40)) (Eq.trans (congrFun (upd2_ne (by decide)) (40)) (Eq.trans (congrFun (upd2_ne (by decide)) (40)) (upd2_eq)))))))))) ?_
  refine aw_iload_n rfl rfl d_X_reckons_27 ?_
  refine aw_iload_n rfl rfl d_X_reckons_28 ?_
  refine as_callS (as := [.int (nI 0), .int (nI 2), .int (nI 1)]) (d' := 4) mo_X_spot lk_X_353 rfl ⟨by decide, by decide⟩ rfl rfl (by decide) d_X_reckons_29 (Ss.of (show As l b 4 y_X_spot KM RM _ (upd2 (upd2 (upd2 (upd2 (upd2 (upd2 (upd2 (upd2 (upd2 (upd2 I 0 40 (nI 0)) 17 (0) (nI 0)) 17 (1) ((-99 : Int32))) 17 (2) (nI 0)) 17 (3) (nI 0)) 17 (4) (nI 0)) 17 (5) ((-99 : Int32))) 17 (6) (nI 0)) 17 (7) (nI 0)) 17 (8) (nI 0)) 0 [.int (nI 0), .int (nI 2), .int (nI 1)] [] from ?_))
  refine aw_bipush (v := nI 36) cb_36 d_X_spot_0 ?_
  refine aw_iload_n rfl rfl d_X_spot_2 ?_
  refine aw_imul d_X_spot_3 ?_
  refine aw_top (x2 := nI 0) (by decide +kernel) ?_
  refine aw_iconst (v := nI 4) ci_4 d_X_spot_4 ?_
  refine aw_iload_n rfl rfl d_X_spot_5 ?_
  refine aw_imul d_X_spot_6 ?_
  refine aw_top (x2 := nI 8) (by decide +kernel) ?_
  refine aw_iadd d_X_spot_7 ?_
  refine aw_top (x2 := nI 8) (by decide +kernel) ?_
  refine aw_iload_n rfl rfl d_X_spot_8 ?_
  refine aw_iadd d_X_spot_9 ?_
  refine aw_top (x2 := nI 9) (by decide +kernel) ?_
  refine as_reti rfl d_X_spot_10 ?_
  refine (show As l b 5 y_X_reckons KM RM K2 (upd2 (upd2 (upd2 (upd2 (upd2 (upd2 (upd2 (upd2 (upd2 (upd2 I 0 40 (nI 0)) 17 (0) (nI 0)) 17 (1) ((-99 : Int32))) 17 (2) (nI 0)) 17 (3) (nI 0)) 17 (4) (nI 0)) 17 (5) ((-99 : Int32))) 17 (6) (nI 0)) 17 (7) (nI 0)) 17 (8) (nI 0)) 32 [.ref 0, .int (nI 2), .int (nI 1), uu, uu, uu] [.int (nI 9), .ref 17] from ?_)
  refine aw_iload_n rfl rfl d_X_reckons_32 ?_
  refine aw_iconst (v := nI 1) ci_1 d_X_reckons_33 ?_
  refine aw_icmp_neI (tgt := 42) (1) (1) (by decide +kernel) (by decide +kernel) (by decide) d_X_reckons_34 (fun q => absurd q (by decide)) (fun _ => ?_)
  refine aw_bipush (v := (-99 : Int32)) rfl d_X_reckons_37 ?_
  refine aw_goto (tgt := 43) (by decide) d_X_reckons_39 ?_
  refine aw_iast (j := 9) km_17 (vp_in_nI (by decide) (by decide)) (nI_clamp (by decide)) d_X_reckons_43 ?_
  refine aw_iinc (v := nI 2) (lv2 := [.ref 0, .int (nI 2), .int (nI 2), uu, uu, uu]) rfl (by decide +kernel) (by decide) rfl d_X_reckons_44 ?_
  refine aw_goto (tgt := 14) (by decide) d_X_reckons_47 ?_
  refine aw_iload_n rfl rfl d_X_reckons_14 ?_
  refine aw_iconst (v := nI 4) ci_4 d_X_reckons_15 ?_
  refine aw_icmp_geI (tgt := 50) (2) (4) (by decide +kernel) (by decide +kernel) (by decide) d_X_reckons_16 (fun q => absurd q (by decide)) (fun _ => ?_)
  refine aw_aload_n rfl rfl d_X_reckons_19 ?_
  refine aw_getr fl_X_69 km_0 (by decide) rfl rm_0_39 d_X_reckons_20 ?_
  refine aw_aload_n rfl rfl d_X_reckons_23 ?_
  refine aw_geti fl_X_347 km_0 (by decide) rfl d_X_reckons_24 ?_
  refine aw_top (x2 := nI 0) (Eq.trans (congrFun (upd2_ne (by decide)) (40)) (Eq.trans (congrFun (upd2_ne (by decide)) (40)) (Eq.trans (congrFun (upd2_ne (by decide)) (40)) (Eq.trans (congrFun (upd2_ne (by decide)) (40)) (Eq.trans (congrFun (upd2_ne (by decide)) (40)) (Eq.trans (congrFun (upd2_ne (by decide)) (40)) (Eq.trans (congrFun (upd2_ne (by decide)) (40)) (Eq.trans (congrFun (upd2_ne (by decide)) (40)) (Eq.trans (congrFun (upd2_ne (by decide)) (40)) (Eq.trans (congrFun (upd2_ne (by decide)) (40)) (upd2_eq))))))))))) ?_
  refine aw_iload_n rfl rfl d_X_reckons_27 ?_
  refine aw_iload_n rfl rfl d_X_reckons_28 ?_
  refine as_callS (as := [.int (nI 0), .int (nI 2), .int (nI 2)]) (d' := 4) mo_X_spot lk_X_353 rfl ⟨by decide, by decide⟩ rfl rfl (by decide) d_X_reckons_29 (Ss.of (show As l b 4 y_X_spot KM RM _ (upd2 (upd2 (upd2 (upd2 (upd2 (upd2 (upd2 (upd2 (upd2 (upd2 (upd2 I 0 40 (nI 0)) 17 (0) (nI 0)) 17 (1) ((-99 : Int32))) 17 (2) (nI 0)) 17 (3) (nI 0)) 17 (4) (nI 0)) 17 (5) ((-99 : Int32))) 17 (6) (nI 0)) 17 (7) (nI 0)) 17 (8) (nI 0)) 17 (9) ((-99 : Int32))) 0 [.int (nI 0), .int (nI 2), .int (nI 2)] [] from ?_))
  refine aw_bipush (v := nI 36) cb_36 d_X_spot_0 ?_
  refine aw_iload_n rfl rfl d_X_spot_2 ?_
  refine aw_imul d_X_spot_3 ?_
  refine aw_top (x2 := nI 0) (by decide +kernel) ?_
  refine aw_iconst (v := nI 4) ci_4 d_X_spot_4 ?_
  refine aw_iload_n rfl rfl d_X_spot_5 ?_
  refine aw_imul d_X_spot_6 ?_
  refine aw_top (x2 := nI 8) (by decide +kernel) ?_
  refine aw_iadd d_X_spot_7 ?_
  refine aw_top (x2 := nI 8) (by decide +kernel) ?_
  refine aw_iload_n rfl rfl d_X_spot_8 ?_
  refine aw_iadd d_X_spot_9 ?_
  refine aw_top (x2 := nI 10) (by decide +kernel) ?_
  refine as_reti rfl d_X_spot_10 ?_
  refine (show As l b 5 y_X_reckons KM RM K2 (upd2 (upd2 (upd2 (upd2 (upd2 (upd2 (upd2 (upd2 (upd2 (upd2 (upd2 I 0 40 (nI 0)) 17 (0) (nI 0)) 17 (1) ((-99 : Int32))) 17 (2) (nI 0)) 17 (3) (nI 0)) 17 (4) (nI 0)) 17 (5) ((-99 : Int32))) 17 (6) (nI 0)) 17 (7) (nI 0)) 17 (8) (nI 0)) 17 (9) ((-99 : Int32))) 32 [.ref 0, .int (nI 2), .int (nI 2), uu, uu, uu] [.int (nI 10), .ref 17] from ?_)
  refine aw_iload_n rfl rfl d_X_reckons_32 ?_
  refine aw_iconst (v := nI 1) ci_1 d_X_reckons_33 ?_
  refine aw_icmp_neI (tgt := 42) (2) (1) (by decide +kernel) (by decide +kernel) (by decide) d_X_reckons_34 (fun _ => ?_) (fun q => absurd q (by decide))
  refine aw_iconst (v := nI 0) ci_0 d_X_reckons_42 ?_
  refine aw_iast (j := 10) km_17 (vp_in_nI (by decide) (by decide)) (nI_clamp (by decide)) d_X_reckons_43 ?_
  refine aw_iinc (v := nI 3) (lv2 := [.ref 0, .int (nI 2), .int (nI 3), uu, uu, uu]) rfl (by decide +kernel) (by decide) rfl d_X_reckons_44 ?_
  refine aw_goto (tgt := 14) (by decide) d_X_reckons_47 ?_
  refine aw_iload_n rfl rfl d_X_reckons_14 ?_
  refine aw_iconst (v := nI 4) ci_4 d_X_reckons_15 ?_
  refine aw_icmp_geI (tgt := 50) (3) (4) (by decide +kernel) (by decide +kernel) (by decide) d_X_reckons_16 (fun q => absurd q (by decide)) (fun _ => ?_)
  refine aw_aload_n rfl rfl d_X_reckons_19 ?_
  refine aw_getr fl_X_69 km_0 (by decide) rfl rm_0_39 d_X_reckons_20 ?_
  refine aw_aload_n rfl rfl d_X_reckons_23 ?_
  refine aw_geti fl_X_347 km_0 (by decide) rfl d_X_reckons_24 ?_
  refine aw_top (x2 := nI 0) (Eq.trans (congrFun (upd2_ne (by decide)) (40)) (Eq.trans (congrFun (upd2_ne (by decide)) (40)) (Eq.trans (congrFun (upd2_ne (by decide)) (40)) (Eq.trans (congrFun (upd2_ne (by decide)) (40)) (Eq.trans (congrFun (upd2_ne (by decide)) (40)) (Eq.trans (congrFun (upd2_ne (by decide)) (40)) (Eq.trans (congrFun (upd2_ne (by decide)) (40)) (Eq.trans (congrFun (upd2_ne (by decide)) (40)) (Eq.trans (congrFun (upd2_ne (by decide)) (40)) (Eq.trans (congrFun (upd2_ne (by decide)) (40)) (Eq.trans (congrFun (upd2_ne (by decide)) (40)) (upd2_eq)))))))))))) ?_
  refine aw_iload_n rfl rfl d_X_reckons_27 ?_
  refine aw_iload_n rfl rfl d_X_reckons_28 ?_
  refine as_callS (as := [.int (nI 0), .int (nI 2), .int (nI 3)]) (d' := 4) mo_X_spot lk_X_353 rfl ⟨by decide, by decide⟩ rfl rfl (by decide) d_X_reckons_29 (Ss.of (show As l b 4 y_X_spot KM RM _ (upd2 (upd2 (upd2 (upd2 (upd2 (upd2 (upd2 (upd2 (upd2 (upd2 (upd2 (upd2 I 0 40 (nI 0)) 17 (0) (nI 0)) 17 (1) ((-99 : Int32))) 17 (2) (nI 0)) 17 (3) (nI 0)) 17 (4) (nI 0)) 17 (5) ((-99 : Int32))) 17 (6) (nI 0)) 17 (7) (nI 0)) 17 (8) (nI 0)) 17 (9) ((-99 : Int32))) 17 (10) (nI 0)) 0 [.int (nI 0), .int (nI 2), .int (nI 3)] [] from ?_))
  refine aw_bipush (v := nI 36) cb_36 d_X_spot_0 ?_
  refine aw_iload_n rfl rfl d_X_spot_2 ?_
  refine aw_imul d_X_spot_3 ?_
  refine aw_top (x2 := nI 0) (by decide +kernel) ?_
  refine aw_iconst (v := nI 4) ci_4 d_X_spot_4 ?_
  refine aw_iload_n rfl rfl d_X_spot_5 ?_
  refine aw_imul d_X_spot_6 ?_
  refine aw_top (x2 := nI 8) (by decide +kernel) ?_
  refine aw_iadd d_X_spot_7 ?_
  refine aw_top (x2 := nI 8) (by decide +kernel) ?_
  refine aw_iload_n rfl rfl d_X_spot_8 ?_
  refine aw_iadd d_X_spot_9 ?_
  refine aw_top (x2 := nI 11) (by decide +kernel) ?_
  refine as_reti rfl d_X_spot_10 ?_
  refine (show As l b 5 y_X_reckons KM RM K2 (upd2 (upd2 (upd2 (upd2 (upd2 (upd2 (upd2 (upd2 (upd2 (upd2 (upd2 (upd2 I 0 40 (nI 0)) 17 (0) (nI 0)) 17 (1) ((-99 : Int32))) 17 (2) (nI 0)) 17 (3) (nI 0)) 17 (4) (nI 0)) 17 (5) ((-99 : Int32))) 17 (6) (nI 0)) 17 (7) (nI 0)) 17 (8) (nI 0)) 17 (9) ((-99 : Int32))) 17 (10) (nI 0)) 32 [.ref 0, .int (nI 2), .int (nI 3), uu, uu, uu] [.int (nI 11), .ref 17] from ?_)
  refine aw_iload_n rfl rfl d_X_reckons_32 ?_
  refine aw_iconst (v := nI 1) ci_1 d_X_reckons_33 ?_
  refine aw_icmp_neI (tgt := 42) (3) (1) (by decide +kernel) (by decide +kernel) (by decide) d_X_reckons_34 (fun _ => ?_) (fun q => absurd q (by decide))
  refine aw_iconst (v := nI 0) ci_0 d_X_reckons_42 ?_
  refine aw_iast (j := 11) km_17 (vp_in_nI (by decide) (by decide)) (nI_clamp (by decide)) d_X_reckons_43 ?_
  refine aw_iinc (v := nI 4) (lv2 := [.ref 0, .int (nI 2), .int (nI 4), uu, uu, uu]) rfl (by decide +kernel) (by decide) rfl d_X_reckons_44 ?_
  refine aw_goto (tgt := 14) (by decide) d_X_reckons_47 ?_
  refine aw_iload_n rfl rfl d_X_reckons_14 ?_
  refine aw_iconst (v := nI 4) ci_4 d_X_reckons_15 ?_
  refine aw_icmp_geI (tgt := 50) (4) (4) (by decide +kernel) (by decide +kernel) (by decide) d_X_reckons_16 (fun _ => ?_) (fun q => absurd q (by decide))
  refine aw_iinc (v := nI 3) (lv2 := [.ref 0, .int (nI 3), .int (nI 4), uu, uu, uu]) rfl (by decide +kernel) (by decide) rfl d_X_reckons_50 ?_
  refine aw_goto (tgt := 6) (by decide) d_X_reckons_53 ?_
  refine aw_iload_n rfl rfl d_X_reckons_6 ?_
  refine aw_bipush (v := nI 9) cb_9 d_X_reckons_7 ?_
  refine aw_icmp_geI (tgt := 56) (3) (9) (by decide +kernel) (by decide +kernel) (by decide) d_X_reckons_9 (fun q => absurd q (by decide)) (fun _ => ?_)
  refine aw_iconst (v := nI 0) ci_0 d_X_reckons_12 ?_
  refine aw_istore_n (lv2 := [.ref 0, .int (nI 3), .int (nI 0), uu, uu, uu]) rfl (by decide) rfl d_X_reckons_13 ?_
  refine aw_iload_n rfl rfl d_X_reckons_14 ?_
  refine aw_iconst (v := nI 4) ci_4 d_X_reckons_15 ?_
  refine aw_icmp_geI (tgt := 50) (0) (4) (by decide +kernel) (by decide +kernel) (by decide) d_X_reckons_16 (fun q => absurd q (by decide)) (fun _ => ?_)
  refine aw_aload_n rfl rfl d_X_reckons_19 ?_
  refine aw_getr fl_X_69 km_0 (by decide) rfl rm_0_39 d_X_reckons_20 ?_
  refine aw_aload_n rfl rfl d_X_reckons_23 ?_
  refine aw_geti fl_X_347 km_0 (by decide) rfl d_X_reckons_24 ?_
  refine aw_top (x2 := nI 0) (Eq.trans (congrFun (upd2_ne (by decide)) (40)) (Eq.trans (congrFun (upd2_ne (by decide)) (40)) (Eq.trans (congrFun (upd2_ne (by decide)) (40)) (Eq.trans (congrFun (upd2_ne (by decide)) (40)) (Eq.trans (congrFun (upd2_ne (by decide)) (40)) (Eq.trans (congrFun (upd2_ne (by decide)) (40)) (Eq.trans (congrFun (upd2_ne (by decide)) (40)) (Eq.trans (congrFun (upd2_ne (by decide)) (40)) (Eq.trans (congrFun (upd2_ne (by decide)) (40)) (Eq.trans (congrFun (upd2_ne (by decide)) (40)) (Eq.trans (congrFun (upd2_ne (by decide)) (40)) (Eq.trans (congrFun (upd2_ne (by decide)) (40)) (upd2_eq))))))))))))) ?_
  refine aw_iload_n rfl rfl d_X_reckons_27 ?_
  refine aw_iload_n rfl rfl d_X_reckons_28 ?_
  refine as_callS (as := [.int (nI 0), .int (nI 3), .int (nI 0)]) (d' := 4) mo_X_spot lk_X_353 rfl ⟨by decide, by decide⟩ rfl rfl (by decide) d_X_reckons_29 (Ss.of (show As l b 4 y_X_spot KM RM _ (upd2 (upd2 (upd2 (upd2 (upd2 (upd2 (upd2 (upd2 (upd2 (upd2 (upd2 (upd2 (upd2 I 0 40 (nI 0)) 17 (0) (nI 0)) 17 (1) ((-99 : Int32))) 17 (2) (nI 0)) 17 (3) (nI 0)) 17 (4) (nI 0)) 17 (5) ((-99 : Int32))) 17 (6) (nI 0)) 17 (7) (nI 0)) 17 (8) (nI 0)) 17 (9) ((-99 : Int32))) 17 (10) (nI 0)) 17 (11) (nI 0)) 0 [.int (nI 0), .int (nI 3), .int (nI 0)] [] from ?_))
  refine aw_bipush (v := nI 36) cb_36 d_X_spot_0 ?_
  refine aw_iload_n rfl rfl d_X_spot_2 ?_
  refine aw_imul d_X_spot_3 ?_
  refine aw_top (x2 := nI 0) (by decide +kernel) ?_
  refine aw_iconst (v := nI 4) ci_4 d_X_spot_4 ?_
  refine aw_iload_n rfl rfl d_X_spot_5 ?_
  refine aw_imul d_X_spot_6 ?_
  refine aw_top (x2 := nI 12) (by decide +kernel) ?_
  refine aw_iadd d_X_spot_7 ?_
  refine aw_top (x2 := nI 12) (by decide +kernel) ?_
  refine aw_iload_n rfl rfl d_X_spot_8 ?_
  refine aw_iadd d_X_spot_9 ?_
  refine aw_top (x2 := nI 12) (by decide +kernel) ?_
  refine as_reti rfl d_X_spot_10 ?_
  refine (show As l b 5 y_X_reckons KM RM K2 (upd2 (upd2 (upd2 (upd2 (upd2 (upd2 (upd2 (upd2 (upd2 (upd2 (upd2 (upd2 (upd2 I 0 40 (nI 0)) 17 (0) (nI 0)) 17 (1) ((-99 : Int32))) 17 (2) (nI 0)) 17 (3) (nI 0)) 17 (4) (nI 0)) 17 (5) ((-99 : Int32))) 17 (6) (nI 0)) 17 (7) (nI 0)) 17 (8) (nI 0)) 17 (9) ((-99 : Int32))) 17 (10) (nI 0)) 17 (11) (nI 0)) 32 [.ref 0, .int (nI 3), .int (nI 0), uu, uu, uu] [.int (nI 12), .ref 17] from ?_)
  refine aw_iload_n rfl rfl d_X_reckons_32 ?_
  refine aw_iconst (v := nI 1) ci_1 d_X_reckons_33 ?_
  refine aw_icmp_neI (tgt := 42) (0) (1) (by decide +kernel) (by decide +kernel) (by decide) d_X_reckons_34 (fun _ => ?_) (fun q => absurd q (by decide))
  refine aw_iconst (v := nI 0) ci_0 d_X_reckons_42 ?_
  refine aw_iast (j := 12) km_17 (vp_in_nI (by decide) (by decide)) (nI_clamp (by decide)) d_X_reckons_43 ?_
  refine aw_iinc (v := nI 1) (lv2 := [.ref 0, .int (nI 3), .int (nI 1), uu, uu, uu]) rfl (by decide +kernel) (by decide) rfl d_X_reckons_44 ?_
  refine aw_goto (tgt := 14) (by decide) d_X_reckons_47 ?_
  refine aw_iload_n rfl rfl d_X_reckons_14 ?_
  refine aw_iconst (v := nI 4) ci_4 d_X_reckons_15 ?_
  refine aw_icmp_geI (tgt := 50) (1) (4) (by decide +kernel) (by decide +kernel) (by decide) d_X_reckons_16 (fun q => absurd q (by decide)) (fun _ => ?_)
  refine aw_aload_n rfl rfl d_X_reckons_19 ?_
  refine aw_getr fl_X_69 km_0 (by decide) rfl rm_0_39 d_X_reckons_20 ?_
  refine aw_aload_n rfl rfl d_X_reckons_23 ?_
  refine aw_geti fl_X_347 km_0 (by decide) rfl d_X_reckons_24 ?_
  refine aw_top (x2 := nI 0) (Eq.trans (congrFun (upd2_ne (by decide)) (40)) (Eq.trans (congrFun (upd2_ne (by decide)) (40)) (Eq.trans (congrFun (upd2_ne (by decide)) (40)) (Eq.trans (congrFun (upd2_ne (by decide)) (40)) (Eq.trans (congrFun (upd2_ne (by decide)) (40)) (Eq.trans (congrFun (upd2_ne (by decide)) (40)) (Eq.trans (congrFun (upd2_ne (by decide)) (40)) (Eq.trans (congrFun (upd2_ne (by decide)) (40)) (Eq.trans (congrFun (upd2_ne (by decide)) (40)) (Eq.trans (congrFun (upd2_ne (by decide)) (40)) (Eq.trans (congrFun (upd2_ne (by decide)) (40)) (Eq.trans (congrFun (upd2_ne (by decide)) (40)) (Eq.trans (congrFun (upd2_ne (by decide)) (40)) (upd2_eq)))))))))))))) ?_
  refine aw_iload_n rfl rfl d_X_reckons_27 ?_
  refine aw_iload_n rfl rfl d_X_reckons_28 ?_
  refine as_callS (as := [.int (nI 0), .int (nI 3), .int (nI 1)]) (d' := 4) mo_X_spot lk_X_353 rfl ⟨by decide, by decide⟩ rfl rfl (by decide) d_X_reckons_29 (Ss.of (show As l b 4 y_X_spot KM RM _ (upd2 (upd2 (upd2 (upd2 (upd2 (upd2 (upd2 (upd2 (upd2 (upd2 (upd2 (upd2 (upd2 (upd2 I 0 40 (nI 0)) 17 (0) (nI 0)) 17 (1) ((-99 : Int32))) 17 (2) (nI 0)) 17 (3) (nI 0)) 17 (4) (nI 0)) 17 (5) ((-99 : Int32))) 17 (6) (nI 0)) 17 (7) (nI 0)) 17 (8) (nI 0)) 17 (9) ((-99 : Int32))) 17 (10) (nI 0)) 17 (11) (nI 0)) 17 (12) (nI 0)) 0 [.int (nI 0), .int (nI 3), .int (nI 1)] [] from ?_))
  refine aw_bipush (v := nI 36) cb_36 d_X_spot_0 ?_
  refine aw_iload_n rfl rfl d_X_spot_2 ?_
  refine aw_imul d_X_spot_3 ?_
  refine aw_top (x2 := nI 0) (by decide +kernel) ?_
  refine aw_iconst (v := nI 4) ci_4 d_X_spot_4 ?_
  refine aw_iload_n rfl rfl d_X_spot_5 ?_
  refine aw_imul d_X_spot_6 ?_
  refine aw_top (x2 := nI 12) (by decide +kernel) ?_
  refine aw_iadd d_X_spot_7 ?_
  refine aw_top (x2 := nI 12) (by decide +kernel) ?_
  refine aw_iload_n rfl rfl d_X_spot_8 ?_
  refine aw_iadd d_X_spot_9 ?_
  refine aw_top (x2 := nI 13) (by decide +kernel) ?_
  refine as_reti rfl d_X_spot_10 ?_
  refine (show As l b 5 y_X_reckons KM RM K2 (upd2 (upd2 (upd2 (upd2 (upd2 (upd2 (upd2 (upd2 (upd2 (upd2 (upd2 (upd2 (upd2 (upd2 I 0 40 (nI 0)) 17 (0) (nI 0)) 17 (1) ((-99 : Int32))) 17 (2) (nI 0)) 17 (3) (nI 0)) 17 (4) (nI 0)) 17 (5) ((-99 : Int32))) 17 (6) (nI 0)) 17 (7) (nI 0)) 17 (8) (nI 0)) 17 (9) ((-99 : Int32))) 17 (10) (nI 0)) 17 (11) (nI 0)) 17 (12) (nI 0)) 32 [.ref 0, .int (nI 3), .int (nI 1), uu, uu, uu] [.int (nI 13), .ref 17] from ?_)
  refine aw_iload_n rfl rfl d_X_reckons_32 ?_
  refine aw_iconst (v := nI 1) ci_1 d_X_reckons_33 ?_
  refine aw_icmp_neI (tgt := 42) (1) (1) (by decide +kernel) (by decide +kernel) (by decide) d_X_reckons_34 (fun q => absurd q (by decide)) (fun _ => ?_)
  refine aw_bipush (v := (-99 : Int32)) rfl d_X_reckons_37 ?_
  refine aw_goto (tgt := 43) (by decide) d_X_reckons_39 ?_
  refine aw_iast (j := 13) km_17 (vp_in_nI (by decide) (by decide)) (nI_clamp (by decide)) d_X_reckons_43 ?_
  refine aw_iinc (v := nI 2) (lv2 := [.ref 0, .int (nI 3), .int (nI 2), uu, uu, uu]) rfl (by decide +kernel) (by decide) rfl d_X_reckons_44 ?_
  refine aw_goto (tgt := 14) (by decide) d_X_reckons_47 ?_
  refine aw_iload_n rfl rfl d_X_reckons_14 ?_
  refine aw_iconst (v := nI 4) ci_4 d_X_reckons_15 ?_
  refine aw_icmp_geI (tgt := 50) (2) (4) (by decide +kernel) (by decide +kernel) (by decide) d_X_reckons_16 (fun q => absurd q (by decide)) (fun _ => ?_)
  refine aw_aload_n rfl rfl d_X_reckons_19 ?_
  refine aw_getr fl_X_69 km_0 (by decide) rfl rm_0_39 d_X_reckons_20 ?_
  refine aw_aload_n rfl rfl d_X_reckons_23 ?_
  refine aw_geti fl_X_347 km_0 (by decide) rfl d_X_reckons_24 ?_
  refine aw_top (x2 := nI 0) (Eq.trans (congrFun (upd2_ne (by decide)) (40)) (Eq.trans (congrFun (upd2_ne (by decide)) (40)) (Eq.trans (congrFun (upd2_ne (by decide)) (40)) (Eq.trans (congrFun (upd2_ne (by decide)) (40)) (Eq.trans (congrFun (upd2_ne (by decide)) (40)) (Eq.trans (congrFun (upd2_ne (by decide)) (40)) (Eq.trans (congrFun (upd2_ne (by decide)) (40)) (Eq.trans (congrFun (upd2_ne (by decide)) (40)) (Eq.trans (congrFun (upd2_ne (by decide)) (40)) (Eq.trans (congrFun (upd2_ne (by decide)) (40)) (Eq.trans (congrFun (upd2_ne (by decide)) (40)) (Eq.trans (congrFun (upd2_ne (by decide)) (40)) (Eq.trans (congrFun (upd2_ne (by decide)) (40)) (Eq.trans (congrFun (upd2_ne (by decide)) (40)) (upd2_eq))))))))))))))) ?_
  refine aw_iload_n rfl rfl d_X_reckons_27 ?_
  refine aw_iload_n rfl rfl d_X_reckons_28 ?_
  refine as_callS (as := [.int (nI 0), .int (nI 3), .int (nI 2)]) (d' := 4) mo_X_spot lk_X_353 rfl ⟨by decide, by decide⟩ rfl rfl (by decide) d_X_reckons_29 (Ss.of (show As l b 4 y_X_spot KM RM _ (upd2 (upd2 (upd2 (upd2 (upd2 (upd2 (upd2 (upd2 (upd2 (upd2 (upd2 (upd2 (upd2 (upd2 (upd2 I 0 40 (nI 0)) 17 (0) (nI 0)) 17 (1) ((-99 : Int32))) 17 (2) (nI 0)) 17 (3) (nI 0)) 17 (4) (nI 0)) 17 (5) ((-99 : Int32))) 17 (6) (nI 0)) 17 (7) (nI 0)) 17 (8) (nI 0)) 17 (9) ((-99 : Int32))) 17 (10) (nI 0)) 17 (11) (nI 0)) 17 (12) (nI 0)) 17 (13) ((-99 : Int32))) 0 [.int (nI 0), .int (nI 3), .int (nI 2)] [] from ?_))
  refine aw_bipush (v := nI 36) cb_36 d_X_spot_0 ?_
  refine aw_iload_n rfl rfl d_X_spot_2 ?_
  refine aw_imul d_X_spot_3 ?_
  refine aw_top (x2 := nI 0) (by decide +kernel) ?_
  refine aw_iconst (v := nI 4) ci_4 d_X_spot_4 ?_
  refine aw_iload_n rfl rfl d_X_spot_5 ?_
  refine aw_imul d_X_spot_6 ?_
  refine aw_top (x2 := nI 12) (by decide +kernel) ?_
  refine aw_iadd d_X_spot_7 ?_
  refine aw_top (x2 := nI 12) (by decide +kernel) ?_
  refine aw_iload_n rfl rfl d_X_spot_8 ?_
  refine aw_iadd d_X_spot_9 ?_
  refine aw_top (x2 := nI 14) (by decide +kernel) ?_
  refine as_reti rfl d_X_spot_10 ?_
  refine (show As l b 5 y_X_reckons KM RM K2 (upd2 (upd2 (upd2 (upd2 (upd2 (upd2 (upd2 (upd2 (upd2 (upd2 (upd2 (upd2 (upd2 (upd2 (upd2 I 0 40 (nI 0)) 17 (0) (nI 0)) 17 (1) ((-99 : Int32))) 17 (2) (nI 0)) 17 (3) (nI 0)) 17 (4) (nI 0)) 17 (5) ((-99 : Int32))) 17 (6) (nI 0)) 17 (7) (nI 0)) 17 (8) (nI 0)) 17 (9) ((-99 : Int32))) 17 (10) (nI 0)) 17 (11) (nI 0)) 17 (12) (nI 0)) 17 (13) ((-99 : Int32))) 32 [.ref 0, .int (nI 3), .int (nI 2), uu, uu, uu] [.int (nI 14), .ref 17] from ?_)
  refine aw_iload_n rfl rfl d_X_reckons_32 ?_
  refine aw_iconst (v := nI 1) ci_1 d_X_reckons_33 ?_
  refine aw_icmp_neI (tgt := 42) (2) (1) (by decide +kernel) (by decide +kernel) (by decide) d_X_reckons_34 (fun _ => ?_) (fun q => absurd q (by decide))
  refine aw_iconst (v := nI 0) ci_0 d_X_reckons_42 ?_
  refine aw_iast (j := 14) km_17 (vp_in_nI (by decide) (by decide)) (nI_clamp (by decide)) d_X_reckons_43 ?_
  refine aw_iinc (v := nI 3) (lv2 := [.ref 0, .int (nI 3), .int (nI 3), uu, uu, uu]) rfl (by decide +kernel) (by decide) rfl d_X_reckons_44 ?_
  refine aw_goto (tgt := 14) (by decide) d_X_reckons_47 ?_
  refine aw_iload_n rfl rfl d_X_reckons_14 ?_
  refine aw_iconst (v := nI 4) ci_4 d_X_reckons_15 ?_
  refine aw_icmp_geI (tgt := 50) (3) (4) (by decide +kernel) (by decide +kernel) (by decide) d_X_reckons_16 (fun q => absurd q (by decide)) (fun _ => ?_)
  refine aw_aload_n rfl rfl d_X_reckons_19 ?_
  refine aw_getr fl_X_69 km_0 (by decide) rfl rm_0_39 d_X_reckons_20 ?_
  refine aw_aload_n rfl rfl d_X_reckons_23 ?_
  refine aw_geti fl_X_347 km_0 (by decide) rfl d_X_reckons_24 ?_
  refine aw_top (x2 := nI 0) (Eq.trans (congrFun (upd2_ne (by decide)) (40)) (Eq.trans (congrFun (upd2_ne (by decide)) (40)) (Eq.trans (congrFun (upd2_ne (by decide)) (40)) (Eq.trans (congrFun (upd2_ne (by decide)) (40)) (Eq.trans (congrFun (upd2_ne (by decide)) (40)) (Eq.trans (congrFun (upd2_ne (by decide)) (40)) (Eq.trans (congrFun (upd2_ne (by decide)) (40)) (Eq.trans (congrFun (upd2_ne (by decide)) (40)) (Eq.trans (congrFun (upd2_ne (by decide)) (40)) (Eq.trans (congrFun (upd2_ne (by decide)) (40)) (Eq.trans (congrFun (upd2_ne (by decide)) (40)) (Eq.trans (congrFun (upd2_ne (by decide)) (40)) (Eq.trans (congrFun (upd2_ne (by decide)) (40)) (Eq.trans (congrFun (upd2_ne (by decide)) (40)) (Eq.trans (congrFun (upd2_ne (by decide)) (40)) (upd2_eq)))))))))))))))) ?_
  refine aw_iload_n rfl rfl d_X_reckons_27 ?_
  refine aw_iload_n rfl rfl d_X_reckons_28 ?_
  refine as_callS (as := [.int (nI 0), .int (nI 3), .int (nI 3)]) (d' := 4) mo_X_spot lk_X_353 rfl ⟨by decide, by decide⟩ rfl rfl (by decide) d_X_reckons_29 (Ss.of (show As l b 4 y_X_spot KM RM _ (upd2 (upd2 (upd2 (upd2 (upd2 (upd2 (upd2 (upd2 (upd2 (upd2 (upd2 (upd2 (upd2 (upd2 (upd2 (upd2 I 0 40 (nI 0)) 17 (0) (nI 0)) 17 (1) ((-99 : Int32))) 17 (2) (nI 0)) 17 (3) (nI 0)) 17 (4) (nI 0)) 17 (5) ((-99 : Int32))) 17 (6) (nI 0)) 17 (7) (nI 0)) 17 (8) (nI 0)) 17 (9) ((-99 : Int32))) 17 (10) (nI 0)) 17 (11) (nI 0)) 17 (12) (nI 0)) 17 (13) ((-99 : Int32))) 17 (14) (nI 0)) 0 [.int (nI 0), .int (nI 3), .int (nI 3)] [] from ?_))
  refine aw_bipush (v := nI 36) cb_36 d_X_spot_0 ?_
  refine aw_iload_n rfl rfl d_X_spot_2 ?_
  refine aw_imul d_X_spot_3 ?_
  refine aw_top (x2 := nI 0) (by decide +kernel) ?_
  refine aw_iconst (v := nI 4) ci_4 d_X_spot_4 ?_
  refine aw_iload_n rfl rfl d_X_spot_5 ?_
  refine aw_imul d_X_spot_6 ?_
  refine aw_top (x2 := nI 12) (by decide +kernel) ?_
  refine aw_iadd d_X_spot_7 ?_
  refine aw_top (x2 := nI 12) (by decide +kernel) ?_
  refine aw_iload_n rfl rfl d_X_spot_8 ?_
  refine aw_iadd d_X_spot_9 ?_
  refine aw_top (x2 := nI 15) (by decide +kernel) ?_
  refine as_reti rfl d_X_spot_10 ?_
  refine (show As l b 5 y_X_reckons KM RM K2 (upd2 (upd2 (upd2 (upd2 (upd2 (upd2 (upd2 (upd2 (upd2 (upd2 (upd2 (upd2 (upd2 (upd2 (upd2 (upd2 I 0 40 (nI 0)) 17 (0) (nI 0)) 17 (1) ((-99 : Int32))) 17 (2) (nI 0)) 17 (3) (nI 0)) 17 (4) (nI 0)) 17 (5) ((-99 : Int32))) 17 (6) (nI 0)) 17 (7) (nI 0)) 17 (8) (nI 0)) 17 (9) ((-99 : Int32))) 17 (10) (nI 0)) 17 (11) (nI 0)) 17 (12) (nI 0)) 17 (13) ((-99 : Int32))) 17 (14) (nI 0)) 32 [.ref 0, .int (nI 3), .int (nI 3), uu, uu, uu] [.int (nI 15), .ref 17] from ?_)
  refine aw_iload_n rfl rfl d_X_reckons_32 ?_
  refine aw_iconst (v := nI 1) ci_1 d_X_reckons_33 ?_
  refine aw_icmp_neI (tgt := 42) (3) (1) (by decide +kernel) (by decide +kernel) (by decide) d_X_reckons_34 (fun _ => ?_) (fun q => absurd q (by decide))
  refine aw_iconst (v := nI 0) ci_0 d_X_reckons_42 ?_
  refine aw_iast (j := 15) km_17 (vp_in_nI (by decide) (by decide)) (nI_clamp (by decide)) d_X_reckons_43 ?_
  refine aw_iinc (v := nI 4) (lv2 := [.ref 0, .int (nI 3), .int (nI 4), uu, uu, uu]) rfl (by decide +kernel) (by decide) rfl d_X_reckons_44 ?_
  refine aw_goto (tgt := 14) (by decide) d_X_reckons_47 ?_
  refine aw_iload_n rfl rfl d_X_reckons_14 ?_
  refine aw_iconst (v := nI 4) ci_4 d_X_reckons_15 ?_
  refine aw_icmp_geI (tgt := 50) (4) (4) (by decide +kernel) (by decide +kernel) (by decide) d_X_reckons_16 (fun _ => ?_) (fun q => absurd q (by decide))
  refine aw_iinc (v := nI 4) (lv2 := [.ref 0, .int (nI 4), .int (nI 4), uu, uu, uu]) rfl (by decide +kernel) (by decide) rfl d_X_reckons_50 ?_
  refine aw_goto (tgt := 6) (by decide) d_X_reckons_53 ?_
  refine aw_iload_n rfl rfl d_X_reckons_6 ?_
  refine aw_bipush (v := nI 9) cb_9 d_X_reckons_7 ?_
  refine aw_icmp_geI (tgt := 56) (4) (9) (by decide +kernel) (by decide +kernel) (by decide) d_X_reckons_9 (fun q => absurd q (by decide)) (fun _ => ?_)
  refine aw_iconst (v := nI 0) ci_0 d_X_reckons_12 ?_
  refine aw_istore_n (lv2 := [.ref 0, .int (nI 4), .int (nI 0), uu, uu, uu]) rfl (by decide) rfl d_X_reckons_13 ?_
  refine aw_iload_n rfl rfl d_X_reckons_14 ?_
  refine aw_iconst (v := nI 4) ci_4 d_X_reckons_15 ?_
  refine aw_icmp_geI (tgt := 50) (0) (4) (by decide +kernel) (by decide +kernel) (by decide) d_X_reckons_16 (fun q => absurd q (by decide)) (fun _ => ?_)
  refine aw_aload_n rfl rfl d_X_reckons_19 ?_
  refine aw_getr fl_X_69 km_0 (by decide) rfl rm_0_39 d_X_reckons_20 ?_
  refine aw_aload_n rfl rfl d_X_reckons_23 ?_
  refine aw_geti fl_X_347 km_0 (by decide) rfl d_X_reckons_24 ?_
  refine aw_top (x2 := nI 0) (Eq.trans (congrFun (upd2_ne (by decide)) (40)) (Eq.trans (congrFun (upd2_ne (by decide)) (40)) (Eq.trans (congrFun (upd2_ne (by decide)) (40)) (Eq.trans (congrFun (upd2_ne (by decide)) (40)) (Eq.trans (congrFun (upd2_ne (by decide)) (40)) (Eq.trans (congrFun (upd2_ne (by decide)) (40)) (Eq.trans (congrFun (upd2_ne (by decide)) (40)) (Eq.trans (congrFun (upd2_ne (by decide)) (40)) (Eq.trans (congrFun (upd2_ne (by decide)) (40)) (Eq.trans (congrFun (upd2_ne (by decide)) (40)) (Eq.trans (congrFun (upd2_ne (by decide)) (40)) (Eq.trans (congrFun (upd2_ne (by decide)) (40)) (Eq.trans (congrFun (upd2_ne (by decide)) (40)) (Eq.trans (congrFun (upd2_ne (by decide)) (40)) (Eq.trans (congrFun (upd2_ne (by decide)) (40)) (Eq.trans (congrFun (upd2_ne (by decide)) (40)) (upd2_eq))))))))))))))))) ?_
  refine aw_iload_n rfl rfl d_X_reckons_27 ?_
  refine aw_iload_n rfl rfl d_X_reckons_28 ?_
  refine as_callS (as := [.int (nI 0), .int (nI 4), .int (nI 0)]) (d' := 4) mo_X_spot lk_X_353 rfl ⟨by decide, by decide⟩ rfl rfl (by decide) d_X_reckons_29 (Ss.of (show As l b 4 y_X_spot KM RM _ (upd2 (upd2 (upd2 (upd2 (upd2 (upd2 (upd2 (upd2 (upd2 (upd2 (upd2 (upd2 (upd2 (upd2 (upd2 (upd2 (upd2 I 0 40 (nI 0)) 17 (0) (nI 0)) 17 (1) ((-99 : Int32))) 17 (2) (nI 0)) 17 (3) (nI 0)) 17 (4) (nI 0)) 17 (5) ((-99 : Int32))) 17 (6) (nI 0)) 17 (7) (nI 0)) 17 (8) (nI 0)) 17 (9) ((-99 : Int32))) 17 (10) (nI 0)) 17 (11) (nI 0)) 17 (12) (nI 0)) 17 (13) ((-99 : Int32))) 17 (14) (nI 0)) 17 (15) (nI 0)) 0 [.int (nI 0), .int (nI 4), .int (nI 0)] [] from ?_))
  refine aw_bipush (v := nI 36) cb_36 d_X_spot_0 ?_
  refine aw_iload_n rfl rfl d_X_spot_2 ?_
  refine aw_imul d_X_spot_3 ?_
  refine aw_top (x2 := nI 0) (by decide +kernel) ?_
  refine aw_iconst (v := nI 4) ci_4 d_X_spot_4 ?_
  refine aw_iload_n rfl rfl d_X_spot_5 ?_
  refine aw_imul d_X_spot_6 ?_
  refine aw_top (x2 := nI 16) (by decide +kernel) ?_
  refine aw_iadd d_X_spot_7 ?_
  refine aw_top (x2 := nI 16) (by decide +kernel) ?_
  refine aw_iload_n rfl rfl d_X_spot_8 ?_
  refine aw_iadd d_X_spot_9 ?_
  refine aw_top (x2 := nI 16) (by decide +kernel) ?_
  refine as_reti rfl d_X_spot_10 ?_
  refine (show As l b 5 y_X_reckons KM RM K2 (upd2 (upd2 (upd2 (upd2 (upd2 (upd2 (upd2 (upd2 (upd2 (upd2 (upd2 (upd2 (upd2 (upd2 (upd2 (upd2 (upd2 I 0 40 (nI 0)) 17 (0) (nI 0)) 17 (1) ((-99 : Int32))) 17 (2) (nI 0)) 17 (3) (nI 0)) 17 (4) (nI 0)) 17 (5) ((-99 : Int32))) 17 (6) (nI 0)) 17 (7) (nI 0)) 17 (8) (nI 0)) 17 (9) ((-99 : Int32))) 17 (10) (nI 0)) 17 (11) (nI 0)) 17 (12) (nI 0)) 17 (13) ((-99 : Int32))) 17 (14) (nI 0)) 17 (15) (nI 0)) 32 [.ref 0, .int (nI 4), .int (nI 0), uu, uu, uu] [.int (nI 16), .ref 17] from ?_)
  refine aw_iload_n rfl rfl d_X_reckons_32 ?_
  refine aw_iconst (v := nI 1) ci_1 d_X_reckons_33 ?_
  refine aw_icmp_neI (tgt := 42) (0) (1) (by decide +kernel) (by decide +kernel) (by decide) d_X_reckons_34 (fun _ => ?_) (fun q => absurd q (by decide))
  refine aw_iconst (v := nI 0) ci_0 d_X_reckons_42 ?_
  refine aw_iast (j := 16) km_17 (vp_in_nI (by decide) (by decide)) (nI_clamp (by decide)) d_X_reckons_43 ?_
  refine aw_iinc (v := nI 1) (lv2 := [.ref 0, .int (nI 4), .int (nI 1), uu, uu, uu]) rfl (by decide +kernel) (by decide) rfl d_X_reckons_44 ?_
  refine aw_goto (tgt := 14) (by decide) d_X_reckons_47 ?_
  refine aw_iload_n rfl rfl d_X_reckons_14 ?_
  refine aw_iconst (v := nI 4) ci_4 d_X_reckons_15 ?_
  refine aw_icmp_geI (tgt := 50) (1) (4) (by decide +kernel) (by decide +kernel) (by decide) d_X_reckons_16 (fun q => absurd q (by decide)) (fun _ => ?_)
  refine aw_aload_n rfl rfl d_X_reckons_19 ?_
  refine aw_getr fl_X_69 km_0 (by decide) rfl rm_0_39 d_X_reckons_20 ?_
  refine aw_aload_n rfl rfl d_X_reckons_23 ?_
  refine aw_geti fl_X_347 km_0 (by decide) rfl d_X_reckons_24 ?_
  refine aw_top (x2 := nI 0) (Eq.trans (congrFun (upd2_ne (by decide)) (40)) (Eq.trans (congrFun (upd2_ne (by decide)) (40)) (Eq.trans (congrFun (upd2_ne (by decide)) (40)) (Eq.trans (congrFun (upd2_ne (by decide)) (40)) (Eq.trans (congrFun (upd2_ne (by decide)) (40)) (Eq.trans (congrFun (upd2_ne (by decide)) (40)) (Eq.trans (congrFun (upd2_ne (by decide)) (40)) (Eq.trans (congrFun (upd2_ne (by decide)) (40)) (Eq.trans (congrFun (upd2_ne (by decide)) (40)) (Eq.trans (congrFun (upd2_ne (by decide)) (40)) (Eq.trans (congrFun (upd2_ne (by decide)) (40)) (Eq.trans (congrFun (upd2_ne (by decide)) (40)) (Eq.trans (congrFun (upd2_ne (by decide)) (40)) (Eq.trans (congrFun (upd2_ne (by decide)) (40)) (Eq.trans (congrFun (upd2_ne (by decide)) (40)) (Eq.trans (congrFun (upd2_ne (by decide)) (40)) (Eq.trans (congrFun (upd2_ne (by decide)) (40)) (upd2_eq)))))))))))))))))) ?_
  refine aw_iload_n rfl rfl d_X_reckons_27 ?_
  refine aw_iload_n rfl rfl d_X_reckons_28 ?_
  refine as_callS (as := [.int (nI 0), .int (nI 4), .int (nI 1)]) (d' := 4) mo_X_spot lk_X_353 rfl ⟨by decide, by decide⟩ rfl rfl (by decide) d_X_reckons_29 (Ss.of (show As l b 4 y_X_spot KM RM _ (upd2 (upd2 (upd2 (upd2 (upd2 (upd2 (upd2 (upd2 (upd2 (upd2 (upd2 (upd2 (upd2 (upd2 (upd2 (upd2 (upd2 (upd2 I 0 40 (nI 0)) 17 (0) (nI 0)) 17 (1) ((-99 : Int32))) 17 (2) (nI 0)) 17 (3) (nI 0)) 17 (4) (nI 0)) 17 (5) ((-99 : Int32))) 17 (6) (nI 0)) 17 (7) (nI 0)) 17 (8) (nI 0)) 17 (9) ((-99 : Int32))) 17 (10) (nI 0)) 17 (11) (nI 0)) 17 (12) (nI 0)) 17 (13) ((-99 : Int32))) 17 (14) (nI 0)) 17 (15) (nI 0)) 17 (16) (nI 0)) 0 [.int (nI 0), .int (nI 4), .int (nI 1)] [] from ?_))
  refine aw_bipush (v := nI 36) cb_36 d_X_spot_0 ?_
  refine aw_iload_n rfl rfl d_X_spot_2 ?_
  refine aw_imul d_X_spot_3 ?_
  refine aw_top (x2 := nI 0) (by decide +kernel) ?_
  refine aw_iconst (v := nI 4) ci_4 d_X_spot_4 ?_
  refine aw_iload_n rfl rfl d_X_spot_5 ?_
  refine aw_imul d_X_spot_6 ?_
  refine aw_top (x2 := nI 16) (by decide +kernel) ?_
  refine aw_iadd d_X_spot_7 ?_
  refine aw_top (x2 := nI 16) (by decide +kernel) ?_
  refine aw_iload_n rfl rfl d_X_spot_8 ?_
  refine aw_iadd d_X_spot_9 ?_
  refine aw_top (x2 := nI 17) (by decide +kernel) ?_
  refine as_reti rfl d_X_spot_10 ?_
  refine (show As l b 5 y_X_reckons KM RM K2 (upd2 (upd2 (upd2 (upd2 (upd2 (upd2 (upd2 (upd2 (upd2 (upd2 (upd2 (upd2 (upd2 (upd2 (upd2 (upd2 (upd2 (upd2 I 0 40 (nI 0)) 17 (0) (nI 0)) 17 (1) ((-99 : Int32))) 17 (2) (nI 0)) 17 (3) (nI 0)) 17 (4) (nI 0)) 17 (5) ((-99 : Int32))) 17 (6) (nI 0)) 17 (7) (nI 0)) 17 (8) (nI 0)) 17 (9) ((-99 : Int32))) 17 (10) (nI 0)) 17 (11) (nI 0)) 17 (12) (nI 0)) 17 (13) ((-99 : Int32))) 17 (14) (nI 0)) 17 (15) (nI 0)) 17 (16) (nI 0)) 32 [.ref 0, .int (nI 4), .int (nI 1), uu, uu, uu] [.int (nI 17), .ref 17] from ?_)
  refine aw_iload_n rfl rfl d_X_reckons_32 ?_
  refine aw_iconst (v := nI 1) ci_1 d_X_reckons_33 ?_
  refine aw_icmp_neI (tgt := 42) (1) (1) (by decide +kernel) (by decide +kernel) (by decide) d_X_reckons_34 (fun q => absurd q (by decide)) (fun _ => ?_)
  refine aw_bipush (v := (-99 : Int32)) rfl d_X_reckons_37 ?_
  refine aw_goto (tgt := 43) (by decide) d_X_reckons_39 ?_
  refine aw_iast (j := 17) km_17 (vp_in_nI (by decide) (by decide)) (nI_clamp (by decide)) d_X_reckons_43 ?_
  refine aw_iinc (v := nI 2) (lv2 := [.ref 0, .int (nI 4), .int (nI 2), uu, uu, uu]) rfl (by decide +kernel) (by decide) rfl d_X_reckons_44 ?_
  refine aw_goto (tgt := 14) (by decide) d_X_reckons_47 ?_
  refine aw_iload_n rfl rfl d_X_reckons_14 ?_
  refine aw_iconst (v := nI 4) ci_4 d_X_reckons_15 ?_
  refine aw_icmp_geI (tgt := 50) (2) (4) (by decide +kernel) (by decide +kernel) (by decide) d_X_reckons_16 (fun q => absurd q (by decide)) (fun _ => ?_)
  refine aw_aload_n rfl rfl d_X_reckons_19 ?_
  refine aw_getr fl_X_69 km_0 (by decide) rfl rm_0_39 d_X_reckons_20 ?_
  refine aw_aload_n rfl rfl d_X_reckons_23 ?_
  refine aw_geti fl_X_347 km_0 (by decide) rfl d_X_reckons_24 ?_
  refine aw_top (x2 := nI 0) (Eq.trans (congrFun (upd2_ne (by decide)) (40)) (Eq.trans (congrFun (upd2_ne (by decide)) (40)) (Eq.trans (congrFun (upd2_ne (by decide)) (40)) (Eq.trans (congrFun (upd2_ne (by decide)) (40)) (Eq.trans (congrFun (upd2_ne (by decide)) (40)) (Eq.trans (congrFun (upd2_ne (by decide)) (40)) (Eq.trans (congrFun (upd2_ne (by decide)) (40)) (Eq.trans (congrFun (upd2_ne (by decide)) (40)) (Eq.trans (congrFun (upd2_ne (by decide)) (40)) (Eq.trans (congrFun (upd2_ne (by decide)) (40)) (Eq.trans (congrFun (upd2_ne (by decide)) (40)) (Eq.trans (congrFun (upd2_ne (by decide)) (40)) (Eq.trans (congrFun (upd2_ne (by decide)) (40)) (Eq.trans (congrFun (upd2_ne (by decide)) (40)) (Eq.trans (congrFun (upd2_ne (by decide)) (40)) (Eq.trans (congrFun (upd2_ne (by decide)) (40)) (Eq.trans (congrFun (upd2_ne (by decide)) (40)) (Eq.trans (congrFun (upd2_ne (by decide)) (40)) (upd2_eq))))))))))))))))))) ?_
  refine aw_iload_n rfl rfl d_X_reckons_27 ?_
  refine aw_iload_n rfl rfl d_X_reckons_28 ?_
  refine as_callS (as := [.int (nI 0), .int (nI 4), .int (nI 2)]) (d' := 4) mo_X_spot lk_X_353 rfl ⟨by decide, by decide⟩ rfl rfl (by decide) d_X_reckons_29 (Ss.of (show As l b 4 y_X_spot KM RM _ (upd2 (upd2 (upd2 (upd2 (upd2 (upd2 (upd2 (upd2 (upd2 (upd2 (upd2 (upd2 (upd2 (upd2 (upd2 (upd2 (upd2 (upd2 (upd2 I 0 40 (nI 0)) 17 (0) (nI 0)) 17 (1) ((-99 : Int32))) 17 (2) (nI 0)) 17 (3) (nI 0)) 17 (4) (nI 0)) 17 (5) ((-99 : Int32))) 17 (6) (nI 0)) 17 (7) (nI 0)) 17 (8) (nI 0)) 17 (9) ((-99 : Int32))) 17 (10) (nI 0)) 17 (11) (nI 0)) 17 (12) (nI 0)) 17 (13) ((-99 : Int32))) 17 (14) (nI 0)) 17 (15) (nI 0)) 17 (16) (nI 0)) 17 (17) ((-99 : Int32))) 0 [.int (nI 0), .int (nI 4), .int (nI 2)] [] from ?_))
  refine aw_bipush (v := nI 36) cb_36 d_X_spot_0 ?_
  refine aw_iload_n rfl rfl d_X_spot_2 ?_
  refine aw_imul d_X_spot_3 ?_
  refine aw_top (x2 := nI 0) (by decide +kernel) ?_
  refine aw_iconst (v := nI 4) ci_4 d_X_spot_4 ?_
  refine aw_iload_n rfl rfl d_X_spot_5 ?_
  refine aw_imul d_X_spot_6 ?_
  refine aw_top (x2 := nI 16) (by decide +kernel) ?_
  refine aw_iadd d_X_spot_7 ?_
  refine aw_top (x2 := nI 16) (by decide +kernel) ?_
  refine aw_iload_n rfl rfl d_X_spot_8 ?_
  refine aw_iadd d_X_spot_9 ?_
  refine aw_top (x2 := nI 18) (by decide +kernel) ?_
  refine as_reti rfl d_X_spot_10 ?_
  refine (show As l b 5 y_X_reckons KM RM K2 (upd2 (upd2 (upd2 (upd2 (upd2 (upd2 (upd2 (upd2 (upd2 (upd2 (upd2 (upd2 (upd2 (upd2 (upd2 (upd2 (upd2 (upd2 (upd2 I 0 40 (nI 0)) 17 (0) (nI 0)) 17 (1) ((-99 : Int32))) 17 (2) (nI 0)) 17 (3) (nI 0)) 17 (4) (nI 0)) 17 (5) ((-99 : Int32))) 17 (6) (nI 0)) 17 (7) (nI 0)) 17 (8) (nI 0)) 17 (9) ((-99 : Int32))) 17 (10) (nI 0)) 17 (11) (nI 0)) 17 (12) (nI 0)) 17 (13) ((-99 : Int32))) 17 (14) (nI 0)) 17 (15) (nI 0)) 17 (16) (nI 0)) 17 (17) ((-99 : Int32))) 32 [.ref 0, .int (nI 4), .int (nI 2), uu, uu, uu] [.int (nI 18), .ref 17] from ?_)
  refine aw_iload_n rfl rfl d_X_reckons_32 ?_
  refine aw_iconst (v := nI 1) ci_1 d_X_reckons_33 ?_
  refine aw_icmp_neI (tgt := 42) (2) (1) (by decide +kernel) (by decide +kernel) (by decide) d_X_reckons_34 (fun _ => ?_) (fun q => absurd q (by decide))
  refine aw_iconst (v := nI 0) ci_0 d_X_reckons_42 ?_
  refine aw_iast (j := 18) km_17 (vp_in_nI (by decide) (by decide)) (nI_clamp (by decide)) d_X_reckons_43 ?_
  refine aw_iinc (v := nI 3) (lv2 := [.ref 0, .int (nI 4), .int (nI 3), uu, uu, uu]) rfl (by decide +kernel) (by decide) rfl d_X_reckons_44 ?_
  refine aw_goto (tgt := 14) (by decide) d_X_reckons_47 ?_
  refine aw_iload_n rfl rfl d_X_reckons_14 ?_
  refine aw_iconst (v := nI 4) ci_4 d_X_reckons_15 ?_
  refine aw_icmp_geI (tgt := 50) (3) (4) (by decide +kernel) (by decide +kernel) (by decide) d_X_reckons_16 (fun q => absurd q (by decide)) (fun _ => ?_)
  refine aw_aload_n rfl rfl d_X_reckons_19 ?_
  refine aw_getr fl_X_69 km_0 (by decide) rfl rm_0_39 d_X_reckons_20 ?_
  refine aw_aload_n rfl rfl d_X_reckons_23 ?_
  refine aw_geti fl_X_347 km_0 (by decide) rfl d_X_reckons_24 ?_
  refine aw_top (x2 := nI 0) (Eq.trans (congrFun (upd2_ne (by decide)) (40)) (Eq.trans (congrFun (upd2_ne (by decide)) (40)) (Eq.trans (congrFun (upd2_ne (by decide)) (40)) (Eq.trans (congrFun (upd2_ne (by decide)) (40)) (Eq.trans (congrFun (upd2_ne (by decide)) (40)) (Eq.trans (congrFun (upd2_ne (by decide)) (40)) (Eq.trans (congrFun (upd2_ne (by decide)) (40)) (Eq.trans (congrFun (upd2_ne (by decide)) (40)) (Eq.trans (congrFun (upd2_ne (by decide)) (40)) (Eq.trans (congrFun (upd2_ne (by decide)) (40)) (Eq.trans (congrFun (upd2_ne (by decide)) (40)) (Eq.trans (congrFun (upd2_ne (by decide)) (40)) (Eq.trans (congrFun (upd2_ne (by decide)) (40)) (Eq.trans (congrFun (upd2_ne (by decide)) (40)) (Eq.trans (congrFun (upd2_ne (by decide)) (40)) (Eq.trans (congrFun (upd2_ne (by decide)) (40)) (Eq.trans (congrFun (upd2_ne (by decide)) (40)) (Eq.trans (congrFun (upd2_ne (by decide)) (40)) (Eq.trans (congrFun (upd2_ne (by decide)) (40)) (upd2_eq)))))))))))))))))))) ?_
  refine aw_iload_n rfl rfl d_X_reckons_27 ?_
  refine aw_iload_n rfl rfl d_X_reckons_28 ?_
  refine as_callS (as := [.int (nI 0), .int (nI 4), .int (nI 3)]) (d' := 4) mo_X_spot lk_X_353 rfl ⟨by decide, by decide⟩ rfl rfl (by decide) d_X_reckons_29 (Ss.of (show As l b 4 y_X_spot KM RM _ (upd2 (upd2 (upd2 (upd2 (upd2 (upd2 (upd2 (upd2 (upd2 (upd2 (upd2 (upd2 (upd2 (upd2 (upd2 (upd2 (upd2 (upd2 (upd2 (upd2 I 0 40 (nI 0)) 17 (0) (nI 0)) 17 (1) ((-99 : Int32))) 17 (2) (nI 0)) 17 (3) (nI 0)) 17 (4) (nI 0)) 17 (5) ((-99 : Int32))) 17 (6) (nI 0)) 17 (7) (nI 0)) 17 (8) (nI 0)) 17 (9) ((-99 : Int32))) 17 (10) (nI 0)) 17 (11) (nI 0)) 17 (12) (nI 0)) 17 (13) ((-99 : Int32))) 17 (14) (nI 0)) 17 (15) (nI 0)) 17 (16) (nI 0)) 17 (17) ((-99 : Int32))) 17 (18) (nI 0)) 0 [.int (nI 0), .int (nI 4), .int (nI 3)] [] from ?_))
  refine aw_bipush (v := nI 36) cb_36 d_X_spot_0 ?_
  refine aw_iload_n rfl rfl d_X_spot_2 ?_
  refine aw_imul d_X_spot_3 ?_
  refine aw_top (x2 := nI 0) (by decide +kernel) ?_
  refine aw_iconst (v := nI 4) ci_4 d_X_spot_4 ?_
  refine aw_iload_n rfl rfl d_X_spot_5 ?_
  refine aw_imul d_X_spot_6 ?_
  refine aw_top (x2 := nI 16) (by decide +kernel) ?_
  refine aw_iadd d_X_spot_7 ?_
  refine aw_top (x2 := nI 16) (by decide +kernel) ?_
  refine aw_iload_n rfl rfl d_X_spot_8 ?_
  refine aw_iadd d_X_spot_9 ?_
  refine aw_top (x2 := nI 19) (by decide +kernel) ?_
  refine as_reti rfl d_X_spot_10 ?_
  refine (show As l b 5 y_X_reckons KM RM K2 (upd2 (upd2 (upd2 (upd2 (upd2 (upd2 (upd2 (upd2 (upd2 (upd2 (upd2 (upd2 (upd2 (upd2 (upd2 (upd2 (upd2 (upd2 (upd2 (upd2 I 0 40 (nI 0)) 17 (0) (nI 0)) 17 (1) ((-99 : Int32))) 17 (2) (nI 0)) 17 (3) (nI 0)) 17 (4) (nI 0)) 17 (5) ((-99 : Int32))) 17 (6) (nI 0)) 17 (7) (nI 0)) 17 (8) (nI 0)) 17 (9) ((-99 : Int32))) 17 (10) (nI 0)) 17 (11) (nI 0)) 17 (12) (nI 0)) 17 (13) ((-99 : Int32))) 17 (14) (nI 0)) 17 (15) (nI 0)) 17 (16) (nI 0)) 17 (17) ((-99 : Int32))) 17 (18) (nI 0)) 32 [.ref 0, .int (nI 4), .int (nI 3), uu, uu, uu] [.int (nI 19), .ref 17] from ?_)
  refine aw_iload_n rfl rfl d_X_reckons_32 ?_
  refine aw_iconst (v := nI 1) ci_1 d_X_reckons_33 ?_
  refine aw_icmp_neI (tgt := 42) (3) (1) (by decide +kernel) (by decide +kernel) (by decide) d_X_reckons_34 (fun _ => ?_) (fun q => absurd q (by decide))
  refine aw_iconst (v := nI 0) ci_0 d_X_reckons_42 ?_
  refine aw_iast (j := 19) km_17 (vp_in_nI (by decide) (by decide)) (nI_clamp (by decide)) d_X_reckons_43 ?_
  refine aw_iinc (v := nI 4) (lv2 := [.ref 0, .int (nI 4), .int (nI 4), uu, uu, uu]) rfl (by decide +kernel) (by decide) rfl d_X_reckons_44 ?_
  refine aw_goto (tgt := 14) (by decide) d_X_reckons_47 ?_
  refine aw_iload_n rfl rfl d_X_reckons_14 ?_
  refine aw_iconst (v := nI 4) ci_4 d_X_reckons_15 ?_
  refine aw_icmp_geI (tgt := 50) (4) (4) (by decide +kernel) (by decide +kernel) (by decide) d_X_reckons_16 (fun _ => ?_) (fun q => absurd q (by decide))
  refine aw_iinc (v := nI 5) (lv2 := [.ref 0, .int (nI 5), .int (nI 4), uu, uu, uu]) rfl (by decide +kernel) (by decide) rfl d_X_reckons_50 ?_
  refine aw_goto (tgt := 6) (by decide) d_X_reckons_53 ?_
  refine aw_iload_n rfl rfl d_X_reckons_6 ?_
  refine aw_bipush (v := nI 9) cb_9 d_X_reckons_7 ?_
  refine aw_icmp_geI (tgt := 56) (5) (9) (by decide +kernel) (by decide +kernel) (by decide) d_X_reckons_9 (fun q => absurd q (by decide)) (fun _ => ?_)
  refine aw_iconst (v := nI 0) ci_0 d_X_reckons_12 ?_
  refine aw_istore_n (lv2 := [.ref 0, .int (nI 5), .int (nI 0), uu, uu, uu]) rfl (by decide) rfl d_X_reckons_13 ?_
  refine aw_iload_n rfl rfl d_X_reckons_14 ?_
  refine aw_iconst (v := nI 4) ci_4 d_X_reckons_15 ?_
  refine aw_icmp_geI (tgt := 50) (0) (4) (by decide +kernel) (by decide +kernel) (by decide) d_X_reckons_16 (fun q => absurd q (by decide)) (fun _ => ?_)
  refine aw_aload_n rfl rfl d_X_reckons_19 ?_
  refine aw_getr fl_X_69 km_0 (by decide) rfl rm_0_39 d_X_reckons_20 ?_
  refine aw_aload_n rfl rfl d_X_reckons_23 ?_
  refine aw_geti fl_X_347 km_0 (by decide) rfl d_X_reckons_24 ?_
  refine aw_top (x2 := nI 0) (Eq.trans (congrFun (upd2_ne (by decide)) (40)) (Eq.trans (congrFun (upd2_ne (by decide)) (40)) (Eq.trans (congrFun (upd2_ne (by decide)) (40)) (Eq.trans (congrFun (upd2_ne (by decide)) (40)) (Eq.trans (congrFun (upd2_ne (by decide)) (40)) (Eq.trans (congrFun (upd2_ne (by decide)) (40)) (Eq.trans (congrFun (upd2_ne (by decide)) (40)) (Eq.trans (congrFun (upd2_ne (by decide)) (40)) (Eq.trans (congrFun (upd2_ne (by decide)) (40)) (Eq.trans (congrFun (upd2_ne (by decide)) (40)) (Eq.trans (congrFun (upd2_ne (by decide)) (40)) (Eq.trans (congrFun (upd2_ne (by decide)) (40)) (Eq.trans (congrFun (upd2_ne (by decide)) (40)) (Eq.trans (congrFun (upd2_ne (by decide)) (40)) (Eq.trans (congrFun (upd2_ne (by decide)) (40)) (Eq.trans (congrFun (upd2_ne (by decide)) (40)) (Eq.trans (congrFun (upd2_ne (by decide)) (40)) (Eq.trans (congrFun (upd2_ne (by decide)) (40)) (Eq.trans (congrFun (upd2_ne (by decide)) (40)) (Eq.trans (congrFun (upd2_ne (by decide)) (40)) (upd2_eq))))))))))))))))))))) ?_
  refine aw_iload_n rfl rfl d_X_reckons_27 ?_
  refine aw_iload_n rfl rfl d_X_reckons_28 ?_
  refine as_callS (as := [.int (nI 0), .int (nI 5), .int (nI 0)]) (d' := 4) mo_X_spot lk_X_353 rfl ⟨by decide, by decide⟩ rfl rfl (by decide) d_X_reckons_29 (Ss.of (show As l b 4 y_X_spot KM RM _ (upd2 (upd2 (upd2 (upd2 (upd2 (upd2 (upd2 (upd2 (upd2 (upd2 (upd2 (upd2 (upd2 (upd2 (upd2 (upd2 (upd2 (upd2 (upd2 (upd2 (upd2 I 0 40 (nI 0)) 17 (0) (nI 0)) 17 (1) ((-99 : Int32))) 17 (2) (nI 0)) 17 (3) (nI 0)) 17 (4) (nI 0)) 17 (5) ((-99 : Int32))) 17 (6) (nI 0)) 17 (7) (nI 0)) 17 (8) (nI 0)) 17 (9) ((-99 : Int32))) 17 (10) (nI 0)) 17 (11) (nI 0)) 17 (12) (nI 0)) 17 (13) ((-99 : Int32))) 17 (14) (nI 0)) 17 (15) (nI 0)) 17 (16) (nI 0)) 17 (17) ((-99 : Int32))) 17 (18) (nI 0)) 17 (19) (nI 0)) 0 [.int (nI 0), .int (nI 5), .int (nI 0)] [] from ?_))
  refine aw_bipush (v := nI 36) cb_36 d_X_spot_0 ?_
  refine aw_iload_n rfl rfl d_X_spot_2 ?_
  refine aw_imul d_X_spot_3 ?_
  refine aw_top (x2 := nI 0) (by decide +kernel) ?_
  refine aw_iconst (v := nI 4) ci_4 d_X_spot_4 ?_
  refine aw_iload_n rfl rfl d_X_spot_5 ?_
  refine aw_imul d_X_spot_6 ?_
  refine aw_top (x2 := nI 20) (by decide +kernel) ?_
  refine aw_iadd d_X_spot_7 ?_
  refine aw_top (x2 := nI 20) (by decide +kernel) ?_
  refine aw_iload_n rfl rfl d_X_spot_8 ?_
  refine aw_iadd d_X_spot_9 ?_
  refine aw_top (x2 := nI 20) (by decide +kernel) ?_
  refine as_reti rfl d_X_spot_10 ?_
  refine (show As l b 5 y_X_reckons KM RM K2 (upd2 (upd2 (upd2 (upd2 (upd2 (upd2 (upd2 (upd2 (upd2 (upd2 (upd2 (upd2 (upd2 (upd2 (upd2 (upd2 (upd2 (upd2 (upd2 (upd2 (upd2 I 0 40 (nI 0)) 17 (0) (nI 0)) 17 (1) ((-99 : Int32))) 17 (2) (nI 0)) 17 (3) (nI 0)) 17 (4) (nI 0)) 17 (5) ((-99 : Int32))) 17 (6) (nI 0)) 17 (7) (nI 0)) 17 (8) (nI 0)) 17 (9) ((-99 : Int32))) 17 (10) (nI 0)) 17 (11) (nI 0)) 17 (12) (nI 0)) 17 (13) ((-99 : Int32))) 17 (14) (nI 0)) 17 (15) (nI 0)) 17 (16) (nI 0)) 17 (17) ((-99 : Int32))) 17 (18) (nI 0)) 17 (19) (nI 0)) 32 [.ref 0, .int (nI 5), .int (nI 0), uu, uu, uu] [.int (nI 20), .ref 17] from ?_)
  refine aw_iload_n rfl rfl d_X_reckons_32 ?_
  refine aw_iconst (v := nI 1) ci_1 d_X_reckons_33 ?_
  refine aw_icmp_neI (tgt := 42) (0) (1) (by decide +kernel) (by decide +kernel) (by decide) d_X_reckons_34 (fun _ => ?_) (fun q => absurd q (by decide))
  refine aw_iconst (v := nI 0) ci_0 d_X_reckons_42 ?_
  refine aw_iast (j := 20) km_17 (vp_in_nI (by decide) (by decide)) (nI_clamp (by decide)) d_X_reckons_43 ?_
  refine aw_iinc (v := nI 1) (lv2 := [.ref 0, .int (nI 5), .int (nI 1), uu, uu, uu]) rfl (by decide +kernel) (by decide) rfl d_X_reckons_44 ?_
  refine aw_goto (tgt := 14) (by decide) d_X_reckons_47 ?_
  refine aw_iload_n rfl rfl d_X_reckons_14 ?_
  refine aw_iconst (v := nI 4) ci_4 d_X_reckons_15 ?_
  refine aw_icmp_geI (tgt := 50) (1) (4) (by decide +kernel) (by decide +kernel) (by decide) d_X_reckons_16 (fun q => absurd q (by decide)) (fun _ => ?_)
  refine aw_aload_n rfl rfl d_X_reckons_19 ?_
  refine aw_getr fl_X_69 km_0 (by decide) rfl rm_0_39 d_X_reckons_20 ?_
  refine aw_aload_n rfl rfl d_X_reckons_23 ?_
  refine aw_geti fl_X_347 km_0 (by decide) rfl d_X_reckons_24 ?_
  refine aw_top (x2 := nI 0) (Eq.trans (congrFun (upd2_ne (by decide)) (40)) (Eq.trans (congrFun (upd2_ne (by decide)) (40)) (Eq.trans (congrFun (upd2_ne (by decide)) (40)) (Eq.trans (congrFun (upd2_ne (by decide)) (40)) (Eq.trans (congrFun (upd2_ne (by decide)) (40)) (Eq.trans (congrFun (upd2_ne (by decide)) (40)) (Eq.trans (congrFun (upd2_ne (by decide)) (40)) (Eq.trans (congrFun (upd2_ne (by decide)) (40)) (Eq.trans (congrFun (upd2_ne (by decide)) (40)) (Eq.trans (congrFun (upd2_ne (by decide)) (40)) (Eq.trans (congrFun (upd2_ne (by decide)) (40)) (Eq.trans (congrFun (upd2_ne (by decide)) (40)) (Eq.trans (congrFun (upd2_ne (by decide)) (40)) (Eq.trans (congrFun (upd2_ne (by decide)) (40)) (Eq.trans (congrFun (upd2_ne (by decide)) (40)) (Eq.trans (congrFun (upd2_ne (by decide)) (40)) (Eq.trans (congrFun (upd2_ne (by decide)) (40)) (Eq.trans (congrFun (upd2_ne (by decide)) (40)) (Eq.trans (congrFun (upd2_ne (by decide)) (40)) (Eq.trans (congrFun (upd2_ne (by decide)) (40)) (Eq.trans (congrFun (upd2_ne (by decide)) (40)) (upd2_eq)))))))))))))))))))))) ?_
  refine aw_iload_n rfl rfl d_X_reckons_27 ?_
  refine aw_iload_n rfl rfl d_X_reckons_28 ?_
  refine as_callS (as := [.int (nI 0), .int (nI 5), .int (nI 1)]) (d' := 4) mo_X_spot lk_X_353 rfl ⟨by decide, by decide⟩ rfl rfl (by decide) d_X_reckons_29 (Ss.of (show As l b 4 y_X_spot KM RM _ (upd2 (upd2 (upd2 (upd2 (upd2 (upd2 (upd2 (upd2 (upd2 (upd2 (upd2 (upd2 (upd2 (upd2 (upd2 (upd2 (upd2 (upd2 (upd2 (upd2 (upd2 (upd2 I 0 40 (nI 0)) 17 (0) (nI 0)) 17 (1) ((-99 : Int32))) 17 (2) (nI 0)) 17 (3) (nI 0)) 17 (4) (nI 0)) 17 (5) ((-99 : Int32))) 17 (6) (nI 0)) 17 (7) (nI 0)) 17 (8) (nI 0)) 17 (9) ((-99 : Int32))) 17 (10) (nI 0)) 17 (11) (nI 0)) 17 (12) (nI 0)) 17 (13) ((-99 : Int32))) 17 (14) (nI 0)) 17 (15) (nI 0)) 17 (16) (nI 0)) 17 (17) ((-99 : Int32))) 17 (18) (nI 0)) 17 (19) (nI 0)) 17 (20) (nI 0)) 0 [.int (nI 0), .int (nI 5), .int (nI 1)] [] from ?_))
  refine aw_bipush (v := nI 36) cb_36 d_X_spot_0 ?_
  refine aw_iload_n rfl rfl d_X_spot_2 ?_
  refine aw_imul d_X_spot_3 ?_
  refine aw_top (x2 := nI 0) (by decide +kernel) ?_
  refine aw_iconst (v := nI 4) ci_4 d_X_spot_4 ?_
  refine aw_iload_n rfl rfl d_X_spot_5 ?_
  refine aw_imul d_X_spot_6 ?_
  refine aw_top (x2 := nI 20) (by decide +kernel) ?_
  refine aw_iadd d_X_spot_7 ?_
  refine aw_top (x2 := nI 20) (by decide +kernel) ?_
  refine aw_iload_n rfl rfl d_X_spot_8 ?_
  refine aw_iadd d_X_spot_9 ?_
  refine aw_top (x2 := nI 21) (by decide +kernel) ?_
  refine as_reti rfl d_X_spot_10 ?_
  refine (show As l b 5 y_X_reckons KM RM K2 (upd2 (upd2 (upd2 (upd2 (upd2 (upd2 (upd2 (upd2 (upd2 (upd2 (upd2 (upd2 (upd2 (upd2 (upd2 (upd2 (upd2 (upd2 (upd2 (upd2 (upd2 (upd2 I 0 40 (nI 0)) 17 (0) (nI 0)) 17 (1) ((-99 : Int32))) 17 (2) (nI 0)) 17 (3) (nI 0)) 17 (4) (nI 0)) 17 (5) ((-99 : Int32))) 17 (6) (nI 0)) 17 (7) (nI 0)) 17 (8) (nI 0)) 17 (9) ((-99 : Int32))) 17 (10) (nI 0)) 17 (11) (nI 0)) 17 (12) (nI 0)) 17 (13) ((-99 : Int32))) 17 (14) (nI 0)) 17 (15) (nI 0)) 17 (16) (nI 0)) 17 (17) ((-99 : Int32))) 17 (18) (nI 0)) 17 (19) (nI 0)) 17 (20) (nI 0)) 32 [.ref 0, .int (nI 5), .int (nI 1), uu, uu, uu] [.int (nI 21), .ref 17] from ?_)
  refine aw_iload_n rfl rfl d_X_reckons_32 ?_
  refine aw_iconst (v := nI 1) ci_1 d_X_reckons_33 ?_
  refine aw_icmp_neI (tgt := 42) (1) (1) (by decide +kernel) (by decide +kernel) (by decide) d_X_reckons_34 (fun q => absurd q (by decide)) (fun _ => ?_)
  refine aw_bipush (v := (-99 : Int32)) rfl d_X_reckons_37 ?_
  refine aw_goto (tgt := 43) (by decide) d_X_reckons_39 ?_
  refine aw_iast (j := 21) km_17 (vp_in_nI (by decide) (by decide)) (nI_clamp (by decide)) d_X_reckons_43 ?_
  refine aw_iinc (v := nI 2) (lv2 := [.ref 0, .int (nI 5), .int (nI 2), uu, uu, uu]) rfl (by decide +kernel) (by decide) rfl d_X_reckons_44 ?_
  refine aw_goto (tgt := 14) (by decide) d_X_reckons_47 ?_
  refine aw_iload_n rfl rfl d_X_reckons_14 ?_
  refine aw_iconst (v := nI 4) ci_4 d_X_reckons_15 ?_
  refine aw_icmp_geI (tgt := 50) (2) (4) (by decide +kernel) (by decide +kernel) (by decide) d_X_reckons_16 (fun q => absurd q (by decide)) (fun _ => ?_)
  refine aw_aload_n rfl rfl d_X_reckons_19 ?_
  refine aw_getr fl_X_69 km_0 (by decide) rfl rm_0_39 d_X_reckons_20 ?_
  refine aw_aload_n rfl rfl d_X_reckons_23 ?_
  refine aw_geti fl_X_347 km_0 (by decide) rfl d_X_reckons_24 ?_
  refine aw_top (x2 := nI 0) (Eq.trans (congrFun (upd2_ne (by decide)) (40)) (Eq.trans (congrFun (upd2_ne (by decide)) (40)) (Eq.trans (congrFun (upd2_ne (by decide)) (40)) (Eq.trans (congrFun (upd2_ne (by decide)) (40)) (Eq.trans (congrFun (upd2_ne (by decide)) (40)) (Eq.trans (congrFun (upd2_ne (by decide)) (40)) (Eq.trans (congrFun (upd2_ne (by decide)) (40)) (Eq.trans (congrFun (upd2_ne (by decide)) (40)) (Eq.trans (congrFun (upd2_ne (by decide)) (40)) (Eq.trans (congrFun (upd2_ne (by decide)) (40)) (Eq.trans (congrFun (upd2_ne (by decide)) (40)) (Eq.trans (congrFun (upd2_ne (by decide)) (40)) (Eq.trans (congrFun (upd2_ne (by decide)) (40)) (Eq.trans (congrFun (upd2_ne (by decide)) (40)) (Eq.trans (congrFun (upd2_ne (by decide)) (40)) (Eq.trans (congrFun (upd2_ne (by decide)) (40)) (Eq.trans (congrFun (upd2_ne (by decide)) (40)) (Eq.trans (congrFun (upd2_ne (by decide)) (40)) (Eq.trans (congrFun (upd2_ne (by decide)) (40)) (Eq.trans (congrFun (upd2_ne (by decide)) (40)) (Eq.trans (congrFun (upd2_ne (by decide)) (40)) (Eq.trans (congrFun (upd2_ne (by decide)) (40)) (upd2_eq))))))))))))))))))))))) ?_
  refine aw_iload_n rfl rfl d_X_reckons_27 ?_
  refine aw_iload_n rfl rfl d_X_reckons_28 ?_
  refine as_callS (as := [.int (nI 0), .int (nI 5), .int (nI 2)]) (d' := 4) mo_X_spot lk_X_353 rfl ⟨by decide, by decide⟩ rfl rfl (by decide) d_X_reckons_29 (Ss.of (show As l b 4 y_X_spot KM RM _ (upd2 (upd2 (upd2 (upd2 (upd2 (upd2 (upd2 (upd2 (upd2 (upd2 (upd2 (upd2 (upd2 (upd2 (upd2 (upd2 (upd2 (upd2 (upd2 (upd2 (upd2 (upd2 (upd2 I 0 40 (nI 0)) 17 (0) (nI 0)) 17 (1) ((-99 : Int32))) 17 (2) (nI 0)) 17 (3) (nI 0)) 17 (4) (nI 0)) 17 (5) ((-99 : Int32))) 17 (6) (nI 0)) 17 (7) (nI 0)) 17 (8) (nI 0)) 17 (9) ((-99 : Int32))) 17 (10) (nI 0)) 17 (11) (nI 0)) 17 (12) (nI 0)) 17 (13) ((-99 : Int32))) 17 (14) (nI 0)) 17 (15) (nI 0)) 17 (16) (nI 0)) 17 (17) ((-99 : Int32))) 17 (18) (nI 0)) 17 (19) (nI 0)) 17 (20) (nI 0)) 17 (21) ((-99 : Int32))) 0 [.int (nI 0), .int (nI 5), .int (nI 2)] [] from ?_))
  refine aw_bipush (v := nI 36) cb_36 d_X_spot_0 ?_
  refine aw_iload_n rfl rfl d_X_spot_2 ?_
  refine aw_imul d_X_spot_3 ?_
  refine aw_top (x2 := nI 0) (by decide +kernel) ?_
  refine aw_iconst (v := nI 4) ci_4 d_X_spot_4 ?_
  refine aw_iload_n rfl rfl d_X_spot_5 ?_
  refine aw_imul d_X_spot_6 ?_
  refine aw_top (x2 := nI 20) (by decide +kernel) ?_
  refine aw_iadd d_X_spot_7 ?_
  refine aw_top (x2 := nI 20) (by decide +kernel) ?_
  refine aw_iload_n rfl rfl d_X_spot_8 ?_
  refine aw_iadd d_X_spot_9 ?_
  refine aw_top (x2 := nI 22) (by decide +kernel) ?_
  refine as_reti rfl d_X_spot_10 ?_
  refine (show As l b 5 y_X_reckons KM RM K2 (upd2 (upd2 (upd2 (upd2 (upd2 (upd2 (upd2 (upd2 (upd2 (upd2 (upd2 (upd2 (upd2 (upd2 (upd2 (upd2 (upd2 (upd2 (upd2 (upd2 (upd2 (upd2 (upd2 I 0 40 (nI 0)) 17 (0) (nI 0)) 17 (1) ((-99 : Int32))) 17 (2) (nI 0)) 17 (3) (nI 0)) 17 (4) (nI 0)) 17 (5) ((-99 : Int32))) 17 (6) (nI 0)) 17 (7) (nI 0)) 17 (8) (nI 0)) 17 (9) ((-99 : Int32))) 17 (10) (nI 0)) 17 (11) (nI 0)) 17 (12) (nI 0)) 17 (13) ((-99 : Int32))) 17 (14) (nI 0)) 17 (15) (nI 0)) 17 (16) (nI 0)) 17 (17) ((-99 : Int32))) 17 (18) (nI 0)) 17 (19) (nI 0)) 17 (20) (nI 0)) 17 (21) ((-99 : Int32))) 32 [.ref 0, .int (nI 5), .int (nI 2), uu, uu, uu] [.int (nI 22), .ref 17] from ?_)
  refine aw_iload_n rfl rfl d_X_reckons_32 ?_
  refine aw_iconst (v := nI 1) ci_1 d_X_reckons_33 ?_
  refine aw_icmp_neI (tgt := 42) (2) (1) (by decide +kernel) (by decide +kernel) (by decide) d_X_reckons_34 (fun _ => ?_) (fun q => absurd q (by decide))
  refine aw_iconst (v := nI 0) ci_0 d_X_reckons_42 ?_
  refine aw_iast (j := 22) km_17 (vp_in_nI (by decide) (by decide)) (nI_clamp (by decide)) d_X_reckons_43 ?_
  refine aw_iinc (v := nI 3) (lv2 := [.ref 0, .int (nI 5), .int (nI 3), uu, uu, uu]) rfl (by decide +kernel) (by decide) rfl d_X_reckons_44 ?_
  refine aw_goto (tgt := 14) (by decide) d_X_reckons_47 ?_
  refine aw_iload_n rfl rfl d_X_reckons_14 ?_
  refine aw_iconst (v := nI 4) ci_4 d_X_reckons_15 ?_
  refine aw_icmp_geI (tgt := 50) (3) (4) (by decide +kernel) (by decide +kernel) (by decide) d_X_reckons_16 (fun q => absurd q (by decide)) (fun _ => ?_)
  refine aw_aload_n rfl rfl d_X_reckons_19 ?_
  refine aw_getr fl_X_69 km_0 (by decide) rfl rm_0_39 d_X_reckons_20 ?_
  refine aw_aload_n rfl rfl d_X_reckons_23 ?_
  refine aw_geti fl_X_347 km_0 (by decide) rfl d_X_reckons_24 ?_
  refine aw_top (x2 := nI 0) (Eq.trans (congrFun (upd2_ne (by decide)) (40)) (Eq.trans (congrFun (upd2_ne (by decide)) (40)) (Eq.trans (congrFun (upd2_ne (by decide)) (40)) (Eq.trans (congrFun (upd2_ne (by decide)) (40)) (Eq.trans (congrFun (upd2_ne (by decide)) (40)) (Eq.trans (congrFun (upd2_ne (by decide)) (40)) (Eq.trans (congrFun (upd2_ne (by decide)) (40)) (Eq.trans (congrFun (upd2_ne (by decide)) (40)) (Eq.trans (congrFun (upd2_ne (by decide)) (40)) (Eq.trans (congrFun (upd2_ne (by decide)) (40)) (Eq.trans (congrFun (upd2_ne (by decide)) (40)) (Eq.trans (congrFun (upd2_ne (by decide)) (40)) (Eq.trans (congrFun (upd2_ne (by decide)) (40)) (Eq.trans (congrFun (upd2_ne (by decide)) (40)) (Eq.trans (congrFun (upd2_ne (by decide)) (40)) (Eq.trans (congrFun (upd2_ne (by decide)) (40)) (Eq.trans (congrFun (upd2_ne (by decide)) (40)) (Eq.trans (congrFun (upd2_ne (by decide)) (40)) (Eq.trans (congrFun (upd2_ne (by decide)) (40)) (Eq.trans (congrFun (upd2_ne (by decide)) (40)) (Eq.trans (congrFun (upd2_ne (by decide)) (40)) (Eq.trans (congrFun (upd2_ne (by decide)) (40)) (Eq.trans (congrFun (upd2_ne (by decide)) (40)) (upd2_eq)))))))))))))))))))))))) ?_
  refine aw_iload_n rfl rfl d_X_reckons_27 ?_
  refine aw_iload_n rfl rfl d_X_reckons_28 ?_
  refine as_callS (as := [.int (nI 0), .int (nI 5), .int (nI 3)]) (d' := 4) mo_X_spot lk_X_353 rfl ⟨by decide, by decide⟩ rfl rfl (by decide) d_X_reckons_29 (Ss.of (show As l b 4 y_X_spot KM RM _ (upd2 (upd2 (upd2 (upd2 (upd2 (upd2 (upd2 (upd2 (upd2 (upd2 (upd2 (upd2 (upd2 (upd2 (upd2 (upd2 (upd2 (upd2 (upd2 (upd2 (upd2 (upd2 (upd2 (upd2 I 0 40 (nI 0)) 17 (0) (nI 0)) 17 (1) ((-99 : Int32))) 17 (2) (nI 0)) 17 (3) (nI 0)) 17 (4) (nI 0)) 17 (5) ((-99 : Int32))) 17 (6) (nI 0)) 17 (7) (nI 0)) 17 (8) (nI 0)) 17 (9) ((-99 : Int32))) 17 (10) (nI 0)) 17 (11) (nI 0)) 17 (12) (nI 0)) 17 (13) ((-99 : Int32))) 17 (14) (nI 0)) 17 (15) (nI 0)) 17 (16) (nI 0)) 17 (17) ((-99 : Int32))) 17 (18) (nI 0)) 17 (19) (nI 0)) 17 (20) (nI 0)) 17 (21) ((-99 : Int32))) 17 (22) (nI 0)) 0 [.int (nI 0), .int (nI 5), .int (nI 3)] [] from ?_))
  refine aw_bipush (v := nI 36) cb_36 d_X_spot_0 ?_
  refine aw_iload_n rfl rfl d_X_spot_2 ?_
  refine aw_imul d_X_spot_3 ?_
  refine aw_top (x2 := nI 0) (by decide +kernel) ?_
  refine aw_iconst (v := nI 4) ci_4 d_X_spot_4 ?_
  refine aw_iload_n rfl rfl d_X_spot_5 ?_
  refine aw_imul d_X_spot_6 ?_
  refine aw_top (x2 := nI 20) (by decide +kernel) ?_
  refine aw_iadd d_X_spot_7 ?_
  refine aw_top (x2 := nI 20) (by decide +kernel) ?_
  refine aw_iload_n rfl rfl d_X_spot_8 ?_
  refine aw_iadd d_X_spot_9 ?_
  refine aw_top (x2 := nI 23) (by decide +kernel) ?_
  refine as_reti rfl d_X_spot_10 ?_
  refine (show As l b 5 y_X_reckons KM RM K2 (upd2 (upd2 (upd2 (upd2 (upd2 (upd2 (upd2 (upd2 (upd2 (upd2 (upd2 (upd2 (upd2 (upd2 (upd2 (upd2 (upd2 (upd2 (upd2 (upd2 (upd2 (upd2 (upd2 (upd2 I 0 40 (nI 0)) 17 (0) (nI 0)) 17 (1) ((-99 : Int32))) 17 (2) (nI 0)) 17 (3) (nI 0)) 17 (4) (nI 0)) 17 (5) ((-99 : Int32))) 17 (6) (nI 0)) 17 (7) (nI 0)) 17 (8) (nI 0)) 17 (9) ((-99 : Int32))) 17 (10) (nI 0)) 17 (11) (nI 0)) 17 (12) (nI 0)) 17 (13) ((-99 : Int32))) 17 (14) (nI 0)) 17 (15) (nI 0)) 17 (16) (nI 0)) 17 (17) ((-99 : Int32))) 17 (18) (nI 0)) 17 (19) (nI 0)) 17 (20) (nI 0)) 17 (21) ((-99 : Int32))) 17 (22) (nI 0)) 32 [.ref 0, .int (nI 5), .int (nI 3), uu, uu, uu] [.int (nI 23), .ref 17] from ?_)
  refine aw_iload_n rfl rfl d_X_reckons_32 ?_
  refine aw_iconst (v := nI 1) ci_1 d_X_reckons_33 ?_
  refine aw_icmp_neI (tgt := 42) (3) (1) (by decide +kernel) (by decide +kernel) (by decide) d_X_reckons_34 (fun _ => ?_) (fun q => absurd q (by decide))
  refine aw_iconst (v := nI 0) ci_0 d_X_reckons_42 ?_
  refine aw_iast (j := 23) km_17 (vp_in_nI (by decide) (by decide)) (nI_clamp (by decide)) d_X_reckons_43 ?_
  refine aw_iinc (v := nI 4) (lv2 := [.ref 0, .int (nI 5), .int (nI 4), uu, uu, uu]) rfl (by decide +kernel) (by decide) rfl d_X_reckons_44 ?_
  refine aw_goto (tgt := 14) (by decide) d_X_reckons_47 ?_
  refine aw_iload_n rfl rfl d_X_reckons_14 ?_
  refine aw_iconst (v := nI 4) ci_4 d_X_reckons_15 ?_
  refine aw_icmp_geI (tgt := 50) (4) (4) (by decide +kernel) (by decide +kernel) (by decide) d_X_reckons_16 (fun _ => ?_) (fun q => absurd q (by decide))
  refine aw_iinc (v := nI 6) (lv2 := [.ref 0, .int (nI 6), .int (nI 4), uu, uu, uu]) rfl (by decide +kernel) (by decide) rfl d_X_reckons_50 ?_
  refine aw_goto (tgt := 6) (by decide) d_X_reckons_53 ?_
  refine aw_iload_n rfl rfl d_X_reckons_6 ?_
  refine aw_bipush (v := nI 9) cb_9 d_X_reckons_7 ?_
  refine aw_icmp_geI (tgt := 56) (6) (9) (by decide +kernel) (by decide +kernel) (by decide) d_X_reckons_9 (fun q => absurd q (by decide)) (fun _ => ?_)
  refine aw_iconst (v := nI 0) ci_0 d_X_reckons_12 ?_
  refine aw_istore_n (lv2 := [.ref 0, .int (nI 6), .int (nI 0), uu, uu, uu]) rfl (by decide) rfl d_X_reckons_13 ?_
  refine aw_iload_n rfl rfl d_X_reckons_14 ?_
  refine aw_iconst (v := nI 4) ci_4 d_X_reckons_15 ?_
  refine aw_icmp_geI (tgt := 50) (0) (4) (by decide +kernel) (by decide +kernel) (by decide) d_X_reckons_16 (fun q => absurd q (by decide)) (fun _ => ?_)
  refine aw_aload_n rfl rfl d_X_reckons_19 ?_
  refine aw_getr fl_X_69 km_0 (by decide) rfl rm_0_39 d_X_reckons_20 ?_
  refine aw_aload_n rfl rfl d_X_reckons_23 ?_
  refine aw_geti fl_X_347 km_0 (by decide) rfl d_X_reckons_24 ?_
  refine aw_top (x2 := nI 0) (Eq.trans (congrFun (upd2_ne (by decide)) (40)) (Eq.trans (congrFun (upd2_ne (by decide)) (40)) (Eq.trans (congrFun (upd2_ne (by decide)) (40)) (Eq.trans (congrFun (upd2_ne (by decide)) (40)) (Eq.trans (congrFun (upd2_ne (by decide)) (40)) (Eq.trans (congrFun (upd2_ne (by decide)) (40)) (Eq.trans (congrFun (upd2_ne (by decide)) (40)) (Eq.trans (congrFun (upd2_ne (by decide)) (40)) (Eq.trans (congrFun (upd2_ne (by decide)) (40)) (Eq.trans (congrFun (upd2_ne (by decide)) (40)) (Eq.trans (congrFun (upd2_ne (by decide)) (40)) (Eq.trans (congrFun (upd2_ne (by decide)) (40)) (Eq.trans (congrFun (upd2_ne (by decide)) (40)) (Eq.trans (congrFun (upd2_ne (by decide)) (40)) (Eq.trans (congrFun (upd2_ne (by decide)) (40)) (Eq.trans (congrFun (upd2_ne (by decide)) (40)) (Eq.trans (congrFun (upd2_ne (by decide)) (40)) (Eq.trans (congrFun (upd2_ne (by decide)) (40)) (Eq.trans (congrFun (upd2_ne (by decide)) (40)) (Eq.trans (congrFun (upd2_ne (by decide)) (40)) (Eq.trans (congrFun (upd2_ne (by decide)) (40)) (Eq.trans (congrFun (upd2_ne (by decide)) (40)) (Eq.trans (congrFun (upd2_ne (by decide)) (40)) (Eq.trans (congrFun (upd2_ne (by decide)) (40)) (upd2_eq))))))))))))))))))))))))) ?_
  refine aw_iload_n rfl rfl d_X_reckons_27 ?_
  refine aw_iload_n rfl rfl d_X_reckons_28 ?_
  refine as_callS (as := [.int (nI 0), .int (nI 6), .int (nI 0)]) (d' := 4) mo_X_spot lk_X_353 rfl ⟨by decide, by decide⟩ rfl rfl (by decide) d_X_reckons_29 (Ss.of (show As l b 4 y_X_spot KM RM _ (upd2 (upd2 (upd2 (upd2 (upd2 (upd2 (upd2 (upd2 (upd2 (upd2 (upd2 (upd2 (upd2 (upd2 (upd2 (upd2 (upd2 (upd2 (upd2 (upd2 (upd2 (upd2 (upd2 (upd2 (upd2 I 0 40 (nI 0)) 17 (0) (nI 0)) 17 (1) ((-99 : Int32))) 17 (2) (nI 0)) 17 (3) (nI 0)) 17 (4) (nI 0)) 17 (5) ((-99 : Int32))) 17 (6) (nI 0)) 17 (7) (nI 0)) 17 (8) (nI 0)) 17 (9) ((-99 : Int32))) 17 (10) (nI 0)) 17 (11) (nI 0)) 17 (12) (nI 0)) 17 (13) ((-99 : Int32))) 17 (14) (nI 0)) 17 (15) (nI 0)) 17 (16) (nI 0)) 17 (17) ((-99 : Int32))) 17 (18) (nI 0)) 17 (19) (nI 0)) 17 (20) (nI 0)) 17 (21) ((-99 : Int32))) 17 (22) (nI 0)) 17 (23) (nI 0)) 0 [.int (nI 0), .int (nI 6), .int (nI 0)] [] from ?_))
  refine aw_bipush (v := nI 36) cb_36 d_X_spot_0 ?_
  refine aw_iload_n rfl rfl d_X_spot_2 ?_
  refine aw_imul d_X_spot_3 ?_
  refine aw_top (x2 := nI 0) (by decide +kernel) ?_
  refine aw_iconst (v := nI 4) ci_4 d_X_spot_4 ?_
  refine aw_iload_n rfl rfl d_X_spot_5 ?_
  refine aw_imul d_X_spot_6 ?_
  refine aw_top (x2 := nI 24) (by decide +kernel) ?_
  refine aw_iadd d_X_spot_7 ?_
  refine aw_top (x2 := nI 24) (by decide +kernel) ?_
  refine aw_iload_n rfl rfl d_X_spot_8 ?_
  refine aw_iadd d_X_spot_9 ?_
  refine aw_top (x2 := nI 24) (by decide +kernel) ?_
  refine as_reti rfl d_X_spot_10 ?_
  refine (show As l b 5 y_X_reckons KM RM K2 (upd2 (upd2 (upd2 (upd2 (upd2 (upd2 (upd2 (upd2 (upd2 (upd2 (upd2 (upd2 (upd2 (upd2 (upd2 (upd2 (upd2 (upd2 (upd2 (upd2 (upd2 (upd2 (upd2 (upd2 (upd2 I 0 40 (nI 0)) 17 (0) (nI 0)) 17 (1) ((-99 : Int32))) 17 (2) (nI 0)) 17 (3) (nI 0)) 17 (4) (nI 0)) 17 (5) ((-99 : Int32))) 17 (6) (nI 0)) 17 (7) (nI 0)) 17 (8) (nI 0)) 17 (9) ((-99 : Int32))) 17 (10) (nI 0)) 17 (11) (nI 0)) 17 (12) (nI 0)) 17 (13) ((-99 : Int32))) 17 (14) (nI 0)) 17 (15) (nI 0)) 17 (16) (nI 0)) 17 (17) ((-99 : Int32))) 17 (18) (nI 0)) 17 (19) (nI 0)) 17 (20) (nI 0)) 17 (21) ((-99 : Int32))) 17 (22) (nI 0)) 17 (23) (nI 0)) 32 [.ref 0, .int (nI 6), .int (nI 0), uu, uu, uu] [.int (nI 24), .ref 17] from ?_)
  refine aw_iload_n rfl rfl d_X_reckons_32 ?_
  refine aw_iconst (v := nI 1) ci_1 d_X_reckons_33 ?_
  refine aw_icmp_neI (tgt := 42) (0) (1) (by decide +kernel) (by decide +kernel) (by decide) d_X_reckons_34 (fun _ => ?_) (fun q => absurd q (by decide))
  refine aw_iconst (v := nI 0) ci_0 d_X_reckons_42 ?_
  refine aw_iast (j := 24) km_17 (vp_in_nI (by decide) (by decide)) (nI_clamp (by decide)) d_X_reckons_43 ?_
  refine aw_iinc (v := nI 1) (lv2 := [.ref 0, .int (nI 6), .int (nI 1), uu, uu, uu]) rfl (by decide +kernel) (by decide) rfl d_X_reckons_44 ?_
  refine aw_goto (tgt := 14) (by decide) d_X_reckons_47 ?_
  refine aw_iload_n rfl rfl d_X_reckons_14 ?_
  refine aw_iconst (v := nI 4) ci_4 d_X_reckons_15 ?_
  refine aw_icmp_geI (tgt := 50) (1) (4) (by decide +kernel) (by decide +kernel) (by decide) d_X_reckons_16 (fun q => absurd q (by decide)) (fun _ => ?_)
  refine aw_aload_n rfl rfl d_X_reckons_19 ?_
  refine aw_getr fl_X_69 km_0 (by decide) rfl rm_0_39 d_X_reckons_20 ?_
  refine aw_aload_n rfl rfl d_X_reckons_23 ?_
  refine aw_geti fl_X_347 km_0 (by decide) rfl d_X_reckons_24 ?_
  refine aw_top (x2 := nI 0) (Eq.trans (congrFun (upd2_ne (by decide)) (40)) (Eq.trans (congrFun (upd2_ne (by decide)) (40)) (Eq.trans (congrFun (upd2_ne (by decide)) (40)) (Eq.trans (congrFun (upd2_ne (by decide)) (40)) (Eq.trans (congrFun (upd2_ne (by decide)) (40)) (Eq.trans (congrFun (upd2_ne (by decide)) (40)) (Eq.trans (congrFun (upd2_ne (by decide)) (40)) (Eq.trans (congrFun (upd2_ne (by decide)) (40)) (Eq.trans (congrFun (upd2_ne (by decide)) (40)) (Eq.trans (congrFun (upd2_ne (by decide)) (40)) (Eq.trans (congrFun (upd2_ne (by decide)) (40)) (Eq.trans (congrFun (upd2_ne (by decide)) (40)) (Eq.trans (congrFun (upd2_ne (by decide)) (40)) (Eq.trans (congrFun (upd2_ne (by decide)) (40)) (Eq.trans (congrFun (upd2_ne (by decide)) (40)) (Eq.trans (congrFun (upd2_ne (by decide)) (40)) (Eq.trans (congrFun (upd2_ne (by decide)) (40)) (Eq.trans (congrFun (upd2_ne (by decide)) (40)) (Eq.trans (congrFun (upd2_ne (by decide)) (40)) (Eq.trans (congrFun (upd2_ne (by decide)) (40)) (Eq.trans (congrFun (upd2_ne (by decide)) (40)) (Eq.trans (congrFun (upd2_ne (by decide)) (40)) (Eq.trans (congrFun (upd2_ne (by decide)) (40)) (Eq.trans (congrFun (upd2_ne (by decide)) (40)) (Eq.trans (congrFun (upd2_ne (by decide)) (40)) (upd2_eq)))))))))))))))))))))))))) ?_
  refine aw_iload_n rfl rfl d_X_reckons_27 ?_
  refine aw_iload_n rfl rfl d_X_reckons_28 ?_
  refine as_callS (as := [.int (nI 0), .int (nI 6), .int (nI 1)]) (d' := 4) mo_X_spot lk_X_353 rfl ⟨by decide, by decide⟩ rfl rfl (by decide) d_X_reckons_29 (Ss.of (show As l b 4 y_X_spot KM RM _ (upd2 (upd2 (upd2 (upd2 (upd2 (upd2 (upd2 (upd2 (upd2 (upd2 (upd2 (upd2 (upd2 (upd2 (upd2 (upd2 (upd2 (upd2 (upd2 (upd2 (upd2 (upd2 (upd2 (upd2 (upd2 (upd2 I 0 40 (nI 0)) 17 (0) (nI 0)) 17 (1) ((-99 : Int32))) 17 (2) (nI 0)) 17 (3) (nI 0)) 17 (4) (nI 0)) 17 (5) ((-99 : Int32))) 17 (6) (nI 0)) 17 (7) (nI 0)) 17 (8) (nI 0)) 17 (9) ((-99 : Int32))) 17 (10) (nI 0)) 17 (11) (nI 0)) 17 (12) (nI 0)) 17 (13) ((-99 : Int32))) 17 (14) (nI 0)) 17 (15) (nI 0)) 17 (16) (nI 0)) 17 (17) ((-99 : Int32))) 17 (18) (nI 0)) 17 (19) (nI 0)) 17 (20) (nI 0)) 17 (21) ((-99 : Int32))) 17 (22) (nI 0)) 17 (23) (nI 0)) 17 (24) (nI 0)) 0 [.int (nI 0), .int (nI 6), .int (nI 1)] [] from ?_))
  refine aw_bipush (v := nI 36) cb_36 d_X_spot_0 ?_
  refine aw_iload_n rfl rfl d_X_spot_2 ?_
  refine aw_imul d_X_spot_3 ?_
  refine aw_top (x2 := nI 0) (by decide +kernel) ?_
  refine aw_iconst (v := nI 4) ci_4 d_X_spot_4 ?_
  refine aw_iload_n rfl rfl d_X_spot_5 ?_
  refine aw_imul d_X_spot_6 ?_
  refine aw_top (x2 := nI 24) (by decide +kernel) ?_
  refine aw_iadd d_X_spot_7 ?_
  refine aw_top (x2 := nI 24) (by decide +kernel) ?_
  refine aw_iload_n rfl rfl d_X_spot_8 ?_
  refine aw_iadd d_X_spot_9 ?_
  refine aw_top (x2 := nI 25) (by decide +kernel) ?_
  refine as_reti rfl d_X_spot_10 ?_
  refine (show As l b 5 y_X_reckons KM RM K2 (upd2 (upd2 (upd2 (upd2 (upd2 (upd2 (upd2 (upd2 (upd2 (upd2 (upd2 (upd2 (upd2 (upd2 (upd2 (upd2 (upd2 (upd2 (upd2 (upd2 (upd2 (upd2 (upd2 (upd2 (upd2 (upd2 I 0 40 (nI 0)) 17 (0) (nI 0)) 17 (1) ((-99 : Int32))) 17 (2) (nI 0)) 17 (3) (nI 0)) 17 (4) (nI 0)) 17 (5) ((-99 : Int32))) 17 (6) (nI 0)) 17 (7) (nI 0)) 17 (8) (nI 0)) 17 (9) ((-99 : Int32))) 17 (10) (nI 0)) 17 (11) (nI 0)) 17 (12) (nI 0)) 17 (13) ((-99 : Int32))) 17 (14) (nI 0)) 17 (15) (nI 0)) 17 (16) (nI 0)) 17 (17) ((-99 : Int32))) 17 (18) (nI 0)) 17 (19) (nI 0)) 17 (20) (nI 0)) 17 (21) ((-99 : Int32))) 17 (22) (nI 0)) 17 (23) (nI 0)) 17 (24) (nI 0)) 32 [.ref 0, .int (nI 6), .int (nI 1), uu, uu, uu] [.int (nI 25), .ref 17] from ?_)
  refine aw_iload_n rfl rfl d_X_reckons_32 ?_
  refine aw_iconst (v := nI 1) ci_1 d_X_reckons_33 ?_
  refine aw_icmp_neI (tgt := 42) (1) (1) (by decide +kernel) (by decide +kernel) (by decide) d_X_reckons_34 (fun q => absurd q (by decide)) (fun _ => ?_)
  refine aw_bipush (v := (-99 : Int32)) rfl d_X_reckons_37 ?_
  refine aw_goto (tgt := 43) (by decide) d_X_reckons_39 ?_
  refine aw_iast (j := 25) km_17 (vp_in_nI (by decide) (by decide)) (nI_clamp (by decide)) d_X_reckons_43 ?_
  refine aw_iinc (v := nI 2) (lv2 := [.ref 0, .int (nI 6), .int (nI 2), uu, uu, uu]) rfl (by decide +kernel) (by decide) rfl d_X_reckons_44 ?_
  refine aw_goto (tgt := 14) (by decide) d_X_reckons_47 ?_
  refine aw_iload_n rfl rfl d_X_reckons_14 ?_
  refine aw_iconst (v := nI 4) ci_4 d_X_reckons_15 ?_
  refine aw_icmp_geI (tgt := 50) (2) (4) (by decide +kernel) (by decide +kernel) (by decide) d_X_reckons_16 (fun q => absurd q (by decide)) (fun _ => ?_)
  refine aw_aload_n rfl rfl d_X_reckons_19 ?_
  refine aw_getr fl_X_69 km_0 (by decide) rfl rm_0_39 d_X_reckons_20 ?_
  refine aw_aload_n rfl rfl d_X_reckons_23 ?_
  refine aw_geti fl_X_347 km_0 (by decide) rfl d_X_reckons_24 ?_
  refine aw_top (x2 := nI 0) (Eq.trans (congrFun (upd2_ne (by decide)) (40)) (Eq.trans (congrFun (upd2_ne (by decide)) (40)) (Eq.trans (congrFun (upd2_ne (by decide)) (40)) (Eq.trans (congrFun (upd2_ne (by decide)) (40)) (Eq.trans (congrFun (upd2_ne (by decide)) (40)) (Eq.trans (congrFun (upd2_ne (by decide)) (40)) (Eq.trans (congrFun (upd2_ne (by decide)) (40)) (Eq.trans (congrFun (upd2_ne (by decide)) (40)) (Eq.trans (congrFun (upd2_ne (by decide)) (40)) (Eq.trans (congrFun (upd2_ne (by decide)) (40)) (Eq.trans (congrFun (upd2_ne (by decide)) (40)) (Eq.trans (congrFun (upd2_ne (by decide)) (40)) (Eq.trans (congrFun (upd2_ne (by decide)) (40)) (Eq.trans (congrFun (upd2_ne (by decide)) (40)) (Eq.trans (congrFun (upd2_ne (by decide)) (40)) (Eq.trans (congrFun (upd2_ne (by decide)) (40)) (Eq.trans (congrFun (upd2_ne (by decide)) (40)) (Eq.trans (congrFun (upd2_ne (by decide)) (40)) (Eq.trans (congrFun (upd2_ne (by decide)) (40)) (Eq.trans (congrFun (upd2_ne (by decide)) (40)) (Eq.trans (congrFun (upd2_ne (by decide)) (40)) (Eq.trans (congrFun (upd2_ne (by decide)) (40)) (Eq.trans (congrFun (upd2_ne (by decide)) (40)) (Eq.trans (congrFun (upd2_ne (by decide)) (40)) (Eq.trans (congrFun (upd2_ne (by decide)) (40)) (Eq.trans (congrFun (upd2_ne (by decide)) (40)) (upd2_eq))))))))))))))))))))))))))) ?_
  refine aw_iload_n rfl rfl d_X_reckons_27 ?_
  refine aw_iload_n rfl rfl d_X_reckons_28 ?_
  refine as_callS (as := [.int (nI 0), .int (nI 6), .int (nI 2)]) (d' := 4) mo_X_spot lk_X_353 rfl ⟨by decide, by decide⟩ rfl rfl (by decide) d_X_reckons_29 (Ss.of (show As l b 4 y_X_spot KM RM _ (upd2 (upd2 (upd2 (upd2 (upd2 (upd2 (upd2 (upd2 (upd2 (upd2 (upd2 (upd2 (upd2 (upd2 (upd2 (upd2 (upd2 (upd2 (upd2 (upd2 (upd2 (upd2 (upd2 (upd2 (upd2 (upd2 (upd2 I 0 40 (nI 0)) 17 (0) (nI 0)) 17 (1) ((-99 : Int32))) 17 (2) (nI 0)) 17 (3) (nI 0)) 17 (4) (nI 0)) 17 (5) ((-99 : Int32))) 17 (6) (nI 0)) 17 (7) (nI 0)) 17 (8) (nI 0)) 17 (9) ((-99 : Int32))) 17 (10) (nI 0)) 17 (11) (nI 0)) 17 (12) (nI 0)) 17 (13) ((-99 : Int32))) 17 (14) (nI 0)) 17 (15) (nI 0)) 17 (16) (nI 0)) 17 (17) ((-99 : Int32))) 17 (18) (nI 0)) 17 (19) (nI 0)) 17 (20) (nI 0)) 17 (21) ((-99 : Int32))) 17 (22) (nI 0)) 17 (23) (nI 0)) 17 (24) (nI 0)) 17 (25) ((-99 : Int32))) 0 [.int (nI 0), .int (nI 6), .int (nI 2)] [] from ?_))
  refine aw_bipush (v := nI 36) cb_36 d_X_spot_0 ?_
  refine aw_iload_n rfl rfl d_X_spot_2 ?_
  refine aw_imul d_X_spot_3 ?_
  refine aw_top (x2 := nI 0) (by decide +kernel) ?_
  refine aw_iconst (v := nI 4) ci_4 d_X_spot_4 ?_
  refine aw_iload_n rfl rfl d_X_spot_5 ?_
  refine aw_imul d_X_spot_6 ?_
  refine aw_top (x2 := nI 24) (by decide +kernel) ?_
  refine aw_iadd d_X_spot_7 ?_
  refine aw_top (x2 := nI 24) (by decide +kernel) ?_
  refine aw_iload_n rfl rfl d_X_spot_8 ?_
  refine aw_iadd d_X_spot_9 ?_
  refine aw_top (x2 := nI 26) (by decide +kernel) ?_
  refine as_reti rfl d_X_spot_10 ?_
  refine (show As l b 5 y_X_reckons KM RM K2 (upd2 (upd2 (upd2 (upd2 (upd2 (upd2 (upd2 (upd2 (upd2 (upd2 (upd2 (upd2 (upd2 (upd2 (upd2 (upd2 (upd2 (upd2 (upd2 (upd2 (upd2 (upd2 (upd2 (upd2 (upd2 (upd2 (upd2 I 0 40 (nI 0)) 17 (0) (nI 0)) 17 (1) ((-99 : Int32))) 17 (2) (nI 0)) 17 (3) (nI 0)) 17 (4) (nI 0)) 17 (5) ((-99 : Int32))) 17 (6) (nI 0)) 17 (7) (nI 0)) 17 (8) (nI 0)) 17 (9) ((-99 : Int32))) 17 (10) (nI 0)) 17 (11) (nI 0)) 17 (12) (nI 0)) 17 (13) ((-99 : Int32))) 17 (14) (nI 0)) 17 (15) (nI 0)) 17 (16) (nI 0)) 17 (17) ((-99 : Int32))) 17 (18) (nI 0)) 17 (19) (nI 0)) 17 (20) (nI 0)) 17 (21) ((-99 : Int32))) 17 (22) (nI 0)) 17 (23) (nI 0)) 17 (24) (nI 0)) 17 (25) ((-99 : Int32))) 32 [.ref 0, .int (nI 6), .int (nI 2), uu, uu, uu] [.int (nI 26), .ref 17] from ?_)
  refine aw_iload_n rfl rfl d_X_reckons_32 ?_
  refine aw_iconst (v := nI 1) ci_1 d_X_reckons_33 ?_
  refine aw_icmp_neI (tgt := 42) (2) (1) (by decide +kernel) (by decide +kernel) (by decide) d_X_reckons_34 (fun _ => ?_) (fun q => absurd q (by decide))
  refine aw_iconst (v := nI 0) ci_0 d_X_reckons_42 ?_
  refine aw_iast (j := 26) km_17 (vp_in_nI (by decide) (by decide)) (nI_clamp (by decide)) d_X_reckons_43 ?_
  refine aw_iinc (v := nI 3) (lv2 := [.ref 0, .int (nI 6), .int (nI 3), uu, uu, uu]) rfl (by decide +kernel) (by decide) rfl d_X_reckons_44 ?_
  refine aw_goto (tgt := 14) (by decide) d_X_reckons_47 ?_
  refine aw_iload_n rfl rfl d_X_reckons_14 ?_
  refine aw_iconst (v := nI 4) ci_4 d_X_reckons_15 ?_
  refine aw_icmp_geI (tgt := 50) (3) (4) (by decide +kernel) (by decide +kernel) (by decide) d_X_reckons_16 (fun q => absurd q (by decide)) (fun _ => ?_)
  refine aw_aload_n rfl rfl d_X_reckons_19 ?_
  refine aw_getr fl_X_69 km_0 (by decide) rfl rm_0_39 d_X_reckons_20 ?_
  refine aw_aload_n rfl rfl d_X_reckons_23 ?_
  refine aw_geti fl_X_347 km_0 (by decide) rfl d_X_reckons_24 ?_
  refine aw_top (x2 := nI 0) (Eq.trans (congrFun (upd2_ne (by decide)) (40)) (Eq.trans (congrFun (upd2_ne (by decide)) (40)) (Eq.trans (congrFun (upd2_ne (by decide)) (40)) (Eq.trans (congrFun (upd2_ne (by decide)) (40)) (Eq.trans (congrFun (upd2_ne (by decide)) (40)) (Eq.trans (congrFun (upd2_ne (by decide)) (40)) (Eq.trans (congrFun (upd2_ne (by decide)) (40)) (Eq.trans (congrFun (upd2_ne (by decide)) (40)) (Eq.trans (congrFun (upd2_ne (by decide)) (40)) (Eq.trans (congrFun (upd2_ne (by decide)) (40)) (Eq.trans (congrFun (upd2_ne (by decide)) (40)) (Eq.trans (congrFun (upd2_ne (by decide)) (40)) (Eq.trans (congrFun (upd2_ne (by decide)) (40)) (Eq.trans (congrFun (upd2_ne (by decide)) (40)) (Eq.trans (congrFun (upd2_ne (by decide)) (40)) (Eq.trans (congrFun (upd2_ne (by decide)) (40)) (Eq.trans (congrFun (upd2_ne (by decide)) (40)) (Eq.trans (congrFun (upd2_ne (by decide)) (40)) (Eq.trans (congrFun (upd2_ne (by decide)) (40)) (Eq.trans (congrFun (upd2_ne (by decide)) (40)) (Eq.trans (congrFun (upd2_ne (by decide)) (40)) (Eq.trans (congrFun (upd2_ne (by decide)) (40)) (Eq.trans (congrFun (upd2_ne (by decide)) (40)) (Eq.trans (congrFun (upd2_ne (by decide)) (40)) (Eq.trans (congrFun (upd2_ne (by decide)) (40)) (Eq.trans (congrFun (upd2_ne (by decide)) (40)) (Eq.trans (congrFun (upd2_ne (by decide)) (40)) (upd2_eq)))))))))))))))))))))))))))) ?_
  refine aw_iload_n rfl rfl d_X_reckons_27 ?_
  refine aw_iload_n rfl rfl d_X_reckons_28 ?_
  refine as_callS (as := [.int (nI 0), .int (nI 6), .int (nI 3)]) (d' := 4) mo_X_spot lk_X_353 rfl ⟨by decide, by decide⟩ rfl rfl (by decide) d_X_reckons_29 (Ss.of (show As l b 4 y_X_spot KM RM _ (upd2 (upd2 (upd2 (upd2 (upd2 (upd2 (upd2 (upd2 (upd2 (upd2 (upd2 (upd2 (upd2 (upd2 (upd2 (upd2 (upd2 (upd2 (upd2 (upd2 (upd2 (upd2 (upd2 (upd2 (upd2 (upd2 (upd2 (upd2 I 0 40 (nI 0)) 17 (0) (nI 0)) 17 (1) ((-99 : Int32))) 17 (2) (nI 0)) 17 (3) (nI 0)) 17 (4) (nI 0)) 17 (5) ((-99 : Int32))) 17 (6) (nI 0)) 17 (7) (nI 0)) 17 (8) (nI 0)) 17 (9) ((-99 : Int32))) 17 (10) (nI 0)) 17 (11) (nI 0)) 17 (12) (nI 0)) 17 (13) ((-99 : Int32))) 17 (14) (nI 0)) 17 (15) (nI 0)) 17 (16) (nI 0)) 17 (17) ((-99 : Int32))) 17 (18) (nI 0)) 17 (19) (nI 0)) 17 (20) (nI 0)) 17 (21) ((-99 : Int32))) 17 (22) (nI 0)) 17 (23) (nI 0)) 17 (24) (nI 0)) 17 (25) ((-99 : Int32))) 17 (26) (nI 0)) 0 [.int (nI 0), .int (nI 6), .int (nI 3)] [] from ?_))
  refine aw_bipush (v := nI 36) cb_36 d_X_spot_0 ?_
  refine aw_iload_n rfl rfl d_X_spot_2 ?_
  refine aw_imul d_X_spot_3 ?_
  refine aw_top (x2 := nI 0) (by decide +kernel) ?_
  refine aw_iconst (v := nI 4) ci_4 d_X_spot_4 ?_
  refine aw_iload_n rfl rfl d_X_spot_5 ?_
  refine aw_imul d_X_spot_6 ?_
  refine aw_top (x2 := nI 24) (by decide +kernel) ?_
  refine aw_iadd d_X_spot_7 ?_
  refine aw_top (x2 := nI 24) (by decide +kernel) ?_
  refine aw_iload_n rfl rfl d_X_spot_8 ?_
  refine aw_iadd d_X_spot_9 ?_
  refine aw_top (x2 := nI 27) (by decide +kernel) ?_
  refine as_reti rfl d_X_spot_10 ?_
  refine (show As l b 5 y_X_reckons KM RM K2 (upd2 (upd2 (upd2 (upd2 (upd2 (upd2 (upd2 (upd2 (upd2 (upd2 (upd2 (upd2 (upd2 (upd2 (upd2 (upd2 (upd2 (upd2 (upd2 (upd2 (upd2 (upd2 (upd2 (upd2 (upd2 (upd2 (upd2 (upd2 I 0 40 (nI 0)) 17 (0) (nI 0)) 17 (1) ((-99 : Int32))) 17 (2) (nI 0)) 17 (3) (nI 0)) 17 (4) (nI 0)) 17 (5) ((-99 : Int32))) 17 (6) (nI 0)) 17 (7) (nI 0)) 17 (8) (nI 0)) 17 (9) ((-99 : Int32))) 17 (10) (nI 0)) 17 (11) (nI 0)) 17 (12) (nI 0)) 17 (13) ((-99 : Int32))) 17 (14) (nI 0)) 17 (15) (nI 0)) 17 (16) (nI 0)) 17 (17) ((-99 : Int32))) 17 (18) (nI 0)) 17 (19) (nI 0)) 17 (20) (nI 0)) 17 (21) ((-99 : Int32))) 17 (22) (nI 0)) 17 (23) (nI 0)) 17 (24) (nI 0)) 17 (25) ((-99 : Int32))) 17 (26) (nI 0)) 32 [.ref 0, .int (nI 6), .int (nI 3), uu, uu, uu] [.int (nI 27), .ref 17] from ?_)
  refine aw_iload_n rfl rfl d_X_reckons_32 ?_
  refine aw_iconst (v := nI 1) ci_1 d_X_reckons_33 ?_
  refine aw_icmp_neI (tgt := 42) (3) (1) (by decide +kernel) (by decide +kernel) (by decide) d_X_reckons_34 (fun _ => ?_) (fun q => absurd q (by decide))
  refine aw_iconst (v := nI 0) ci_0 d_X_reckons_42 ?_
  refine aw_iast (j := 27) km_17 (vp_in_nI (by decide) (by decide)) (nI_clamp (by decide)) d_X_reckons_43 ?_
  refine aw_iinc (v := nI 4) (lv2 := [.ref 0, .int (nI 6), .int (nI 4), uu, uu, uu]) rfl (by decide +kernel) (by decide) rfl d_X_reckons_44 ?_
  refine aw_goto (tgt := 14) (by decide) d_X_reckons_47 ?_
  refine aw_iload_n rfl rfl d_X_reckons_14 ?_
  refine aw_iconst (v := nI 4) ci_4 d_X_reckons_15 ?_
  refine aw_icmp_geI (tgt := 50) (4) (4) (by decide +kernel) (by decide +kernel) (by decide) d_X_reckons_16 (fun _ => ?_) (fun q => absurd q (by decide))
  refine aw_iinc (v := nI 7) (lv2 := [.ref 0, .int (nI 7), .int (nI 4), uu, uu, uu]) rfl (by decide +kernel) (by decide) rfl d_X_reckons_50 ?_
  refine aw_goto (tgt := 6) (by decide) d_X_reckons_53 ?_
  refine aw_iload_n rfl rfl d_X_reckons_6 ?_
  refine aw_bipush (v := nI 9) cb_9 d_X_reckons_7 ?_
  refine aw_icmp_geI (tgt := 56) (7) (9) (by decide +kernel) (by decide +kernel) (by decide) d_X_reckons_9 (fun q => absurd q (by decide)) (fun _ => ?_)
  refine aw_iconst (v := nI 0) ci_0 d_X_reckons_12 ?_
  refine aw_istore_n (lv2 := [.ref 0, .int (nI 7), .int (nI 0), uu, uu, uu]) rfl (by decide) rfl d_X_reckons_13 ?_
  refine aw_iload_n rfl rfl d_X_reckons_14 ?_
  refine aw_iconst (v := nI 4) ci_4 d_X_reckons_15 ?_
  refine aw_icmp_geI (tgt := 50) (0) (4) (by decide +kernel) (by decide +kernel) (by decide) d_X_reckons_16 (fun q => absurd q (by decide)) (fun _ => ?_)
  refine aw_aload_n rfl rfl d_X_reckons_19 ?_
  refine aw_getr fl_X_69 km_0 (by decide) rfl rm_0_39 d_X_reckons_20 ?_
  refine aw_aload_n rfl rfl d_X_reckons_23 ?_
  refine aw_geti fl_X_347 km_0 (by decide) rfl d_X_reckons_24 ?_
  refine aw_top (x2 := nI 0) (Eq.trans (congrFun (upd2_ne (by decide)) (40)) (Eq.trans (congrFun (upd2_ne (by decide)) (40)) (Eq.trans (congrFun (upd2_ne (by decide)) (40)) (Eq.trans (congrFun (upd2_ne (by decide)) (40)) (Eq.trans (congrFun (upd2_ne (by decide)) (40)) (Eq.trans (congrFun (upd2_ne (by decide)) (40)) (Eq.trans (congrFun (upd2_ne (by decide)) (40)) (Eq.trans (congrFun (upd2_ne (by decide)) (40)) (Eq.trans (congrFun (upd2_ne (by decide)) (40)) (Eq.trans (congrFun (upd2_ne (by decide)) (40)) (Eq.trans (congrFun (upd2_ne (by decide)) (40)) (Eq.trans (congrFun (upd2_ne (by decide)) (40)) (Eq.trans (congrFun (upd2_ne (by decide)) (40)) (Eq.trans (congrFun (upd2_ne (by decide)) (40)) (Eq.trans (congrFun (upd2_ne (by decide)) (40)) (Eq.trans (congrFun (upd2_ne (by decide)) (40)) (Eq.trans (congrFun (upd2_ne (by decide)) (40)) (Eq.trans (congrFun (upd2_ne (by decide)) (40)) (Eq.trans (congrFun (upd2_ne (by decide)) (40)) (Eq.trans (congrFun (upd2_ne (by decide)) (40)) (Eq.trans (congrFun (upd2_ne (by decide)) (40)) (Eq.trans (congrFun (upd2_ne (by decide)) (40)) (Eq.trans (congrFun (upd2_ne (by decide)) (40)) (Eq.trans (congrFun (upd2_ne (by decide)) (40)) (Eq.trans (congrFun (upd2_ne (by decide)) (40)) (Eq.trans (congrFun (upd2_ne (by decide)) (40)) (Eq.trans (congrFun (upd2_ne (by decide)) (40)) (Eq.trans (congrFun (upd2_ne (by decide)) (40)) (upd2_eq))))))))))))))))))))))))))))) ?_
  refine aw_iload_n rfl rfl d_X_reckons_27 ?_
  refine aw_iload_n rfl rfl d_X_reckons_28 ?_
  refine as_callS (as := [.int (nI 0), .int (nI 7), .int (nI 0)]) (d' := 4) mo_X_spot lk_X_353 rfl ⟨by decide, by decide⟩ rfl rfl (by decide) d_X_reckons_29 (Ss.of (show As l b 4 y_X_spot KM RM _ (upd2 (upd2 (upd2 (upd2 (upd2 (upd2 (upd2 (upd2 (upd2 (upd2 (upd2 (upd2 (upd2 (upd2 (upd2 (upd2 (upd2 (upd2 (upd2 (upd2 (upd2 (upd2 (upd2 (upd2 (upd2 (upd2 (upd2 (upd2 (upd2 I 0 40 (nI 0)) 17 (0) (nI 0)) 17 (1) ((-99 : Int32))) 17 (2) (nI 0)) 17 (3) (nI 0)) 17 (4) (nI 0)) 17 (5) ((-99 : Int32))) 17 (6) (nI 0)) 17 (7) (nI 0)) 17 (8) (nI 0)) 17 (9) ((-99 : Int32))) 17 (10) (nI 0)) 17 (11) (nI 0)) 17 (12) (nI 0)) 17 (13) ((-99 : Int32))) 17 (14) (nI 0)) 17 (15) (nI 0)) 17 (16) (nI 0)) 17 (17) ((-99 : Int32))) 17 (18) (nI 0)) 17 (19) (nI 0)) 17 (20) (nI 0)) 17 (21) ((-99 : Int32))) 17 (22) (nI 0)) 17 (23) (nI 0)) 17 (24) (nI 0)) 17 (25) ((-99 : Int32))) 17 (26) (nI 0)) 17 (27) (nI 0)) 0 [.int (nI 0), .int (nI 7), .int (nI 0)] [] from ?_))
  refine aw_bipush (v := nI 36) cb_36 d_X_spot_0 ?_
  refine aw_iload_n rfl rfl d_X_spot_2 ?_
  refine aw_imul d_X_spot_3 ?_
  refine aw_top (x2 := nI 0) (by decide +kernel) ?_
  refine aw_iconst (v := nI 4) ci_4 d_X_spot_4 ?_
  refine aw_iload_n rfl rfl d_X_spot_5 ?_
  refine aw_imul d_X_spot_6 ?_
  refine aw_top (x2 := nI 28) (by decide +kernel) ?_
  refine aw_iadd d_X_spot_7 ?_
  refine aw_top (x2 := nI 28) (by decide +kernel) ?_
  refine aw_iload_n rfl rfl d_X_spot_8 ?_
  refine aw_iadd d_X_spot_9 ?_
  refine aw_top (x2 := nI 28) (by decide +kernel) ?_
  refine as_reti rfl d_X_spot_10 ?_
  refine (show As l b 5 y_X_reckons KM RM K2 (upd2 (upd2 (upd2 (upd2 (upd2 (upd2 (upd2 (upd2 (upd2 (upd2 (upd2 (upd2 (upd2 (upd2 (upd2 (upd2 (upd2 (upd2 (upd2 (upd2 (upd2 (upd2 (upd2 (upd2 (upd2 (upd2 (upd2 (upd2 (upd2 I 0 40 (nI 0)) 17 (0) (nI 0)) 17 (1) ((-99 : Int32))) 17 (2) (nI 0)) 17 (3) (nI 0)) 17 (4) (nI 0)) 17 (5) ((-99 : Int32))) 17 (6) (nI 0)) 17 (7) (nI 0)) 17 (8) (nI 0)) 17 (9) ((-99 : Int32))) 17 (10) (nI 0)) 17 (11) (nI 0)) 17 (12) (nI 0)) 17 (13) ((-99 : Int32))) 17 (14) (nI 0)) 17 (15) (nI 0)) 17 (16) (nI 0)) 17 (17) ((-99 : Int32))) 17 (18) (nI 0)) 17 (19) (nI 0)) 17 (20) (nI 0)) 17 (21) ((-99 : Int32))) 17 (22) (nI 0)) 17 (23) (nI 0)) 17 (24) (nI 0)) 17 (25) ((-99 : Int32))) 17 (26) (nI 0)) 17 (27) (nI 0)) 32 [.ref 0, .int (nI 7), .int (nI 0), uu, uu, uu] [.int (nI 28), .ref 17] from ?_)
  refine aw_iload_n rfl rfl d_X_reckons_32 ?_
  refine aw_iconst (v := nI 1) ci_1 d_X_reckons_33 ?_
  refine aw_icmp_neI (tgt := 42) (0) (1) (by decide +kernel) (by decide +kernel) (by decide) d_X_reckons_34 (fun _ => ?_) (fun q => absurd q (by decide))
  refine aw_iconst (v := nI 0) ci_0 d_X_reckons_42 ?_
  refine aw_iast (j := 28) km_17 (vp_in_nI (by decide) (by decide)) (nI_clamp (by decide)) d_X_reckons_43 ?_
  refine aw_iinc (v := nI 1) (lv2 := [.ref 0, .int (nI 7), .int (nI 1), uu, uu, uu]) rfl (by decide +kernel) (by decide) rfl d_X_reckons_44 ?_
  refine aw_goto (tgt := 14) (by decide) d_X_reckons_47 ?_
  refine aw_iload_n rfl rfl d_X_reckons_14 ?_
  refine aw_iconst (v := nI 4) ci_4 d_X_reckons_15 ?_
  refine aw_icmp_geI (tgt := 50) (1) (4) (by decide +kernel) (by decide +kernel) (by decide) d_X_reckons_16 (fun q => absurd q (by decide)) (fun _ => ?_)
  refine aw_aload_n rfl rfl d_X_reckons_19 ?_
  refine aw_getr fl_X_69 km_0 (by decide) rfl rm_0_39 d_X_reckons_20 ?_
  refine aw_aload_n rfl rfl d_X_reckons_23 ?_
  refine aw_geti fl_X_347 km_0 (by decide) rfl d_X_reckons_24 ?_
  refine aw_top (x2 := nI 0) (Eq.trans (congrFun (upd2_ne (by decide)) (40)) (Eq.trans (congrFun (upd2_ne (by decide)) (40)) (Eq.trans (congrFun (upd2_ne (by decide)) (40)) (Eq.trans (congrFun (upd2_ne (by decide)) (40)) (Eq.trans (congrFun (upd2_ne (by decide)) (40)) (Eq.trans (congrFun (upd2_ne (by decide)) (40)) (Eq.trans (congrFun (upd2_ne (by decide)) (40)) (Eq.trans (congrFun (upd2_ne (by decide)) (40)) (Eq.trans (congrFun (upd2_ne (by decide)) (40)) (Eq.trans (congrFun (upd2_ne (by decide)) (40)) (Eq.trans (congrFun (upd2_ne (by decide)) (40)) (Eq.trans (congrFun (upd2_ne (by decide)) (40)) (Eq.trans (congrFun (upd2_ne (by decide)) (40)) (Eq.trans (congrFun (upd2_ne (by decide)) (40)) (Eq.trans (congrFun (upd2_ne (by decide)) (40)) (Eq.trans (congrFun (upd2_ne (by decide)) (40)) (Eq.trans (congrFun (upd2_ne (by decide)) (40)) (Eq.trans (congrFun (upd2_ne (by decide)) (40)) (Eq.trans (congrFun (upd2_ne (by decide)) (40)) (Eq.trans (congrFun (upd2_ne (by decide)) (40)) (Eq.trans (congrFun (upd2_ne (by decide)) (40)) (Eq.trans (congrFun (upd2_ne (by decide)) (40)) (Eq.trans (congrFun (upd2_ne (by decide)) (40)) (Eq.trans (congrFun (upd2_ne (by decide)) (40)) (Eq.trans (congrFun (upd2_ne (by decide)) (40)) (Eq.trans (congrFun (upd2_ne (by decide)) (40)) (Eq.trans (congrFun (upd2_ne (by decide)) (40)) (Eq.trans (congrFun (upd2_ne (by decide)) (40)) (Eq.trans (congrFun (upd2_ne (by decide)) (40)) (upd2_eq)))))))))))))))))))))))))))))) ?_
  refine aw_iload_n rfl rfl d_X_reckons_27 ?_
  refine aw_iload_n rfl rfl d_X_reckons_28 ?_
  refine as_callS (as := [.int (nI 0), .int (nI 7), .int (nI 1)]) (d' := 4) mo_X_spot lk_X_353 rfl ⟨by decide, by decide⟩ rfl rfl (by decide) d_X_reckons_29 (Ss.of (show As l b 4 y_X_spot KM RM _ (upd2 (upd2 (upd2 (upd2 (upd2 (upd2 (upd2 (upd2 (upd2 (upd2 (upd2 (upd2 (upd2 (upd2 (upd2 (upd2 (upd2 (upd2 (upd2 (upd2 (upd2 (upd2 (upd2 (upd2 (upd2 (upd2 (upd2 (upd2 (upd2 (upd2 I 0 40 (nI 0)) 17 (0) (nI 0)) 17 (1) ((-99 : Int32))) 17 (2) (nI 0)) 17 (3) (nI 0)) 17 (4) (nI 0)) 17 (5) ((-99 : Int32))) 17 (6) (nI 0)) 17 (7) (nI 0)) 17 (8) (nI 0)) 17 (9) ((-99 : Int32))) 17 (10) (nI 0)) 17 (11) (nI 0)) 17 (12) (nI 0)) 17 (13) ((-99 : Int32))) 17 (14) (nI 0)) 17 (15) (nI 0)) 17 (16) (nI 0)) 17 (17) ((-99 : Int32))) 17 (18) (nI 0)) 17 (19) (nI 0)) 17 (20) (nI 0)) 17 (21) ((-99 : Int32))) 17 (22) (nI 0)) 17 (23) (nI 0)) 17 (24) (nI 0)) 17 (25) ((-99 : Int32))) 17 (26) (nI 0)) 17 (27) (nI 0)) 17 (28) (nI 0)) 0 [.int (nI 0), .int (nI 7), .int (nI 1)] [] from ?_))
  refine aw_bipush (v := nI 36) cb_36 d_X_spot_0 ?_
  refine aw_iload_n rfl rfl d_X_spot_2 ?_
  refine aw_imul d_X_spot_3 ?_
  refine aw_top (x2 := nI 0) (by decide +kernel) ?_
  refine aw_iconst (v := nI 4) ci_4 d_X_spot_4 ?_
  refine aw_iload_n rfl rfl d_X_spot_5 ?_
  refine aw_imul d_X_spot_6 ?_
  refine aw_top (x2 := nI 28) (by decide +kernel) ?_
  refine aw_iadd d_X_spot_7 ?_
  refine aw_top (x2 := nI 28) (by decide +kernel) ?_
  refine aw_iload_n rfl rfl d_X_spot_8 ?_
  refine aw_iadd d_X_spot_9 ?_
  refine aw_top (x2 := nI 29) (by decide +kernel) ?_
  refine as_reti rfl d_X_spot_10 ?_
  refine (show As l b 5 y_X_reckons KM RM K2 (upd2 (upd2 (upd2 (upd2 (upd2 (upd2 (upd2 (upd2 (upd2 (upd2 (upd2 (upd2 (upd2 (upd2 (upd2 (upd2 (upd2 (upd2 (upd2 (upd2 (upd2 (upd2 (upd2 (upd2 (upd2 (upd2 (upd2 (upd2 (upd2 (upd2 I 0 40 (nI 0)) 17 (0) (nI 0)) 17 (1) ((-99 : Int32))) 17 (2) (nI 0)) 17 (3) (nI 0)) 17 (4) (nI 0)) 17 (5) ((-99 : Int32))) 17 (6) (nI 0)) 17 (7) (nI 0)) 17 (8) (nI 0)) 17 (9) ((-99 : Int32))) 17 (10) (nI 0)) 17 (11) (nI 0)) 17 (12) (nI 0)) 17 (13) ((-99 : Int32))) 17 (14) (nI 0)) 17 (15) (nI 0)) 17 (16) (nI 0)) 17 (17) ((-99 : Int32))) 17 (18) (nI 0)) 17 (19) (nI 0)) 17 (20) (nI 0)) 17 (21) ((-99 : Int32))) 17 (22) (nI 0)) 17 (23) (nI 0)) 17 (24) (nI 0)) 17 (25) ((-99 : Int32))) 17 (26) (nI 0)) 17 (27) (nI 0)) 17 (28) (nI 0)) 32 [.ref 0, .int (nI 7), .int (nI 1), uu, uu, uu] [.int (nI 29), .ref 17] from ?_)
  refine aw_iload_n rfl rfl d_X_reckons_32 ?_
  refine aw_iconst (v := nI 1) ci_1 d_X_reckons_33 ?_
  refine aw_icmp_neI (tgt := 42) (1) (1) (by decide +kernel) (by decide +kernel) (by decide) d_X_reckons_34 (fun q => absurd q (by decide)) (fun _ => ?_)
  refine aw_bipush (v := (-99 : Int32)) rfl d_X_reckons_37 ?_
  refine aw_goto (tgt := 43) (by decide) d_X_reckons_39 ?_
  refine aw_iast (j := 29) km_17 (vp_in_nI (by decide) (by decide)) (nI_clamp (by decide)) d_X_reckons_43 ?_
  refine aw_iinc (v := nI 2) (lv2 := [.ref 0, .int (nI 7), .int (nI 2), uu, uu, uu]) rfl (by decide +kernel) (by decide) rfl d_X_reckons_44 ?_
  refine aw_goto (tgt := 14) (by decide) d_X_reckons_47 ?_
  refine aw_iload_n rfl rfl d_X_reckons_14 ?_
  refine aw_iconst (v := nI 4) ci_4 d_X_reckons_15 ?_
  refine aw_icmp_geI (tgt := 50) (2) (4) (by decide +kernel) (by decide +kernel) (by decide) d_X_reckons_16 (fun q => absurd q (by decide)) (fun _ => ?_)
  refine aw_aload_n rfl rfl d_X_reckons_19 ?_
  refine aw_getr fl_X_69 km_0 (by decide) rfl rm_0_39 d_X_reckons_20 ?_
  refine aw_aload_n rfl rfl d_X_reckons_23 ?_
  refine aw_geti fl_X_347 km_0 (by decide) rfl d_X_reckons_24 ?_
  refine aw_top (x2 := nI 0) (Eq.trans (congrFun (upd2_ne (by decide)) (40)) (Eq.trans (congrFun (upd2_ne (by decide)) (40)) (Eq.trans (congrFun (upd2_ne (by decide)) (40)) (Eq.trans (congrFun (upd2_ne (by decide)) (40)) (Eq.trans (congrFun (upd2_ne (by decide)) (40)) (Eq.trans (congrFun (upd2_ne (by decide)) (40)) (Eq.trans (congrFun (upd2_ne (by decide)) (40)) (Eq.trans (congrFun (upd2_ne (by decide)) (40)) (Eq.trans (congrFun (upd2_ne (by decide)) (40)) (Eq.trans (congrFun (upd2_ne (by decide)) (40)) (Eq.trans (congrFun (upd2_ne (by decide)) (40)) (Eq.trans (congrFun (upd2_ne (by decide)) (40)) (Eq.trans (congrFun (upd2_ne (by decide)) (40)) (Eq.trans (congrFun (upd2_ne (by decide)) (40)) (Eq.trans (congrFun (upd2_ne (by decide)) (40)) (Eq.trans (congrFun (upd2_ne (by decide)) (40)) (Eq.trans (congrFun (upd2_ne (by decide)) (40)) (Eq.trans (congrFun (upd2_ne (by decide)) (40)) (Eq.trans (congrFun (upd2_ne (by decide)) (40)) (Eq.trans (congrFun (upd2_ne (by decide)) (40)) (Eq.trans (congrFun (upd2_ne (by decide)) (40)) (Eq.trans (congrFun (upd2_ne (by decide)) (40)) (Eq.trans (congrFun (upd2_ne (by decide)) (40)) (Eq.trans (congrFun (upd2_ne (by decide)) (40)) (Eq.trans (congrFun (upd2_ne (by decide)) (40)) (Eq.trans (congrFun (upd2_ne (by decide)) (40)) (Eq.trans (congrFun (upd2_ne (by decide)) (40)) (Eq.trans (congrFun (upd2_ne (by decide)) (40)) (Eq.trans (congrFun (upd2_ne (by decide)) (40)) (Eq.trans (congrFun (upd2_ne (by decide)) (40)) (upd2_eq))))))))))))))))))))))))))))))) ?_
  refine aw_iload_n rfl rfl d_X_reckons_27 ?_
  refine aw_iload_n rfl rfl d_X_reckons_28 ?_
  refine as_callS (as := [.int (nI 0), .int (nI 7), .int (nI 2)]) (d' := 4) mo_X_spot lk_X_353 rfl ⟨by decide, by decide⟩ rfl rfl (by decide) d_X_reckons_29 (Ss.of (show As l b 4 y_X_spot KM RM _ (upd2 (upd2 (upd2 (upd2 (upd2 (upd2 (upd2 (upd2 (upd2 (upd2 (upd2 (upd2 (upd2 (upd2 (upd2 (upd2 (upd2 (upd2 (upd2 (upd2 (upd2 (upd2 (upd2 (upd2 (upd2 (upd2 (upd2 (upd2 (upd2 (upd2 (upd2 I 0 40 (nI 0)) 17 (0) (nI 0)) 17 (1) ((-99 : Int32))) 17 (2) (nI 0)) 17 (3) (nI 0)) 17 (4) (nI 0)) 17 (5) ((-99 : Int32))) 17 (6) (nI 0)) 17 (7) (nI 0)) 17 (8) (nI 0)) 17 (9) ((-99 : Int32))) 17 (10) (nI 0)) 17 (11) (nI 0)) 17 (12) (nI 0)) 17 (13) ((-99 : Int32))) 17 (14) (nI 0)) 17 (15) (nI 0)) 17 (16) (nI 0)) 17 (17) ((-99 : Int32))) 17 (18) (nI 0)) 17 (19) (nI 0)) 17 (20) (nI 0)) 17 (21) ((-99 : Int32))) 17 (22) (nI 0)) 17 (23) (nI 0)) 17 (24) (nI 0)) 17 (25) ((-99 : Int32))) 17 (26) (nI 0)) 17 (27) (nI 0)) 17 (28) (nI 0)) 17 (29) ((-99 : Int32))) 0 [.int (nI 0), .int (nI 7), .int (nI 2)] [] from ?_))
  refine aw_bipush (v := nI 36) cb_36 d_X_spot_0 ?_
  refine aw_iload_n rfl rfl d_X_spot_2 ?_
  refine aw_imul d_X_spot_3 ?_
  refine aw_top (x2 := nI 0) (by decide +kernel) ?_
  refine aw_iconst (v := nI 4) ci_4 d_X_spot_4 ?_
  refine aw_iload_n rfl rfl d_X_spot_5 ?_
  refine aw_imul d_X_spot_6 ?_
  refine aw_top (x2 := nI 28) (by decide +kernel) ?_
  refine aw_iadd d_X_spot_7 ?_
  refine aw_top (x2 := nI 28) (by decide +kernel) ?_
  refine aw_iload_n rfl rfl d_X_spot_8 ?_
  refine aw_iadd d_X_spot_9 ?_
  refine aw_top (x2 := nI 30) (by decide +kernel) ?_
  refine as_reti rfl d_X_spot_10 ?_
  refine (show As l b 5 y_X_reckons KM RM K2 (upd2 (upd2 (upd2 (upd2 (upd2 (upd2 (upd2 (upd2 (upd2 (upd2 (upd2 (upd2 (upd2 (upd2 (upd2 (upd2 (upd2 (upd2 (upd2 (upd2 (upd2 (upd2 (upd2 (upd2 (upd2 (upd2 (upd2 (upd2 (upd2 (upd2 (upd2 I 0 40 (nI 0)) 17 (0) (nI 0)) 17 (1) ((-99 : Int32))) 17 (2) (nI 0)) 17 (3) (nI 0)) 17 (4) (nI 0)) 17 (5) ((-99 : Int32))) 17 (6) (nI 0)) 17 (7) (nI 0)) 17 (8) (nI 0)) 17 (9) ((-99 : Int32))) 17 (10) (nI 0)) 17 (11) (nI 0)) 17 (12) (nI 0)) 17 (13) ((-99 : Int32))) 17 (14) (nI 0)) 17 (15) (nI 0)) 17 (16) (nI 0)) 17 (17) ((-99 : Int32))) 17 (18) (nI 0)) 17 (19) (nI 0)) 17 (20) (nI 0)) 17 (21) ((-99 : Int32))) 17 (22) (nI 0)) 17 (23) (nI 0)) 17 (24) (nI 0)) 17 (25) ((-99 : Int32))) 17 (26) (nI 0)) 17 (27) (nI 0)) 17 (28) (nI 0)) 17 (29) ((-99 : Int32))) 32 [.ref 0, .int (nI 7), .int (nI 2), uu, uu, uu] [.int (nI 30), .ref 17] from ?_)
  refine aw_iload_n rfl rfl d_X_reckons_32 ?_
  refine aw_iconst (v := nI 1) ci_1 d_X_reckons_33 ?_
  refine aw_icmp_neI (tgt := 42) (2) (1) (by decide +kernel) (by decide +kernel) (by decide) d_X_reckons_34 (fun _ => ?_) (fun q => absurd q (by decide))
  refine aw_iconst (v := nI 0) ci_0 d_X_reckons_42 ?_
  refine aw_iast (j := 30) km_17 (vp_in_nI (by decide) (by decide)) (nI_clamp (by decide)) d_X_reckons_43 ?_
  refine aw_iinc (v := nI 3) (lv2 := [.ref 0, .int (nI 7), .int (nI 3), uu, uu, uu]) rfl (by decide +kernel) (by decide) rfl d_X_reckons_44 ?_
  refine aw_goto (tgt := 14) (by decide) d_X_reckons_47 ?_
  refine aw_iload_n rfl rfl d_X_reckons_14 ?_
  refine aw_iconst (v := nI 4) ci_4 d_X_reckons_15 ?_
  refine aw_icmp_geI (tgt := 50) (3) (4) (by decide +kernel) (by decide +kernel) (by decide) d_X_reckons_16 (fun q => absurd q (by decide)) (fun _ => ?_)
  refine aw_aload_n rfl rfl d_X_reckons_19 ?_
  refine aw_getr fl_X_69 km_0 (by decide) rfl rm_0_39 d_X_reckons_20 ?_
  refine aw_aload_n rfl rfl d_X_reckons_23 ?_
  refine aw_geti fl_X_347 km_0 (by decide) rfl d_X_reckons_24 ?_
  refine aw_top (x2 := nI 0) (Eq.trans (congrFun (upd2_ne (by decide)) (40)) (Eq.trans (congrFun (upd2_ne (by decide)) (40)) (Eq.trans (congrFun (upd2_ne (by decide)) (40)) (Eq.trans (congrFun (upd2_ne (by decide)) (40)) (Eq.trans (congrFun (upd2_ne (by decide)) (40)) (Eq.trans (congrFun (upd2_ne (by decide)) (40)) (Eq.trans (congrFun (upd2_ne (by decide)) (40)) (Eq.trans (congrFun (upd2_ne (by decide)) (40)) (Eq.trans (congrFun (upd2_ne (by decide)) (40)) (Eq.trans (congrFun (upd2_ne (by decide)) (40)) (Eq.trans (congrFun (upd2_ne (by decide)) (40)) (Eq.trans (congrFun (upd2_ne (by decide)) (40)) (Eq.trans (congrFun (upd2_ne (by decide)) (40)) (Eq.trans (congrFun (upd2_ne (by decide)) (40)) (Eq.trans (congrFun (upd2_ne (by decide)) (40)) (Eq.trans (congrFun (upd2_ne (by decide)) (40)) (Eq.trans (congrFun (upd2_ne (by decide)) (40)) (Eq.trans (congrFun (upd2_ne (by decide)) (40)) (Eq.trans (congrFun (upd2_ne (by decide)) (40)) (Eq.trans (congrFun (upd2_ne (by decide)) (40)) (Eq.trans (congrFun (upd2_ne (by decide)) (40)) (Eq.trans (congrFun (upd2_ne (by decide)) (40)) (Eq.trans (congrFun (upd2_ne (by decide)) (40)) (Eq.trans (congrFun (upd2_ne (by decide)) (40)) (Eq.trans (congrFun (upd2_ne (by decide)) (40)) (Eq.trans (congrFun (upd2_ne (by decide)) (40)) (Eq.trans (congrFun (upd2_ne (by decide)) (40)) (Eq.trans (congrFun (upd2_ne (by decide)) (40)) (Eq.trans (congrFun (upd2_ne (by decide)) (40)) (Eq.trans (congrFun (upd2_ne (by decide)) (40)) (Eq.trans (congrFun (upd2_ne (by decide)) (40)) (upd2_eq)))))))))))))))))))))))))))))))) ?_
  refine aw_iload_n rfl rfl d_X_reckons_27 ?_
  refine aw_iload_n rfl rfl d_X_reckons_28 ?_
  refine as_callS (as := [.int (nI 0), .int (nI 7), .int (nI 3)]) (d' := 4) mo_X_spot lk_X_353 rfl ⟨by decide, by decide⟩ rfl rfl (by decide) d_X_reckons_29 (Ss.of (show As l b 4 y_X_spot KM RM _ (upd2 (upd2 (upd2 (upd2 (upd2 (upd2 (upd2 (upd2 (upd2 (upd2 (upd2 (upd2 (upd2 (upd2 (upd2 (upd2 (upd2 (upd2 (upd2 (upd2 (upd2 (upd2 (upd2 (upd2 (upd2 (upd2 (upd2 (upd2 (upd2 (upd2 (upd2 (upd2 I 0 40 (nI 0)) 17 (0) (nI 0)) 17 (1) ((-99 : Int32))) 17 (2) (nI 0)) 17 (3) (nI 0)) 17 (4) (nI 0)) 17 (5) ((-99 : Int32))) 17 (6) (nI 0)) 17 (7) (nI 0)) 17 (8) (nI 0)) 17 (9) ((-99 : Int32))) 17 (10) (nI 0)) 17 (11) (nI 0)) 17 (12) (nI 0)) 17 (13) ((-99 : Int32))) 17 (14) (nI 0)) 17 (15) (nI 0)) 17 (16) (nI 0)) 17 (17) ((-99 : Int32))) 17 (18) (nI 0)) 17 (19) (nI 0)) 17 (20) (nI 0)) 17 (21) ((-99 : Int32))) 17 (22) (nI 0)) 17 (23) (nI 0)) 17 (24) (nI 0)) 17 (25) ((-99 : Int32))) 17 (26) (nI 0)) 17 (27) (nI 0)) 17 (28) (nI 0)) 17 (29) ((-99 : Int32))) 17 (30) (nI 0)) 0 [.int (nI 0), .int (nI 7), .int (nI 3)] [] from ?_))
  refine aw_bipush (v := nI 36) cb_36 d_X_spot_0 ?_
  refine aw_iload_n rfl rfl d_X_spot_2 ?_
  refine aw_imul d_X_spot_3 ?_
  refine aw_top (x2 := nI 0) (by decide +kernel) ?_
  refine aw_iconst (v := nI 4) ci_4 d_X_spot_4 ?_
  refine aw_iload_n rfl rfl d_X_spot_5 ?_
  refine aw_imul d_X_spot_6 ?_
  refine aw_top (x2 := nI 28) (by decide +kernel) ?_
  refine aw_iadd d_X_spot_7 ?_
  refine aw_top (x2 := nI 28) (by decide +kernel) ?_
  refine aw_iload_n rfl rfl d_X_spot_8 ?_
  refine aw_iadd d_X_spot_9 ?_
  refine aw_top (x2 := nI 31) (by decide +kernel) ?_
  refine as_reti rfl d_X_spot_10 ?_
  refine (show As l b 5 y_X_reckons KM RM K2 (upd2 (upd2 (upd2 (upd2 (upd2 (upd2 (upd2 (upd2 (upd2 (upd2 (upd2 (upd2 (upd2 (upd2 (upd2 (upd2 (upd2 (upd2 (upd2 (upd2 (upd2 (upd2 (upd2 (upd2 (upd2 (upd2 (upd2 (upd2 (upd2 (upd2 (upd2 (upd2 I 0 40 (nI 0)) 17 (0) (nI 0)) 17 (1) ((-99 : Int32))) 17 (2) (nI 0)) 17 (3) (nI 0)) 17 (4) (nI 0)) 17 (5) ((-99 : Int32))) 17 (6) (nI 0)) 17 (7) (nI 0)) 17 (8) (nI 0)) 17 (9) ((-99 : Int32))) 17 (10) (nI 0)) 17 (11) (nI 0)) 17 (12) (nI 0)) 17 (13) ((-99 : Int32))) 17 (14) (nI 0)) 17 (15) (nI 0)) 17 (16) (nI 0)) 17 (17) ((-99 : Int32))) 17 (18) (nI 0)) 17 (19) (nI 0)) 17 (20) (nI 0)) 17 (21) ((-99 : Int32))) 17 (22) (nI 0)) 17 (23) (nI 0)) 17 (24) (nI 0)) 17 (25) ((-99 : Int32))) 17 (26) (nI 0)) 17 (27) (nI 0)) 17 (28) (nI 0)) 17 (29) ((-99 : Int32))) 17 (30) (nI 0)) 32 [.ref 0, .int (nI 7), .int (nI 3), uu, uu, uu] [.int (nI 31), .ref 17] from ?_)
  refine aw_iload_n rfl rfl d_X_reckons_32 ?_
  refine aw_iconst (v := nI 1) ci_1 d_X_reckons_33 ?_
  refine aw_icmp_neI (tgt := 42) (3) (1) (by decide +kernel) (by decide +kernel) (by decide) d_X_reckons_34 (fun _ => ?_) (fun q => absurd q (by decide))
  refine aw_iconst (v := nI 0) ci_0 d_X_reckons_42 ?_
  refine aw_iast (j := 31) km_17 (vp_in_nI (by decide) (by decide)) (nI_clamp (by decide)) d_X_reckons_43 ?_
  refine aw_iinc (v := nI 4) (lv2 := [.ref 0, .int (nI 7), .int (nI 4), uu, uu, uu]) rfl (by decide +kernel) (by decide) rfl d_X_reckons_44 ?_
  refine aw_goto (tgt := 14) (by decide) d_X_reckons_47 ?_
  refine aw_iload_n rfl rfl d_X_reckons_14 ?_
  refine aw_iconst (v := nI 4) ci_4 d_X_reckons_15 ?_
  refine aw_icmp_geI (tgt := 50) (4) (4) (by decide +kernel) (by decide +kernel) (by decide) d_X_reckons_16 (fun _ => ?_) (fun q => absurd q (by decide))
  refine aw_iinc (v := nI 8) (lv2 := [.ref 0, .int (nI 8), .int (nI 4), uu, uu, uu]) rfl (by decide +kernel) (by decide) rfl d_X_reckons_50 ?_
  refine aw_goto (tgt := 6) (by decide) d_X_reckons_53 ?_
  refine aw_iload_n rfl rfl d_X_reckons_6 ?_
  refine aw_bipush (v := nI 9) cb_9 d_X_reckons_7 ?_
  refine aw_icmp_geI (tgt := 56) (8) (9) (by decide +kernel) (by decide +kernel) (by decide) d_X_reckons_9 (fun q => absurd q (by decide)) (fun _ => ?_)
  refine aw_iconst (v := nI 0) ci_0 d_X_reckons_12 ?_
  refine aw_istore_n (lv2 := [.ref 0, .int (nI 8), .int (nI 0), uu, uu, uu]) rfl (by decide) rfl d_X_reckons_13 ?_
  refine aw_iload_n rfl rfl d_X_reckons_14 ?_
  refine aw_iconst (v := nI 4) ci_4 d_X_reckons_15 ?_
  refine aw_icmp_geI (tgt := 50) (0) (4) (by decide +kernel) (by decide +kernel) (by decide) d_X_reckons_16 (fun q => absurd q (by decide)) (fun _ => ?_)
  refine aw_aload_n rfl rfl d_X_reckons_19 ?_
  refine aw_getr fl_X_69 km_0 (by decide) rfl rm_0_39 d_X_reckons_20 ?_
  refine aw_aload_n rfl rfl d_X_reckons_23 ?_
  refine aw_geti fl_X_347 km_0 (by decide) rfl d_X_reckons_24 ?_
  refine aw_top (x2 := nI 0) (Eq.trans (congrFun (upd2_ne (by decide)) (40)) (Eq.trans (congrFun (upd2_ne (by decide)) (40)) (Eq.trans (congrFun (upd2_ne (by decide)) (40)) (Eq.trans (congrFun (upd2_ne (by decide)) (40)) (Eq.trans (congrFun (upd2_ne (by decide)) (40)) (Eq.trans (congrFun (upd2_ne (by decide)) (40)) (Eq.trans (congrFun (upd2_ne (by decide)) (40)) (Eq.trans (congrFun (upd2_ne (by decide)) (40)) (Eq.trans (congrFun (upd2_ne (by decide)) (40)) (Eq.trans (congrFun (upd2_ne (by decide)) (40)) (Eq.trans (congrFun (upd2_ne (by decide)) (40)) (Eq.trans (congrFun (upd2_ne (by decide)) (40)) (Eq.trans (congrFun (upd2_ne (by decide)) (40)) (Eq.trans (congrFun (upd2_ne (by decide)) (40)) (Eq.trans (congrFun (upd2_ne (by decide)) (40)) (Eq.trans (congrFun (upd2_ne (by decide)) (40)) (Eq.trans (congrFun (upd2_ne (by decide)) (40)) (Eq.trans (congrFun (upd2_ne (by decide)) (40)) (Eq.trans (congrFun (upd2_ne (by decide)) (40)) (Eq.trans (congrFun (upd2_ne (by decide)) (40)) (Eq.trans (congrFun (upd2_ne (by decide)) (40)) (Eq.trans (congrFun (upd2_ne (by decide)) (40)) (Eq.trans (congrFun (upd2_ne (by decide)) (40)) (Eq.trans (congrFun (upd2_ne (by decide)) (40)) (Eq.trans (congrFun (upd2_ne (by decide)) (40)) (Eq.trans (congrFun (upd2_ne (by decide)) (40)) (Eq.trans (congrFun (upd2_ne (by decide)) (40)) (Eq.trans (congrFun (upd2_ne (by decide)) (40)) (Eq.trans (congrFun (upd2_ne (by decide)) (40)) (Eq.trans (congrFun (upd2_ne (by decide)) (40)) (Eq.trans (congrFun (upd2_ne (by decide)) (40)) (Eq.trans (congrFun (upd2_ne (by decide)) (40)) (upd2_eq))))))))))))))))))))))))))))))))) ?_
  refine aw_iload_n rfl rfl d_X_reckons_27 ?_
  refine aw_iload_n rfl rfl d_X_reckons_28 ?_
  refine as_callS (as := [.int (nI 0), .int (nI 8), .int (nI 0)]) (d' := 4) mo_X_spot lk_X_353 rfl ⟨by decide, by decide⟩ rfl rfl (by decide) d_X_reckons_29 (Ss.of (show As l b 4 y_X_spot KM RM _ (upd2 (upd2 (upd2 (upd2 (upd2 (upd2 (upd2 (upd2 (upd2 (upd2 (upd2 (upd2 (upd2 (upd2 (upd2 (upd2 (upd2 (upd2 (upd2 (upd2 (upd2 (upd2 (upd2 (upd2 (upd2 (upd2 (upd2 (upd2 (upd2 (upd2 (upd2 (upd2 (upd2 I 0 40 (nI 0)) 17 (0) (nI 0)) 17 (1) ((-99 : Int32))) 17 (2) (nI 0)) 17 (3) (nI 0)) 17 (4) (nI 0)) 17 (5) ((-99 : Int32))) 17 (6) (nI 0)) 17 (7) (nI 0)) 17 (8) (nI 0)) 17 (9) ((-99 : Int32))) 17 (10) (nI 0)) 17 (11) (nI 0)) 17 (12) (nI 0)) 17 (13) ((-99 : Int32))) 17 (14) (nI 0)) 17 (15) (nI 0)) 17 (16) (nI 0)) 17 (17) ((-99 : Int32))) 17 (18) (nI 0)) 17 (19) (nI 0)) 17 (20) (nI 0)) 17 (21) ((-99 : Int32))) 17 (22) (nI 0)) 17 (23) (nI 0)) 17 (24) (nI 0)) 17 (25) ((-99 : Int32))) 17 (26) (nI 0)) 17 (27) (nI 0)) 17 (28) (nI 0)) 17 (29) ((-99 : Int32))) 17 (30) (nI 0)) 17 (31) (nI 0)) 0 [.int (nI 0), .int (nI 8), .int (nI 0)] [] from ?_))
  refine aw_bipush (v := nI 36) cb_36 d_X_spot_0 ?_
  refine aw_iload_n rfl rfl d_X_spot_2 ?_
  refine aw_imul d_X_spot_3 ?_
  refine aw_top (x2 := nI 0) (by decide +kernel) ?_
  refine aw_iconst (v := nI 4) ci_4 d_X_spot_4 ?_
  refine aw_iload_n rfl rfl d_X_spot_5 ?_
  refine aw_imul d_X_spot_6 ?_
  refine aw_top (x2 := nI 32) (by decide +kernel) ?_
  refine aw_iadd d_X_spot_7 ?_
  refine aw_top (x2 := nI 32) (by decide +kernel) ?_
  refine aw_iload_n rfl rfl d_X_spot_8 ?_
  refine aw_iadd d_X_spot_9 ?_
  refine aw_top (x2 := nI 32) (by decide +kernel) ?_
  refine as_reti rfl d_X_spot_10 ?_
  refine (show As l b 5 y_X_reckons KM RM K2 (upd2 (upd2 (upd2 (upd2 (upd2 (upd2 (upd2 (upd2 (upd2 (upd2 (upd2 (upd2 (upd2 (upd2 (upd2 (upd2 (upd2 (upd2 (upd2 (upd2 (upd2 (upd2 (upd2 (upd2 (upd2 (upd2 (upd2 (upd2 (upd2 (upd2 (upd2 (upd2 (upd2 I 0 40 (nI 0)) 17 (0) (nI 0)) 17 (1) ((-99 : Int32))) 17 (2) (nI 0)) 17 (3) (nI 0)) 17 (4) (nI 0)) 17 (5) ((-99 : Int32))) 17 (6) (nI 0)) 17 (7) (nI 0)) 17 (8) (nI 0)) 17 (9) ((-99 : Int32))) 17 (10) (nI 0)) 17 (11) (nI 0)) 17 (12) (nI 0)) 17 (13) ((-99 : Int32))) 17 (14) (nI 0)) 17 (15) (nI 0)) 17 (16) (nI 0)) 17 (17) ((-99 : Int32))) 17 (18) (nI 0)) 17 (19) (nI 0)) 17 (20) (nI 0)) 17 (21) ((-99 : Int32))) 17 (22) (nI 0)) 17 (23) (nI 0)) 17 (24) (nI 0)) 17 (25) ((-99 : Int32))) 17 (26) (nI 0)) 17 (27) (nI 0)) 17 (28) (nI 0)) 17 (29) ((-99 : Int32))) 17 (30) (nI 0)) 17 (31) (nI 0)) 32 [.ref 0, .int (nI 8), .int (nI 0), uu, uu, uu] [.int (nI 32), .ref 17] from ?_)
  refine aw_iload_n rfl rfl d_X_reckons_32 ?_
  refine aw_iconst (v := nI 1) ci_1 d_X_reckons_33 ?_
  refine aw_icmp_neI (tgt := 42) (0) (1) (by decide +kernel) (by decide +kernel) (by decide) d_X_reckons_34 (fun _ => ?_) (fun q => absurd q (by decide))
  refine aw_iconst (v := nI 0) ci_0 d_X_reckons_42 ?_
  refine aw_iast (j := 32) km_17 (vp_in_nI (by decide) (by decide)) (nI_clamp (by decide)) d_X_reckons_43 ?_
  refine aw_iinc (v := nI 1) (lv2 := [.ref 0, .int (nI 8), .int (nI 1), uu, uu, uu]) rfl (by decide +kernel) (by decide) rfl d_X_reckons_44 ?_
  refine aw_goto (tgt := 14) (by decide) d_X_reckons_47 ?_
  refine aw_iload_n rfl rfl d_X_reckons_14 ?_
  refine aw_iconst (v := nI 4) ci_4 d_X_reckons_15 ?_
  refine aw_icmp_geI (tgt := 50) (1) (4) (by decide +kernel) (by decide +kernel) (by decide) d_X_reckons_16 (fun q => absurd q (by decide)) (fun _ => ?_)
  refine aw_aload_n rfl rfl d_X_reckons_19 ?_
  refine aw_getr fl_X_69 km_0 (by decide) rfl rm_0_39 d_X_reckons_20 ?_
  refine aw_aload_n rfl rfl d_X_reckons_23 ?_
  refine aw_geti fl_X_347 km_0 (by decide) rfl d_X_reckons_24 ?_
  refine aw_top (x2 := nI 0) (Eq.trans (congrFun (upd2_ne (by decide)) (40)) (Eq.trans (congrFun (upd2_ne (by decide)) (40)) (Eq.trans (congrFun (upd2_ne (by decide)) (40)) (Eq.trans (congrFun (upd2_ne (by decide)) (40)) (Eq.trans (congrFun (upd2_ne (by decide)) (40)) (Eq.trans (congrFun (upd2_ne (by decide)) (40)) (Eq.trans (congrFun (upd2_ne (by decide)) (40)) (Eq.trans (congrFun (upd2_ne (by decide)) (40)) (Eq.trans (congrFun (upd2_ne (by decide)) (40)) (Eq.trans (congrFun (upd2_ne (by decide)) (40)) (Eq.trans (congrFun (upd2_ne (by decide)) (40)) (Eq.trans (congrFun (upd2_ne (by decide)) (40)) (Eq.trans (congrFun (upd2_ne (by decide)) (40)) (Eq.trans (congrFun (upd2_ne (by decide)) (40)) (Eq.trans (congrFun (upd2_ne (by decide)) (40)) (Eq.trans (congrFun (upd2_ne (by decide)) (40)) (Eq.trans (congrFun (upd2_ne (by decide)) (40)) (Eq.trans (congrFun (upd2_ne (by decide)) (40)) (Eq.trans (congrFun (upd2_ne (by decide)) (40)) (Eq.trans (congrFun (upd2_ne (by decide)) (40)) (Eq.trans (congrFun (upd2_ne (by decide)) (40)) (Eq.trans (congrFun (upd2_ne (by decide)) (40)) (Eq.trans (congrFun (upd2_ne (by decide)) (40)) (Eq.trans (congrFun (upd2_ne (by decide)) (40)) (Eq.trans (congrFun (upd2_ne (by decide)) (40)) (Eq.trans (congrFun (upd2_ne (by decide)) (40)) (Eq.trans (congrFun (upd2_ne (by decide)) (40)) (Eq.trans (congrFun (upd2_ne (by decide)) (40)) (Eq.trans (congrFun (upd2_ne (by decide)) (40)) (Eq.trans (congrFun (upd2_ne (by decide)) (40)) (Eq.trans (congrFun (upd2_ne (by decide)) (40)) (Eq.trans (congrFun (upd2_ne (by decide)) (40)) (Eq.trans (congrFun (upd2_ne (by decide)) (40)) (upd2_eq)))))))))))))))))))))))))))))))))) ?_
  refine aw_iload_n rfl rfl d_X_reckons_27 ?_
  refine aw_iload_n rfl rfl d_X_reckons_28 ?_
  refine as_callS (as := [.int (nI 0), .int (nI 8), .int (nI 1)]) (d' := 4) mo_X_spot lk_X_353 rfl ⟨by decide, by decide⟩ rfl rfl (by decide) d_X_reckons_29 (Ss.of (show As l b 4 y_X_spot KM RM _ (upd2 (upd2 (upd2 (upd2 (upd2 (upd2 (upd2 (upd2 (upd2 (upd2 (upd2 (upd2 (upd2 (upd2 (upd2 (upd2 (upd2 (upd2 (upd2 (upd2 (upd2 (upd2 (upd2 (upd2 (upd2 (upd2 (upd2 (upd2 (upd2 (upd2 (upd2 (upd2 (upd2 (upd2 I 0 40 (nI 0)) 17 (0) (nI 0)) 17 (1) ((-99 : Int32))) 17 (2) (nI 0)) 17 (3) (nI 0)) 17 (4) (nI 0)) 17 (5) ((-99 : Int32))) 17 (6) (nI 0)) 17 (7) (nI 0)) 17 (8) (nI 0)) 17 (9) ((-99 : Int32))) 17 (10) (nI 0)) 17 (11) (nI 0)) 17 (12) (nI 0)) 17 (13) ((-99 : Int32))) 17 (14) (nI 0)) 17 (15) (nI 0)) 17 (16) (nI 0)) 17 (17) ((-99 : Int32))) 17 (18) (nI 0)) 17 (19) (nI 0)) 17 (20) (nI 0)) 17 (21) ((-99 : Int32))) 17 (22) (nI 0)) 17 (23) (nI 0)) 17 (24) (nI 0)) 17 (25) ((-99 : Int32))) 17 (26) (nI 0)) 17 (27) (nI 0)) 17 (28) (nI 0)) 17 (29) ((-99 : Int32))) 17 (30) (nI 0)) 17 (31) (nI 0)) 17 (32) (nI 0)) 0 [.int (nI 0), .int (nI 8), .int (nI 1)] [] from ?_))
  refine aw_bipush (v := nI 36) cb_36 d_X_spot_0 ?_
  refine aw_iload_n rfl rfl d_X_spot_2 ?_
  refine aw_imul d_X_spot_3 ?_
  refine aw_top (x2 := nI 0) (by decide +kernel) ?_
  refine aw_iconst (v := nI 4) ci_4 d_X_spot_4 ?_
  refine aw_iload_n rfl rfl d_X_spot_5 ?_
  refine aw_imul d_X_spot_6 ?_
  refine aw_top (x2 := nI 32) (by decide +kernel) ?_
  refine aw_iadd d_X_spot_7 ?_
  refine aw_top (x2 := nI 32) (by decide +kernel) ?_
  refine aw_iload_n rfl rfl d_X_spot_8 ?_
  refine aw_iadd d_X_spot_9 ?_
  refine aw_top (x2 := nI 33) (by decide +kernel) ?_
  refine as_reti rfl d_X_spot_10 ?_
  refine (show As l b 5 y_X_reckons KM RM K2 (upd2 (upd2 (upd2 (upd2 (upd2 (upd2 (upd2 (upd2 (upd2 (upd2 (upd2 (upd2 (upd2 (upd2 (upd2 (upd2 (upd2 (upd2 (upd2 (upd2 (upd2 (upd2 (upd2 (upd2 (upd2 (upd2 (upd2 (upd2 (upd2 (upd2 (upd2 (upd2 (upd2 (upd2 I 0 40 (nI 0)) 17 (0) (nI 0)) 17 (1) ((-99 : Int32))) 17 (2) (nI 0)) 17 (3) (nI 0)) 17 (4) (nI 0)) 17 (5) ((-99 : Int32))) 17 (6) (nI 0)) 17 (7) (nI 0)) 17 (8) (nI 0)) 17 (9) ((-99 : Int32))) 17 (10) (nI 0)) 17 (11) (nI 0)) 17 (12) (nI 0)) 17 (13) ((-99 : Int32))) 17 (14) (nI 0)) 17 (15) (nI 0)) 17 (16) (nI 0)) 17 (17) ((-99 : Int32))) 17 (18) (nI 0)) 17 (19) (nI 0)) 17 (20) (nI 0)) 17 (21) ((-99 : Int32))) 17 (22) (nI 0)) 17 (23) (nI 0)) 17 (24) (nI 0)) 17 (25) ((-99 : Int32))) 17 (26) (nI 0)) 17 (27) (nI 0)) 17 (28) (nI 0)) 17 (29) ((-99 : Int32))) 17 (30) (nI 0)) 17 (31) (nI 0)) 17 (32) (nI 0)) 32 [.ref 0, .int (nI 8), .int (nI 1), uu, uu, uu] [.int (nI 33), .ref 17] from ?_)
  refine aw_iload_n rfl rfl d_X_reckons_32 ?_
  refine aw_iconst (v := nI 1) ci_1 d_X_reckons_33 ?_
  refine aw_icmp_neI (tgt := 42) (1) (1) (by decide +kernel) (by decide +kernel) (by decide) d_X_reckons_34 (fun q => absurd q (by decide)) (fun _ => ?_)
  refine aw_bipush (v := (-99 : Int32)) rfl d_X_reckons_37 ?_
  refine aw_goto (tgt := 43) (by decide) d_X_reckons_39 ?_
  refine aw_iast (j := 33) km_17 (vp_in_nI (by decide) (by decide)) (nI_clamp (by decide)) d_X_reckons_43 ?_
  refine aw_iinc (v := nI 2) (lv2 := [.ref 0, .int (nI 8), .int (nI 2), uu, uu, uu]) rfl (by decide +kernel) (by decide) rfl d_X_reckons_44 ?_
  refine aw_goto (tgt := 14) (by decide) d_X_reckons_47 ?_
  refine aw_iload_n rfl rfl d_X_reckons_14 ?_
  refine aw_iconst (v := nI 4) ci_4 d_X_reckons_15 ?_
  refine aw_icmp_geI (tgt := 50) (2) (4) (by decide +kernel) (by decide +kernel) (by decide) d_X_reckons_16 (fun q => absurd q (by decide)) (fun _ => ?_)
  refine aw_aload_n rfl rfl d_X_reckons_19 ?_
  refine aw_getr fl_X_69 km_0 (by decide) rfl rm_0_39 d_X_reckons_20 ?_
  refine aw_aload_n rfl rfl d_X_reckons_23 ?_
  refine aw_geti fl_X_347 km_0 (by decide) rfl d_X_reckons_24 ?_
  refine aw_top (x2 := nI 0) (Eq.trans (congrFun (upd2_ne (by decide)) (40)) (Eq.trans (congrFun (upd2_ne (by decide)) (40)) (Eq.trans (congrFun (upd2_ne (by decide)) (40)) (Eq.trans (congrFun (upd2_ne (by decide)) (40)) (Eq.trans (congrFun (upd2_ne (by decide)) (40)) (Eq.trans (congrFun (upd2_ne (by decide)) (40)) (Eq.trans (congrFun (upd2_ne (by decide)) (40)) (Eq.trans (congrFun (upd2_ne (by decide)) (40)) (Eq.trans (congrFun (upd2_ne (by decide)) (40)) (Eq.trans (congrFun (upd2_ne (by decide)) (40)) (Eq.trans (congrFun (upd2_ne (by decide)) (40)) (Eq.trans (congrFun (upd2_ne (by decide)) (40)) (Eq.trans (congrFun (upd2_ne (by decide)) (40)) (Eq.trans (congrFun (upd2_ne (by decide)) (40)) (Eq.trans (congrFun (upd2_ne (by decide)) (40)) (Eq.trans (congrFun (upd2_ne (by decide)) (40)) (Eq.trans (congrFun (upd2_ne (by decide)) (40)) (Eq.trans (congrFun (upd2_ne (by decide)) (40)) (Eq.trans (congrFun (upd2_ne (by decide)) (40)) (Eq.trans (congrFun (upd2_ne (by decide)) (40)) (Eq.trans (congrFun (upd2_ne (by decide)) (40)) (Eq.trans (congrFun (upd2_ne (by decide)) (40)) (Eq.trans (congrFun (upd2_ne (by decide)) (40)) (Eq.trans (congrFun (upd2_ne (by decide)) (40)) (Eq.trans (congrFun (upd2_ne (by decide)) (40)) (Eq.trans (congrFun (upd2_ne (by decide)) (40)) (Eq.trans (congrFun (upd2_ne (by decide)) (40)) (Eq.trans (congrFun (upd2_ne (by decide)) (40)) (Eq.trans (congrFun (upd2_ne (by decide)) (40)) (Eq.trans (congrFun (upd2_ne (by decide)) (40)) (Eq.trans (congrFun (upd2_ne (by decide)) (40)) (Eq.trans (congrFun (upd2_ne (by decide)) (40)) (Eq.trans (congrFun (upd2_ne (by decide)) (40)) (Eq.trans (congrFun (upd2_ne (by decide)) (40)) (upd2_eq))))))))))))))))))))))))))))))))))) ?_
  refine aw_iload_n rfl rfl d_X_reckons_27 ?_
  refine aw_iload_n rfl rfl d_X_reckons_28 ?_
  refine as_callS (as := [.int (nI 0), .int (nI 8), .int (nI 2)]) (d' := 4) mo_X_spot lk_X_353 rfl ⟨by decide, by decide⟩ rfl rfl (by decide) d_X_reckons_29 (Ss.of (show As l b 4 y_X_spot KM RM _ (upd2 (upd2 (upd2 (upd2 (upd2 (upd2 (upd2 (upd2 (upd2 (upd2 (upd2 (upd2 (upd2 (upd2 (upd2 (upd2 (upd2 (upd2 (upd2 (upd2 (upd2 (upd2 (upd2 (upd2 (upd2 (upd2 (upd2 (upd2 (upd2 (upd2 (upd2 (upd2 (upd2 (upd2 (upd2 I 0 40 (nI 0)) 17 (0) (nI 0)) 17 (1) ((-99 : Int32))) 17 (2) (nI 0)) 17 (3) (nI 0)) 17 (4) (nI 0)) 17 (5) ((-99 : Int32))) 17 (6) (nI 0)) 17 (7) (nI 0)) 17 (8) (nI 0)) 17 (9) ((-99 : Int32))) 17 (10) (nI 0)) 17 (11) (nI 0)) 17 (12) (nI 0)) 17 (13) ((-99 : Int32))) 17 (14) (nI 0)) 17 (15) (nI 0)) 17 (16) (nI 0)) 17 (17) ((-99 : Int32))) 17 (18) (nI 0)) 17 (19) (nI 0)) 17 (20) (nI 0)) 17 (21) ((-99 : Int32))) 17 (22) (nI 0)) 17 (23) (nI 0)) 17 (24) (nI 0)) 17 (25) ((-99 : Int32))) 17 (26) (nI 0)) 17 (27) (nI 0)) 17 (28) (nI 0)) 17 (29) ((-99 : Int32))) 17 (30) (nI 0)) 17 (31) (nI 0)) 17 (32) (nI 0)) 17 (33) ((-99 : Int32))) 0 [.int (nI 0), .int (nI 8), .int (nI 2)] [] from ?_))
  refine aw_bipush (v := nI 36) cb_36 d_X_spot_0 ?_
  refine aw_iload_n rfl rfl d_X_spot_2 ?_
  refine aw_imul d_X_spot_3 ?_
  refine aw_top (x2 := nI 0) (by decide +kernel) ?_
  refine aw_iconst (v := nI 4) ci_4 d_X_spot_4 ?_
  refine aw_iload_n rfl rfl d_X_spot_5 ?_
  refine aw_imul d_X_spot_6 ?_
  refine aw_top (x2 := nI 32) (by decide +kernel) ?_
  refine aw_iadd d_X_spot_7 ?_
  refine aw_top (x2 := nI 32) (by decide +kernel) ?_
  refine aw_iload_n rfl rfl d_X_spot_8 ?_
  refine aw_iadd d_X_spot_9 ?_
  refine aw_top (x2 := nI 34) (by decide +kernel) ?_
  refine as_reti rfl d_X_spot_10 ?_
  refine (show As l b 5 y_X_reckons KM RM K2 (upd2 (upd2 (upd2 (upd2 (upd2 (upd2 (upd2 (upd2 (upd2 (upd2 (upd2 (upd2 (upd2 (upd2 (upd2 (upd2 (upd2 (upd2 (upd2 (upd2 (upd2 (upd2 (upd2 (upd2 (upd2 (upd2 (upd2 (upd2 (upd2 (upd2 (upd2 (upd2 (upd2 (upd2 (upd2 I 0 40 (nI 0)) 17 (0) (nI 0)) 17 (1) ((-99 : Int32))) 17 (2) (nI 0)) 17 (3) (nI 0)) 17 (4) (nI 0)) 17 (5) ((-99 : Int32))) 17 (6) (nI 0)) 17 (7) (nI 0)) 17 (8) (nI 0)) 17 (9) ((-99 : Int32))) 17 (10) (nI 0)) 17 (11) (nI 0)) 17 (12) (nI 0)) 17 (13) ((-99 : Int32))) 17 (14) (nI 0)) 17 (15) (nI 0)) 17 (16) (nI 0)) 17 (17) ((-99 : Int32))) 17 (18) (nI 0)) 17 (19) (nI 0)) 17 (20) (nI 0)) 17 (21) ((-99 : Int32))) 17 (22) (nI 0)) 17 (23) (nI 0)) 17 (24) (nI 0)) 17 (25) ((-99 : Int32))) 17 (26) (nI 0)) 17 (27) (nI 0)) 17 (28) (nI 0)) 17 (29) ((-99 : Int32))) 17 (30) (nI 0)) 17 (31) (nI 0)) 17 (32) (nI 0)) 17 (33) ((-99 : Int32))) 32 [.ref 0, .int (nI 8), .int (nI 2), uu, uu, uu] [.int (nI 34), .ref 17] from ?_)
  refine aw_iload_n rfl rfl d_X_reckons_32 ?_
  refine aw_iconst (v := nI 1) ci_1 d_X_reckons_33 ?_
  refine aw_icmp_neI (tgt := 42) (2) (1) (by decide +kernel) (by decide +kernel) (by decide) d_X_reckons_34 (fun _ => ?_) (fun q => absurd q (by decide))
  refine aw_iconst (v := nI 0) ci_0 d_X_reckons_42 ?_
  refine aw_iast (j := 34) km_17 (vp_in_nI (by decide) (by decide)) (nI_clamp (by decide)) d_X_reckons_43 ?_
  refine aw_iinc (v := nI 3) (lv2 := [.ref 0, .int (nI 8), .int (nI 3), uu, uu, uu]) rfl (by decide +kernel) (by decide) rfl d_X_reckons_44 ?_
  refine aw_goto (tgt := 14) (by decide) d_X_reckons_47 ?_
  refine aw_iload_n rfl rfl d_X_reckons_14 ?_
  refine aw_iconst (v := nI 4) ci_4 d_X_reckons_15 ?_
  refine aw_icmp_geI (tgt := 50) (3) (4) (by decide +kernel) (by decide +kernel) (by decide) d_X_reckons_16 (fun q => absurd q (by decide)) (fun _ => ?_)
  refine aw_aload_n rfl rfl d_X_reckons_19 ?_
  refine aw_getr fl_X_69 km_0 (by decide) rfl rm_0_39 d_X_reckons_20 ?_
  refine aw_aload_n rfl rfl d_X_reckons_23 ?_
  refine aw_geti fl_X_347 km_0 (by decide) rfl d_X_reckons_24 ?_
  refine aw_top (x2 := nI 0) (Eq.trans (congrFun (upd2_ne (by decide)) (40)) (Eq.trans (congrFun (upd2_ne (by decide)) (40)) (Eq.trans (congrFun (upd2_ne (by decide)) (40)) (Eq.trans (congrFun (upd2_ne (by decide)) (40)) (Eq.trans (congrFun (upd2_ne (by decide)) (40)) (Eq.trans (congrFun (upd2_ne (by decide)) (40)) (Eq.trans (congrFun (upd2_ne (by decide)) (40)) (Eq.trans (congrFun (upd2_ne (by decide)) (40)) (Eq.trans (congrFun (upd2_ne (by decide)) (40)) (Eq.trans (congrFun (upd2_ne (by decide)) (40)) (Eq.trans (congrFun (upd2_ne (by decide)) (40)) (Eq.trans (congrFun (upd2_ne (by decide)) (40)) (Eq.trans (congrFun (upd2_ne (by decide)) (40)) (Eq.trans (congrFun (upd2_ne (by decide)) (40)) (Eq.trans (congrFun (upd2_ne (by decide)) (40)) (Eq.trans (congrFun (upd2_ne (by decide)) (40)) (Eq.trans (congrFun (upd2_ne (by decide)) (40)) (Eq.trans (congrFun (upd2_ne (by decide)) (40)) (Eq.trans (congrFun (upd2_ne (by decide)) (40)) (Eq.trans (congrFun (upd2_ne (by decide)) (40)) (Eq.trans (congrFun (upd2_ne (by decide)) (40)) (Eq.trans (congrFun (upd2_ne (by decide)) (40)) (Eq.trans (congrFun (upd2_ne (by decide)) (40)) (Eq.trans (congrFun (upd2_ne (by decide)) (40)) (Eq.trans (congrFun (upd2_ne (by decide)) (40)) (Eq.trans (congrFun (upd2_ne (by decide)) (40)) (Eq.trans (congrFun (upd2_ne (by decide)) (40)) (Eq.trans (congrFun (upd2_ne (by decide)) (40)) (Eq.trans (congrFun (upd2_ne (by decide)) (40)) (Eq.trans (congrFun (upd2_ne (by decide)) (40)) (Eq.trans (congrFun (upd2_ne (by decide)) (40)) (Eq.trans (congrFun (upd2_ne (by decide)) (40)) (Eq.trans (congrFun (upd2_ne (by decide)) (40)) (Eq.trans (congrFun (upd2_ne (by decide)) (40)) (Eq.trans (congrFun (upd2_ne (by decide)) (40)) (upd2_eq)))))))))))))))))))))))))))))))))))) ?_
  refine aw_iload_n rfl rfl d_X_reckons_27 ?_
  refine aw_iload_n rfl rfl d_X_reckons_28 ?_
  refine as_callS (as := [.int (nI 0), .int (nI 8), .int (nI 3)]) (d' := 4) mo_X_spot lk_X_353 rfl ⟨by decide, by decide⟩ rfl rfl (by decide) d_X_reckons_29 (Ss.of (show As l b 4 y_X_spot KM RM _ (upd2 (upd2 (upd2 (upd2 (upd2 (upd2 (upd2 (upd2 (upd2 (upd2 (upd2 (upd2 (upd2 (upd2 (upd2 (upd2 (upd2 (upd2 (upd2 (upd2 (upd2 (upd2 (upd2 (upd2 (upd2 (upd2 (upd2 (upd2 (upd2 (upd2 (upd2 (upd2 (upd2 (upd2 (upd2 (upd2 I 0 40 (nI 0)) 17 (0) (nI 0)) 17 (1) ((-99 : Int32))) 17 (2) (nI 0)) 17 (3) (nI 0)) 17 (4) (nI 0)) 17 (5) ((-99 : Int32))) 17 (6) (nI 0)) 17 (7) (nI 0)) 17 (8) (nI 0)) 17 (9) ((-99 : Int32))) 17 (10) (nI 0)) 17 (11) (nI 0)) 17 (12) (nI 0)) 17 (13) ((-99 : Int32))) 17 (14) (nI 0)) 17 (15) (nI 0)) 17 (16) (nI 0)) 17 (17) ((-99 : Int32))) 17 (18) (nI 0)) 17 (19) (nI 0)) 17 (20) (nI 0)) 17 (21) ((-99 : Int32))) 17 (22) (nI 0)) 17 (23) (nI 0)) 17 (24) (nI 0)) 17 (25) ((-99 : Int32))) 17 (26) (nI 0)) 17 (27) (nI 0)) 17 (28) (nI 0)) 17 (29) ((-99 : Int32))) 17 (30) (nI 0)) 17 (31) (nI 0)) 17 (32) (nI 0)) 17 (33) ((-99 : Int32))) 17 (34) (nI 0)) 0 [.int (nI 0), .int (nI 8), .int (nI 3)] [] from ?_))
  refine aw_bipush (v := nI 36) cb_36 d_X_spot_0 ?_
  refine aw_iload_n rfl rfl d_X_spot_2 ?_
  refine aw_imul d_X_spot_3 ?_
  refine aw_top (x2 := nI 0) (by decide +kernel) ?_
  refine aw_iconst (v := nI 4) ci_4 d_X_spot_4 ?_
  refine aw_iload_n rfl rfl d_X_spot_5 ?_
  refine aw_imul d_X_spot_6 ?_
  refine aw_top (x2 := nI 32) (by decide +kernel) ?_
  refine aw_iadd d_X_spot_7 ?_
  refine aw_top (x2 := nI 32) (by decide +kernel) ?_
  refine aw_iload_n rfl rfl d_X_spot_8 ?_
  refine aw_iadd d_X_spot_9 ?_
  refine aw_top (x2 := nI 35) (by decide +kernel) ?_
  refine as_reti rfl d_X_spot_10 ?_
  refine (show As l b 5 y_X_reckons KM RM K2 (upd2 (upd2 (upd2 (upd2 (upd2 (upd2 (upd2 (upd2 (upd2 (upd2 (upd2 (upd2 (upd2 (upd2 (upd2 (upd2 (upd2 (upd2 (upd2 (upd2 (upd2 (upd2 (upd2 (upd2 (upd2 (upd2 (upd2 (upd2 (upd2 (upd2 (upd2 (upd2 (upd2 (upd2 (upd2 (upd2 I 0 40 (nI 0)) 17 (0) (nI 0)) 17 (1) ((-99 : Int32))) 17 (2) (nI 0)) 17 (3) (nI 0)) 17 (4) (nI 0)) 17 (5) ((-99 : Int32))) 17 (6) (nI 0)) 17 (7) (nI 0)) 17 (8) (nI 0)) 17 (9) ((-99 : Int32))) 17 (10) (nI 0)) 17 (11) (nI 0)) 17 (12) (nI 0)) 17 (13) ((-99 : Int32))) 17 (14) (nI 0)) 17 (15) (nI 0)) 17 (16) (nI 0)) 17 (17) ((-99 : Int32))) 17 (18) (nI 0)) 17 (19) (nI 0)) 17 (20) (nI 0)) 17 (21) ((-99 : Int32))) 17 (22) (nI 0)) 17 (23) (nI 0)) 17 (24) (nI 0)) 17 (25) ((-99 : Int32))) 17 (26) (nI 0)) 17 (27) (nI 0)) 17 (28) (nI 0)) 17 (29) ((-99 : Int32))) 17 (30) (nI 0)) 17 (31) (nI 0)) 17 (32) (nI 0)) 17 (33) ((-99 : Int32))) 17 (34) (nI 0)) 32 [.ref 0, .int (nI 8), .int (nI 3), uu, uu, uu] [.int (nI 35), .ref 17] from ?_)
  refine aw_iload_n rfl rfl d_X_reckons_32 ?_
  refine aw_iconst (v := nI 1) ci_1 d_X_reckons_33 ?_
  refine aw_icmp_neI (tgt := 42) (3) (1) (by decide +kernel) (by decide +kernel) (by decide) d_X_reckons_34 (fun _ => ?_) (fun q => absurd q (by decide))
  refine aw_iconst (v := nI 0) ci_0 d_X_reckons_42 ?_
  refine aw_iast (j := 35) km_17 (vp_in_nI (by decide) (by decide)) (nI_clamp (by decide)) d_X_reckons_43 ?_
  refine aw_iinc (v := nI 4) (lv2 := [.ref 0, .int (nI 8), .int (nI 4), uu, uu, uu]) rfl (by decide +kernel) (by decide) rfl d_X_reckons_44 ?_
  refine aw_goto (tgt := 14) (by decide) d_X_reckons_47 ?_
  refine aw_iload_n rfl rfl d_X_reckons_14 ?_
  refine aw_iconst (v := nI 4) ci_4 d_X_reckons_15 ?_
  refine aw_icmp_geI (tgt := 50) (4) (4) (by decide +kernel) (by decide +kernel) (by decide) d_X_reckons_16 (fun _ => ?_) (fun q => absurd q (by decide))
  refine aw_iinc (v := nI 9) (lv2 := [.ref 0, .int (nI 9), .int (nI 4), uu, uu, uu]) rfl (by decide +kernel) (by decide) rfl d_X_reckons_50 ?_
  refine aw_goto (tgt := 6) (by decide) d_X_reckons_53 ?_
  refine aw_iload_n rfl rfl d_X_reckons_6 ?_
  refine aw_bipush (v := nI 9) cb_9 d_X_reckons_7 ?_
  refine aw_icmp_geI (tgt := 56) (9) (9) (by decide +kernel) (by decide +kernel) (by decide) d_X_reckons_9 (fun _ => ?_) (fun q => absurd q (by decide))
  refine aw_aload_n rfl rfl d_X_reckons_56 ?_
  refine aw_geti fl_X_347 km_0 (by decide) rfl d_X_reckons_57 ?_
  refine aw_top (x2 := nI 0) (Eq.trans (congrFun (upd2_ne (by decide)) (40)) (Eq.trans (congrFun (upd2_ne (by decide)) (40)) (Eq.trans (congrFun (upd2_ne (by decide)) (40)) (Eq.trans (congrFun (upd2_ne (by decide)) (40)) (Eq.trans (congrFun (upd2_ne (by decide)) (40)) (Eq.trans (congrFun (upd2_ne (by decide)) (40)) (Eq.trans (congrFun (upd2_ne (by decide)) (40)) (Eq.trans (congrFun (upd2_ne (by decide)) (40)) (Eq.trans (congrFun (upd2_ne (by decide)) (40)) (Eq.trans (congrFun (upd2_ne (by decide)) (40)) (Eq.trans (congrFun (upd2_ne (by decide)) (40)) (Eq.trans (congrFun (upd2_ne (by decide)) (40)) (Eq.trans (congrFun (upd2_ne (by decide)) (40)) (Eq.trans (congrFun (upd2_ne (by decide)) (40)) (Eq.trans (congrFun (upd2_ne (by decide)) (40)) (Eq.trans (congrFun (upd2_ne (by decide)) (40)) (Eq.trans (congrFun (upd2_ne (by decide)) (40)) (Eq.trans (congrFun (upd2_ne (by decide)) (40)) (Eq.trans (congrFun (upd2_ne (by decide)) (40)) (Eq.trans (congrFun (upd2_ne (by decide)) (40)) (Eq.trans (congrFun (upd2_ne (by decide)) (40)) (Eq.trans (congrFun (upd2_ne (by decide)) (40)) (Eq.trans (congrFun (upd2_ne (by decide)) (40)) (Eq.trans (congrFun (upd2_ne (by decide)) (40)) (Eq.trans (congrFun (upd2_ne (by decide)) (40)) (Eq.trans (congrFun (upd2_ne (by decide)) (40)) (Eq.trans (congrFun (upd2_ne (by decide)) (40)) (Eq.trans (congrFun (upd2_ne (by decide)) (40)) (Eq.trans (congrFun (upd2_ne (by decide)) (40)) (Eq.trans (congrFun (upd2_ne (by decide)) (40)) (Eq.trans (congrFun (upd2_ne (by decide)) (40)) (Eq.trans (congrFun (upd2_ne (by decide)) (40)) (Eq.trans (congrFun (upd2_ne (by decide)) (40)) (Eq.trans (congrFun (upd2_ne (by decide)) (40)) (Eq.trans (congrFun (upd2_ne (by decide)) (40)) (Eq.trans (congrFun (upd2_ne (by decide)) (40)) (upd2_eq))))))))))))))))))))))))))))))))))))) ?_
  refine aw_iconst (v := nI 1) ci_1 d_X_reckons_60 ?_
  refine aw_isub d_X_reckons_61 ?_
  refine aw_top (x2 := (-1 : Int32)) (by decide +kernel) ?_
  refine aw_istore_n (lv2 := [.ref 0, .int ((-1 : Int32)), .int (nI 4), uu, uu, uu]) rfl (by decide) rfl d_X_reckons_62 ?_
  refine aw_iload_n rfl rfl d_X_reckons_63 ?_
  refine aw_if_ltI (tgt := 149) (-1) (by decide +kernel) (by decide) d_X_reckons_64 (fun _ => ?_) (fun q => absurd q (by decide))
  exact as_retv rfl d_X_reckons_149 (hK _ (fun q hq => by have n0 : q ≠ 0 := (by omega); have n17 : q ≠ 17 := (by omega); exact (upd2_ne n17).trans ((upd2_ne n17).trans ((upd2_ne n17).trans ((upd2_ne n17).trans ((upd2_ne n17).trans ((upd2_ne n17).trans ((upd2_ne n17).trans ((upd2_ne n17).trans ((upd2_ne n17).trans ((upd2_ne n17).trans ((upd2_ne n17).trans ((upd2_ne n17).trans ((upd2_ne n17).trans ((upd2_ne n17).trans ((upd2_ne n17).trans ((upd2_ne n17).trans ((upd2_ne n17).trans ((upd2_ne n17).trans ((upd2_ne n17).trans ((upd2_ne n17).trans ((upd2_ne n17).trans ((upd2_ne n17).trans ((upd2_ne n17).trans ((upd2_ne n17).trans ((upd2_ne n17).trans ((upd2_ne n17).trans ((upd2_ne n17).trans ((upd2_ne n17).trans ((upd2_ne n17).trans ((upd2_ne n17).trans ((upd2_ne n17).trans ((upd2_ne n17).trans ((upd2_ne n17).trans ((upd2_ne n17).trans ((upd2_ne n17).trans ((upd2_ne n17).trans (upd2_ne n0))))))))))))))))))))))))))))))))))))) (Eq.trans (congrFun (upd2_ne (by decide)) (40)) (Eq.trans (congrFun (upd2_ne (by decide)) (40)) (Eq.trans (congrFun (upd2_ne (by decide)) (40)) (Eq.trans (congrFun (upd2_ne (by decide)) (40)) (Eq.trans (congrFun (upd2_ne (by decide)) (40)) (Eq.trans (congrFun (upd2_ne (by decide)) (40)) (Eq.trans (congrFun (upd2_ne (by decide)) (40)) (Eq.trans (congrFun (upd2_ne (by decide)) (40)) (Eq.trans (congrFun (upd2_ne (by decide)) (40)) (Eq.trans (congrFun (upd2_ne (by decide)) (40)) (Eq.trans (congrFun (upd2_ne (by decide)) (40)) (Eq.trans (congrFun (upd2_ne (by decide)) (40)) (Eq.trans (congrFun (upd2_ne (by decide)) (40)) (Eq.trans (congrFun (upd2_ne (by decide)) (40)) (Eq.trans (congrFun (upd2_ne (by decide)) (40)) (Eq.trans (congrFun (upd2_ne (by decide)) (40)) (Eq.trans (congrFun (upd2_ne (by decide)) (40)) (Eq.trans (congrFun (upd2_ne (by decide)) (40)) (Eq.trans (congrFun (upd2_ne (by decide)) (40)) (Eq.trans (congrFun (upd2_ne (by decide)) (40)) (Eq.trans (congrFun (upd2_ne (by decide)) (40)) (Eq.trans (congrFun (upd2_ne (by decide)) (40)) (Eq.trans (congrFun (upd2_ne (by decide)) (40)) (Eq.trans (congrFun (upd2_ne (by decide)) (40)) (Eq.trans (congrFun (upd2_ne (by decide)) (40)) (Eq.trans (congrFun (upd2_ne (by decide)) (40)) (Eq.trans (congrFun (upd2_ne (by decide)) (40)) (Eq.trans (congrFun (upd2_ne (by decide)) (40)) (Eq.trans (congrFun (upd2_ne (by decide)) (40)) (Eq.trans (congrFun (upd2_ne (by decide)) (40)) (Eq.trans (congrFun (upd2_ne (by decide)) (40)) (Eq.trans (congrFun (upd2_ne (by decide)) (40)) (Eq.trans (congrFun (upd2_ne (by decide)) (40)) (Eq.trans (congrFun (upd2_ne (by decide)) (40)) (Eq.trans (congrFun (upd2_ne (by decide)) (40)) (Eq.trans (congrFun (upd2_ne (by decide)) (40)) (upd2_eq))))))))))))))))))))))))))))))))))))) (Eq.trans (upd2_nx (by omega)) (Eq.trans (upd2_nx (by omega)) (Eq.trans (upd2_nx (by omega)) (Eq.trans (upd2_nx (by omega)) (Eq.trans (upd2_nx (by omega)) (Eq.trans (upd2_nx (by omega)) (Eq.trans (upd2_nx (by omega)) (Eq.trans (upd2_nx (by omega)) (Eq.trans (upd2_nx (by omega)) (Eq.trans (upd2_nx (by omega)) (Eq.trans (upd2_nx (by omega)) (Eq.trans (upd2_nx (by omega)) (Eq.trans (upd2_nx (by omega)) (Eq.trans (upd2_nx (by omega)) (Eq.trans (upd2_nx (by omega)) (Eq.trans (upd2_nx (by omega)) (Eq.trans (upd2_nx (by omega)) (Eq.trans (upd2_nx (by omega)) (Eq.trans (upd2_nx (by omega)) (upd2_eq)))))))))))))))))))))
set_option maxRecDepth 20000 in
theorem ms_look {K2 : K2T} {I : Nat → Nat → Int32} (hR : FRm I) {x : Int32} (hg : 0 ≤ x.toInt ∧ x.toInt < 6 → ∀ I', K2 (some (.int (nI 0))) I') (hb : ¬ (0 ≤ x.toInt ∧ x.toInt < 6) → ∀ I', K2 (some (.int (-1))) I') : Ss l b 14 y_X_look KM RM [.ref 0, .int (x)] (I) K2 := by
  obtain ⟨hF, w0, w2, w3, w5, w6, w7, w73, w74, wh, w110, o3, o12, o19, o21, o22, o23, o35⟩ := hR
  have hF0 := hF
  obtain ⟨g0, g1, g2, g3, g4, g5, g6, g7, g8, g9, g10, g11, g12, gb⟩ := hF
  refine Ss.of (show As l b 14 y_X_look KM RM K2 (I) 0 [.ref 0, .int (x), uu, uu] [] from ?_)
  refine aw_iload_n rfl rfl d_X_look_0 ?_
  refine as_callS (as := [.int (x)]) (d' := 13) mo_X_isLine lk_X_105 rfl ⟨by decide, by decide⟩ rfl rfl (by decide) d_X_look_1 (Ss.of (show As l b 13 y_X_isLine KM RM _ (I) 0 [.int (x)] [] from ?_))
  refine aw_iload_n rfl rfl d_X_isLine_0 ?_
  refine aw_iconst (v := nI 0) ci_0 d_X_isLine_1 ?_
  refine aw_iconst (v := nI 5) ci_5 d_X_isLine_2 ?_
  refine as_callS (as := [.int (x), .int (nI 0), .int (nI 5)]) (d' := 12) mo_X_isIn lk_X_98 rfl ⟨by decide, by decide⟩ rfl rfl (by decide) d_X_isLine_3 (Ss.of (show As l b 12 y_X_isIn KM RM _ (I) 0 [.int (x), .int (nI 0), .int (nI 5)] [] from ?_))
  refine aw_iload_n rfl rfl d_X_isIn_0 ?_
  refine aw_iload_n rfl rfl d_X_isIn_1 ?_
  refine aw_icmp_ltI (tgt := 14) (x).toInt (0) rfl (by decide +kernel) (by decide) d_X_isIn_2 (fun c1 => ?_) (fun c1 => ?_)
  · refine aw_iconst (v := nI 0) ci_0 d_X_isIn_14 ?_
    refine as_retz rfl (by decide +kernel) d_X_isIn_15 ?_
    refine (show As l b 13 y_X_isLine KM RM _ (I) 6 [.int (x)] [.int (nI 0)] from ?_)
    refine as_retz rfl (by decide +kernel) d_X_isLine_6 ?_
    refine (show As l b 14 y_X_look KM RM K2 (I) 4 [.ref 0, .int (x), uu, uu] [.int (nI 0)] from ?_)
    refine aw_if_eqI (tgt := 21) (0) (by decide +kernel) (by decide) d_X_look_4 (fun _ => ?_) (fun q => absurd q (by decide))
    refine aw_iconst (v := (-1 : Int32)) rfl d_X_look_21 ?_
    exact as_reti rfl d_X_look_22 (hb (by omega) _)
  · refine aw_iload_n rfl rfl d_X_isIn_5 ?_
    refine aw_iload_n rfl rfl d_X_isIn_6 ?_
    refine aw_icmp_gtI (tgt := 14) (x).toInt (5) rfl (by decide +kernel) (by decide) d_X_isIn_7 (fun c2 => ?_) (fun c2 => ?_)
    · refine aw_iconst (v := nI 0) ci_0 d_X_isIn_14 ?_
      refine as_retz rfl (by decide +kernel) d_X_isIn_15 ?_
      refine (show As l b 13 y_X_isLine KM RM _ (I) 6 [.int (x)] [.int (nI 0)] from ?_)
      refine as_retz rfl (by decide +kernel) d_X_isLine_6 ?_
      refine (show As l b 14 y_X_look KM RM K2 (I) 4 [.ref 0, .int (x), uu, uu] [.int (nI 0)] from ?_)
      refine aw_if_eqI (tgt := 21) (0) (by decide +kernel) (by decide) d_X_look_4 (fun _ => ?_) (fun q => absurd q (by decide))
      refine aw_iconst (v := (-1 : Int32)) rfl d_X_look_21 ?_
      exact as_reti rfl d_X_look_22 (hb (by omega) _)
    · refine aw_iconst (v := nI 1) ci_1 d_X_isIn_10 ?_
      refine aw_goto (tgt := 15) (by decide) d_X_isIn_11 ?_
      refine as_retz rfl (by decide +kernel) d_X_isIn_15 ?_
      refine (show As l b 13 y_X_isLine KM RM _ (I) 6 [.int (x)] [.int (nI 1)] from ?_)
      refine as_retz rfl (by decide +kernel) d_X_isLine_6 ?_
      refine (show As l b 14 y_X_look KM RM K2 (I) 4 [.ref 0, .int (x), uu, uu] [.int (nI 1)] from ?_)
      refine aw_if_eqI (tgt := 21) (1) (by decide +kernel) (by decide) d_X_look_4 (fun q => absurd q (by decide)) (fun _ => ?_)
      obtain ⟨w1, hw1, ew1, gw1⟩ := nI_of_range (x := x) (n := 6) (by omega) (by omega)
      subst ew1
      rcases (show w1 = 0 ∨ w1 = 1 ∨ w1 = 2 ∨ w1 = 3 ∨ w1 = 4 ∨ w1 = 5 by omega) with rfl | rfl | rfl | rfl | rfl | rfl
      · refine aw_aload_n rfl rfl d_X_look_7 ?_
        refine aw_getr fl_X_7 km_0 (by decide) rfl rm_0_0 d_X_look_8 ?_
        refine aw_bipush (v := nI 10) cb_10 d_X_look_11 ?_
        refine aw_iload_n rfl rfl d_X_look_13 ?_
        refine aw_iadd d_X_look_14 ?_
        refine aw_top (x2 := nI 10) (by decide +kernel) ?_
        refine aw_iald (j := 10) km_1 (vp_in_nI (by decide) (by decide)) (nI_clamp (by decide)) d_X_look_15 ?_
        refine aw_top (x2 := nI 9) (g2 0 (by decide)) ?_
        refine aw_bipush (v := nI 24) cb_24 d_X_look_16 ?_
        refine aw_icmp_neI (tgt := 23) (9) (24) (by decide +kernel) (by decide +kernel) (by decide) d_X_look_18 (fun _ => ?_) (fun q => absurd q (by decide))
        refine aw_aload_n rfl rfl d_X_look_23 ?_
        refine aw_iconst (v := nI 0) ci_0 d_X_look_24 ?_
        refine as_callV (as := [.int (nI 0)]) (d' := 13) (q := ("SinglesUpModel", zT9, 51)) mo_X_best lk_X_365 km_0 rfl rfl rfl ⟨by decide, by decide⟩ rfl rfl (by decide) d_X_look_25 (Ss.of (show As l b 13 y_X_best KM RM _ (I) 0 [.ref 0, .int (nI 0), uu, uu, uu, uu, uu] [] from ?_))
        refine aw_aload_n rfl rfl d_X_best_0 ?_
        refine as_callV (as := []) (d' := 5) (q := ("SinglesUpModel", zT9, 51)) mo_X_reckons lk_X_362 km_0 rfl rfl rfl ⟨by decide, by decide⟩ rfl rfl (by decide) d_X_best_1 (sp_reckons2 (I := I) (m6 (P := fun j => (I) 1 (130 + j) = nI 0) (g1 0 (by decide)) (g1 1 (by decide)) (g1 2 (by decide)) (g1 3 (by decide)) (g1 4 (by decide)) (g1 5 (by decide))) (fun J3 f4 e5 e6 => ?_))
        refine (show As l b 13 y_X_best KM RM _ (J3) 4 [.ref 0, .int (nI 0), uu, uu, uu, uu, uu] [] from ?_)
        refine aw_aload_n rfl rfl d_X_best_4 ?_
        refine aw_getr fl_X_7 km_0 (by decide) rfl rm_0_0 d_X_best_5 ?_
        refine aw_iconst (v := nI 1) ci_1 d_X_best_8 ?_
        refine aw_iald (j := 1) km_1 (vp_in_nI (by decide) (by decide)) (nI_clamp (by decide)) d_X_best_9 ?_
        refine aw_top (x2 := nI 4) (((congrFun (f4 1 (by decide)) (1)).trans (g3))) ?_
        refine aw_istore_n (lv2 := [.ref 0, .int (nI 0), .int (nI 4), uu, uu, uu, uu]) rfl (by decide) rfl d_X_best_10 ?_
        refine aw_iconst (v := nI 0) ci_0 d_X_best_11 ?_
        refine aw_istore_n (lv2 := [.ref 0, .int (nI 0), .int (nI 4), .int (nI 0), uu, uu, uu]) rfl (by decide) rfl d_X_best_12 ?_
        refine aw_iconst (v := nI 0) ci_0 d_X_best_13 ?_
        refine aw_istore (lv2 := [.ref 0, .int (nI 0), .int (nI 4), .int (nI 0), .int (nI 0), uu, uu]) (by decide) rfl d_X_best_14 ?_
        refine aw_iload_n rfl rfl d_X_best_16 ?_
        refine aw_if_neI (tgt := 32) (0) (by decide +kernel) (by decide) d_X_best_17 (fun q => absurd q (by decide)) (fun _ => ?_)
        refine aw_aload_n rfl rfl d_X_best_20 ?_
        refine aw_getr fl_X_69 km_0 (by decide) rfl rm_0_39 d_X_best_21 ?_
        refine aw_iconst (v := nI 0) ci_0 d_X_best_24 ?_
        refine aw_iload_n rfl rfl d_X_best_25 ?_
        refine aw_iconst (v := nI 0) ci_0 d_X_best_26 ?_
        refine as_callS (as := [.int (nI 0), .int (nI 4), .int (nI 0)]) (d' := 12) mo_X_spot lk_X_353 rfl ⟨by decide, by decide⟩ rfl rfl (by decide) d_X_best_27 (Ss.of (show As l b 12 y_X_spot KM RM _ (J3) 0 [.int (nI 0), .int (nI 4), .int (nI 0)] [] from ?_))
        refine aw_bipush (v := nI 36) cb_36 d_X_spot_0 ?_
        refine aw_iload_n rfl rfl d_X_spot_2 ?_
        refine aw_imul d_X_spot_3 ?_
        refine aw_top (x2 := nI 0) (by decide +kernel) ?_
        refine aw_iconst (v := nI 4) ci_4 d_X_spot_4 ?_
        refine aw_iload_n rfl rfl d_X_spot_5 ?_
        refine aw_imul d_X_spot_6 ?_
        refine aw_top (x2 := nI 16) (by decide +kernel) ?_
        refine aw_iadd d_X_spot_7 ?_
        refine aw_top (x2 := nI 16) (by decide +kernel) ?_
        refine aw_iload_n rfl rfl d_X_spot_8 ?_
        refine aw_iadd d_X_spot_9 ?_
        refine aw_top (x2 := nI 16) (by decide +kernel) ?_
        refine as_reti rfl d_X_spot_10 ?_
        refine (show As l b 13 y_X_best KM RM _ (J3) 30 [.ref 0, .int (nI 0), .int (nI 4), .int (nI 0), .int (nI 0), uu, uu] [.int (nI 16), .ref 17] from ?_)
        refine aw_iald (j := 16) km_17 (vp_in_nI (by decide) (by decide)) (nI_clamp (by decide)) d_X_best_30 ?_
        refine aw_top (x2 := nI 0) (e6) ?_
        refine as_reti rfl d_X_best_31 ?_
        refine (show As l b 14 y_X_look KM RM K2 (J3) 28 [.ref 0, .int (nI 0), uu, uu] [.int (nI 0)] from ?_)
        refine aw_istore_n (lv2 := [.ref 0, .int (nI 0), .int (nI 0), uu]) rfl (by decide) rfl d_X_look_28 ?_
        refine aw_aload_n rfl rfl d_X_look_29 ?_
        refine aw_getr fl_X_7 km_0 (by decide) rfl rm_0_0 d_X_look_30 ?_
        refine aw_bipush (v := nI 10) cb_10 d_X_look_33 ?_
        refine aw_iload_n rfl rfl d_X_look_35 ?_
        refine aw_iadd d_X_look_36 ?_
        refine aw_top (x2 := nI 10) (by decide +kernel) ?_
        refine aw_dup2 rfl rfl d_X_look_37 ?_
        refine aw_iald (j := 10) km_1 (vp_in_nI (by decide) (by decide)) (nI_clamp (by decide)) d_X_look_38 ?_
        refine aw_top (x2 := nI 9) (((congrFun (f4 1 (by decide)) (10)).trans (g2 0 (by decide)))) ?_
        refine aw_iconst (v := nI 1) ci_1 d_X_look_39 ?_
        refine aw_iadd d_X_look_40 ?_
        refine aw_top (x2 := nI 10) (by decide +kernel) ?_
        refine aw_iast (j := 10) km_1 (vp_in_nI (by decide) (by decide)) (nI_clamp (by decide)) d_X_look_41 ?_
        refine aw_aload_n rfl rfl d_X_look_42 ?_
        refine aw_iconst (v := nI 0) ci_0 d_X_look_43 ?_
        refine as_callV (as := [.int (nI 0)]) (d' := 13) (q := ("SinglesUpModel", zT9, 51)) mo_X_best lk_X_365 km_0 rfl rfl rfl ⟨by decide, by decide⟩ rfl rfl (by decide) d_X_look_44 (Ss.of (show As l b 13 y_X_best KM RM _ (upd2 J3 1 (10) (nI 10)) 0 [.ref 0, .int (nI 0), uu, uu, uu, uu, uu] [] from ?_))
        refine aw_aload_n rfl rfl d_X_best_0 ?_
        refine as_callV (as := []) (d' := 5) (q := ("SinglesUpModel", zT9, 51)) mo_X_reckons lk_X_362 km_0 rfl rfl rfl ⟨by decide, by decide⟩ rfl rfl (by decide) d_X_best_1 (sp_reckons2 (I := upd2 J3 1 (10) (nI 10)) (m6 (P := fun j => (upd2 J3 1 (10) (nI 10)) 1 (130 + j) = nI 0) (Eq.trans (upd2_nx (by omega)) (((congrFun (f4 1 (by decide)) (130)).trans (g1 0 (by decide))))) (Eq.trans (upd2_nx (by omega)) (((congrFun (f4 1 (by decide)) (131)).trans (g1 1 (by decide))))) (Eq.trans (upd2_nx (by omega)) (((congrFun (f4 1 (by decide)) (132)).trans (g1 2 (by decide))))) (Eq.trans (upd2_nx (by omega)) (((congrFun (f4 1 (by decide)) (133)).trans (g1 3 (by decide))))) (Eq.trans (upd2_nx (by omega)) (((congrFun (f4 1 (by decide)) (134)).trans (g1 4 (by decide))))) (Eq.trans (upd2_nx (by omega)) (((congrFun (f4 1 (by decide)) (135)).trans (g1 5 (by decide)))))) (fun J7 f8 e9 e10 => ?_))
        refine (show As l b 13 y_X_best KM RM _ (J7) 4 [.ref 0, .int (nI 0), uu, uu, uu, uu, uu] [] from ?_)
        refine aw_aload_n rfl rfl d_X_best_4 ?_
        refine aw_getr fl_X_7 km_0 (by decide) rfl rm_0_0 d_X_best_5 ?_
        refine aw_iconst (v := nI 1) ci_1 d_X_best_8 ?_
        refine aw_iald (j := 1) km_1 (vp_in_nI (by decide) (by decide)) (nI_clamp (by decide)) d_X_best_9 ?_
        refine aw_top (x2 := nI 4) (((congrFun (f8 1 (by decide)) (1)).trans (Eq.trans (upd2_nx (by omega)) (((congrFun (f4 1 (by decide)) (1)).trans (g3)))))) ?_
        refine aw_istore_n (lv2 := [.ref 0, .int (nI 0), .int (nI 4), uu, uu, uu, uu]) rfl (by decide) rfl d_X_best_10 ?_
        refine aw_iconst (v := nI 0) ci_0 d_X_best_11 ?_
        refine aw_istore_n (lv2 := [.ref 0, .int (nI 0), .int (nI 4), .int (nI 0), uu, uu, uu]) rfl (by decide) rfl d_X_best_12 ?_
        refine aw_iconst (v := nI 0) ci_0 d_X_best_13 ?_
        refine aw_istore (lv2 := [.ref 0, .int (nI 0), .int (nI 4), .int (nI 0), .int (nI 0), uu, uu]) (by decide) rfl d_X_best_14 ?_
        refine aw_iload_n rfl rfl d_X_best_16 ?_
        refine aw_if_neI (tgt := 32) (0) (by decide +kernel) (by decide) d_X_best_17 (fun q => absurd q (by decide)) (fun _ => ?_)
        refine aw_aload_n rfl rfl d_X_best_20 ?_
        refine aw_getr fl_X_69 km_0 (by decide) rfl rm_0_39 d_X_best_21 ?_
        refine aw_iconst (v := nI 0) ci_0 d_X_best_24 ?_
        refine aw_iload_n rfl rfl d_X_best_25 ?_
        refine aw_iconst (v := nI 0) ci_0 d_X_best_26 ?_
        refine as_callS (as := [.int (nI 0), .int (nI 4), .int (nI 0)]) (d' := 12) mo_X_spot lk_X_353 rfl ⟨by decide, by decide⟩ rfl rfl (by decide) d_X_best_27 (Ss.of (show As l b 12 y_X_spot KM RM _ (J7) 0 [.int (nI 0), .int (nI 4), .int (nI 0)] [] from ?_))
        refine aw_bipush (v := nI 36) cb_36 d_X_spot_0 ?_
        refine aw_iload_n rfl rfl d_X_spot_2 ?_
        refine aw_imul d_X_spot_3 ?_
        refine aw_top (x2 := nI 0) (by decide +kernel) ?_
        refine aw_iconst (v := nI 4) ci_4 d_X_spot_4 ?_
        refine aw_iload_n rfl rfl d_X_spot_5 ?_
        refine aw_imul d_X_spot_6 ?_
        refine aw_top (x2 := nI 16) (by decide +kernel) ?_
        refine aw_iadd d_X_spot_7 ?_
        refine aw_top (x2 := nI 16) (by decide +kernel) ?_
        refine aw_iload_n rfl rfl d_X_spot_8 ?_
        refine aw_iadd d_X_spot_9 ?_
        refine aw_top (x2 := nI 16) (by decide +kernel) ?_
        refine as_reti rfl d_X_spot_10 ?_
        refine (show As l b 13 y_X_best KM RM _ (J7) 30 [.ref 0, .int (nI 0), .int (nI 4), .int (nI 0), .int (nI 0), uu, uu] [.int (nI 16), .ref 17] from ?_)
        refine aw_iald (j := 16) km_17 (vp_in_nI (by decide) (by decide)) (nI_clamp (by decide)) d_X_best_30 ?_
        refine aw_top (x2 := nI 0) (e10) ?_
        refine as_reti rfl d_X_best_31 ?_
        refine (show As l b 14 y_X_look KM RM K2 (J7) 47 [.ref 0, .int (nI 0), .int (nI 0), uu] [.int (nI 0)] from ?_)
        refine aw_istore_n (lv2 := [.ref 0, .int (nI 0), .int (nI 0), .int (nI 0)]) rfl (by decide) rfl d_X_look_47 ?_
        refine aw_aload_n rfl rfl d_X_look_48 ?_
        refine aw_getr fl_X_7 km_0 (by decide) rfl rm_0_0 d_X_look_49 ?_
        refine aw_bipush (v := nI 10) cb_10 d_X_look_52 ?_
        refine aw_iload_n rfl rfl d_X_look_54 ?_
        refine aw_iadd d_X_look_55 ?_
        refine aw_top (x2 := nI 10) (by decide +kernel) ?_
        refine aw_dup2 rfl rfl d_X_look_56 ?_
        refine aw_iald (j := 10) km_1 (vp_in_nI (by decide) (by decide)) (nI_clamp (by decide)) d_X_look_57 ?_
        refine aw_top (x2 := nI 10) (((congrFun (f8 1 (by decide)) (10)).trans (upd2_eq))) ?_
        refine aw_iconst (v := nI 1) ci_1 d_X_look_58 ?_
        refine aw_isub d_X_look_59 ?_
        refine aw_top (x2 := nI 9) (by decide +kernel) ?_
        refine aw_iast (j := 10) km_1 (vp_in_nI (by decide) (by decide)) (nI_clamp (by decide)) d_X_look_60 ?_
        refine aw_iload_n rfl rfl d_X_look_61 ?_
        refine aw_iload_n rfl rfl d_X_look_62 ?_
        refine aw_isub d_X_look_63 ?_
        refine aw_top (x2 := nI 0) (by decide +kernel) ?_
        exact as_reti rfl d_X_look_64 (hg (by omega) _)
      · refine aw_aload_n rfl rfl d_X_look_7 ?_
        refine aw_getr fl_X_7 km_0 (by decide) rfl rm_0_0 d_X_look_8 ?_
        refine aw_bipush (v := nI 10) cb_10 d_X_look_11 ?_
        refine aw_iload_n rfl rfl d_X_look_13 ?_
        refine aw_iadd d_X_look_14 ?_
        refine aw_top (x2 := nI 11) (by decide +kernel) ?_
        refine aw_iald (j := 11) km_1 (vp_in_nI (by decide) (by decide)) (nI_clamp (by decide)) d_X_look_15 ?_
        refine aw_top (x2 := nI 9) (g2 1 (by decide)) ?_
        refine aw_bipush (v := nI 24) cb_24 d_X_look_16 ?_
        refine aw_icmp_neI (tgt := 23) (9) (24) (by decide +kernel) (by decide +kernel) (by decide) d_X_look_18 (fun _ => ?_) (fun q => absurd q (by decide))
        refine aw_aload_n rfl rfl d_X_look_23 ?_
        refine aw_iconst (v := nI 0) ci_0 d_X_look_24 ?_
        refine as_callV (as := [.int (nI 0)]) (d' := 13) (q := ("SinglesUpModel", zT9, 51)) mo_X_best lk_X_365 km_0 rfl rfl rfl ⟨by decide, by decide⟩ rfl rfl (by decide) d_X_look_25 (Ss.of (show As l b 13 y_X_best KM RM _ (I) 0 [.ref 0, .int (nI 0), uu, uu, uu, uu, uu] [] from ?_))
        refine aw_aload_n rfl rfl d_X_best_0 ?_
        refine as_callV (as := []) (d' := 5) (q := ("SinglesUpModel", zT9, 51)) mo_X_reckons lk_X_362 km_0 rfl rfl rfl ⟨by decide, by decide⟩ rfl rfl (by decide) d_X_best_1 (sp_reckons2 (I := I) (m6 (P := fun j => (I) 1 (130 + j) = nI 0) (g1 0 (by decide)) (g1 1 (by decide)) (g1 2 (by decide)) (g1 3 (by decide)) (g1 4 (by decide)) (g1 5 (by decide))) (fun J11 f12 e13 e14 => ?_))
        refine (show As l b 13 y_X_best KM RM _ (J11) 4 [.ref 0, .int (nI 0), uu, uu, uu, uu, uu] [] from ?_)
        refine aw_aload_n rfl rfl d_X_best_4 ?_
        refine aw_getr fl_X_7 km_0 (by decide) rfl rm_0_0 d_X_best_5 ?_
        refine aw_iconst (v := nI 1) ci_1 d_X_best_8 ?_
        refine aw_iald (j := 1) km_1 (vp_in_nI (by decide) (by decide)) (nI_clamp (by decide)) d_X_best_9 ?_
        refine aw_top (x2 := nI 4) (((congrFun (f12 1 (by decide)) (1)).trans (g3))) ?_
        refine aw_istore_n (lv2 := [.ref 0, .int (nI 0), .int (nI 4), uu, uu, uu, uu]) rfl (by decide) rfl d_X_best_10 ?_
        refine aw_iconst (v := nI 0) ci_0 d_X_best_11 ?_
        refine aw_istore_n (lv2 := [.ref 0, .int (nI 0), .int (nI 4), .int (nI 0), uu, uu, uu]) rfl (by decide) rfl d_X_best_12 ?_
        refine aw_iconst (v := nI 0) ci_0 d_X_best_13 ?_
        refine aw_istore (lv2 := [.ref 0, .int (nI 0), .int (nI 4), .int (nI 0), .int (nI 0), uu, uu]) (by decide) rfl d_X_best_14 ?_
        refine aw_iload_n rfl rfl d_X_best_16 ?_
        refine aw_if_neI (tgt := 32) (0) (by decide +kernel) (by decide) d_X_best_17 (fun q => absurd q (by decide)) (fun _ => ?_)
        refine aw_aload_n rfl rfl d_X_best_20 ?_
        refine aw_getr fl_X_69 km_0 (by decide) rfl rm_0_39 d_X_best_21 ?_
        refine aw_iconst (v := nI 0) ci_0 d_X_best_24 ?_
        refine aw_iload_n rfl rfl d_X_best_25 ?_
        refine aw_iconst (v := nI 0) ci_0 d_X_best_26 ?_
        refine as_callS (as := [.int (nI 0), .int (nI 4), .int (nI 0)]) (d' := 12) mo_X_spot lk_X_353 rfl ⟨by decide, by decide⟩ rfl rfl (by decide) d_X_best_27 (Ss.of (show As l b 12 y_X_spot KM RM _ (J11) 0 [.int (nI 0), .int (nI 4), .int (nI 0)] [] from ?_))
        refine aw_bipush (v := nI 36) cb_36 d_X_spot_0 ?_
        refine aw_iload_n rfl rfl d_X_spot_2 ?_
        refine aw_imul d_X_spot_3 ?_
        refine aw_top (x2 := nI 0) (by decide +kernel) ?_
        refine aw_iconst (v := nI 4) ci_4 d_X_spot_4 ?_
        refine aw_iload_n rfl rfl d_X_spot_5 ?_
        refine aw_imul d_X_spot_6 ?_
        refine aw_top (x2 := nI 16) (by decide +kernel) ?_
        refine aw_iadd d_X_spot_7 ?_
        refine aw_top (x2 := nI 16) (by decide +kernel) ?_
        refine aw_iload_n rfl rfl d_X_spot_8 ?_
        refine aw_iadd d_X_spot_9 ?_
        refine aw_top (x2 := nI 16) (by decide +kernel) ?_
        refine as_reti rfl d_X_spot_10 ?_
        refine (show As l b 13 y_X_best KM RM _ (J11) 30 [.ref 0, .int (nI 0), .int (nI 4), .int (nI 0), .int (nI 0), uu, uu] [.int (nI 16), .ref 17] from ?_)
        refine aw_iald (j := 16) km_17 (vp_in_nI (by decide) (by decide)) (nI_clamp (by decide)) d_X_best_30 ?_
        refine aw_top (x2 := nI 0) (e14) ?_
        refine as_reti rfl d_X_best_31 ?_
        refine (show As l b 14 y_X_look KM RM K2 (J11) 28 [.ref 0, .int (nI 1), uu, uu] [.int (nI 0)] from ?_)
        refine aw_istore_n (lv2 := [.ref 0, .int (nI 1), .int (nI 0), uu]) rfl (by decide) rfl d_X_look_28 ?_
        refine aw_aload_n rfl rfl d_X_look_29 ?_
        refine aw_getr fl_X_7 km_0 (by decide) rfl rm_0_0 d_X_look_30 ?_
        refine aw_bipush (v := nI 10) cb_10 d_X_look_33 ?_
        refine aw_iload_n rfl rfl d_X_look_35 ?_
        refine aw_iadd d_X_look_36 ?_
        refine aw_top (x2 := nI 11) (by decide +kernel) ?_
        refine aw_dup2 rfl rfl d_X_look_37 ?_
        refine aw_iald (j := 11) km_1 (vp_in_nI (by decide) (by decide)) (nI_clamp (by decide)) d_X_look_38 ?_
        refine aw_top (x2 := nI 9) (((congrFun (f12 1 (by decide)) (11)).trans (g2 1 (by decide)))) ?_
        refine aw_iconst (v := nI 1) ci_1 d_X_look_39 ?_
        refine aw_iadd d_X_look_40 ?_
        refine aw_top (x2 := nI 10) (by decide +kernel) ?_
        refine aw_iast (j := 11) km_1 (vp_in_nI (by decide) (by decide)) (nI_clamp (by decide)) d_X_look_41 ?_
        refine aw_aload_n rfl rfl d_X_look_42 ?_
        refine aw_iconst (v := nI 0) ci_0 d_X_look_43 ?_
        refine as_callV (as := [.int (nI 0)]) (d' := 13) (q := ("SinglesUpModel", zT9, 51)) mo_X_best lk_X_365 km_0 rfl rfl rfl ⟨by decide, by decide⟩ rfl rfl (by decide) d_X_look_44 (Ss.of (show As l b 13 y_X_best KM RM _ (upd2 J11 1 (11) (nI 10)) 0 [.ref 0, .int (nI 0), uu, uu, uu, uu, uu] [] from ?_))
        refine aw_aload_n rfl rfl d_X_best_0 ?_
        refine as_callV (as := []) (d' := 5) (q := ("SinglesUpModel", zT9, 51)) mo_X_reckons lk_X_362 km_0 rfl rfl rfl ⟨by decide, by decide⟩ rfl rfl (by decide) d_X_best_1 (sp_reckons2 (I := upd2 J11 1 (11) (nI 10)) (m6 (P := fun j => (upd2 J11 1 (11) (nI 10)) 1 (130 + j) = nI 0) (Eq.trans (upd2_nx (by omega)) (((congrFun (f12 1 (by decide)) (130)).trans (g1 0 (by decide))))) (Eq.trans (upd2_nx (by omega)) (((congrFun (f12 1 (by decide)) (131)).trans (g1 1 (by decide))))) (Eq.trans (upd2_nx (by omega)) (((congrFun (f12 1 (by decide)) (132)).trans (g1 2 (by decide))))) (Eq.trans (upd2_nx (by omega)) (((congrFun (f12 1 (by decide)) (133)).trans (g1 3 (by decide))))) (Eq.trans (upd2_nx (by omega)) (((congrFun (f12 1 (by decide)) (134)).trans (g1 4 (by decide))))) (Eq.trans (upd2_nx (by omega)) (((congrFun (f12 1 (by decide)) (135)).trans (g1 5 (by decide)))))) (fun J15 f16 e17 e18 => ?_))
        refine (show As l b 13 y_X_best KM RM _ (J15) 4 [.ref 0, .int (nI 0), uu, uu, uu, uu, uu] [] from ?_)
        refine aw_aload_n rfl rfl d_X_best_4 ?_
        refine aw_getr fl_X_7 km_0 (by decide) rfl rm_0_0 d_X_best_5 ?_
        refine aw_iconst (v := nI 1) ci_1 d_X_best_8 ?_
        refine aw_iald (j := 1) km_1 (vp_in_nI (by decide) (by decide)) (nI_clamp (by decide)) d_X_best_9 ?_
        refine aw_top (x2 := nI 4) (((congrFun (f16 1 (by decide)) (1)).trans (Eq.trans (upd2_nx (by omega)) (((congrFun (f12 1 (by decide)) (1)).trans (g3)))))) ?_
        refine aw_istore_n (lv2 := [.ref 0, .int (nI 0), .int (nI 4), uu, uu, uu, uu]) rfl (by decide) rfl d_X_best_10 ?_
        refine aw_iconst (v := nI 0) ci_0 d_X_best_11 ?_
        refine aw_istore_n (lv2 := [.ref 0, .int (nI 0), .int (nI 4), .int (nI 0), uu, uu, uu]) rfl (by decide) rfl d_X_best_12 ?_
        refine aw_iconst (v := nI 0) ci_0 d_X_best_13 ?_
        refine aw_istore (lv2 := [.ref 0, .int (nI 0), .int (nI 4), .int (nI 0), .int (nI 0), uu, uu]) (by decide) rfl d_X_best_14 ?_
        refine aw_iload_n rfl rfl d_X_best_16 ?_
        refine aw_if_neI (tgt := 32) (0) (by decide +kernel) (by decide) d_X_best_17 (fun q => absurd q (by decide)) (fun _ => ?_)
        refine aw_aload_n rfl rfl d_X_best_20 ?_
        refine aw_getr fl_X_69 km_0 (by decide) rfl rm_0_39 d_X_best_21 ?_
        refine aw_iconst (v := nI 0) ci_0 d_X_best_24 ?_
        refine aw_iload_n rfl rfl d_X_best_25 ?_
        refine aw_iconst (v := nI 0) ci_0 d_X_best_26 ?_
        refine as_callS (as := [.int (nI 0), .int (nI 4), .int (nI 0)]) (d' := 12) mo_X_spot lk_X_353 rfl ⟨by decide, by decide⟩ rfl rfl (by decide) d_X_best_27 (Ss.of (show As l b 12 y_X_spot KM RM _ (J15) 0 [.int (nI 0), .int (nI 4), .int (nI 0)] [] from ?_))
        refine aw_bipush (v := nI 36) cb_36 d_X_spot_0 ?_
        refine aw_iload_n rfl rfl d_X_spot_2 ?_
        refine aw_imul d_X_spot_3 ?_
        refine aw_top (x2 := nI 0) (by decide +kernel) ?_
        refine aw_iconst (v := nI 4) ci_4 d_X_spot_4 ?_
        refine aw_iload_n rfl rfl d_X_spot_5 ?_
        refine aw_imul d_X_spot_6 ?_
        refine aw_top (x2 := nI 16) (by decide +kernel) ?_
        refine aw_iadd d_X_spot_7 ?_
        refine aw_top (x2 := nI 16) (by decide +kernel) ?_
        refine aw_iload_n rfl rfl d_X_spot_8 ?_
        refine aw_iadd d_X_spot_9 ?_
        refine aw_top (x2 := nI 16) (by decide +kernel) ?_
        refine as_reti rfl d_X_spot_10 ?_
        refine (show As l b 13 y_X_best KM RM _ (J15) 30 [.ref 0, .int (nI 0), .int (nI 4), .int (nI 0), .int (nI 0), uu, uu] [.int (nI 16), .ref 17] from ?_)
        refine aw_iald (j := 16) km_17 (vp_in_nI (by decide) (by decide)) (nI_clamp (by decide)) d_X_best_30 ?_
        refine aw_top (x2 := nI 0) (e18) ?_
        refine as_reti rfl d_X_best_31 ?_
        refine (show As l b 14 y_X_look KM RM K2 (J15) 47 [.ref 0, .int (nI 1), .int (nI 0), uu] [.int (nI 0)] from ?_)
        refine aw_istore_n (lv2 := [.ref 0, .int (nI 1), .int (nI 0), .int (nI 0)]) rfl (by decide) rfl d_X_look_47 ?_
        refine aw_aload_n rfl rfl d_X_look_48 ?_
        refine aw_getr fl_X_7 km_0 (by decide) rfl rm_0_0 d_X_look_49 ?_
        refine aw_bipush (v := nI 10) cb_10 d_X_look_52 ?_
        refine aw_iload_n rfl rfl d_X_look_54 ?_
        refine aw_iadd d_X_look_55 ?_
        refine aw_top (x2 := nI 11) (by decide +kernel) ?_
        refine aw_dup2 rfl rfl d_X_look_56 ?_
        refine aw_iald (j := 11) km_1 (vp_in_nI (by decide) (by decide)) (nI_clamp (by decide)) d_X_look_57 ?_
        refine aw_top (x2 := nI 10) (((congrFun (f16 1 (by decide)) (11)).trans (upd2_eq))) ?_
        refine aw_iconst (v := nI 1) ci_1 d_X_look_58 ?_
        refine aw_isub d_X_look_59 ?_
        refine aw_top (x2 := nI 9) (by decide +kernel) ?_
        refine aw_iast (j := 11) km_1 (vp_in_nI (by decide) (by decide)) (nI_clamp (by decide)) d_X_look_60 ?_
        refine aw_iload_n rfl rfl d_X_look_61 ?_
        refine aw_iload_n rfl rfl d_X_look_62 ?_
        refine aw_isub d_X_look_63 ?_
        refine aw_top (x2 := nI 0) (by decide +kernel) ?_
        exact as_reti rfl d_X_look_64 (hg (by omega) _)
      · refine aw_aload_n rfl rfl d_X_look_7 ?_
        refine aw_getr fl_X_7 km_0 (by decide) rfl rm_0_0 d_X_look_8 ?_
        refine aw_bipush (v := nI 10) cb_10 d_X_look_11 ?_
        refine aw_iload_n rfl rfl d_X_look_13 ?_
        refine aw_iadd d_X_look_14 ?_
        refine aw_top (x2 := nI 12) (by decide +kernel) ?_
        refine aw_iald (j := 12) km_1 (vp_in_nI (by decide) (by decide)) (nI_clamp (by decide)) d_X_look_15 ?_
        refine aw_top (x2 := nI 9) (g2 2 (by decide)) ?_
        refine aw_bipush (v := nI 24) cb_24 d_X_look_16 ?_
        refine aw_icmp_neI (tgt := 23) (9) (24) (by decide +kernel) (by decide +kernel) (by decide) d_X_look_18 (fun _ => ?_) (fun q => absurd q (by decide))
        refine aw_aload_n rfl rfl d_X_look_23 ?_
        refine aw_iconst (v := nI 0) ci_0 d_X_look_24 ?_
        refine as_callV (as := [.int (nI 0)]) (d' := 13) (q := ("SinglesUpModel", zT9, 51)) mo_X_best lk_X_365 km_0 rfl rfl rfl ⟨by decide, by decide⟩ rfl rfl (by decide) d_X_look_25 (Ss.of (show As l b 13 y_X_best KM RM _ (I) 0 [.ref 0, .int (nI 0), uu, uu, uu, uu, uu] [] from ?_))
        refine aw_aload_n rfl rfl d_X_best_0 ?_
        refine as_callV (as := []) (d' := 5) (q := ("SinglesUpModel", zT9, 51)) mo_X_reckons lk_X_362 km_0 rfl rfl rfl ⟨by decide, by decide⟩ rfl rfl (by decide) d_X_best_1 (sp_reckons2 (I := I) (m6 (P := fun j => (I) 1 (130 + j) = nI 0) (g1 0 (by decide)) (g1 1 (by decide)) (g1 2 (by decide)) (g1 3 (by decide)) (g1 4 (by decide)) (g1 5 (by decide))) (fun J19 f20 e21 e22 => ?_))
        refine (show As l b 13 y_X_best KM RM _ (J19) 4 [.ref 0, .int (nI 0), uu, uu, uu, uu, uu] [] from ?_)
        refine aw_aload_n rfl rfl d_X_best_4 ?_
        refine aw_getr fl_X_7 km_0 (by decide) rfl rm_0_0 d_X_best_5 ?_
        refine aw_iconst (v := nI 1) ci_1 d_X_best_8 ?_
        refine aw_iald (j := 1) km_1 (vp_in_nI (by decide) (by decide)) (nI_clamp (by decide)) d_X_best_9 ?_
        refine aw_top (x2 := nI 4) (((congrFun (f20 1 (by decide)) (1)).trans (g3))) ?_
        refine aw_istore_n (lv2 := [.ref 0, .int (nI 0), .int (nI 4), uu, uu, uu, uu]) rfl (by decide) rfl d_X_best_10 ?_
        refine aw_iconst (v := nI 0) ci_0 d_X_best_11 ?_
        refine aw_istore_n (lv2 := [.ref 0, .int (nI 0), .int (nI 4), .int (nI 0), uu, uu, uu]) rfl (by decide) rfl d_X_best_12 ?_
        refine aw_iconst (v := nI 0) ci_0 d_X_best_13 ?_
        refine aw_istore (lv2 := [.ref 0, .int (nI 0), .int (nI 4), .int (nI 0), .int (nI 0), uu, uu]) (by decide) rfl d_X_best_14 ?_
        refine aw_iload_n rfl rfl d_X_best_16 ?_
        refine aw_if_neI (tgt := 32) (0) (by decide +kernel) (by decide) d_X_best_17 (fun q => absurd q (by decide)) (fun _ => ?_)
        refine aw_aload_n rfl rfl d_X_best_20 ?_
        refine aw_getr fl_X_69 km_0 (by decide) rfl rm_0_39 d_X_best_21 ?_
        refine aw_iconst (v := nI 0) ci_0 d_X_best_24 ?_
        refine aw_iload_n rfl rfl d_X_best_25 ?_
        refine aw_iconst (v := nI 0) ci_0 d_X_best_26 ?_
        refine as_callS (as := [.int (nI 0), .int (nI 4), .int (nI 0)]) (d' := 12) mo_X_spot lk_X_353 rfl ⟨by decide, by decide⟩ rfl rfl (by decide) d_X_best_27 (Ss.of (show As l b 12 y_X_spot KM RM _ (J19) 0 [.int (nI 0), .int (nI 4), .int (nI 0)] [] from ?_))
        refine aw_bipush (v := nI 36) cb_36 d_X_spot_0 ?_
        refine aw_iload_n rfl rfl d_X_spot_2 ?_
        refine aw_imul d_X_spot_3 ?_
        refine aw_top (x2 := nI 0) (by decide +kernel) ?_
        refine aw_iconst (v := nI 4) ci_4 d_X_spot_4 ?_
        refine aw_iload_n rfl rfl d_X_spot_5 ?_
        refine aw_imul d_X_spot_6 ?_
        refine aw_top (x2 := nI 16) (by decide +kernel) ?_
        refine aw_iadd d_X_spot_7 ?_
        refine aw_top (x2 := nI 16) (by decide +kernel) ?_
        refine aw_iload_n rfl rfl d_X_spot_8 ?_
        refine aw_iadd d_X_spot_9 ?_
        refine aw_top (x2 := nI 16) (by decide +kernel) ?_
        refine as_reti rfl d_X_spot_10 ?_
        refine (show As l b 13 y_X_best KM RM _ (J19) 30 [.ref 0, .int (nI 0), .int (nI 4), .int (nI 0), .int (nI 0), uu, uu] [.int (nI 16), .ref 17] from ?_)
        refine aw_iald (j := 16) km_17 (vp_in_nI (by decide) (by decide)) (nI_clamp (by decide)) d_X_best_30 ?_
        refine aw_top (x2 := nI 0) (e22) ?_
        refine as_reti rfl d_X_best_31 ?_
        refine (show As l b 14 y_X_look KM RM K2 (J19) 28 [.ref 0, .int (nI 2), uu, uu] [.int (nI 0)] from ?_)
        refine aw_istore_n (lv2 := [.ref 0, .int (nI 2), .int (nI 0), uu]) rfl (by decide) rfl d_X_look_28 ?_
        refine aw_aload_n rfl rfl d_X_look_29 ?_
        refine aw_getr fl_X_7 km_0 (by decide) rfl rm_0_0 d_X_look_30 ?_
        refine aw_bipush (v := nI 10) cb_10 d_X_look_33 ?_
        refine aw_iload_n rfl rfl d_X_look_35 ?_
        refine aw_iadd d_X_look_36 ?_
        refine aw_top (x2 := nI 12) (by decide +kernel) ?_
        refine aw_dup2 rfl rfl d_X_look_37 ?_
        refine aw_iald (j := 12) km_1 (vp_in_nI (by decide) (by decide)) (nI_clamp (by decide)) d_X_look_38 ?_
        refine aw_top (x2 := nI 9) (((congrFun (f20 1 (by decide)) (12)).trans (g2 2 (by decide)))) ?_
        refine aw_iconst (v := nI 1) ci_1 d_X_look_39 ?_
        refine aw_iadd d_X_look_40 ?_
        refine aw_top (x2 := nI 10) (by decide +kernel) ?_
        refine aw_iast (j := 12) km_1 (vp_in_nI (by decide) (by decide)) (nI_clamp (by decide)) d_X_look_41 ?_
        refine aw_aload_n rfl rfl d_X_look_42 ?_
        refine aw_iconst (v := nI 0) ci_0 d_X_look_43 ?_
        refine as_callV (as := [.int (nI 0)]) (d' := 13) (q := ("SinglesUpModel", zT9, 51)) mo_X_best lk_X_365 km_0 rfl rfl rfl ⟨by decide, by decide⟩ rfl rfl (by decide) d_X_look_44 (Ss.of (show As l b 13 y_X_best KM RM _ (upd2 J19 1 (12) (nI 10)) 0 [.ref 0, .int (nI 0), uu, uu, uu, uu, uu] [] from ?_))
        refine aw_aload_n rfl rfl d_X_best_0 ?_
        refine as_callV (as := []) (d' := 5) (q := ("SinglesUpModel", zT9, 51)) mo_X_reckons lk_X_362 km_0 rfl rfl rfl ⟨by decide, by decide⟩ rfl rfl (by decide) d_X_best_1 (sp_reckons2 (I := upd2 J19 1 (12) (nI 10)) (m6 (P := fun j => (upd2 J19 1 (12) (nI 10)) 1 (130 + j) = nI 0) (Eq.trans (upd2_nx (by omega)) (((congrFun (f20 1 (by decide)) (130)).trans (g1 0 (by decide))))) (Eq.trans (upd2_nx (by omega)) (((congrFun (f20 1 (by decide)) (131)).trans (g1 1 (by decide))))) (Eq.trans (upd2_nx (by omega)) (((congrFun (f20 1 (by decide)) (132)).trans (g1 2 (by decide))))) (Eq.trans (upd2_nx (by omega)) (((congrFun (f20 1 (by decide)) (133)).trans (g1 3 (by decide))))) (Eq.trans (upd2_nx (by omega)) (((congrFun (f20 1 (by decide)) (134)).trans (g1 4 (by decide))))) (Eq.trans (upd2_nx (by omega)) (((congrFun (f20 1 (by decide)) (135)).trans (g1 5 (by decide)))))) (fun J23 f24 e25 e26 => ?_))
        refine (show As l b 13 y_X_best KM RM _ (J23) 4 [.ref 0, .int (nI 0), uu, uu, uu, uu, uu] [] from ?_)
        refine aw_aload_n rfl rfl d_X_best_4 ?_
        refine aw_getr fl_X_7 km_0 (by decide) rfl rm_0_0 d_X_best_5 ?_
        refine aw_iconst (v := nI 1) ci_1 d_X_best_8 ?_
        refine aw_iald (j := 1) km_1 (vp_in_nI (by decide) (by decide)) (nI_clamp (by decide)) d_X_best_9 ?_
        refine aw_top (x2 := nI 4) (((congrFun (f24 1 (by decide)) (1)).trans (Eq.trans (upd2_nx (by omega)) (((congrFun (f20 1 (by decide)) (1)).trans (g3)))))) ?_
        refine aw_istore_n (lv2 := [.ref 0, .int (nI 0), .int (nI 4), uu, uu, uu, uu]) rfl (by decide) rfl d_X_best_10 ?_
        refine aw_iconst (v := nI 0) ci_0 d_X_best_11 ?_
        refine aw_istore_n (lv2 := [.ref 0, .int (nI 0), .int (nI 4), .int (nI 0), uu, uu, uu]) rfl (by decide) rfl d_X_best_12 ?_
        refine aw_iconst (v := nI 0) ci_0 d_X_best_13 ?_
        refine aw_istore (lv2 := [.ref 0, .int (nI 0), .int (nI 4), .int (nI 0), .int (nI 0), uu, uu]) (by decide) rfl d_X_best_14 ?_
        refine aw_iload_n rfl rfl d_X_best_16 ?_
        refine aw_if_neI (tgt := 32) (0) (by decide +kernel) (by decide) d_X_best_17 (fun q => absurd q (by decide)) (fun _ => ?_)
        refine aw_aload_n rfl rfl d_X_best_20 ?_
        refine aw_getr fl_X_69 km_0 (by decide) rfl rm_0_39 d_X_best_21 ?_
        refine aw_iconst (v := nI 0) ci_0 d_X_best_24 ?_
        refine aw_iload_n rfl rfl d_X_best_25 ?_
        refine aw_iconst (v := nI 0) ci_0 d_X_best_26 ?_
        refine as_callS (as := [.int (nI 0), .int (nI 4), .int (nI 0)]) (d' := 12) mo_X_spot lk_X_353 rfl ⟨by decide, by decide⟩ rfl rfl (by decide) d_X_best_27 (Ss.of (show As l b 12 y_X_spot KM RM _ (J23) 0 [.int (nI 0), .int (nI 4), .int (nI 0)] [] from ?_))
        refine aw_bipush (v := nI 36) cb_36 d_X_spot_0 ?_
        refine aw_iload_n rfl rfl d_X_spot_2 ?_
        refine aw_imul d_X_spot_3 ?_
        refine aw_top (x2 := nI 0) (by decide +kernel) ?_
        refine aw_iconst (v := nI 4) ci_4 d_X_spot_4 ?_
        refine aw_iload_n rfl rfl d_X_spot_5 ?_
        refine aw_imul d_X_spot_6 ?_
        refine aw_top (x2 := nI 16) (by decide +kernel) ?_
        refine aw_iadd d_X_spot_7 ?_
        refine aw_top (x2 := nI 16) (by decide +kernel) ?_
        refine aw_iload_n rfl rfl d_X_spot_8 ?_
        refine aw_iadd d_X_spot_9 ?_
        refine aw_top (x2 := nI 16) (by decide +kernel) ?_
        refine as_reti rfl d_X_spot_10 ?_
        refine (show As l b 13 y_X_best KM RM _ (J23) 30 [.ref 0, .int (nI 0), .int (nI 4), .int (nI 0), .int (nI 0), uu, uu] [.int (nI 16), .ref 17] from ?_)
        refine aw_iald (j := 16) km_17 (vp_in_nI (by decide) (by decide)) (nI_clamp (by decide)) d_X_best_30 ?_
        refine aw_top (x2 := nI 0) (e26) ?_
        refine as_reti rfl d_X_best_31 ?_
        refine (show As l b 14 y_X_look KM RM K2 (J23) 47 [.ref 0, .int (nI 2), .int (nI 0), uu] [.int (nI 0)] from ?_)
        refine aw_istore_n (lv2 := [.ref 0, .int (nI 2), .int (nI 0), .int (nI 0)]) rfl (by decide) rfl d_X_look_47 ?_
        refine aw_aload_n rfl rfl d_X_look_48 ?_
        refine aw_getr fl_X_7 km_0 (by decide) rfl rm_0_0 d_X_look_49 ?_
        refine aw_bipush (v := nI 10) cb_10 d_X_look_52 ?_
        refine aw_iload_n rfl rfl d_X_look_54 ?_
        refine aw_iadd d_X_look_55 ?_
        refine aw_top (x2 := nI 12) (by decide +kernel) ?_
        refine aw_dup2 rfl rfl d_X_look_56 ?_
        refine aw_iald (j := 12) km_1 (vp_in_nI (by decide) (by decide)) (nI_clamp (by decide)) d_X_look_57 ?_
        refine aw_top (x2 := nI 10) (((congrFun (f24 1 (by decide)) (12)).trans (upd2_eq))) ?_
        refine aw_iconst (v := nI 1) ci_1 d_X_look_58 ?_
        refine aw_isub d_X_look_59 ?_
        refine aw_top (x2 := nI 9) (by decide +kernel) ?_
        refine aw_iast (j := 12) km_1 (vp_in_nI (by decide) (by decide)) (nI_clamp (by decide)) d_X_look_60 ?_
        refine aw_iload_n rfl rfl d_X_look_61 ?_
        refine aw_iload_n rfl rfl d_X_look_62 ?_
        refine aw_isub d_X_look_63 ?_
        refine aw_top (x2 := nI 0) (by decide +kernel) ?_
        exact as_reti rfl d_X_look_64 (hg (by omega) _)
      · refine aw_aload_n rfl rfl d_X_look_7 ?_
        refine aw_getr fl_X_7 km_0 (by decide) rfl rm_0_0 d_X_look_8 ?_
        refine aw_bipush (v := nI 10) cb_10 d_X_look_11 ?_
        refine aw_iload_n rfl rfl d_X_look_13 ?_
        refine aw_iadd d_X_look_14 ?_
        refine aw_top (x2 := nI 13) (by decide +kernel) ?_
        refine aw_iald (j := 13) km_1 (vp_in_nI (by decide) (by decide)) (nI_clamp (by decide)) d_X_look_15 ?_
        refine aw_top (x2 := nI 9) (g2 3 (by decide)) ?_
        refine aw_bipush (v := nI 24) cb_24 d_X_look_16 ?_
        refine aw_icmp_neI (tgt := 23) (9) (24) (by decide +kernel) (by decide +kernel) (by decide) d_X_look_18 (fun _ => ?_) (fun q => absurd q (by decide))
        refine aw_aload_n rfl rfl d_X_look_23 ?_
        refine aw_iconst (v := nI 0) ci_0 d_X_look_24 ?_
        refine as_callV (as := [.int (nI 0)]) (d' := 13) (q := ("SinglesUpModel", zT9, 51)) mo_X_best lk_X_365 km_0 rfl rfl rfl ⟨by decide, by decide⟩ rfl rfl (by decide) d_X_look_25 (Ss.of (show As l b 13 y_X_best KM RM _ (I) 0 [.ref 0, .int (nI 0), uu, uu, uu, uu, uu] [] from ?_))
        refine aw_aload_n rfl rfl d_X_best_0 ?_
        refine as_callV (as := []) (d' := 5) (q := ("SinglesUpModel", zT9, 51)) mo_X_reckons lk_X_362 km_0 rfl rfl rfl ⟨by decide, by decide⟩ rfl rfl (by decide) d_X_best_1 (sp_reckons2 (I := I) (m6 (P := fun j => (I) 1 (130 + j) = nI 0) (g1 0 (by decide)) (g1 1 (by decide)) (g1 2 (by decide)) (g1 3 (by decide)) (g1 4 (by decide)) (g1 5 (by decide))) (fun J27 f28 e29 e30 => ?_))
        refine (show As l b 13 y_X_best KM RM _ (J27) 4 [.ref 0, .int (nI 0), uu, uu, uu, uu, uu] [] from ?_)
        refine aw_aload_n rfl rfl d_X_best_4 ?_
        refine aw_getr fl_X_7 km_0 (by decide) rfl rm_0_0 d_X_best_5 ?_
        refine aw_iconst (v := nI 1) ci_1 d_X_best_8 ?_
        refine aw_iald (j := 1) km_1 (vp_in_nI (by decide) (by decide)) (nI_clamp (by decide)) d_X_best_9 ?_
        refine aw_top (x2 := nI 4) (((congrFun (f28 1 (by decide)) (1)).trans (g3))) ?_
        refine aw_istore_n (lv2 := [.ref 0, .int (nI 0), .int (nI 4), uu, uu, uu, uu]) rfl (by decide) rfl d_X_best_10 ?_
        refine aw_iconst (v := nI 0) ci_0 d_X_best_11 ?_
        refine aw_istore_n (lv2 := [.ref 0, .int (nI 0), .int (nI 4), .int (nI 0), uu, uu, uu]) rfl (by decide) rfl d_X_best_12 ?_
        refine aw_iconst (v := nI 0) ci_0 d_X_best_13 ?_
        refine aw_istore (lv2 := [.ref 0, .int (nI 0), .int (nI 4), .int (nI 0), .int (nI 0), uu, uu]) (by decide) rfl d_X_best_14 ?_
        refine aw_iload_n rfl rfl d_X_best_16 ?_
        refine aw_if_neI (tgt := 32) (0) (by decide +kernel) (by decide) d_X_best_17 (fun q => absurd q (by decide)) (fun _ => ?_)
        refine aw_aload_n rfl rfl d_X_best_20 ?_
        refine aw_getr fl_X_69 km_0 (by decide) rfl rm_0_39 d_X_best_21 ?_
        refine aw_iconst (v := nI 0) ci_0 d_X_best_24 ?_
        refine aw_iload_n rfl rfl d_X_best_25 ?_
        refine aw_iconst (v := nI 0) ci_0 d_X_best_26 ?_
        refine as_callS (as := [.int (nI 0), .int (nI 4), .int (nI 0)]) (d' := 12) mo_X_spot lk_X_353 rfl ⟨by decide, by decide⟩ rfl rfl (by decide) d_X_best_27 (Ss.of (show As l b 12 y_X_spot KM RM _ (J27) 0 [.int (nI 0), .int (nI 4), .int (nI 0)] [] from ?_))
        refine aw_bipush (v := nI 36) cb_36 d_X_spot_0 ?_
        refine aw_iload_n rfl rfl d_X_spot_2 ?_
        refine aw_imul d_X_spot_3 ?_
        refine aw_top (x2 := nI 0) (by decide +kernel) ?_
        refine aw_iconst (v := nI 4) ci_4 d_X_spot_4 ?_
        refine aw_iload_n rfl rfl d_X_spot_5 ?_
        refine aw_imul d_X_spot_6 ?_
        refine aw_top (x2 := nI 16) (by decide +kernel) ?_
        refine aw_iadd d_X_spot_7 ?_
        refine aw_top (x2 := nI 16) (by decide +kernel) ?_
        refine aw_iload_n rfl rfl d_X_spot_8 ?_
        refine aw_iadd d_X_spot_9 ?_
        refine aw_top (x2 := nI 16) (by decide +kernel) ?_
        refine as_reti rfl d_X_spot_10 ?_
        refine (show As l b 13 y_X_best KM RM _ (J27) 30 [.ref 0, .int (nI 0), .int (nI 4), .int (nI 0), .int (nI 0), uu, uu] [.int (nI 16), .ref 17] from ?_)
        refine aw_iald (j := 16) km_17 (vp_in_nI (by decide) (by decide)) (nI_clamp (by decide)) d_X_best_30 ?_
        refine aw_top (x2 := nI 0) (e30) ?_
        refine as_reti rfl d_X_best_31 ?_
        refine (show As l b 14 y_X_look KM RM K2 (J27) 28 [.ref 0, .int (nI 3), uu, uu] [.int (nI 0)] from ?_)
        refine aw_istore_n (lv2 := [.ref 0, .int (nI 3), .int (nI 0), uu]) rfl (by decide) rfl d_X_look_28 ?_
        refine aw_aload_n rfl rfl d_X_look_29 ?_
        refine aw_getr fl_X_7 km_0 (by decide) rfl rm_0_0 d_X_look_30 ?_
        refine aw_bipush (v := nI 10) cb_10 d_X_look_33 ?_
        refine aw_iload_n rfl rfl d_X_look_35 ?_
        refine aw_iadd d_X_look_36 ?_
        refine aw_top (x2 := nI 13) (by decide +kernel) ?_
        refine aw_dup2 rfl rfl d_X_look_37 ?_
        refine aw_iald (j := 13) km_1 (vp_in_nI (by decide) (by decide)) (nI_clamp (by decide)) d_X_look_38 ?_
        refine aw_top (x2 := nI 9) (((congrFun (f28 1 (by decide)) (13)).trans (g2 3 (by decide)))) ?_
        refine aw_iconst (v := nI 1) ci_1 d_X_look_39 ?_
        refine aw_iadd d_X_look_40 ?_
        refine aw_top (x2 := nI 10) (by decide +kernel) ?_
        refine aw_iast (j := 13) km_1 (vp_in_nI (by decide) (by decide)) (nI_clamp (by decide)) d_X_look_41 ?_
        refine aw_aload_n rfl rfl d_X_look_42 ?_
        refine aw_iconst (v := nI 0) ci_0 d_X_look_43 ?_
        refine as_callV (as := [.int (nI 0)]) (d' := 13) (q := ("SinglesUpModel", zT9, 51)) mo_X_best lk_X_365 km_0 rfl rfl rfl ⟨by decide, by decide⟩ rfl rfl (by decide) d_X_look_44 (Ss.of (show As l b 13 y_X_best KM RM _ (upd2 J27 1 (13) (nI 10)) 0 [.ref 0, .int (nI 0), uu, uu, uu, uu, uu] [] from ?_))
        refine aw_aload_n rfl rfl d_X_best_0 ?_
        refine as_callV (as := []) (d' := 5) (q := ("SinglesUpModel", zT9, 51)) mo_X_reckons lk_X_362 km_0 rfl rfl rfl ⟨by decide, by decide⟩ rfl rfl (by decide) d_X_best_1 (sp_reckons2 (I := upd2 J27 1 (13) (nI 10)) (m6 (P := fun j => (upd2 J27 1 (13) (nI 10)) 1 (130 + j) = nI 0) (Eq.trans (upd2_nx (by omega)) (((congrFun (f28 1 (by decide)) (130)).trans (g1 0 (by decide))))) (Eq.trans (upd2_nx (by omega)) (((congrFun (f28 1 (by decide)) (131)).trans (g1 1 (by decide))))) (Eq.trans (upd2_nx (by omega)) (((congrFun (f28 1 (by decide)) (132)).trans (g1 2 (by decide))))) (Eq.trans (upd2_nx (by omega)) (((congrFun (f28 1 (by decide)) (133)).trans (g1 3 (by decide))))) (Eq.trans (upd2_nx (by omega)) (((congrFun (f28 1 (by decide)) (134)).trans (g1 4 (by decide))))) (Eq.trans (upd2_nx (by omega)) (((congrFun (f28 1 (by decide)) (135)).trans (g1 5 (by decide)))))) (fun J31 f32 e33 e34 => ?_))
        refine (show As l b 13 y_X_best KM RM _ (J31) 4 [.ref 0, .int (nI 0), uu, uu, uu, uu, uu] [] from ?_)
        refine aw_aload_n rfl rfl d_X_best_4 ?_
        refine aw_getr fl_X_7 km_0 (by decide) rfl rm_0_0 d_X_best_5 ?_
        refine aw_iconst (v := nI 1) ci_1 d_X_best_8 ?_
        refine aw_iald (j := 1) km_1 (vp_in_nI (by decide) (by decide)) (nI_clamp (by decide)) d_X_best_9 ?_
        refine aw_top (x2 := nI 4) (((congrFun (f32 1 (by decide)) (1)).trans (Eq.trans (upd2_nx (by omega)) (((congrFun (f28 1 (by decide)) (1)).trans (g3)))))) ?_
        refine aw_istore_n (lv2 := [.ref 0, .int (nI 0), .int (nI 4), uu, uu, uu, uu]) rfl (by decide) rfl d_X_best_10 ?_
        refine aw_iconst (v := nI 0) ci_0 d_X_best_11 ?_
        refine aw_istore_n (lv2 := [.ref 0, .int (nI 0), .int (nI 4), .int (nI 0), uu, uu, uu]) rfl (by decide) rfl d_X_best_12 ?_
        refine aw_iconst (v := nI 0) ci_0 d_X_best_13 ?_
        refine aw_istore (lv2 := [.ref 0, .int (nI 0), .int (nI 4), .int (nI 0), .int (nI 0), uu, uu]) (by decide) rfl d_X_best_14 ?_
        refine aw_iload_n rfl rfl d_X_best_16 ?_
        refine aw_if_neI (tgt := 32) (0) (by decide +kernel) (by decide) d_X_best_17 (fun q => absurd q (by decide)) (fun _ => ?_)
        refine aw_aload_n rfl rfl d_X_best_20 ?_
        refine aw_getr fl_X_69 km_0 (by decide) rfl rm_0_39 d_X_best_21 ?_
        refine aw_iconst (v := nI 0) ci_0 d_X_best_24 ?_
        refine aw_iload_n rfl rfl d_X_best_25 ?_
        refine aw_iconst (v := nI 0) ci_0 d_X_best_26 ?_
        refine as_callS (as := [.int (nI 0), .int (nI 4), .int (nI 0)]) (d' := 12) mo_X_spot lk_X_353 rfl ⟨by decide, by decide⟩ rfl rfl (by decide) d_X_best_27 (Ss.of (show As l b 12 y_X_spot KM RM _ (J31) 0 [.int (nI 0), .int (nI 4), .int (nI 0)] [] from ?_))
        refine aw_bipush (v := nI 36) cb_36 d_X_spot_0 ?_
        refine aw_iload_n rfl rfl d_X_spot_2 ?_
        refine aw_imul d_X_spot_3 ?_
        refine aw_top (x2 := nI 0) (by decide +kernel) ?_
        refine aw_iconst (v := nI 4) ci_4 d_X_spot_4 ?_
        refine aw_iload_n rfl rfl d_X_spot_5 ?_
        refine aw_imul d_X_spot_6 ?_
        refine aw_top (x2 := nI 16) (by decide +kernel) ?_
        refine aw_iadd d_X_spot_7 ?_
        refine aw_top (x2 := nI 16) (by decide +kernel) ?_
        refine aw_iload_n rfl rfl d_X_spot_8 ?_
        refine aw_iadd d_X_spot_9 ?_
        refine aw_top (x2 := nI 16) (by decide +kernel) ?_
        refine as_reti rfl d_X_spot_10 ?_
        refine (show As l b 13 y_X_best KM RM _ (J31) 30 [.ref 0, .int (nI 0), .int (nI 4), .int (nI 0), .int (nI 0), uu, uu] [.int (nI 16), .ref 17] from ?_)
        refine aw_iald (j := 16) km_17 (vp_in_nI (by decide) (by decide)) (nI_clamp (by decide)) d_X_best_30 ?_
        refine aw_top (x2 := nI 0) (e34) ?_
        refine as_reti rfl d_X_best_31 ?_
        refine (show As l b 14 y_X_look KM RM K2 (J31) 47 [.ref 0, .int (nI 3), .int (nI 0), uu] [.int (nI 0)] from ?_)
        refine aw_istore_n (lv2 := [.ref 0, .int (nI 3), .int (nI 0), .int (nI 0)]) rfl (by decide) rfl d_X_look_47 ?_
        refine aw_aload_n rfl rfl d_X_look_48 ?_
        refine aw_getr fl_X_7 km_0 (by decide) rfl rm_0_0 d_X_look_49 ?_
        refine aw_bipush (v := nI 10) cb_10 d_X_look_52 ?_
        refine aw_iload_n rfl rfl d_X_look_54 ?_
        refine aw_iadd d_X_look_55 ?_
        refine aw_top (x2 := nI 13) (by decide +kernel) ?_
        refine aw_dup2 rfl rfl d_X_look_56 ?_
        refine aw_iald (j := 13) km_1 (vp_in_nI (by decide) (by decide)) (nI_clamp (by decide)) d_X_look_57 ?_
        refine aw_top (x2 := nI 10) (((congrFun (f32 1 (by decide)) (13)).trans (upd2_eq))) ?_
        refine aw_iconst (v := nI 1) ci_1 d_X_look_58 ?_
        refine aw_isub d_X_look_59 ?_
        refine aw_top (x2 := nI 9) (by decide +kernel) ?_
        refine aw_iast (j := 13) km_1 (vp_in_nI (by decide) (by decide)) (nI_clamp (by decide)) d_X_look_60 ?_
        refine aw_iload_n rfl rfl d_X_look_61 ?_
        refine aw_iload_n rfl rfl d_X_look_62 ?_
        refine aw_isub d_X_look_63 ?_
        refine aw_top (x2 := nI 0) (by decide +kernel) ?_
        exact as_reti rfl d_X_look_64 (hg (by omega) _)
      · refine aw_aload_n rfl rfl d_X_look_7 ?_
        refine aw_getr fl_X_7 km_0 (by decide) rfl rm_0_0 d_X_look_8 ?_
        refine aw_bipush (v := nI 10) cb_10 d_X_look_11 ?_
        refine aw_iload_n rfl rfl d_X_look_13 ?_
        refine aw_iadd d_X_look_14 ?_
        refine aw_top (x2 := nI 14) (by decide +kernel) ?_
        refine aw_iald (j := 14) km_1 (vp_in_nI (by decide) (by decide)) (nI_clamp (by decide)) d_X_look_15 ?_
        refine aw_top (x2 := nI 9) (g2 4 (by decide)) ?_
        refine aw_bipush (v := nI 24) cb_24 d_X_look_16 ?_
        refine aw_icmp_neI (tgt := 23) (9) (24) (by decide +kernel) (by decide +kernel) (by decide) d_X_look_18 (fun _ => ?_) (fun q => absurd q (by decide))
        refine aw_aload_n rfl rfl d_X_look_23 ?_
        refine aw_iconst (v := nI 0) ci_0 d_X_look_24 ?_
        refine as_callV (as := [.int (nI 0)]) (d' := 13) (q := ("SinglesUpModel", zT9, 51)) mo_X_best lk_X_365 km_0 rfl rfl rfl ⟨by decide, by decide⟩ rfl rfl (by decide) d_X_look_25 (Ss.of (show As l b 13 y_X_best KM RM _ (I) 0 [.ref 0, .int (nI 0), uu, uu, uu, uu, uu] [] from ?_))
        refine aw_aload_n rfl rfl d_X_best_0 ?_
        refine as_callV (as := []) (d' := 5) (q := ("SinglesUpModel", zT9, 51)) mo_X_reckons lk_X_362 km_0 rfl rfl rfl ⟨by decide, by decide⟩ rfl rfl (by decide) d_X_best_1 (sp_reckons2 (I := I) (m6 (P := fun j => (I) 1 (130 + j) = nI 0) (g1 0 (by decide)) (g1 1 (by decide)) (g1 2 (by decide)) (g1 3 (by decide)) (g1 4 (by decide)) (g1 5 (by decide))) (fun J35 f36 e37 e38 => ?_))
        refine (show As l b 13 y_X_best KM RM _ (J35) 4 [.ref 0, .int (nI 0), uu, uu, uu, uu, uu] [] from ?_)
        refine aw_aload_n rfl rfl d_X_best_4 ?_
        refine aw_getr fl_X_7 km_0 (by decide) rfl rm_0_0 d_X_best_5 ?_
        refine aw_iconst (v := nI 1) ci_1 d_X_best_8 ?_
        refine aw_iald (j := 1) km_1 (vp_in_nI (by decide) (by decide)) (nI_clamp (by decide)) d_X_best_9 ?_
        refine aw_top (x2 := nI 4) (((congrFun (f36 1 (by decide)) (1)).trans (g3))) ?_
        refine aw_istore_n (lv2 := [.ref 0, .int (nI 0), .int (nI 4), uu, uu, uu, uu]) rfl (by decide) rfl d_X_best_10 ?_
        refine aw_iconst (v := nI 0) ci_0 d_X_best_11 ?_
        refine aw_istore_n (lv2 := [.ref 0, .int (nI 0), .int (nI 4), .int (nI 0), uu, uu, uu]) rfl (by decide) rfl d_X_best_12 ?_
        refine aw_iconst (v := nI 0) ci_0 d_X_best_13 ?_
        refine aw_istore (lv2 := [.ref 0, .int (nI 0), .int (nI 4), .int (nI 0), .int (nI 0), uu, uu]) (by decide) rfl d_X_best_14 ?_
        refine aw_iload_n rfl rfl d_X_best_16 ?_
        refine aw_if_neI (tgt := 32) (0) (by decide +kernel) (by decide) d_X_best_17 (fun q => absurd q (by decide)) (fun _ => ?_)
        refine aw_aload_n rfl rfl d_X_best_20 ?_
        refine aw_getr fl_X_69 km_0 (by decide) rfl rm_0_39 d_X_best_21 ?_
        refine aw_iconst (v := nI 0) ci_0 d_X_best_24 ?_
        refine aw_iload_n rfl rfl d_X_best_25 ?_
        refine aw_iconst (v := nI 0) ci_0 d_X_best_26 ?_
        refine as_callS (as := [.int (nI 0), .int (nI 4), .int (nI 0)]) (d' := 12) mo_X_spot lk_X_353 rfl ⟨by decide, by decide⟩ rfl rfl (by decide) d_X_best_27 (Ss.of (show As l b 12 y_X_spot KM RM _ (J35) 0 [.int (nI 0), .int (nI 4), .int (nI 0)] [] from ?_))
        refine aw_bipush (v := nI 36) cb_36 d_X_spot_0 ?_
        refine aw_iload_n rfl rfl d_X_spot_2 ?_
        refine aw_imul d_X_spot_3 ?_
        refine aw_top (x2 := nI 0) (by decide +kernel) ?_
        refine aw_iconst (v := nI 4) ci_4 d_X_spot_4 ?_
        refine aw_iload_n rfl rfl d_X_spot_5 ?_
        refine aw_imul d_X_spot_6 ?_
        refine aw_top (x2 := nI 16) (by decide +kernel) ?_
        refine aw_iadd d_X_spot_7 ?_
        refine aw_top (x2 := nI 16) (by decide +kernel) ?_
        refine aw_iload_n rfl rfl d_X_spot_8 ?_
        refine aw_iadd d_X_spot_9 ?_
        refine aw_top (x2 := nI 16) (by decide +kernel) ?_
        refine as_reti rfl d_X_spot_10 ?_
        refine (show As l b 13 y_X_best KM RM _ (J35) 30 [.ref 0, .int (nI 0), .int (nI 4), .int (nI 0), .int (nI 0), uu, uu] [.int (nI 16), .ref 17] from ?_)
        refine aw_iald (j := 16) km_17 (vp_in_nI (by decide) (by decide)) (nI_clamp (by decide)) d_X_best_30 ?_
        refine aw_top (x2 := nI 0) (e38) ?_
        refine as_reti rfl d_X_best_31 ?_
        refine (show As l b 14 y_X_look KM RM K2 (J35) 28 [.ref 0, .int (nI 4), uu, uu] [.int (nI 0)] from ?_)
        refine aw_istore_n (lv2 := [.ref 0, .int (nI 4), .int (nI 0), uu]) rfl (by decide) rfl d_X_look_28 ?_
        refine aw_aload_n rfl rfl d_X_look_29 ?_
        refine aw_getr fl_X_7 km_0 (by decide) rfl rm_0_0 d_X_look_30 ?_
        refine aw_bipush (v := nI 10) cb_10 d_X_look_33 ?_
        refine aw_iload_n rfl rfl d_X_look_35 ?_
        refine aw_iadd d_X_look_36 ?_
        refine aw_top (x2 := nI 14) (by decide +kernel) ?_
        refine aw_dup2 rfl rfl d_X_look_37 ?_
        refine aw_iald (j := 14) km_1 (vp_in_nI (by decide) (by decide)) (nI_clamp (by decide)) d_X_look_38 ?_
        refine aw_top (x2 := nI 9) (((congrFun (f36 1 (by decide)) (14)).trans (g2 4 (by decide)))) ?_
        refine aw_iconst (v := nI 1) ci_1 d_X_look_39 ?_
        refine aw_iadd d_X_look_40 ?_
        refine aw_top (x2 := nI 10) (by decide +kernel) ?_
        refine aw_iast (j := 14) km_1 (vp_in_nI (by decide) (by decide)) (nI_clamp (by decide)) d_X_look_41 ?_
        refine aw_aload_n rfl rfl d_X_look_42 ?_
        refine aw_iconst (v := nI 0) ci_0 d_X_look_43 ?_
        refine as_callV (as := [.int (nI 0)]) (d' := 13) (q := ("SinglesUpModel", zT9, 51)) mo_X_best lk_X_365 km_0 rfl rfl rfl ⟨by decide, by decide⟩ rfl rfl (by decide) d_X_look_44 (Ss.of (show As l b 13 y_X_best KM RM _ (upd2 J35 1 (14) (nI 10)) 0 [.ref 0, .int (nI 0), uu, uu, uu, uu, uu] [] from ?_))
        refine aw_aload_n rfl rfl d_X_best_0 ?_
        refine as_callV (as := []) (d' := 5) (q := ("SinglesUpModel", zT9, 51)) mo_X_reckons lk_X_362 km_0 rfl rfl rfl ⟨by decide, by decide⟩ rfl rfl (by decide) d_X_best_1 (sp_reckons2 (I := upd2 J35 1 (14) (nI 10)) (m6 (P := fun j => (upd2 J35 1 (14) (nI 10)) 1 (130 + j) = nI 0) (Eq.trans (upd2_nx (by omega)) (((congrFun (f36 1 (by decide)) (130)).trans (g1 0 (by decide))))) (Eq.trans (upd2_nx (by omega)) (((congrFun (f36 1 (by decide)) (131)).trans (g1 1 (by decide))))) (Eq.trans (upd2_nx (by omega)) (((congrFun (f36 1 (by decide)) (132)).trans (g1 2 (by decide))))) (Eq.trans (upd2_nx (by omega)) (((congrFun (f36 1 (by decide)) (133)).trans (g1 3 (by decide))))) (Eq.trans (upd2_nx (by omega)) (((congrFun (f36 1 (by decide)) (134)).trans (g1 4 (by decide))))) (Eq.trans (upd2_nx (by omega)) (((congrFun (f36 1 (by decide)) (135)).trans (g1 5 (by decide)))))) (fun J39 f40 e41 e42 => ?_))
        refine (show As l b 13 y_X_best KM RM _ (J39) 4 [.ref 0, .int (nI 0), uu, uu, uu, uu, uu] [] from ?_)
        refine aw_aload_n rfl rfl d_X_best_4 ?_
        refine aw_getr fl_X_7 km_0 (by decide) rfl rm_0_0 d_X_best_5 ?_
        refine aw_iconst (v := nI 1) ci_1 d_X_best_8 ?_
        refine aw_iald (j := 1) km_1 (vp_in_nI (by decide) (by decide)) (nI_clamp (by decide)) d_X_best_9 ?_
        refine aw_top (x2 := nI 4) (((congrFun (f40 1 (by decide)) (1)).trans (Eq.trans (upd2_nx (by omega)) (((congrFun (f36 1 (by decide)) (1)).trans (g3)))))) ?_
        refine aw_istore_n (lv2 := [.ref 0, .int (nI 0), .int (nI 4), uu, uu, uu, uu]) rfl (by decide) rfl d_X_best_10 ?_
        refine aw_iconst (v := nI 0) ci_0 d_X_best_11 ?_
        refine aw_istore_n (lv2 := [.ref 0, .int (nI 0), .int (nI 4), .int (nI 0), uu, uu, uu]) rfl (by decide) rfl d_X_best_12 ?_
        refine aw_iconst (v := nI 0) ci_0 d_X_best_13 ?_
        refine aw_istore (lv2 := [.ref 0, .int (nI 0), .int (nI 4), .int (nI 0), .int (nI 0), uu, uu]) (by decide) rfl d_X_best_14 ?_
        refine aw_iload_n rfl rfl d_X_best_16 ?_
        refine aw_if_neI (tgt := 32) (0) (by decide +kernel) (by decide) d_X_best_17 (fun q => absurd q (by decide)) (fun _ => ?_)
        refine aw_aload_n rfl rfl d_X_best_20 ?_
        refine aw_getr fl_X_69 km_0 (by decide) rfl rm_0_39 d_X_best_21 ?_
        refine aw_iconst (v := nI 0) ci_0 d_X_best_24 ?_
        refine aw_iload_n rfl rfl d_X_best_25 ?_
        refine aw_iconst (v := nI 0) ci_0 d_X_best_26 ?_
        refine as_callS (as := [.int (nI 0), .int (nI 4), .int (nI 0)]) (d' := 12) mo_X_spot lk_X_353 rfl ⟨by decide, by decide⟩ rfl rfl (by decide) d_X_best_27 (Ss.of (show As l b 12 y_X_spot KM RM _ (J39) 0 [.int (nI 0), .int (nI 4), .int (nI 0)] [] from ?_))
        refine aw_bipush (v := nI 36) cb_36 d_X_spot_0 ?_
        refine aw_iload_n rfl rfl d_X_spot_2 ?_
        refine aw_imul d_X_spot_3 ?_
        refine aw_top (x2 := nI 0) (by decide +kernel) ?_
        refine aw_iconst (v := nI 4) ci_4 d_X_spot_4 ?_
        refine aw_iload_n rfl rfl d_X_spot_5 ?_
        refine aw_imul d_X_spot_6 ?_
        refine aw_top (x2 := nI 16) (by decide +kernel) ?_
        refine aw_iadd d_X_spot_7 ?_
        refine aw_top (x2 := nI 16) (by decide +kernel) ?_
        refine aw_iload_n rfl rfl d_X_spot_8 ?_
        refine aw_iadd d_X_spot_9 ?_
        refine aw_top (x2 := nI 16) (by decide +kernel) ?_
        refine as_reti rfl d_X_spot_10 ?_
        refine (show As l b 13 y_X_best KM RM _ (J39) 30 [.ref 0, .int (nI 0), .int (nI 4), .int (nI 0), .int (nI 0), uu, uu] [.int (nI 16), .ref 17] from ?_)
        refine aw_iald (j := 16) km_17 (vp_in_nI (by decide) (by decide)) (nI_clamp (by decide)) d_X_best_30 ?_
        refine aw_top (x2 := nI 0) (e42) ?_
        refine as_reti rfl d_X_best_31 ?_
        refine (show As l b 14 y_X_look KM RM K2 (J39) 47 [.ref 0, .int (nI 4), .int (nI 0), uu] [.int (nI 0)] from ?_)
        refine aw_istore_n (lv2 := [.ref 0, .int (nI 4), .int (nI 0), .int (nI 0)]) rfl (by decide) rfl d_X_look_47 ?_
        refine aw_aload_n rfl rfl d_X_look_48 ?_
        refine aw_getr fl_X_7 km_0 (by decide) rfl rm_0_0 d_X_look_49 ?_
        refine aw_bipush (v := nI 10) cb_10 d_X_look_52 ?_
        refine aw_iload_n rfl rfl d_X_look_54 ?_
        refine aw_iadd d_X_look_55 ?_
        refine aw_top (x2 := nI 14) (by decide +kernel) ?_
        refine aw_dup2 rfl rfl d_X_look_56 ?_
        refine aw_iald (j := 14) km_1 (vp_in_nI (by decide) (by decide)) (nI_clamp (by decide)) d_X_look_57 ?_
        refine aw_top (x2 := nI 10) (((congrFun (f40 1 (by decide)) (14)).trans (upd2_eq))) ?_
        refine aw_iconst (v := nI 1) ci_1 d_X_look_58 ?_
        refine aw_isub d_X_look_59 ?_
        refine aw_top (x2 := nI 9) (by decide +kernel) ?_
        refine aw_iast (j := 14) km_1 (vp_in_nI (by decide) (by decide)) (nI_clamp (by decide)) d_X_look_60 ?_
        refine aw_iload_n rfl rfl d_X_look_61 ?_
        refine aw_iload_n rfl rfl d_X_look_62 ?_
        refine aw_isub d_X_look_63 ?_
        refine aw_top (x2 := nI 0) (by decide +kernel) ?_
        exact as_reti rfl d_X_look_64 (hg (by omega) _)
      · refine aw_aload_n rfl rfl d_X_look_7 ?_
        refine aw_getr fl_X_7 km_0 (by decide) rfl rm_0_0 d_X_look_8 ?_
        refine aw_bipush (v := nI 10) cb_10 d_X_look_11 ?_
        refine aw_iload_n rfl rfl d_X_look_13 ?_
        refine aw_iadd d_X_look_14 ?_
        refine aw_top (x2 := nI 15) (by decide +kernel) ?_
        refine aw_iald (j := 15) km_1 (vp_in_nI (by decide) (by decide)) (nI_clamp (by decide)) d_X_look_15 ?_
        refine aw_top (x2 := nI 9) (g2 5 (by decide)) ?_
        refine aw_bipush (v := nI 24) cb_24 d_X_look_16 ?_
        refine aw_icmp_neI (tgt := 23) (9) (24) (by decide +kernel) (by decide +kernel) (by decide) d_X_look_18 (fun _ => ?_) (fun q => absurd q (by decide))
        refine aw_aload_n rfl rfl d_X_look_23 ?_
        refine aw_iconst (v := nI 0) ci_0 d_X_look_24 ?_
        refine as_callV (as := [.int (nI 0)]) (d' := 13) (q := ("SinglesUpModel", zT9, 51)) mo_X_best lk_X_365 km_0 rfl rfl rfl ⟨by decide, by decide⟩ rfl rfl (by decide) d_X_look_25 (Ss.of (show As l b 13 y_X_best KM RM _ (I) 0 [.ref 0, .int (nI 0), uu, uu, uu, uu, uu] [] from ?_))
        refine aw_aload_n rfl rfl d_X_best_0 ?_
        refine as_callV (as := []) (d' := 5) (q := ("SinglesUpModel", zT9, 51)) mo_X_reckons lk_X_362 km_0 rfl rfl rfl ⟨by decide, by decide⟩ rfl rfl (by decide) d_X_best_1 (sp_reckons2 (I := I) (m6 (P := fun j => (I) 1 (130 + j) = nI 0) (g1 0 (by decide)) (g1 1 (by decide)) (g1 2 (by decide)) (g1 3 (by decide)) (g1 4 (by decide)) (g1 5 (by decide))) (fun J43 f44 e45 e46 => ?_))
        refine (show As l b 13 y_X_best KM RM _ (J43) 4 [.ref 0, .int (nI 0), uu, uu, uu, uu, uu] [] from ?_)
        refine aw_aload_n rfl rfl d_X_best_4 ?_
        refine aw_getr fl_X_7 km_0 (by decide) rfl rm_0_0 d_X_best_5 ?_
        refine aw_iconst (v := nI 1) ci_1 d_X_best_8 ?_
        refine aw_iald (j := 1) km_1 (vp_in_nI (by decide) (by decide)) (nI_clamp (by decide)) d_X_best_9 ?_
        refine aw_top (x2 := nI 4) (((congrFun (f44 1 (by decide)) (1)).trans (g3))) ?_
        refine aw_istore_n (lv2 := [.ref 0, .int (nI 0), .int (nI 4), uu, uu, uu, uu]) rfl (by decide) rfl d_X_best_10 ?_
        refine aw_iconst (v := nI 0) ci_0 d_X_best_11 ?_
        refine aw_istore_n (lv2 := [.ref 0, .int (nI 0), .int (nI 4), .int (nI 0), uu, uu, uu]) rfl (by decide) rfl d_X_best_12 ?_
        refine aw_iconst (v := nI 0) ci_0 d_X_best_13 ?_
        refine aw_istore (lv2 := [.ref 0, .int (nI 0), .int (nI 4), .int (nI 0), .int (nI 0), uu, uu]) (by decide) rfl d_X_best_14 ?_
        refine aw_iload_n rfl rfl d_X_best_16 ?_
        refine aw_if_neI (tgt := 32) (0) (by decide +kernel) (by decide) d_X_best_17 (fun q => absurd q (by decide)) (fun _ => ?_)
        refine aw_aload_n rfl rfl d_X_best_20 ?_
        refine aw_getr fl_X_69 km_0 (by decide) rfl rm_0_39 d_X_best_21 ?_
        refine aw_iconst (v := nI 0) ci_0 d_X_best_24 ?_
        refine aw_iload_n rfl rfl d_X_best_25 ?_
        refine aw_iconst (v := nI 0) ci_0 d_X_best_26 ?_
        refine as_callS (as := [.int (nI 0), .int (nI 4), .int (nI 0)]) (d' := 12) mo_X_spot lk_X_353 rfl ⟨by decide, by decide⟩ rfl rfl (by decide) d_X_best_27 (Ss.of (show As l b 12 y_X_spot KM RM _ (J43) 0 [.int (nI 0), .int (nI 4), .int (nI 0)] [] from ?_))
        refine aw_bipush (v := nI 36) cb_36 d_X_spot_0 ?_
        refine aw_iload_n rfl rfl d_X_spot_2 ?_
        refine aw_imul d_X_spot_3 ?_
        refine aw_top (x2 := nI 0) (by decide +kernel) ?_
        refine aw_iconst (v := nI 4) ci_4 d_X_spot_4 ?_
        refine aw_iload_n rfl rfl d_X_spot_5 ?_
        refine aw_imul d_X_spot_6 ?_
        refine aw_top (x2 := nI 16) (by decide +kernel) ?_
        refine aw_iadd d_X_spot_7 ?_
        refine aw_top (x2 := nI 16) (by decide +kernel) ?_
        refine aw_iload_n rfl rfl d_X_spot_8 ?_
        refine aw_iadd d_X_spot_9 ?_
        refine aw_top (x2 := nI 16) (by decide +kernel) ?_
        refine as_reti rfl d_X_spot_10 ?_
        refine (show As l b 13 y_X_best KM RM _ (J43) 30 [.ref 0, .int (nI 0), .int (nI 4), .int (nI 0), .int (nI 0), uu, uu] [.int (nI 16), .ref 17] from ?_)
        refine aw_iald (j := 16) km_17 (vp_in_nI (by decide) (by decide)) (nI_clamp (by decide)) d_X_best_30 ?_
        refine aw_top (x2 := nI 0) (e46) ?_
        refine as_reti rfl d_X_best_31 ?_
        refine (show As l b 14 y_X_look KM RM K2 (J43) 28 [.ref 0, .int (nI 5), uu, uu] [.int (nI 0)] from ?_)
        refine aw_istore_n (lv2 := [.ref 0, .int (nI 5), .int (nI 0), uu]) rfl (by decide) rfl d_X_look_28 ?_
        refine aw_aload_n rfl rfl d_X_look_29 ?_
        refine aw_getr fl_X_7 km_0 (by decide) rfl rm_0_0 d_X_look_30 ?_
        refine aw_bipush (v := nI 10) cb_10 d_X_look_33 ?_
        refine aw_iload_n rfl rfl d_X_look_35 ?_
        refine aw_iadd d_X_look_36 ?_
        refine aw_top (x2 := nI 15) (by decide +kernel) ?_
        refine aw_dup2 rfl rfl d_X_look_37 ?_
        refine aw_iald (j := 15) km_1 (vp_in_nI (by decide) (by decide)) (nI_clamp (by decide)) d_X_look_38 ?_
        refine aw_top (x2 := nI 9) (((congrFun (f44 1 (by decide)) (15)).trans (g2 5 (by decide)))) ?_
        refine aw_iconst (v := nI 1) ci_1 d_X_look_39 ?_
        refine aw_iadd d_X_look_40 ?_
        refine aw_top (x2 := nI 10) (by decide +kernel) ?_
        refine aw_iast (j := 15) km_1 (vp_in_nI (by decide) (by decide)) (nI_clamp (by decide)) d_X_look_41 ?_
        refine aw_aload_n rfl rfl d_X_look_42 ?_
        refine aw_iconst (v := nI 0) ci_0 d_X_look_43 ?_
        refine as_callV (as := [.int (nI 0)]) (d' := 13) (q := ("SinglesUpModel", zT9, 51)) mo_X_best lk_X_365 km_0 rfl rfl rfl ⟨by decide, by decide⟩ rfl rfl (by decide) d_X_look_44 (Ss.of (show As l b 13 y_X_best KM RM _ (upd2 J43 1 (15) (nI 10)) 0 [.ref 0, .int (nI 0), uu, uu, uu, uu, uu] [] from ?_))
        refine aw_aload_n rfl rfl d_X_best_0 ?_
        refine as_callV (as := []) (d' := 5) (q := ("SinglesUpModel", zT9, 51)) mo_X_reckons lk_X_362 km_0 rfl rfl rfl ⟨by decide, by decide⟩ rfl rfl (by decide) d_X_best_1 (sp_reckons2 (I := upd2 J43 1 (15) (nI 10)) (m6 (P := fun j => (upd2 J43 1 (15) (nI 10)) 1 (130 + j) = nI 0) (Eq.trans (upd2_nx (by omega)) (((congrFun (f44 1 (by decide)) (130)).trans (g1 0 (by decide))))) (Eq.trans (upd2_nx (by omega)) (((congrFun (f44 1 (by decide)) (131)).trans (g1 1 (by decide))))) (Eq.trans (upd2_nx (by omega)) (((congrFun (f44 1 (by decide)) (132)).trans (g1 2 (by decide))))) (Eq.trans (upd2_nx (by omega)) (((congrFun (f44 1 (by decide)) (133)).trans (g1 3 (by decide))))) (Eq.trans (upd2_nx (by omega)) (((congrFun (f44 1 (by decide)) (134)).trans (g1 4 (by decide))))) (Eq.trans (upd2_nx (by omega)) (((congrFun (f44 1 (by decide)) (135)).trans (g1 5 (by decide)))))) (fun J47 f48 e49 e50 => ?_))
        refine (show As l b 13 y_X_best KM RM _ (J47) 4 [.ref 0, .int (nI 0), uu, uu, uu, uu, uu] [] from ?_)
        refine aw_aload_n rfl rfl d_X_best_4 ?_
        refine aw_getr fl_X_7 km_0 (by decide) rfl rm_0_0 d_X_best_5 ?_
        refine aw_iconst (v := nI 1) ci_1 d_X_best_8 ?_
        refine aw_iald (j := 1) km_1 (vp_in_nI (by decide) (by decide)) (nI_clamp (by decide)) d_X_best_9 ?_
        refine aw_top (x2 := nI 4) (((congrFun (f48 1 (by decide)) (1)).trans (Eq.trans (upd2_nx (by omega)) (((congrFun (f44 1 (by decide)) (1)).trans (g3)))))) ?_
        refine aw_istore_n (lv2 := [.ref 0, .int (nI 0), .int (nI 4), uu, uu, uu, uu]) rfl (by decide) rfl d_X_best_10 ?_
        refine aw_iconst (v := nI 0) ci_0 d_X_best_11 ?_
        refine aw_istore_n (lv2 := [.ref 0, .int (nI 0), .int (nI 4), .int (nI 0), uu, uu, uu]) rfl (by decide) rfl d_X_best_12 ?_
        refine aw_iconst (v := nI 0) ci_0 d_X_best_13 ?_
        refine aw_istore (lv2 := [.ref 0, .int (nI 0), .int (nI 4), .int (nI 0), .int (nI 0), uu, uu]) (by decide) rfl d_X_best_14 ?_
        refine aw_iload_n rfl rfl d_X_best_16 ?_
        refine aw_if_neI (tgt := 32) (0) (by decide +kernel) (by decide) d_X_best_17 (fun q => absurd q (by decide)) (fun _ => ?_)
        refine aw_aload_n rfl rfl d_X_best_20 ?_
        refine aw_getr fl_X_69 km_0 (by decide) rfl rm_0_39 d_X_best_21 ?_
        refine aw_iconst (v := nI 0) ci_0 d_X_best_24 ?_
        refine aw_iload_n rfl rfl d_X_best_25 ?_
        refine aw_iconst (v := nI 0) ci_0 d_X_best_26 ?_
        refine as_callS (as := [.int (nI 0), .int (nI 4), .int (nI 0)]) (d' := 12) mo_X_spot lk_X_353 rfl ⟨by decide, by decide⟩ rfl rfl (by decide) d_X_best_27 (Ss.of (show As l b 12 y_X_spot KM RM _ (J47) 0 [.int (nI 0), .int (nI 4), .int (nI 0)] [] from ?_))
        refine aw_bipush (v := nI 36) cb_36 d_X_spot_0 ?_
        refine aw_iload_n rfl rfl d_X_spot_2 ?_
        refine aw_imul d_X_spot_3 ?_
        refine aw_top (x2 := nI 0) (by decide +kernel) ?_
        refine aw_iconst (v := nI 4) ci_4 d_X_spot_4 ?_
        refine aw_iload_n rfl rfl d_X_spot_5 ?_
        refine aw_imul d_X_spot_6 ?_
        refine aw_top (x2 := nI 16) (by decide +kernel) ?_
        refine aw_iadd d_X_spot_7 ?_
        refine aw_top (x2 := nI 16) (by decide +kernel) ?_
        refine aw_iload_n rfl rfl d_X_spot_8 ?_
        refine aw_iadd d_X_spot_9 ?_
        refine aw_top (x2 := nI 16) (by decide +kernel) ?_
        refine as_reti rfl d_X_spot_10 ?_
        refine (show As l b 13 y_X_best KM RM _ (J47) 30 [.ref 0, .int (nI 0), .int (nI 4), .int (nI 0), .int (nI 0), uu, uu] [.int (nI 16), .ref 17] from ?_)
        refine aw_iald (j := 16) km_17 (vp_in_nI (by decide) (by decide)) (nI_clamp (by decide)) d_X_best_30 ?_
        refine aw_top (x2 := nI 0) (e50) ?_
        refine as_reti rfl d_X_best_31 ?_
        refine (show As l b 14 y_X_look KM RM K2 (J47) 47 [.ref 0, .int (nI 5), .int (nI 0), uu] [.int (nI 0)] from ?_)
        refine aw_istore_n (lv2 := [.ref 0, .int (nI 5), .int (nI 0), .int (nI 0)]) rfl (by decide) rfl d_X_look_47 ?_
        refine aw_aload_n rfl rfl d_X_look_48 ?_
        refine aw_getr fl_X_7 km_0 (by decide) rfl rm_0_0 d_X_look_49 ?_
        refine aw_bipush (v := nI 10) cb_10 d_X_look_52 ?_
        refine aw_iload_n rfl rfl d_X_look_54 ?_
        refine aw_iadd d_X_look_55 ?_
        refine aw_top (x2 := nI 15) (by decide +kernel) ?_
        refine aw_dup2 rfl rfl d_X_look_56 ?_
        refine aw_iald (j := 15) km_1 (vp_in_nI (by decide) (by decide)) (nI_clamp (by decide)) d_X_look_57 ?_
        refine aw_top (x2 := nI 10) (((congrFun (f48 1 (by decide)) (15)).trans (upd2_eq))) ?_
        refine aw_iconst (v := nI 1) ci_1 d_X_look_58 ?_
        refine aw_isub d_X_look_59 ?_
        refine aw_top (x2 := nI 9) (by decide +kernel) ?_
        refine aw_iast (j := 15) km_1 (vp_in_nI (by decide) (by decide)) (nI_clamp (by decide)) d_X_look_60 ?_
        refine aw_iload_n rfl rfl d_X_look_61 ?_
        refine aw_iload_n rfl rfl d_X_look_62 ?_
        refine aw_isub d_X_look_63 ?_
        refine aw_top (x2 := nI 0) (by decide +kernel) ?_
        exact as_reti rfl d_X_look_64 (hg (by omega) _)
set_option maxRecDepth 20000 in
theorem lp_image {K2 : K2T} {I : Nat → Nat → Int32} (hK : ∀ I', K2 (some (.int (nI 1))) I') : ∀ (n i : Nat), i + n = 6190 → As l b 14 y_X_image KM RM K2 (updA I 2 (fun j => if j < i then I 1 j else I 2 j)) 15 [.ref 0, .int (nI 1), .int (nI (i))] [] := by
  intro n
  induction n with
  | zero =>
    intro i hi
    refine aw_iload_n rfl rfl d_X_image_15 ?_
    refine aw_sipush (v := nI 6190) cs_6190 d_X_image_16 ?_
    refine aw_icmp_geI (tgt := 59) ((i : Nat) : Int) (6190) (nI_toInt (by omega)) (by decide +kernel) (by decide) d_X_image_19 (fun _ => ?_) (fun q => absurd q (by omega))
    refine aw_iload_n rfl rfl d_X_image_59 ?_
    refine aw_if_neI (tgt := 67) (1) (by decide +kernel) (by decide) d_X_image_60 (fun _ => ?_) (fun q => absurd q (by decide))
    refine aw_aload_n rfl rfl d_X_image_67 ?_
    refine aw_iconst (v := nI 1) ci_1 d_X_image_68 ?_
    refine aw_puti fl_X_420 km_0 (by decide) rfl (by decide +kernel) (by decide +kernel) rfl d_X_image_69 ?_
    refine aw_iconst (v := nI 1) ci_1 d_X_image_72 ?_
    exact as_retz rfl (by decide +kernel) d_X_image_73 (hK _)
  | succ n ih =>
    intro i hi
    refine aw_iload_n rfl rfl d_X_image_15 ?_
    refine aw_sipush (v := nI 6190) cs_6190 d_X_image_16 ?_
    refine aw_icmp_geI (tgt := 59) ((i : Nat) : Int) (6190) (nI_toInt (by omega)) (by decide +kernel) (by decide) d_X_image_19 (fun q => absurd q (by omega)) (fun _ => ?_)
    refine aw_iload_n rfl rfl d_X_image_22 ?_
    refine aw_if_eqI (tgt := 41) (1) (by decide +kernel) (by decide) d_X_image_23 (fun q => absurd q (by decide)) (fun _ => ?_)
    refine aw_aload_n rfl rfl d_X_image_26 ?_
    refine aw_getr fl_X_13 km_0 (by decide) rfl rm_0_1 d_X_image_27 ?_
    refine aw_iload_n rfl rfl d_X_image_30 ?_
    refine aw_aload_n rfl rfl d_X_image_31 ?_
    refine aw_getr fl_X_7 km_0 (by decide) rfl rm_0_0 d_X_image_32 ?_
    refine aw_iload_n rfl rfl d_X_image_35 ?_
    refine aw_iald (j := i) km_1 (vp_in_nI (by omega) (by decide)) (nI_clamp (by omega)) d_X_image_36 ?_
    refine aw_top (x2 := I 1 (i)) ((congrFun (updA_ne (by decide)) _)) ?_
    refine aw_iast (j := i) km_2 (vp_in_nI (by omega) (by decide)) (nI_clamp (by omega)) d_X_image_37 ?_
    refine aw_goto (tgt := 53) (by decide) d_X_image_38 ?_
    refine aw_iinc (v := nI (i + 1)) (lv2 := [.ref 0, .int (nI 1), .int (nI (i + 1))]) rfl (inc_1 _) (by decide) rfl d_X_image_53 ?_
    refine aw_goto (tgt := 15) (by decide) d_X_image_56 ?_
    rw [copy_s]; exact ih (i + 1) (by omega)
set_option maxRecDepth 20000 in
theorem ms_image_1 {K2 : K2T} {I : Nat → Nat → Int32} (hR : FRm I) (hK : ∀ I', K2 (some (.int (nI 1))) I') : Ss l b 14 y_X_image KM RM [.ref 0, .int (nI 1)] (I) K2 := by
  obtain ⟨hF, w0, w2, w3, w5, w6, w7, w73, w74, wh, w110, o3, o12, o19, o21, o22, o23, o35⟩ := hR
  have hF0 := hF
  obtain ⟨g0, g1, g2, g3, g4, g5, g6, g7, g8, g9, g10, g11, g12, gb⟩ := hF
  refine Ss.of (show As l b 14 y_X_image KM RM K2 (I) 0 [.ref 0, .int (nI 1), uu] [] from ?_)
  refine aw_iload_n rfl rfl d_X_image_0 ?_
  refine aw_if_neI (tgt := 13) (1) (by decide +kernel) (by decide) d_X_image_1 (fun _ => ?_) (fun q => absurd q (by decide))
  refine aw_iconst (v := nI 0) ci_0 d_X_image_13 ?_
  refine aw_istore_n (lv2 := [.ref 0, .int (nI 1), .int (nI 0)]) rfl (by decide) rfl d_X_image_14 ?_
  have h0 := lp_image (l := l) (b := b) (K2 := K2) (I := I) hK 6190 0 (by decide); rw [copy_0] at h0; exact h0
end
