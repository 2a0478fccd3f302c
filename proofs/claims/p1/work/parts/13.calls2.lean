/-! calls on a fresh object: filling, heap -/
abbrev y_F_fillMost : MI := (⟨"SinglesUp$Filling", "fillMost", "(LSinglesUp$Hill;I)I"⟩, prog_3_method_2_code, 7, some .int)
theorem d_F_fillMost_21 : decode y_F_fillMost.2.1 21 = .ok (.iconst 0, 1) := by decide +kernel
theorem d_F_fillMost_22 : decode y_F_fillMost.2.1 22 = .ok (.istore 4, 2) := by decide +kernel
theorem d_F_fillMost_24 : decode y_F_fillMost.2.1 24 = .ok (.iload 4, 2) := by decide +kernel
theorem d_F_fillMost_26 : decode y_F_fillMost.2.1 26 = .ok (.bipush 9, 2) := by decide +kernel
theorem cb_9 : (Int8.ofInt 9).toInt32 = nI 9 := by decide +kernel
theorem d_F_fillMost_28 : decode y_F_fillMost.2.1 28 = .ok (.if_icmp .ge 57, 3) := by decide +kernel
theorem d_F_fillMost_31 : decode y_F_fillMost.2.1 31 = .ok (.aload_n 0, 1) := by decide +kernel
theorem d_F_fillMost_32 : decode y_F_fillMost.2.1 32 = .ok (.getfield 21, 3) := by decide +kernel
theorem fl_F_21 : FL "SinglesUp$Filling" 21 1 4 := ⟨"SinglesUp$Filling", zT1, 7, rfl, by decide, rfl, Or.inl (tw_in 370 (by decide +kernel) rfl)⟩
theorem kc_154 : KC[154]? = some (4, 7) := by decide +kernel
theorem rc_154_4 : RC 154 4 = some 158 := by decide +kernel
theorem d_F_fillMost_35 : decode y_F_fillMost.2.1 35 = .ok (.aload_n 0, 1) := by decide +kernel
theorem d_F_fillMost_36 : decode y_F_fillMost.2.1 36 = .ok (.getfield 46, 3) := by decide +kernel
theorem fl_F_46 : FL "SinglesUp$Filling" 46 1 3 := ⟨"SinglesUp$Filling", zT1, 7, rfl, by decide, rfl, Or.inl (tw_in 369 (by decide +kernel) rfl)⟩
theorem d_F_fillMost_39 : decode y_F_fillMost.2.1 39 = .ok (.iconst 0, 1) := by decide +kernel
theorem d_F_fillMost_40 : decode y_F_fillMost.2.1 40 = .ok (.iload 4, 2) := by decide +kernel
theorem d_F_fillMost_42 : decode y_F_fillMost.2.1 42 = .ok (.invokestatic 50, 3) := by decide +kernel
abbrev y_F_at : MI := (⟨"SinglesUp$Filling", "at", "(III)I"⟩, prog_3_method_4_code, 4, some .int)
theorem lk_F_50 : LkS "SinglesUp$Filling" 50 y_F_at := ⟨tw_in 964 (by decide +kernel) rfl, Or.inl (tw_in 963 (by decide +kernel) rfl)⟩
theorem mo_F_at : MOk y_F_at 3 := ⟨by decide +kernel, tw_in 965 (by decide +kernel) rfl, tw_in 105 (by decide +kernel) rfl, by decide +kernel, by decide +kernel, by decide +kernel⟩
theorem d_F_at_0 : decode y_F_at.2.1 0 = .ok (.iload_n 0, 1) := by decide +kernel
theorem d_F_at_1 : decode y_F_at.2.1 1 = .ok (.ifCond .lt 33, 3) := by decide +kernel
theorem d_F_at_4 : decode y_F_at.2.1 4 = .ok (.iload_n 0, 1) := by decide +kernel
theorem d_F_at_5 : decode y_F_at.2.1 5 = .ok (.sipush 144, 3) := by decide +kernel
theorem d_F_at_8 : decode y_F_at.2.1 8 = .ok (.if_icmp .gt 26, 3) := by decide +kernel
theorem d_F_at_11 : decode y_F_at.2.1 11 = .ok (.iload_n 1, 1) := by decide +kernel
theorem d_F_at_12 : decode y_F_at.2.1 12 = .ok (.ifCond .lt 22, 3) := by decide +kernel
theorem d_F_at_15 : decode y_F_at.2.1 15 = .ok (.iload_n 1, 1) := by decide +kernel
theorem d_F_at_16 : decode y_F_at.2.1 16 = .ok (.iconst 3, 1) := by decide +kernel
theorem d_F_at_17 : decode y_F_at.2.1 17 = .ok (.if_icmp .ge 17, 3) := by decide +kernel
theorem d_F_at_20 : decode y_F_at.2.1 20 = .ok (.iload_n 2, 1) := by decide +kernel
theorem d_F_at_21 : decode y_F_at.2.1 21 = .ok (.ifCond .lt 13, 3) := by decide +kernel
theorem d_F_at_24 : decode y_F_at.2.1 24 = .ok (.iload_n 2, 1) := by decide +kernel
theorem d_F_at_25 : decode y_F_at.2.1 25 = .ok (.bipush 9, 2) := by decide +kernel
theorem d_F_at_27 : decode y_F_at.2.1 27 = .ok (.if_icmp .ge 7, 3) := by decide +kernel
theorem d_F_at_30 : decode y_F_at.2.1 30 = .ok (.iconst 1, 1) := by decide +kernel
theorem d_F_at_31 : decode y_F_at.2.1 31 = .ok (.goto 4, 3) := by decide +kernel
theorem d_F_at_35 : decode y_F_at.2.1 35 = .ok (.istore_n 3, 1) := by decide +kernel
theorem d_F_at_36 : decode y_F_at.2.1 36 = .ok (.iload_n 3, 1) := by decide +kernel
theorem d_F_at_37 : decode y_F_at.2.1 37 = .ok (.ifCond .eq 16, 3) := by decide +kernel
theorem d_F_at_40 : decode y_F_at.2.1 40 = .ok (.iload_n 0, 1) := by decide +kernel
theorem d_F_at_41 : decode y_F_at.2.1 41 = .ok (.iconst 3, 1) := by decide +kernel
theorem d_F_at_42 : decode y_F_at.2.1 42 = .ok (.imul, 1) := by decide +kernel
theorem d_F_at_43 : decode y_F_at.2.1 43 = .ok (.iload_n 1, 1) := by decide +kernel
theorem d_F_at_44 : decode y_F_at.2.1 44 = .ok (.iadd, 1) := by decide +kernel
theorem d_F_at_45 : decode y_F_at.2.1 45 = .ok (.bipush 9, 2) := by decide +kernel
theorem d_F_at_47 : decode y_F_at.2.1 47 = .ok (.imul, 1) := by decide +kernel
theorem d_F_at_48 : decode y_F_at.2.1 48 = .ok (.iload_n 2, 1) := by decide +kernel
theorem d_F_at_49 : decode y_F_at.2.1 49 = .ok (.iadd, 1) := by decide +kernel
theorem d_F_at_50 : decode y_F_at.2.1 50 = .ok (.goto 4, 3) := by decide +kernel
theorem d_F_at_54 : decode y_F_at.2.1 54 = .ok (.ireturn, 1) := by decide +kernel
theorem d_F_fillMost_45 : decode y_F_fillMost.2.1 45 = .ok (.iconst 0, 1) := by decide +kernel
theorem d_F_fillMost_46 : decode y_F_fillMost.2.1 46 = .ok (.iastore, 1) := by decide +kernel
theorem kc_158 : KC[158]? = some (0, 3915) := by decide +kernel
theorem d_F_fillMost_47 : decode y_F_fillMost.2.1 47 = .ok (.aload_n 0, 1) := by decide +kernel
theorem d_F_fillMost_48 : decode y_F_fillMost.2.1 48 = .ok (.getfield 21, 3) := by decide +kernel
theorem d_F_fillMost_51 : decode y_F_fillMost.2.1 51 = .ok (.aload_n 0, 1) := by decide +kernel
theorem d_F_fillMost_52 : decode y_F_fillMost.2.1 52 = .ok (.getfield 46, 3) := by decide +kernel
theorem d_F_fillMost_55 : decode y_F_fillMost.2.1 55 = .ok (.iconst 1, 1) := by decide +kernel
theorem d_F_fillMost_56 : decode y_F_fillMost.2.1 56 = .ok (.iload 4, 2) := by decide +kernel
theorem d_F_fillMost_58 : decode y_F_fillMost.2.1 58 = .ok (.invokestatic 50, 3) := by decide +kernel
theorem d_F_fillMost_61 : decode y_F_fillMost.2.1 61 = .ok (.iconst (-1), 1) := by decide +kernel
theorem d_F_fillMost_62 : decode y_F_fillMost.2.1 62 = .ok (.iastore, 1) := by decide +kernel
theorem d_F_fillMost_63 : decode y_F_fillMost.2.1 63 = .ok (.aload_n 0, 1) := by decide +kernel
theorem d_F_fillMost_64 : decode y_F_fillMost.2.1 64 = .ok (.getfield 21, 3) := by decide +kernel
theorem d_F_fillMost_67 : decode y_F_fillMost.2.1 67 = .ok (.aload_n 0, 1) := by decide +kernel
theorem d_F_fillMost_68 : decode y_F_fillMost.2.1 68 = .ok (.getfield 46, 3) := by decide +kernel
theorem d_F_fillMost_71 : decode y_F_fillMost.2.1 71 = .ok (.iconst 2, 1) := by decide +kernel
theorem d_F_fillMost_72 : decode y_F_fillMost.2.1 72 = .ok (.iload 4, 2) := by decide +kernel
theorem d_F_fillMost_74 : decode y_F_fillMost.2.1 74 = .ok (.invokestatic 50, 3) := by decide +kernel
theorem d_F_fillMost_77 : decode y_F_fillMost.2.1 77 = .ok (.iconst 0, 1) := by decide +kernel
theorem d_F_fillMost_78 : decode y_F_fillMost.2.1 78 = .ok (.iastore, 1) := by decide +kernel
theorem d_F_fillMost_79 : decode y_F_fillMost.2.1 79 = .ok (.iinc 4 1, 3) := by decide +kernel
theorem d_F_fillMost_82 : decode y_F_fillMost.2.1 82 = .ok (.goto (-58), 3) := by decide +kernel
theorem d_F_fillMost_85 : decode y_F_fillMost.2.1 85 = .ok (.aload_n 0, 1) := by decide +kernel
theorem d_F_fillMost_86 : decode y_F_fillMost.2.1 86 = .ok (.getfield 46, 3) := by decide +kernel
theorem d_F_fillMost_89 : decode y_F_fillMost.2.1 89 = .ok (.iconst 1, 1) := by decide +kernel
theorem d_F_fillMost_90 : decode y_F_fillMost.2.1 90 = .ok (.isub, 1) := by decide +kernel
theorem d_F_fillMost_91 : decode y_F_fillMost.2.1 91 = .ok (.istore 4, 2) := by decide +kernel
theorem d_F_fillMost_93 : decode y_F_fillMost.2.1 93 = .ok (.iload 4, 2) := by decide +kernel
theorem d_F_fillMost_95 : decode y_F_fillMost.2.1 95 = .ok (.ifCond .lt 83, 3) := by decide +kernel
theorem d_F_fillMost_178 : decode y_F_fillMost.2.1 178 = .ok (.aload_n 0, 1) := by decide +kernel
theorem d_F_fillMost_179 : decode y_F_fillMost.2.1 179 = .ok (.iload_n 3, 1) := by decide +kernel
theorem d_F_fillMost_180 : decode y_F_fillMost.2.1 180 = .ok (.invokevirtual 60, 3) := by decide +kernel
abbrev y_F_choose : MI := (⟨"SinglesUp$Filling", "choose", "(I)V"⟩, prog_3_method_7_code, 6, none)
theorem lk_F_60 : LkV "SinglesUp$Filling" 60 y_F_choose := ⟨tw_in 977 (by decide +kernel) rfl, tw_in 32 (by decide +kernel) rfl, Or.inl (tw_in 975 (by decide +kernel) rfl)⟩
theorem mo_F_choose : MOk y_F_choose 1 := ⟨by decide +kernel, tw_in 978 (by decide +kernel) rfl, tw_in 105 (by decide +kernel) rfl, by decide +kernel, by decide +kernel, by decide +kernel⟩
theorem d_F_choose_0 : decode y_F_choose.2.1 0 = .ok (.aload_n 0, 1) := by decide +kernel
theorem d_F_choose_1 : decode y_F_choose.2.1 1 = .ok (.iconst 0, 1) := by decide +kernel
theorem d_F_choose_2 : decode y_F_choose.2.1 2 = .ok (.putfield 76, 3) := by decide +kernel
theorem fl_F_76 : FL "SinglesUp$Filling" 76 1 6 := ⟨"SinglesUp$Filling", zT1, 7, rfl, by decide, rfl, Or.inl (tw_in 372 (by decide +kernel) rfl)⟩
theorem d_F_choose_5 : decode y_F_choose.2.1 5 = .ok (.iconst 0, 1) := by decide +kernel
theorem d_F_choose_6 : decode y_F_choose.2.1 6 = .ok (.istore_n 2, 1) := by decide +kernel
theorem d_F_choose_7 : decode y_F_choose.2.1 7 = .ok (.iload_n 1, 1) := by decide +kernel
theorem d_F_choose_8 : decode y_F_choose.2.1 8 = .ok (.istore_n 3, 1) := by decide +kernel
theorem d_F_choose_9 : decode y_F_choose.2.1 9 = .ok (.iconst 0, 1) := by decide +kernel
theorem d_F_choose_10 : decode y_F_choose.2.1 10 = .ok (.istore 4, 2) := by decide +kernel
theorem d_F_choose_12 : decode y_F_choose.2.1 12 = .ok (.iload 4, 2) := by decide +kernel
theorem d_F_choose_14 : decode y_F_choose.2.1 14 = .ok (.aload_n 0, 1) := by decide +kernel
theorem d_F_choose_15 : decode y_F_choose.2.1 15 = .ok (.getfield 46, 3) := by decide +kernel
theorem d_F_choose_18 : decode y_F_choose.2.1 18 = .ok (.if_icmp .ge 103, 3) := by decide +kernel
theorem d_F_choose_121 : decode y_F_choose.2.1 121 = .ok (.return_, 1) := by decide +kernel
theorem d_F_fillMost_183 : decode y_F_fillMost.2.1 183 = .ok (.aload_n 0, 1) := by decide +kernel
theorem d_F_fillMost_184 : decode y_F_fillMost.2.1 184 = .ok (.getfield 21, 3) := by decide +kernel
theorem d_F_fillMost_187 : decode y_F_fillMost.2.1 187 = .ok (.iconst 0, 1) := by decide +kernel
theorem d_F_fillMost_188 : decode y_F_fillMost.2.1 188 = .ok (.iconst 0, 1) := by decide +kernel
theorem d_F_fillMost_189 : decode y_F_fillMost.2.1 189 = .ok (.iload_n 3, 1) := by decide +kernel
theorem d_F_fillMost_190 : decode y_F_fillMost.2.1 190 = .ok (.invokestatic 50, 3) := by decide +kernel
theorem d_F_fillMost_193 : decode y_F_fillMost.2.1 193 = .ok (.iaload, 1) := by decide +kernel
theorem d_F_fillMost_194 : decode y_F_fillMost.2.1 194 = .ok (.ireturn, 1) := by decide +kernel
theorem d_F_fillMost_0 : decode y_F_fillMost.2.1 0 = .ok (.aload_n 1, 1) := by decide +kernel
theorem d_F_fillMost_1 : decode y_F_fillMost.2.1 1 = .ok (.getfield 27, 3) := by decide +kernel
theorem fl_F_27 : FL "SinglesUp$Filling" 27 2 0 := ⟨"SinglesUp$Hill", zT2, 14, rfl, by decide, rfl, Or.inr ⟨"SinglesUp", nw_in 85 (by decide +kernel) rfl⟩⟩
theorem d_F_fillMost_4 : decode y_F_fillMost.2.1 4 = .ok (.iconst 0, 1) := by decide +kernel
theorem d_F_fillMost_5 : decode y_F_fillMost.2.1 5 = .ok (.iaload, 1) := by decide +kernel
theorem d_F_fillMost_6 : decode y_F_fillMost.2.1 6 = .ok (.bipush 8, 2) := by decide +kernel
theorem d_F_fillMost_8 : decode y_F_fillMost.2.1 8 = .ok (.invokestatic 32, 3) := by decide +kernel
theorem lk_F_32 : LkS "SinglesUp$Filling" 32 y_JM_min := ⟨tw_in 622 (by decide +kernel) rfl, Or.inl (tw_in 956 (by decide +kernel) rfl)⟩
theorem d_F_fillMost_11 : decode y_F_fillMost.2.1 11 = .ok (.istore_n 3, 1) := by decide +kernel
theorem d_F_fillMost_12 : decode y_F_fillMost.2.1 12 = .ok (.aload_n 0, 1) := by decide +kernel
theorem d_F_fillMost_13 : decode y_F_fillMost.2.1 13 = .ok (.aload_n 1, 1) := by decide +kernel
theorem d_F_fillMost_14 : decode y_F_fillMost.2.1 14 = .ok (.getfield 38, 3) := by decide +kernel
theorem fl_F_38 : FL "SinglesUp$Filling" 38 2 5 := ⟨"SinglesUp$Hill", zT2, 14, rfl, by decide, rfl, Or.inr ⟨"SinglesUp", nw_in 98 (by decide +kernel) rfl⟩⟩
theorem d_F_fillMost_17 : decode y_F_fillMost.2.1 17 = .ok (.iload_n 2, 1) := by decide +kernel
theorem d_F_fillMost_18 : decode y_F_fillMost.2.1 18 = .ok (.invokevirtual 42, 3) := by decide +kernel
abbrev y_F_gather : MI := (⟨"SinglesUp$Filling", "gather", "(LSinglesUp$Lines;I)V"⟩, prog_3_method_3_code, 6, none)
theorem lk_F_42 : LkV "SinglesUp$Filling" 42 y_F_gather := ⟨tw_in 959 (by decide +kernel) rfl, tw_in 29 (by decide +kernel) rfl, Or.inl (tw_in 957 (by decide +kernel) rfl)⟩
theorem mo_F_gather : MOk y_F_gather 2 := ⟨by decide +kernel, tw_in 960 (by decide +kernel) rfl, tw_in 105 (by decide +kernel) rfl, by decide +kernel, by decide +kernel, by decide +kernel⟩
theorem d_F_gather_0 : decode y_F_gather.2.1 0 = .ok (.aload_n 1, 1) := by decide +kernel
theorem d_F_gather_1 : decode y_F_gather.2.1 1 = .ok (.aload_n 0, 1) := by decide +kernel
theorem d_F_gather_2 : decode y_F_gather.2.1 2 = .ok (.getfield 9, 3) := by decide +kernel
theorem fl_F_9 : FL "SinglesUp$Filling" 9 1 0 := ⟨"SinglesUp$Filling", zT1, 7, rfl, by decide, rfl, Or.inl (tw_in 366 (by decide +kernel) rfl)⟩
theorem rc_154_0 : RC 154 0 = some 155 := by decide +kernel
theorem d_F_gather_5 : decode y_F_gather.2.1 5 = .ok (.iload_n 2, 1) := by decide +kernel
theorem d_F_gather_6 : decode y_F_gather.2.1 6 = .ok (.invokevirtual 64, 3) := by decide +kernel
theorem lk_F_64 : LkV "SinglesUp$Filling" 64 y_L_listSeen := ⟨tw_in 884 (by decide +kernel) rfl, tw_in 885 (by decide +kernel) rfl, Or.inl (tw_in 961 (by decide +kernel) rfl)⟩
theorem d_F_gather_9 : decode y_F_gather.2.1 9 = .ok (.istore_n 3, 1) := by decide +kernel
theorem d_F_gather_10 : decode y_F_gather.2.1 10 = .ok (.aload_n 0, 1) := by decide +kernel
theorem d_F_gather_11 : decode y_F_gather.2.1 11 = .ok (.iconst 0, 1) := by decide +kernel
theorem d_F_gather_12 : decode y_F_gather.2.1 12 = .ok (.putfield 46, 3) := by decide +kernel
theorem d_F_gather_15 : decode y_F_gather.2.1 15 = .ok (.iconst 0, 1) := by decide +kernel
theorem d_F_gather_16 : decode y_F_gather.2.1 16 = .ok (.istore 4, 2) := by decide +kernel
theorem d_F_gather_18 : decode y_F_gather.2.1 18 = .ok (.iload 4, 2) := by decide +kernel
theorem d_F_gather_20 : decode y_F_gather.2.1 20 = .ok (.iload_n 3, 1) := by decide +kernel
theorem d_F_gather_21 : decode y_F_gather.2.1 21 = .ok (.if_icmp .ge 95, 3) := by decide +kernel
theorem d_F_gather_116 : decode y_F_gather.2.1 116 = .ok (.return_, 1) := by decide +kernel
theorem d_L_listSeen_32 : decode y_L_listSeen.2.1 32 = .ok (.iconst 1, 1) := by decide +kernel
theorem d_L_listSeen_33 : decode y_L_listSeen.2.1 33 = .ok (.goto 4, 3) := by decide +kernel
abbrev y_S_best : MI := (⟨"SinglesUp", "best", "(I)I"⟩, prog_1_method_20_code, 3, some .int)
theorem d_S_best_0 : decode y_S_best.2.1 0 = .ok (.iload_n 1, 1) := by decide +kernel
theorem d_S_best_1 : decode y_S_best.2.1 1 = .ok (.ifCond .ge 5, 3) := by decide +kernel
theorem d_S_best_6 : decode y_S_best.2.1 6 = .ok (.aload_n 0, 1) := by decide +kernel
theorem d_S_best_7 : decode y_S_best.2.1 7 = .ok (.getfield 46, 3) := by decide +kernel
theorem fl_S_46 : FL "SinglesUp" 46 8 6 := ⟨"SinglesUp", zT8, 9, rfl, by decide, rfl, Or.inl (tw_in 434 (by decide +kernel) rfl)⟩
theorem rc_0_6 : RC 0 6 = some 154 := by decide +kernel
theorem d_S_best_10 : decode y_S_best.2.1 10 = .ok (.aload_n 0, 1) := by decide +kernel
theorem d_S_best_11 : decode y_S_best.2.1 11 = .ok (.getfield 12, 3) := by decide +kernel
theorem d_S_best_14 : decode y_S_best.2.1 14 = .ok (.iconst (-1), 1) := by decide +kernel
theorem d_S_best_15 : decode y_S_best.2.1 15 = .ok (.invokevirtual 200, 3) := by decide +kernel
theorem lk_S_200 : LkV "SinglesUp" 200 y_F_fillMost := ⟨tw_in 953 (by decide +kernel) rfl, tw_in 954 (by decide +kernel) rfl, Or.inl (tw_in 952 (by decide +kernel) rfl)⟩
theorem mo_F_fillMost : MOk y_F_fillMost 2 := ⟨by decide +kernel, tw_in 955 (by decide +kernel) rfl, tw_in 105 (by decide +kernel) rfl, by decide +kernel, by decide +kernel, by decide +kernel⟩
theorem d_S_best_18 : decode y_S_best.2.1 18 = .ok (.istore_n 2, 1) := by decide +kernel
theorem d_S_best_19 : decode y_S_best.2.1 19 = .ok (.iload_n 1, 1) := by decide +kernel
theorem d_S_best_20 : decode y_S_best.2.1 20 = .ok (.bipush 10, 2) := by decide +kernel
theorem d_S_best_22 : decode y_S_best.2.1 22 = .ok (.if_icmp .ge 28, 3) := by decide +kernel
theorem d_S_best_50 : decode y_S_best.2.1 50 = .ok (.aload_n 0, 1) := by decide +kernel
theorem d_S_best_51 : decode y_S_best.2.1 51 = .ok (.getfield 46, 3) := by decide +kernel
theorem d_S_best_54 : decode y_S_best.2.1 54 = .ok (.iload_n 1, 1) := by decide +kernel
theorem d_S_best_55 : decode y_S_best.2.1 55 = .ok (.bipush 10, 2) := by decide +kernel
theorem d_S_best_57 : decode y_S_best.2.1 57 = .ok (.isub, 1) := by decide +kernel
theorem d_S_best_58 : decode y_S_best.2.1 58 = .ok (.invokevirtual 206, 3) := by decide +kernel
abbrev y_F_chosenAt : MI := (⟨"SinglesUp$Filling", "chosenAt", "(I)I"⟩, prog_3_method_8_code, 2, some .int)
theorem lk_S_206 : LkV "SinglesUp" 206 y_F_chosenAt := ⟨tw_in 980 (by decide +kernel) rfl, tw_in 981 (by decide +kernel) rfl, Or.inl (tw_in 979 (by decide +kernel) rfl)⟩
theorem mo_F_chosenAt : MOk y_F_chosenAt 1 := ⟨by decide +kernel, tw_in 982 (by decide +kernel) rfl, tw_in 105 (by decide +kernel) rfl, by decide +kernel, by decide +kernel, by decide +kernel⟩
theorem d_F_chosenAt_0 : decode y_F_chosenAt.2.1 0 = .ok (.iload_n 1, 1) := by decide +kernel
theorem d_F_chosenAt_1 : decode y_F_chosenAt.2.1 1 = .ok (.ifCond .lt 17, 3) := by decide +kernel
theorem d_F_chosenAt_18 : decode y_F_chosenAt.2.1 18 = .ok (.iconst (-1), 1) := by decide +kernel
theorem d_F_chosenAt_19 : decode y_F_chosenAt.2.1 19 = .ok (.ireturn, 1) := by decide +kernel
theorem d_S_best_61 : decode y_S_best.2.1 61 = .ok (.ireturn, 1) := by decide +kernel
theorem d_F_chosenAt_4 : decode y_F_chosenAt.2.1 4 = .ok (.iload_n 1, 1) := by decide +kernel
theorem d_F_chosenAt_5 : decode y_F_chosenAt.2.1 5 = .ok (.aload_n 0, 1) := by decide +kernel
theorem d_F_chosenAt_6 : decode y_F_chosenAt.2.1 6 = .ok (.getfield 76, 3) := by decide +kernel
theorem d_F_chosenAt_9 : decode y_F_chosenAt.2.1 9 = .ok (.if_icmp .ge 9, 3) := by decide +kernel
theorem d_S_best_25 : decode y_S_best.2.1 25 = .ok (.iload_n 1, 1) := by decide +kernel
theorem d_S_best_26 : decode y_S_best.2.1 26 = .ok (.ifCond .ne 7, 3) := by decide +kernel
theorem d_S_best_33 : decode y_S_best.2.1 33 = .ok (.iload_n 1, 1) := by decide +kernel
theorem d_S_best_34 : decode y_S_best.2.1 34 = .ok (.iconst 1, 1) := by decide +kernel
theorem d_S_best_35 : decode y_S_best.2.1 35 = .ok (.if_icmp .ne 13, 3) := by decide +kernel
theorem d_S_best_48 : decode y_S_best.2.1 48 = .ok (.iconst (-1), 1) := by decide +kernel
theorem d_S_best_49 : decode y_S_best.2.1 49 = .ok (.ireturn, 1) := by decide +kernel
theorem d_S_best_38 : decode y_S_best.2.1 38 = .ok (.aload_n 0, 1) := by decide +kernel
theorem d_S_best_39 : decode y_S_best.2.1 39 = .ok (.getfield 46, 3) := by decide +kernel
theorem d_S_best_42 : decode y_S_best.2.1 42 = .ok (.getfield 203, 3) := by decide +kernel
theorem fl_S_203 : FL "SinglesUp" 203 1 6 := ⟨"SinglesUp$Filling", zT1, 7, rfl, by decide, rfl, Or.inr ⟨"SinglesUp", nw_in 277 (by decide +kernel) rfl⟩⟩
theorem d_S_best_45 : decode y_S_best.2.1 45 = .ok (.goto 4, 3) := by decide +kernel
theorem d_S_best_29 : decode y_S_best.2.1 29 = .ok (.iload_n 2, 1) := by decide +kernel
theorem d_S_best_30 : decode y_S_best.2.1 30 = .ok (.goto 19, 3) := by decide +kernel
theorem d_S_best_4 : decode y_S_best.2.1 4 = .ok (.iconst (-1), 1) := by decide +kernel
theorem d_S_best_5 : decode y_S_best.2.1 5 = .ok (.ireturn, 1) := by decide +kernel
abbrev y_S_look : MI := (⟨"SinglesUp", "look", "(I)I"⟩, prog_1_method_21_code, 2, some .int)
theorem d_S_look_0 : decode y_S_look.2.1 0 = .ok (.iload_n 1, 1) := by decide +kernel
theorem d_S_look_1 : decode y_S_look.2.1 1 = .ok (.invokestatic 73, 3) := by decide +kernel
theorem d_S_look_4 : decode y_S_look.2.1 4 = .ok (.ifCond .eq 20, 3) := by decide +kernel
theorem d_S_look_7 : decode y_S_look.2.1 7 = .ok (.aload_n 0, 1) := by decide +kernel
theorem d_S_look_8 : decode y_S_look.2.1 8 = .ok (.getfield 12, 3) := by decide +kernel
theorem d_S_look_11 : decode y_S_look.2.1 11 = .ok (.getfield 77, 3) := by decide +kernel
theorem d_S_look_14 : decode y_S_look.2.1 14 = .ok (.getfield 81, 3) := by decide +kernel
theorem d_S_look_17 : decode y_S_look.2.1 17 = .ok (.iload_n 1, 1) := by decide +kernel
theorem d_S_look_18 : decode y_S_look.2.1 18 = .ok (.iaload, 1) := by decide +kernel
theorem d_S_look_19 : decode y_S_look.2.1 19 = .ok (.bipush 24, 2) := by decide +kernel
theorem d_S_look_21 : decode y_S_look.2.1 21 = .ok (.if_icmp .lt 5, 3) := by decide +kernel
theorem d_S_look_26 : decode y_S_look.2.1 26 = .ok (.aload_n 0, 1) := by decide +kernel
theorem d_S_look_27 : decode y_S_look.2.1 27 = .ok (.getfield 46, 3) := by decide +kernel
theorem d_S_look_30 : decode y_S_look.2.1 30 = .ok (.aload_n 0, 1) := by decide +kernel
theorem d_S_look_31 : decode y_S_look.2.1 31 = .ok (.getfield 12, 3) := by decide +kernel
theorem d_S_look_34 : decode y_S_look.2.1 34 = .ok (.iload_n 1, 1) := by decide +kernel
theorem d_S_look_35 : decode y_S_look.2.1 35 = .ok (.invokevirtual 200, 3) := by decide +kernel
theorem d_S_look_38 : decode y_S_look.2.1 38 = .ok (.aload_n 0, 1) := by decide +kernel
theorem d_S_look_39 : decode y_S_look.2.1 39 = .ok (.getfield 46, 3) := by decide +kernel
theorem d_S_look_42 : decode y_S_look.2.1 42 = .ok (.aload_n 0, 1) := by decide +kernel
theorem d_S_look_43 : decode y_S_look.2.1 43 = .ok (.getfield 12, 3) := by decide +kernel
theorem d_S_look_46 : decode y_S_look.2.1 46 = .ok (.iconst (-1), 1) := by decide +kernel
theorem d_S_look_47 : decode y_S_look.2.1 47 = .ok (.invokevirtual 200, 3) := by decide +kernel
theorem d_S_look_50 : decode y_S_look.2.1 50 = .ok (.isub, 1) := by decide +kernel
theorem d_S_look_51 : decode y_S_look.2.1 51 = .ok (.ireturn, 1) := by decide +kernel
theorem d_S_look_24 : decode y_S_look.2.1 24 = .ok (.iconst (-1), 1) := by decide +kernel
theorem d_S_look_25 : decode y_S_look.2.1 25 = .ok (.ireturn, 1) := by decide +kernel
abbrev y_S_heap : MI := (⟨"SinglesUp", "heap", "(II)Z"⟩, prog_1_method_22_code, 5, some .boolean)
theorem d_S_heap_0 : decode y_S_heap.2.1 0 = .ok (.iload_n 1, 1) := by decide +kernel
theorem d_S_heap_1 : decode y_S_heap.2.1 1 = .ok (.iconst 1, 1) := by decide +kernel
theorem d_S_heap_2 : decode y_S_heap.2.1 2 = .ok (.if_icmp .lt 19, 3) := by decide +kernel
theorem d_S_heap_21 : decode y_S_heap.2.1 21 = .ok (.iconst 0, 1) := by decide +kernel
theorem d_S_heap_22 : decode y_S_heap.2.1 22 = .ok (.ireturn, 1) := by decide +kernel
theorem d_S_heap_5 : decode y_S_heap.2.1 5 = .ok (.iload_n 1, 1) := by decide +kernel
theorem d_S_heap_6 : decode y_S_heap.2.1 6 = .ok (.bipush 8, 2) := by decide +kernel
theorem d_S_heap_8 : decode y_S_heap.2.1 8 = .ok (.if_icmp .gt 13, 3) := by decide +kernel
theorem d_S_heap_11 : decode y_S_heap.2.1 11 = .ok (.iload_n 2, 1) := by decide +kernel
theorem d_S_heap_12 : decode y_S_heap.2.1 12 = .ok (.ifCond .lt 9, 3) := by decide +kernel
theorem d_S_heap_15 : decode y_S_heap.2.1 15 = .ok (.iload_n 2, 1) := by decide +kernel
theorem d_S_heap_16 : decode y_S_heap.2.1 16 = .ok (.bipush 9, 2) := by decide +kernel
theorem d_S_heap_18 : decode y_S_heap.2.1 18 = .ok (.if_icmp .le 5, 3) := by decide +kernel
theorem d_S_heap_23 : decode y_S_heap.2.1 23 = .ok (.iload_n 2, 1) := by decide +kernel
theorem d_S_heap_24 : decode y_S_heap.2.1 24 = .ok (.aload_n 0, 1) := by decide +kernel
theorem d_S_heap_25 : decode y_S_heap.2.1 25 = .ok (.getfield 12, 3) := by decide +kernel
theorem d_S_heap_28 : decode y_S_heap.2.1 28 = .ok (.getfield 209, 3) := by decide +kernel
theorem fl_S_209 : FL "SinglesUp" 209 2 4 := ⟨"SinglesUp$Hill", zT2, 14, rfl, by decide, rfl, Or.inr ⟨"SinglesUp", nw_in 96 (by decide +kernel) rfl⟩⟩
theorem rc_1_4 : RC 1 4 = some 6 := by decide +kernel
theorem d_S_heap_31 : decode y_S_heap.2.1 31 = .ok (.iload_n 1, 1) := by decide +kernel
theorem d_S_heap_32 : decode y_S_heap.2.1 32 = .ok (.iaload, 1) := by decide +kernel
theorem kc_6 : KC[6]? = some (0, 9) := by decide +kernel
theorem d_S_heap_33 : decode y_S_heap.2.1 33 = .ok (.isub, 1) := by decide +kernel
theorem d_S_heap_34 : decode y_S_heap.2.1 34 = .ok (.istore_n 3, 1) := by decide +kernel
theorem d_S_heap_35 : decode y_S_heap.2.1 35 = .ok (.iconst 1, 1) := by decide +kernel
theorem d_S_heap_36 : decode y_S_heap.2.1 36 = .ok (.istore 4, 2) := by decide +kernel
theorem d_S_heap_38 : decode y_S_heap.2.1 38 = .ok (.iload 4, 2) := by decide +kernel
theorem d_S_heap_40 : decode y_S_heap.2.1 40 = .ok (.aload_n 0, 1) := by decide +kernel
theorem d_S_heap_41 : decode y_S_heap.2.1 41 = .ok (.getfield 12, 3) := by decide +kernel
theorem d_S_heap_44 : decode y_S_heap.2.1 44 = .ok (.getfield 209, 3) := by decide +kernel
theorem d_S_heap_47 : decode y_S_heap.2.1 47 = .ok (.arraylength, 1) := by decide +kernel
theorem d_S_heap_48 : decode y_S_heap.2.1 48 = .ok (.if_icmp .ge 22, 3) := by decide +kernel
theorem d_S_heap_51 : decode y_S_heap.2.1 51 = .ok (.iload_n 3, 1) := by decide +kernel
theorem d_S_heap_52 : decode y_S_heap.2.1 52 = .ok (.aload_n 0, 1) := by decide +kernel
theorem d_S_heap_53 : decode y_S_heap.2.1 53 = .ok (.getfield 12, 3) := by decide +kernel
theorem d_S_heap_56 : decode y_S_heap.2.1 56 = .ok (.getfield 209, 3) := by decide +kernel
theorem d_S_heap_59 : decode y_S_heap.2.1 59 = .ok (.iload 4, 2) := by decide +kernel
theorem d_S_heap_61 : decode y_S_heap.2.1 61 = .ok (.iaload, 1) := by decide +kernel
theorem d_S_heap_62 : decode y_S_heap.2.1 62 = .ok (.iadd, 1) := by decide +kernel
theorem d_S_heap_63 : decode y_S_heap.2.1 63 = .ok (.istore_n 3, 1) := by decide +kernel
theorem d_S_heap_64 : decode y_S_heap.2.1 64 = .ok (.iinc 4 1, 3) := by decide +kernel
theorem d_S_heap_67 : decode y_S_heap.2.1 67 = .ok (.goto (-29), 3) := by decide +kernel
theorem d_S_heap_70 : decode y_S_heap.2.1 70 = .ok (.iload_n 3, 1) := by decide +kernel
theorem d_S_heap_71 : decode y_S_heap.2.1 71 = .ok (.bipush 12, 2) := by decide +kernel
theorem cb_12 : (Int8.ofInt 12).toInt32 = nI 12 := by decide +kernel
theorem d_S_heap_73 : decode y_S_heap.2.1 73 = .ok (.if_icmp .le 5, 3) := by decide +kernel
theorem d_S_heap_78 : decode y_S_heap.2.1 78 = .ok (.aload_n 0, 1) := by decide +kernel
theorem d_S_heap_79 : decode y_S_heap.2.1 79 = .ok (.getfield 12, 3) := by decide +kernel
theorem d_S_heap_82 : decode y_S_heap.2.1 82 = .ok (.getfield 209, 3) := by decide +kernel
theorem d_S_heap_85 : decode y_S_heap.2.1 85 = .ok (.iload_n 1, 1) := by decide +kernel
theorem d_S_heap_86 : decode y_S_heap.2.1 86 = .ok (.iload_n 2, 1) := by decide +kernel
theorem d_S_heap_87 : decode y_S_heap.2.1 87 = .ok (.iastore, 1) := by decide +kernel
theorem d_S_heap_88 : decode y_S_heap.2.1 88 = .ok (.iconst 1, 1) := by decide +kernel
theorem d_S_heap_89 : decode y_S_heap.2.1 89 = .ok (.ireturn, 1) := by decide +kernel
theorem d_S_heap_76 : decode y_S_heap.2.1 76 = .ok (.iconst 0, 1) := by decide +kernel
theorem d_S_heap_77 : decode y_S_heap.2.1 77 = .ok (.ireturn, 1) := by decide +kernel
abbrev y_P_numberAll : MI := (⟨"SinglesUp$Packer", "numberAll", "([I)I"⟩, prog_8_method_5_code, 5, some .int)
theorem d_P_numberAll_27 : decode y_P_numberAll.2.1 27 = .ok (.iload 4, 2) := by decide +kernel
theorem d_P_numberAll_29 : decode y_P_numberAll.2.1 29 = .ok (.bipush 67, 2) := by decide +kernel
theorem cb_67 : (Int8.ofInt 67).toInt32 = nI 67 := by decide +kernel
theorem d_P_numberAll_31 : decode y_P_numberAll.2.1 31 = .ok (.if_icmp .ge 33, 3) := by decide +kernel
theorem d_P_numberAll_34 : decode y_P_numberAll.2.1 34 = .ok (.aload_n 0, 1) := by decide +kernel
theorem d_P_numberAll_35 : decode y_P_numberAll.2.1 35 = .ok (.getfield 18, 3) := by decide +kernel
theorem fl_P_18 : FL "SinglesUp$Packer" 18 6 3 := ⟨"SinglesUp$Packer", zT6, 7, rfl, by decide, rfl, Or.inl (tw_in 409 (by decide +kernel) rfl)⟩
theorem kc_160 : KC[160]? = some (9, 7) := by decide +kernel
theorem rc_160_3 : RC 160 3 = some 163 := by decide +kernel
theorem d_P_numberAll_38 : decode y_P_numberAll.2.1 38 = .ok (.iload 4, 2) := by decide +kernel
theorem d_P_numberAll_40 : decode y_P_numberAll.2.1 40 = .ok (.dup2, 1) := by decide +kernel
theorem d_P_numberAll_41 : decode y_P_numberAll.2.1 41 = .ok (.iaload, 1) := by decide +kernel
theorem kc_163 : KC[163]? = some (0, 67) := by decide +kernel
theorem d_P_numberAll_42 : decode y_P_numberAll.2.1 42 = .ok (.iload_n 2, 1) := by decide +kernel
theorem d_P_numberAll_43 : decode y_P_numberAll.2.1 43 = .ok (.aload_n 0, 1) := by decide +kernel
theorem d_P_numberAll_44 : decode y_P_numberAll.2.1 44 = .ok (.getfield 11, 3) := by decide +kernel
theorem fl_P_11 : FL "SinglesUp$Packer" 11 6 0 := ⟨"SinglesUp$Packer", zT6, 7, rfl, by decide, rfl, Or.inl (tw_in 406 (by decide +kernel) rfl)⟩
theorem rc_160_0 : RC 160 0 = some 161 := by decide +kernel
theorem d_P_numberAll_47 : decode y_P_numberAll.2.1 47 = .ok (.iload 4, 2) := by decide +kernel
theorem d_P_numberAll_49 : decode y_P_numberAll.2.1 49 = .ok (.bipush 9, 2) := by decide +kernel
theorem d_P_numberAll_51 : decode y_P_numberAll.2.1 51 = .ok (.imul, 1) := by decide +kernel
theorem d_P_numberAll_52 : decode y_P_numberAll.2.1 52 = .ok (.iload_n 3, 1) := by decide +kernel
theorem d_P_numberAll_53 : decode y_P_numberAll.2.1 53 = .ok (.iadd, 1) := by decide +kernel
theorem d_P_numberAll_54 : decode y_P_numberAll.2.1 54 = .ok (.iaload, 1) := by decide +kernel
theorem kc_161 : KC[161]? = some (0, 603) := by decide +kernel
theorem d_P_numberAll_55 : decode y_P_numberAll.2.1 55 = .ok (.imul, 1) := by decide +kernel
theorem d_P_numberAll_56 : decode y_P_numberAll.2.1 56 = .ok (.iadd, 1) := by decide +kernel
theorem d_P_numberAll_57 : decode y_P_numberAll.2.1 57 = .ok (.iastore, 1) := by decide +kernel
theorem d_P_numberAll_58 : decode y_P_numberAll.2.1 58 = .ok (.iinc 4 1, 3) := by decide +kernel
theorem d_P_numberAll_61 : decode y_P_numberAll.2.1 61 = .ok (.goto (-34), 3) := by decide +kernel
theorem d_P_numberAll_0 : decode y_P_numberAll.2.1 0 = .ok (.aload_n 0, 1) := by decide +kernel
theorem d_P_numberAll_1 : decode y_P_numberAll.2.1 1 = .ok (.getfield 18, 3) := by decide +kernel
theorem d_P_numberAll_4 : decode y_P_numberAll.2.1 4 = .ok (.iconst 0, 1) := by decide +kernel
theorem d_P_numberAll_5 : decode y_P_numberAll.2.1 5 = .ok (.invokestatic 52, 3) := by decide +kernel
theorem lk_P_52 : LkS "SinglesUp$Packer" 52 y_JA_fill := ⟨tw_in 138 (by decide +kernel) rfl, Or.inl (tw_in 1003 (by decide +kernel) rfl)⟩
theorem d_P_numberAll_8 : decode y_P_numberAll.2.1 8 = .ok (.iconst 1, 1) := by decide +kernel
theorem d_P_numberAll_9 : decode y_P_numberAll.2.1 9 = .ok (.istore_n 2, 1) := by decide +kernel
theorem d_P_numberAll_10 : decode y_P_numberAll.2.1 10 = .ok (.iconst 1, 1) := by decide +kernel
theorem d_P_numberAll_11 : decode y_P_numberAll.2.1 11 = .ok (.istore_n 3, 1) := by decide +kernel
theorem d_P_numberAll_12 : decode y_P_numberAll.2.1 12 = .ok (.iload_n 3, 1) := by decide +kernel
theorem d_P_numberAll_13 : decode y_P_numberAll.2.1 13 = .ok (.bipush 8, 2) := by decide +kernel
theorem d_P_numberAll_15 : decode y_P_numberAll.2.1 15 = .ok (.if_icmp .gt 63, 3) := by decide +kernel
theorem d_P_numberAll_18 : decode y_P_numberAll.2.1 18 = .ok (.iload_n 3, 1) := by decide +kernel
theorem d_P_numberAll_19 : decode y_P_numberAll.2.1 19 = .ok (.aload_n 1, 1) := by decide +kernel
theorem d_P_numberAll_20 : decode y_P_numberAll.2.1 20 = .ok (.arraylength, 1) := by decide +kernel
theorem d_P_numberAll_21 : decode y_P_numberAll.2.1 21 = .ok (.if_icmp .ge 57, 3) := by decide +kernel
theorem d_P_numberAll_24 : decode y_P_numberAll.2.1 24 = .ok (.iconst 0, 1) := by decide +kernel
theorem d_P_numberAll_25 : decode y_P_numberAll.2.1 25 = .ok (.istore 4, 2) := by decide +kernel
theorem d_P_numberAll_64 : decode y_P_numberAll.2.1 64 = .ok (.iload_n 2, 1) := by decide +kernel
theorem d_P_numberAll_65 : decode y_P_numberAll.2.1 65 = .ok (.aload_n 1, 1) := by decide +kernel
theorem d_P_numberAll_66 : decode y_P_numberAll.2.1 66 = .ok (.iload_n 3, 1) := by decide +kernel
theorem d_P_numberAll_67 : decode y_P_numberAll.2.1 67 = .ok (.iaload, 1) := by decide +kernel
theorem d_P_numberAll_68 : decode y_P_numberAll.2.1 68 = .ok (.iconst 1, 1) := by decide +kernel
theorem d_P_numberAll_69 : decode y_P_numberAll.2.1 69 = .ok (.iadd, 1) := by decide +kernel
theorem d_P_numberAll_70 : decode y_P_numberAll.2.1 70 = .ok (.imul, 1) := by decide +kernel
theorem d_P_numberAll_71 : decode y_P_numberAll.2.1 71 = .ok (.istore_n 2, 1) := by decide +kernel
theorem d_P_numberAll_72 : decode y_P_numberAll.2.1 72 = .ok (.iinc 3 1, 3) := by decide +kernel
theorem d_P_numberAll_75 : decode y_P_numberAll.2.1 75 = .ok (.goto (-63), 3) := by decide +kernel
theorem d_P_numberAll_78 : decode y_P_numberAll.2.1 78 = .ok (.iload_n 2, 1) := by decide +kernel
theorem d_P_numberAll_79 : decode y_P_numberAll.2.1 79 = .ok (.ireturn, 1) := by decide +kernel
abbrev y_S_fewest : MI := (⟨"SinglesUp", "fewest", "(I)I"⟩, prog_1_method_23_code, 3, some .int)
theorem d_S_fewest_0 : decode y_S_fewest.2.1 0 = .ok (.iload_n 1, 1) := by decide +kernel
theorem d_S_fewest_1 : decode y_S_fewest.2.1 1 = .ok (.ifCond .lt 9, 3) := by decide +kernel
theorem d_S_fewest_10 : decode y_S_fewest.2.1 10 = .ok (.iconst (-1), 1) := by decide +kernel
theorem d_S_fewest_11 : decode y_S_fewest.2.1 11 = .ok (.ireturn, 1) := by decide +kernel
theorem d_S_fewest_4 : decode y_S_fewest.2.1 4 = .ok (.iload_n 1, 1) := by decide +kernel
theorem d_S_fewest_5 : decode y_S_fewest.2.1 5 = .ok (.bipush 8, 2) := by decide +kernel
theorem d_S_fewest_7 : decode y_S_fewest.2.1 7 = .ok (.if_icmp .le 5, 3) := by decide +kernel
theorem d_S_fewest_12 : decode y_S_fewest.2.1 12 = .ok (.aload_n 0, 1) := by decide +kernel
theorem d_S_fewest_13 : decode y_S_fewest.2.1 13 = .ok (.getfield 53, 3) := by decide +kernel
theorem fl_S_53 : FL "SinglesUp" 53 8 7 := ⟨"SinglesUp", zT8, 9, rfl, by decide, rfl, Or.inl (tw_in 435 (by decide +kernel) rfl)⟩
theorem rc_0_7 : RC 0 7 = some 160 := by decide +kernel
theorem d_S_fewest_16 : decode y_S_fewest.2.1 16 = .ok (.aload_n 0, 1) := by decide +kernel
theorem d_S_fewest_17 : decode y_S_fewest.2.1 17 = .ok (.getfield 12, 3) := by decide +kernel
theorem d_S_fewest_20 : decode y_S_fewest.2.1 20 = .ok (.getfield 209, 3) := by decide +kernel
theorem d_S_fewest_23 : decode y_S_fewest.2.1 23 = .ok (.aload_n 0, 1) := by decide +kernel
theorem d_S_fewest_24 : decode y_S_fewest.2.1 24 = .ok (.getfield 12, 3) := by decide +kernel
theorem d_S_fewest_27 : decode y_S_fewest.2.1 27 = .ok (.getfield 65, 3) := by decide +kernel
theorem d_S_fewest_30 : decode y_S_fewest.2.1 30 = .ok (.iconst 0, 1) := by decide +kernel
theorem d_S_fewest_31 : decode y_S_fewest.2.1 31 = .ok (.iaload, 1) := by decide +kernel
theorem d_S_fewest_32 : decode y_S_fewest.2.1 32 = .ok (.invokevirtual 212, 3) := by decide +kernel
abbrev y_P_pack : MI := (⟨"SinglesUp$Packer", "pack", "([II)I"⟩, prog_8_method_4_code, 6, some .int)
theorem lk_S_212 : LkV "SinglesUp" 212 y_P_pack := ⟨tw_in 996 (by decide +kernel) rfl, tw_in 997 (by decide +kernel) rfl, Or.inl (tw_in 995 (by decide +kernel) rfl)⟩
theorem mo_P_pack : MOk y_P_pack 2 := ⟨by decide +kernel, tw_in 998 (by decide +kernel) rfl, tw_in 106 (by decide +kernel) rfl, by decide +kernel, by decide +kernel, by decide +kernel⟩
theorem d_P_pack_0 : decode y_P_pack.2.1 0 = .ok (.aload_n 0, 1) := by decide +kernel
theorem d_P_pack_1 : decode y_P_pack.2.1 1 = .ok (.aload_n 1, 1) := by decide +kernel
theorem d_P_pack_2 : decode y_P_pack.2.1 2 = .ok (.invokevirtual 48, 3) := by decide +kernel
theorem lk_P_48 : LkV "SinglesUp$Packer" 48 y_P_numberAll := ⟨tw_in 1001 (by decide +kernel) rfl, tw_in 33 (by decide +kernel) rfl, Or.inl (tw_in 999 (by decide +kernel) rfl)⟩
theorem mo_P_numberAll : MOk y_P_numberAll 1 := ⟨by decide +kernel, tw_in 1002 (by decide +kernel) rfl, tw_in 106 (by decide +kernel) rfl, by decide +kernel, by decide +kernel, by decide +kernel⟩
theorem d_P_pack_5 : decode y_P_pack.2.1 5 = .ok (.istore_n 3, 1) := by decide +kernel
theorem d_P_pack_6 : decode y_P_pack.2.1 6 = .ok (.aload_n 0, 1) := by decide +kernel
theorem d_P_pack_7 : decode y_P_pack.2.1 7 = .ok (.getfield 24, 3) := by decide +kernel
theorem fl_P_24 : FL "SinglesUp$Packer" 24 6 5 := ⟨"SinglesUp$Packer", zT6, 7, rfl, by decide, rfl, Or.inl (tw_in 411 (by decide +kernel) rfl)⟩
theorem rc_160_5 : RC 160 5 = some 165 := by decide +kernel
theorem d_P_pack_10 : decode y_P_pack.2.1 10 = .ok (.iconst 0, 1) := by decide +kernel
theorem d_P_pack_11 : decode y_P_pack.2.1 11 = .ok (.invokestatic 52, 3) := by decide +kernel
theorem kc_165 : KC[165]? = some (0, 9) := by decide +kernel
theorem d_P_pack_14 : decode y_P_pack.2.1 14 = .ok (.aload_n 0, 1) := by decide +kernel
theorem d_P_pack_15 : decode y_P_pack.2.1 15 = .ok (.iconst (-1), 1) := by decide +kernel
theorem d_P_pack_16 : decode y_P_pack.2.1 16 = .ok (.putfield 27, 3) := by decide +kernel
theorem fl_P_27 : FL "SinglesUp$Packer" 27 6 6 := ⟨"SinglesUp$Packer", zT6, 7, rfl, by decide, rfl, Or.inl (tw_in 412 (by decide +kernel) rfl)⟩
theorem d_P_pack_19 : decode y_P_pack.2.1 19 = .ok (.iconst 1, 1) := by decide +kernel
theorem d_P_pack_20 : decode y_P_pack.2.1 20 = .ok (.istore 4, 2) := by decide +kernel
theorem d_P_pack_22 : decode y_P_pack.2.1 22 = .ok (.iload 4, 2) := by decide +kernel
theorem d_P_pack_24 : decode y_P_pack.2.1 24 = .ok (.iload_n 3, 1) := by decide +kernel
theorem d_P_pack_25 : decode y_P_pack.2.1 25 = .ok (.if_icmp .ge 90, 3) := by decide +kernel
theorem d_P_pack_115 : decode y_P_pack.2.1 115 = .ok (.iload_n 3, 1) := by decide +kernel
theorem d_P_pack_116 : decode y_P_pack.2.1 116 = .ok (.iconst 1, 1) := by decide +kernel
theorem d_P_pack_117 : decode y_P_pack.2.1 117 = .ok (.if_icmp .lt 21, 3) := by decide +kernel
theorem d_P_pack_120 : decode y_P_pack.2.1 120 = .ok (.iload_n 3, 1) := by decide +kernel
theorem d_P_pack_121 : decode y_P_pack.2.1 121 = .ok (.sipush 1296, 3) := by decide +kernel
theorem cs_1296 : (Int16.ofInt 1296).toInt32 = nI 1296 := by decide +kernel
theorem d_P_pack_124 : decode y_P_pack.2.1 124 = .ok (.if_icmp .gt 14, 3) := by decide +kernel
theorem d_P_pack_127 : decode y_P_pack.2.1 127 = .ok (.aload_n 0, 1) := by decide +kernel
theorem d_P_pack_128 : decode y_P_pack.2.1 128 = .ok (.getfield 21, 3) := by decide +kernel
theorem fl_P_21 : FL "SinglesUp$Packer" 21 6 4 := ⟨"SinglesUp$Packer", zT6, 7, rfl, by decide, rfl, Or.inl (tw_in 410 (by decide +kernel) rfl)⟩
theorem rc_160_4 : RC 160 4 = some 164 := by decide +kernel
theorem d_P_pack_131 : decode y_P_pack.2.1 131 = .ok (.iload_n 3, 1) := by decide +kernel
theorem d_P_pack_132 : decode y_P_pack.2.1 132 = .ok (.iconst 1, 1) := by decide +kernel
theorem d_P_pack_133 : decode y_P_pack.2.1 133 = .ok (.isub, 1) := by decide +kernel
theorem d_P_pack_134 : decode y_P_pack.2.1 134 = .ok (.iaload, 1) := by decide +kernel
theorem kc_164 : KC[164]? = some (0, 1296) := by decide +kernel
theorem d_P_pack_135 : decode y_P_pack.2.1 135 = .ok (.goto 4, 3) := by decide +kernel
theorem d_P_pack_139 : decode y_P_pack.2.1 139 = .ok (.ireturn, 1) := by decide +kernel
theorem d_S_fewest_35 : decode y_S_fewest.2.1 35 = .ok (.istore_n 2, 1) := by decide +kernel
theorem d_S_fewest_36 : decode y_S_fewest.2.1 36 = .ok (.iload_n 1, 1) := by decide +kernel
theorem d_S_fewest_37 : decode y_S_fewest.2.1 37 = .ok (.ifCond .eq 8, 3) := by decide +kernel
theorem d_S_fewest_45 : decode y_S_fewest.2.1 45 = .ok (.iload_n 2, 1) := by decide +kernel
theorem d_S_fewest_46 : decode y_S_fewest.2.1 46 = .ok (.goto 11, 3) := by decide +kernel
theorem d_S_fewest_57 : decode y_S_fewest.2.1 57 = .ok (.ireturn, 1) := by decide +kernel
theorem d_S_fewest_40 : decode y_S_fewest.2.1 40 = .ok (.iload_n 2, 1) := by decide +kernel
theorem d_S_fewest_41 : decode y_S_fewest.2.1 41 = .ok (.iconst (-1), 1) := by decide +kernel
theorem d_S_fewest_42 : decode y_S_fewest.2.1 42 = .ok (.if_icmp .ne 7, 3) := by decide +kernel
theorem d_S_fewest_49 : decode y_S_fewest.2.1 49 = .ok (.aload_n 0, 1) := by decide +kernel
theorem d_S_fewest_50 : decode y_S_fewest.2.1 50 = .ok (.getfield 53, 3) := by decide +kernel
theorem d_S_fewest_53 : decode y_S_fewest.2.1 53 = .ok (.iload_n 1, 1) := by decide +kernel
theorem d_S_fewest_54 : decode y_S_fewest.2.1 54 = .ok (.invokevirtual 216, 3) := by decide +kernel
abbrev y_P_inFirst : MI := (⟨"SinglesUp$Packer", "inFirst", "(I)I"⟩, prog_8_method_9_code, 3, some .int)
theorem lk_S_216 : LkV "SinglesUp" 216 y_P_inFirst := ⟨tw_in 1017 (by decide +kernel) rfl, tw_in 1018 (by decide +kernel) rfl, Or.inl (tw_in 1016 (by decide +kernel) rfl)⟩
theorem mo_P_inFirst : MOk y_P_inFirst 1 := ⟨by decide +kernel, tw_in 1019 (by decide +kernel) rfl, tw_in 106 (by decide +kernel) rfl, by decide +kernel, by decide +kernel, by decide +kernel⟩
theorem d_P_inFirst_0 : decode y_P_inFirst.2.1 0 = .ok (.aload_n 0, 1) := by decide +kernel
theorem d_P_inFirst_1 : decode y_P_inFirst.2.1 1 = .ok (.getfield 27, 3) := by decide +kernel
theorem d_P_inFirst_4 : decode y_P_inFirst.2.1 4 = .ok (.ifCond .lt 27, 3) := by decide +kernel
theorem d_P_inFirst_31 : decode y_P_inFirst.2.1 31 = .ok (.iconst 0, 1) := by decide +kernel
theorem d_P_inFirst_32 : decode y_P_inFirst.2.1 32 = .ok (.istore_n 2, 1) := by decide +kernel
theorem d_P_inFirst_33 : decode y_P_inFirst.2.1 33 = .ok (.iload_n 2, 1) := by decide +kernel
theorem d_P_inFirst_34 : decode y_P_inFirst.2.1 34 = .ok (.ifCond .eq 20, 3) := by decide +kernel
theorem d_P_inFirst_54 : decode y_P_inFirst.2.1 54 = .ok (.iconst 0, 1) := by decide +kernel
theorem d_P_inFirst_55 : decode y_P_inFirst.2.1 55 = .ok (.ireturn, 1) := by decide +kernel
abbrev y_S_till : MI := (⟨"SinglesUp", "till", "(II)I"⟩, prog_1_method_26_code, 3, some .int)
theorem d_S_till_0 : decode y_S_till.2.1 0 = .ok (.aload_n 0, 1) := by decide +kernel
theorem d_S_till_1 : decode y_S_till.2.1 1 = .ok (.getfield 12, 3) := by decide +kernel
theorem d_S_till_4 : decode y_S_till.2.1 4 = .ok (.getfield 77, 3) := by decide +kernel
theorem d_S_till_7 : decode y_S_till.2.1 7 = .ok (.iload_n 1, 1) := by decide +kernel
theorem d_S_till_8 : decode y_S_till.2.1 8 = .ok (.iload_n 2, 1) := by decide +kernel
theorem d_S_till_9 : decode y_S_till.2.1 9 = .ok (.invokevirtual 144, 3) := by decide +kernel
theorem d_S_till_12 : decode y_S_till.2.1 12 = .ok (.ifCond .eq 23, 3) := by decide +kernel
theorem d_S_till_35 : decode y_S_till.2.1 35 = .ok (.iconst (-1), 1) := by decide +kernel
theorem d_S_till_36 : decode y_S_till.2.1 36 = .ok (.ireturn, 1) := by decide +kernel
abbrev y_S_together : MI := (⟨"SinglesUp", "together", "(IIIII)I"⟩, prog_1_method_27_code, 11, some .int)
theorem d_S_together_0 : decode y_S_together.2.1 0 = .ok (.iload 5, 2) := by decide +kernel
theorem d_S_together_2 : decode y_S_together.2.1 2 = .ok (.ifCond .lt 40, 3) := by decide +kernel
theorem d_S_together_42 : decode y_S_together.2.1 42 = .ok (.bipush (-2), 2) := by decide +kernel
theorem d_S_together_44 : decode y_S_together.2.1 44 = .ok (.ireturn, 1) := by decide +kernel
theorem d_S_together_5 : decode y_S_together.2.1 5 = .ok (.iload 5, 2) := by decide +kernel
theorem d_S_together_7 : decode y_S_together.2.1 7 = .ok (.iconst 1, 1) := by decide +kernel
theorem d_S_together_8 : decode y_S_together.2.1 8 = .ok (.if_icmp .gt 34, 3) := by decide +kernel
theorem d_S_together_11 : decode y_S_together.2.1 11 = .ok (.aload_n 0, 1) := by decide +kernel
theorem d_S_together_12 : decode y_S_together.2.1 12 = .ok (.getfield 12, 3) := by decide +kernel
theorem d_S_together_15 : decode y_S_together.2.1 15 = .ok (.getfield 77, 3) := by decide +kernel
theorem d_S_together_18 : decode y_S_together.2.1 18 = .ok (.iload_n 1, 1) := by decide +kernel
theorem d_S_together_19 : decode y_S_together.2.1 19 = .ok (.iload_n 2, 1) := by decide +kernel
theorem d_S_together_20 : decode y_S_together.2.1 20 = .ok (.invokevirtual 144, 3) := by decide +kernel
theorem d_S_together_23 : decode y_S_together.2.1 23 = .ok (.ifCond .eq 19, 3) := by decide +kernel
abbrev y_S_past : MI := (⟨"SinglesUp", "past", "(II)I"⟩, prog_1_method_29_code, 4, some .int)
theorem d_S_past_0 : decode y_S_past.2.1 0 = .ok (.iload_n 1, 1) := by decide +kernel
theorem d_S_past_1 : decode y_S_past.2.1 1 = .ok (.ifCond .lt 35, 3) := by decide +kernel
theorem d_S_past_36 : decode y_S_past.2.1 36 = .ok (.iconst 0, 1) := by decide +kernel
theorem d_S_past_37 : decode y_S_past.2.1 37 = .ok (.istore_n 3, 1) := by decide +kernel
theorem d_S_past_38 : decode y_S_past.2.1 38 = .ok (.iload_n 3, 1) := by decide +kernel
theorem d_S_past_39 : decode y_S_past.2.1 39 = .ok (.ifCond .eq 15, 3) := by decide +kernel
theorem d_S_past_54 : decode y_S_past.2.1 54 = .ok (.iconst (-1), 1) := by decide +kernel
theorem d_S_past_55 : decode y_S_past.2.1 55 = .ok (.ireturn, 1) := by decide +kernel
theorem d_S_past_4 : decode y_S_past.2.1 4 = .ok (.iload_n 1, 1) := by decide +kernel
theorem d_S_past_5 : decode y_S_past.2.1 5 = .ok (.bipush 60, 2) := by decide +kernel
theorem d_S_past_7 : decode y_S_past.2.1 7 = .ok (.if_icmp .ge 29, 3) := by decide +kernel
theorem d_S_past_10 : decode y_S_past.2.1 10 = .ok (.iload_n 1, 1) := by decide +kernel
theorem d_S_past_11 : decode y_S_past.2.1 11 = .ok (.aload_n 0, 1) := by decide +kernel
theorem d_S_past_12 : decode y_S_past.2.1 12 = .ok (.getfield 12, 3) := by decide +kernel
theorem d_S_past_15 : decode y_S_past.2.1 15 = .ok (.getfield 194, 3) := by decide +kernel
theorem d_S_past_18 : decode y_S_past.2.1 18 = .ok (.iconst 0, 1) := by decide +kernel
theorem d_S_past_19 : decode y_S_past.2.1 19 = .ok (.iaload, 1) := by decide +kernel
theorem d_S_past_20 : decode y_S_past.2.1 20 = .ok (.if_icmp .ge 16, 3) := by decide +kernel
abbrev y_S_folded : MI := (⟨"SinglesUp", "folded", "(III)I"⟩, prog_1_method_31_code, 4, some .int)
theorem d_S_folded_0 : decode y_S_folded.2.1 0 = .ok (.iload_n 1, 1) := by decide +kernel
theorem d_S_folded_1 : decode y_S_folded.2.1 1 = .ok (.invokestatic 73, 3) := by decide +kernel
theorem d_S_folded_4 : decode y_S_folded.2.1 4 = .ok (.ifCond .eq 35, 3) := by decide +kernel
theorem d_S_folded_7 : decode y_S_folded.2.1 7 = .ok (.iload_n 2, 1) := by decide +kernel
theorem d_S_folded_8 : decode y_S_folded.2.1 8 = .ok (.iconst 1, 1) := by decide +kernel
theorem d_S_folded_9 : decode y_S_folded.2.1 9 = .ok (.if_icmp .lt 30, 3) := by decide +kernel
theorem d_S_folded_39 : decode y_S_folded.2.1 39 = .ok (.iconst (-1), 1) := by decide +kernel
theorem d_S_folded_40 : decode y_S_folded.2.1 40 = .ok (.ireturn, 1) := by decide +kernel
theorem d_S_folded_12 : decode y_S_folded.2.1 12 = .ok (.iload_n 2, 1) := by decide +kernel
theorem d_S_folded_13 : decode y_S_folded.2.1 13 = .ok (.bipush 40, 2) := by decide +kernel
theorem d_S_folded_15 : decode y_S_folded.2.1 15 = .ok (.if_icmp .gt 24, 3) := by decide +kernel
theorem d_S_folded_18 : decode y_S_folded.2.1 18 = .ok (.iload_n 3, 1) := by decide +kernel
theorem d_S_folded_19 : decode y_S_folded.2.1 19 = .ok (.iconst (-1), 1) := by decide +kernel
theorem d_S_folded_20 : decode y_S_folded.2.1 20 = .ok (.if_icmp .lt 19, 3) := by decide +kernel
theorem d_S_folded_23 : decode y_S_folded.2.1 23 = .ok (.iload_n 3, 1) := by decide +kernel
theorem d_S_folded_24 : decode y_S_folded.2.1 24 = .ok (.aload_n 0, 1) := by decide +kernel
theorem d_S_folded_25 : decode y_S_folded.2.1 25 = .ok (.getfield 12, 3) := by decide +kernel
theorem d_S_folded_28 : decode y_S_folded.2.1 28 = .ok (.getfield 77, 3) := by decide +kernel
theorem d_S_folded_31 : decode y_S_folded.2.1 31 = .ok (.getfield 166, 3) := by decide +kernel
theorem d_S_folded_34 : decode y_S_folded.2.1 34 = .ok (.iload_n 1, 1) := by decide +kernel
theorem d_S_folded_35 : decode y_S_folded.2.1 35 = .ok (.iaload, 1) := by decide +kernel
theorem d_S_folded_36 : decode y_S_folded.2.1 36 = .ok (.if_icmp .lt 5, 3) := by decide +kernel
theorem d_S_folded_41 : decode y_S_folded.2.1 41 = .ok (.aload_n 0, 1) := by decide +kernel
theorem d_S_folded_42 : decode y_S_folded.2.1 42 = .ok (.getfield 12, 3) := by decide +kernel
theorem d_S_folded_45 : decode y_S_folded.2.1 45 = .ok (.getfield 77, 3) := by decide +kernel
theorem d_S_folded_48 : decode y_S_folded.2.1 48 = .ok (.iload_n 1, 1) := by decide +kernel
theorem d_S_folded_49 : decode y_S_folded.2.1 49 = .ok (.iload_n 2, 1) := by decide +kernel
theorem d_S_folded_50 : decode y_S_folded.2.1 50 = .ok (.iload_n 3, 1) := by decide +kernel
theorem d_S_folded_51 : decode y_S_folded.2.1 51 = .ok (.invokevirtual 249, 3) := by decide +kernel
abbrev y_L_rowOf : MI := (⟨"SinglesUp$Lines", "rowOf", "(III)I"⟩, prog_6_method_19_code, 10, some .int)
theorem lk_S_249 : LkV "SinglesUp" 249 y_L_rowOf := ⟨tw_in 1131 (by decide +kernel) rfl, tw_in 1132 (by decide +kernel) rfl, Or.inl (tw_in 1130 (by decide +kernel) rfl)⟩
theorem mo_L_rowOf : MOk y_L_rowOf 3 := ⟨by decide +kernel, tw_in 1133 (by decide +kernel) rfl, tw_in 99 (by decide +kernel) rfl, by decide +kernel, by decide +kernel, by decide +kernel⟩
theorem d_L_rowOf_0 : decode y_L_rowOf.2.1 0 = .ok (.iconst 0, 1) := by decide +kernel
theorem d_L_rowOf_1 : decode y_L_rowOf.2.1 1 = .ok (.istore 4, 2) := by decide +kernel
theorem d_L_rowOf_3 : decode y_L_rowOf.2.1 3 = .ok (.iconst 0, 1) := by decide +kernel
theorem d_L_rowOf_4 : decode y_L_rowOf.2.1 4 = .ok (.istore 5, 2) := by decide +kernel
theorem d_L_rowOf_6 : decode y_L_rowOf.2.1 6 = .ok (.aload_n 0, 1) := by decide +kernel
theorem d_L_rowOf_7 : decode y_L_rowOf.2.1 7 = .ok (.iload_n 1, 1) := by decide +kernel
theorem d_L_rowOf_8 : decode y_L_rowOf.2.1 8 = .ok (.invokevirtual 60, 3) := by decide +kernel
theorem d_L_rowOf_11 : decode y_L_rowOf.2.1 11 = .ok (.istore 6, 2) := by decide +kernel
theorem d_L_rowOf_13 : decode y_L_rowOf.2.1 13 = .ok (.iconst 0, 1) := by decide +kernel
theorem d_L_rowOf_14 : decode y_L_rowOf.2.1 14 = .ok (.istore 7, 2) := by decide +kernel
theorem d_L_rowOf_16 : decode y_L_rowOf.2.1 16 = .ok (.iload 7, 2) := by decide +kernel
theorem d_L_rowOf_18 : decode y_L_rowOf.2.1 18 = .ok (.iload 6, 2) := by decide +kernel
theorem d_L_rowOf_20 : decode y_L_rowOf.2.1 20 = .ok (.if_icmp .ge 101, 3) := by decide +kernel
theorem d_L_rowOf_121 : decode y_L_rowOf.2.1 121 = .ok (.iload 4, 2) := by decide +kernel
theorem d_L_rowOf_123 : decode y_L_rowOf.2.1 123 = .ok (.ireturn, 1) := by decide +kernel
theorem d_S_folded_54 : decode y_S_folded.2.1 54 = .ok (.ireturn, 1) := by decide +kernel
abbrev y_S_image : MI := (⟨"SinglesUp", "image", "(Z)Z"⟩, prog_1_method_32_code, 2, some .boolean)
theorem d_S_image_0 : decode y_S_image.2.1 0 = .ok (.iload_n 1, 1) := by decide +kernel
theorem d_S_image_1 : decode y_S_image.2.1 1 = .ok (.ifCond .eq 22, 3) := by decide +kernel
theorem d_S_image_23 : decode y_S_image.2.1 23 = .ok (.aload_n 0, 1) := by decide +kernel
theorem d_S_image_24 : decode y_S_image.2.1 24 = .ok (.getfield 255, 3) := by decide +kernel
theorem fl_S_255 : FL "SinglesUp" 255 8 8 := ⟨"SinglesUp", zT8, 9, rfl, by decide, rfl, Or.inl (tw_in 436 (by decide +kernel) rfl)⟩
theorem d_S_image_27 : decode y_S_image.2.1 27 = .ok (.ifCond .eq 18, 3) := by decide +kernel
theorem d_S_image_45 : decode y_S_image.2.1 45 = .ok (.aload_n 0, 1) := by decide +kernel
theorem d_S_image_46 : decode y_S_image.2.1 46 = .ok (.getfield 255, 3) := by decide +kernel
theorem d_S_image_49 : decode y_S_image.2.1 49 = .ok (.ireturn, 1) := by decide +kernel
theorem d_S_image_4 : decode y_S_image.2.1 4 = .ok (.aload_n 0, 1) := by decide +kernel
theorem d_S_image_5 : decode y_S_image.2.1 5 = .ok (.getfield 16, 3) := by decide +kernel
theorem fl_S_16 : FL "SinglesUp" 16 8 1 := ⟨"SinglesUp", zT8, 9, rfl, by decide, rfl, Or.inl (tw_in 429 (by decide +kernel) rfl)⟩
theorem rc_0_1 : RC 0 1 = some 41 := by decide +kernel
theorem d_S_image_8 : decode y_S_image.2.1 8 = .ok (.aload_n 0, 1) := by decide +kernel
theorem d_S_image_9 : decode y_S_image.2.1 9 = .ok (.getfield 12, 3) := by decide +kernel
theorem d_S_image_12 : decode y_S_image.2.1 12 = .ok (.invokevirtual 252, 3) := by decide +kernel
abbrev y_H_copyFrom : MI := (⟨"SinglesUp$Hill", "copyFrom", "(LSinglesUp$Hill;)V"⟩, prog_4_method_2_code, 3, none)
theorem lk_S_252 : LkV "SinglesUp" 252 y_H_copyFrom := ⟨tw_in 1029 (by decide +kernel) rfl, tw_in 1030 (by decide +kernel) rfl, Or.inl (tw_in 1138 (by decide +kernel) rfl)⟩
theorem mo_H_copyFrom : MOk y_H_copyFrom 1 := ⟨by decide +kernel, tw_in 1031 (by decide +kernel) rfl, tw_in 98 (by decide +kernel) rfl, by decide +kernel, by decide +kernel, by decide +kernel⟩
theorem kc_41 : KC[41]? = some (5, 14) := by decide +kernel
theorem d_H_copyFrom_0 : decode y_H_copyFrom.2.1 0 = .ok (.iconst 0, 1) := by decide +kernel
theorem d_H_copyFrom_1 : decode y_H_copyFrom.2.1 1 = .ok (.istore_n 2, 1) := by decide +kernel
theorem d_H_copyFrom_2 : decode y_H_copyFrom.2.1 2 = .ok (.iload_n 2, 1) := by decide +kernel
theorem d_H_copyFrom_3 : decode y_H_copyFrom.2.1 3 = .ok (.aload_n 0, 1) := by decide +kernel
theorem d_H_copyFrom_4 : decode y_H_copyFrom.2.1 4 = .ok (.getfield 17, 3) := by decide +kernel
theorem rc_41_1 : RC 41 1 = some 43 := by decide +kernel
theorem d_H_copyFrom_7 : decode y_H_copyFrom.2.1 7 = .ok (.arraylength, 1) := by decide +kernel
theorem kc_43 : KC[43]? = some (2, 5) := by decide +kernel
theorem d_H_copyFrom_8 : decode y_H_copyFrom.2.1 8 = .ok (.if_icmp .ge 33, 3) := by decide +kernel
theorem d_H_copyFrom_11 : decode y_H_copyFrom.2.1 11 = .ok (.iload_n 2, 1) := by decide +kernel
theorem d_H_copyFrom_12 : decode y_H_copyFrom.2.1 12 = .ok (.aload_n 1, 1) := by decide +kernel
theorem d_H_copyFrom_13 : decode y_H_copyFrom.2.1 13 = .ok (.getfield 17, 3) := by decide +kernel
theorem d_H_copyFrom_16 : decode y_H_copyFrom.2.1 16 = .ok (.arraylength, 1) := by decide +kernel
theorem d_H_copyFrom_17 : decode y_H_copyFrom.2.1 17 = .ok (.if_icmp .ge 24, 3) := by decide +kernel
theorem d_H_copyFrom_20 : decode y_H_copyFrom.2.1 20 = .ok (.aload_n 0, 1) := by decide +kernel
theorem d_H_copyFrom_21 : decode y_H_copyFrom.2.1 21 = .ok (.getfield 17, 3) := by decide +kernel
theorem d_H_copyFrom_24 : decode y_H_copyFrom.2.1 24 = .ok (.iload_n 2, 1) := by decide +kernel
theorem d_H_copyFrom_25 : decode y_H_copyFrom.2.1 25 = .ok (.aaload, 1) := by decide +kernel
theorem rc_43_0 : RC 43 0 = some 56 := by decide +kernel
theorem d_H_copyFrom_26 : decode y_H_copyFrom.2.1 26 = .ok (.aload_n 1, 1) := by decide +kernel
theorem d_H_copyFrom_27 : decode y_H_copyFrom.2.1 27 = .ok (.getfield 17, 3) := by decide +kernel
theorem d_H_copyFrom_30 : decode y_H_copyFrom.2.1 30 = .ok (.iload_n 2, 1) := by decide +kernel
theorem d_H_copyFrom_31 : decode y_H_copyFrom.2.1 31 = .ok (.aaload, 1) := by decide +kernel
theorem d_H_copyFrom_32 : decode y_H_copyFrom.2.1 32 = .ok (.invokevirtual 57, 3) := by decide +kernel
theorem lk_H_57 : LkV "SinglesUp$Hill" 57 y_W_copyFrom := ⟨tw_in 724 (by decide +kernel) rfl, tw_in 725 (by decide +kernel) rfl, Or.inl (tw_in 1032 (by decide +kernel) rfl)⟩
theorem kc_56 : KC[56]? = some (6, 6) := by decide +kernel
theorem rc_56_0 : RC 56 0 = some 57 := by decide +kernel
theorem kc_57 : KC[57]? = some (0, 400) := by decide +kernel
theorem rc_56_2 : RC 56 2 = some 58 := by decide +kernel
theorem kc_58 : KC[58]? = some (0, 17) := by decide +kernel
theorem rc_56_3 : RC 56 3 = some 59 := by decide +kernel
theorem kc_59 : KC[59]? = some (0, 16) := by decide +kernel
theorem d_H_copyFrom_35 : decode y_H_copyFrom.2.1 35 = .ok (.iinc 2 1, 3) := by decide +kernel
theorem d_H_copyFrom_38 : decode y_H_copyFrom.2.1 38 = .ok (.goto (-36), 3) := by decide +kernel
theorem rc_43_1 : RC 43 1 = some 61 := by decide +kernel
theorem kc_61 : KC[61]? = some (6, 6) := by decide +kernel
theorem rc_61_0 : RC 61 0 = some 62 := by decide +kernel
theorem kc_62 : KC[62]? = some (0, 400) := by decide +kernel
theorem rc_61_2 : RC 61 2 = some 63 := by decide +kernel
theorem kc_63 : KC[63]? = some (0, 17) := by decide +kernel
theorem rc_61_3 : RC 61 3 = some 64 := by decide +kernel
theorem kc_64 : KC[64]? = some (0, 16) := by decide +kernel
theorem rc_43_2 : RC 43 2 = some 66 := by decide +kernel
theorem kc_66 : KC[66]? = some (6, 6) := by decide +kernel
theorem rc_66_0 : RC 66 0 = some 67 := by decide +kernel
theorem kc_67 : KC[67]? = some (0, 400) := by decide +kernel
theorem rc_66_2 : RC 66 2 = some 68 := by decide +kernel
theorem kc_68 : KC[68]? = some (0, 17) := by decide +kernel
theorem rc_66_3 : RC 66 3 = some 69 := by decide +kernel
theorem kc_69 : KC[69]? = some (0, 16) := by decide +kernel
theorem rc_43_3 : RC 43 3 = some 71 := by decide +kernel
theorem kc_71 : KC[71]? = some (6, 6) := by decide +kernel
theorem rc_71_0 : RC 71 0 = some 72 := by decide +kernel
theorem kc_72 : KC[72]? = some (0, 400) := by decide +kernel
theorem rc_71_2 : RC 71 2 = some 73 := by decide +kernel
theorem kc_73 : KC[73]? = some (0, 17) := by decide +kernel
theorem rc_71_3 : RC 71 3 = some 74 := by decide +kernel
theorem kc_74 : KC[74]? = some (0, 16) := by decide +kernel
theorem rc_43_4 : RC 43 4 = some 76 := by decide +kernel
theorem kc_76 : KC[76]? = some (6, 6) := by decide +kernel
theorem rc_76_0 : RC 76 0 = some 77 := by decide +kernel
theorem kc_77 : KC[77]? = some (0, 400) := by decide +kernel
theorem rc_76_2 : RC 76 2 = some 78 := by decide +kernel
theorem kc_78 : KC[78]? = some (0, 17) := by decide +kernel
theorem rc_76_3 : RC 76 3 = some 79 := by decide +kernel
theorem kc_79 : KC[79]? = some (0, 16) := by decide +kernel
theorem d_H_copyFrom_41 : decode y_H_copyFrom.2.1 41 = .ok (.aload_n 0, 1) := by decide +kernel
theorem d_H_copyFrom_42 : decode y_H_copyFrom.2.1 42 = .ok (.getfield 33, 3) := by decide +kernel
theorem rc_41_5 : RC 41 5 = some 47 := by decide +kernel
theorem d_H_copyFrom_45 : decode y_H_copyFrom.2.1 45 = .ok (.aload_n 1, 1) := by decide +kernel
theorem d_H_copyFrom_46 : decode y_H_copyFrom.2.1 46 = .ok (.getfield 33, 3) := by decide +kernel
theorem d_H_copyFrom_49 : decode y_H_copyFrom.2.1 49 = .ok (.invokevirtual 61, 3) := by decide +kernel
abbrev y_L_copyFrom : MI := (⟨"SinglesUp$Lines", "copyFrom", "(LSinglesUp$Lines;)V"⟩, prog_6_method_2_code, 2, none)
theorem lk_H_61 : LkV "SinglesUp$Hill" 61 y_L_copyFrom := ⟨tw_in 1034 (by decide +kernel) rfl, tw_in 1035 (by decide +kernel) rfl, Or.inl (tw_in 1033 (by decide +kernel) rfl)⟩
theorem mo_L_copyFrom : MOk y_L_copyFrom 1 := ⟨by decide +kernel, tw_in 1036 (by decide +kernel) rfl, tw_in 99 (by decide +kernel) rfl, by decide +kernel, by decide +kernel, by decide +kernel⟩
theorem kc_47 : KC[47]? = some (7, 3) := by decide +kernel
theorem d_L_copyFrom_0 : decode y_L_copyFrom.2.1 0 = .ok (.aload_n 1, 1) := by decide +kernel
theorem d_L_copyFrom_1 : decode y_L_copyFrom.2.1 1 = .ok (.getfield 9, 3) := by decide +kernel
theorem d_L_copyFrom_4 : decode y_L_copyFrom.2.1 4 = .ok (.iconst 0, 1) := by decide +kernel
theorem d_L_copyFrom_5 : decode y_L_copyFrom.2.1 5 = .ok (.aload_n 0, 1) := by decide +kernel
theorem d_L_copyFrom_6 : decode y_L_copyFrom.2.1 6 = .ok (.getfield 9, 3) := by decide +kernel
theorem rc_47_0 : RC 47 0 = some 48 := by decide +kernel
theorem d_L_copyFrom_9 : decode y_L_copyFrom.2.1 9 = .ok (.iconst 0, 1) := by decide +kernel
theorem d_L_copyFrom_10 : decode y_L_copyFrom.2.1 10 = .ok (.aload_n 0, 1) := by decide +kernel
theorem d_L_copyFrom_11 : decode y_L_copyFrom.2.1 11 = .ok (.getfield 9, 3) := by decide +kernel
theorem d_L_copyFrom_14 : decode y_L_copyFrom.2.1 14 = .ok (.arraylength, 1) := by decide +kernel
theorem kc_48 : KC[48]? = some (0, 1440) := by decide +kernel
theorem d_L_copyFrom_15 : decode y_L_copyFrom.2.1 15 = .ok (.invokestatic 27, 3) := by decide +kernel
theorem d_L_copyFrom_18 : decode y_L_copyFrom.2.1 18 = .ok (.aload_n 1, 1) := by decide +kernel
theorem d_L_copyFrom_19 : decode y_L_copyFrom.2.1 19 = .ok (.getfield 15, 3) := by decide +kernel
theorem d_L_copyFrom_22 : decode y_L_copyFrom.2.1 22 = .ok (.iconst 0, 1) := by decide +kernel
theorem d_L_copyFrom_23 : decode y_L_copyFrom.2.1 23 = .ok (.aload_n 0, 1) := by decide +kernel
theorem d_L_copyFrom_24 : decode y_L_copyFrom.2.1 24 = .ok (.getfield 15, 3) := by decide +kernel
theorem rc_47_1 : RC 47 1 = some 49 := by decide +kernel
theorem d_L_copyFrom_27 : decode y_L_copyFrom.2.1 27 = .ok (.iconst 0, 1) := by decide +kernel
theorem d_L_copyFrom_28 : decode y_L_copyFrom.2.1 28 = .ok (.bipush 6, 2) := by decide +kernel
theorem d_L_copyFrom_30 : decode y_L_copyFrom.2.1 30 = .ok (.invokestatic 27, 3) := by decide +kernel
theorem kc_49 : KC[49]? = some (0, 6) := by decide +kernel
theorem d_L_copyFrom_33 : decode y_L_copyFrom.2.1 33 = .ok (.aload_n 1, 1) := by decide +kernel
theorem d_L_copyFrom_34 : decode y_L_copyFrom.2.1 34 = .ok (.getfield 18, 3) := by decide +kernel
theorem d_L_copyFrom_37 : decode y_L_copyFrom.2.1 37 = .ok (.iconst 0, 1) := by decide +kernel
theorem d_L_copyFrom_38 : decode y_L_copyFrom.2.1 38 = .ok (.aload_n 0, 1) := by decide +kernel
theorem d_L_copyFrom_39 : decode y_L_copyFrom.2.1 39 = .ok (.getfield 18, 3) := by decide +kernel
theorem rc_47_2 : RC 47 2 = some 50 := by decide +kernel
theorem d_L_copyFrom_42 : decode y_L_copyFrom.2.1 42 = .ok (.iconst 0, 1) := by decide +kernel
theorem d_L_copyFrom_43 : decode y_L_copyFrom.2.1 43 = .ok (.bipush 6, 2) := by decide +kernel
theorem d_L_copyFrom_45 : decode y_L_copyFrom.2.1 45 = .ok (.invokestatic 27, 3) := by decide +kernel
theorem kc_50 : KC[50]? = some (0, 6) := by decide +kernel
theorem d_L_copyFrom_48 : decode y_L_copyFrom.2.1 48 = .ok (.return_, 1) := by decide +kernel
theorem d_H_copyFrom_52 : decode y_H_copyFrom.2.1 52 = .ok (.aload_n 1, 1) := by decide +kernel
theorem d_H_copyFrom_53 : decode y_H_copyFrom.2.1 53 = .ok (.getfield 9, 3) := by decide +kernel
theorem d_H_copyFrom_56 : decode y_H_copyFrom.2.1 56 = .ok (.iconst 0, 1) := by decide +kernel
theorem d_H_copyFrom_57 : decode y_H_copyFrom.2.1 57 = .ok (.aload_n 0, 1) := by decide +kernel
theorem d_H_copyFrom_58 : decode y_H_copyFrom.2.1 58 = .ok (.getfield 9, 3) := by decide +kernel
theorem rc_41_0 : RC 41 0 = some 42 := by decide +kernel
theorem d_H_copyFrom_61 : decode y_H_copyFrom.2.1 61 = .ok (.iconst 0, 1) := by decide +kernel
theorem d_H_copyFrom_62 : decode y_H_copyFrom.2.1 62 = .ok (.aload_n 0, 1) := by decide +kernel
theorem d_H_copyFrom_63 : decode y_H_copyFrom.2.1 63 = .ok (.getfield 9, 3) := by decide +kernel
theorem d_H_copyFrom_66 : decode y_H_copyFrom.2.1 66 = .ok (.arraylength, 1) := by decide +kernel
theorem kc_42 : KC[42]? = some (0, 6) := by decide +kernel
theorem d_H_copyFrom_67 : decode y_H_copyFrom.2.1 67 = .ok (.invokestatic 64, 3) := by decide +kernel
theorem lka_H_64 : Cond.methodLink "SinglesUp$Hill" 64 arraycopyName ∈ TW := tw_in 1037 (by decide +kernel) rfl
theorem d_H_copyFrom_70 : decode y_H_copyFrom.2.1 70 = .ok (.aload_n 1, 1) := by decide +kernel
theorem d_H_copyFrom_71 : decode y_H_copyFrom.2.1 71 = .ok (.getfield 21, 3) := by decide +kernel
theorem fl_H_21 : FL "SinglesUp$Hill" 21 2 2 := ⟨"SinglesUp$Hill", zT2, 14, rfl, by decide, rfl, Or.inl (tw_in 187 (by decide +kernel) rfl)⟩
theorem d_H_copyFrom_74 : decode y_H_copyFrom.2.1 74 = .ok (.iconst 0, 1) := by decide +kernel
theorem d_H_copyFrom_75 : decode y_H_copyFrom.2.1 75 = .ok (.aload_n 0, 1) := by decide +kernel
theorem d_H_copyFrom_76 : decode y_H_copyFrom.2.1 76 = .ok (.getfield 21, 3) := by decide +kernel
theorem rc_41_2 : RC 41 2 = some 44 := by decide +kernel
theorem d_H_copyFrom_79 : decode y_H_copyFrom.2.1 79 = .ok (.iconst 0, 1) := by decide +kernel
theorem d_H_copyFrom_80 : decode y_H_copyFrom.2.1 80 = .ok (.aload_n 0, 1) := by decide +kernel
theorem d_H_copyFrom_81 : decode y_H_copyFrom.2.1 81 = .ok (.getfield 21, 3) := by decide +kernel
theorem d_H_copyFrom_84 : decode y_H_copyFrom.2.1 84 = .ok (.arraylength, 1) := by decide +kernel
theorem kc_44 : KC[44]? = some (0, 9) := by decide +kernel
theorem d_H_copyFrom_85 : decode y_H_copyFrom.2.1 85 = .ok (.invokestatic 64, 3) := by decide +kernel
theorem d_H_copyFrom_88 : decode y_H_copyFrom.2.1 88 = .ok (.aload_n 1, 1) := by decide +kernel
theorem d_H_copyFrom_89 : decode y_H_copyFrom.2.1 89 = .ok (.getfield 24, 3) := by decide +kernel
theorem d_H_copyFrom_92 : decode y_H_copyFrom.2.1 92 = .ok (.iconst 0, 1) := by decide +kernel
theorem d_H_copyFrom_93 : decode y_H_copyFrom.2.1 93 = .ok (.aload_n 0, 1) := by decide +kernel
theorem d_H_copyFrom_94 : decode y_H_copyFrom.2.1 94 = .ok (.getfield 24, 3) := by decide +kernel
theorem rc_41_3 : RC 41 3 = some 45 := by decide +kernel
theorem d_H_copyFrom_97 : decode y_H_copyFrom.2.1 97 = .ok (.iconst 0, 1) := by decide +kernel
theorem d_H_copyFrom_98 : decode y_H_copyFrom.2.1 98 = .ok (.aload_n 0, 1) := by decide +kernel
theorem d_H_copyFrom_99 : decode y_H_copyFrom.2.1 99 = .ok (.getfield 24, 3) := by decide +kernel
theorem d_H_copyFrom_102 : decode y_H_copyFrom.2.1 102 = .ok (.arraylength, 1) := by decide +kernel
theorem kc_45 : KC[45]? = some (0, 32) := by decide +kernel
theorem d_H_copyFrom_103 : decode y_H_copyFrom.2.1 103 = .ok (.invokestatic 64, 3) := by decide +kernel
theorem d_H_copyFrom_106 : decode y_H_copyFrom.2.1 106 = .ok (.aload_n 1, 1) := by decide +kernel
theorem d_H_copyFrom_107 : decode y_H_copyFrom.2.1 107 = .ok (.getfield 27, 3) := by decide +kernel
theorem fl_H_27 : FL "SinglesUp$Hill" 27 2 4 := ⟨"SinglesUp$Hill", zT2, 14, rfl, by decide, rfl, Or.inl (tw_in 191 (by decide +kernel) rfl)⟩
theorem d_H_copyFrom_110 : decode y_H_copyFrom.2.1 110 = .ok (.iconst 0, 1) := by decide +kernel
theorem d_H_copyFrom_111 : decode y_H_copyFrom.2.1 111 = .ok (.aload_n 0, 1) := by decide +kernel
theorem d_H_copyFrom_112 : decode y_H_copyFrom.2.1 112 = .ok (.getfield 27, 3) := by decide +kernel
theorem rc_41_4 : RC 41 4 = some 46 := by decide +kernel
theorem d_H_copyFrom_115 : decode y_H_copyFrom.2.1 115 = .ok (.iconst 0, 1) := by decide +kernel
theorem d_H_copyFrom_116 : decode y_H_copyFrom.2.1 116 = .ok (.aload_n 0, 1) := by decide +kernel
theorem d_H_copyFrom_117 : decode y_H_copyFrom.2.1 117 = .ok (.getfield 27, 3) := by decide +kernel
theorem d_H_copyFrom_120 : decode y_H_copyFrom.2.1 120 = .ok (.arraylength, 1) := by decide +kernel
theorem kc_46 : KC[46]? = some (0, 9) := by decide +kernel
theorem d_H_copyFrom_121 : decode y_H_copyFrom.2.1 121 = .ok (.invokestatic 64, 3) := by decide +kernel
theorem d_H_copyFrom_124 : decode y_H_copyFrom.2.1 124 = .ok (.aload_n 1, 1) := by decide +kernel
theorem d_H_copyFrom_125 : decode y_H_copyFrom.2.1 125 = .ok (.getfield 37, 3) := by decide +kernel
theorem d_H_copyFrom_128 : decode y_H_copyFrom.2.1 128 = .ok (.iconst 0, 1) := by decide +kernel
theorem d_H_copyFrom_129 : decode y_H_copyFrom.2.1 129 = .ok (.aload_n 0, 1) := by decide +kernel
theorem d_H_copyFrom_130 : decode y_H_copyFrom.2.1 130 = .ok (.getfield 37, 3) := by decide +kernel
theorem rc_41_8 : RC 41 8 = some 51 := by decide +kernel
theorem d_H_copyFrom_133 : decode y_H_copyFrom.2.1 133 = .ok (.iconst 0, 1) := by decide +kernel
theorem d_H_copyFrom_134 : decode y_H_copyFrom.2.1 134 = .ok (.aload_n 0, 1) := by decide +kernel
theorem d_H_copyFrom_135 : decode y_H_copyFrom.2.1 135 = .ok (.getfield 37, 3) := by decide +kernel
theorem d_H_copyFrom_138 : decode y_H_copyFrom.2.1 138 = .ok (.arraylength, 1) := by decide +kernel
theorem kc_51 : KC[51]? = some (0, 40) := by decide +kernel
theorem d_H_copyFrom_139 : decode y_H_copyFrom.2.1 139 = .ok (.invokestatic 64, 3) := by decide +kernel
theorem d_H_copyFrom_142 : decode y_H_copyFrom.2.1 142 = .ok (.aload_n 1, 1) := by decide +kernel
theorem d_H_copyFrom_143 : decode y_H_copyFrom.2.1 143 = .ok (.getfield 40, 3) := by decide +kernel
theorem d_H_copyFrom_146 : decode y_H_copyFrom.2.1 146 = .ok (.iconst 0, 1) := by decide +kernel
theorem d_H_copyFrom_147 : decode y_H_copyFrom.2.1 147 = .ok (.aload_n 0, 1) := by decide +kernel
theorem d_H_copyFrom_148 : decode y_H_copyFrom.2.1 148 = .ok (.getfield 40, 3) := by decide +kernel
theorem rc_41_9 : RC 41 9 = some 52 := by decide +kernel
theorem d_H_copyFrom_151 : decode y_H_copyFrom.2.1 151 = .ok (.iconst 0, 1) := by decide +kernel
theorem d_H_copyFrom_152 : decode y_H_copyFrom.2.1 152 = .ok (.aload_n 0, 1) := by decide +kernel
theorem d_H_copyFrom_153 : decode y_H_copyFrom.2.1 153 = .ok (.getfield 40, 3) := by decide +kernel
theorem d_H_copyFrom_156 : decode y_H_copyFrom.2.1 156 = .ok (.arraylength, 1) := by decide +kernel
theorem kc_52 : KC[52]? = some (0, 30) := by decide +kernel
theorem d_H_copyFrom_157 : decode y_H_copyFrom.2.1 157 = .ok (.invokestatic 64, 3) := by decide +kernel
theorem d_H_copyFrom_160 : decode y_H_copyFrom.2.1 160 = .ok (.aload_n 1, 1) := by decide +kernel
theorem d_H_copyFrom_161 : decode y_H_copyFrom.2.1 161 = .ok (.getfield 43, 3) := by decide +kernel
theorem d_H_copyFrom_164 : decode y_H_copyFrom.2.1 164 = .ok (.iconst 0, 1) := by decide +kernel
theorem d_H_copyFrom_165 : decode y_H_copyFrom.2.1 165 = .ok (.aload_n 0, 1) := by decide +kernel
theorem d_H_copyFrom_166 : decode y_H_copyFrom.2.1 166 = .ok (.getfield 43, 3) := by decide +kernel
theorem rc_41_10 : RC 41 10 = some 53 := by decide +kernel
theorem d_H_copyFrom_169 : decode y_H_copyFrom.2.1 169 = .ok (.iconst 0, 1) := by decide +kernel
theorem d_H_copyFrom_170 : decode y_H_copyFrom.2.1 170 = .ok (.aload_n 0, 1) := by decide +kernel
theorem d_H_copyFrom_171 : decode y_H_copyFrom.2.1 171 = .ok (.getfield 43, 3) := by decide +kernel
theorem d_H_copyFrom_174 : decode y_H_copyFrom.2.1 174 = .ok (.arraylength, 1) := by decide +kernel
theorem kc_53 : KC[53]? = some (0, 180) := by decide +kernel
theorem d_H_copyFrom_175 : decode y_H_copyFrom.2.1 175 = .ok (.invokestatic 64, 3) := by decide +kernel
theorem d_H_copyFrom_178 : decode y_H_copyFrom.2.1 178 = .ok (.aload_n 0, 1) := by decide +kernel
theorem d_H_copyFrom_179 : decode y_H_copyFrom.2.1 179 = .ok (.aload_n 1, 1) := by decide +kernel
theorem d_H_copyFrom_180 : decode y_H_copyFrom.2.1 180 = .ok (.getfield 70, 3) := by decide +kernel
theorem fl_H_70 : FL "SinglesUp$Hill" 70 2 6 := ⟨"SinglesUp$Hill", zT2, 14, rfl, by decide, rfl, Or.inl (tw_in 199 (by decide +kernel) rfl)⟩
theorem d_H_copyFrom_183 : decode y_H_copyFrom.2.1 183 = .ok (.putfield 70, 3) := by decide +kernel
theorem d_H_copyFrom_186 : decode y_H_copyFrom.2.1 186 = .ok (.aload_n 0, 1) := by decide +kernel
theorem d_H_copyFrom_187 : decode y_H_copyFrom.2.1 187 = .ok (.aload_n 1, 1) := by decide +kernel
theorem d_H_copyFrom_188 : decode y_H_copyFrom.2.1 188 = .ok (.getfield 73, 3) := by decide +kernel
theorem d_H_copyFrom_191 : decode y_H_copyFrom.2.1 191 = .ok (.putfield 73, 3) := by decide +kernel
theorem d_H_copyFrom_194 : decode y_H_copyFrom.2.1 194 = .ok (.aload_n 0, 1) := by decide +kernel
theorem d_H_copyFrom_195 : decode y_H_copyFrom.2.1 195 = .ok (.aload_n 1, 1) := by decide +kernel
theorem d_H_copyFrom_196 : decode y_H_copyFrom.2.1 196 = .ok (.getfield 46, 3) := by decide +kernel
theorem d_H_copyFrom_199 : decode y_H_copyFrom.2.1 199 = .ok (.putfield 46, 3) := by decide +kernel
theorem d_H_copyFrom_202 : decode y_H_copyFrom.2.1 202 = .ok (.return_, 1) := by decide +kernel
theorem d_S_image_15 : decode y_S_image.2.1 15 = .ok (.aload_n 0, 1) := by decide +kernel
theorem d_S_image_16 : decode y_S_image.2.1 16 = .ok (.iconst 1, 1) := by decide +kernel
theorem d_S_image_17 : decode y_S_image.2.1 17 = .ok (.putfield 255, 3) := by decide +kernel
theorem d_S_image_20 : decode y_S_image.2.1 20 = .ok (.goto 25, 3) := by decide +kernel
abbrev y_S_told : MI := (⟨"SinglesUp", "told", "(I)I"⟩, prog_1_method_33_code, 2, some .int)
theorem d_S_told_0 : decode y_S_told.2.1 0 = .ok (.iload_n 1, 1) := by decide +kernel
theorem d_S_told_1 : decode y_S_told.2.1 1 = .ok (.ifCond .lt 18, 3) := by decide +kernel
theorem d_S_told_19 : decode y_S_told.2.1 19 = .ok (.iload_n 1, 1) := by decide +kernel
theorem d_S_told_20 : decode y_S_told.2.1 20 = .ok (.tableswitch 52 6 8 #[28, 36, 44], 28) := by decide +kernel
theorem d_S_told_48 : decode y_S_told.2.1 48 = .ok (.aload_n 0, 1) := by decide +kernel
theorem d_S_told_49 : decode y_S_told.2.1 49 = .ok (.getfield 33, 3) := by decide +kernel
theorem d_S_told_52 : decode y_S_told.2.1 52 = .ok (.getfield 259, 3) := by decide +kernel
theorem fl_S_259 : FL "SinglesUp" 259 0 8 := ⟨"SinglesUp$Chair", zT0, 12, rfl, by decide, rfl, Or.inr ⟨"SinglesUp", nw_in 171 (by decide +kernel) rfl⟩⟩
theorem d_S_told_55 : decode y_S_told.2.1 55 = .ok (.ireturn, 1) := by decide +kernel
theorem d_S_told_56 : decode y_S_told.2.1 56 = .ok (.aload_n 0, 1) := by decide +kernel
theorem d_S_told_57 : decode y_S_told.2.1 57 = .ok (.getfield 12, 3) := by decide +kernel
theorem d_S_told_60 : decode y_S_told.2.1 60 = .ok (.getfield 262, 3) := by decide +kernel
theorem fl_S_262 : FL "SinglesUp" 262 2 7 := ⟨"SinglesUp$Hill", zT2, 14, rfl, by decide, rfl, Or.inr ⟨"SinglesUp", nw_in 105 (by decide +kernel) rfl⟩⟩
theorem d_S_told_63 : decode y_S_told.2.1 63 = .ok (.ireturn, 1) := by decide +kernel
theorem d_S_told_64 : decode y_S_told.2.1 64 = .ok (.aload_n 0, 1) := by decide +kernel
theorem d_S_told_65 : decode y_S_told.2.1 65 = .ok (.getfield 12, 3) := by decide +kernel
theorem d_S_told_68 : decode y_S_told.2.1 68 = .ok (.getfield 57, 3) := by decide +kernel
theorem d_S_told_71 : decode y_S_told.2.1 71 = .ok (.ireturn, 1) := by decide +kernel
theorem d_S_told_72 : decode y_S_told.2.1 72 = .ok (.iconst (-1), 1) := by decide +kernel
theorem d_S_told_73 : decode y_S_told.2.1 73 = .ok (.ireturn, 1) := by decide +kernel
theorem d_S_told_4 : decode y_S_told.2.1 4 = .ok (.iload_n 1, 1) := by decide +kernel
theorem d_S_told_5 : decode y_S_told.2.1 5 = .ok (.iconst 5, 1) := by decide +kernel
theorem d_S_told_6 : decode y_S_told.2.1 6 = .ok (.if_icmp .gt 13, 3) := by decide +kernel
theorem d_S_told_9 : decode y_S_told.2.1 9 = .ok (.aload_n 0, 1) := by decide +kernel
theorem d_S_told_10 : decode y_S_told.2.1 10 = .ok (.getfield 12, 3) := by decide +kernel
theorem d_S_told_13 : decode y_S_told.2.1 13 = .ok (.getfield 65, 3) := by decide +kernel
theorem d_S_told_16 : decode y_S_told.2.1 16 = .ok (.iload_n 1, 1) := by decide +kernel
theorem d_S_told_17 : decode y_S_told.2.1 17 = .ok (.iaload, 1) := by decide +kernel
theorem d_S_told_18 : decode y_S_told.2.1 18 = .ok (.ireturn, 1) := by decide +kernel
abbrev y_S_thought : MI := (⟨"SinglesUp", "thought", "(IIIII)I"⟩, prog_1_method_24_code, 6, some .int)
theorem d_S_thought_0 : decode y_S_thought.2.1 0 = .ok (.iconst 5, 1) := by decide +kernel
theorem d_S_thought_1 : decode y_S_thought.2.1 1 = .ok (.iload_n 1, 1) := by decide +kernel
theorem d_S_thought_2 : decode y_S_thought.2.1 2 = .ok (.invokestatic 61, 3) := by decide +kernel
theorem d_S_thought_5 : decode y_S_thought.2.1 5 = .ok (.ifCond .eq 19, 3) := by decide +kernel
theorem d_S_thought_24 : decode y_S_thought.2.1 24 = .ok (.iconst (-1), 1) := by decide +kernel
theorem d_S_thought_25 : decode y_S_thought.2.1 25 = .ok (.ireturn, 1) := by decide +kernel
theorem d_S_thought_8 : decode y_S_thought.2.1 8 = .ok (.iconst 4, 1) := by decide +kernel
theorem d_S_thought_9 : decode y_S_thought.2.1 9 = .ok (.iload_n 2, 1) := by decide +kernel
theorem d_S_thought_10 : decode y_S_thought.2.1 10 = .ok (.invokestatic 61, 3) := by decide +kernel
theorem d_S_thought_13 : decode y_S_thought.2.1 13 = .ok (.ifCond .eq 11, 3) := by decide +kernel
theorem d_S_thought_16 : decode y_S_thought.2.1 16 = .ok (.iconst 0, 1) := by decide +kernel
theorem d_S_thought_17 : decode y_S_thought.2.1 17 = .ok (.iload_n 3, 1) := by decide +kernel
theorem d_S_thought_18 : decode y_S_thought.2.1 18 = .ok (.invokestatic 61, 3) := by decide +kernel
theorem d_S_thought_21 : decode y_S_thought.2.1 21 = .ok (.ifCond .ne 5, 3) := by decide +kernel
theorem d_S_thought_26 : decode y_S_thought.2.1 26 = .ok (.iload 4, 2) := by decide +kernel
theorem d_S_thought_28 : decode y_S_thought.2.1 28 = .ok (.iconst 1, 1) := by decide +kernel
theorem d_S_thought_29 : decode y_S_thought.2.1 29 = .ok (.if_icmp .lt 21, 3) := by decide +kernel
theorem d_S_thought_50 : decode y_S_thought.2.1 50 = .ok (.iconst (-1), 1) := by decide +kernel
theorem d_S_thought_51 : decode y_S_thought.2.1 51 = .ok (.ireturn, 1) := by decide +kernel
theorem d_S_thought_32 : decode y_S_thought.2.1 32 = .ok (.iload 4, 2) := by decide +kernel
theorem d_S_thought_34 : decode y_S_thought.2.1 34 = .ok (.bipush 40, 2) := by decide +kernel
theorem d_S_thought_36 : decode y_S_thought.2.1 36 = .ok (.if_icmp .gt 14, 3) := by decide +kernel
theorem d_S_thought_39 : decode y_S_thought.2.1 39 = .ok (.iload 5, 2) := by decide +kernel
theorem d_S_thought_41 : decode y_S_thought.2.1 41 = .ok (.ifCond .lt 9, 3) := by decide +kernel
theorem d_S_thought_44 : decode y_S_thought.2.1 44 = .ok (.iload 5, 2) := by decide +kernel
theorem d_S_thought_46 : decode y_S_thought.2.1 46 = .ok (.iconst 5, 1) := by decide +kernel
theorem d_S_thought_47 : decode y_S_thought.2.1 47 = .ok (.if_icmp .le 5, 3) := by decide +kernel
theorem d_S_thought_52 : decode y_S_thought.2.1 52 = .ok (.aload_n 0, 1) := by decide +kernel
theorem d_S_thought_53 : decode y_S_thought.2.1 53 = .ok (.getfield 22, 3) := by decide +kernel
theorem fl_S_22 : FL "SinglesUp" 22 8 2 := ⟨"SinglesUp", zT8, 9, rfl, by decide, rfl, Or.inl (tw_in 430 (by decide +kernel) rfl)⟩
theorem rc_0_2 : RC 0 2 = some 81 := by decide +kernel
theorem d_S_thought_56 : decode y_S_thought.2.1 56 = .ok (.aload_n 0, 1) := by decide +kernel
theorem d_S_thought_57 : decode y_S_thought.2.1 57 = .ok (.getfield 12, 3) := by decide +kernel
theorem d_S_thought_60 : decode y_S_thought.2.1 60 = .ok (.iload_n 1, 1) := by decide +kernel
theorem d_S_thought_61 : decode y_S_thought.2.1 61 = .ok (.iload_n 2, 1) := by decide +kernel
theorem d_S_thought_62 : decode y_S_thought.2.1 62 = .ok (.iload_n 3, 1) := by decide +kernel
theorem d_S_thought_63 : decode y_S_thought.2.1 63 = .ok (.iload 4, 2) := by decide +kernel
theorem d_S_thought_65 : decode y_S_thought.2.1 65 = .ok (.invokevirtual 219, 3) := by decide +kernel
abbrev y_M_imagine : MI := (⟨"SinglesUp$Mind", "imagine", "(LSinglesUp$Hill;IIII)V"⟩, prog_7_method_2_code, 6, none)
theorem lk_S_219 : LkV "SinglesUp" 219 y_M_imagine := ⟨tw_in 1025 (by decide +kernel) rfl, tw_in 1026 (by decide +kernel) rfl, Or.inl (tw_in 1024 (by decide +kernel) rfl)⟩
theorem mo_M_imagine : MOk y_M_imagine 5 := ⟨by decide +kernel, tw_in 1027 (by decide +kernel) rfl, tw_in 102 (by decide +kernel) rfl, by decide +kernel, by decide +kernel, by decide +kernel⟩
theorem kc_81 : KC[81]? = some (8, 3) := by decide +kernel
theorem d_M_imagine_0 : decode y_M_imagine.2.1 0 = .ok (.aload_n 0, 1) := by decide +kernel
theorem d_M_imagine_1 : decode y_M_imagine.2.1 1 = .ok (.getfield 12, 3) := by decide +kernel
theorem fl_M_12 : FL "SinglesUp$Mind" 12 5 0 := ⟨"SinglesUp$Mind", zT5, 3, rfl, by decide, rfl, Or.inl (tw_in 296 (by decide +kernel) rfl)⟩
theorem rc_81_0 : RC 81 0 = some 82 := by decide +kernel
theorem d_M_imagine_4 : decode y_M_imagine.2.1 4 = .ok (.aload_n 1, 1) := by decide +kernel
theorem d_M_imagine_5 : decode y_M_imagine.2.1 5 = .ok (.invokevirtual 29, 3) := by decide +kernel
theorem lk_M_29 : LkV "SinglesUp$Mind" 29 y_H_copyFrom := ⟨tw_in 1029 (by decide +kernel) rfl, tw_in 1030 (by decide +kernel) rfl, Or.inl (tw_in 1028 (by decide +kernel) rfl)⟩
theorem kc_97 : KC[97]? = some (6, 6) := by decide +kernel
theorem rc_97_0 : RC 97 0 = some 98 := by decide +kernel
theorem kc_98 : KC[98]? = some (0, 400) := by decide +kernel
theorem rc_97_2 : RC 97 2 = some 99 := by decide +kernel
theorem kc_99 : KC[99]? = some (0, 17) := by decide +kernel
theorem rc_97_3 : RC 97 3 = some 100 := by decide +kernel
theorem kc_100 : KC[100]? = some (0, 16) := by decide +kernel
theorem kc_102 : KC[102]? = some (6, 6) := by decide +kernel
theorem rc_102_0 : RC 102 0 = some 103 := by decide +kernel
theorem kc_103 : KC[103]? = some (0, 400) := by decide +kernel
theorem rc_102_2 : RC 102 2 = some 104 := by decide +kernel
theorem kc_104 : KC[104]? = some (0, 17) := by decide +kernel
theorem rc_102_3 : RC 102 3 = some 105 := by decide +kernel
theorem kc_105 : KC[105]? = some (0, 16) := by decide +kernel
theorem kc_107 : KC[107]? = some (6, 6) := by decide +kernel
theorem rc_107_0 : RC 107 0 = some 108 := by decide +kernel
theorem kc_108 : KC[108]? = some (0, 400) := by decide +kernel
theorem rc_107_2 : RC 107 2 = some 109 := by decide +kernel
theorem kc_109 : KC[109]? = some (0, 17) := by decide +kernel
theorem rc_107_3 : RC 107 3 = some 110 := by decide +kernel
theorem kc_110 : KC[110]? = some (0, 16) := by decide +kernel
theorem kc_112 : KC[112]? = some (6, 6) := by decide +kernel
theorem rc_112_0 : RC 112 0 = some 113 := by decide +kernel
theorem kc_113 : KC[113]? = some (0, 400) := by decide +kernel
theorem rc_112_2 : RC 112 2 = some 114 := by decide +kernel
theorem kc_114 : KC[114]? = some (0, 17) := by decide +kernel
theorem rc_112_3 : RC 112 3 = some 115 := by decide +kernel
theorem kc_115 : KC[115]? = some (0, 16) := by decide +kernel
theorem rc_84_4 : RC 84 4 = some 117 := by decide +kernel
theorem kc_117 : KC[117]? = some (6, 6) := by decide +kernel
theorem rc_117_0 : RC 117 0 = some 118 := by decide +kernel
theorem kc_118 : KC[118]? = some (0, 400) := by decide +kernel
theorem rc_117_2 : RC 117 2 = some 119 := by decide +kernel
theorem kc_119 : KC[119]? = some (0, 17) := by decide +kernel
theorem rc_117_3 : RC 117 3 = some 120 := by decide +kernel
theorem kc_120 : KC[120]? = some (0, 16) := by decide +kernel
theorem rc_88_0 : RC 88 0 = some 89 := by decide +kernel
theorem kc_89 : KC[89]? = some (0, 1440) := by decide +kernel
theorem rc_82_2 : RC 82 2 = some 85 := by decide +kernel
theorem kc_85 : KC[85]? = some (0, 9) := by decide +kernel
theorem rc_82_4 : RC 82 4 = some 87 := by decide +kernel
theorem kc_87 : KC[87]? = some (0, 9) := by decide +kernel
theorem d_M_imagine_8 : decode y_M_imagine.2.1 8 = .ok (.aload_n 0, 1) := by decide +kernel
theorem d_M_imagine_9 : decode y_M_imagine.2.1 9 = .ok (.getfield 12, 3) := by decide +kernel
theorem d_M_imagine_12 : decode y_M_imagine.2.1 12 = .ok (.getfield 33, 3) := by decide +kernel
theorem fl_M_33 : FL "SinglesUp$Mind" 33 2 0 := ⟨"SinglesUp$Hill", zT2, 14, rfl, by decide, rfl, Or.inr ⟨"SinglesUp", nw_in 86 (by decide +kernel) rfl⟩⟩
theorem d_M_imagine_15 : decode y_M_imagine.2.1 15 = .ok (.iconst 5, 1) := by decide +kernel
theorem d_M_imagine_16 : decode y_M_imagine.2.1 16 = .ok (.iload_n 2, 1) := by decide +kernel
theorem d_M_imagine_17 : decode y_M_imagine.2.1 17 = .ok (.iastore, 1) := by decide +kernel
theorem d_M_imagine_18 : decode y_M_imagine.2.1 18 = .ok (.aload_n 0, 1) := by decide +kernel
theorem d_M_imagine_19 : decode y_M_imagine.2.1 19 = .ok (.getfield 12, 3) := by decide +kernel
theorem d_M_imagine_22 : decode y_M_imagine.2.1 22 = .ok (.getfield 33, 3) := by decide +kernel
theorem d_M_imagine_25 : decode y_M_imagine.2.1 25 = .ok (.iconst 4, 1) := by decide +kernel
theorem d_M_imagine_26 : decode y_M_imagine.2.1 26 = .ok (.iload_n 3, 1) := by decide +kernel
theorem d_M_imagine_27 : decode y_M_imagine.2.1 27 = .ok (.iastore, 1) := by decide +kernel
theorem d_M_imagine_28 : decode y_M_imagine.2.1 28 = .ok (.aload_n 0, 1) := by decide +kernel
theorem d_M_imagine_29 : decode y_M_imagine.2.1 29 = .ok (.getfield 12, 3) := by decide +kernel
theorem d_M_imagine_32 : decode y_M_imagine.2.1 32 = .ok (.getfield 33, 3) := by decide +kernel
theorem d_M_imagine_35 : decode y_M_imagine.2.1 35 = .ok (.iconst 0, 1) := by decide +kernel
theorem d_M_imagine_36 : decode y_M_imagine.2.1 36 = .ok (.iload 4, 2) := by decide +kernel
theorem d_M_imagine_38 : decode y_M_imagine.2.1 38 = .ok (.iastore, 1) := by decide +kernel
theorem d_M_imagine_39 : decode y_M_imagine.2.1 39 = .ok (.aload_n 0, 1) := by decide +kernel
theorem d_M_imagine_40 : decode y_M_imagine.2.1 40 = .ok (.getfield 21, 3) := by decide +kernel
theorem fl_M_21 : FL "SinglesUp$Mind" 21 5 1 := ⟨"SinglesUp$Mind", zT5, 3, rfl, by decide, rfl, Or.inl (tw_in 297 (by decide +kernel) rfl)⟩
theorem rc_81_1 : RC 81 1 = some 122 := by decide +kernel
theorem d_M_imagine_43 : decode y_M_imagine.2.1 43 = .ok (.aload_n 0, 1) := by decide +kernel
theorem d_M_imagine_44 : decode y_M_imagine.2.1 44 = .ok (.getfield 12, 3) := by decide +kernel
theorem d_M_imagine_47 : decode y_M_imagine.2.1 47 = .ok (.iload 5, 2) := by decide +kernel
theorem d_M_imagine_49 : decode y_M_imagine.2.1 49 = .ok (.invokevirtual 36, 3) := by decide +kernel
theorem lk_M_36 : LkV "SinglesUp$Mind" 36 y_C_turns := ⟨tw_in 927 (by decide +kernel) rfl, tw_in 928 (by decide +kernel) rfl, Or.inl (tw_in 1038 (by decide +kernel) rfl)⟩
theorem d_M_imagine_52 : decode y_M_imagine.2.1 52 = .ok (.pop, 1) := by decide +kernel
theorem d_M_imagine_53 : decode y_M_imagine.2.1 53 = .ok (.return_, 1) := by decide +kernel
theorem d_S_thought_68 : decode y_S_thought.2.1 68 = .ok (.aload_n 0, 1) := by decide +kernel
theorem d_S_thought_69 : decode y_S_thought.2.1 69 = .ok (.getfield 22, 3) := by decide +kernel
theorem d_S_thought_72 : decode y_S_thought.2.1 72 = .ok (.aload_n 0, 1) := by decide +kernel
theorem d_S_thought_73 : decode y_S_thought.2.1 73 = .ok (.getfield 12, 3) := by decide +kernel
theorem d_S_thought_76 : decode y_S_thought.2.1 76 = .ok (.iload 5, 2) := by decide +kernel
theorem d_S_thought_78 : decode y_S_thought.2.1 78 = .ok (.invokevirtual 223, 3) := by decide +kernel
abbrev y_M_gained : MI := (⟨"SinglesUp$Mind", "gained", "(LSinglesUp$Hill;I)I"⟩, prog_7_method_3_code, 3, some .int)
theorem lk_S_223 : LkV "SinglesUp" 223 y_M_gained := ⟨tw_in 1040 (by decide +kernel) rfl, tw_in 1041 (by decide +kernel) rfl, Or.inl (tw_in 1039 (by decide +kernel) rfl)⟩
theorem mo_M_gained : MOk y_M_gained 2 := ⟨by decide +kernel, tw_in 1042 (by decide +kernel) rfl, tw_in 102 (by decide +kernel) rfl, by decide +kernel, by decide +kernel, by decide +kernel⟩
theorem d_M_gained_0 : decode y_M_gained.2.1 0 = .ok (.iload_n 2, 1) := by decide +kernel
theorem d_M_gained_1 : decode y_M_gained.2.1 1 = .ok (.tableswitch 118 0 4 #[35, 52, 69, 82, 101], 35) := by decide +kernel
theorem d_M_gained_36 : decode y_M_gained.2.1 36 = .ok (.aload_n 0, 1) := by decide +kernel
theorem d_M_gained_37 : decode y_M_gained.2.1 37 = .ok (.getfield 12, 3) := by decide +kernel
theorem d_M_gained_40 : decode y_M_gained.2.1 40 = .ok (.getfield 40, 3) := by decide +kernel
theorem fl_M_40 : FL "SinglesUp$Mind" 40 2 8 := ⟨"SinglesUp$Hill", zT2, 14, rfl, by decide, rfl, Or.inr ⟨"SinglesUp", nw_in 107 (by decide +kernel) rfl⟩⟩
theorem d_M_gained_43 : decode y_M_gained.2.1 43 = .ok (.iconst 1, 1) := by decide +kernel
theorem d_M_gained_44 : decode y_M_gained.2.1 44 = .ok (.iaload, 1) := by decide +kernel
theorem d_M_gained_45 : decode y_M_gained.2.1 45 = .ok (.aload_n 1, 1) := by decide +kernel
theorem d_M_gained_46 : decode y_M_gained.2.1 46 = .ok (.getfield 40, 3) := by decide +kernel
theorem d_M_gained_49 : decode y_M_gained.2.1 49 = .ok (.iconst 1, 1) := by decide +kernel
theorem d_M_gained_50 : decode y_M_gained.2.1 50 = .ok (.iaload, 1) := by decide +kernel
theorem d_M_gained_51 : decode y_M_gained.2.1 51 = .ok (.isub, 1) := by decide +kernel
theorem d_M_gained_52 : decode y_M_gained.2.1 52 = .ok (.ireturn, 1) := by decide +kernel
theorem d_S_thought_81 : decode y_S_thought.2.1 81 = .ok (.ireturn, 1) := by decide +kernel
theorem d_M_gained_53 : decode y_M_gained.2.1 53 = .ok (.aload_n 0, 1) := by decide +kernel
theorem d_M_gained_54 : decode y_M_gained.2.1 54 = .ok (.getfield 12, 3) := by decide +kernel
theorem d_M_gained_57 : decode y_M_gained.2.1 57 = .ok (.getfield 40, 3) := by decide +kernel
theorem d_M_gained_60 : decode y_M_gained.2.1 60 = .ok (.iconst 2, 1) := by decide +kernel
theorem d_M_gained_61 : decode y_M_gained.2.1 61 = .ok (.iaload, 1) := by decide +kernel
theorem d_M_gained_62 : decode y_M_gained.2.1 62 = .ok (.aload_n 1, 1) := by decide +kernel
theorem d_M_gained_63 : decode y_M_gained.2.1 63 = .ok (.getfield 40, 3) := by decide +kernel
theorem d_M_gained_66 : decode y_M_gained.2.1 66 = .ok (.iconst 2, 1) := by decide +kernel
theorem d_M_gained_67 : decode y_M_gained.2.1 67 = .ok (.iaload, 1) := by decide +kernel
theorem d_M_gained_68 : decode y_M_gained.2.1 68 = .ok (.isub, 1) := by decide +kernel
theorem d_M_gained_69 : decode y_M_gained.2.1 69 = .ok (.ireturn, 1) := by decide +kernel
theorem d_M_gained_70 : decode y_M_gained.2.1 70 = .ok (.aload_n 0, 1) := by decide +kernel
theorem d_M_gained_71 : decode y_M_gained.2.1 71 = .ok (.getfield 12, 3) := by decide +kernel
theorem d_M_gained_74 : decode y_M_gained.2.1 74 = .ok (.invokestatic 43, 3) := by decide +kernel
abbrev y_M_allWait : MI := (⟨"SinglesUp$Mind", "allWait", "(LSinglesUp$Hill;)I"⟩, prog_7_method_4_code, 3, some .int)
theorem lk_M_43 : LkS "SinglesUp$Mind" 43 y_M_allWait := ⟨tw_in 1044 (by decide +kernel) rfl, Or.inl (tw_in 1043 (by decide +kernel) rfl)⟩
theorem mo_M_allWait : MOk y_M_allWait 1 := ⟨by decide +kernel, tw_in 1045 (by decide +kernel) rfl, tw_in 102 (by decide +kernel) rfl, by decide +kernel, by decide +kernel, by decide +kernel⟩
theorem d_M_allWait_0 : decode y_M_allWait.2.1 0 = .ok (.iconst 0, 1) := by decide +kernel
theorem d_M_allWait_1 : decode y_M_allWait.2.1 1 = .ok (.istore_n 1, 1) := by decide +kernel
theorem d_M_allWait_2 : decode y_M_allWait.2.1 2 = .ok (.iconst 1, 1) := by decide +kernel
theorem d_M_allWait_3 : decode y_M_allWait.2.1 3 = .ok (.istore_n 2, 1) := by decide +kernel
theorem d_M_allWait_4 : decode y_M_allWait.2.1 4 = .ok (.iload_n 2, 1) := by decide +kernel
theorem d_M_allWait_5 : decode y_M_allWait.2.1 5 = .ok (.bipush 8, 2) := by decide +kernel
theorem d_M_allWait_7 : decode y_M_allWait.2.1 7 = .ok (.if_icmp .gt 21, 3) := by decide +kernel
theorem d_M_allWait_10 : decode y_M_allWait.2.1 10 = .ok (.iload_n 1, 1) := by decide +kernel
theorem d_M_allWait_11 : decode y_M_allWait.2.1 11 = .ok (.aload_n 0, 1) := by decide +kernel
theorem d_M_allWait_12 : decode y_M_allWait.2.1 12 = .ok (.getfield 40, 3) := by decide +kernel
theorem d_M_allWait_15 : decode y_M_allWait.2.1 15 = .ok (.bipush 20, 2) := by decide +kernel
theorem cb_20 : (Int8.ofInt 20).toInt32 = nI 20 := by decide +kernel
theorem d_M_allWait_17 : decode y_M_allWait.2.1 17 = .ok (.iload_n 2, 1) := by decide +kernel
theorem d_M_allWait_18 : decode y_M_allWait.2.1 18 = .ok (.iadd, 1) := by decide +kernel
theorem d_M_allWait_19 : decode y_M_allWait.2.1 19 = .ok (.iaload, 1) := by decide +kernel
theorem d_M_allWait_20 : decode y_M_allWait.2.1 20 = .ok (.iadd, 1) := by decide +kernel
theorem d_M_allWait_21 : decode y_M_allWait.2.1 21 = .ok (.istore_n 1, 1) := by decide +kernel
theorem d_M_allWait_22 : decode y_M_allWait.2.1 22 = .ok (.iinc 2 1, 3) := by decide +kernel
theorem d_M_allWait_25 : decode y_M_allWait.2.1 25 = .ok (.goto (-21), 3) := by decide +kernel
theorem d_M_allWait_28 : decode y_M_allWait.2.1 28 = .ok (.iload_n 1, 1) := by decide +kernel
theorem d_M_allWait_29 : decode y_M_allWait.2.1 29 = .ok (.ireturn, 1) := by decide +kernel
theorem d_M_gained_77 : decode y_M_gained.2.1 77 = .ok (.aload_n 1, 1) := by decide +kernel
theorem d_M_gained_78 : decode y_M_gained.2.1 78 = .ok (.invokestatic 43, 3) := by decide +kernel
theorem d_M_gained_81 : decode y_M_gained.2.1 81 = .ok (.isub, 1) := by decide +kernel
theorem d_M_gained_82 : decode y_M_gained.2.1 82 = .ok (.ireturn, 1) := by decide +kernel
theorem d_M_gained_83 : decode y_M_gained.2.1 83 = .ok (.aload_n 0, 1) := by decide +kernel
theorem d_M_gained_84 : decode y_M_gained.2.1 84 = .ok (.getfield 12, 3) := by decide +kernel
theorem d_M_gained_87 : decode y_M_gained.2.1 87 = .ok (.getfield 40, 3) := by decide +kernel
theorem d_M_gained_90 : decode y_M_gained.2.1 90 = .ok (.bipush 6, 2) := by decide +kernel
theorem d_M_gained_92 : decode y_M_gained.2.1 92 = .ok (.iaload, 1) := by decide +kernel
theorem d_M_gained_93 : decode y_M_gained.2.1 93 = .ok (.aload_n 1, 1) := by decide +kernel
theorem d_M_gained_94 : decode y_M_gained.2.1 94 = .ok (.getfield 40, 3) := by decide +kernel
theorem d_M_gained_97 : decode y_M_gained.2.1 97 = .ok (.bipush 6, 2) := by decide +kernel
theorem d_M_gained_99 : decode y_M_gained.2.1 99 = .ok (.iaload, 1) := by decide +kernel
theorem d_M_gained_100 : decode y_M_gained.2.1 100 = .ok (.isub, 1) := by decide +kernel
theorem d_M_gained_101 : decode y_M_gained.2.1 101 = .ok (.ireturn, 1) := by decide +kernel
theorem d_M_gained_102 : decode y_M_gained.2.1 102 = .ok (.aload_n 0, 1) := by decide +kernel
theorem d_M_gained_103 : decode y_M_gained.2.1 103 = .ok (.getfield 12, 3) := by decide +kernel
theorem d_M_gained_106 : decode y_M_gained.2.1 106 = .ok (.getfield 40, 3) := by decide +kernel
theorem d_M_gained_109 : decode y_M_gained.2.1 109 = .ok (.iconst 5, 1) := by decide +kernel
theorem d_M_gained_110 : decode y_M_gained.2.1 110 = .ok (.iaload, 1) := by decide +kernel
theorem d_M_gained_111 : decode y_M_gained.2.1 111 = .ok (.aload_n 1, 1) := by decide +kernel
theorem d_M_gained_112 : decode y_M_gained.2.1 112 = .ok (.getfield 40, 3) := by decide +kernel
theorem d_M_gained_115 : decode y_M_gained.2.1 115 = .ok (.iconst 5, 1) := by decide +kernel
theorem d_M_gained_116 : decode y_M_gained.2.1 116 = .ok (.iaload, 1) := by decide +kernel
theorem d_M_gained_117 : decode y_M_gained.2.1 117 = .ok (.isub, 1) := by decide +kernel
theorem d_M_gained_118 : decode y_M_gained.2.1 118 = .ok (.ireturn, 1) := by decide +kernel
theorem d_M_gained_119 : decode y_M_gained.2.1 119 = .ok (.aload_n 0, 1) := by decide +kernel
theorem d_M_gained_120 : decode y_M_gained.2.1 120 = .ok (.invokevirtual 47, 3) := by decide +kernel
abbrev y_M_longest : MI := (⟨"SinglesUp$Mind", "longest", "()I"⟩, prog_7_method_5_code, 3, some .int)
theorem lk_M_47 : LkV "SinglesUp$Mind" 47 y_M_longest := ⟨tw_in 1048 (by decide +kernel) rfl, tw_in 37 (by decide +kernel) rfl, Or.inl (tw_in 1046 (by decide +kernel) rfl)⟩
theorem mo_M_longest : MOk y_M_longest 0 := ⟨by decide +kernel, tw_in 1049 (by decide +kernel) rfl, tw_in 102 (by decide +kernel) rfl, by decide +kernel, by decide +kernel, by decide +kernel⟩
theorem d_M_longest_0 : decode y_M_longest.2.1 0 = .ok (.iconst 0, 1) := by decide +kernel
theorem d_M_longest_1 : decode y_M_longest.2.1 1 = .ok (.istore_n 1, 1) := by decide +kernel
theorem d_M_longest_2 : decode y_M_longest.2.1 2 = .ok (.iconst 1, 1) := by decide +kernel
theorem d_M_longest_3 : decode y_M_longest.2.1 3 = .ok (.istore_n 2, 1) := by decide +kernel
theorem d_M_longest_4 : decode y_M_longest.2.1 4 = .ok (.iload_n 2, 1) := by decide +kernel
theorem d_M_longest_5 : decode y_M_longest.2.1 5 = .ok (.bipush 8, 2) := by decide +kernel
theorem d_M_longest_7 : decode y_M_longest.2.1 7 = .ok (.if_icmp .gt 26, 3) := by decide +kernel
theorem d_M_longest_10 : decode y_M_longest.2.1 10 = .ok (.iload_n 1, 1) := by decide +kernel
theorem d_M_longest_11 : decode y_M_longest.2.1 11 = .ok (.aload_n 0, 1) := by decide +kernel
theorem d_M_longest_12 : decode y_M_longest.2.1 12 = .ok (.getfield 12, 3) := by decide +kernel
theorem d_M_longest_15 : decode y_M_longest.2.1 15 = .ok (.getfield 40, 3) := by decide +kernel
theorem d_M_longest_18 : decode y_M_longest.2.1 18 = .ok (.bipush 30, 2) := by decide +kernel
theorem cb_30 : (Int8.ofInt 30).toInt32 = nI 30 := by decide +kernel
theorem d_M_longest_20 : decode y_M_longest.2.1 20 = .ok (.iload_n 2, 1) := by decide +kernel
theorem d_M_longest_21 : decode y_M_longest.2.1 21 = .ok (.iadd, 1) := by decide +kernel
theorem d_M_longest_22 : decode y_M_longest.2.1 22 = .ok (.iaload, 1) := by decide +kernel
theorem d_M_longest_23 : decode y_M_longest.2.1 23 = .ok (.invokestatic 51, 3) := by decide +kernel
theorem lk_M_51 : LkS "SinglesUp$Mind" 51 y_JM_max := ⟨tw_in 602 (by decide +kernel) rfl, Or.inl (tw_in 1050 (by decide +kernel) rfl)⟩
theorem mo_JM_max : MOk y_JM_max 2 := ⟨by decide +kernel, tw_in 603 (by decide +kernel) rfl, tw_in 113 (by decide +kernel) rfl, by decide +kernel, by decide +kernel, by decide +kernel⟩
theorem d_M_longest_26 : decode y_M_longest.2.1 26 = .ok (.istore_n 1, 1) := by decide +kernel
theorem d_M_longest_27 : decode y_M_longest.2.1 27 = .ok (.iinc 2 1, 3) := by decide +kernel
theorem d_M_longest_30 : decode y_M_longest.2.1 30 = .ok (.goto (-26), 3) := by decide +kernel
theorem d_M_longest_33 : decode y_M_longest.2.1 33 = .ok (.iload_n 1, 1) := by decide +kernel
theorem d_M_longest_34 : decode y_M_longest.2.1 34 = .ok (.ireturn, 1) := by decide +kernel
theorem d_M_gained_123 : decode y_M_gained.2.1 123 = .ok (.ireturn, 1) := by decide +kernel
section
variable {l : Launch} {b : PB}
set_option maxRecDepth 20000 in
theorem fr_fillMost {K2 : K2T} {I : Nat → Nat → Int32} {lg : Int32} (fs : I 154 3 = nI 0) (hK : ∀ I', I' 154 6 = nI 0 → (∀ q, q ≠ 154 → q ≠ 158 → I' q = I q) → K2 (some (.int (nI 0))) I') : As l b 6 y_F_fillMost KC RC K2 (I) 21 [.ref 154, .ref 1, .int (lg), .int (nI 4), uu, uu, uu] [] := by
  refine aw_iconst (v := nI 0) ci_0 d_F_fillMost_21 ?_
  refine aw_istore (lv2 := [.ref 154, .ref 1, .int (lg), .int (nI 4), .int (nI 0), uu, uu]) (by decide) rfl d_F_fillMost_22 ?_
  refine aw_iload rfl d_F_fillMost_24 ?_
  refine aw_bipush (v := nI 9) cb_9 d_F_fillMost_26 ?_
  refine aw_icmp_geI (tgt := 85) (0) (9) (by decide +kernel) (by decide +kernel) (by decide) d_F_fillMost_28 (fun q => absurd q (by decide)) (fun _ => ?_)
  refine aw_aload_n rfl rfl d_F_fillMost_31 ?_
  refine aw_getr fl_F_21 kc_154 (by decide) rfl rc_154_4 d_F_fillMost_32 ?_
  refine aw_aload_n rfl rfl d_F_fillMost_35 ?_
  refine aw_geti fl_F_46 kc_154 (by decide) rfl d_F_fillMost_36 ?_
  refine aw_top (x2 := nI 0) (fs) ?_
  refine aw_iconst (v := nI 0) ci_0 d_F_fillMost_39 ?_
  refine aw_iload rfl d_F_fillMost_40 ?_
  refine as_callS (as := [.int (nI 0), .int (nI 0), .int (nI 0)]) (d' := 5) mo_F_at lk_F_50 rfl ⟨by decide, by decide⟩ rfl rfl (by decide) d_F_fillMost_42 (Ss.of (show As l b 5 y_F_at KC RC _ (I) 0 [.int (nI 0), .int (nI 0), .int (nI 0), uu] [] from ?_))
  refine aw_iload_n rfl rfl d_F_at_0 ?_
  refine aw_if_ltI (tgt := 34) (0) (by decide +kernel) (by decide) d_F_at_1 (fun q => absurd q (by decide)) (fun _ => ?_)
  refine aw_iload_n rfl rfl d_F_at_4 ?_
  refine aw_sipush (v := nI 144) cs_144 d_F_at_5 ?_
  refine aw_icmp_gtI (tgt := 34) (0) (144) (by decide +kernel) (by decide +kernel) (by decide) d_F_at_8 (fun q => absurd q (by decide)) (fun _ => ?_)
  refine aw_iload_n rfl rfl d_F_at_11 ?_
  refine aw_if_ltI (tgt := 34) (0) (by decide +kernel) (by decide) d_F_at_12 (fun q => absurd q (by decide)) (fun _ => ?_)
  refine aw_iload_n rfl rfl d_F_at_15 ?_
  refine aw_iconst (v := nI 3) ci_3 d_F_at_16 ?_
  refine aw_icmp_geI (tgt := 34) (0) (3) (by decide +kernel) (by decide +kernel) (by decide) d_F_at_17 (fun q => absurd q (by decide)) (fun _ => ?_)
  refine aw_iload_n rfl rfl d_F_at_20 ?_
  refine aw_if_ltI (tgt := 34) (0) (by decide +kernel) (by decide) d_F_at_21 (fun q => absurd q (by decide)) (fun _ => ?_)
  refine aw_iload_n rfl rfl d_F_at_24 ?_
  refine aw_bipush (v := nI 9) cb_9 d_F_at_25 ?_
  refine aw_icmp_geI (tgt := 34) (0) (9) (by decide +kernel) (by decide +kernel) (by decide) d_F_at_27 (fun q => absurd q (by decide)) (fun _ => ?_)
  refine aw_iconst (v := nI 1) ci_1 d_F_at_30 ?_
  refine aw_goto (tgt := 35) (by decide) d_F_at_31 ?_
  refine aw_istore_n (lv2 := [.int (nI 0), .int (nI 0), .int (nI 0), .int (nI 1)]) rfl (by decide) rfl d_F_at_35 ?_
  refine aw_iload_n rfl rfl d_F_at_36 ?_
  refine aw_if_eqI (tgt := 53) (1) (by decide +kernel) (by decide) d_F_at_37 (fun q => absurd q (by decide)) (fun _ => ?_)
  refine aw_iload_n rfl rfl d_F_at_40 ?_
  refine aw_iconst (v := nI 3) ci_3 d_F_at_41 ?_
  refine aw_imul d_F_at_42 ?_
  refine aw_top (x2 := nI 0) (by decide +kernel) ?_
  refine aw_iload_n rfl rfl d_F_at_43 ?_
  refine aw_iadd d_F_at_44 ?_
  refine aw_top (x2 := nI 0) (by decide +kernel) ?_
  refine aw_bipush (v := nI 9) cb_9 d_F_at_45 ?_
  refine aw_imul d_F_at_47 ?_
  refine aw_top (x2 := nI 0) (by decide +kernel) ?_
  refine aw_iload_n rfl rfl d_F_at_48 ?_
  refine aw_iadd d_F_at_49 ?_
  refine aw_top (x2 := nI 0) (by decide +kernel) ?_
  refine aw_goto (tgt := 54) (by decide) d_F_at_50 ?_
  refine as_reti rfl d_F_at_54 ?_
  refine (show As l b 6 y_F_fillMost KC RC K2 (I) 45 [.ref 154, .ref 1, .int (lg), .int (nI 4), .int (nI 0), uu, uu] [.int (nI 0), .ref 158] from ?_)
  refine aw_iconst (v := nI 0) ci_0 d_F_fillMost_45 ?_
  refine aw_iast (j := 0) kc_158 (vp_in_nI (by decide) (by decide)) (nI_clamp (by decide)) d_F_fillMost_46 ?_
  refine aw_aload_n rfl rfl d_F_fillMost_47 ?_
  refine aw_getr fl_F_21 kc_154 (by decide) rfl rc_154_4 d_F_fillMost_48 ?_
  refine aw_aload_n rfl rfl d_F_fillMost_51 ?_
  refine aw_geti fl_F_46 kc_154 (by decide) rfl d_F_fillMost_52 ?_
  refine aw_top (x2 := nI 0) (Eq.trans (congrFun (upd2_ne (by decide)) (3)) (fs)) ?_
  refine aw_iconst (v := nI 1) ci_1 d_F_fillMost_55 ?_
  refine aw_iload rfl d_F_fillMost_56 ?_
  refine as_callS (as := [.int (nI 0), .int (nI 1), .int (nI 0)]) (d' := 5) mo_F_at lk_F_50 rfl ⟨by decide, by decide⟩ rfl rfl (by decide) d_F_fillMost_58 (Ss.of (show As l b 5 y_F_at KC RC _ (upd2 I 158 (0) (nI 0)) 0 [.int (nI 0), .int (nI 1), .int (nI 0), uu] [] from ?_))
  refine aw_iload_n rfl rfl d_F_at_0 ?_
  refine aw_if_ltI (tgt := 34) (0) (by decide +kernel) (by decide) d_F_at_1 (fun q => absurd q (by decide)) (fun _ => ?_)
  refine aw_iload_n rfl rfl d_F_at_4 ?_
  refine aw_sipush (v := nI 144) cs_144 d_F_at_5 ?_
  refine aw_icmp_gtI (tgt := 34) (0) (144) (by decide +kernel) (by decide +kernel) (by decide) d_F_at_8 (fun q => absurd q (by decide)) (fun _ => ?_)
  refine aw_iload_n rfl rfl d_F_at_11 ?_
  refine aw_if_ltI (tgt := 34) (1) (by decide +kernel) (by decide) d_F_at_12 (fun q => absurd q (by decide)) (fun _ => ?_)
  refine aw_iload_n rfl rfl d_F_at_15 ?_
  refine aw_iconst (v := nI 3) ci_3 d_F_at_16 ?_
  refine aw_icmp_geI (tgt := 34) (1) (3) (by decide +kernel) (by decide +kernel) (by decide) d_F_at_17 (fun q => absurd q (by decide)) (fun _ => ?_)
  refine aw_iload_n rfl rfl d_F_at_20 ?_
  refine aw_if_ltI (tgt := 34) (0) (by decide +kernel) (by decide) d_F_at_21 (fun q => absurd q (by decide)) (fun _ => ?_)
  refine aw_iload_n rfl rfl d_F_at_24 ?_
  refine aw_bipush (v := nI 9) cb_9 d_F_at_25 ?_
  refine aw_icmp_geI (tgt := 34) (0) (9) (by decide +kernel) (by decide +kernel) (by decide) d_F_at_27 (fun q => absurd q (by decide)) (fun _ => ?_)
  refine aw_iconst (v := nI 1) ci_1 d_F_at_30 ?_
  refine aw_goto (tgt := 35) (by decide) d_F_at_31 ?_
  refine aw_istore_n (lv2 := [.int (nI 0), .int (nI 1), .int (nI 0), .int (nI 1)]) rfl (by decide) rfl d_F_at_35 ?_
  refine aw_iload_n rfl rfl d_F_at_36 ?_
  refine aw_if_eqI (tgt := 53) (1) (by decide +kernel) (by decide) d_F_at_37 (fun q => absurd q (by decide)) (fun _ => ?_)
  refine aw_iload_n rfl rfl d_F_at_40 ?_
  refine aw_iconst (v := nI 3) ci_3 d_F_at_41 ?_
  refine aw_imul d_F_at_42 ?_
  refine aw_top (x2 := nI 0) (by decide +kernel) ?_
  refine aw_iload_n rfl rfl d_F_at_43 ?_
  refine aw_iadd d_F_at_44 ?_
  refine aw_top (x2 := nI 1) (by decide +kernel) ?_
  refine aw_bipush (v := nI 9) cb_9 d_F_at_45 ?_
  refine aw_imul d_F_at_47 ?_
  refine aw_top (x2 := nI 9) (by decide +kernel) ?_
  refine aw_iload_n rfl rfl d_F_at_48 ?_
  refine aw_iadd d_F_at_49 ?_
  refine aw_top (x2 := nI 9) (by decide +kernel) ?_
  refine aw_goto (tgt := 54) (by decide) d_F_at_50 ?_
  refine as_reti rfl d_F_at_54 ?_
  refine (show As l b 6 y_F_fillMost KC RC K2 (upd2 I 158 (0) (nI 0)) 61 [.ref 154, .ref 1, .int (lg), .int (nI 4), .int (nI 0), uu, uu] [.int (nI 9), .ref 158] from ?_)
  refine aw_iconst (v := (-1 : Int32)) rfl d_F_fillMost_61 ?_
  refine aw_iast (j := 9) kc_158 (vp_in_nI (by decide) (by decide)) (nI_clamp (by decide)) d_F_fillMost_62 ?_
  refine aw_aload_n rfl rfl d_F_fillMost_63 ?_
  refine aw_getr fl_F_21 kc_154 (by decide) rfl rc_154_4 d_F_fillMost_64 ?_
  refine aw_aload_n rfl rfl d_F_fillMost_67 ?_
  refine aw_geti fl_F_46 kc_154 (by decide) rfl d_F_fillMost_68 ?_
  refine aw_top (x2 := nI 0) (Eq.trans (congrFun (upd2_ne (by decide)) (3)) (Eq.trans (congrFun (upd2_ne (by decide)) (3)) (fs))) ?_
  refine aw_iconst (v := nI 2) ci_2 d_F_fillMost_71 ?_
  refine aw_iload rfl d_F_fillMost_72 ?_
  refine as_callS (as := [.int (nI 0), .int (nI 2), .int (nI 0)]) (d' := 5) mo_F_at lk_F_50 rfl ⟨by decide, by decide⟩ rfl rfl (by decide) d_F_fillMost_74 (Ss.of (show As l b 5 y_F_at KC RC _ (upd2 (upd2 I 158 (0) (nI 0)) 158 (9) ((-1 : Int32))) 0 [.int (nI 0), .int (nI 2), .int (nI 0), uu] [] from ?_))
  refine aw_iload_n rfl rfl d_F_at_0 ?_
  refine aw_if_ltI (tgt := 34) (0) (by decide +kernel) (by decide) d_F_at_1 (fun q => absurd q (by decide)) (fun _ => ?_)
  refine aw_iload_n rfl rfl d_F_at_4 ?_
  refine aw_sipush (v := nI 144) cs_144 d_F_at_5 ?_
  refine aw_icmp_gtI (tgt := 34) (0) (144) (by decide +kernel) (by decide +kernel) (by decide) d_F_at_8 (fun q => absurd q (by decide)) (fun _ => ?_)
  refine aw_iload_n rfl rfl d_F_at_11 ?_
  refine aw_if_ltI (tgt := 34) (2) (by decide +kernel) (by decide) d_F_at_12 (fun q => absurd q (by decide)) (fun _ => ?_)
  refine aw_iload_n rfl rfl d_F_at_15 ?_
  refine aw_iconst (v := nI 3) ci_3 d_F_at_16 ?_
  refine aw_icmp_geI (tgt := 34) (2) (3) (by decide +kernel) (by decide +kernel) (by decide) d_F_at_17 (fun q => absurd q (by decide)) (fun _ => ?_)
  refine aw_iload_n rfl rfl d_F_at_20 ?_
  refine aw_if_ltI (tgt := 34) (0) (by decide +kernel) (by decide) d_F_at_21 (fun q => absurd q (by decide)) (fun _ => ?_)
  refine aw_iload_n rfl rfl d_F_at_24 ?_
  refine aw_bipush (v := nI 9) cb_9 d_F_at_25 ?_
  refine aw_icmp_geI (tgt := 34) (0) (9) (by decide +kernel) (by decide +kernel) (by decide) d_F_at_27 (fun q => absurd q (by decide)) (fun _ => ?_)
  refine aw_iconst (v := nI 1) ci_1 d_F_at_30 ?_
  refine aw_goto (tgt := 35) (by decide) d_F_at_31 ?_
  refine aw_istore_n (lv2 := [.int (nI 0), .int (nI 2), .int (nI 0), .int (nI 1)]) rfl (by decide) rfl d_F_at_35 ?_
  refine aw_iload_n rfl rfl d_F_at_36 ?_
  refine aw_if_eqI (tgt := 53) (1) (by decide +kernel) (by decide) d_F_at_37 (fun q => absurd q (by decide)) (fun _ => ?_)
  refine aw_iload_n rfl rfl d_F_at_40 ?_
  refine aw_iconst (v := nI 3) ci_3 d_F_at_41 ?_
  refine aw_imul d_F_at_42 ?_
  refine aw_top (x2 := nI 0) (by decide +kernel) ?_
  refine aw_iload_n rfl rfl d_F_at_43 ?_
  refine aw_iadd d_F_at_44 ?_
  refine aw_top (x2 := nI 2) (by decide +kernel) ?_
  refine aw_bipush (v := nI 9) cb_9 d_F_at_45 ?_
  refine aw_imul d_F_at_47 ?_
  refine aw_top (x2 := nI 18) (by decide +kernel) ?_
  refine aw_iload_n rfl rfl d_F_at_48 ?_
  refine aw_iadd d_F_at_49 ?_
  refine aw_top (x2 := nI 18) (by decide +kernel) ?_
  refine aw_goto (tgt := 54) (by decide) d_F_at_50 ?_
  refine as_reti rfl d_F_at_54 ?_
  refine (show As l b 6 y_F_fillMost KC RC K2 (upd2 (upd2 I 158 (0) (nI 0)) 158 (9) ((-1 : Int32))) 77 [.ref 154, .ref 1, .int (lg), .int (nI 4), .int (nI 0), uu, uu] [.int (nI 18), .ref 158] from ?_)
  refine aw_iconst (v := nI 0) ci_0 d_F_fillMost_77 ?_
  refine aw_iast (j := 18) kc_158 (vp_in_nI (by decide) (by decide)) (nI_clamp (by decide)) d_F_fillMost_78 ?_
  refine aw_iinc (v := nI 1) (lv2 := [.ref 154, .ref 1, .int (lg), .int (nI 4), .int (nI 1), uu, uu]) rfl (by decide +kernel) (by decide) rfl d_F_fillMost_79 ?_
  refine aw_goto (tgt := 24) (by decide) d_F_fillMost_82 ?_
  refine aw_iload rfl d_F_fillMost_24 ?_
  refine aw_bipush (v := nI 9) cb_9 d_F_fillMost_26 ?_
  refine aw_icmp_geI (tgt := 85) (1) (9) (by decide +kernel) (by decide +kernel) (by decide) d_F_fillMost_28 (fun q => absurd q (by decide)) (fun _ => ?_)
  refine aw_aload_n rfl rfl d_F_fillMost_31 ?_
  refine aw_getr fl_F_21 kc_154 (by decide) rfl rc_154_4 d_F_fillMost_32 ?_
  refine aw_aload_n rfl rfl d_F_fillMost_35 ?_
  refine aw_geti fl_F_46 kc_154 (by decide) rfl d_F_fillMost_36 ?_
  refine aw_top (x2 := nI 0) (Eq.trans (congrFun (upd2_ne (by decide)) (3)) (Eq.trans (congrFun (upd2_ne (by decide)) (3)) (Eq.trans (congrFun (upd2_ne (by decide)) (3)) (fs)))) ?_
  refine aw_iconst (v := nI 0) ci_0 d_F_fillMost_39 ?_
  refine aw_iload rfl d_F_fillMost_40 ?_
  refine as_callS (as := [.int (nI 0), .int (nI 0), .int (nI 1)]) (d' := 5) mo_F_at lk_F_50 rfl ⟨by decide, by decide⟩ rfl rfl (by decide) d_F_fillMost_42 (Ss.of (show As l b 5 y_F_at KC RC _ (upd2 (upd2 (upd2 I 158 (0) (nI 0)) 158 (9) ((-1 : Int32))) 158 (18) (nI 0)) 0 [.int (nI 0), .int (nI 0), .int (nI 1), uu] [] from ?_))
  refine aw_iload_n rfl rfl d_F_at_0 ?_
  refine aw_if_ltI (tgt := 34) (0) (by decide +kernel) (by decide) d_F_at_1 (fun q => absurd q (by decide)) (fun _ => ?_)
  refine aw_iload_n rfl rfl d_F_at_4 ?_
  refine aw_sipush (v := nI 144) cs_144 d_F_at_5 ?_
  refine aw_icmp_gtI (tgt := 34) (0) (144) (by decide +kernel) (by decide +kernel) (by decide) d_F_at_8 (fun q => absurd q (by decide)) (fun _ => ?_)
  refine aw_iload_n rfl rfl d_F_at_11 ?_
  refine aw_if_ltI (tgt := 34) (0) (by decide +kernel) (by decide) d_F_at_12 (fun q => absurd q (by decide)) (fun _ => ?_)
  refine aw_iload_n rfl rfl d_F_at_15 ?_
  refine aw_iconst (v := nI 3) ci_3 d_F_at_16 ?_
  refine aw_icmp_geI (tgt := 34) (0) (3) (by decide +kernel) (by decide +kernel) (by decide) d_F_at_17 (fun q => absurd q (by decide)) (fun _ => ?_)
  refine aw_iload_n rfl rfl d_F_at_20 ?_
  refine aw_if_ltI (tgt := 34) (1) (by decide +kernel) (by decide) d_F_at_21 (fun q => absurd q (by decide)) (fun _ => ?_)
  refine aw_iload_n rfl rfl d_F_at_24 ?_
  refine aw_bipush (v := nI 9) cb_9 d_F_at_25 ?_
  refine aw_icmp_geI (tgt := 34) (1) (9) (by decide +kernel) (by decide +kernel) (by decide) d_F_at_27 (fun q => absurd q (by decide)) (fun _ => ?_)
  refine aw_iconst (v := nI 1) ci_1 d_F_at_30 ?_
  refine aw_goto (tgt := 35) (by decide) d_F_at_31 ?_
  refine aw_istore_n (lv2 := [.int (nI 0), .int (nI 0), .int (nI 1), .int (nI 1)]) rfl (by decide) rfl d_F_at_35 ?_
  refine aw_iload_n rfl rfl d_F_at_36 ?_
  refine aw_if_eqI (tgt := 53) (1) (by decide +kernel) (by decide) d_F_at_37 (fun q => absurd q (by decide)) (fun _ => ?_)
  refine aw_iload_n rfl rfl d_F_at_40 ?_
  refine aw_iconst (v := nI 3) ci_3 d_F_at_41 ?_
  refine aw_imul d_F_at_42 ?_
  refine aw_top (x2 := nI 0) (by decide +kernel) ?_
  refine aw_iload_n rfl rfl d_F_at_43 ?_
  refine aw_iadd d_F_at_44 ?_
  refine aw_top (x2 := nI 0) (by decide +kernel) ?_
  refine aw_bipush (v := nI 9) cb_9 d_F_at_45 ?_
  refine aw_imul d_F_at_47 ?_
  refine aw_top (x2 := nI 0) (by decide +kernel) ?_
  refine aw_iload_n rfl rfl d_F_at_48 ?_
  refine aw_iadd d_F_at_49 ?_
  refine aw_top (x2 := nI 1) (by decide +kernel) ?_
  refine aw_goto (tgt := 54) (by decide) d_F_at_50 ?_
  refine as_reti rfl d_F_at_54 ?_
  refine (show As l b 6 y_F_fillMost KC RC K2 (upd2 (upd2 (upd2 I 158 (0) (nI 0)) 158 (9) ((-1 : Int32))) 158 (18) (nI 0)) 45 [.ref 154, .ref 1, .int (lg), .int (nI 4), .int (nI 1), uu, uu] [.int (nI 1), .ref 158] from ?_)
  refine aw_iconst (v := nI 0) ci_0 d_F_fillMost_45 ?_
  refine aw_iast (j := 1) kc_158 (vp_in_nI (by decide) (by decide)) (nI_clamp (by decide)) d_F_fillMost_46 ?_
  refine aw_aload_n rfl rfl d_F_fillMost_47 ?_
  refine aw_getr fl_F_21 kc_154 (by decide) rfl rc_154_4 d_F_fillMost_48 ?_
  refine aw_aload_n rfl rfl d_F_fillMost_51 ?_
  refine aw_geti fl_F_46 kc_154 (by decide) rfl d_F_fillMost_52 ?_
  refine aw_top (x2 := nI 0) (Eq.trans (congrFun (upd2_ne (by decide)) (3)) (Eq.trans (congrFun (upd2_ne (by decide)) (3)) (Eq.trans (congrFun (upd2_ne (by decide)) (3)) (Eq.trans (congrFun (upd2_ne (by decide)) (3)) (fs))))) ?_
  refine aw_iconst (v := nI 1) ci_1 d_F_fillMost_55 ?_
  refine aw_iload rfl d_F_fillMost_56 ?_
  refine as_callS (as := [.int (nI 0), .int (nI 1), .int (nI 1)]) (d' := 5) mo_F_at lk_F_50 rfl ⟨by decide, by decide⟩ rfl rfl (by decide) d_F_fillMost_58 (Ss.of (show As l b 5 y_F_at KC RC _ (upd2 (upd2 (upd2 (upd2 I 158 (0) (nI 0)) 158 (9) ((-1 : Int32))) 158 (18) (nI 0)) 158 (1) (nI 0)) 0 [.int (nI 0), .int (nI 1), .int (nI 1), uu] [] from ?_))
  refine aw_iload_n rfl rfl d_F_at_0 ?_
  refine aw_if_ltI (tgt := 34) (0) (by decide +kernel) (by decide) d_F_at_1 (fun q => absurd q (by decide)) (fun _ => ?_)
  refine aw_iload_n rfl rfl d_F_at_4 ?_
  refine aw_sipush (v := nI 144) cs_144 d_F_at_5 ?_
  refine aw_icmp_gtI (tgt := 34) (0) (144) (by decide +kernel) (by decide +kernel) (by decide) d_F_at_8 (fun q => absurd q (by decide)) (fun _ => ?_)
  refine aw_iload_n rfl rfl d_F_at_11 ?_
  refine aw_if_ltI (tgt := 34) (1) (by decide +kernel) (by decide) d_F_at_12 (fun q => absurd q (by decide)) (fun _ => ?_)
  refine aw_iload_n rfl rfl d_F_at_15 ?_
  refine aw_iconst (v := nI 3) ci_3 d_F_at_16 ?_
  refine aw_icmp_geI (tgt := 34) (1) (3) (by decide +kernel) (by decide +kernel) (by decide) d_F_at_17 (fun q => absurd q (by decide)) (fun _ => ?_)
  refine aw_iload_n rfl rfl d_F_at_20 ?_
  refine aw_if_ltI (tgt := 34) (1) (by decide +kernel) (by decide) d_F_at_21 (fun q => absurd q (by decide)) (fun _ => ?_)
  refine aw_iload_n rfl rfl d_F_at_24 ?_
  refine aw_bipush (v := nI 9) cb_9 d_F_at_25 ?_
  refine aw_icmp_geI (tgt := 34) (1) (9) (by decide +kernel) (by decide +kernel) (by decide) d_F_at_27 (fun q => absurd q (by decide)) (fun _ => ?_)
  refine aw_iconst (v := nI 1) ci_1 d_F_at_30 ?_
  refine aw_goto (tgt := 35) (by decide) d_F_at_31 ?_
  refine aw_istore_n (lv2 := [.int (nI 0), .int (nI 1), .int (nI 1), .int (nI 1)]) rfl (by decide) rfl d_F_at_35 ?_
  refine aw_iload_n rfl rfl d_F_at_36 ?_
  refine aw_if_eqI (tgt := 53) (1) (by decide +kernel) (by decide) d_F_at_37 (fun q => absurd q (by decide)) (fun _ => ?_)
  refine aw_iload_n rfl rfl d_F_at_40 ?_
  refine aw_iconst (v := nI 3) ci_3 d_F_at_41 ?_
  refine aw_imul d_F_at_42 ?_
  refine aw_top (x2 := nI 0) (by decide +kernel) ?_
  refine aw_iload_n rfl rfl d_F_at_43 ?_
  refine aw_iadd d_F_at_44 ?_
  refine aw_top (x2 := nI 1) (by decide +kernel) ?_
  refine aw_bipush (v := nI 9) cb_9 d_F_at_45 ?_
  refine aw_imul d_F_at_47 ?_
  refine aw_top (x2 := nI 9) (by decide +kernel) ?_
  refine aw_iload_n rfl rfl d_F_at_48 ?_
  refine aw_iadd d_F_at_49 ?_
  refine aw_top (x2 := nI 10) (by decide +kernel) ?_
  refine aw_goto (tgt := 54) (by decide) d_F_at_50 ?_
  refine as_reti rfl d_F_at_54 ?_
  refine (show As l b 6 y_F_fillMost KC RC K2 (upd2 (upd2 (upd2 (upd2 I 158 (0) (nI 0)) 158 (9) ((-1 : Int32))) 158 (18) (nI 0)) 158 (1) (nI 0)) 61 [.ref 154, .ref 1, .int (lg), .int (nI 4), .int (nI 1), uu, uu] [.int (nI 10), .ref 158] from ?_)
  refine aw_iconst (v := (-1 : Int32)) rfl d_F_fillMost_61 ?_
  refine aw_iast (j := 10) kc_158 (vp_in_nI (by decide) (by decide)) (nI_clamp (by decide)) d_F_fillMost_62 ?_
  refine aw_aload_n rfl rfl d_F_fillMost_63 ?_
  refine aw_getr fl_F_21 kc_154 (by decide) rfl rc_154_4 d_F_fillMost_64 ?_
  refine aw_aload_n rfl rfl d_F_fillMost_67 ?_
  refine aw_geti fl_F_46 kc_154 (by decide) rfl d_F_fillMost_68 ?_
  refine aw_top (x2 := nI 0) (Eq.trans (congrFun (upd2_ne (by decide)) (3)) (Eq.trans (congrFun (upd2_ne (by decide)) (3)) (Eq.trans (congrFun (upd2_ne (by decide)) (3)) (Eq.trans (congrFun (upd2_ne (by decide)) (3)) (Eq.trans (congrFun (upd2_ne (by decide)) (3)) (fs)))))) ?_
  refine aw_iconst (v := nI 2) ci_2 d_F_fillMost_71 ?_
  refine aw_iload rfl d_F_fillMost_72 ?_
  refine as_callS (as := [.int (nI 0), .int (nI 2), .int (nI 1)]) (d' := 5) mo_F_at lk_F_50 rfl ⟨by decide, by decide⟩ rfl rfl (by decide) d_F_fillMost_74 (Ss.of (show As l b 5 y_F_at KC RC _ (upd2 (upd2 (upd2 (upd2 (upd2 I 158 (0) (nI 0)) 158 (9) ((-1 : Int32))) 158 (18) (nI 0)) 158 (1) (nI 0)) 158 (10) ((-1 : Int32))) 0 [.int (nI 0), .int (nI 2), .int (nI 1), uu] [] from ?_))
  refine aw_iload_n rfl rfl d_F_at_0 ?_
  refine aw_if_ltI (tgt := 34) (0) (by decide +kernel) (by decide) d_F_at_1 (fun q => absurd q (by decide)) (fun _ => ?_)
  refine aw_iload_n rfl rfl d_F_at_4 ?_
  refine aw_sipush (v := nI 144) cs_144 d_F_at_5 ?_
  refine aw_icmp_gtI (tgt := 34) (0) (144) (by decide +kernel) (by decide +kernel) (by decide) d_F_at_8 (fun q => absurd q (by decide)) (fun _ => ?_)
  refine aw_iload_n rfl rfl d_F_at_11 ?_
  refine aw_if_ltI (tgt := 34) (2) (by decide +kernel) (by decide) d_F_at_12 (fun q => absurd q (by decide)) (fun _ => ?_)
  refine aw_iload_n rfl rfl d_F_at_15 ?_
  refine aw_iconst (v := nI 3) ci_3 d_F_at_16 ?_
  refine aw_icmp_geI (tgt := 34) (2) (3) (by decide +kernel) (by decide +kernel) (by decide) d_F_at_17 (fun q => absurd q (by decide)) (fun _ => ?_)
  refine aw_iload_n rfl rfl d_F_at_20 ?_
  refine aw_if_ltI (tgt := 34) (1) (by decide +kernel) (by decide) d_F_at_21 (fun q => absurd q (by decide)) (fun _ => ?_)
  refine aw_iload_n rfl rfl d_F_at_24 ?_
  refine aw_bipush (v := nI 9) cb_9 d_F_at_25 ?_
  refine aw_icmp_geI (tgt := 34) (1) (9) (by decide +kernel) (by decide +kernel) (by decide) d_F_at_27 (fun q => absurd q (by decide)) (fun _ => ?_)
  refine aw_iconst (v := nI 1) ci_1 d_F_at_30 ?_
  refine aw_goto (tgt := 35) (by decide) d_F_at_31 ?_
  refine aw_istore_n (lv2 := [.int (nI 0), .int (nI 2), .int (nI 1), .int (nI 1)]) rfl (by decide) rfl d_F_at_35 ?_
  refine aw_iload_n rfl rfl d_F_at_36 ?_
  refine aw_if_eqI (tgt := 53) (1) (by decide +kernel) (by decide) d_F_at_37 (fun q => absurd q (by decide)) (fun _ => ?_)
  refine aw_iload_n rfl rfl d_F_at_40 ?_
  refine aw_iconst (v := nI 3) ci_3 d_F_at_41 ?_
  refine aw_imul d_F_at_42 ?_
  refine aw_top (x2 := nI 0) (by decide +kernel) ?_
  refine aw_iload_n rfl rfl d_F_at_43 ?_
  refine aw_iadd d_F_at_44 ?_
  refine aw_top (x2 := nI 2) (by decide +kernel) ?_
  refine aw_bipush (v := nI 9) cb_9 d_F_at_45 ?_
  refine aw_imul d_F_at_47 ?_
  refine aw_top (x2 := nI 18) (by decide +kernel) ?_
  refine aw_iload_n rfl rfl d_F_at_48 ?_
  refine aw_iadd d_F_at_49 ?_
  refine aw_top (x2 := nI 19) (by decide +kernel) ?_
  refine aw_goto (tgt := 54) (by decide) d_F_at_50 ?_
  refine as_reti rfl d_F_at_54 ?_
  refine (show As l b 6 y_F_fillMost KC RC K2 (upd2 (upd2 (upd2 (upd2 (upd2 I 158 (0) (nI 0)) 158 (9) ((-1 : Int32))) 158 (18) (nI 0)) 158 (1) (nI 0)) 158 (10) ((-1 : Int32))) 77 [.ref 154, .ref 1, .int (lg), .int (nI 4), .int (nI 1), uu, uu] [.int (nI 19), .ref 158] from ?_)
  refine aw_iconst (v := nI 0) ci_0 d_F_fillMost_77 ?_
  refine aw_iast (j := 19) kc_158 (vp_in_nI (by decide) (by decide)) (nI_clamp (by decide)) d_F_fillMost_78 ?_
  refine aw_iinc (v := nI 2) (lv2 := [.ref 154, .ref 1, .int (lg), .int (nI 4), .int (nI 2), uu, uu]) rfl (by decide +kernel) (by decide) rfl d_F_fillMost_79 ?_
  refine aw_goto (tgt := 24) (by decide) d_F_fillMost_82 ?_
  refine aw_iload rfl d_F_fillMost_24 ?_
  refine aw_bipush (v := nI 9) cb_9 d_F_fillMost_26 ?_
  refine aw_icmp_geI (tgt := 85) (2) (9) (by decide +kernel) (by decide +kernel) (by decide) d_F_fillMost_28 (fun q => absurd q (by decide)) (fun _ => ?_)
  refine aw_aload_n rfl rfl d_F_fillMost_31 ?_
  refine aw_getr fl_F_21 kc_154 (by decide) rfl rc_154_4 d_F_fillMost_32 ?_
  refine aw_aload_n rfl rfl d_F_fillMost_35 ?_
  refine aw_geti fl_F_46 kc_154 (by decide) rfl d_F_fillMost_36 ?_
  refine aw_top (x2 := nI 0) (Eq.trans (congrFun (upd2_ne (by decide)) (3)) (Eq.trans (congrFun (upd2_ne (by decide)) (3)) (Eq.trans (congrFun (upd2_ne (by decide)) (3)) (Eq.trans (congrFun (upd2_ne (by decide)) (3)) (Eq.trans (congrFun (upd2_ne (by decide)) (3)) (Eq.trans (congrFun (upd2_ne (by decide)) (3)) (fs))))))) ?_
  refine aw_iconst (v := nI 0) ci_0 d_F_fillMost_39 ?_
  refine aw_iload rfl d_F_fillMost_40 ?_
  refine as_callS (as := [.int (nI 0), .int (nI 0), .int (nI 2)]) (d' := 5) mo_F_at lk_F_50 rfl ⟨by decide, by decide⟩ rfl rfl (by decide) d_F_fillMost_42 (Ss.of (show As l b 5 y_F_at KC RC _ (upd2 (upd2 (upd2 (upd2 (upd2 (upd2 I 158 (0) (nI 0)) 158 (9) ((-1 : Int32))) 158 (18) (nI 0)) 158 (1) (nI 0)) 158 (10) ((-1 : Int32))) 158 (19) (nI 0)) 0 [.int (nI 0), .int (nI 0), .int (nI 2), uu] [] from ?_))
  refine aw_iload_n rfl rfl d_F_at_0 ?_
  refine aw_if_ltI (tgt := 34) (0) (by decide +kernel) (by decide) d_F_at_1 (fun q => absurd q (by decide)) (fun _ => ?_)
  refine aw_iload_n rfl rfl d_F_at_4 ?_
  refine aw_sipush (v := nI 144) cs_144 d_F_at_5 ?_
  refine aw_icmp_gtI (tgt := 34) (0) (144) (by decide +kernel) (by decide +kernel) (by decide) d_F_at_8 (fun q => absurd q (by decide)) (fun _ => ?_)
  refine aw_iload_n rfl rfl d_F_at_11 ?_
  refine aw_if_ltI (tgt := 34) (0) (by decide +kernel) (by decide) d_F_at_12 (fun q => absurd q (by decide)) (fun _ => ?_)
  refine aw_iload_n rfl rfl d_F_at_15 ?_
  refine aw_iconst (v := nI 3) ci_3 d_F_at_16 ?_
  refine aw_icmp_geI (tgt := 34) (0) (3) (by decide +kernel) (by decide +kernel) (by decide) d_F_at_17 (fun q => absurd q (by decide)) (fun _ => ?_)
  refine aw_iload_n rfl rfl d_F_at_20 ?_
  refine aw_if_ltI (tgt := 34) (2) (by decide +kernel) (by decide) d_F_at_21 (fun q => absurd q (by decide)) (fun _ => ?_)
  refine aw_iload_n rfl rfl d_F_at_24 ?_
  refine aw_bipush (v := nI 9) cb_9 d_F_at_25 ?_
  refine aw_icmp_geI (tgt := 34) (2) (9) (by decide +kernel) (by decide +kernel) (by decide) d_F_at_27 (fun q => absurd q (by decide)) (fun _ => ?_)
  refine aw_iconst (v := nI 1) ci_1 d_F_at_30 ?_
  refine aw_goto (tgt := 35) (by decide) d_F_at_31 ?_
  refine aw_istore_n (lv2 := [.int (nI 0), .int (nI 0), .int (nI 2), .int (nI 1)]) rfl (by decide) rfl d_F_at_35 ?_
  refine aw_iload_n rfl rfl d_F_at_36 ?_
  refine aw_if_eqI (tgt := 53) (1) (by decide +kernel) (by decide) d_F_at_37 (fun q => absurd q (by decide)) (fun _ => ?_)
  refine aw_iload_n rfl rfl d_F_at_40 ?_
  refine aw_iconst (v := nI 3) ci_3 d_F_at_41 ?_
  refine aw_imul d_F_at_42 ?_
  refine aw_top (x2 := nI 0) (by decide +kernel) ?_
  refine aw_iload_n rfl rfl d_F_at_43 ?_
  refine aw_iadd d_F_at_44 ?_
  refine aw_top (x2 := nI 0) (by decide +kernel) ?_
  refine aw_bipush (v := nI 9) cb_9 d_F_at_45 ?_
  refine aw_imul d_F_at_47 ?_
  refine aw_top (x2 := nI 0) (by decide +kernel) ?_
  refine aw_iload_n rfl rfl d_F_at_48 ?_
  refine aw_iadd d_F_at_49 ?_
  refine aw_top (x2 := nI 2) (by decide +kernel) ?_
  refine aw_goto (tgt := 54) (by decide) d_F_at_50 ?_
  refine as_reti rfl d_F_at_54 ?_
  refine (show As l b 6 y_F_fillMost KC RC K2 (upd2 (upd2 (upd2 (upd2 (upd2 (upd2 I 158 (0) (nI 0)) 158 (9) ((-1 : Int32))) 158 (18) (nI 0)) 158 (1) (nI 0)) 158 (10) ((-1 : Int32))) 158 (19) (nI 0)) 45 [.ref 154, .ref 1, .int (lg), .int (nI 4), .int (nI 2), uu, uu] [.int (nI 2), .ref 158] from ?_)
  refine aw_iconst (v := nI 0) ci_0 d_F_fillMost_45 ?_
  refine aw_iast (j := 2) kc_158 (vp_in_nI (by decide) (by decide)) (nI_clamp (by decide)) d_F_fillMost_46 ?_
  refine aw_aload_n rfl rfl d_F_fillMost_47 ?_
  refine aw_getr fl_F_21 kc_154 (by decide) rfl rc_154_4 d_F_fillMost_48 ?_
  refine aw_aload_n rfl rfl d_F_fillMost_51 ?_
  refine aw_geti fl_F_46 kc_154 (by decide) rfl d_F_fillMost_52 ?_
  refine aw_top (x2 := nI 0) (Eq.trans (congrFun (upd2_ne (by decide)) (3)) (Eq.trans (congrFun (upd2_ne (by decide)) (3)) (Eq.trans (congrFun (upd2_ne (by decide)) (3)) (Eq.trans (congrFun (upd2_ne (by decide)) (3)) (Eq.trans (congrFun (upd2_ne (by decide)) (3)) (Eq.trans (congrFun (upd2_ne (by decide)) (3)) (Eq.trans (congrFun (upd2_ne (by decide)) (3)) (fs)))))))) ?_
  refine aw_iconst (v := nI 1) ci_1 d_F_fillMost_55 ?_
  refine aw_iload rfl d_F_fillMost_56 ?_
  refine as_callS (as := [.int (nI 0), .int (nI 1), .int (nI 2)]) (d' := 5) mo_F_at lk_F_50 rfl ⟨by decide, by decide⟩ rfl rfl (by decide) d_F_fillMost_58 (Ss.of (show As l b 5 y_F_at KC RC _ (upd2 (upd2 (upd2 (upd2 (upd2 (upd2 (upd2 I 158 (0) (nI 0)) 158 (9) ((-1 : Int32))) 158 (18) (nI 0)) 158 (1) (nI 0)) 158 (10) ((-1 : Int32))) 158 (19) (nI 0)) 158 (2) (nI 0)) 0 [.int (nI 0), .int (nI 1), .int (nI 2), uu] [] from ?_))
  refine aw_iload_n rfl rfl d_F_at_0 ?_
  refine aw_if_ltI (tgt := 34) (0) (by decide +kernel) (by decide) d_F_at_1 (fun q => absurd q (by decide)) (fun _ => ?_)
  refine aw_iload_n rfl rfl d_F_at_4 ?_
  refine aw_sipush (v := nI 144) cs_144 d_F_at_5 ?_
  refine aw_icmp_gtI (tgt := 34) (0) (144) (by decide +kernel) (by decide +kernel) (by decide) d_F_at_8 (fun q => absurd q (by decide)) (fun _ => ?_)
  refine aw_iload_n rfl rfl d_F_at_11 ?_
  refine aw_if_ltI (tgt := 34) (1) (by decide +kernel) (by decide) d_F_at_12 (fun q => absurd q (by decide)) (fun _ => ?_)
  refine aw_iload_n rfl rfl d_F_at_15 ?_
  refine aw_iconst (v := nI 3) ci_3 d_F_at_16 ?_
  refine aw_icmp_geI (tgt := 34) (1) (3) (by decide +kernel) (by decide +kernel) (by decide) d_F_at_17 (fun q => absurd q (by decide)) (fun _ => ?_)
  refine aw_iload_n rfl rfl d_F_at_20 ?_
  refine aw_if_ltI (tgt := 34) (2) (by decide +kernel) (by decide) d_F_at_21 (fun q => absurd q (by decide)) (fun _ => ?_)
  refine aw_iload_n rfl rfl d_F_at_24 ?_
  refine aw_bipush (v := nI 9) cb_9 d_F_at_25 ?_
  refine aw_icmp_geI (tgt := 34) (2) (9) (by decide +kernel) (by decide +kernel) (by decide) d_F_at_27 (fun q => absurd q (by decide)) (fun _ => ?_)
  refine aw_iconst (v := nI 1) ci_1 d_F_at_30 ?_
  refine aw_goto (tgt := 35) (by decide) d_F_at_31 ?_
  refine aw_istore_n (lv2 := [.int (nI 0), .int (nI 1), .int (nI 2), .int (nI 1)]) rfl (by decide) rfl d_F_at_35 ?_
  refine aw_iload_n rfl rfl d_F_at_36 ?_
  refine aw_if_eqI (tgt := 53) (1) (by decide +kernel) (by decide) d_F_at_37 (fun q => absurd q (by decide)) (fun _ => ?_)
  refine aw_iload_n rfl rfl d_F_at_40 ?_
  refine aw_iconst (v := nI 3) ci_3 d_F_at_41 ?_
  refine aw_imul d_F_at_42 ?_
  refine aw_top (x2 := nI 0) (by decide +kernel) ?_
  refine aw_iload_n rfl rfl d_F_at_43 ?_
  refine aw_iadd d_F_at_44 ?_
  refine aw_top (x2 := nI 1) (by decide +kernel) ?_
  refine aw_bipush (v := nI 9) cb_9 d_F_at_45 ?_
  refine aw_imul d_F_at_47 ?_
  refine aw_top (x2 := nI 9) (by decide +kernel) ?_
  refine aw_iload_n rfl rfl d_F_at_48 ?_
  refine aw_iadd d_F_at_49 ?_
  refine aw_top (x2 := nI 11) (by decide +kernel) ?_
  refine aw_goto (tgt := 54) (by decide) d_F_at_50 ?_
  refine as_reti rfl d_F_at_54 ?_
  refine (show As l b 6 y_F_fillMost KC RC K2 (upd2 (upd2 (upd2 (upd2 (upd2 (upd2 (upd2 I 158 (0) (nI 0)) 158 (9) ((-1 : Int32))) 158 (18) (nI 0)) 158 (1) (nI 0)) 158 (10) ((-1 : Int32))) 158 (19) (nI 0)) 158 (2) (nI 0)) 61 [.ref 154, .ref 1, .int (lg), .int (nI 4), .int (nI 2), uu, uu] [.int (nI 11), .ref 158] from ?_)
  refine aw_iconst (v := (-1 : Int32)) rfl d_F_fillMost_61 ?_
  refine aw_iast (j := 11) kc_158 (vp_in_nI (by decide) (by decide)) (nI_clamp (by decide)) d_F_fillMost_62 ?_
  refine aw_aload_n rfl rfl d_F_fillMost_63 ?_
  refine aw_getr fl_F_21 kc_154 (by decide) rfl rc_154_4 d_F_fillMost_64 ?_
  refine aw_aload_n rfl rfl d_F_fillMost_67 ?_
  refine aw_geti fl_F_46 kc_154 (by decide) rfl d_F_fillMost_68 ?_
  refine aw_top (x2 := nI 0) (Eq.trans (congrFun (upd2_ne (by decide)) (3)) (Eq.trans (congrFun (upd2_ne (by decide)) (3)) (Eq.trans (congrFun (upd2_ne (by decide)) (3)) (Eq.trans (congrFun (upd2_ne (by decide)) (3)) (Eq.trans (congrFun (upd2_ne (by decide)) (3)) (Eq.trans (congrFun (upd2_ne (by decide)) (3)) (Eq.trans (congrFun (upd2_ne (by decide)) (3)) (Eq.trans (congrFun (upd2_ne (by decide)) (3)) (fs))))))))) ?_
  refine aw_iconst (v := nI 2) ci_2 d_F_fillMost_71 ?_
  refine aw_iload rfl d_F_fillMost_72 ?_
  refine as_callS (as := [.int (nI 0), .int (nI 2), .int (nI 2)]) (d' := 5) mo_F_at lk_F_50 rfl ⟨by decide, by decide⟩ rfl rfl (by decide) d_F_fillMost_74 (Ss.of (show As l b 5 y_F_at KC RC _ (upd2 (upd2 (upd2 (upd2 (upd2 (upd2 (upd2 (upd2 I 158 (0) (nI 0)) 158 (9) ((-1 : Int32))) 158 (18) (nI 0)) 158 (1) (nI 0)) 158 (10) ((-1 : Int32))) 158 (19) (nI 0)) 158 (2) (nI 0)) 158 (11) ((-1 : Int32))) 0 [.int (nI 0), .int (nI 2), .int (nI 2), uu] [] from ?_))
  refine aw_iload_n rfl rfl d_F_at_0 ?_
  refine aw_if_ltI (tgt := 34) (0) (by decide +kernel) (by decide) d_F_at_1 (fun q => absurd q (by decide)) (fun _ => ?_)
  refine aw_iload_n rfl rfl d_F_at_4 ?_
  refine aw_sipush (v := nI 144) cs_144 d_F_at_5 ?_
  refine aw_icmp_gtI (tgt := 34) (0) (144) (by decide +kernel) (by decide +kernel) (by decide) d_F_at_8 (fun q => absurd q (by decide)) (fun _ => ?_)
  refine aw_iload_n rfl rfl d_F_at_11 ?_
  refine aw_if_ltI (tgt := 34) (2) (by decide +kernel) (by decide) d_F_at_12 (fun q => absurd q (by decide)) (fun _ => ?_)
  refine aw_iload_n rfl rfl d_F_at_15 ?_
  refine aw_iconst (v := nI 3) ci_3 d_F_at_16 ?_
  refine aw_icmp_geI (tgt := 34) (2) (3) (by decide +kernel) (by decide +kernel) (by decide) d_F_at_17 (fun q => absurd q (by decide)) (fun _ => ?_)
  refine aw_iload_n rfl rfl d_F_at_20 ?_
  refine aw_if_ltI (tgt := 34) (2) (by decide +kernel) (by decide) d_F_at_21 (fun q => absurd q (by decide)) (fun _ => ?_)
  refine aw_iload_n rfl rfl d_F_at_24 ?_
  refine aw_bipush (v := nI 9) cb_9 d_F_at_25 ?_
  refine aw_icmp_geI (tgt := 34) (2) (9) (by decide +kernel) (by decide +kernel) (by decide) d_F_at_27 (fun q => absurd q (by decide)) (fun _ => ?_)
  refine aw_iconst (v := nI 1) ci_1 d_F_at_30 ?_
  refine aw_goto (tgt := 35) (by decide) d_F_at_31 ?_
  refine aw_istore_n (lv2 := [.int (nI 0), .int (nI 2), .int (nI 2), .int (nI 1)]) rfl (by decide) rfl d_F_at_35 ?_
  refine aw_iload_n rfl rfl d_F_at_36 ?_
  refine aw_if_eqI (tgt := 53) (1) (by decide +kernel) (by decide) d_F_at_37 (fun q => absurd q (by decide)) (fun _ => ?_)
  refine aw_iload_n rfl rfl d_F_at_40 ?_
  refine aw_iconst (v := nI 3) ci_3 d_F_at_41 ?_
  refine aw_imul d_F_at_42 ?_
  refine aw_top (x2 := nI 0) (by decide +kernel) ?_
  refine aw_iload_n rfl rfl d_F_at_43 ?_
  refine aw_iadd d_F_at_44 ?_
  refine aw_top (x2 := nI 2) (by decide +kernel) ?_
  refine aw_bipush (v := nI 9) cb_9 d_F_at_45 ?_
  refine aw_imul d_F_at_47 ?_
  refine aw_top (x2 := nI 18) (by decide +kernel) ?_
  refine aw_iload_n rfl rfl d_F_at_48 ?_
  refine aw_iadd d_F_at_49 ?_
  refine aw_top (x2 := nI 20) (by decide +kernel) ?_
  refine aw_goto (tgt := 54) (by decide) d_F_at_50 ?_
  refine as_reti rfl d_F_at_54 ?_
  refine (show As l b 6 y_F_fillMost KC RC K2 (upd2 (upd2 (upd2 (upd2 (upd2 (upd2 (upd2 (upd2 I 158 (0) (nI 0)) 158 (9) ((-1 : Int32))) 158 (18) (nI 0)) 158 (1) (nI 0)) 158 (10) ((-1 : Int32))) 158 (19) (nI 0)) 158 (2) (nI 0)) 158 (11) ((-1 : Int32))) 77 [.ref 154, .ref 1, .int (lg), .int (nI 4), .int (nI 2), uu, uu] [.int (nI 20), .ref 158] from ?_)
  refine aw_iconst (v := nI 0) ci_0 d_F_fillMost_77 ?_
  refine aw_iast (j := 20) kc_158 (vp_in_nI (by decide) (by decide)) (nI_clamp (by decide)) d_F_fillMost_78 ?_
  refine aw_iinc (v := nI 3) (lv2 := [.ref 154, .ref 1, .int (lg), .int (nI 4), .int (nI 3), uu, uu]) rfl (by decide +kernel) (by decide) rfl d_F_fillMost_79 ?_
  refine aw_goto (tgt := 24) (by decide) d_F_fillMost_82 ?_
  refine aw_iload rfl d_F_fillMost_24 ?_
  refine aw_bipush (v := nI 9) cb_9 d_F_fillMost_26 ?_
  refine aw_icmp_geI (tgt := 85) (3) (9) (by decide +kernel) (by decide +kernel) (by decide) d_F_fillMost_28 (fun q => absurd q (by decide)) (fun _ => ?_)
  refine aw_aload_n rfl rfl d_F_fillMost_31 ?_
  refine aw_getr fl_F_21 kc_154 (by decide) rfl rc_154_4 d_F_fillMost_32 ?_
  refine aw_aload_n rfl rfl d_F_fillMost_35 ?_
  refine aw_geti fl_F_46 kc_154 (by decide) rfl d_F_fillMost_36 ?_
  refine aw_top (x2 := nI 0) (Eq.trans (congrFun (upd2_ne (by decide)) (3)) (Eq.trans (congrFun (upd2_ne (by decide)) (3)) (Eq.trans (congrFun (upd2_ne (by decide)) (3)) (Eq.trans (congrFun (upd2_ne (by decide)) (3)) (Eq.trans (congrFun (upd2_ne (by decide)) (3)) (Eq.trans (congrFun (upd2_ne (by decide)) (3)) (Eq.trans (congrFun (upd2_ne (by decide)) (3)) (Eq.trans (congrFun (upd2_ne (by decide)) (3)) (Eq.trans (congrFun (upd2_ne (by decide)) (3)) (fs)))))))))) ?_
  refine aw_iconst (v := nI 0) ci_0 d_F_fillMost_39 ?_
  refine aw_iload rfl d_F_fillMost_40 ?_
  refine as_callS (as := [.int (nI 0), .int (nI 0), .int (nI 3)]) (d' := 5) mo_F_at lk_F_50 rfl ⟨by decide, by decide⟩ rfl rfl (by decide) d_F_fillMost_42 (Ss.of (show As l b 5 y_F_at KC RC _ (upd2 (upd2 (upd2 (upd2 (upd2 (upd2 (upd2 (upd2 (upd2 I 158 (0) (nI 0)) 158 (9) ((-1 : Int32))) 158 (18) (nI 0)) 158 (1) (nI 0)) 158 (10) ((-1 : Int32))) 158 (19) (nI 0)) 158 (2) (nI 0)) 158 (11) ((-1 : Int32))) 158 (20) (nI 0)) 0 [.int (nI 0), .int (nI 0), .int (nI 3), uu] [] from ?_))
  refine aw_iload_n rfl rfl d_F_at_0 ?_
  refine aw_if_ltI (tgt := 34) (0) (by decide +kernel) (by decide) d_F_at_1 (fun q => absurd q (by decide)) (fun _ => ?_)
  refine aw_iload_n rfl rfl d_F_at_4 ?_
  refine aw_sipush (v := nI 144) cs_144 d_F_at_5 ?_
  refine aw_icmp_gtI (tgt := 34) (0) (144) (by decide +kernel) (by decide +kernel) (by decide) d_F_at_8 (fun q => absurd q (by decide)) (fun _ => ?_)
  refine aw_iload_n rfl rfl d_F_at_11 ?_
  refine aw_if_ltI (tgt := 34) (0) (by decide +kernel) (by decide) d_F_at_12 (fun q => absurd q (by decide)) (fun _ => ?_)
  refine aw_iload_n rfl rfl d_F_at_15 ?_
  refine aw_iconst (v := nI 3) ci_3 d_F_at_16 ?_
  refine aw_icmp_geI (tgt := 34) (0) (3) (by decide +kernel) (by decide +kernel) (by decide) d_F_at_17 (fun q => absurd q (by decide)) (fun _ => ?_)
  refine aw_iload_n rfl rfl d_F_at_20 ?_
  refine aw_if_ltI (tgt := 34) (3) (by decide +kernel) (by decide) d_F_at_21 (fun q => absurd q (by decide)) (fun _ => ?_)
  refine aw_iload_n rfl rfl d_F_at_24 ?_
  refine aw_bipush (v := nI 9) cb_9 d_F_at_25 ?_
  refine aw_icmp_geI (tgt := 34) (3) (9) (by decide +kernel) (by decide +kernel) (by decide) d_F_at_27 (fun q => absurd q (by decide)) (fun _ => ?_)
  refine aw_iconst (v := nI 1) ci_1 d_F_at_30 ?_
  refine aw_goto (tgt := 35) (by decide) d_F_at_31 ?_
  refine aw_istore_n (lv2 := [.int (nI 0), .int (nI 0), .int (nI 3), .int (nI 1)]) rfl (by decide) rfl d_F_at_35 ?_
  refine aw_iload_n rfl rfl d_F_at_36 ?_
  refine aw_if_eqI (tgt := 53) (1) (by decide +kernel) (by decide) d_F_at_37 (fun q => absurd q (by decide)) (fun _ => ?_)
  refine aw_iload_n rfl rfl d_F_at_40 ?_
  refine aw_iconst (v := nI 3) ci_3 d_F_at_41 ?_
  refine aw_imul d_F_at_42 ?_
  refine aw_top (x2 := nI 0) (by decide +kernel) ?_
  refine aw_iload_n rfl rfl d_F_at_43 ?_
  refine aw_iadd d_F_at_44 ?_
  refine aw_top (x2 := nI 0) (by decide +kernel) ?_
  refine aw_bipush (v := nI 9) cb_9 d_F_at_45 ?_
  refine aw_imul d_F_at_47 ?_
  refine aw_top (x2 := nI 0) (by decide +kernel) ?_
  refine aw_iload_n rfl rfl d_F_at_48 ?_
  refine aw_iadd d_F_at_49 ?_
  refine aw_top (x2 := nI 3) (by decide +kernel) ?_
  refine aw_goto (tgt := 54) (by decide) d_F_at_50 ?_
  refine as_reti rfl d_F_at_54 ?_
  refine (show As l b 6 y_F_fillMost KC RC K2 (upd2 (upd2 (upd2 (upd2 (upd2 (upd2 (upd2 (upd2 (upd2 I 158 (0) (nI 0)) 158 (9) ((-1 : Int32))) 158 (18) (nI 0)) 158 (1) (nI 0)) 158 (10) ((-1 : Int32))) 158 (19) (nI 0)) 158 (2) (nI 0)) 158 (11) ((-1 : Int32))) 158 (20) (nI 0)) 45 [.ref 154, .ref 1, .int (lg), .int (nI 4), .int (nI 3), uu, uu] [.int (nI 3), .ref 158] from ?_)
  refine aw_iconst (v := nI 0) ci_0 d_F_fillMost_45 ?_
  refine aw_iast (j := 3) kc_158 (vp_in_nI (by decide) (by decide)) (nI_clamp (by decide)) d_F_fillMost_46 ?_
  refine aw_aload_n rfl rfl d_F_fillMost_47 ?_
  refine aw_getr fl_F_21 kc_154 (by decide) rfl rc_154_4 d_F_fillMost_48 ?_
  refine aw_aload_n rfl rfl d_F_fillMost_51 ?_
  refine aw_geti fl_F_46 kc_154 (by decide) rfl d_F_fillMost_52 ?_
  refine aw_top (x2 := nI 0) (Eq.trans (congrFun (upd2_ne (by decide)) (3)) (Eq.trans (congrFun (upd2_ne (by decide)) (3)) (Eq.trans (congrFun (upd2_ne (by decide)) (3)) (Eq.trans (congrFun (upd2_ne (by decide)) (3)) (Eq.trans (congrFun (upd2_ne (by decide)) (3)) (Eq.trans (congrFun (upd2_ne (by decide)) (3)) (Eq.trans (congrFun (upd2_ne (by decide)) (3)) (Eq.trans (congrFun (upd2_ne (by decide)) (3)) (Eq.trans (congrFun (upd2_ne (by decide)) (3)) (Eq.trans (congrFun (upd2_ne (by decide)) (3)) (fs))))))))))) ?_
  refine aw_iconst (v := nI 1) ci_1 d_F_fillMost_55 ?_
  refine aw_iload rfl d_F_fillMost_56 ?_
  refine as_callS (as := [.int (nI 0), .int (nI 1), .int (nI 3)]) (d' := 5) mo_F_at lk_F_50 rfl ⟨by decide, by decide⟩ rfl rfl (by decide) d_F_fillMost_58 (Ss.of (show As l b 5 y_F_at KC RC _ (upd2 (upd2 (upd2 (upd2 (upd2 (upd2 (upd2 (upd2 (upd2 (upd2 I 158 (0) (nI 0)) 158 (9) ((-1 : Int32))) 158 (18) (nI 0)) 158 (1) (nI 0)) 158 (10) ((-1 : Int32))) 158 (19) (nI 0)) 158 (2) (nI 0)) 158 (11) ((-1 : Int32))) 158 (20) (nI 0)) 158 (3) (nI 0)) 0 [.int (nI 0), .int (nI 1), .int (nI 3), uu] [] from ?_))
  refine aw_iload_n rfl rfl d_F_at_0 ?_
  refine aw_if_ltI (tgt := 34) (0) (by decide +kernel) (by decide) d_F_at_1 (fun q => absurd q (by decide)) (fun _ => ?_)
  refine aw_iload_n rfl rfl d_F_at_4 ?_
  refine aw_sipush (v := nI 144) cs_144 d_F_at_5 ?_
  refine aw_icmp_gtI (tgt := 34) (0) (144) (by decide +kernel) (by decide +kernel) (by decide) d_F_at_8 (fun q => absurd q (by decide)) (fun _ => ?_)
  refine aw_iload_n rfl rfl d_F_at_11 ?_
  refine aw_if_ltI (tgt := 34) (1) (by decide +kernel) (by decide) d_F_at_12 (fun q => absurd q (by decide)) (fun _ => ?_)
  refine aw_iload_n rfl rfl d_F_at_15 ?_
  refine aw_iconst (v := nI 3) ci_3 d_F_at_16 ?_
  refine aw_icmp_geI (tgt := 34) (1) (3) (by decide +kernel) (by decide +kernel) (by decide) d_F_at_17 (fun q => absurd q (by decide)) (fun _ => ?_)
  refine aw_iload_n rfl rfl d_F_at_20 ?_
  refine aw_if_ltI (tgt := 34) (3) (by decide +kernel) (by decide) d_F_at_21 (fun q => absurd q (by decide)) (fun _ => ?_)
  refine aw_iload_n rfl rfl d_F_at_24 ?_
  refine aw_bipush (v := nI 9) cb_9 d_F_at_25 ?_
  refine aw_icmp_geI (tgt := 34) (3) (9) (by decide +kernel) (by decide +kernel) (by decide) d_F_at_27 (fun q => absurd q (by decide)) (fun _ => ?_)
  refine aw_iconst (v := nI 1) ci_1 d_F_at_30 ?_
  refine aw_goto (tgt := 35) (by decide) d_F_at_31 ?_
  refine aw_istore_n (lv2 := [.int (nI 0), .int (nI 1), .int (nI 3), .int (nI 1)]) rfl (by decide) rfl d_F_at_35 ?_
  refine aw_iload_n rfl rfl d_F_at_36 ?_
  refine aw_if_eqI (tgt := 53) (1) (by decide +kernel) (by decide) d_F_at_37 (fun q => absurd q (by decide)) (fun _ => ?_)
  refine aw_iload_n rfl rfl d_F_at_40 ?_
  refine aw_iconst (v := nI 3) ci_3 d_F_at_41 ?_
  refine aw_imul d_F_at_42 ?_
  refine aw_top (x2 := nI 0) (by decide +kernel) ?_
  refine aw_iload_n rfl rfl d_F_at_43 ?_
  refine aw_iadd d_F_at_44 ?_
  refine aw_top (x2 := nI 1) (by decide +kernel) ?_
  refine aw_bipush (v := nI 9) cb_9 d_F_at_45 ?_
  refine aw_imul d_F_at_47 ?_
  refine aw_top (x2 := nI 9) (by decide +kernel) ?_
  refine aw_iload_n rfl rfl d_F_at_48 ?_
  refine aw_iadd d_F_at_49 ?_
  refine aw_top (x2 := nI 12) (by decide +kernel) ?_
  refine aw_goto (tgt := 54) (by decide) d_F_at_50 ?_
  refine as_reti rfl d_F_at_54 ?_
  refine (show As l b 6 y_F_fillMost KC RC K2 (upd2 (upd2 (upd2 (upd2 (upd2 (upd2 (upd2 (upd2 (upd2 (upd2 I 158 (0) (nI 0)) 158 (9) ((-1 : Int32))) 158 (18) (nI 0)) 158 (1) (nI 0)) 158 (10) ((-1 : Int32))) 158 (19) (nI 0)) 158 (2) (nI 0)) 158 (11) ((-1 : Int32))) 158 (20) (nI 0)) 158 (3) (nI 0)) 61 [.ref 154, .ref 1, .int (lg), .int (nI 4), .int (nI 3), uu, uu] [.int (nI 12), .ref 158] from ?_)
  refine aw_iconst (v := (-1 : Int32)) rfl d_F_fillMost_61 ?_
  refine aw_iast (j := 12) kc_158 (vp_in_nI (by decide) (by decide)) (nI_clamp (by decide)) d_F_fillMost_62 ?_
  refine aw_aload_n rfl rfl d_F_fillMost_63 ?_
  refine aw_getr fl_F_21 kc_154 (by decide) rfl rc_154_4 d_F_fillMost_64 ?_
  refine aw_aload_n rfl rfl d_F_fillMost_67 ?_
  refine aw_geti fl_F_46 kc_154 (by decide) rfl d_F_fillMost_68 ?_
  refine aw_top (x2 := nI 0) (Eq.trans (congrFun (upd2_ne (by decide)) (3)) (Eq.trans (congrFun (upd2_ne (by decide)) (3)) (Eq.trans (congrFun (upd2_ne (by decide)) (3)) (Eq.trans (congrFun (upd2_ne (by decide)) (3)) (Eq.trans (congrFun (upd2_ne (by decide)) (3)) (Eq.trans (congrFun (upd2_ne (by decide)) (3)) (Eq.trans (congrFun (upd2_ne (by decide)) (3)) (Eq.trans (congrFun (upd2_ne (by decide)) (3)) (Eq.trans (congrFun (upd2_ne (by decide)) (3)) (Eq.trans (congrFun (upd2_ne (by decide)) (3)) (Eq.trans (congrFun (upd2_ne (by decide)) (3)) (fs)))))))))))) ?_
  refine aw_iconst (v := nI 2) ci_2 d_F_fillMost_71 ?_
  refine aw_iload rfl d_F_fillMost_72 ?_
  refine as_callS (as := [.int (nI 0), .int (nI 2), .int (nI 3)]) (d' := 5) mo_F_at lk_F_50 rfl ⟨by decide, by decide⟩ rfl rfl (by decide) d_F_fillMost_74 (Ss.of (show As l b 5 y_F_at KC RC _ (upd2 (upd2 (upd2 (upd2 (upd2 (upd2 (upd2 (upd2 (upd2 (upd2 (upd2 I 158 (0) (nI 0)) 158 (9) ((-1 : Int32))) 158 (18) (nI 0)) 158 (1) (nI 0)) 158 (10) ((-1 : Int32))) 158 (19) (nI 0)) 158 (2) (nI 0)) 158 (11) ((-1 : Int32))) 158 (20) (nI 0)) 158 (3) (nI 0)) 158 (12) ((-1 : Int32))) 0 [.int (nI 0), .int (nI 2), .int (nI 3), uu] [] from ?_))
  refine aw_iload_n rfl rfl d_F_at_0 ?_
  refine aw_if_ltI (tgt := 34) (0) (by decide +kernel) (by decide) d_F_at_1 (fun q => absurd q (by decide)) (fun _ => ?_)
  refine aw_iload_n rfl rfl d_F_at_4 ?_
  refine aw_sipush (v := nI 144) cs_144 d_F_at_5 ?_
  refine aw_icmp_gtI (tgt := 34) (0) (144) (by decide +kernel) (by decide +kernel) (by decide) d_F_at_8 (fun q => absurd q (by decide)) (fun _ => ?_)
  refine aw_iload_n rfl rfl d_F_at_11 ?_
  refine aw_if_ltI (tgt := 34) (2) (by decide +kernel) (by decide) d_F_at_12 (fun q => absurd q (by decide)) (fun _ => ?_)
  refine aw_iload_n rfl rfl d_F_at_15 ?_
  refine aw_iconst (v := nI 3) ci_3 d_F_at_16 ?_
  refine aw_icmp_geI (tgt := 34) (2) (3) (by decide +kernel) (by decide +kernel) (by decide) d_F_at_17 (fun q => absurd q (by decide)) (fun _ => ?_)
  refine aw_iload_n rfl rfl d_F_at_20 ?_
  refine aw_if_ltI (tgt := 34) (3) (by decide +kernel) (by decide) d_F_at_21 (fun q => absurd q (by decide)) (fun _ => ?_)
  refine aw_iload_n rfl rfl d_F_at_24 ?_
  refine aw_bipush (v := nI 9) cb_9 d_F_at_25 ?_
  refine aw_icmp_geI (tgt := 34) (3) (9) (by decide +kernel) (by decide +kernel) (by decide) d_F_at_27 (fun q => absurd q (by decide)) (fun _ => ?_)
  refine aw_iconst (v := nI 1) ci_1 d_F_at_30 ?_
  refine aw_goto (tgt := 35) (by decide) d_F_at_31 ?_
  refine aw_istore_n (lv2 := [.int (nI 0), .int (nI 2), .int (nI 3), .int (nI 1)]) rfl (by decide) rfl d_F_at_35 ?_
  refine aw_iload_n rfl rfl d_F_at_36 ?_
  refine aw_if_eqI (tgt := 53) (1) (by decide +kernel) (by decide) d_F_at_37 (fun q => absurd q (by decide)) (fun _ => ?_)
  refine aw_iload_n rfl rfl d_F_at_40 ?_
  refine aw_iconst (v := nI 3) ci_3 d_F_at_41 ?_
  refine aw_imul d_F_at_42 ?_
  refine aw_top (x2 := nI 0) (by decide +kernel) ?_
  refine aw_iload_n rfl rfl d_F_at_43 ?_
  refine aw_iadd d_F_at_44 ?_
  refine aw_top (x2 := nI 2) (by decide +kernel) ?_
  refine aw_bipush (v := nI 9) cb_9 d_F_at_45 ?_
  refine aw_imul d_F_at_47 ?_
  refine aw_top (x2 := nI 18) (by decide +kernel) ?_
  refine aw_iload_n rfl rfl d_F_at_48 ?_
  refine aw_iadd d_F_at_49 ?_
  refine aw_top (x2 := nI 21) (by decide +kernel) ?_
  refine aw_goto (tgt := 54) (by decide) d_F_at_50 ?_
  refine as_reti rfl d_F_at_54 ?_
  refine (show As l b 6 y_F_fillMost KC RC K2 (upd2 (upd2 (upd2 (upd2 (upd2 (upd2 (upd2 (upd2 (upd2 (upd2 (upd2 I 158 (0) (nI 0)) 158 (9) ((-1 : Int32))) 158 (18) (nI 0)) 158 (1) (nI 0)) 158 (10) ((-1 : Int32))) 158 (19) (nI 0)) 158 (2) (nI 0)) 158 (11) ((-1 : Int32))) 158 (20) (nI 0)) 158 (3) (nI 0)) 158 (12) ((-1 : Int32))) 77 [.ref 154, .ref 1, .int (lg), .int (nI 4), .int (nI 3), uu, uu] [.int (nI 21), .ref 158] from ?_)
  refine aw_iconst (v := nI 0) ci_0 d_F_fillMost_77 ?_
  refine aw_iast (j := 21) kc_158 (vp_in_nI (by decide) (by decide)) (nI_clamp (by decide)) d_F_fillMost_78 ?_
  refine aw_iinc (v := nI 4) (lv2 := [.ref 154, .ref 1, .int (lg), .int (nI 4), .int (nI 4), uu, uu]) rfl (by decide +kernel) (by decide) rfl d_F_fillMost_79 ?_
  refine aw_goto (tgt := 24) (by decide) d_F_fillMost_82 ?_
  refine aw_iload rfl d_F_fillMost_24 ?_
  refine aw_bipush (v := nI 9) cb_9 d_F_fillMost_26 ?_
  refine aw_icmp_geI (tgt := 85) (4) (9) (by decide +kernel) (by decide +kernel) (by decide) d_F_fillMost_28 (fun q => absurd q (by decide)) (fun _ => ?_)
  refine aw_aload_n rfl rfl d_F_fillMost_31 ?_
  refine aw_getr fl_F_21 kc_154 (by decide) rfl rc_154_4 d_F_fillMost_32 ?_
  refine aw_aload_n rfl rfl d_F_fillMost_35 ?_
  refine aw_geti fl_F_46 kc_154 (by decide) rfl d_F_fillMost_36 ?_
  refine aw_top (x2 := nI 0) (Eq.trans (congrFun (upd2_ne (by decide)) (3)) (Eq.trans (congrFun (upd2_ne (by decide)) (3)) (Eq.trans (congrFun (upd2_ne (by decide)) (3)) (Eq.trans (congrFun (upd2_ne (by decide)) (3)) (Eq.trans (congrFun (upd2_ne (by decide)) (3)) (Eq.trans (congrFun (upd2_ne (by decide)) (3)) (Eq.trans (congrFun (upd2_ne (by decide)) (3)) (Eq.trans (congrFun (upd2_ne (by decide)) (3)) (Eq.trans (congrFun (upd2_ne (by decide)) (3)) (Eq.trans (congrFun (upd2_ne (by decide)) (3)) (Eq.trans (congrFun (upd2_ne (by decide)) (3)) (Eq.trans (congrFun (upd2_ne (by decide)) (3)) (fs))))))))))))) ?_
  refine aw_iconst (v := nI 0) ci_0 d_F_fillMost_39 ?_
  refine aw_iload rfl d_F_fillMost_40 ?_
  refine as_callS (as := [.int (nI 0), .int (nI 0), .int (nI 4)]) (d' := 5) mo_F_at lk_F_50 rfl ⟨by decide, by decide⟩ rfl rfl (by decide) d_F_fillMost_42 (Ss.of (show As l b 5 y_F_at KC RC _ (upd2 (upd2 (upd2 (upd2 (upd2 (upd2 (upd2 (upd2 (upd2 (upd2 (upd2 (upd2 I 158 (0) (nI 0)) 158 (9) ((-1 : Int32))) 158 (18) (nI 0)) 158 (1) (nI 0)) 158 (10) ((-1 : Int32))) 158 (19) (nI 0)) 158 (2) (nI 0)) 158 (11) ((-1 : Int32))) 158 (20) (nI 0)) 158 (3) (nI 0)) 158 (12) ((-1 : Int32))) 158 (21) (nI 0)) 0 [.int (nI 0), .int (nI 0), .int (nI 4), uu] [] from ?_))
  refine aw_iload_n rfl rfl d_F_at_0 ?_
  refine aw_if_ltI (tgt := 34) (0) (by decide +kernel) (by decide) d_F_at_1 (fun q => absurd q (by decide)) (fun _ => ?_)
  refine aw_iload_n rfl rfl d_F_at_4 ?_
  refine aw_sipush (v := nI 144) cs_144 d_F_at_5 ?_
  refine aw_icmp_gtI (tgt := 34) (0) (144) (by decide +kernel) (by decide +kernel) (by decide) d_F_at_8 (fun q => absurd q (by decide)) (fun _ => ?_)
  refine aw_iload_n rfl rfl d_F_at_11 ?_
  refine aw_if_ltI (tgt := 34) (0) (by decide +kernel) (by decide) d_F_at_12 (fun q => absurd q (by decide)) (fun _ => ?_)
  refine aw_iload_n rfl rfl d_F_at_15 ?_
  refine aw_iconst (v := nI 3) ci_3 d_F_at_16 ?_
  refine aw_icmp_geI (tgt := 34) (0) (3) (by decide +kernel) (by decide +kernel) (by decide) d_F_at_17 (fun q => absurd q (by decide)) (fun _ => ?_)
  refine aw_iload_n rfl rfl d_F_at_20 ?_
  refine aw_if_ltI (tgt := 34) (4) (by decide +kernel) (by decide) d_F_at_21 (fun q => absurd q (by decide)) (fun _ => ?_)
  refine aw_iload_n rfl rfl d_F_at_24 ?_
  refine aw_bipush (v := nI 9) cb_9 d_F_at_25 ?_
  refine aw_icmp_geI (tgt := 34) (4) (9) (by decide +kernel) (by decide +kernel) (by decide) d_F_at_27 (fun q => absurd q (by decide)) (fun _ => ?_)
  refine aw_iconst (v := nI 1) ci_1 d_F_at_30 ?_
  refine aw_goto (tgt := 35) (by decide) d_F_at_31 ?_
  refine aw_istore_n (lv2 := [.int (nI 0), .int (nI 0), .int (nI 4), .int (nI 1)]) rfl (by decide) rfl d_F_at_35 ?_
  refine aw_iload_n rfl rfl d_F_at_36 ?_
  refine aw_if_eqI (tgt := 53) (1) (by decide +kernel) (by decide) d_F_at_37 (fun q => absurd q (by decide)) (fun _ => ?_)
  refine aw_iload_n rfl rfl d_F_at_40 ?_
  refine aw_iconst (v := nI 3) ci_3 d_F_at_41 ?_
  refine aw_imul d_F_at_42 ?_
  refine aw_top (x2 := nI 0) (by decide +kernel) ?_
  refine aw_iload_n rfl rfl d_F_at_43 ?_
  refine aw_iadd d_F_at_44 ?_
  refine aw_top (x2 := nI 0) (by decide +kernel) ?_
  refine aw_bipush (v := nI 9) cb_9 d_F_at_45 ?_
  refine aw_imul d_F_at_47 ?_
  refine aw_top (x2 := nI 0) (by decide +kernel) ?_
  refine aw_iload_n rfl rfl d_F_at_48 ?_
  refine aw_iadd d_F_at_49 ?_
  refine aw_top (x2 := nI 4) (by decide +kernel) ?_
  refine aw_goto (tgt := 54) (by decide) d_F_at_50 ?_
  refine as_reti rfl d_F_at_54 ?_
  refine (show As l b 6 y_F_fillMost KC RC K2 (upd2 (upd2 (upd2 (upd2 (upd2 (upd2 (upd2 (upd2 (upd2 (upd2 (upd2 (upd2 I 158 (0) (nI 0)) 158 (9) ((-1 : Int32))) 158 (18) (nI 0)) 158 (1) (nI 0)) 158 (10) ((-1 : Int32))) 158 (19) (nI 0)) 158 (2) (nI 0)) 158 (11) ((-1 : Int32))) 158 (20) (nI 0)) 158 (3) (nI 0)) 158 (12) ((-1 : Int32))) 158 (21) (nI 0)) 45 [.ref 154, .ref 1, .int (lg), .int (nI 4), .int (nI 4), uu, uu] [.int (nI 4), .ref 158] from ?_)
  refine aw_iconst (v := nI 0) ci_0 d_F_fillMost_45 ?_
  refine aw_iast (j := 4) kc_158 (vp_in_nI (by decide) (by decide)) (nI_clamp (by decide)) d_F_fillMost_46 ?_
  refine aw_aload_n rfl rfl d_F_fillMost_47 ?_
  refine aw_getr fl_F_21 kc_154 (by decide) rfl rc_154_4 d_F_fillMost_48 ?_
  refine aw_aload_n rfl rfl d_F_fillMost_51 ?_
  refine aw_geti fl_F_46 kc_154 (by decide) rfl d_F_fillMost_52 ?_
  refine aw_top (x2 := nI 0) (Eq.trans (congrFun (upd2_ne (by decide)) (3)) (Eq.trans (congrFun (upd2_ne (by decide)) (3)) (Eq.trans (congrFun (upd2_ne (by decide)) (3)) (Eq.trans (congrFun (upd2_ne (by decide)) (3)) (Eq.trans (congrFun (upd2_ne (by decide)) (3)) (Eq.trans (congrFun (upd2_ne (by decide)) (3)) (Eq.trans (congrFun (upd2_ne (by decide)) (3)) (Eq.trans (congrFun (upd2_ne (by decide)) (3)) (Eq.trans (congrFun (upd2_ne (by decide)) (3)) (Eq.trans (congrFun (upd2_ne (by decide)) (3)) (Eq.trans (congrFun (upd2_ne (by decide)) (3)) (Eq.trans (congrFun (upd2_ne (by decide)) (3)) (Eq.trans (congrFun (upd2_ne (by decide)) (3)) (fs)))))))))))))) ?_
  refine aw_iconst (v := nI 1) ci_1 d_F_fillMost_55 ?_
  refine aw_iload rfl d_F_fillMost_56 ?_
  refine as_callS (as := [.int (nI 0), .int (nI 1), .int (nI 4)]) (d' := 5) mo_F_at lk_F_50 rfl ⟨by decide, by decide⟩ rfl rfl (by decide) d_F_fillMost_58 (Ss.of (show As l b 5 y_F_at KC RC _ (upd2 (upd2 (upd2 (upd2 (upd2 (upd2 (upd2 (upd2 (upd2 (upd2 (upd2 (upd2 (upd2 I 158 (0) (nI 0)) 158 (9) ((-1 : Int32))) 158 (18) (nI 0)) 158 (1) (nI 0)) 158 (10) ((-1 : Int32))) 158 (19) (nI 0)) 158 (2) (nI 0)) 158 (11) ((-1 : Int32))) 158 (20) (nI 0)) 158 (3) (nI 0)) 158 (12) ((-1 : Int32))) 158 (21) (nI 0)) 158 (4) (nI 0)) 0 [.int (nI 0), .int (nI 1), .int (nI 4), uu] [] from ?_))
  refine aw_iload_n rfl rfl d_F_at_0 ?_
  refine aw_if_ltI (tgt := 34) (0) (by decide +kernel) (by decide) d_F_at_1 (fun q => absurd q (by decide)) (fun _ => ?_)
  refine aw_iload_n rfl rfl d_F_at_4 ?_
  refine aw_sipush (v := nI 144) cs_144 d_F_at_5 ?_
  refine aw_icmp_gtI (tgt := 34) (0) (144) (by decide +kernel) (by decide +kernel) (by decide) d_F_at_8 (fun q => absurd q (by decide)) (fun _ => ?_)
  refine aw_iload_n rfl rfl d_F_at_11 ?_
  refine aw_if_ltI (tgt := 34) (1) (by decide +kernel) (by decide) d_F_at_12 (fun q => absurd q (by decide)) (fun _ => ?_)
  refine aw_iload_n rfl rfl d_F_at_15 ?_
  refine aw_iconst (v := nI 3) ci_3 d_F_at_16 ?_
  refine aw_icmp_geI (tgt := 34) (1) (3) (by decide +kernel) (by decide +kernel) (by decide) d_F_at_17 (fun q => absurd q (by decide)) (fun _ => ?_)
  refine aw_iload_n rfl rfl d_F_at_20 ?_
  refine aw_if_ltI (tgt := 34) (4) (by decide +kernel) (by decide) d_F_at_21 (fun q => absurd q (by decide)) (fun _ => ?_)
  refine aw_iload_n rfl rfl d_F_at_24 ?_
  refine aw_bipush (v := nI 9) cb_9 d_F_at_25 ?_
  refine aw_icmp_geI (tgt := 34) (4) (9) (by decide +kernel) (by decide +kernel) (by decide) d_F_at_27 (fun q => absurd q (by decide)) (fun _ => ?_)
  refine aw_iconst (v := nI 1) ci_1 d_F_at_30 ?_
  refine aw_goto (tgt := 35) (by decide) d_F_at_31 ?_
  refine aw_istore_n (lv2 := [.int (nI 0), .int (nI 1), .int (nI 4), .int (nI 1)]) rfl (by decide) rfl d_F_at_35 ?_
  refine aw_iload_n rfl rfl d_F_at_36 ?_
  refine aw_if_eqI (tgt := 53) (1) (by decide +kernel) (by decide) d_F_at_37 (fun q => absurd q (by decide)) (fun _ => ?_)
  refine aw_iload_n rfl rfl d_F_at_40 ?_
  refine aw_iconst (v := nI 3) ci_3 d_F_at_41 ?_
  refine aw_imul d_F_at_42 ?_
  refine aw_top (x2 := nI 0) (by decide +kernel) ?_
  refine aw_iload_n rfl rfl d_F_at_43 ?_
  refine aw_iadd d_F_at_44 ?_
  refine aw_top (x2 := nI 1) (by decide +kernel) ?_
  refine aw_bipush (v := nI 9) cb_9 d_F_at_45 ?_
  refine aw_imul d_F_at_47 ?_
  refine aw_top (x2 := nI 9) (by decide +kernel) ?_
  refine aw_iload_n rfl rfl d_F_at_48 ?_
  refine aw_iadd d_F_at_49 ?_
  refine aw_top (x2 := nI 13) (by decide +kernel) ?_
  refine aw_goto (tgt := 54) (by decide) d_F_at_50 ?_
  refine as_reti rfl d_F_at_54 ?_
  refine (show As l b 6 y_F_fillMost KC RC K2 (upd2 (upd2 (upd2 (upd2 (upd2 (upd2 (upd2 (upd2 (upd2 (upd2 (upd2 (upd2 (upd2 I 158 (0) (nI 0)) 158 (9) ((-1 : Int32))) 158 (18) (nI 0)) 158 (1) (nI 0)) 158 (10) ((-1 : Int32))) 158 (19) (nI 0)) 158 (2) (nI 0)) 158 (11) ((-1 : Int32))) 158 (20) (nI 0)) 158 (3) (nI 0)) 158 (12) ((-1 : Int32))) 158 (21) (nI 0)) 158 (4) (nI 0)) 61 [.ref 154, .ref 1, .int (lg), .int (nI 4), .int (nI 4), uu, uu] [.int (nI 13), .ref 158] from ?_)
  refine aw_iconst (v := (-1 : Int32)) rfl d_F_fillMost_61 ?_
  refine aw_iast (j := 13) kc_158 (vp_in_nI (by decide) (by decide)) (nI_clamp (by decide)) d_F_fillMost_62 ?_
  refine aw_aload_n rfl rfl d_F_fillMost_63 ?_
  refine aw_getr fl_F_21 kc_154 (by decide) rfl rc_154_4 d_F_fillMost_64 ?_
  refine aw_aload_n rfl rfl d_F_fillMost_67 ?_
  refine aw_geti fl_F_46 kc_154 (by decide) rfl d_F_fillMost_68 ?_
  refine aw_top (x2 := nI 0) (Eq.trans (congrFun (upd2_ne (by decide)) (3)) (Eq.trans (congrFun (upd2_ne (by decide)) (3)) (Eq.trans (congrFun (upd2_ne (by decide)) (3)) (Eq.trans (congrFun (upd2_ne (by decide)) (3)) (Eq.trans (congrFun (upd2_ne (by decide)) (3)) (Eq.trans (congrFun (upd2_ne (by decide)) (3)) (Eq.trans (congrFun (upd2_ne (by decide)) (3)) (Eq.trans (congrFun (upd2_ne (by decide)) (3)) (Eq.trans (congrFun (upd2_ne (by decide)) (3)) (Eq.trans (congrFun (upd2_ne (by decide)) (3)) (Eq.trans (congrFun (upd2_ne (by decide)) (3)) (Eq.trans (congrFun (upd2_ne (by decide)) (3)) (Eq.trans (congrFun (upd2_ne (by decide)) (3)) (Eq.trans (congrFun (upd2_ne (by decide)) (3)) (fs))))))))))))))) ?_
  refine aw_iconst (v := nI 2) ci_2 d_F_fillMost_71 ?_
  refine aw_iload rfl d_F_fillMost_72 ?_
  refine as_callS (as := [.int (nI 0), .int (nI 2), .int (nI 4)]) (d' := 5) mo_F_at lk_F_50 rfl ⟨by decide, by decide⟩ rfl rfl (by decide) d_F_fillMost_74 (Ss.of (show As l b 5 y_F_at KC RC _ (upd2 (upd2 (upd2 (upd2 (upd2 (upd2 (upd2 (upd2 (upd2 (upd2 (upd2 (upd2 (upd2 (upd2 I 158 (0) (nI 0)) 158 (9) ((-1 : Int32))) 158 (18) (nI 0)) 158 (1) (nI 0)) 158 (10) ((-1 : Int32))) 158 (19) (nI 0)) 158 (2) (nI 0)) 158 (11) ((-1 : Int32))) 158 (20) (nI 0)) 158 (3) (nI 0)) 158 (12) ((-1 : Int32))) 158 (21) (nI 0)) 158 (4) (nI 0)) 158 (13) ((-1 : Int32))) 0 [.int (nI 0), .int (nI 2), .int (nI 4), uu] [] from ?_))
  refine aw_iload_n rfl rfl d_F_at_0 ?_
  refine aw_if_ltI (tgt := 34) (0) (by decide +kernel) (by decide) d_F_at_1 (fun q => absurd q (by decide)) (fun _ => ?_)
  refine aw_iload_n rfl rfl d_F_at_4 ?_
  refine aw_sipush (v := nI 144) cs_144 d_F_at_5 ?_
  refine aw_icmp_gtI (tgt := 34) (0) (144) (by decide +kernel) (by decide +kernel) (by decide) d_F_at_8 (fun q => absurd q (by decide)) (fun _ => ?_)
  refine aw_iload_n rfl rfl d_F_at_11 ?_
  refine aw_if_ltI (tgt := 34) (2) (by decide +kernel) (by decide) d_F_at_12 (fun q => absurd q (by decide)) (fun _ => ?_)
  refine aw_iload_n rfl rfl d_F_at_15 ?_
  refine aw_iconst (v := nI 3) ci_3 d_F_at_16 ?_
  refine aw_icmp_geI (tgt := 34) (2) (3) (by decide +kernel) (by decide +kernel) (by decide) d_F_at_17 (fun q => absurd q (by decide)) (fun _ => ?_)
  refine aw_iload_n rfl rfl d_F_at_20 ?_
  refine aw_if_ltI (tgt := 34) (4) (by decide +kernel) (by decide) d_F_at_21 (fun q => absurd q (by decide)) (fun _ => ?_)
  refine aw_iload_n rfl rfl d_F_at_24 ?_
  refine aw_bipush (v := nI 9) cb_9 d_F_at_25 ?_
  refine aw_icmp_geI (tgt := 34) (4) (9) (by decide +kernel) (by decide +kernel) (by decide) d_F_at_27 (fun q => absurd q (by decide)) (fun _ => ?_)
  refine aw_iconst (v := nI 1) ci_1 d_F_at_30 ?_
  refine aw_goto (tgt := 35) (by decide) d_F_at_31 ?_
  refine aw_istore_n (lv2 := [.int (nI 0), .int (nI 2), .int (nI 4), .int (nI 1)]) rfl (by decide) rfl d_F_at_35 ?_
  refine aw_iload_n rfl rfl d_F_at_36 ?_
  refine aw_if_eqI (tgt := 53) (1) (by decide +kernel) (by decide) d_F_at_37 (fun q => absurd q (by decide)) (fun _ => ?_)
  refine aw_iload_n rfl rfl d_F_at_40 ?_
  refine aw_iconst (v := nI 3) ci_3 d_F_at_41 ?_
  refine aw_imul d_F_at_42 ?_
  refine aw_top (x2 := nI 0) (by decide +kernel) ?_
  refine aw_iload_n rfl rfl d_F_at_43 ?_
  refine aw_iadd d_F_at_44 ?_
  refine aw_top (x2 := nI 2) (by decide +kernel) ?_
  refine aw_bipush (v := nI 9) cb_9 d_F_at_45 ?_
  refine aw_imul d_F_at_47 ?_
  refine aw_top (x2 := nI 18) (by decide +kernel) ?_
  refine aw_iload_n rfl rfl d_F_at_48 ?_
  refine aw_iadd d_F_at_49 ?_
  refine aw_top (x2 := nI 22) (by decide +kernel) ?_
  refine aw_goto (tgt := 54) (by decide) d_F_at_50 ?_
  refine as_reti rfl d_F_at_54 ?_
  refine (show As l b 6 y_F_fillMost KC RC K2 (upd2 (upd2 (upd2 (upd2 (upd2 (upd2 (upd2 (upd2 (upd2 (upd2 (upd2 (upd2 (upd2 (upd2 I 158 (0) (nI 0)) 158 (9) ((-1 : Int32))) 158 (18) (nI 0)) 158 (1) (nI 0)) 158 (10) ((-1 : Int32))) 158 (19) (nI 0)) 158 (2) (nI 0)) 158 (11) ((-1 : Int32))) 158 (20) (nI 0)) 158 (3) (nI 0)) 158 (12) ((-1 : Int32))) 158 (21) (nI 0)) 158 (4) (nI 0)) 158 (13) ((-1 : Int32))) 77 [.ref 154, .ref 1, .int (lg), .int (nI 4), .int (nI 4), uu, uu] [.int (nI 22), .ref 158] from ?_)
  refine aw_iconst (v := nI 0) ci_0 d_F_fillMost_77 ?_
  refine aw_iast (j := 22) kc_158 (vp_in_nI (by decide) (by decide)) (nI_clamp (by decide)) d_F_fillMost_78 ?_
  refine aw_iinc (v := nI 5) (lv2 := [.ref 154, .ref 1, .int (lg), .int (nI 4), .int (nI 5), uu, uu]) rfl (by decide +kernel) (by decide) rfl d_F_fillMost_79 ?_
  refine aw_goto (tgt := 24) (by decide) d_F_fillMost_82 ?_
  refine aw_iload rfl d_F_fillMost_24 ?_
  refine aw_bipush (v := nI 9) cb_9 d_F_fillMost_26 ?_
  refine aw_icmp_geI (tgt := 85) (5) (9) (by decide +kernel) (by decide +kernel) (by decide) d_F_fillMost_28 (fun q => absurd q (by decide)) (fun _ => ?_)
  refine aw_aload_n rfl rfl d_F_fillMost_31 ?_
  refine aw_getr fl_F_21 kc_154 (by decide) rfl rc_154_4 d_F_fillMost_32 ?_
  refine aw_aload_n rfl rfl d_F_fillMost_35 ?_
  refine aw_geti fl_F_46 kc_154 (by decide) rfl d_F_fillMost_36 ?_
  refine aw_top (x2 := nI 0) (Eq.trans (congrFun (upd2_ne (by decide)) (3)) (Eq.trans (congrFun (upd2_ne (by decide)) (3)) (Eq.trans (congrFun (upd2_ne (by decide)) (3)) (Eq.trans (congrFun (upd2_ne (by decide)) (3)) (Eq.trans (congrFun (upd2_ne (by decide)) (3)) (Eq.trans (congrFun (upd2_ne (by decide)) (3)) (Eq.trans (congrFun (upd2_ne (by decide)) (3)) (Eq.trans (congrFun (upd2_ne (by decide)) (3)) (Eq.trans (congrFun (upd2_ne (by decide)) (3)) (Eq.trans (congrFun (upd2_ne (by decide)) (3)) (Eq.trans (congrFun (upd2_ne (by decide)) (3)) (Eq.trans (congrFun (upd2_ne (by decide)) (3)) (Eq.trans (congrFun (upd2_ne (by decide)) (3)) (Eq.trans (congrFun (upd2_ne (by decide)) (3)) (Eq.trans (congrFun (upd2_ne (by decide)) (3)) (fs)))))))))))))))) ?_
  refine aw_iconst (v := nI 0) ci_0 d_F_fillMost_39 ?_
  refine aw_iload rfl d_F_fillMost_40 ?_
  refine as_callS (as := [.int (nI 0), .int (nI 0), .int (nI 5)]) (d' := 5) mo_F_at lk_F_50 rfl ⟨by decide, by decide⟩ rfl rfl (by decide) d_F_fillMost_42 (Ss.of (show As l b 5 y_F_at KC RC _ (upd2 (upd2 (upd2 (upd2 (upd2 (upd2 (upd2 (upd2 (upd2 (upd2 (upd2 (upd2 (upd2 (upd2 (upd2 I 158 (0) (nI 0)) 158 (9) ((-1 : Int32))) 158 (18) (nI 0)) 158 (1) (nI 0)) 158 (10) ((-1 : Int32))) 158 (19) (nI 0)) 158 (2) (nI 0)) 158 (11) ((-1 : Int32))) 158 (20) (nI 0)) 158 (3) (nI 0)) 158 (12) ((-1 : Int32))) 158 (21) (nI 0)) 158 (4) (nI 0)) 158 (13) ((-1 : Int32))) 158 (22) (nI 0)) 0 [.int (nI 0), .int (nI 0), .int (nI 5), uu] [] from ?_))
  refine aw_iload_n rfl rfl d_F_at_0 ?_
  refine aw_if_ltI (tgt := 34) (0) (by decide +kernel) (by decide) d_F_at_1 (fun q => absurd q (by decide)) (fun _ => ?_)
  refine aw_iload_n rfl rfl d_F_at_4 ?_
  refine aw_sipush (v := nI 144) cs_144 d_F_at_5 ?_
  refine aw_icmp_gtI (tgt := 34) (0) (144) (by decide +kernel) (by decide +kernel) (by decide) d_F_at_8 (fun q => absurd q (by decide)) (fun _ => ?_)
  refine aw_iload_n rfl rfl d_F_at_11 ?_
  refine aw_if_ltI (tgt := 34) (0) (by decide +kernel) (by decide) d_F_at_12 (fun q => absurd q (by decide)) (fun _ => ?_)
  refine aw_iload_n rfl rfl d_F_at_15 ?_
  refine aw_iconst (v := nI 3) ci_3 d_F_at_16 ?_
  refine aw_icmp_geI (tgt := 34) (0) (3) (by decide +kernel) (by decide +kernel) (by decide) d_F_at_17 (fun q => absurd q (by decide)) (fun _ => ?_)
  refine aw_iload_n rfl rfl d_F_at_20 ?_
  refine aw_if_ltI (tgt := 34) (5) (by decide +kernel) (by decide) d_F_at_21 (fun q => absurd q (by decide)) (fun _ => ?_)
  refine aw_iload_n rfl rfl d_F_at_24 ?_
  refine aw_bipush (v := nI 9) cb_9 d_F_at_25 ?_
  refine aw_icmp_geI (tgt := 34) (5) (9) (by decide +kernel) (by decide +kernel) (by decide) d_F_at_27 (fun q => absurd q (by decide)) (fun _ => ?_)
  refine aw_iconst (v := nI 1) ci_1 d_F_at_30 ?_
  refine aw_goto (tgt := 35) (by decide) d_F_at_31 ?_
  refine aw_istore_n (lv2 := [.int (nI 0), .int (nI 0), .int (nI 5), .int (nI 1)]) rfl (by decide) rfl d_F_at_35 ?_
  refine aw_iload_n rfl rfl d_F_at_36 ?_
  refine aw_if_eqI (tgt := 53) (1) (by decide +kernel) (by decide) d_F_at_37 (fun q => absurd q (by decide)) (fun _ => ?_)
  refine aw_iload_n rfl rfl d_F_at_40 ?_
  refine aw_iconst (v := nI 3) ci_3 d_F_at_41 ?_
  refine aw_imul d_F_at_42 ?_
  refine aw_top (x2 := nI 0) (by decide +kernel) ?_
  refine aw_iload_n rfl rfl d_F_at_43 ?_
  refine aw_iadd d_F_at_44 ?_
  refine aw_top (x2 := nI 0) (by decide +kernel) ?_
  refine aw_bipush (v := nI 9) cb_9 d_F_at_45 ?_
  refine aw_imul d_F_at_47 ?_
  refine aw_top (x2 := nI 0) (by decide +kernel) ?_
  refine aw_iload_n rfl rfl d_F_at_48 ?_
  refine aw_iadd d_F_at_49 ?_
  refine aw_top (x2 := nI 5) (by decide +kernel) ?_
  refine aw_goto (tgt := 54) (by decide) d_F_at_50 ?_
  refine as_reti rfl d_F_at_54 ?_
  refine (show As l b 6 y_F_fillMost KC RC K2 (upd2 (upd2 (upd2 (upd2 (upd2 (upd2 (upd2 (upd2 (upd2 (upd2 (upd2 (upd2 (upd2 (upd2 (upd2 I 158 (0) (nI 0)) 158 (9) ((-1 : Int32))) 158 (18) (nI 0)) 158 (1) (nI 0)) 158 (10) ((-1 : Int32))) 158 (19) (nI 0)) 158 (2) (nI 0)) 158 (11) ((-1 : Int32))) 158 (20) (nI 0)) 158 (3) (nI 0)) 158 (12) ((-1 : Int32))) 158 (21) (nI 0)) 158 (4) (nI 0)) 158 (13) ((-1 : Int32))) 158 (22) (nI 0)) 45 [.ref 154, .ref 1, .int (lg), .int (nI 4), .int (nI 5), uu, uu] [.int (nI 5), .ref 158] from ?_)
  refine aw_iconst (v := nI 0) ci_0 d_F_fillMost_45 ?_
  refine aw_iast (j := 5) kc_158 (vp_in_nI (by decide) (by decide)) (nI_clamp (by decide)) d_F_fillMost_46 ?_
  refine aw_aload_n rfl rfl d_F_fillMost_47 ?_
  refine aw_getr fl_F_21 kc_154 (by decide) rfl rc_154_4 d_F_fillMost_48 ?_
  refine aw_aload_n rfl rfl d_F_fillMost_51 ?_
  refine aw_geti fl_F_46 kc_154 (by decide) rfl d_F_fillMost_52 ?_
  refine aw_top (x2 := nI 0) (Eq.trans (congrFun (upd2_ne (by decide)) (3)) (Eq.trans (congrFun (upd2_ne (by decide)) (3)) (Eq.trans (congrFun (upd2_ne (by decide)) (3)) (Eq.trans (congrFun (upd2_ne (by decide)) (3)) (Eq.trans (congrFun (upd2_ne (by decide)) (3)) (Eq.trans (congrFun (upd2_ne (by decide)) (3)) (Eq.trans (congrFun (upd2_ne (by decide)) (3)) (Eq.trans (congrFun (upd2_ne (by decide)) (3)) (Eq.trans (congrFun (upd2_ne (by decide)) (3)) (Eq.trans (congrFun (upd2_ne (by decide)) (3)) (Eq.trans (congrFun (upd2_ne (by decide)) (3)) (Eq.trans (congrFun (upd2_ne (by decide)) (3)) (Eq.trans (congrFun (upd2_ne (by decide)) (3)) (Eq.trans (congrFun (upd2_ne (by decide)) (3)) (Eq.trans (congrFun (upd2_ne (by decide)) (3)) (Eq.trans (congrFun (upd2_ne (by decide)) (3)) (fs))))))))))))))))) ?_
  refine aw_iconst (v := nI 1) ci_1 d_F_fillMost_55 ?_
  refine aw_iload rfl d_F_fillMost_56 ?_
  refine as_callS (as := [.int (nI 0), .int (nI 1), .int (nI 5)]) (d' := 5) mo_F_at lk_F_50 rfl ⟨by decide, by decide⟩ rfl rfl (by decide) d_F_fillMost_58 (Ss.of (show As l b 5 y_F_at KC RC _ (upd2 (upd2 (upd2 (upd2 (upd2 (upd2 (upd2 (upd2 (upd2 (upd2 (upd2 (upd2 (upd2 (upd2 (upd2 (upd2 I 158 (0) (nI 0)) 158 (9) ((-1 : Int32))) 158 (18) (nI 0)) 158 (1) (nI 0)) 158 (10) ((-1 : Int32))) 158 (19) (nI 0)) 158 (2) (nI 0)) 158 (11) ((-1 : Int32))) 158 (20) (nI 0)) 158 (3) (nI 0)) 158 (12) ((-1 : Int32))) 158 (21) (nI 0)) 158 (4) (nI 0)) 158 (13) ((-1 : Int32))) 158 (22) (nI 0)) 158 (5) (nI 0)) 0 [.int (nI 0), .int (nI 1), .int (nI 5), uu] [] from ?_))
  refine aw_iload_n rfl rfl d_F_at_0 ?_
  refine aw_if_ltI (tgt := 34) (0) (by decide +kernel) (by decide) d_F_at_1 (fun q => absurd q (by decide)) (fun _ => ?_)
  refine aw_iload_n rfl rfl d_F_at_4 ?_
  refine aw_sipush (v := nI 144) cs_144 d_F_at_5 ?_
  refine aw_icmp_gtI (tgt := 34) (0) (144) (by decide +kernel) (by decide +kernel) (by decide) d_F_at_8 (fun q => absurd q (by decide)) (fun _ => ?_)
  refine aw_iload_n rfl rfl d_F_at_11 ?_
  refine aw_if_ltI (tgt := 34) (1) (by decide +kernel) (by decide) d_F_at_12 (fun q => absurd q (by decide)) (fun _ => ?_)
  refine aw_iload_n rfl rfl d_F_at_15 ?_
  refine aw_iconst (v := nI 3) ci_3 d_F_at_16 ?_
  refine aw_icmp_geI (tgt := 34) (1) (3) (by decide +kernel) (by decide +kernel) (by decide) d_F_at_17 (fun q => absurd q (by decide)) (fun _ => ?_)
  refine aw_iload_n rfl rfl d_F_at_20 ?_
  refine aw_if_ltI (tgt := 34) (5) (by decide +kernel) (by decide) d_F_at_21 (fun q => absurd q (by decide)) (fun _ => ?_)
  refine aw_iload_n rfl rfl d_F_at_24 ?_
  refine aw_bipush (v := nI 9) cb_9 d_F_at_25 ?_
  refine aw_icmp_geI (tgt := 34) (5) (9) (by decide +kernel) (by decide +kernel) (by decide) d_F_at_27 (fun q => absurd q (by decide)) (fun _ => ?_)
  refine aw_iconst (v := nI 1) ci_1 d_F_at_30 ?_
  refine aw_goto (tgt := 35) (by decide) d_F_at_31 ?_
  refine aw_istore_n (lv2 := [.int (nI 0), .int (nI 1), .int (nI 5), .int (nI 1)]) rfl (by decide) rfl d_F_at_35 ?_
  refine aw_iload_n rfl rfl d_F_at_36 ?_
  refine aw_if_eqI (tgt := 53) (1) (by decide +kernel) (by decide) d_F_at_37 (fun q => absurd q (by decide)) (fun _ => ?_)
  refine aw_iload_n rfl rfl d_F_at_40 ?_
  refine aw_iconst (v := nI 3) ci_3 d_F_at_41 ?_
  refine aw_imul d_F_at_42 ?_
  refine aw_top (x2 := nI 0) (by decide +kernel) ?_
  refine aw_iload_n rfl rfl d_F_at_43 ?_
  refine aw_iadd d_F_at_44 ?_
  refine aw_top (x2 := nI 1) (by decide +kernel) ?_
  refine aw_bipush (v := nI 9) cb_9 d_F_at_45 ?_
  refine aw_imul d_F_at_47 ?_
  refine aw_top (x2 := nI 9) (by decide +kernel) ?_
  refine aw_iload_n rfl rfl d_F_at_48 ?_
  refine aw_iadd d_F_at_49 ?_
  refine aw_top (x2 := nI 14) (by decide +kernel) ?_
  refine aw_goto (tgt := 54) (by decide) d_F_at_50 ?_
  refine as_reti rfl d_F_at_54 ?_
  refine (show As l b 6 y_F_fillMost KC RC K2 (upd2 (upd2 (upd2 (upd2 (upd2 (upd2 (upd2 (upd2 (upd2 (upd2 (upd2 (upd2 (upd2 (upd2 (upd2 (upd2 I 158 (0) (nI 0)) 158 (9) ((-1 : Int32))) 158 (18) (nI 0)) 158 (1) (nI 0)) 158 (10) ((-1 : Int32))) 158 (19) (nI 0)) 158 (2) (nI 0)) 158 (11) ((-1 : Int32))) 158 (20) (nI 0)) 158 (3) (nI 0)) 158 (12) ((-1 : Int32))) 158 (21) (nI 0)) 158 (4) (nI 0)) 158 (13) ((-1 : Int32))) 158 (22) (nI 0)) 158 (5) (nI 0)) 61 [.ref 154, .ref 1, .int (lg), .int (nI 4), .int (nI 5), uu, uu] [.int (nI 14), .ref 158] from ?_)
  refine aw_iconst (v := (-1 : Int32)) rfl d_F_fillMost_61 ?_
  refine aw_iast (j := 14) kc_158 (vp_in_nI (by decide) (by decide)) (nI_clamp (by decide)) d_F_fillMost_62 ?_
  refine aw_aload_n rfl rfl d_F_fillMost_63 ?_
  refine aw_getr fl_F_21 kc_154 (by decide) rfl rc_154_4 d_F_fillMost_64 ?_
  refine aw_aload_n rfl rfl d_F_fillMost_67 ?_
  refine aw_geti fl_F_46 kc_154 (by decide) rfl d_F_fillMost_68 ?_
  refine aw_top (x2 := nI 0) (Eq.trans (congrFun (upd2_ne (by decide)) (3)) (Eq.trans (congrFun (upd2_ne (by decide)) (3)) (Eq.trans (congrFun (upd2_ne (by decide)) (3)) (Eq.trans (congrFun (upd2_ne (by decide)) (3)) (Eq.trans (congrFun (upd2_ne (by decide)) (3)) (Eq.trans (congrFun (upd2_ne (by decide)) (3)) (Eq.trans (congrFun (upd2_ne (by decide)) (3)) (Eq.trans (congrFun (upd2_ne (by decide)) (3)) (Eq.trans (congrFun (upd2_ne (by decide)) (3)) (Eq.trans (congrFun (upd2_ne (by decide)) (3)) (Eq.trans (congrFun (upd2_ne (by decide)) (3)) (Eq.trans (congrFun (upd2_ne (by decide)) (3)) (Eq.trans (congrFun (upd2_ne (by decide)) (3)) (Eq.trans (congrFun (upd2_ne (by decide)) (3)) (Eq.trans (congrFun (upd2_ne (by decide)) (3)) (Eq.trans (congrFun (upd2_ne (by decide)) (3)) (Eq.trans (congrFun (upd2_ne (by decide)) (3)) (fs)))))))))))))))))) ?_
  refine aw_iconst (v := nI 2) ci_2 d_F_fillMost_71 ?_
  refine aw_iload rfl d_F_fillMost_72 ?_
  refine as_callS (as := [.int (nI 0), .int (nI 2), .int (nI 5)]) (d' := 5) mo_F_at lk_F_50 rfl ⟨by decide, by decide⟩ rfl rfl (by decide) d_F_fillMost_74 (Ss.of (show As l b 5 y_F_at KC RC _ (upd2 (upd2 (upd2 (upd2 (upd2 (upd2 (upd2 (upd2 (upd2 (upd2 (upd2 (upd2 (upd2 (upd2 (upd2 (upd2 (upd2 I 158 (0) (nI 0)) 158 (9) ((-1 : Int32))) 158 (18) (nI 0)) 158 (1) (nI 0)) 158 (10) ((-1 : Int32))) 158 (19) (nI 0)) 158 (2) (nI 0)) 158 (11) ((-1 : Int32))) 158 (20) (nI 0)) 158 (3) (nI 0)) 158 (12) ((-1 : Int32))) 158 (21) (nI 0)) 158 (4) (nI 0)) 158 (13) ((-1 : Int32))) 158 (22) (nI 0)) 158 (5) (nI 0)) 158 (14) ((-1 : Int32))) 0 [.int (nI 0), .int (nI 2), .int (nI 5), uu] [] from ?_))
  refine aw_iload_n rfl rfl d_F_at_0 ?_
  refine aw_if_ltI (tgt := 34) (0) (by decide +kernel) (by decide) d_F_at_1 (fun q => absurd q (by decide)) (fun _ => ?_)
  refine aw_iload_n rfl rfl d_F_at_4 ?_
  refine aw_sipush (v := nI 144) cs_144 d_F_at_5 ?_
  refine aw_icmp_gtI (tgt := 34) (0) (144) (by decide +kernel) (by decide +kernel) (by decide) d_F_at_8 (fun q => absurd q (by decide)) (fun _ => ?_)
  refine aw_iload_n rfl rfl d_F_at_11 ?_
  refine aw_if_ltI (tgt := 34) (2) (by decide +kernel) (by decide) d_F_at_12 (fun q => absurd q (by decide)) (fun _ => ?_)
  refine aw_iload_n rfl rfl d_F_at_15 ?_
  refine aw_iconst (v := nI 3) ci_3 d_F_at_16 ?_
  refine aw_icmp_geI (tgt := 34) (2) (3) (by decide +kernel) (by decide +kernel) (by decide) d_F_at_17 (fun q => absurd q (by decide)) (fun _ => ?_)
  refine aw_iload_n rfl rfl d_F_at_20 ?_
  refine aw_if_ltI (tgt := 34) (5) (by decide +kernel) (by decide) d_F_at_21 (fun q => absurd q (by decide)) (fun _ => ?_)
  refine aw_iload_n rfl rfl d_F_at_24 ?_
  refine aw_bipush (v := nI 9) cb_9 d_F_at_25 ?_
  refine aw_icmp_geI (tgt := 34) (5) (9) (by decide +kernel) (by decide +kernel) (by decide) d_F_at_27 (fun q => absurd q (by decide)) (fun _ => ?_)
  refine aw_iconst (v := nI 1) ci_1 d_F_at_30 ?_
  refine aw_goto (tgt := 35) (by decide) d_F_at_31 ?_
  refine aw_istore_n (lv2 := [.int (nI 0), .int (nI 2), .int (nI 5), .int (nI 1)]) rfl (by decide) rfl d_F_at_35 ?_
  refine aw_iload_n rfl rfl d_F_at_36 ?_
  refine aw_if_eqI (tgt := 53) (1) (by decide +kernel) (by decide) d_F_at_37 (fun q => absurd q (by decide)) (fun _ => ?_)
  refine aw_iload_n rfl rfl d_F_at_40 ?_
  refine aw_iconst (v := nI 3) ci_3 d_F_at_41 ?_
  refine aw_imul d_F_at_42 ?_
  refine aw_top (x2 := nI 0) (by decide +kernel) ?_
  refine aw_iload_n rfl rfl d_F_at_43 ?_
  refine aw_iadd d_F_at_44 ?_
  refine aw_top (x2 := nI 2) (by decide +kernel) ?_
  refine aw_bipush (v := nI 9) cb_9 d_F_at_45 ?_
  refine aw_imul d_F_at_47 ?_
  refine aw_top (x2 := nI 18) (by decide +kernel) ?_
  refine aw_iload_n rfl rfl d_F_at_48 ?_
  refine aw_iadd d_F_at_49 ?_
  refine aw_top (x2 := nI 23) (by decide +kernel) ?_
  refine aw_goto (tgt := 54) (by decide) d_F_at_50 ?_
  refine as_reti rfl d_F_at_54 ?_
  refine (show As l b 6 y_F_fillMost KC RC K2 (upd2 (upd2 (upd2 (upd2 (upd2 (upd2 (upd2 (upd2 (upd2 (upd2 (upd2 (upd2 (upd2 (upd2 (upd2 (upd2 (upd2 I 158 (0) (nI 0)) 158 (9) ((-1 : Int32))) 158 (18) (nI 0)) 158 (1) (nI 0)) 158 (10) ((-1 : Int32))) 158 (19) (nI 0)) 158 (2) (nI 0)) 158 (11) ((-1 : Int32))) 158 (20) (nI 0)) 158 (3) (nI 0)) 158 (12) ((-1 : Int32))) 158 (21) (nI 0)) 158 (4) (nI 0)) 158 (13) ((-1 : Int32))) 158 (22) (nI 0)) 158 (5) (nI 0)) 158 (14) ((-1 : Int32))) 77 [.ref 154, .ref 1, .int (lg), .int (nI 4), .int (nI 5), uu, uu] [.int (nI 23), .ref 158] from ?_)
  refine aw_iconst (v := nI 0) ci_0 d_F_fillMost_77 ?_
  refine aw_iast (j := 23) kc_158 (vp_in_nI (by decide) (by decide)) (nI_clamp (by decide)) d_F_fillMost_78 ?_
  refine aw_iinc (v := nI 6) (lv2 := [.ref 154, .ref 1, .int (lg), .int (nI 4), .int (nI 6), uu, uu]) rfl (by decide +kernel) (by decide) rfl d_F_fillMost_79 ?_
  refine aw_goto (tgt := 24) (by decide) d_F_fillMost_82 ?_
  refine aw_iload rfl d_F_fillMost_24 ?_
  refine aw_bipush (v := nI 9) cb_9 d_F_fillMost_26 ?_
  refine aw_icmp_geI (tgt := 85) (6) (9) (by decide +kernel) (by decide +kernel) (by decide) d_F_fillMost_28 (fun q => absurd q (by decide)) (fun _ => ?_)
  refine aw_aload_n rfl rfl d_F_fillMost_31 ?_
  refine aw_getr fl_F_21 kc_154 (by decide) rfl rc_154_4 d_F_fillMost_32 ?_
  refine aw_aload_n rfl rfl d_F_fillMost_35 ?_
  refine aw_geti fl_F_46 kc_154 (by decide) rfl d_F_fillMost_36 ?_
  refine aw_top (x2 := nI 0) (Eq.trans (congrFun (upd2_ne (by decide)) (3)) (Eq.trans (congrFun (upd2_ne (by decide)) (3)) (Eq.trans (congrFun (upd2_ne (by decide)) (3)) (Eq.trans (congrFun (upd2_ne (by decide)) (3)) (Eq.trans (congrFun (upd2_ne (by decide)) (3)) (Eq.trans (congrFun (upd2_ne (by decide)) (3)) (Eq.trans (congrFun (upd2_ne (by decide)) (3)) (Eq.trans (congrFun (upd2_ne (by decide)) (3)) (Eq.trans (congrFun (upd2_ne (by decide)) (3)) (Eq.trans (congrFun (upd2_ne (by decide)) (3)) (Eq.trans (congrFun (upd2_ne (by decide)) (3)) (Eq.trans (congrFun (upd2_ne (by decide)) (3)) (Eq.trans (congrFun (upd2_ne (by decide)) (3)) (Eq.trans (congrFun (upd2_ne (by decide)) (3)) (Eq.trans (congrFun (upd2_ne (by decide)) (3)) (Eq.trans (congrFun (upd2_ne (by decide)) (3)) (Eq.trans (congrFun (upd2_ne (by decide)) (3)) (Eq.trans (congrFun (upd2_ne (by decide)) (3)) (fs))))))))))))))))))) ?_
  refine aw_iconst (v := nI 0) ci_0 d_F_fillMost_39 ?_
  refine aw_iload rfl d_F_fillMost_40 ?_
  refine as_callS (as := [.int (nI 0), .int (nI 0), .int (nI 6)]) (d' := 5) mo_F_at lk_F_50 rfl ⟨by decide, by decide⟩ rfl rfl (by decide) d_F_fillMost_42 (Ss.of (show As l b 5 y_F_at KC RC _ (upd2 (upd2 (upd2 (upd2 (upd2 (upd2 (upd2 (upd2 (upd2 (upd2 (upd2 (upd2 (upd2 (upd2 (upd2 (upd2 (upd2 (upd2 I 158 (0) (nI 0)) 158 (9) ((-1 : Int32))) 158 (18) (nI 0)) 158 (1) (nI 0)) 158 (10) ((-1 : Int32))) 158 (19) (nI 0)) 158 (2) (nI 0)) 158 (11) ((-1 : Int32))) 158 (20) (nI 0)) 158 (3) (nI 0)) 158 (12) ((-1 : Int32))) 158 (21) (nI 0)) 158 (4) (nI 0)) 158 (13) ((-1 : Int32))) 158 (22) (nI 0)) 158 (5) (nI 0)) 158 (14) ((-1 : Int32))) 158 (23) (nI 0)) 0 [.int (nI 0), .int (nI 0), .int (nI 6), uu] [] from ?_))
  refine aw_iload_n rfl rfl d_F_at_0 ?_
  refine aw_if_ltI (tgt := 34) (0) (by decide +kernel) (by decide) d_F_at_1 (fun q => absurd q (by decide)) (fun _ => ?_)
  refine aw_iload_n rfl rfl d_F_at_4 ?_
  refine aw_sipush (v := nI 144) cs_144 d_F_at_5 ?_
  refine aw_icmp_gtI (tgt := 34) (0) (144) (by decide +kernel) (by decide +kernel) (by decide) d_F_at_8 (fun q => absurd q (by decide)) (fun _ => ?_)
  refine aw_iload_n rfl rfl d_F_at_11 ?_
  refine aw_if_ltI (tgt := 34) (0) (by decide +kernel) (by decide) d_F_at_12 (fun q => absurd q (by decide)) (fun _ => ?_)
  refine aw_iload_n rfl rfl d_F_at_15 ?_
  refine aw_iconst (v := nI 3) ci_3 d_F_at_16 ?_
  refine aw_icmp_geI (tgt := 34) (0) (3) (by decide +kernel) (by decide +kernel) (by decide) d_F_at_17 (fun q => absurd q (by decide)) (fun _ => ?_)
  refine aw_iload_n rfl rfl d_F_at_20 ?_
  refine aw_if_ltI (tgt := 34) (6) (by decide +kernel) (by decide) d_F_at_21 (fun q => absurd q (by decide)) (fun _ => ?_)
  refine aw_iload_n rfl rfl d_F_at_24 ?_
  refine aw_bipush (v := nI 9) cb_9 d_F_at_25 ?_
  refine aw_icmp_geI (tgt := 34) (6) (9) (by decide +kernel) (by decide +kernel) (by decide) d_F_at_27 (fun q => absurd q (by decide)) (fun _ => ?_)
  refine aw_iconst (v := nI 1) ci_1 d_F_at_30 ?_
  refine aw_goto (tgt := 35) (by decide) d_F_at_31 ?_
  refine aw_istore_n (lv2 := [.int (nI 0), .int (nI 0), .int (nI 6), .int (nI 1)]) rfl (by decide) rfl d_F_at_35 ?_
  refine aw_iload_n rfl rfl d_F_at_36 ?_
  refine aw_if_eqI (tgt := 53) (1) (by decide +kernel) (by decide) d_F_at_37 (fun q => absurd q (by decide)) (fun _ => ?_)
  refine aw_iload_n rfl rfl d_F_at_40 ?_
  refine aw_iconst (v := nI 3) ci_3 d_F_at_41 ?_
  refine aw_imul d_F_at_42 ?_
  refine aw_top (x2 := nI 0) (by decide +kernel) ?_
  refine aw_iload_n rfl rfl d_F_at_43 ?_
  refine aw_iadd d_F_at_44 ?_
  refine aw_top (x2 := nI 0) (by decide +kernel) ?_
  refine aw_bipush (v := nI 9) cb_9 d_F_at_45 ?_
  refine aw_imul d_F_at_47 ?_
  refine aw_top (x2 := nI 0) (by decide +kernel) ?_
  refine aw_iload_n rfl rfl d_F_at_48 ?_
  refine aw_iadd d_F_at_49 ?_
  refine aw_top (x2 := nI 6) (by decide +kernel) ?_
  refine aw_goto (tgt := 54) (by decide) d_F_at_50 ?_
  refine as_reti rfl d_F_at_54 ?_
  refine (show As l b 6 y_F_fillMost KC RC K2 (upd2 (upd2 (upd2 (upd2 (upd2 (upd2 (upd2 (upd2 (upd2 (upd2 (upd2 (upd2 (upd2 (upd2 (upd2 (upd2 (upd2 (upd2 I 158 (0) (nI 0)) 158 (9) ((-1 : Int32))) 158 (18) (nI 0)) 158 (1) (nI 0)) 158 (10) ((-1 : Int32))) 158 (19) (nI 0)) 158 (2) (nI 0)) 158 (11) ((-1 : Int32))) 158 (20) (nI 0)) 158 (3) (nI 0)) 158 (12) ((-1 : Int32))) 158 (21) (nI 0)) 158 (4) (nI 0)) 158 (13) ((-1 : Int32))) 158 (22) (nI 0)) 158 (5) (nI 0)) 158 (14) ((-1 : Int32))) 158 (23) (nI 0)) 45 [.ref 154, .ref 1, .int (lg), .int (nI 4), .int (nI 6), uu, uu] [.int (nI 6), .ref 158] from ?_)
  refine aw_iconst (v := nI 0) ci_0 d_F_fillMost_45 ?_
  refine aw_iast (j := 6) kc_158 (vp_in_nI (by decide) (by decide)) (nI_clamp (by decide)) d_F_fillMost_46 ?_
  refine aw_aload_n rfl rfl d_F_fillMost_47 ?_
  refine aw_getr fl_F_21 kc_154 (by decide) rfl rc_154_4 d_F_fillMost_48 ?_
  refine aw_aload_n rfl rfl d_F_fillMost_51 ?_
  refine aw_geti fl_F_46 kc_154 (by decide) rfl d_F_fillMost_52 ?_
  refine aw_top (x2 := nI 0) (Eq.trans (congrFun (upd2_ne (by decide)) (3)) (Eq.trans (congrFun (upd2_ne (by decide)) (3)) (Eq.trans (congrFun (upd2_ne (by decide)) (3)) (Eq.trans (congrFun (upd2_ne (by decide)) (3)) (Eq.trans (congrFun (upd2_ne (by decide)) (3)) (Eq.trans (congrFun (upd2_ne (by decide)) (3)) (Eq.trans (congrFun (upd2_ne (by decide)) (3)) (Eq.trans (congrFun (upd2_ne (by decide)) (3)) (Eq.trans (congrFun (upd2_ne (by decide)) (3)) (Eq.trans (congrFun (upd2_ne (by decide)) (3)) (Eq.trans (congrFun (upd2_ne (by decide)) (3)) (Eq.trans (congrFun (upd2_ne (by decide)) (3)) (Eq.trans (congrFun (upd2_ne (by decide)) (3)) (Eq.trans (congrFun (upd2_ne (by decide)) (3)) (Eq.trans (congrFun (upd2_ne (by decide)) (3)) (Eq.trans (congrFun (upd2_ne (by decide)) (3)) (Eq.trans (congrFun (upd2_ne (by decide)) (3)) (Eq.trans (congrFun (upd2_ne (by decide)) (3)) (Eq.trans (congrFun (upd2_ne (by decide)) (3)) (fs)))))))))))))))))))) ?_
  refine aw_iconst (v := nI 1) ci_1 d_F_fillMost_55 ?_
  refine aw_iload rfl d_F_fillMost_56 ?_
  refine as_callS (as := [.int (nI 0), .int (nI 1), .int (nI 6)]) (d' := 5) mo_F_at lk_F_50 rfl ⟨by decide, by decide⟩ rfl rfl (by decide) d_F_fillMost_58 (Ss.of (show As l b 5 y_F_at KC RC _ (upd2 (upd2 (upd2 (upd2 (upd2 (upd2 (upd2 (upd2 (upd2 (upd2 (upd2 (upd2 (upd2 (upd2 (upd2 (upd2 (upd2 (upd2 (upd2 I 158 (0) (nI 0)) 158 (9) ((-1 : Int32))) 158 (18) (nI 0)) 158 (1) (nI 0)) 158 (10) ((-1 : Int32))) 158 (19) (nI 0)) 158 (2) (nI 0)) 158 (11) ((-1 : Int32))) 158 (20) (nI 0)) 158 (3) (nI 0)) 158 (12) ((-1 : Int32))) 158 (21) (nI 0)) 158 (4) (nI 0)) 158 (13) ((-1 : Int32))) 158 (22) (nI 0)) 158 (5) (nI 0)) 158 (14) ((-1 : Int32))) 158 (23) (nI 0)) 158 (6) (nI 0)) 0 [.int (nI 0), .int (nI 1), .int (nI 6), uu] [] from ?_))
  refine aw_iload_n rfl rfl d_F_at_0 ?_
  refine aw_if_ltI (tgt := 34) (0) (by decide +kernel) (by decide) d_F_at_1 (fun q => absurd q (by decide)) (fun _ => ?_)
  refine aw_iload_n rfl rfl d_F_at_4 ?_
  refine aw_sipush (v := nI 144) cs_144 d_F_at_5 ?_
  refine aw_icmp_gtI (tgt := 34) (0) (144) (by decide +kernel) (by decide +kernel) (by decide) d_F_at_8 (fun q => absurd q (by decide)) (fun _ => ?_)
  refine aw_iload_n rfl rfl d_F_at_11 ?_
  refine aw_if_ltI (tgt := 34) (1) (by decide +kernel) (by decide) d_F_at_12 (fun q => absurd q (by decide)) (fun _ => ?_)
  refine aw_iload_n rfl rfl d_F_at_15 ?_
  refine aw_iconst (v := nI 3) ci_3 d_F_at_16 ?_
  refine aw_icmp_geI (tgt := 34) (1) (3) (by decide +kernel) (by decide +kernel) (by decide) d_F_at_17 (fun q => absurd q (by decide)) (fun _ => ?_)
  refine aw_iload_n rfl rfl d_F_at_20 ?_
  refine aw_if_ltI (tgt := 34) (6) (by decide +kernel) (by decide) d_F_at_21 (fun q => absurd q (by decide)) (fun _ => ?_)
  refine aw_iload_n rfl rfl d_F_at_24 ?_
  refine aw_bipush (v := nI 9) cb_9 d_F_at_25 ?_
  refine aw_icmp_geI (tgt := 34) (6) (9) (by decide +kernel) (by decide +kernel) (by decide) d_F_at_27 (fun q => absurd q (by decide)) (fun _ => ?_)
  refine aw_iconst (v := nI 1) ci_1 d_F_at_30 ?_
  refine aw_goto (tgt := 35) (by decide) d_F_at_31 ?_
  refine aw_istore_n (lv2 := [.int (nI 0), .int (nI 1), .int (nI 6), .int (nI 1)]) rfl (by decide) rfl d_F_at_35 ?_
  refine aw_iload_n rfl rfl d_F_at_36 ?_
  refine aw_if_eqI (tgt := 53) (1) (by decide +kernel) (by decide) d_F_at_37 (fun q => absurd q (by decide)) (fun _ => ?_)
  refine aw_iload_n rfl rfl d_F_at_40 ?_
  refine aw_iconst (v := nI 3) ci_3 d_F_at_41 ?_
  refine aw_imul d_F_at_42 ?_
  refine aw_top (x2 := nI 0) (by decide +kernel) ?_
  refine aw_iload_n rfl rfl d_F_at_43 ?_
  refine aw_iadd d_F_at_44 ?_
  refine aw_top (x2 := nI 1) (by decide +kernel) ?_
  refine aw_bipush (v := nI 9) cb_9 d_F_at_45 ?_
  refine aw_imul d_F_at_47 ?_
  refine aw_top (x2 := nI 9) (by decide +kernel) ?_
  refine aw_iload_n rfl rfl d_F_at_48 ?_
  refine aw_iadd d_F_at_49 ?_
  refine aw_top (x2 := nI 15) (by decide +kernel) ?_
  refine aw_goto (tgt := 54) (by decide) d_F_at_50 ?_
  refine as_reti rfl d_F_at_54 ?_
  refine (show As l b 6 y_F_fillMost KC RC K2 (upd2 (upd2 (upd2 (upd2 (upd2 (upd2 (upd2 (upd2 (upd2 (upd2 (upd2 (upd2 (upd2 (upd2 (upd2 (upd2 (upd2 (upd2 (upd2 I 158 (0) (nI 0)) 158 (9) ((-1 : Int32))) 158 (18) (nI 0)) 158 (1) (nI 0)) 158 (10) ((-1 : Int32))) 158 (19) (nI 0)) 158 (2) (nI 0)) 158 (11) ((-1 : Int32))) 158 (20) (nI 0)) 158 (3) (nI 0)) 158 (12) ((-1 : Int32))) 158 (21) (nI 0)) 158 (4) (nI 0)) 158 (13) ((-1 : Int32))) 158 (22) (nI 0)) 158 (5) (nI 0)) 158 (14) ((-1 : Int32))) 158 (23) (nI 0)) 158 (6) (nI 0)) 61 [.ref 154, .ref 1, .int (lg), .int (nI 4), .int (nI 6), uu, uu] [.int (nI 15), .ref 158] from ?_)
  refine aw_iconst (v := (-1 : Int32)) rfl d_F_fillMost_61 ?_
  refine aw_iast (j := 15) kc_158 (vp_in_nI (by decide) (by decide)) (nI_clamp (by decide)) d_F_fillMost_62 ?_
  refine aw_aload_n rfl rfl d_F_fillMost_63 ?_
  refine aw_getr fl_F_21 kc_154 (by decide) rfl rc_154_4 d_F_fillMost_64 ?_
  refine aw_aload_n rfl rfl d_F_fillMost_67 ?_
  refine aw_geti fl_F_46 kc_154 (by decide) rfl d_F_fillMost_68 ?_
  refine aw_top (x2 := nI 0) (Eq.trans (congrFun (upd2_ne (by decide)) (3)) (Eq.trans (congrFun (upd2_ne (by decide)) (3)) (Eq.trans (congrFun (upd2_ne (by decide)) (3)) (Eq.trans (congrFun (upd2_ne (by decide)) (3)) (Eq.trans (congrFun (upd2_ne (by decide)) (3)) (Eq.trans (congrFun (upd2_ne (by decide)) (3)) (Eq.trans (congrFun (upd2_ne (by decide)) (3)) (Eq.trans (congrFun (upd2_ne (by decide)) (3)) (Eq.trans (congrFun (upd2_ne (by decide)) (3)) (Eq.trans (congrFun (upd2_ne (by decide)) (3)) (Eq.trans (congrFun (upd2_ne (by decide)) (3)) (Eq.trans (congrFun (upd2_ne (by decide)) (3)) (Eq.trans (congrFun (upd2_ne (by decide)) (3)) (Eq.trans (congrFun (upd2_ne (by decide)) (3)) (Eq.trans (congrFun (upd2_ne (by decide)) (3)) (Eq.trans (congrFun (upd2_ne (by decide)) (3)) (Eq.trans (congrFun (upd2_ne (by decide)) (3)) (Eq.trans (congrFun (upd2_ne (by decide)) (3)) (Eq.trans (congrFun (upd2_ne (by decide)) (3)) (Eq.trans (congrFun (upd2_ne (by decide)) (3)) (fs))))))))))))))))))))) ?_
  refine aw_iconst (v := nI 2) ci_2 d_F_fillMost_71 ?_
  refine aw_iload rfl d_F_fillMost_72 ?_
  refine as_callS (as := [.int (nI 0), .int (nI 2), .int (nI 6)]) (d' := 5) mo_F_at lk_F_50 rfl ⟨by decide, by decide⟩ rfl rfl (by decide) d_F_fillMost_74 (Ss.of (show As l b 5 y_F_at KC RC _ (upd2 (upd2 (upd2 (upd2 (upd2 (upd2 (upd2 (upd2 (upd2 (upd2 (upd2 (upd2 (upd2 (upd2 (upd2 (upd2 (upd2 (upd2 (upd2 (upd2 I 158 (0) (nI 0)) 158 (9) ((-1 : Int32))) 158 (18) (nI 0)) 158 (1) (nI 0)) 158 (10) ((-1 : Int32))) 158 (19) (nI 0)) 158 (2) (nI 0)) 158 (11) ((-1 : Int32))) 158 (20) (nI 0)) 158 (3) (nI 0)) 158 (12) ((-1 : Int32))) 158 (21) (nI 0)) 158 (4) (nI 0)) 158 (13) ((-1 : Int32))) 158 (22) (nI 0)) 158 (5) (nI 0)) 158 (14) ((-1 : Int32))) 158 (23) (nI 0)) 158 (6) (nI 0)) 158 (15) ((-1 : Int32))) 0 [.int (nI 0), .int (nI 2), .int (nI 6), uu] [] from ?_))
  refine aw_iload_n rfl rfl d_F_at_0 ?_
  refine aw_if_ltI (tgt := 34) (0) (by decide +kernel) (by decide) d_F_at_1 (fun q => absurd q (by decide)) (fun _ => ?_)
  refine aw_iload_n rfl rfl d_F_at_4 ?_
  refine aw_sipush (v := nI 144) cs_144 d_F_at_5 ?_
  refine aw_icmp_gtI (tgt := 34) (0) (144) (by decide +kernel) (by decide +kernel) (by decide) d_F_at_8 (fun q => absurd q (by decide)) (fun _ => ?_)
  refine aw_iload_n rfl rfl d_F_at_11 ?_
  refine aw_if_ltI (tgt := 34) (2) (by decide +kernel) (by decide) d_F_at_12 (fun q => absurd q (by decide)) (fun _ => ?_)
  refine aw_iload_n rfl rfl d_F_at_15 ?_
  refine aw_iconst (v := nI 3) ci_3 d_F_at_16 ?_
  refine aw_icmp_geI (tgt := 34) (2) (3) (by decide +kernel) (by decide +kernel) (by decide) d_F_at_17 (fun q => absurd q (by decide)) (fun _ => ?_)
  refine aw_iload_n rfl rfl d_F_at_20 ?_
  refine aw_if_ltI (tgt := 34) (6) (by decide +kernel) (by decide) d_F_at_21 (fun q => absurd q (by decide)) (fun _ => ?_)
  refine aw_iload_n rfl rfl d_F_at_24 ?_
  refine aw_bipush (v := nI 9) cb_9 d_F_at_25 ?_
  refine aw_icmp_geI (tgt := 34) (6) (9) (by decide +kernel) (by decide +kernel) (by decide) d_F_at_27 (fun q => absurd q (by decide)) (fun _ => ?_)
  refine aw_iconst (v := nI 1) ci_1 d_F_at_30 ?_
  refine aw_goto (tgt := 35) (by decide) d_F_at_31 ?_
  refine aw_istore_n (lv2 := [.int (nI 0), .int (nI 2), .int (nI 6), .int (nI 1)]) rfl (by decide) rfl d_F_at_35 ?_
  refine aw_iload_n rfl rfl d_F_at_36 ?_
  refine aw_if_eqI (tgt := 53) (1) (by decide +kernel) (by decide) d_F_at_37 (fun q => absurd q (by decide)) (fun _ => ?_)
  refine aw_iload_n rfl rfl d_F_at_40 ?_
  refine aw_iconst (v := nI 3) ci_3 d_F_at_41 ?_
  refine aw_imul d_F_at_42 ?_
  refine aw_top (x2 := nI 0) (by decide +kernel) ?_
  refine aw_iload_n rfl rfl d_F_at_43 ?_
  refine aw_iadd d_F_at_44 ?_
  refine aw_top (x2 := nI 2) (by decide +kernel) ?_
  refine aw_bipush (v := nI 9) cb_9 d_F_at_45 ?_
  refine aw_imul d_F_at_47 ?_
  refine aw_top (x2 := nI 18) (by decide +kernel) ?_
  refine aw_iload_n rfl rfl d_F_at_48 ?_
  refine aw_iadd d_F_at_49 ?_
  refine aw_top (x2 := nI 24) (by decide +kernel) ?_
  refine aw_goto (tgt := 54) (by decide) d_F_at_50 ?_
  refine as_reti rfl d_F_at_54 ?_
  refine (show As l b 6 y_F_fillMost KC RC K2 (upd2 (upd2 (upd2 (upd2 (upd2 (upd2 (upd2 (upd2 (upd2 (upd2 (upd2 (upd2 (upd2 (upd2 (upd2 (upd2 (upd2 (upd2 (upd2 (upd2 I 158 (0) (nI 0)) 158 (9) ((-1 : Int32))) 158 (18) (nI 0)) 158 (1) (nI 0)) 158 (10) ((-1 : Int32))) 158 (19) (nI 0)) 158 (2) (nI 0)) 158 (11) ((-1 : Int32))) 158 (20) (nI 0)) 158 (3) (nI 0)) 158 (12) ((-1 : Int32))) 158 (21) (nI 0)) 158 (4) (nI 0)) 158 (13) ((-1 : Int32))) 158 (22) (nI 0)) 158 (5) (nI 0)) 158 (14) ((-1 : Int32))) 158 (23) (nI 0)) 158 (6) (nI 0)) 158 (15) ((-1 : Int32))) 77 [.ref 154, .ref 1, .int (lg), .int (nI 4), .int (nI 6), uu, uu] [.int (nI 24), .ref 158] from ?_)
  refine aw_iconst (v := nI 0) ci_0 d_F_fillMost_77 ?_
  refine aw_iast (j := 24) kc_158 (vp_in_nI (by decide) (by decide)) (nI_clamp (by decide)) d_F_fillMost_78 ?_
  refine aw_iinc (v := nI 7) (lv2 := [.ref 154, .ref 1, .int (lg), .int (nI 4), .int (nI 7), uu, uu]) rfl (by decide +kernel) (by decide) rfl d_F_fillMost_79 ?_
  refine aw_goto (tgt := 24) (by decide) d_F_fillMost_82 ?_
  refine aw_iload rfl d_F_fillMost_24 ?_
  refine aw_bipush (v := nI 9) cb_9 d_F_fillMost_26 ?_
  refine aw_icmp_geI (tgt := 85) (7) (9) (by decide +kernel) (by decide +kernel) (by decide) d_F_fillMost_28 (fun q => absurd q (by decide)) (fun _ => ?_)
  refine aw_aload_n rfl rfl d_F_fillMost_31 ?_
  refine aw_getr fl_F_21 kc_154 (by decide) rfl rc_154_4 d_F_fillMost_32 ?_
  refine aw_aload_n rfl rfl d_F_fillMost_35 ?_
  refine aw_geti fl_F_46 kc_154 (by decide) rfl d_F_fillMost_36 ?_
  refine aw_top (x2 := nI 0) (Eq.trans (congrFun (upd2_ne (by decide)) (3)) (Eq.trans (congrFun (upd2_ne (by decide)) (3)) (Eq.trans (congrFun (upd2_ne (by decide)) (3)) (Eq.trans (congrFun (upd2_ne (by decide)) (3)) (Eq.trans (congrFun (upd2_ne (by decide)) (3)) (Eq.trans (congrFun (upd2_ne (by decide)) (3)) (Eq.trans (congrFun (upd2_ne (by decide)) (3)) (Eq.trans (congrFun (upd2_ne (by decide)) (3)) (Eq.trans (congrFun (upd2_ne (by decide)) (3)) (Eq.trans (congrFun (upd2_ne (by decide)) (3)) (Eq.trans (congrFun (upd2_ne (by decide)) (3)) (Eq.trans (congrFun (upd2_ne (by decide)) (3)) (Eq.trans (congrFun (upd2_ne (by decide)) (3)) (Eq.trans (congrFun (upd2_ne (by decide)) (3)) (Eq.trans (congrFun (upd2_ne (by decide)) (3)) (Eq.trans (congrFun (upd2_ne (by decide)) (3)) (Eq.trans (congrFun (upd2_ne (by decide)) (3)) (Eq.trans (congrFun (upd2_ne (by decide)) (3)) (Eq.trans (congrFun (upd2_ne (by decide)) (3)) (Eq.trans (congrFun (upd2_ne (by decide)) (3)) (Eq.trans (congrFun (upd2_ne (by decide)) (3)) (fs)))))))))))))))))))))) ?_
  refine aw_iconst (v := nI 0) ci_0 d_F_fillMost_39 ?_
  refine aw_iload rfl d_F_fillMost_40 ?_
  refine as_callS (as := [.int (nI 0), .int (nI 0), .int (nI 7)]) (d' := 5) mo_F_at lk_F_50 rfl ⟨by decide, by decide⟩ rfl rfl (by decide) d_F_fillMost_42 (Ss.of (show As l b 5 y_F_at KC RC _ (upd2 (upd2 (upd2 (upd2 (upd2 (upd2 (upd2 (upd2 (upd2 (upd2 (upd2 (upd2 (upd2 (upd2 (upd2 (upd2 (upd2 (upd2 (upd2 (upd2 (upd2 I 158 (0) (nI 0)) 158 (9) ((-1 : Int32))) 158 (18) (nI 0)) 158 (1) (nI 0)) 158 (10) ((-1 : Int32))) 158 (19) (nI 0)) 158 (2) (nI 0)) 158 (11) ((-1 : Int32))) 158 (20) (nI 0)) 158 (3) (nI 0)) 158 (12) ((-1 : Int32))) 158 (21) (nI 0)) 158 (4) (nI 0)) 158 (13) ((-1 : Int32))) 158 (22) (nI 0)) 158 (5) (nI 0)) 158 (14) ((-1 : Int32))) 158 (23) (nI 0)) 158 (6) (nI 0)) 158 (15) ((-1 : Int32))) 158 (24) (nI 0)) 0 [.int (nI 0), .int (nI 0), .int (nI 7), uu] [] from ?_))
  refine aw_iload_n rfl rfl d_F_at_0 ?_
  refine aw_if_ltI (tgt := 34) (0) (by decide +kernel) (by decide) d_F_at_1 (fun q => absurd q (by decide)) (fun _ => ?_)
  refine aw_iload_n rfl rfl d_F_at_4 ?_
  refine aw_sipush (v := nI 144) cs_144 d_F_at_5 ?_
  refine aw_icmp_gtI (tgt := 34) (0) (144) (by decide +kernel) (by decide +kernel) (by decide) d_F_at_8 (fun q => absurd q (by decide)) (fun _ => ?_)
  refine aw_iload_n rfl rfl d_F_at_11 ?_
  refine aw_if_ltI (tgt := 34) (0) (by decide +kernel) (by decide) d_F_at_12 (fun q => absurd q (by decide)) (fun _ => ?_)
  refine aw_iload_n rfl rfl d_F_at_15 ?_
  refine aw_iconst (v := nI 3) ci_3 d_F_at_16 ?_
  refine aw_icmp_geI (tgt := 34) (0) (3) (by decide +kernel) (by decide +kernel) (by decide) d_F_at_17 (fun q => absurd q (by decide)) (fun _ => ?_)
  refine aw_iload_n rfl rfl d_F_at_20 ?_
  refine aw_if_ltI (tgt := 34) (7) (by decide +kernel) (by decide) d_F_at_21 (fun q => absurd q (by decide)) (fun _ => ?_)
  refine aw_iload_n rfl rfl d_F_at_24 ?_
  refine aw_bipush (v := nI 9) cb_9 d_F_at_25 ?_
  refine aw_icmp_geI (tgt := 34) (7) (9) (by decide +kernel) (by decide +kernel) (by decide) d_F_at_27 (fun q => absurd q (by decide)) (fun _ => ?_)
  refine aw_iconst (v := nI 1) ci_1 d_F_at_30 ?_
  refine aw_goto (tgt := 35) (by decide) d_F_at_31 ?_
  refine aw_istore_n (lv2 := [.int (nI 0), .int (nI 0), .int (nI 7), .int (nI 1)]) rfl (by decide) rfl d_F_at_35 ?_
  refine aw_iload_n rfl rfl d_F_at_36 ?_
  refine aw_if_eqI (tgt := 53) (1) (by decide +kernel) (by decide) d_F_at_37 (fun q => absurd q (by decide)) (fun _ => ?_)
  refine aw_iload_n rfl rfl d_F_at_40 ?_
  refine aw_iconst (v := nI 3) ci_3 d_F_at_41 ?_
  refine aw_imul d_F_at_42 ?_
  refine aw_top (x2 := nI 0) (by decide +kernel) ?_
  refine aw_iload_n rfl rfl d_F_at_43 ?_
  refine aw_iadd d_F_at_44 ?_
  refine aw_top (x2 := nI 0) (by decide +kernel) ?_
  refine aw_bipush (v := nI 9) cb_9 d_F_at_45 ?_
  refine aw_imul d_F_at_47 ?_
  refine aw_top (x2 := nI 0) (by decide +kernel) ?_
  refine aw_iload_n rfl rfl d_F_at_48 ?_
  refine aw_iadd d_F_at_49 ?_
  refine aw_top (x2 := nI 7) (by decide +kernel) ?_
  refine aw_goto (tgt := 54) (by decide) d_F_at_50 ?_
  refine as_reti rfl d_F_at_54 ?_
  refine (show As l b 6 y_F_fillMost KC RC K2 (upd2 (upd2 (upd2 (upd2 (upd2 (upd2 (upd2 (upd2 (upd2 (upd2 (upd2 (upd2 (upd2 (upd2 (upd2 (upd2 (upd2 (upd2 (upd2 (upd2 (upd2 I 158 (0) (nI 0)) 158 (9) ((-1 : Int32))) 158 (18) (nI 0)) 158 (1) (nI 0)) 158 (10) ((-1 : Int32))) 158 (19) (nI 0)) 158 (2) (nI 0)) 158 (11) ((-1 : Int32))) 158 (20) (nI 0)) 158 (3) (nI 0)) 158 (12) ((-1 : Int32))) 158 (21) (nI 0)) 158 (4) (nI 0)) 158 (13) ((-1 : Int32))) 158 (22) (nI 0)) 158 (5) (nI 0)) 158 (14) ((-1 : Int32))) 158 (23) (nI 0)) 158 (6) (nI 0)) 158 (15) ((-1 : Int32))) 158 (24) (nI 0)) 45 [.ref 154, .ref 1, .int (lg), .int (nI 4), .int (nI 7), uu, uu] [.int (nI 7), .ref 158] from ?_)
  refine aw_iconst (v := nI 0) ci_0 d_F_fillMost_45 ?_
  refine aw_iast (j := 7) kc_158 (vp_in_nI (by decide) (by decide)) (nI_clamp (by decide)) d_F_fillMost_46 ?_
  refine aw_aload_n rfl rfl d_F_fillMost_47 ?_
  refine aw_getr fl_F_21 kc_154 (by decide) rfl rc_154_4 d_F_fillMost_48 ?_
  refine aw_aload_n rfl rfl d_F_fillMost_51 ?_
  refine aw_geti fl_F_46 kc_154 (by decide) rfl d_F_fillMost_52 ?_
  refine aw_top (x2 := nI 0) (Eq.trans (congrFun (upd2_ne (by decide)) (3)) (Eq.trans (congrFun (upd2_ne (by decide)) (3)) (Eq.trans (congrFun (upd2_ne (by decide)) (3)) (Eq.trans (congrFun (upd2_ne (by decide)) (3)) (Eq.trans (congrFun (upd2_ne (by decide)) (3)) (Eq.trans (congrFun (upd2_ne (by decide)) (3)) (Eq.trans (congrFun (upd2_ne (by decide)) (3)) (Eq.trans (congrFun (upd2_ne (by decide)) (3)) (Eq.trans (congrFun (upd2_ne (by decide)) (3)) (Eq.trans (congrFun (upd2_ne (by decide)) (3)) (Eq.trans (congrFun (upd2_ne (by decide)) (3)) (Eq.trans (congrFun (upd2_ne (by decide)) (3)) (Eq.trans (congrFun (upd2_ne (by decide)) (3)) (Eq.trans (congrFun (upd2_ne (by decide)) (3)) (Eq.trans (congrFun (upd2_ne (by decide)) (3)) (Eq.trans (congrFun (upd2_ne (by decide)) (3)) (Eq.trans (congrFun (upd2_ne (by decide)) (3)) (Eq.trans (congrFun (upd2_ne (by decide)) (3)) (Eq.trans (congrFun (upd2_ne (by decide)) (3)) (Eq.trans (congrFun (upd2_ne (by decide)) (3)) (Eq.trans (congrFun (upd2_ne (by decide)) (3)) (Eq.trans (congrFun (upd2_ne (by decide)) (3)) (fs))))))))))))))))))))))) ?_
  refine aw_iconst (v := nI 1) ci_1 d_F_fillMost_55 ?_
  refine aw_iload rfl d_F_fillMost_56 ?_
  refine as_callS (as := [.int (nI 0), .int (nI 1), .int (nI 7)]) (d' := 5) mo_F_at lk_F_50 rfl ⟨by decide, by decide⟩ rfl rfl (by decide) d_F_fillMost_58 (Ss.of (show As l b 5 y_F_at KC RC _ (upd2 (upd2 (upd2 (upd2 (upd2 (upd2 (upd2 (upd2 (upd2 (upd2 (upd2 (upd2 (upd2 (upd2 (upd2 (upd2 (upd2 (upd2 (upd2 (upd2 (upd2 (upd2 I 158 (0) (nI 0)) 158 (9) ((-1 : Int32))) 158 (18) (nI 0)) 158 (1) (nI 0)) 158 (10) ((-1 : Int32))) 158 (19) (nI 0)) 158 (2) (nI 0)) 158 (11) ((-1 : Int32))) 158 (20) (nI 0)) 158 (3) (nI 0)) 158 (12) ((-1 : Int32))) 158 (21) (nI 0)) 158 (4) (nI 0)) 158 (13) ((-1 : Int32))) 158 (22) (nI 0)) 158 (5) (nI 0)) 158 (14) ((-1 : Int32))) 158 (23) (nI 0)) 158 (6) (nI 0)) 158 (15) ((-1 : Int32))) 158 (24) (nI 0)) 158 (7) (nI 0)) 0 [.int (nI 0), .int (nI 1), .int (nI 7), uu] [] from ?_))
  refine aw_iload_n rfl rfl d_F_at_0 ?_
  refine aw_if_ltI (tgt := 34) (0) (by decide +kernel) (by decide) d_F_at_1 (fun q => absurd q (by decide)) (fun _ => ?_)
  refine aw_iload_n rfl rfl d_F_at_4 ?_
  refine aw_sipush (v := nI 144) cs_144 d_F_at_5 ?_
  refine aw_icmp_gtI (tgt := 34) (0) (144) (by decide +kernel) (by decide +kernel) (by decide) d_F_at_8 (fun q => absurd q (by decide)) (fun _ => ?_)
  refine aw_iload_n rfl rfl d_F_at_11 ?_
  refine aw_if_ltI (tgt := 34) (1) (by decide +kernel) (by decide) d_F_at_12 (fun q => absurd q (by decide)) (fun _ => ?_)
  refine aw_iload_n rfl rfl d_F_at_15 ?_
  refine aw_iconst (v := nI 3) ci_3 d_F_at_16 ?_
  refine aw_icmp_geI (tgt := 34) (1) (3) (by decide +kernel) (by decide +kernel) (by decide) d_F_at_17 (fun q => absurd q (by decide)) (fun _ => ?_)
  refine aw_iload_n rfl rfl d_F_at_20 ?_
  refine aw_if_ltI (tgt := 34) (7) (by decide +kernel) (by decide) d_F_at_21 (fun q => absurd q (by decide)) (fun _ => ?_)
  refine aw_iload_n rfl rfl d_F_at_24 ?_
  refine aw_bipush (v := nI 9) cb_9 d_F_at_25 ?_
  refine aw_icmp_geI (tgt := 34) (7) (9) (by decide +kernel) (by decide +kernel) (by decide) d_F_at_27 (fun q => absurd q (by decide)) (fun _ => ?_)
  refine aw_iconst (v := nI 1) ci_1 d_F_at_30 ?_
  refine aw_goto (tgt := 35) (by decide) d_F_at_31 ?_
  refine aw_istore_n (lv2 := [.int (nI 0), .int (nI 1), .int (nI 7), .int (nI 1)]) rfl (by decide) rfl d_F_at_35 ?_
  refine aw_iload_n rfl rfl d_F_at_36 ?_
  refine aw_if_eqI (tgt := 53) (1) (by decide +kernel) (by decide) d_F_at_37 (fun q => absurd q (by decide)) (fun _ => ?_)
  refine aw_iload_n rfl rfl d_F_at_40 ?_
  refine aw_iconst (v := nI 3) ci_3 d_F_at_41 ?_
  refine aw_imul d_F_at_42 ?_
  refine aw_top (x2 := nI 0) (by decide +kernel) ?_
  refine aw_iload_n rfl rfl d_F_at_43 ?_
  refine aw_iadd d_F_at_44 ?_
  refine aw_top (x2 := nI 1) (by decide +kernel) ?_
  refine aw_bipush (v := nI 9) cb_9 d_F_at_45 ?_
  refine aw_imul d_F_at_47 ?_
  refine aw_top (x2 := nI 9) (by decide +kernel) ?_
  refine aw_iload_n rfl rfl d_F_at_48 ?_
  refine aw_iadd d_F_at_49 ?_
  refine aw_top (x2 := nI 16) (by decide +kernel) ?_
  refine aw_goto (tgt := 54) (by decide) d_F_at_50 ?_
  refine as_reti rfl d_F_at_54 ?_
  refine (show As l b 6 y_F_fillMost KC RC K2 (upd2 (upd2 (upd2 (upd2 (upd2 (upd2 (upd2 (upd2 (upd2 (upd2 (upd2 (upd2 (upd2 (upd2 (upd2 (upd2 (upd2 (upd2 (upd2 (upd2 (upd2 (upd2 I 158 (0) (nI 0)) 158 (9) ((-1 : Int32))) 158 (18) (nI 0)) 158 (1) (nI 0)) 158 (10) ((-1 : Int32))) 158 (19) (nI 0)) 158 (2) (nI 0)) 158 (11) ((-1 : Int32))) 158 (20) (nI 0)) 158 (3) (nI 0)) 158 (12) ((-1 : Int32))) 158 (21) (nI 0)) 158 (4) (nI 0)) 158 (13) ((-1 : Int32))) 158 (22) (nI 0)) 158 (5) (nI 0)) 158 (14) ((-1 : Int32))) 158 (23) (nI 0)) 158 (6) (nI 0)) 158 (15) ((-1 : Int32))) 158 (24) (nI 0)) 158 (7) (nI 0)) 61 [.ref 154, .ref 1, .int (lg), .int (nI 4), .int (nI 7), uu, uu] [.int (nI 16), .ref 158] from ?_)
  refine aw_iconst (v := (-1 : Int32)) rfl d_F_fillMost_61 ?_
  refine aw_iast (j := 16) kc_158 (vp_in_nI (by decide) (by decide)) (nI_clamp (by decide)) d_F_fillMost_62 ?_
  refine aw_aload_n rfl rfl d_F_fillMost_63 ?_
  refine aw_getr fl_F_21 kc_154 (by decide) rfl rc_154_4 d_F_fillMost_64 ?_
  refine aw_aload_n rfl rfl d_F_fillMost_67 ?_
  refine aw_geti fl_F_46 kc_154 (by decide) rfl d_F_fillMost_68 ?_
  refine aw_top (x2 := nI 0) (Eq.trans (congrFun (upd2_ne (by decide)) (3)) (Eq.trans (congrFun (upd2_ne (by decide)) (3)) (Eq.trans (congrFun (upd2_ne (by decide)) (3)) (Eq.trans (congrFun (upd2_ne (by decide)) (3)) (Eq.trans (congrFun (upd2_ne (by decide)) (3)) (Eq.trans (congrFun (upd2_ne (by decide)) (3)) (Eq.trans (congrFun (upd2_ne (by decide)) (3)) (Eq.trans (congrFun (upd2_ne (by decide)) (3)) (Eq.trans (congrFun (upd2_ne (by decide)) (3)) (Eq.trans (congrFun (upd2_ne (by decide)) (3)) (Eq.trans (congrFun (upd2_ne (by decide)) (3)) (Eq.trans (congrFun (upd2_ne (by decide)) (3)) (Eq.trans (congrFun (upd2_ne (by decide)) (3)) (Eq.trans (congrFun (upd2_ne (by decide)) (3)) (Eq.trans (congrFun (upd2_ne (by decide)) (3)) (Eq.trans (congrFun (upd2_ne (by decide)) (3)) (Eq.trans (congrFun (upd2_ne (by decide)) (3)) (Eq.trans (congrFun (upd2_ne (by decide)) (3)) (Eq.trans (congrFun (upd2_ne (by decide)) (3)) (Eq.trans (congrFun (upd2_ne (by decide)) (3)) (Eq.trans (congrFun (upd2_ne (by decide)) (3)) (Eq.trans (congrFun (upd2_ne (by decide)) (3)) (Eq.trans (congrFun (upd2_ne (by decide)) (3)) (fs)))))))))))))))))))))))) ?_
  refine aw_iconst (v := nI 2) ci_2 d_F_fillMost_71 ?_
  refine aw_iload rfl d_F_fillMost_72 ?_
  refine as_callS (as := [.int (nI 0), .int (nI 2), .int (nI 7)]) (d' := 5) mo_F_at lk_F_50 rfl ⟨by decide, by decide⟩ rfl rfl (by decide) d_F_fillMost_74 (Ss.of (show As l b 5 y_F_at KC RC _ (upd2 (upd2 (upd2 (upd2 (upd2 (upd2 (upd2 (upd2 (upd2 (upd2 (upd2 (upd2 (upd2 (upd2 (upd2 (upd2 (upd2 (upd2 (upd2 (upd2 (upd2 (upd2 (upd2 I 158 (0) (nI 0)) 158 (9) ((-1 : Int32))) 158 (18) (nI 0)) 158 (1) (nI 0)) 158 (10) ((-1 : Int32))) 158 (19) (nI 0)) 158 (2) (nI 0)) 158 (11) ((-1 : Int32))) 158 (20) (nI 0)) 158 (3) (nI 0)) 158 (12) ((-1 : Int32))) 158 (21) (nI 0)) 158 (4) (nI 0)) 158 (13) ((-1 : Int32))) 158 (22) (nI 0)) 158 (5) (nI 0)) 158 (14) ((-1 : Int32))) 158 (23) (nI 0)) 158 (6) (nI 0)) 158 (15) ((-1 : Int32))) 158 (24) (nI 0)) 158 (7) (nI 0)) 158 (16) ((-1 : Int32))) 0 [.int (nI 0), .int (nI 2), .int (nI 7), uu] [] from ?_))
  refine aw_iload_n rfl rfl d_F_at_0 ?_
  refine aw_if_ltI (tgt := 34) (0) (by decide +kernel) (by decide) d_F_at_1 (fun q => absurd q (by decide)) (fun _ => ?_)
  refine aw_iload_n rfl rfl d_F_at_4 ?_
  refine aw_sipush (v := nI 144) cs_144 d_F_at_5 ?_
  refine aw_icmp_gtI (tgt := 34) (0) (144) (by decide +kernel) (by decide +kernel) (by decide) d_F_at_8 (fun q => absurd q (by decide)) (fun _ => ?_)
  refine aw_iload_n rfl rfl d_F_at_11 ?_
  refine aw_if_ltI (tgt := 34) (2) (by decide +kernel) (by decide) d_F_at_12 (fun q => absurd q (by decide)) (fun _ => ?_)
  refine aw_iload_n rfl rfl d_F_at_15 ?_
  refine aw_iconst (v := nI 3) ci_3 d_F_at_16 ?_
  refine aw_icmp_geI (tgt := 34) (2) (3) (by decide +kernel) (by decide +kernel) (by decide) d_F_at_17 (fun q => absurd q (by decide)) (fun _ => ?_)
  refine aw_iload_n rfl rfl d_F_at_20 ?_
  refine aw_if_ltI (tgt := 34) (7) (by decide +kernel) (by decide) d_F_at_21 (fun q => absurd q (by decide)) (fun _ => ?_)
  refine aw_iload_n rfl rfl d_F_at_24 ?_
  refine aw_bipush (v := nI 9) cb_9 d_F_at_25 ?_
  refine aw_icmp_geI (tgt := 34) (7) (9) (by decide +kernel) (by decide +kernel) (by decide) d_F_at_27 (fun q => absurd q (by decide)) (fun _ => ?_)
  refine aw_iconst (v := nI 1) ci_1 d_F_at_30 ?_
  refine aw_goto (tgt := 35) (by decide) d_F_at_31 ?_
  refine aw_istore_n (lv2 := [.int (nI 0), .int (nI 2), .int (nI 7), .int (nI 1)]) rfl (by decide) rfl d_F_at_35 ?_
  refine aw_iload_n rfl rfl d_F_at_36 ?_
  refine aw_if_eqI (tgt := 53) (1) (by decide +kernel) (by decide) d_F_at_37 (fun q => absurd q (by decide)) (fun _ => ?_)
  refine aw_iload_n rfl rfl d_F_at_40 ?_
  refine aw_iconst (v := nI 3) ci_3 d_F_at_41 ?_
  refine aw_imul d_F_at_42 ?_
  refine aw_top (x2 := nI 0) (by decide +kernel) ?_
  refine aw_iload_n rfl rfl d_F_at_43 ?_
  refine aw_iadd d_F_at_44 ?_
  refine aw_top (x2 := nI 2) (by decide +kernel) ?_
  refine aw_bipush (v := nI 9) cb_9 d_F_at_45 ?_
  refine aw_imul d_F_at_47 ?_
  refine aw_top (x2 := nI 18) (by decide +kernel) ?_
  refine aw_iload_n rfl rfl d_F_at_48 ?_
  refine aw_iadd d_F_at_49 ?_
  refine aw_top (x2 := nI 25) (by decide +kernel) ?_
  refine aw_goto (tgt := 54) (by decide) d_F_at_50 ?_
  refine as_reti rfl d_F_at_54 ?_
  refine (show As l b 6 y_F_fillMost KC RC K2 (upd2 (upd2 (upd2 (upd2 (upd2 (upd2 (upd2 (upd2 (upd2 (upd2 (upd2 (upd2 (upd2 (upd2 (upd2 (upd2 (upd2 (upd2 (upd2 (upd2 (upd2 (upd2 (upd2 I 158 (0) (nI 0)) 158 (9) ((-1 : Int32))) 158 (18) (nI 0)) 158 (1) (nI 0)) 158 (10) ((-1 : Int32))) 158 (19) (nI 0)) 158 (2) (nI 0)) 158 (11) ((-1 : Int32))) 158 (20) (nI 0)) 158 (3) (nI 0)) 158 (12) ((-1 : Int32))) 158 (21) (nI 0)) 158 (4) (nI 0)) 158 (13) ((-1 : Int32))) 158 (22) (nI 0)) 158 (5) (nI 0)) 158 (14) ((-1 : Int32))) 158 (23) (nI 0)) 158 (6) (nI 0)) 158 (15) ((-1 : Int32))) 158 (24) (nI 0)) 158 (7) (nI 0)) 158 (16) ((-1 : Int32))) 77 [.ref 154, .ref 1, .int (lg), .int (nI 4), .int (nI 7), uu, uu] [.int (nI 25), .ref 158] from ?_)
  refine aw_iconst (v := nI 0) ci_0 d_F_fillMost_77 ?_
  refine aw_iast (j := 25) kc_158 (vp_in_nI (by decide) (by decide)) (nI_clamp (by decide)) d_F_fillMost_78 ?_
  refine aw_iinc (v := nI 8) (lv2 := [.ref 154, .ref 1, .int (lg), .int (nI 4), .int (nI 8), uu, uu]) rfl (by decide +kernel) (by decide) rfl d_F_fillMost_79 ?_
  refine aw_goto (tgt := 24) (by decide) d_F_fillMost_82 ?_
  refine aw_iload rfl d_F_fillMost_24 ?_
  refine aw_bipush (v := nI 9) cb_9 d_F_fillMost_26 ?_
  refine aw_icmp_geI (tgt := 85) (8) (9) (by decide +kernel) (by decide +kernel) (by decide) d_F_fillMost_28 (fun q => absurd q (by decide)) (fun _ => ?_)
  refine aw_aload_n rfl rfl d_F_fillMost_31 ?_
  refine aw_getr fl_F_21 kc_154 (by decide) rfl rc_154_4 d_F_fillMost_32 ?_
  refine aw_aload_n rfl rfl d_F_fillMost_35 ?_
  refine aw_geti fl_F_46 kc_154 (by decide) rfl d_F_fillMost_36 ?_
  refine aw_top (x2 := nI 0) (Eq.trans (congrFun (upd2_ne (by decide)) (3)) (Eq.trans (congrFun (upd2_ne (by decide)) (3)) (Eq.trans (congrFun (upd2_ne (by decide)) (3)) (Eq.trans (congrFun (upd2_ne (by decide)) (3)) (Eq.trans (congrFun (upd2_ne (by decide)) (3)) (Eq.trans (congrFun (upd2_ne (by decide)) (3)) (Eq.trans (congrFun (upd2_ne (by decide)) (3)) (Eq.trans (congrFun (upd2_ne (by decide)) (3)) (Eq.trans (congrFun (upd2_ne (by decide)) (3)) (Eq.trans (congrFun (upd2_ne (by decide)) (3)) (Eq.trans (congrFun (upd2_ne (by decide)) (3)) (Eq.trans (congrFun (upd2_ne (by decide)) (3)) (Eq.trans (congrFun (upd2_ne (by decide)) (3)) (Eq.trans (congrFun (upd2_ne (by decide)) (3)) (Eq.trans (congrFun (upd2_ne (by decide)) (3)) (Eq.trans (congrFun (upd2_ne (by decide)) (3)) (Eq.trans (congrFun (upd2_ne (by decide)) (3)) (Eq.trans (congrFun (upd2_ne (by decide)) (3)) (Eq.trans (congrFun (upd2_ne (by decide)) (3)) (Eq.trans (congrFun (upd2_ne (by decide)) (3)) (Eq.trans (congrFun (upd2_ne (by decide)) (3)) (Eq.trans (congrFun (upd2_ne (by decide)) (3)) (Eq.trans (congrFun (upd2_ne (by decide)) (3)) (Eq.trans (congrFun (upd2_ne (by decide)) (3)) (fs))))))))))))))))))))))))) ?_
  refine aw_iconst (v := nI 0) ci_0 d_F_fillMost_39 ?_
  refine aw_iload rfl d_F_fillMost_40 ?_
  refine as_callS (as := [.int (nI 0), .int (nI 0), .int (nI 8)]) (d' := 5) mo_F_at lk_F_50 rfl ⟨by decide, by decide⟩ rfl rfl (by decide) d_F_fillMost_42 (Ss.of (show As l b 5 y_F_at KC RC _ (upd2 (upd2 (upd2 (upd2 (upd2 (upd2 (upd2 (upd2 (upd2 (upd2 (upd2 (upd2 (upd2 (upd2 (upd2 (upd2 (upd2 (upd2 (upd2 (upd2 (upd2 (upd2 (upd2 (upd2 I 158 (0) (nI 0)) 158 (9) ((-1 : Int32))) 158 (18) (nI 0)) 158 (1) (nI 0)) 158 (10) ((-1 : Int32))) 158 (19) (nI 0)) 158 (2) (nI 0)) 158 (11) ((-1 : Int32))) 158 (20) (nI 0)) 158 (3) (nI 0)) 158 (12) ((-1 : Int32))) 158 (21) (nI 0)) 158 (4) (nI 0)) 158 (13) ((-1 : Int32))) 158 (22) (nI 0)) 158 (5) (nI 0)) 158 (14) ((-1 : Int32))) 158 (23) (nI 0)) 158 (6) (nI 0)) 158 (15) ((-1 : Int32))) 158 (24) (nI 0)) 158 (7) (nI 0)) 158 (16) ((-1 : Int32))) 158 (25) (nI 0)) 0 [.int (nI 0), .int (nI 0), .int (nI 8), uu] [] from ?_))
  refine aw_iload_n rfl rfl d_F_at_0 ?_
  refine aw_if_ltI (tgt := 34) (0) (by decide +kernel) (by decide) d_F_at_1 (fun q => absurd q (by decide)) (fun _ => ?_)
  refine aw_iload_n rfl rfl d_F_at_4 ?_
  refine aw_sipush (v := nI 144) cs_144 d_F_at_5 ?_
  refine aw_icmp_gtI (tgt := 34) (0) (144) (by decide +kernel) (by decide +kernel) (by decide) d_F_at_8 (fun q => absurd q (by decide)) (fun _ => ?_)
  refine aw_iload_n rfl rfl d_F_at_11 ?_
  refine aw_if_ltI (tgt := 34) (0) (by decide +kernel) (by decide) d_F_at_12 (fun q => absurd q (by decide)) (fun _ => ?_)
  refine aw_iload_n rfl rfl d_F_at_15 ?_
  refine aw_iconst (v := nI 3) ci_3 d_F_at_16 ?_
  refine aw_icmp_geI (tgt := 34) (0) (3) (by decide +kernel) (by decide +kernel) (by decide) d_F_at_17 (fun q => absurd q (by decide)) (fun _ => ?_)
  refine aw_iload_n rfl rfl d_F_at_20 ?_
  refine aw_if_ltI (tgt := 34) (8) (by decide +kernel) (by decide) d_F_at_21 (fun q => absurd q (by decide)) (fun _ => ?_)
  refine aw_iload_n rfl rfl d_F_at_24 ?_
  refine aw_bipush (v := nI 9) cb_9 d_F_at_25 ?_
  refine aw_icmp_geI (tgt := 34) (8) (9) (by decide +kernel) (by decide +kernel) (by decide) d_F_at_27 (fun q => absurd q (by decide)) (fun _ => ?_)
  refine aw_iconst (v := nI 1) ci_1 d_F_at_30 ?_
  refine aw_goto (tgt := 35) (by decide) d_F_at_31 ?_
  refine aw_istore_n (lv2 := [.int (nI 0), .int (nI 0), .int (nI 8), .int (nI 1)]) rfl (by decide) rfl d_F_at_35 ?_
  refine aw_iload_n rfl rfl d_F_at_36 ?_
  refine aw_if_eqI (tgt := 53) (1) (by decide +kernel) (by decide) d_F_at_37 (fun q => absurd q (by decide)) (fun _ => ?_)
  refine aw_iload_n rfl rfl d_F_at_40 ?_
  refine aw_iconst (v := nI 3) ci_3 d_F_at_41 ?_
  refine aw_imul d_F_at_42 ?_
  refine aw_top (x2 := nI 0) (by decide +kernel) ?_
  refine aw_iload_n rfl rfl d_F_at_43 ?_
  refine aw_iadd d_F_at_44 ?_
  refine aw_top (x2 := nI 0) (by decide +kernel) ?_
  refine aw_bipush (v := nI 9) cb_9 d_F_at_45 ?_
  refine aw_imul d_F_at_47 ?_
  refine aw_top (x2 := nI 0) (by decide +kernel) ?_
  refine aw_iload_n rfl rfl d_F_at_48 ?_
  refine aw_iadd d_F_at_49 ?_
  refine aw_top (x2 := nI 8) (by decide +kernel) ?_
  refine aw_goto (tgt := 54) (by decide) d_F_at_50 ?_
  refine as_reti rfl d_F_at_54 ?_
  refine (show As l b 6 y_F_fillMost KC RC K2 (upd2 (upd2 (upd2 (upd2 (upd2 (upd2 (upd2 (upd2 (upd2 (upd2 (upd2 (upd2 (upd2 (upd2 (upd2 (upd2 (upd2 (upd2 (upd2 (upd2 (upd2 (upd2 (upd2 (upd2 I 158 (0) (nI 0)) 158 (9) ((-1 : Int32))) 158 (18) (nI 0)) 158 (1) (nI 0)) 158 (10) ((-1 : Int32))) 158 (19) (nI 0)) 158 (2) (nI 0)) 158 (11) ((-1 : Int32))) 158 (20) (nI 0)) 158 (3) (nI 0)) 158 (12) ((-1 : Int32))) 158 (21) (nI 0)) 158 (4) (nI 0)) 158 (13) ((-1 : Int32))) 158 (22) (nI 0)) 158 (5) (nI 0)) 158 (14) ((-1 : Int32))) 158 (23) (nI 0)) 158 (6) (nI 0)) 158 (15) ((-1 : Int32))) 158 (24) (nI 0)) 158 (7) (nI 0)) 158 (16) ((-1 : Int32))) 158 (25) (nI 0)) 45 [.ref 154, .ref 1, .int (lg), .int (nI 4), .int (nI 8), uu, uu] [.int (nI 8), .ref 158] from ?_)
  refine aw_iconst (v := nI 0) ci_0 d_F_fillMost_45 ?_
  refine aw_iast (j := 8) kc_158 (vp_in_nI (by decide) (by decide)) (nI_clamp (by decide)) d_F_fillMost_46 ?_
  refine aw_aload_n rfl rfl d_F_fillMost_47 ?_
  refine aw_getr fl_F_21 kc_154 (by decide) rfl rc_154_4 d_F_fillMost_48 ?_
  refine aw_aload_n rfl rfl d_F_fillMost_51 ?_
  refine aw_geti fl_F_46 kc_154 (by decide) rfl d_F_fillMost_52 ?_
  refine aw_top (x2 := nI 0) (Eq.trans (congrFun (upd2_ne (by decide)) (3)) (Eq.trans (congrFun (upd2_ne (by decide)) (3)) (Eq.trans (congrFun (upd2_ne (by decide)) (3)) (Eq.trans (congrFun (upd2_ne (by decide)) (3)) (Eq.trans (congrFun (upd2_ne (by decide)) (3)) (Eq.trans (congrFun (upd2_ne (by decide)) (3)) (Eq.trans (congrFun (upd2_ne (by decide)) (3)) (Eq.trans (congrFun (upd2_ne (by decide)) (3)) (Eq.trans (congrFun (upd2_ne (by decide)) (3)) (Eq.trans (congrFun (upd2_ne (by decide)) (3)) (Eq.trans (congrFun (upd2_ne (by decide)) (3)) (Eq.trans (congrFun (upd2_ne (by decide)) (3)) (Eq.trans (congrFun (upd2_ne (by decide)) (3)) (Eq.trans (congrFun (upd2_ne (by decide)) (3)) (Eq.trans (congrFun (upd2_ne (by decide)) (3)) (Eq.trans (congrFun (upd2_ne (by decide)) (3)) (Eq.trans (congrFun (upd2_ne (by decide)) (3)) (Eq.trans (congrFun (upd2_ne (by decide)) (3)) (Eq.trans (congrFun (upd2_ne (by decide)) (3)) (Eq.trans (congrFun (upd2_ne (by decide)) (3)) (Eq.trans (congrFun (upd2_ne (by decide)) (3)) (Eq.trans (congrFun (upd2_ne (by decide)) (3)) (Eq.trans (congrFun (upd2_ne (by decide)) (3)) (Eq.trans (congrFun (upd2_ne (by decide)) (3)) (Eq.trans (congrFun (upd2_ne (by decide)) (3)) (fs)))))))))))))))))))))))))) ?_
  refine aw_iconst (v := nI 1) ci_1 d_F_fillMost_55 ?_
  refine aw_iload rfl d_F_fillMost_56 ?_
  refine as_callS (as := [.int (nI 0), .int (nI 1), .int (nI 8)]) (d' := 5) mo_F_at lk_F_50 rfl ⟨by decide, by decide⟩ rfl rfl (by decide) d_F_fillMost_58 (Ss.of (show As l b 5 y_F_at KC RC _ (upd2 (upd2 (upd2 (upd2 (upd2 (upd2 (upd2 (upd2 (upd2 (upd2 (upd2 (upd2 (upd2 (upd2 (upd2 (upd2 (upd2 (upd2 (upd2 (upd2 (upd2 (upd2 (upd2 (upd2 (upd2 I 158 (0) (nI 0)) 158 (9) ((-1 : Int32))) 158 (18) (nI 0)) 158 (1) (nI 0)) 158 (10) ((-1 : Int32))) 158 (19) (nI 0)) 158 (2) (nI 0)) 158 (11) ((-1 : Int32))) 158 (20) (nI 0)) 158 (3) (nI 0)) 158 (12) ((-1 : Int32))) 158 (21) (nI 0)) 158 (4) (nI 0)) 158 (13) ((-1 : Int32))) 158 (22) (nI 0)) 158 (5) (nI 0)) 158 (14) ((-1 : Int32))) 158 (23) (nI 0)) 158 (6) (nI 0)) 158 (15) ((-1 : Int32))) 158 (24) (nI 0)) 158 (7) (nI 0)) 158 (16) ((-1 : Int32))) 158 (25) (nI 0)) 158 (8) (nI 0)) 0 [.int (nI 0), .int (nI 1), .int (nI 8), uu] [] from ?_))
  refine aw_iload_n rfl rfl d_F_at_0 ?_
  refine aw_if_ltI (tgt := 34) (0) (by decide +kernel) (by decide) d_F_at_1 (fun q => absurd q (by decide)) (fun _ => ?_)
  refine aw_iload_n rfl rfl d_F_at_4 ?_
  refine aw_sipush (v := nI 144) cs_144 d_F_at_5 ?_
  refine aw_icmp_gtI (tgt := 34) (0) (144) (by decide +kernel) (by decide +kernel) (by decide) d_F_at_8 (fun q => absurd q (by decide)) (fun _ => ?_)
  refine aw_iload_n rfl rfl d_F_at_11 ?_
  refine aw_if_ltI (tgt := 34) (1) (by decide +kernel) (by decide) d_F_at_12 (fun q => absurd q (by decide)) (fun _ => ?_)
  refine aw_iload_n rfl rfl d_F_at_15 ?_
  refine aw_iconst (v := nI 3) ci_3 d_F_at_16 ?_
  refine aw_icmp_geI (tgt := 34) (1) (3) (by decide +kernel) (by decide +kernel) (by decide) d_F_at_17 (fun q => absurd q (by decide)) (fun _ => ?_)
  refine aw_iload_n rfl rfl d_F_at_20 ?_
  refine aw_if_ltI (tgt := 34) (8) (by decide +kernel) (by decide) d_F_at_21 (fun q => absurd q (by decide)) (fun _ => ?_)
  refine aw_iload_n rfl rfl d_F_at_24 ?_
  refine aw_bipush (v := nI 9) cb_9 d_F_at_25 ?_
  refine aw_icmp_geI (tgt := 34) (8) (9) (by decide +kernel) (by decide +kernel) (by decide) d_F_at_27 (fun q => absurd q (by decide)) (fun _ => ?_)
  refine aw_iconst (v := nI 1) ci_1 d_F_at_30 ?_
  refine aw_goto (tgt := 35) (by decide) d_F_at_31 ?_
  refine aw_istore_n (lv2 := [.int (nI 0), .int (nI 1), .int (nI 8), .int (nI 1)]) rfl (by decide) rfl d_F_at_35 ?_
  refine aw_iload_n rfl rfl d_F_at_36 ?_
  refine aw_if_eqI (tgt := 53) (1) (by decide +kernel) (by decide) d_F_at_37 (fun q => absurd q (by decide)) (fun _ => ?_)
  refine aw_iload_n rfl rfl d_F_at_40 ?_
  refine aw_iconst (v := nI 3) ci_3 d_F_at_41 ?_
  refine aw_imul d_F_at_42 ?_
  refine aw_top (x2 := nI 0) (by decide +kernel) ?_
  refine aw_iload_n rfl rfl d_F_at_43 ?_
  refine aw_iadd d_F_at_44 ?_
  refine aw_top (x2 := nI 1) (by decide +kernel) ?_
  refine aw_bipush (v := nI 9) cb_9 d_F_at_45 ?_
  refine aw_imul d_F_at_47 ?_
  refine aw_top (x2 := nI 9) (by decide +kernel) ?_
  refine aw_iload_n rfl rfl d_F_at_48 ?_
  refine aw_iadd d_F_at_49 ?_
  refine aw_top (x2 := nI 17) (by decide +kernel) ?_
  refine aw_goto (tgt := 54) (by decide) d_F_at_50 ?_
  refine as_reti rfl d_F_at_54 ?_
  refine (show As l b 6 y_F_fillMost KC RC K2 (upd2 (upd2 (upd2 (upd2 (upd2 (upd2 (upd2 (upd2 (upd2 (upd2 (upd2 (upd2 (upd2 (upd2 (upd2 (upd2 (upd2 (upd2 (upd2 (upd2 (upd2 (upd2 (upd2 (upd2 (upd2 I 158 (0) (nI 0)) 158 (9) ((-1 : Int32))) 158 (18) (nI 0)) 158 (1) (nI 0)) 158 (10) ((-1 : Int32))) 158 (19) (nI 0)) 158 (2) (nI 0)) 158 (11) ((-1 : Int32))) 158 (20) (nI 0)) 158 (3) (nI 0)) 158 (12) ((-1 : Int32))) 158 (21) (nI 0)) 158 (4) (nI 0)) 158 (13) ((-1 : Int32))) 158 (22) (nI 0)) 158 (5) (nI 0)) 158 (14) ((-1 : Int32))) 158 (23) (nI 0)) 158 (6) (nI 0)) 158 (15) ((-1 : Int32))) 158 (24) (nI 0)) 158 (7) (nI 0)) 158 (16) ((-1 : Int32))) 158 (25) (nI 0)) 158 (8) (nI 0)) 61 [.ref 154, .ref 1, .int (lg), .int (nI 4), .int (nI 8), uu, uu] [.int (nI 17), .ref 158] from ?_)
  refine aw_iconst (v := (-1 : Int32)) rfl d_F_fillMost_61 ?_
  refine aw_iast (j := 17) kc_158 (vp_in_nI (by decide) (by decide)) (nI_clamp (by decide)) d_F_fillMost_62 ?_
  refine aw_aload_n rfl rfl d_F_fillMost_63 ?_
  refine aw_getr fl_F_21 kc_154 (by decide) rfl rc_154_4 d_F_fillMost_64 ?_
  refine aw_aload_n rfl rfl d_F_fillMost_67 ?_
  refine aw_geti fl_F_46 kc_154 (by decide) rfl d_F_fillMost_68 ?_
  refine aw_top (x2 := nI 0) (Eq.trans (congrFun (upd2_ne (by decide)) (3)) (Eq.trans (congrFun (upd2_ne (by decide)) (3)) (Eq.trans (congrFun (upd2_ne (by decide)) (3)) (Eq.trans (congrFun (upd2_ne (by decide)) (3)) (Eq.trans (congrFun (upd2_ne (by decide)) (3)) (Eq.trans (congrFun (upd2_ne (by decide)) (3)) (Eq.trans (congrFun (upd2_ne (by decide)) (3)) (Eq.trans (congrFun (upd2_ne (by decide)) (3)) (Eq.trans (congrFun (upd2_ne (by decide)) (3)) (Eq.trans (congrFun (upd2_ne (by decide)) (3)) (Eq.trans (congrFun (upd2_ne (by decide)) (3)) (Eq.trans (congrFun (upd2_ne (by decide)) (3)) (Eq.trans (congrFun (upd2_ne (by decide)) (3)) (Eq.trans (congrFun (upd2_ne (by decide)) (3)) (Eq.trans (congrFun (upd2_ne (by decide)) (3)) (Eq.trans (congrFun (upd2_ne (by decide)) (3)) (Eq.trans (congrFun (upd2_ne (by decide)) (3)) (Eq.trans (congrFun (upd2_ne (by decide)) (3)) (Eq.trans (congrFun (upd2_ne (by decide)) (3)) (Eq.trans (congrFun (upd2_ne (by decide)) (3)) (Eq.trans (congrFun (upd2_ne (by decide)) (3)) (Eq.trans (congrFun (upd2_ne (by decide)) (3)) (Eq.trans (congrFun (upd2_ne (by decide)) (3)) (Eq.trans (congrFun (upd2_ne (by decide)) (3)) (Eq.trans (congrFun (upd2_ne (by decide)) (3)) (Eq.trans (congrFun (upd2_ne (by decide)) (3)) (fs))))))))))))))))))))))))))) ?_
  refine aw_iconst (v := nI 2) ci_2 d_F_fillMost_71 ?_
  refine aw_iload rfl d_F_fillMost_72 ?_
  refine as_callS (as := [.int (nI 0), .int (nI 2), .int (nI 8)]) (d' := 5) mo_F_at lk_F_50 rfl ⟨by decide, by decide⟩ rfl rfl (by decide) d_F_fillMost_74 (Ss.of (show As l b 5 y_F_at KC RC _ (upd2 (upd2 (upd2 (upd2 (upd2 (upd2 (upd2 (upd2 (upd2 (upd2 (upd2 (upd2 (upd2 (upd2 (upd2 (upd2 (upd2 (upd2 (upd2 (upd2 (upd2 (upd2 (upd2 (upd2 (upd2 (upd2 I 158 (0) (nI 0)) 158 (9) ((-1 : Int32))) 158 (18) (nI 0)) 158 (1) (nI 0)) 158 (10) ((-1 : Int32))) 158 (19) (nI 0)) 158 (2) (nI 0)) 158 (11) ((-1 : Int32))) 158 (20) (nI 0)) 158 (3) (nI 0)) 158 (12) ((-1 : Int32))) 158 (21) (nI 0)) 158 (4) (nI 0)) 158 (13) ((-1 : Int32))) 158 (22) (nI 0)) 158 (5) (nI 0)) 158 (14) ((-1 : Int32))) 158 (23) (nI 0)) 158 (6) (nI 0)) 158 (15) ((-1 : Int32))) 158 (24) (nI 0)) 158 (7) (nI 0)) 158 (16) ((-1 : Int32))) 158 (25) (nI 0)) 158 (8) (nI 0)) 158 (17) ((-1 : Int32))) 0 [.int (nI 0), .int (nI 2), .int (nI 8), uu] [] from ?_))
  refine aw_iload_n rfl rfl d_F_at_0 ?_
  refine aw_if_ltI (tgt := 34) (0) (by decide +kernel) (by decide) d_F_at_1 (fun q => absurd q (by decide)) (fun _ => ?_)
  refine aw_iload_n rfl rfl d_F_at_4 ?_
  refine aw_sipush (v := nI 144) cs_144 d_F_at_5 ?_
  refine aw_icmp_gtI (tgt := 34) (0) (144) (by decide +kernel) (by decide +kernel) (by decide) d_F_at_8 (fun q => absurd q (by decide)) (fun _ => ?_)
  refine aw_iload_n rfl rfl d_F_at_11 ?_
  refine aw_if_ltI (tgt := 34) (2) (by decide +kernel) (by decide) d_F_at_12 (fun q => absurd q (by decide)) (fun _ => ?_)
  refine aw_iload_n rfl rfl d_F_at_15 ?_
  refine aw_iconst (v := nI 3) ci_3 d_F_at_16 ?_
  refine aw_icmp_geI (tgt := 34) (2) (3) (by decide +kernel) (by decide +kernel) (by decide) d_F_at_17 (fun q => absurd q (by decide)) (fun _ => ?_)
  refine aw_iload_n rfl rfl d_F_at_20 ?_
  refine aw_if_ltI (tgt := 34) (8) (by decide +kernel) (by decide) d_F_at_21 (fun q => absurd q (by decide)) (fun _ => ?_)
  refine aw_iload_n rfl rfl d_F_at_24 ?_
  refine aw_bipush (v := nI 9) cb_9 d_F_at_25 ?_
  refine aw_icmp_geI (tgt := 34) (8) (9) (by decide +kernel) (by decide +kernel) (by decide) d_F_at_27 (fun q => absurd q (by decide)) (fun _ => ?_)
  refine aw_iconst (v := nI 1) ci_1 d_F_at_30 ?_
  refine aw_goto (tgt := 35) (by decide) d_F_at_31 ?_
  refine aw_istore_n (lv2 := [.int (nI 0), .int (nI 2), .int (nI 8), .int (nI 1)]) rfl (by decide) rfl d_F_at_35 ?_
  refine aw_iload_n rfl rfl d_F_at_36 ?_
  refine aw_if_eqI (tgt := 53) (1) (by decide +kernel) (by decide) d_F_at_37 (fun q => absurd q (by decide)) (fun _ => ?_)
  refine aw_iload_n rfl rfl d_F_at_40 ?_
  refine aw_iconst (v := nI 3) ci_3 d_F_at_41 ?_
  refine aw_imul d_F_at_42 ?_
  refine aw_top (x2 := nI 0) (by decide +kernel) ?_
  refine aw_iload_n rfl rfl d_F_at_43 ?_
  refine aw_iadd d_F_at_44 ?_
  refine aw_top (x2 := nI 2) (by decide +kernel) ?_
  refine aw_bipush (v := nI 9) cb_9 d_F_at_45 ?_
  refine aw_imul d_F_at_47 ?_
  refine aw_top (x2 := nI 18) (by decide +kernel) ?_
  refine aw_iload_n rfl rfl d_F_at_48 ?_
  refine aw_iadd d_F_at_49 ?_
  refine aw_top (x2 := nI 26) (by decide +kernel) ?_
  refine aw_goto (tgt := 54) (by decide) d_F_at_50 ?_
  refine as_reti rfl d_F_at_54 ?_
  refine (show As l b 6 y_F_fillMost KC RC K2 (upd2 (upd2 (upd2 (upd2 (upd2 (upd2 (upd2 (upd2 (upd2 (upd2 (upd2 (upd2 (upd2 (upd2 (upd2 (upd2 (upd2 (upd2 (upd2 (upd2 (upd2 (upd2 (upd2 (upd2 (upd2 (upd2 I 158 (0) (nI 0)) 158 (9) ((-1 : Int32))) 158 (18) (nI 0)) 158 (1) (nI 0)) 158 (10) ((-1 : Int32))) 158 (19) (nI 0)) 158 (2) (nI 0)) 158 (11) ((-1 : Int32))) 158 (20) (nI 0)) 158 (3) (nI 0)) 158 (12) ((-1 : Int32))) 158 (21) (nI 0)) 158 (4) (nI 0)) 158 (13) ((-1 : Int32))) 158 (22) (nI 0)) 158 (5) (nI 0)) 158 (14) ((-1 : Int32))) 158 (23) (nI 0)) 158 (6) (nI 0)) 158 (15) ((-1 : Int32))) 158 (24) (nI 0)) 158 (7) (nI 0)) 158 (16) ((-1 : Int32))) 158 (25) (nI 0)) 158 (8) (nI 0)) 158 (17) ((-1 : Int32))) 77 [.ref 154, .ref 1, .int (lg), .int (nI 4), .int (nI 8), uu, uu] [.int (nI 26), .ref 158] from ?_)
  refine aw_iconst (v := nI 0) ci_0 d_F_fillMost_77 ?_
  refine aw_iast (j := 26) kc_158 (vp_in_nI (by decide) (by decide)) (nI_clamp (by decide)) d_F_fillMost_78 ?_
  refine aw_iinc (v := nI 9) (lv2 := [.ref 154, .ref 1, .int (lg), .int (nI 4), .int (nI 9), uu, uu]) rfl (by decide +kernel) (by decide) rfl d_F_fillMost_79 ?_
  refine aw_goto (tgt := 24) (by decide) d_F_fillMost_82 ?_
  refine aw_iload rfl d_F_fillMost_24 ?_
  refine aw_bipush (v := nI 9) cb_9 d_F_fillMost_26 ?_
  refine aw_icmp_geI (tgt := 85) (9) (9) (by decide +kernel) (by decide +kernel) (by decide) d_F_fillMost_28 (fun _ => ?_) (fun q => absurd q (by decide))
  refine aw_aload_n rfl rfl d_F_fillMost_85 ?_
  refine aw_geti fl_F_46 kc_154 (by decide) rfl d_F_fillMost_86 ?_
  refine aw_top (x2 := nI 0) (Eq.trans (congrFun (upd2_ne (by decide)) (3)) (Eq.trans (congrFun (upd2_ne (by decide)) (3)) (Eq.trans (congrFun (upd2_ne (by decide)) (3)) (Eq.trans (congrFun (upd2_ne (by decide)) (3)) (Eq.trans (congrFun (upd2_ne (by decide)) (3)) (Eq.trans (congrFun (upd2_ne (by decide)) (3)) (Eq.trans (congrFun (upd2_ne (by decide)) (3)) (Eq.trans (congrFun (upd2_ne (by decide)) (3)) (Eq.trans (congrFun (upd2_ne (by decide)) (3)) (Eq.trans (congrFun (upd2_ne (by decide)) (3)) (Eq.trans (congrFun (upd2_ne (by decide)) (3)) (Eq.trans (congrFun (upd2_ne (by decide)) (3)) (Eq.trans (congrFun (upd2_ne (by decide)) (3)) (Eq.trans (congrFun (upd2_ne (by decide)) (3)) (Eq.trans (congrFun (upd2_ne (by decide)) (3)) (Eq.trans (congrFun (upd2_ne (by decide)) (3)) (Eq.trans (congrFun (upd2_ne (by decide)) (3)) (Eq.trans (congrFun (upd2_ne (by decide)) (3)) (Eq.trans (congrFun (upd2_ne (by decide)) (3)) (Eq.trans (congrFun (upd2_ne (by decide)) (3)) (Eq.trans (congrFun (upd2_ne (by decide)) (3)) (Eq.trans (congrFun (upd2_ne (by decide)) (3)) (Eq.trans (congrFun (upd2_ne (by decide)) (3)) (Eq.trans (congrFun (upd2_ne (by decide)) (3)) (Eq.trans (congrFun (upd2_ne (by decide)) (3)) (Eq.trans (congrFun (upd2_ne (by decide)) (3)) (Eq.trans (congrFun (upd2_ne (by decide)) (3)) (fs)))))))))))))))))))))))))))) ?_
  refine aw_iconst (v := nI 1) ci_1 d_F_fillMost_89 ?_
  refine aw_isub d_F_fillMost_90 ?_
  refine aw_top (x2 := (-1 : Int32)) (by decide +kernel) ?_
  refine aw_istore (lv2 := [.ref 154, .ref 1, .int (lg), .int (nI 4), .int ((-1 : Int32)), uu, uu]) (by decide) rfl d_F_fillMost_91 ?_
  refine aw_iload rfl d_F_fillMost_93 ?_
  refine aw_if_ltI (tgt := 178) (-1) (by decide +kernel) (by decide) d_F_fillMost_95 (fun _ => ?_) (fun q => absurd q (by decide))
  refine aw_aload_n rfl rfl d_F_fillMost_178 ?_
  refine aw_iload_n rfl rfl d_F_fillMost_179 ?_
  refine as_callV (as := [.int (nI 4)]) (d' := 5) (q := ("SinglesUp$Filling", zT1, 7)) mo_F_choose lk_F_60 kc_154 rfl rfl rfl ⟨by decide, by decide⟩ rfl rfl (by decide) d_F_fillMost_180 (Ss.of (show As l b 5 y_F_choose KC RC _ (upd2 (upd2 (upd2 (upd2 (upd2 (upd2 (upd2 (upd2 (upd2 (upd2 (upd2 (upd2 (upd2 (upd2 (upd2 (upd2 (upd2 (upd2 (upd2 (upd2 (upd2 (upd2 (upd2 (upd2 (upd2 (upd2 (upd2 I 158 (0) (nI 0)) 158 (9) ((-1 : Int32))) 158 (18) (nI 0)) 158 (1) (nI 0)) 158 (10) ((-1 : Int32))) 158 (19) (nI 0)) 158 (2) (nI 0)) 158 (11) ((-1 : Int32))) 158 (20) (nI 0)) 158 (3) (nI 0)) 158 (12) ((-1 : Int32))) 158 (21) (nI 0)) 158 (4) (nI 0)) 158 (13) ((-1 : Int32))) 158 (22) (nI 0)) 158 (5) (nI 0)) 158 (14) ((-1 : Int32))) 158 (23) (nI 0)) 158 (6) (nI 0)) 158 (15) ((-1 : Int32))) 158 (24) (nI 0)) 158 (7) (nI 0)) 158 (16) ((-1 : Int32))) 158 (25) (nI 0)) 158 (8) (nI 0)) 158 (17) ((-1 : Int32))) 158 (26) (nI 0)) 0 [.ref 154, .int (nI 4), uu, uu, uu, uu] [] from ?_))
  refine aw_aload_n rfl rfl d_F_choose_0 ?_
  refine aw_iconst (v := nI 0) ci_0 d_F_choose_1 ?_
  refine aw_puti fl_F_76 kc_154 (by decide) rfl rfl rfl rfl d_F_choose_2 ?_
  refine aw_iconst (v := nI 0) ci_0 d_F_choose_5 ?_
  refine aw_istore_n (lv2 := [.ref 154, .int (nI 4), .int (nI 0), uu, uu, uu]) rfl (by decide) rfl d_F_choose_6 ?_
  refine aw_iload_n rfl rfl d_F_choose_7 ?_
  refine aw_istore_n (lv2 := [.ref 154, .int (nI 4), .int (nI 0), .int (nI 4), uu, uu]) rfl (by decide) rfl d_F_choose_8 ?_
  refine aw_iconst (v := nI 0) ci_0 d_F_choose_9 ?_
  refine aw_istore (lv2 := [.ref 154, .int (nI 4), .int (nI 0), .int (nI 4), .int (nI 0), uu]) (by decide) rfl d_F_choose_10 ?_
  refine aw_iload rfl d_F_choose_12 ?_
  refine aw_aload_n rfl rfl d_F_choose_14 ?_
  refine aw_geti fl_F_46 kc_154 (by decide) rfl d_F_choose_15 ?_
  refine aw_top (x2 := nI 0) (Eq.trans (upd2_nx (by omega)) (Eq.trans (congrFun (upd2_ne (by decide)) (3)) (Eq.trans (congrFun (upd2_ne (by decide)) (3)) (Eq.trans (congrFun (upd2_ne (by decide)) (3)) (Eq.trans (congrFun (upd2_ne (by decide)) (3)) (Eq.trans (congrFun (upd2_ne (by decide)) (3)) (Eq.trans (congrFun (upd2_ne (by decide)) (3)) (Eq.trans (congrFun (upd2_ne (by decide)) (3)) (Eq.trans (congrFun (upd2_ne (by decide)) (3)) (Eq.trans (congrFun (upd2_ne (by decide)) (3)) (Eq.trans (congrFun (upd2_ne (by decide)) (3)) (Eq.trans (congrFun (upd2_ne (by decide)) (3)) (Eq.trans (congrFun (upd2_ne (by decide)) (3)) (Eq.trans (congrFun (upd2_ne (by decide)) (3)) (Eq.trans (congrFun (upd2_ne (by decide)) (3)) (Eq.trans (congrFun (upd2_ne (by decide)) (3)) (Eq.trans (congrFun (upd2_ne (by decide)) (3)) (Eq.trans (congrFun (upd2_ne (by decide)) (3)) (Eq.trans (congrFun (upd2_ne (by decide)) (3)) (Eq.trans (congrFun (upd2_ne (by decide)) (3)) (Eq.trans (congrFun (upd2_ne (by decide)) (3)) (Eq.trans (congrFun (upd2_ne (by decide)) (3)) (Eq.trans (congrFun (upd2_ne (by decide)) (3)) (Eq.trans (congrFun (upd2_ne (by decide)) (3)) (Eq.trans (congrFun (upd2_ne (by decide)) (3)) (Eq.trans (congrFun (upd2_ne (by decide)) (3)) (Eq.trans (congrFun (upd2_ne (by decide)) (3)) (Eq.trans (congrFun (upd2_ne (by decide)) (3)) (fs))))))))))))))))))))))))))))) ?_
  refine aw_icmp_geI (tgt := 121) (0) (0) (by decide +kernel) (by decide +kernel) (by decide) d_F_choose_18 (fun _ => ?_) (fun q => absurd q (by decide))
  refine as_retv rfl d_F_choose_121 ?_
  refine (show As l b 6 y_F_fillMost KC RC K2 (upd2 (upd2 (upd2 (upd2 (upd2 (upd2 (upd2 (upd2 (upd2 (upd2 (upd2 (upd2 (upd2 (upd2 (upd2 (upd2 (upd2 (upd2 (upd2 (upd2 (upd2 (upd2 (upd2 (upd2 (upd2 (upd2 (upd2 (upd2 I 158 (0) (nI 0)) 158 (9) ((-1 : Int32))) 158 (18) (nI 0)) 158 (1) (nI 0)) 158 (10) ((-1 : Int32))) 158 (19) (nI 0)) 158 (2) (nI 0)) 158 (11) ((-1 : Int32))) 158 (20) (nI 0)) 158 (3) (nI 0)) 158 (12) ((-1 : Int32))) 158 (21) (nI 0)) 158 (4) (nI 0)) 158 (13) ((-1 : Int32))) 158 (22) (nI 0)) 158 (5) (nI 0)) 158 (14) ((-1 : Int32))) 158 (23) (nI 0)) 158 (6) (nI 0)) 158 (15) ((-1 : Int32))) 158 (24) (nI 0)) 158 (7) (nI 0)) 158 (16) ((-1 : Int32))) 158 (25) (nI 0)) 158 (8) (nI 0)) 158 (17) ((-1 : Int32))) 158 (26) (nI 0)) 154 6 (nI 0)) 183 [.ref 154, .ref 1, .int (lg), .int (nI 4), .int ((-1 : Int32)), uu, uu] [] from ?_)
  refine aw_aload_n rfl rfl d_F_fillMost_183 ?_
  refine aw_getr fl_F_21 kc_154 (by decide) rfl rc_154_4 d_F_fillMost_184 ?_
  refine aw_iconst (v := nI 0) ci_0 d_F_fillMost_187 ?_
  refine aw_iconst (v := nI 0) ci_0 d_F_fillMost_188 ?_
  refine aw_iload_n rfl rfl d_F_fillMost_189 ?_
  refine as_callS (as := [.int (nI 0), .int (nI 0), .int (nI 4)]) (d' := 5) mo_F_at lk_F_50 rfl ⟨by decide, by decide⟩ rfl rfl (by decide) d_F_fillMost_190 (Ss.of (show As l b 5 y_F_at KC RC _ (upd2 (upd2 (upd2 (upd2 (upd2 (upd2 (upd2 (upd2 (upd2 (upd2 (upd2 (upd2 (upd2 (upd2 (upd2 (upd2 (upd2 (upd2 (upd2 (upd2 (upd2 (upd2 (upd2 (upd2 (upd2 (upd2 (upd2 (upd2 I 158 (0) (nI 0)) 158 (9) ((-1 : Int32))) 158 (18) (nI 0)) 158 (1) (nI 0)) 158 (10) ((-1 : Int32))) 158 (19) (nI 0)) 158 (2) (nI 0)) 158 (11) ((-1 : Int32))) 158 (20) (nI 0)) 158 (3) (nI 0)) 158 (12) ((-1 : Int32))) 158 (21) (nI 0)) 158 (4) (nI 0)) 158 (13) ((-1 : Int32))) 158 (22) (nI 0)) 158 (5) (nI 0)) 158 (14) ((-1 : Int32))) 158 (23) (nI 0)) 158 (6) (nI 0)) 158 (15) ((-1 : Int32))) 158 (24) (nI 0)) 158 (7) (nI 0)) 158 (16) ((-1 : Int32))) 158 (25) (nI 0)) 158 (8) (nI 0)) 158 (17) ((-1 : Int32))) 158 (26) (nI 0)) 154 6 (nI 0)) 0 [.int (nI 0), .int (nI 0), .int (nI 4), uu] [] from ?_))
  refine aw_iload_n rfl rfl d_F_at_0 ?_
  refine aw_if_ltI (tgt := 34) (0) (by decide +kernel) (by decide) d_F_at_1 (fun q => absurd q (by decide)) (fun _ => ?_)
  refine aw_iload_n rfl rfl d_F_at_4 ?_
  refine aw_sipush (v := nI 144) cs_144 d_F_at_5 ?_
  refine aw_icmp_gtI (tgt := 34) (0) (144) (by decide +kernel) (by decide +kernel) (by decide) d_F_at_8 (fun q => absurd q (by decide)) (fun _ => ?_)
  refine aw_iload_n rfl rfl d_F_at_11 ?_
  refine aw_if_ltI (tgt := 34) (0) (by decide +kernel) (by decide) d_F_at_12 (fun q => absurd q (by decide)) (fun _ => ?_)
  refine aw_iload_n rfl rfl d_F_at_15 ?_
  refine aw_iconst (v := nI 3) ci_3 d_F_at_16 ?_
  refine aw_icmp_geI (tgt := 34) (0) (3) (by decide +kernel) (by decide +kernel) (by decide) d_F_at_17 (fun q => absurd q (by decide)) (fun _ => ?_)
  refine aw_iload_n rfl rfl d_F_at_20 ?_
  refine aw_if_ltI (tgt := 34) (4) (by decide +kernel) (by decide) d_F_at_21 (fun q => absurd q (by decide)) (fun _ => ?_)
  refine aw_iload_n rfl rfl d_F_at_24 ?_
  refine aw_bipush (v := nI 9) cb_9 d_F_at_25 ?_
  refine aw_icmp_geI (tgt := 34) (4) (9) (by decide +kernel) (by decide +kernel) (by decide) d_F_at_27 (fun q => absurd q (by decide)) (fun _ => ?_)
  refine aw_iconst (v := nI 1) ci_1 d_F_at_30 ?_
  refine aw_goto (tgt := 35) (by decide) d_F_at_31 ?_
  refine aw_istore_n (lv2 := [.int (nI 0), .int (nI 0), .int (nI 4), .int (nI 1)]) rfl (by decide) rfl d_F_at_35 ?_
  refine aw_iload_n rfl rfl d_F_at_36 ?_
  refine aw_if_eqI (tgt := 53) (1) (by decide +kernel) (by decide) d_F_at_37 (fun q => absurd q (by decide)) (fun _ => ?_)
  refine aw_iload_n rfl rfl d_F_at_40 ?_
  refine aw_iconst (v := nI 3) ci_3 d_F_at_41 ?_
  refine aw_imul d_F_at_42 ?_
  refine aw_top (x2 := nI 0) (by decide +kernel) ?_
  refine aw_iload_n rfl rfl d_F_at_43 ?_
  refine aw_iadd d_F_at_44 ?_
  refine aw_top (x2 := nI 0) (by decide +kernel) ?_
  refine aw_bipush (v := nI 9) cb_9 d_F_at_45 ?_
  refine aw_imul d_F_at_47 ?_
  refine aw_top (x2 := nI 0) (by decide +kernel) ?_
  refine aw_iload_n rfl rfl d_F_at_48 ?_
  refine aw_iadd d_F_at_49 ?_
  refine aw_top (x2 := nI 4) (by decide +kernel) ?_
  refine aw_goto (tgt := 54) (by decide) d_F_at_50 ?_
  refine as_reti rfl d_F_at_54 ?_
  refine (show As l b 6 y_F_fillMost KC RC K2 (upd2 (upd2 (upd2 (upd2 (upd2 (upd2 (upd2 (upd2 (upd2 (upd2 (upd2 (upd2 (upd2 (upd2 (upd2 (upd2 (upd2 (upd2 (upd2 (upd2 (upd2 (upd2 (upd2 (upd2 (upd2 (upd2 (upd2 (upd2 I 158 (0) (nI 0)) 158 (9) ((-1 : Int32))) 158 (18) (nI 0)) 158 (1) (nI 0)) 158 (10) ((-1 : Int32))) 158 (19) (nI 0)) 158 (2) (nI 0)) 158 (11) ((-1 : Int32))) 158 (20) (nI 0)) 158 (3) (nI 0)) 158 (12) ((-1 : Int32))) 158 (21) (nI 0)) 158 (4) (nI 0)) 158 (13) ((-1 : Int32))) 158 (22) (nI 0)) 158 (5) (nI 0)) 158 (14) ((-1 : Int32))) 158 (23) (nI 0)) 158 (6) (nI 0)) 158 (15) ((-1 : Int32))) 158 (24) (nI 0)) 158 (7) (nI 0)) 158 (16) ((-1 : Int32))) 158 (25) (nI 0)) 158 (8) (nI 0)) 158 (17) ((-1 : Int32))) 158 (26) (nI 0)) 154 6 (nI 0)) 193 [.ref 154, .ref 1, .int (lg), .int (nI 4), .int ((-1 : Int32)), uu, uu] [.int (nI 4), .ref 158] from ?_)
  refine aw_iald (j := 4) kc_158 (vp_in_nI (by decide) (by decide)) (nI_clamp (by decide)) d_F_fillMost_193 ?_
  refine aw_top (x2 := nI 0) (Eq.trans (congrFun (upd2_ne (by decide)) (4)) (Eq.trans (upd2_nx (by omega)) (Eq.trans (upd2_nx (by omega)) (Eq.trans (upd2_nx (by omega)) (Eq.trans (upd2_nx (by omega)) (Eq.trans (upd2_nx (by omega)) (Eq.trans (upd2_nx (by omega)) (Eq.trans (upd2_nx (by omega)) (Eq.trans (upd2_nx (by omega)) (Eq.trans (upd2_nx (by omega)) (Eq.trans (upd2_nx (by omega)) (Eq.trans (upd2_nx (by omega)) (Eq.trans (upd2_nx (by omega)) (Eq.trans (upd2_nx (by omega)) (Eq.trans (upd2_nx (by omega)) (upd2_eq)))))))))))))))) ?_
  exact as_reti rfl d_F_fillMost_194 (hK _ (by simp [upd2, upd, updA]) (fun q n1 n2 => by simp [upd2, updA, n1, n2]))
set_option maxRecDepth 20000 in
theorem sp_listSeen_7_155_n {K2 : K2T} {I : Nat → Nat → Int32} (f1 : ∀ j, j < 6 → I 9 j = nI 0) (f2 : ∀ j, j < 6 → I 10 j = nI 9) (hK : K2 (some (.int (nI 0))) I) : Ss l b 2 y_L_listSeen KC RC [.ref 7, .ref 155, .int ((-1 : Int32))] (I) K2 := by
  refine Ss.of (show As l b 2 y_L_listSeen KC RC K2 (I) 0 [.ref 7, .ref 155, .int ((-1 : Int32)), uu, uu, uu, uu] [] from ?_)
  refine aw_iconst (v := nI 0) ci_0 d_L_listSeen_0 ?_
  refine aw_istore_n (lv2 := [.ref 7, .ref 155, .int ((-1 : Int32)), .int (nI 0), uu, uu, uu]) rfl (by decide) rfl d_L_listSeen_1 ?_
  refine aw_iconst (v := nI 0) ci_0 d_L_listSeen_2 ?_
  refine aw_istore (lv2 := [.ref 7, .ref 155, .int ((-1 : Int32)), .int (nI 0), .int (nI 0), uu, uu]) (by decide) rfl d_L_listSeen_3 ?_
  refine aw_iload rfl d_L_listSeen_5 ?_
  refine aw_bipush (v := nI 6) cb_6 d_L_listSeen_7 ?_
  refine aw_icmp_geI (tgt := 85) (0) (6) (by decide +kernel) (by decide +kernel) (by decide) d_L_listSeen_9 (fun q => absurd q (by decide)) (fun _ => ?_)
  refine aw_aload_n rfl rfl d_L_listSeen_12 ?_
  refine aw_getr fl_L_15 kc_7 (by decide) rfl rc_7_1 d_L_listSeen_13 ?_
  refine aw_iload rfl d_L_listSeen_16 ?_
  refine aw_iald (j := 0) kc_9 (vp_in_nI (by decide) (by decide)) (nI_clamp (by decide)) d_L_listSeen_18 ?_
  refine aw_top (x2 := nI 0) (f1 (0) (by omega)) ?_
  refine aw_aload_n rfl rfl d_L_listSeen_19 ?_
  refine aw_getr fl_L_18 kc_7 (by decide) rfl rc_7_2 d_L_listSeen_20 ?_
  refine aw_iload rfl d_L_listSeen_23 ?_
  refine aw_iald (j := 0) kc_10 (vp_in_nI (by decide) (by decide)) (nI_clamp (by decide)) d_L_listSeen_25 ?_
  refine aw_top (x2 := nI 9) (f2 (0) (by omega)) ?_
  refine aw_iload rfl d_L_listSeen_26 ?_
  refine aw_iload_n rfl rfl d_L_listSeen_28 ?_
  refine aw_icmp_neI (tgt := 36) (0) (-1) (by decide +kernel) (by decide +kernel) (by decide) d_L_listSeen_29 (fun _ => ?_) (fun q => absurd q (by decide))
  refine aw_iconst (v := nI 0) ci_0 d_L_listSeen_36 ?_
  refine aw_iadd d_L_listSeen_37 ?_
  refine aw_top (x2 := nI 9) (by decide +kernel) ?_
  refine as_callS (as := [.int (nI 0), .int (nI 9)]) (d' := 1) mo_JM_min lk_L_37 rfl ⟨by decide, by decide⟩ rfl rfl (by decide) d_L_listSeen_38 (sp_min_c (I := I) (x := nI 0) (z := nI 9) (X := (0)) (Z := (9)) (by decide +kernel) (by decide +kernel) (fun _ => ?_) (fun q => absurd q (by decide)) )
  refine (show As l b 2 y_L_listSeen KC RC K2 (I) 41 [.ref 7, .ref 155, .int ((-1 : Int32)), .int (nI 0), .int (nI 0), uu, uu] [.int (nI 0)] from ?_)
  refine aw_istore (lv2 := [.ref 7, .ref 155, .int ((-1 : Int32)), .int (nI 0), .int (nI 0), .int (nI 0), uu]) (by decide) rfl d_L_listSeen_41 ?_
  refine aw_iconst (v := nI 0) ci_0 d_L_listSeen_43 ?_
  refine aw_istore (lv2 := [.ref 7, .ref 155, .int ((-1 : Int32)), .int (nI 0), .int (nI 0), .int (nI 0), .int (nI 0)]) (by decide) rfl d_L_listSeen_44 ?_
  refine aw_iload rfl d_L_listSeen_46 ?_
  refine aw_iload rfl d_L_listSeen_48 ?_
  refine aw_icmp_geI (tgt := 79) (0) (0) (by decide +kernel) (by decide +kernel) (by decide) d_L_listSeen_50 (fun _ => ?_) (fun q => absurd q (by decide))
  refine aw_iinc (v := nI 1) (lv2 := [.ref 7, .ref 155, .int ((-1 : Int32)), .int (nI 0), .int (nI 1), .int (nI 0), .int (nI 0)]) rfl (by decide +kernel) (by decide) rfl d_L_listSeen_79 ?_
  refine aw_goto (tgt := 5) (by decide) d_L_listSeen_82 ?_
  refine aw_iload rfl d_L_listSeen_5 ?_
  refine aw_bipush (v := nI 6) cb_6 d_L_listSeen_7 ?_
  refine aw_icmp_geI (tgt := 85) (1) (6) (by decide +kernel) (by decide +kernel) (by decide) d_L_listSeen_9 (fun q => absurd q (by decide)) (fun _ => ?_)
  refine aw_aload_n rfl rfl d_L_listSeen_12 ?_
  refine aw_getr fl_L_15 kc_7 (by decide) rfl rc_7_1 d_L_listSeen_13 ?_
  refine aw_iload rfl d_L_listSeen_16 ?_
  refine aw_iald (j := 1) kc_9 (vp_in_nI (by decide) (by decide)) (nI_clamp (by decide)) d_L_listSeen_18 ?_
  refine aw_top (x2 := nI 0) (f1 (1) (by omega)) ?_
  refine aw_aload_n rfl rfl d_L_listSeen_19 ?_
  refine aw_getr fl_L_18 kc_7 (by decide) rfl rc_7_2 d_L_listSeen_20 ?_
  refine aw_iload rfl d_L_listSeen_23 ?_
  refine aw_iald (j := 1) kc_10 (vp_in_nI (by decide) (by decide)) (nI_clamp (by decide)) d_L_listSeen_25 ?_
  refine aw_top (x2 := nI 9) (f2 (1) (by omega)) ?_
  refine aw_iload rfl d_L_listSeen_26 ?_
  refine aw_iload_n rfl rfl d_L_listSeen_28 ?_
  refine aw_icmp_neI (tgt := 36) (1) (-1) (by decide +kernel) (by decide +kernel) (by decide) d_L_listSeen_29 (fun _ => ?_) (fun q => absurd q (by decide))
  refine aw_iconst (v := nI 0) ci_0 d_L_listSeen_36 ?_
  refine aw_iadd d_L_listSeen_37 ?_
  refine aw_top (x2 := nI 9) (by decide +kernel) ?_
  refine as_callS (as := [.int (nI 0), .int (nI 9)]) (d' := 1) mo_JM_min lk_L_37 rfl ⟨by decide, by decide⟩ rfl rfl (by decide) d_L_listSeen_38 (sp_min_c (I := I) (x := nI 0) (z := nI 9) (X := (0)) (Z := (9)) (by decide +kernel) (by decide +kernel) (fun _ => ?_) (fun q => absurd q (by decide)) )
  refine (show As l b 2 y_L_listSeen KC RC K2 (I) 41 [.ref 7, .ref 155, .int ((-1 : Int32)), .int (nI 0), .int (nI 1), .int (nI 0), .int (nI 0)] [.int (nI 0)] from ?_)
  refine aw_istore (lv2 := [.ref 7, .ref 155, .int ((-1 : Int32)), .int (nI 0), .int (nI 1), .int (nI 0), .int (nI 0)]) (by decide) rfl d_L_listSeen_41 ?_
  refine aw_iconst (v := nI 0) ci_0 d_L_listSeen_43 ?_
  refine aw_istore (lv2 := [.ref 7, .ref 155, .int ((-1 : Int32)), .int (nI 0), .int (nI 1), .int (nI 0), .int (nI 0)]) (by decide) rfl d_L_listSeen_44 ?_
  refine aw_iload rfl d_L_listSeen_46 ?_
  refine aw_iload rfl d_L_listSeen_48 ?_
  refine aw_icmp_geI (tgt := 79) (0) (0) (by decide +kernel) (by decide +kernel) (by decide) d_L_listSeen_50 (fun _ => ?_) (fun q => absurd q (by decide))
  refine aw_iinc (v := nI 2) (lv2 := [.ref 7, .ref 155, .int ((-1 : Int32)), .int (nI 0), .int (nI 2), .int (nI 0), .int (nI 0)]) rfl (by decide +kernel) (by decide) rfl d_L_listSeen_79 ?_
  refine aw_goto (tgt := 5) (by decide) d_L_listSeen_82 ?_
  refine aw_iload rfl d_L_listSeen_5 ?_
  refine aw_bipush (v := nI 6) cb_6 d_L_listSeen_7 ?_
  refine aw_icmp_geI (tgt := 85) (2) (6) (by decide +kernel) (by decide +kernel) (by decide) d_L_listSeen_9 (fun q => absurd q (by decide)) (fun _ => ?_)
  refine aw_aload_n rfl rfl d_L_listSeen_12 ?_
  refine aw_getr fl_L_15 kc_7 (by decide) rfl rc_7_1 d_L_listSeen_13 ?_
  refine aw_iload rfl d_L_listSeen_16 ?_
  refine aw_iald (j := 2) kc_9 (vp_in_nI (by decide) (by decide)) (nI_clamp (by decide)) d_L_listSeen_18 ?_
  refine aw_top (x2 := nI 0) (f1 (2) (by omega)) ?_
  refine aw_aload_n rfl rfl d_L_listSeen_19 ?_
  refine aw_getr fl_L_18 kc_7 (by decide) rfl rc_7_2 d_L_listSeen_20 ?_
  refine aw_iload rfl d_L_listSeen_23 ?_
  refine aw_iald (j := 2) kc_10 (vp_in_nI (by decide) (by decide)) (nI_clamp (by decide)) d_L_listSeen_25 ?_
  refine aw_top (x2 := nI 9) (f2 (2) (by omega)) ?_
  refine aw_iload rfl d_L_listSeen_26 ?_
  refine aw_iload_n rfl rfl d_L_listSeen_28 ?_
  refine aw_icmp_neI (tgt := 36) (2) (-1) (by decide +kernel) (by decide +kernel) (by decide) d_L_listSeen_29 (fun _ => ?_) (fun q => absurd q (by decide))
  refine aw_iconst (v := nI 0) ci_0 d_L_listSeen_36 ?_
  refine aw_iadd d_L_listSeen_37 ?_
  refine aw_top (x2 := nI 9) (by decide +kernel) ?_
  refine as_callS (as := [.int (nI 0), .int (nI 9)]) (d' := 1) mo_JM_min lk_L_37 rfl ⟨by decide, by decide⟩ rfl rfl (by decide) d_L_listSeen_38 (sp_min_c (I := I) (x := nI 0) (z := nI 9) (X := (0)) (Z := (9)) (by decide +kernel) (by decide +kernel) (fun _ => ?_) (fun q => absurd q (by decide)) )
  refine (show As l b 2 y_L_listSeen KC RC K2 (I) 41 [.ref 7, .ref 155, .int ((-1 : Int32)), .int (nI 0), .int (nI 2), .int (nI 0), .int (nI 0)] [.int (nI 0)] from ?_)
  refine aw_istore (lv2 := [.ref 7, .ref 155, .int ((-1 : Int32)), .int (nI 0), .int (nI 2), .int (nI 0), .int (nI 0)]) (by decide) rfl d_L_listSeen_41 ?_
  refine aw_iconst (v := nI 0) ci_0 d_L_listSeen_43 ?_
  refine aw_istore (lv2 := [.ref 7, .ref 155, .int ((-1 : Int32)), .int (nI 0), .int (nI 2), .int (nI 0), .int (nI 0)]) (by decide) rfl d_L_listSeen_44 ?_
  refine aw_iload rfl d_L_listSeen_46 ?_
  refine aw_iload rfl d_L_listSeen_48 ?_
  refine aw_icmp_geI (tgt := 79) (0) (0) (by decide +kernel) (by decide +kernel) (by decide) d_L_listSeen_50 (fun _ => ?_) (fun q => absurd q (by decide))
  refine aw_iinc (v := nI 3) (lv2 := [.ref 7, .ref 155, .int ((-1 : Int32)), .int (nI 0), .int (nI 3), .int (nI 0), .int (nI 0)]) rfl (by decide +kernel) (by decide) rfl d_L_listSeen_79 ?_
  refine aw_goto (tgt := 5) (by decide) d_L_listSeen_82 ?_
  refine aw_iload rfl d_L_listSeen_5 ?_
  refine aw_bipush (v := nI 6) cb_6 d_L_listSeen_7 ?_
  refine aw_icmp_geI (tgt := 85) (3) (6) (by decide +kernel) (by decide +kernel) (by decide) d_L_listSeen_9 (fun q => absurd q (by decide)) (fun _ => ?_)
  refine aw_aload_n rfl rfl d_L_listSeen_12 ?_
  refine aw_getr fl_L_15 kc_7 (by decide) rfl rc_7_1 d_L_listSeen_13 ?_
  refine aw_iload rfl d_L_listSeen_16 ?_
  refine aw_iald (j := 3) kc_9 (vp_in_nI (by decide) (by decide)) (nI_clamp (by decide)) d_L_listSeen_18 ?_
  refine aw_top (x2 := nI 0) (f1 (3) (by omega)) ?_
  refine aw_aload_n rfl rfl d_L_listSeen_19 ?_
  refine aw_getr fl_L_18 kc_7 (by decide) rfl rc_7_2 d_L_listSeen_20 ?_
  refine aw_iload rfl d_L_listSeen_23 ?_
  refine aw_iald (j := 3) kc_10 (vp_in_nI (by decide) (by decide)) (nI_clamp (by decide)) d_L_listSeen_25 ?_
  refine aw_top (x2 := nI 9) (f2 (3) (by omega)) ?_
  refine aw_iload rfl d_L_listSeen_26 ?_
  refine aw_iload_n rfl rfl d_L_listSeen_28 ?_
  refine aw_icmp_neI (tgt := 36) (3) (-1) (by decide +kernel) (by decide +kernel) (by decide) d_L_listSeen_29 (fun _ => ?_) (fun q => absurd q (by decide))
  refine aw_iconst (v := nI 0) ci_0 d_L_listSeen_36 ?_
  refine aw_iadd d_L_listSeen_37 ?_
  refine aw_top (x2 := nI 9) (by decide +kernel) ?_
  refine as_callS (as := [.int (nI 0), .int (nI 9)]) (d' := 1) mo_JM_min lk_L_37 rfl ⟨by decide, by decide⟩ rfl rfl (by decide) d_L_listSeen_38 (sp_min_c (I := I) (x := nI 0) (z := nI 9) (X := (0)) (Z := (9)) (by decide +kernel) (by decide +kernel) (fun _ => ?_) (fun q => absurd q (by decide)) )
  refine (show As l b 2 y_L_listSeen KC RC K2 (I) 41 [.ref 7, .ref 155, .int ((-1 : Int32)), .int (nI 0), .int (nI 3), .int (nI 0), .int (nI 0)] [.int (nI 0)] from ?_)
  refine aw_istore (lv2 := [.ref 7, .ref 155, .int ((-1 : Int32)), .int (nI 0), .int (nI 3), .int (nI 0), .int (nI 0)]) (by decide) rfl d_L_listSeen_41 ?_
  refine aw_iconst (v := nI 0) ci_0 d_L_listSeen_43 ?_
  refine aw_istore (lv2 := [.ref 7, .ref 155, .int ((-1 : Int32)), .int (nI 0), .int (nI 3), .int (nI 0), .int (nI 0)]) (by decide) rfl d_L_listSeen_44 ?_
  refine aw_iload rfl d_L_listSeen_46 ?_
  refine aw_iload rfl d_L_listSeen_48 ?_
  refine aw_icmp_geI (tgt := 79) (0) (0) (by decide +kernel) (by decide +kernel) (by decide) d_L_listSeen_50 (fun _ => ?_) (fun q => absurd q (by decide))
  refine aw_iinc (v := nI 4) (lv2 := [.ref 7, .ref 155, .int ((-1 : Int32)), .int (nI 0), .int (nI 4), .int (nI 0), .int (nI 0)]) rfl (by decide +kernel) (by decide) rfl d_L_listSeen_79 ?_
  refine aw_goto (tgt := 5) (by decide) d_L_listSeen_82 ?_
  refine aw_iload rfl d_L_listSeen_5 ?_
  refine aw_bipush (v := nI 6) cb_6 d_L_listSeen_7 ?_
  refine aw_icmp_geI (tgt := 85) (4) (6) (by decide +kernel) (by decide +kernel) (by decide) d_L_listSeen_9 (fun q => absurd q (by decide)) (fun _ => ?_)
  refine aw_aload_n rfl rfl d_L_listSeen_12 ?_
  refine aw_getr fl_L_15 kc_7 (by decide) rfl rc_7_1 d_L_listSeen_13 ?_
  refine aw_iload rfl d_L_listSeen_16 ?_
  refine aw_iald (j := 4) kc_9 (vp_in_nI (by decide) (by decide)) (nI_clamp (by decide)) d_L_listSeen_18 ?_
  refine aw_top (x2 := nI 0) (f1 (4) (by omega)) ?_
  refine aw_aload_n rfl rfl d_L_listSeen_19 ?_
  refine aw_getr fl_L_18 kc_7 (by decide) rfl rc_7_2 d_L_listSeen_20 ?_
  refine aw_iload rfl d_L_listSeen_23 ?_
  refine aw_iald (j := 4) kc_10 (vp_in_nI (by decide) (by decide)) (nI_clamp (by decide)) d_L_listSeen_25 ?_
  refine aw_top (x2 := nI 9) (f2 (4) (by omega)) ?_
  refine aw_iload rfl d_L_listSeen_26 ?_
  refine aw_iload_n rfl rfl d_L_listSeen_28 ?_
  refine aw_icmp_neI (tgt := 36) (4) (-1) (by decide +kernel) (by decide +kernel) (by decide) d_L_listSeen_29 (fun _ => ?_) (fun q => absurd q (by decide))
  refine aw_iconst (v := nI 0) ci_0 d_L_listSeen_36 ?_
  refine aw_iadd d_L_listSeen_37 ?_
  refine aw_top (x2 := nI 9) (by decide +kernel) ?_
  refine as_callS (as := [.int (nI 0), .int (nI 9)]) (d' := 1) mo_JM_min lk_L_37 rfl ⟨by decide, by decide⟩ rfl rfl (by decide) d_L_listSeen_38 (sp_min_c (I := I) (x := nI 0) (z := nI 9) (X := (0)) (Z := (9)) (by decide +kernel) (by decide +kernel) (fun _ => ?_) (fun q => absurd q (by decide)) )
  refine (show As l b 2 y_L_listSeen KC RC K2 (I) 41 [.ref 7, .ref 155, .int ((-1 : Int32)), .int (nI 0), .int (nI 4), .int (nI 0), .int (nI 0)] [.int (nI 0)] from ?_)
  refine aw_istore (lv2 := [.ref 7, .ref 155, .int ((-1 : Int32)), .int (nI 0), .int (nI 4), .int (nI 0), .int (nI 0)]) (by decide) rfl d_L_listSeen_41 ?_
  refine aw_iconst (v := nI 0) ci_0 d_L_listSeen_43 ?_
  refine aw_istore (lv2 := [.ref 7, .ref 155, .int ((-1 : Int32)), .int (nI 0), .int (nI 4), .int (nI 0), .int (nI 0)]) (by decide) rfl d_L_listSeen_44 ?_
  refine aw_iload rfl d_L_listSeen_46 ?_
  refine aw_iload rfl d_L_listSeen_48 ?_
  refine aw_icmp_geI (tgt := 79) (0) (0) (by decide +kernel) (by decide +kernel) (by decide) d_L_listSeen_50 (fun _ => ?_) (fun q => absurd q (by decide))
  refine aw_iinc (v := nI 5) (lv2 := [.ref 7, .ref 155, .int ((-1 : Int32)), .int (nI 0), .int (nI 5), .int (nI 0), .int (nI 0)]) rfl (by decide +kernel) (by decide) rfl d_L_listSeen_79 ?_
  refine aw_goto (tgt := 5) (by decide) d_L_listSeen_82 ?_
  refine aw_iload rfl d_L_listSeen_5 ?_
  refine aw_bipush (v := nI 6) cb_6 d_L_listSeen_7 ?_
  refine aw_icmp_geI (tgt := 85) (5) (6) (by decide +kernel) (by decide +kernel) (by decide) d_L_listSeen_9 (fun q => absurd q (by decide)) (fun _ => ?_)
  refine aw_aload_n rfl rfl d_L_listSeen_12 ?_
  refine aw_getr fl_L_15 kc_7 (by decide) rfl rc_7_1 d_L_listSeen_13 ?_
  refine aw_iload rfl d_L_listSeen_16 ?_
  refine aw_iald (j := 5) kc_9 (vp_in_nI (by decide) (by decide)) (nI_clamp (by decide)) d_L_listSeen_18 ?_
  refine aw_top (x2 := nI 0) (f1 (5) (by omega)) ?_
  refine aw_aload_n rfl rfl d_L_listSeen_19 ?_
  refine aw_getr fl_L_18 kc_7 (by decide) rfl rc_7_2 d_L_listSeen_20 ?_
  refine aw_iload rfl d_L_listSeen_23 ?_
  refine aw_iald (j := 5) kc_10 (vp_in_nI (by decide) (by decide)) (nI_clamp (by decide)) d_L_listSeen_25 ?_
  refine aw_top (x2 := nI 9) (f2 (5) (by omega)) ?_
  refine aw_iload rfl d_L_listSeen_26 ?_
  refine aw_iload_n rfl rfl d_L_listSeen_28 ?_
  refine aw_icmp_neI (tgt := 36) (5) (-1) (by decide +kernel) (by decide +kernel) (by decide) d_L_listSeen_29 (fun _ => ?_) (fun q => absurd q (by decide))
  refine aw_iconst (v := nI 0) ci_0 d_L_listSeen_36 ?_
  refine aw_iadd d_L_listSeen_37 ?_
  refine aw_top (x2 := nI 9) (by decide +kernel) ?_
  refine as_callS (as := [.int (nI 0), .int (nI 9)]) (d' := 1) mo_JM_min lk_L_37 rfl ⟨by decide, by decide⟩ rfl rfl (by decide) d_L_listSeen_38 (sp_min_c (I := I) (x := nI 0) (z := nI 9) (X := (0)) (Z := (9)) (by decide +kernel) (by decide +kernel) (fun _ => ?_) (fun q => absurd q (by decide)) )
  refine (show As l b 2 y_L_listSeen KC RC K2 (I) 41 [.ref 7, .ref 155, .int ((-1 : Int32)), .int (nI 0), .int (nI 5), .int (nI 0), .int (nI 0)] [.int (nI 0)] from ?_)
  refine aw_istore (lv2 := [.ref 7, .ref 155, .int ((-1 : Int32)), .int (nI 0), .int (nI 5), .int (nI 0), .int (nI 0)]) (by decide) rfl d_L_listSeen_41 ?_
  refine aw_iconst (v := nI 0) ci_0 d_L_listSeen_43 ?_
  refine aw_istore (lv2 := [.ref 7, .ref 155, .int ((-1 : Int32)), .int (nI 0), .int (nI 5), .int (nI 0), .int (nI 0)]) (by decide) rfl d_L_listSeen_44 ?_
  refine aw_iload rfl d_L_listSeen_46 ?_
  refine aw_iload rfl d_L_listSeen_48 ?_
  refine aw_icmp_geI (tgt := 79) (0) (0) (by decide +kernel) (by decide +kernel) (by decide) d_L_listSeen_50 (fun _ => ?_) (fun q => absurd q (by decide))
  refine aw_iinc (v := nI 6) (lv2 := [.ref 7, .ref 155, .int ((-1 : Int32)), .int (nI 0), .int (nI 6), .int (nI 0), .int (nI 0)]) rfl (by decide +kernel) (by decide) rfl d_L_listSeen_79 ?_
  refine aw_goto (tgt := 5) (by decide) d_L_listSeen_82 ?_
  refine aw_iload rfl d_L_listSeen_5 ?_
  refine aw_bipush (v := nI 6) cb_6 d_L_listSeen_7 ?_
  refine aw_icmp_geI (tgt := 85) (6) (6) (by decide +kernel) (by decide +kernel) (by decide) d_L_listSeen_9 (fun _ => ?_) (fun q => absurd q (by decide))
  refine aw_iload_n rfl rfl d_L_listSeen_85 ?_
  exact as_reti rfl d_L_listSeen_86 hK
set_option maxRecDepth 20000 in
theorem sp_fillMost_n {K2 : K2T} {I : Nat → Nat → Int32} (f1 : ∀ j, j < 6 → I 9 j = nI 0) (f2 : ∀ j, j < 6 → I 10 j = nI 9) (f3 : I 2 0 = nI 4) (hK : ∀ I', I' 154 6 = nI 0 → (∀ q, q ≠ 154 → q ≠ 158 → I' q = I q) → K2 (some (.int (nI 0))) I') : Ss l b 6 y_F_fillMost KC RC [.ref 154, .ref 1, .int ((-1 : Int32))] (I) K2 := by
  refine Ss.of (show As l b 6 y_F_fillMost KC RC K2 (I) 0 [.ref 154, .ref 1, .int ((-1 : Int32)), uu, uu, uu, uu] [] from ?_)
  refine aw_aload_n rfl rfl d_F_fillMost_0 ?_
  refine aw_getr fl_F_27 kc_1 (by decide) rfl rc_1_0 d_F_fillMost_1 ?_
  refine aw_iconst (v := nI 0) ci_0 d_F_fillMost_4 ?_
  refine aw_iald (j := 0) kc_2 (vp_in_nI (by decide) (by decide)) (nI_clamp (by decide)) d_F_fillMost_5 ?_
  refine aw_top (x2 := nI 4) (f3) ?_
  refine aw_bipush (v := nI 8) cb_8 d_F_fillMost_6 ?_
  refine as_callS (as := [.int (nI 4), .int (nI 8)]) (d' := 1) mo_JM_min lk_F_32 rfl ⟨by decide, by decide⟩ rfl rfl (by decide) d_F_fillMost_8 (sp_min_c (I := I) (x := nI 4) (z := nI 8) (X := (4)) (Z := (8)) (by decide +kernel) (by decide +kernel) (fun _ => ?_) (fun q => absurd q (by decide)) )
  refine (show As l b 6 y_F_fillMost KC RC K2 (I) 11 [.ref 154, .ref 1, .int ((-1 : Int32)), uu, uu, uu, uu] [.int (nI 4)] from ?_)
  refine aw_istore_n (lv2 := [.ref 154, .ref 1, .int ((-1 : Int32)), .int (nI 4), uu, uu, uu]) rfl (by decide) rfl d_F_fillMost_11 ?_
  refine aw_aload_n rfl rfl d_F_fillMost_12 ?_
  refine aw_aload_n rfl rfl d_F_fillMost_13 ?_
  refine aw_getr fl_F_38 kc_1 (by decide) rfl rc_1_5 d_F_fillMost_14 ?_
  refine aw_iload_n rfl rfl d_F_fillMost_17 ?_
  refine as_callV (as := [.ref 7, .int ((-1 : Int32))]) (d' := 5) (q := ("SinglesUp$Filling", zT1, 7)) mo_F_gather lk_F_42 kc_154 rfl rfl rfl ⟨by decide, by decide⟩ rfl rfl (by decide) d_F_fillMost_18 (Ss.of (show As l b 5 y_F_gather KC RC _ (I) 0 [.ref 154, .ref 7, .int ((-1 : Int32)), uu, uu, uu] [] from ?_))
  refine aw_aload_n rfl rfl d_F_gather_0 ?_
  refine aw_aload_n rfl rfl d_F_gather_1 ?_
  refine aw_getr fl_F_9 kc_154 (by decide) rfl rc_154_0 d_F_gather_2 ?_
  refine aw_iload_n rfl rfl d_F_gather_5 ?_
  refine as_callV (as := [.ref 155, .int ((-1 : Int32))]) (d' := 2) (q := ("SinglesUp$Lines", zT4, 3)) mo_L_listSeen lk_F_64 kc_7 rfl rfl rfl ⟨by decide, by decide⟩ rfl rfl (by decide) d_F_gather_6 (sp_listSeen_7_155_n (I := I) (fun j hj => by simp [upd2, upd, updA, f1 j hj]) (fun j hj => by simp [upd2, upd, updA, f2 j hj]) ?_)
  refine (show As l b 5 y_F_gather KC RC _ (I) 9 [.ref 154, .ref 7, .int ((-1 : Int32)), uu, uu, uu] [.int (nI 0)] from ?_)
  refine aw_istore_n (lv2 := [.ref 154, .ref 7, .int ((-1 : Int32)), .int (nI 0), uu, uu]) rfl (by decide) rfl d_F_gather_9 ?_
  refine aw_aload_n rfl rfl d_F_gather_10 ?_
  refine aw_iconst (v := nI 0) ci_0 d_F_gather_11 ?_
  refine aw_puti fl_F_46 kc_154 (by decide) rfl rfl rfl rfl d_F_gather_12 ?_
  refine aw_iconst (v := nI 0) ci_0 d_F_gather_15 ?_
  refine aw_istore (lv2 := [.ref 154, .ref 7, .int ((-1 : Int32)), .int (nI 0), .int (nI 0), uu]) (by decide) rfl d_F_gather_16 ?_
  refine aw_iload rfl d_F_gather_18 ?_
  refine aw_iload_n rfl rfl d_F_gather_20 ?_
  refine aw_icmp_geI (tgt := 116) (0) (0) (by decide +kernel) (by decide +kernel) (by decide) d_F_gather_21 (fun _ => ?_) (fun q => absurd q (by decide))
  refine as_retv rfl d_F_gather_116 ?_
  refine (show As l b 6 y_F_fillMost KC RC K2 (upd2 I 154 3 (nI 0)) 21 [.ref 154, .ref 1, .int ((-1 : Int32)), .int (nI 4), uu, uu, uu] [] from ?_)
  exact fr_fillMost (I := upd2 I 154 3 (nI 0)) (lg := (-1 : Int32)) (by simp [upd2, upd, updA]) (fun I2 g1 g2 => hK I2 g1 (fun q n1 n2 => by rw [g2 q n1 n2]; simp [upd2, n1]))
set_option maxRecDepth 20000 in
theorem sp_listSeen_7_155_0 {K2 : K2T} {I : Nat → Nat → Int32} (f1 : ∀ j, j < 6 → I 9 j = nI 0) (f2 : ∀ j, j < 6 → I 10 j = nI 9) (hK : K2 (some (.int (nI 0))) I) : Ss l b 2 y_L_listSeen KC RC [.ref 7, .ref 155, .int (nI 0)] (I) K2 := by
  refine Ss.of (show As l b 2 y_L_listSeen KC RC K2 (I) 0 [.ref 7, .ref 155, .int (nI 0), uu, uu, uu, uu] [] from ?_)
  refine aw_iconst (v := nI 0) ci_0 d_L_listSeen_0 ?_
  refine aw_istore_n (lv2 := [.ref 7, .ref 155, .int (nI 0), .int (nI 0), uu, uu, uu]) rfl (by decide) rfl d_L_listSeen_1 ?_
  refine aw_iconst (v := nI 0) ci_0 d_L_listSeen_2 ?_
  refine aw_istore (lv2 := [.ref 7, .ref 155, .int (nI 0), .int (nI 0), .int (nI 0), uu, uu]) (by decide) rfl d_L_listSeen_3 ?_
  refine aw_iload rfl d_L_listSeen_5 ?_
  refine aw_bipush (v := nI 6) cb_6 d_L_listSeen_7 ?_
  refine aw_icmp_geI (tgt := 85) (0) (6) (by decide +kernel) (by decide +kernel) (by decide) d_L_listSeen_9 (fun q => absurd q (by decide)) (fun _ => ?_)
  refine aw_aload_n rfl rfl d_L_listSeen_12 ?_
  refine aw_getr fl_L_15 kc_7 (by decide) rfl rc_7_1 d_L_listSeen_13 ?_
  refine aw_iload rfl d_L_listSeen_16 ?_
  refine aw_iald (j := 0) kc_9 (vp_in_nI (by decide) (by decide)) (nI_clamp (by decide)) d_L_listSeen_18 ?_
  refine aw_top (x2 := nI 0) (f1 (0) (by omega)) ?_
  refine aw_aload_n rfl rfl d_L_listSeen_19 ?_
  refine aw_getr fl_L_18 kc_7 (by decide) rfl rc_7_2 d_L_listSeen_20 ?_
  refine aw_iload rfl d_L_listSeen_23 ?_
  refine aw_iald (j := 0) kc_10 (vp_in_nI (by decide) (by decide)) (nI_clamp (by decide)) d_L_listSeen_25 ?_
  refine aw_top (x2 := nI 9) (f2 (0) (by omega)) ?_
  refine aw_iload rfl d_L_listSeen_26 ?_
  refine aw_iload_n rfl rfl d_L_listSeen_28 ?_
  refine aw_icmp_neI (tgt := 36) (0) (0) (by decide +kernel) (by decide +kernel) (by decide) d_L_listSeen_29 (fun q => absurd q (by decide)) (fun _ => ?_)
  refine aw_iconst (v := nI 1) ci_1 d_L_listSeen_32 ?_
  refine aw_goto (tgt := 37) (by decide) d_L_listSeen_33 ?_
  refine aw_iadd d_L_listSeen_37 ?_
  refine aw_top (x2 := nI 10) (by decide +kernel) ?_
  refine as_callS (as := [.int (nI 0), .int (nI 10)]) (d' := 1) mo_JM_min lk_L_37 rfl ⟨by decide, by decide⟩ rfl rfl (by decide) d_L_listSeen_38 (sp_min_c (I := I) (x := nI 0) (z := nI 10) (X := (0)) (Z := (10)) (by decide +kernel) (by decide +kernel) (fun _ => ?_) (fun q => absurd q (by decide)) )
  refine (show As l b 2 y_L_listSeen KC RC K2 (I) 41 [.ref 7, .ref 155, .int (nI 0), .int (nI 0), .int (nI 0), uu, uu] [.int (nI 0)] from ?_)
  refine aw_istore (lv2 := [.ref 7, .ref 155, .int (nI 0), .int (nI 0), .int (nI 0), .int (nI 0), uu]) (by decide) rfl d_L_listSeen_41 ?_
  refine aw_iconst (v := nI 0) ci_0 d_L_listSeen_43 ?_
  refine aw_istore (lv2 := [.ref 7, .ref 155, .int (nI 0), .int (nI 0), .int (nI 0), .int (nI 0), .int (nI 0)]) (by decide) rfl d_L_listSeen_44 ?_
  refine aw_iload rfl d_L_listSeen_46 ?_
  refine aw_iload rfl d_L_listSeen_48 ?_
  refine aw_icmp_geI (tgt := 79) (0) (0) (by decide +kernel) (by decide +kernel) (by decide) d_L_listSeen_50 (fun _ => ?_) (fun q => absurd q (by decide))
  refine aw_iinc (v := nI 1) (lv2 := [.ref 7, .ref 155, .int (nI 0), .int (nI 0), .int (nI 1), .int (nI 0), .int (nI 0)]) rfl (by decide +kernel) (by decide) rfl d_L_listSeen_79 ?_
  refine aw_goto (tgt := 5) (by decide) d_L_listSeen_82 ?_
  refine aw_iload rfl d_L_listSeen_5 ?_
  refine aw_bipush (v := nI 6) cb_6 d_L_listSeen_7 ?_
  refine aw_icmp_geI (tgt := 85) (1) (6) (by decide +kernel) (by decide +kernel) (by decide) d_L_listSeen_9 (fun q => absurd q (by decide)) (fun _ => ?_)
  refine aw_aload_n rfl rfl d_L_listSeen_12 ?_
  refine aw_getr fl_L_15 kc_7 (by decide) rfl rc_7_1 d_L_listSeen_13 ?_
  refine aw_iload rfl d_L_listSeen_16 ?_
  refine aw_iald (j := 1) kc_9 (vp_in_nI (by decide) (by decide)) (nI_clamp (by decide)) d_L_listSeen_18 ?_
  refine aw_top (x2 := nI 0) (f1 (1) (by omega)) ?_
  refine aw_aload_n rfl rfl d_L_listSeen_19 ?_
  refine aw_getr fl_L_18 kc_7 (by decide) rfl rc_7_2 d_L_listSeen_20 ?_
  refine aw_iload rfl d_L_listSeen_23 ?_
  refine aw_iald (j := 1) kc_10 (vp_in_nI (by decide) (by decide)) (nI_clamp (by decide)) d_L_listSeen_25 ?_
  refine aw_top (x2 := nI 9) (f2 (1) (by omega)) ?_
  refine aw_iload rfl d_L_listSeen_26 ?_
  refine aw_iload_n rfl rfl d_L_listSeen_28 ?_
  refine aw_icmp_neI (tgt := 36) (1) (0) (by decide +kernel) (by decide +kernel) (by decide) d_L_listSeen_29 (fun _ => ?_) (fun q => absurd q (by decide))
  refine aw_iconst (v := nI 0) ci_0 d_L_listSeen_36 ?_
  refine aw_iadd d_L_listSeen_37 ?_
  refine aw_top (x2 := nI 9) (by decide +kernel) ?_
  refine as_callS (as := [.int (nI 0), .int (nI 9)]) (d' := 1) mo_JM_min lk_L_37 rfl ⟨by decide, by decide⟩ rfl rfl (by decide) d_L_listSeen_38 (sp_min_c (I := I) (x := nI 0) (z := nI 9) (X := (0)) (Z := (9)) (by decide +kernel) (by decide +kernel) (fun _ => ?_) (fun q => absurd q (by decide)) )
  refine (show As l b 2 y_L_listSeen KC RC K2 (I) 41 [.ref 7, .ref 155, .int (nI 0), .int (nI 0), .int (nI 1), .int (nI 0), .int (nI 0)] [.int (nI 0)] from ?_)
  refine aw_istore (lv2 := [.ref 7, .ref 155, .int (nI 0), .int (nI 0), .int (nI 1), .int (nI 0), .int (nI 0)]) (by decide) rfl d_L_listSeen_41 ?_
  refine aw_iconst (v := nI 0) ci_0 d_L_listSeen_43 ?_
  refine aw_istore (lv2 := [.ref 7, .ref 155, .int (nI 0), .int (nI 0), .int (nI 1), .int (nI 0), .int (nI 0)]) (by decide) rfl d_L_listSeen_44 ?_
  refine aw_iload rfl d_L_listSeen_46 ?_
  refine aw_iload rfl d_L_listSeen_48 ?_
  refine aw_icmp_geI (tgt := 79) (0) (0) (by decide +kernel) (by decide +kernel) (by decide) d_L_listSeen_50 (fun _ => ?_) (fun q => absurd q (by decide))
  refine aw_iinc (v := nI 2) (lv2 := [.ref 7, .ref 155, .int (nI 0), .int (nI 0), .int (nI 2), .int (nI 0), .int (nI 0)]) rfl (by decide +kernel) (by decide) rfl d_L_listSeen_79 ?_
  refine aw_goto (tgt := 5) (by decide) d_L_listSeen_82 ?_
  refine aw_iload rfl d_L_listSeen_5 ?_
  refine aw_bipush (v := nI 6) cb_6 d_L_listSeen_7 ?_
  refine aw_icmp_geI (tgt := 85) (2) (6) (by decide +kernel) (by decide +kernel) (by decide) d_L_listSeen_9 (fun q => absurd q (by decide)) (fun _ => ?_)
  refine aw_aload_n rfl rfl d_L_listSeen_12 ?_
  refine aw_getr fl_L_15 kc_7 (by decide) rfl rc_7_1 d_L_listSeen_13 ?_
  refine aw_iload rfl d_L_listSeen_16 ?_
  refine aw_iald (j := 2) kc_9 (vp_in_nI (by decide) (by decide)) (nI_clamp (by decide)) d_L_listSeen_18 ?_
  refine aw_top (x2 := nI 0) (f1 (2) (by omega)) ?_
  refine aw_aload_n rfl rfl d_L_listSeen_19 ?_
  refine aw_getr fl_L_18 kc_7 (by decide) rfl rc_7_2 d_L_listSeen_20 ?_
  refine aw_iload rfl d_L_listSeen_23 ?_
  refine aw_iald (j := 2) kc_10 (vp_in_nI (by decide) (by decide)) (nI_clamp (by decide)) d_L_listSeen_25 ?_
  refine aw_top (x2 := nI 9) (f2 (2) (by omega)) ?_
  refine aw_iload rfl d_L_listSeen_26 ?_
  refine aw_iload_n rfl rfl d_L_listSeen_28 ?_
  refine aw_icmp_neI (tgt := 36) (2) (0) (by decide +kernel) (by decide +kernel) (by decide) d_L_listSeen_29 (fun _ => ?_) (fun q => absurd q (by decide))
  refine aw_iconst (v := nI 0) ci_0 d_L_listSeen_36 ?_
  refine aw_iadd d_L_listSeen_37 ?_
  refine aw_top (x2 := nI 9) (by decide +kernel) ?_
  refine as_callS (as := [.int (nI 0), .int (nI 9)]) (d' := 1) mo_JM_min lk_L_37 rfl ⟨by decide, by decide⟩ rfl rfl (by decide) d_L_listSeen_38 (sp_min_c (I := I) (x := nI 0) (z := nI 9) (X := (0)) (Z := (9)) (by decide +kernel) (by decide +kernel) (fun _ => ?_) (fun q => absurd q (by decide)) )
  refine (show As l b 2 y_L_listSeen KC RC K2 (I) 41 [.ref 7, .ref 155, .int (nI 0), .int (nI 0), .int (nI 2), .int (nI 0), .int (nI 0)] [.int (nI 0)] from ?_)
  refine aw_istore (lv2 := [.ref 7, .ref 155, .int (nI 0), .int (nI 0), .int (nI 2), .int (nI 0), .int (nI 0)]) (by decide) rfl d_L_listSeen_41 ?_
  refine aw_iconst (v := nI 0) ci_0 d_L_listSeen_43 ?_
  refine aw_istore (lv2 := [.ref 7, .ref 155, .int (nI 0), .int (nI 0), .int (nI 2), .int (nI 0), .int (nI 0)]) (by decide) rfl d_L_listSeen_44 ?_
  refine aw_iload rfl d_L_listSeen_46 ?_
  refine aw_iload rfl d_L_listSeen_48 ?_
  refine aw_icmp_geI (tgt := 79) (0) (0) (by decide +kernel) (by decide +kernel) (by decide) d_L_listSeen_50 (fun _ => ?_) (fun q => absurd q (by decide))
  refine aw_iinc (v := nI 3) (lv2 := [.ref 7, .ref 155, .int (nI 0), .int (nI 0), .int (nI 3), .int (nI 0), .int (nI 0)]) rfl (by decide +kernel) (by decide) rfl d_L_listSeen_79 ?_
  refine aw_goto (tgt := 5) (by decide) d_L_listSeen_82 ?_
  refine aw_iload rfl d_L_listSeen_5 ?_
  refine aw_bipush (v := nI 6) cb_6 d_L_listSeen_7 ?_
  refine aw_icmp_geI (tgt := 85) (3) (6) (by decide +kernel) (by decide +kernel) (by decide) d_L_listSeen_9 (fun q => absurd q (by decide)) (fun _ => ?_)
  refine aw_aload_n rfl rfl d_L_listSeen_12 ?_
  refine aw_getr fl_L_15 kc_7 (by decide) rfl rc_7_1 d_L_listSeen_13 ?_
  refine aw_iload rfl d_L_listSeen_16 ?_
  refine aw_iald (j := 3) kc_9 (vp_in_nI (by decide) (by decide)) (nI_clamp (by decide)) d_L_listSeen_18 ?_
  refine aw_top (x2 := nI 0) (f1 (3) (by omega)) ?_
  refine aw_aload_n rfl rfl d_L_listSeen_19 ?_
  refine aw_getr fl_L_18 kc_7 (by decide) rfl rc_7_2 d_L_listSeen_20 ?_
  refine aw_iload rfl d_L_listSeen_23 ?_
  refine aw_iald (j := 3) kc_10 (vp_in_nI (by decide) (by decide)) (nI_clamp (by decide)) d_L_listSeen_25 ?_
  refine aw_top (x2 := nI 9) (f2 (3) (by omega)) ?_
  refine aw_iload rfl d_L_listSeen_26 ?_
  refine aw_iload_n rfl rfl d_L_listSeen_28 ?_
  refine aw_icmp_neI (tgt := 36) (3) (0) (by decide +kernel) (by decide +kernel) (by decide) d_L_listSeen_29 (fun _ => ?_) (fun q => absurd q (by decide))
  refine aw_iconst (v := nI 0) ci_0 d_L_listSeen_36 ?_
  refine aw_iadd d_L_listSeen_37 ?_
  refine aw_top (x2 := nI 9) (by decide +kernel) ?_
  refine as_callS (as := [.int (nI 0), .int (nI 9)]) (d' := 1) mo_JM_min lk_L_37 rfl ⟨by decide, by decide⟩ rfl rfl (by decide) d_L_listSeen_38 (sp_min_c (I := I) (x := nI 0) (z := nI 9) (X := (0)) (Z := (9)) (by decide +kernel) (by decide +kernel) (fun _ => ?_) (fun q => absurd q (by decide)) )
  refine (show As l b 2 y_L_listSeen KC RC K2 (I) 41 [.ref 7, .ref 155, .int (nI 0), .int (nI 0), .int (nI 3), .int (nI 0), .int (nI 0)] [.int (nI 0)] from ?_)
  refine aw_istore (lv2 := [.ref 7, .ref 155, .int (nI 0), .int (nI 0), .int (nI 3), .int (nI 0), .int (nI 0)]) (by decide) rfl d_L_listSeen_41 ?_
  refine aw_iconst (v := nI 0) ci_0 d_L_listSeen_43 ?_
  refine aw_istore (lv2 := [.ref 7, .ref 155, .int (nI 0), .int (nI 0), .int (nI 3), .int (nI 0), .int (nI 0)]) (by decide) rfl d_L_listSeen_44 ?_
  refine aw_iload rfl d_L_listSeen_46 ?_
  refine aw_iload rfl d_L_listSeen_48 ?_
  refine aw_icmp_geI (tgt := 79) (0) (0) (by decide +kernel) (by decide +kernel) (by decide) d_L_listSeen_50 (fun _ => ?_) (fun q => absurd q (by decide))
  refine aw_iinc (v := nI 4) (lv2 := [.ref 7, .ref 155, .int (nI 0), .int (nI 0), .int (nI 4), .int (nI 0), .int (nI 0)]) rfl (by decide +kernel) (by decide) rfl d_L_listSeen_79 ?_
  refine aw_goto (tgt := 5) (by decide) d_L_listSeen_82 ?_
  refine aw_iload rfl d_L_listSeen_5 ?_
  refine aw_bipush (v := nI 6) cb_6 d_L_listSeen_7 ?_
  refine aw_icmp_geI (tgt := 85) (4) (6) (by decide +kernel) (by decide +kernel) (by decide) d_L_listSeen_9 (fun q => absurd q (by decide)) (fun _ => ?_)
  refine aw_aload_n rfl rfl d_L_listSeen_12 ?_
  refine aw_getr fl_L_15 kc_7 (by decide) rfl rc_7_1 d_L_listSeen_13 ?_
  refine aw_iload rfl d_L_listSeen_16 ?_
  refine aw_iald (j := 4) kc_9 (vp_in_nI (by decide) (by decide)) (nI_clamp (by decide)) d_L_listSeen_18 ?_
  refine aw_top (x2 := nI 0) (f1 (4) (by omega)) ?_
  refine aw_aload_n rfl rfl d_L_listSeen_19 ?_
  refine aw_getr fl_L_18 kc_7 (by decide) rfl rc_7_2 d_L_listSeen_20 ?_
  refine aw_iload rfl d_L_listSeen_23 ?_
  refine aw_iald (j := 4) kc_10 (vp_in_nI (by decide) (by decide)) (nI_clamp (by decide)) d_L_listSeen_25 ?_
  refine aw_top (x2 := nI 9) (f2 (4) (by omega)) ?_
  refine aw_iload rfl d_L_listSeen_26 ?_
  refine aw_iload_n rfl rfl d_L_listSeen_28 ?_
  refine aw_icmp_neI (tgt := 36) (4) (0) (by decide +kernel) (by decide +kernel) (by decide) d_L_listSeen_29 (fun _ => ?_) (fun q => absurd q (by decide))
  refine aw_iconst (v := nI 0) ci_0 d_L_listSeen_36 ?_
  refine aw_iadd d_L_listSeen_37 ?_
  refine aw_top (x2 := nI 9) (by decide +kernel) ?_
  refine as_callS (as := [.int (nI 0), .int (nI 9)]) (d' := 1) mo_JM_min lk_L_37 rfl ⟨by decide, by decide⟩ rfl rfl (by decide) d_L_listSeen_38 (sp_min_c (I := I) (x := nI 0) (z := nI 9) (X := (0)) (Z := (9)) (by decide +kernel) (by decide +kernel) (fun _ => ?_) (fun q => absurd q (by decide)) )
  refine (show As l b 2 y_L_listSeen KC RC K2 (I) 41 [.ref 7, .ref 155, .int (nI 0), .int (nI 0), .int (nI 4), .int (nI 0), .int (nI 0)] [.int (nI 0)] from ?_)
  refine aw_istore (lv2 := [.ref 7, .ref 155, .int (nI 0), .int (nI 0), .int (nI 4), .int (nI 0), .int (nI 0)]) (by decide) rfl d_L_listSeen_41 ?_
  refine aw_iconst (v := nI 0) ci_0 d_L_listSeen_43 ?_
  refine aw_istore (lv2 := [.ref 7, .ref 155, .int (nI 0), .int (nI 0), .int (nI 4), .int (nI 0), .int (nI 0)]) (by decide) rfl d_L_listSeen_44 ?_
  refine aw_iload rfl d_L_listSeen_46 ?_
  refine aw_iload rfl d_L_listSeen_48 ?_
  refine aw_icmp_geI (tgt := 79) (0) (0) (by decide +kernel) (by decide +kernel) (by decide) d_L_listSeen_50 (fun _ => ?_) (fun q => absurd q (by decide))
  refine aw_iinc (v := nI 5) (lv2 := [.ref 7, .ref 155, .int (nI 0), .int (nI 0), .int (nI 5), .int (nI 0), .int (nI 0)]) rfl (by decide +kernel) (by decide) rfl d_L_listSeen_79 ?_
  refine aw_goto (tgt := 5) (by decide) d_L_listSeen_82 ?_
  refine aw_iload rfl d_L_listSeen_5 ?_
  refine aw_bipush (v := nI 6) cb_6 d_L_listSeen_7 ?_
  refine aw_icmp_geI (tgt := 85) (5) (6) (by decide +kernel) (by decide +kernel) (by decide) d_L_listSeen_9 (fun q => absurd q (by decide)) (fun _ => ?_)
  refine aw_aload_n rfl rfl d_L_listSeen_12 ?_
  refine aw_getr fl_L_15 kc_7 (by decide) rfl rc_7_1 d_L_listSeen_13 ?_
  refine aw_iload rfl d_L_listSeen_16 ?_
  refine aw_iald (j := 5) kc_9 (vp_in_nI (by decide) (by decide)) (nI_clamp (by decide)) d_L_listSeen_18 ?_
  refine aw_top (x2 := nI 0) (f1 (5) (by omega)) ?_
  refine aw_aload_n rfl rfl d_L_listSeen_19 ?_
  refine aw_getr fl_L_18 kc_7 (by decide) rfl rc_7_2 d_L_listSeen_20 ?_
  refine aw_iload rfl d_L_listSeen_23 ?_
  refine aw_iald (j := 5) kc_10 (vp_in_nI (by decide) (by decide)) (nI_clamp (by decide)) d_L_listSeen_25 ?_
  refine aw_top (x2 := nI 9) (f2 (5) (by omega)) ?_
  refine aw_iload rfl d_L_listSeen_26 ?_
  refine aw_iload_n rfl rfl d_L_listSeen_28 ?_
  refine aw_icmp_neI (tgt := 36) (5) (0) (by decide +kernel) (by decide +kernel) (by decide) d_L_listSeen_29 (fun _ => ?_) (fun q => absurd q (by decide))
  refine aw_iconst (v := nI 0) ci_0 d_L_listSeen_36 ?_
  refine aw_iadd d_L_listSeen_37 ?_
  refine aw_top (x2 := nI 9) (by decide +kernel) ?_
  refine as_callS (as := [.int (nI 0), .int (nI 9)]) (d' := 1) mo_JM_min lk_L_37 rfl ⟨by decide, by decide⟩ rfl rfl (by decide) d_L_listSeen_38 (sp_min_c (I := I) (x := nI 0) (z := nI 9) (X := (0)) (Z := (9)) (by decide +kernel) (by decide +kernel) (fun _ => ?_) (fun q => absurd q (by decide)) )
  refine (show As l b 2 y_L_listSeen KC RC K2 (I) 41 [.ref 7, .ref 155, .int (nI 0), .int (nI 0), .int (nI 5), .int (nI 0), .int (nI 0)] [.int (nI 0)] from ?_)
  refine aw_istore (lv2 := [.ref 7, .ref 155, .int (nI 0), .int (nI 0), .int (nI 5), .int (nI 0), .int (nI 0)]) (by decide) rfl d_L_listSeen_41 ?_
  refine aw_iconst (v := nI 0) ci_0 d_L_listSeen_43 ?_
  refine aw_istore (lv2 := [.ref 7, .ref 155, .int (nI 0), .int (nI 0), .int (nI 5), .int (nI 0), .int (nI 0)]) (by decide) rfl d_L_listSeen_44 ?_
  refine aw_iload rfl d_L_listSeen_46 ?_
  refine aw_iload rfl d_L_listSeen_48 ?_
  refine aw_icmp_geI (tgt := 79) (0) (0) (by decide +kernel) (by decide +kernel) (by decide) d_L_listSeen_50 (fun _ => ?_) (fun q => absurd q (by decide))
  refine aw_iinc (v := nI 6) (lv2 := [.ref 7, .ref 155, .int (nI 0), .int (nI 0), .int (nI 6), .int (nI 0), .int (nI 0)]) rfl (by decide +kernel) (by decide) rfl d_L_listSeen_79 ?_
  refine aw_goto (tgt := 5) (by decide) d_L_listSeen_82 ?_
  refine aw_iload rfl d_L_listSeen_5 ?_
  refine aw_bipush (v := nI 6) cb_6 d_L_listSeen_7 ?_
  refine aw_icmp_geI (tgt := 85) (6) (6) (by decide +kernel) (by decide +kernel) (by decide) d_L_listSeen_9 (fun _ => ?_) (fun q => absurd q (by decide))
  refine aw_iload_n rfl rfl d_L_listSeen_85 ?_
  exact as_reti rfl d_L_listSeen_86 hK
set_option maxRecDepth 20000 in
theorem sp_fillMost_0 {K2 : K2T} {I : Nat → Nat → Int32} (f1 : ∀ j, j < 6 → I 9 j = nI 0) (f2 : ∀ j, j < 6 → I 10 j = nI 9) (f3 : I 2 0 = nI 4) (hK : ∀ I', I' 154 6 = nI 0 → (∀ q, q ≠ 154 → q ≠ 158 → I' q = I q) → K2 (some (.int (nI 0))) I') : Ss l b 6 y_F_fillMost KC RC [.ref 154, .ref 1, .int (nI 0)] (I) K2 := by
  refine Ss.of (show As l b 6 y_F_fillMost KC RC K2 (I) 0 [.ref 154, .ref 1, .int (nI 0), uu, uu, uu, uu] [] from ?_)
  refine aw_aload_n rfl rfl d_F_fillMost_0 ?_
  refine aw_getr fl_F_27 kc_1 (by decide) rfl rc_1_0 d_F_fillMost_1 ?_
  refine aw_iconst (v := nI 0) ci_0 d_F_fillMost_4 ?_
  refine aw_iald (j := 0) kc_2 (vp_in_nI (by decide) (by decide)) (nI_clamp (by decide)) d_F_fillMost_5 ?_
  refine aw_top (x2 := nI 4) (f3) ?_
  refine aw_bipush (v := nI 8) cb_8 d_F_fillMost_6 ?_
  refine as_callS (as := [.int (nI 4), .int (nI 8)]) (d' := 1) mo_JM_min lk_F_32 rfl ⟨by decide, by decide⟩ rfl rfl (by decide) d_F_fillMost_8 (sp_min_c (I := I) (x := nI 4) (z := nI 8) (X := (4)) (Z := (8)) (by decide +kernel) (by decide +kernel) (fun _ => ?_) (fun q => absurd q (by decide)) )
  refine (show As l b 6 y_F_fillMost KC RC K2 (I) 11 [.ref 154, .ref 1, .int (nI 0), uu, uu, uu, uu] [.int (nI 4)] from ?_)
  refine aw_istore_n (lv2 := [.ref 154, .ref 1, .int (nI 0), .int (nI 4), uu, uu, uu]) rfl (by decide) rfl d_F_fillMost_11 ?_
  refine aw_aload_n rfl rfl d_F_fillMost_12 ?_
  refine aw_aload_n rfl rfl d_F_fillMost_13 ?_
  refine aw_getr fl_F_38 kc_1 (by decide) rfl rc_1_5 d_F_fillMost_14 ?_
  refine aw_iload_n rfl rfl d_F_fillMost_17 ?_
  refine as_callV (as := [.ref 7, .int (nI 0)]) (d' := 5) (q := ("SinglesUp$Filling", zT1, 7)) mo_F_gather lk_F_42 kc_154 rfl rfl rfl ⟨by decide, by decide⟩ rfl rfl (by decide) d_F_fillMost_18 (Ss.of (show As l b 5 y_F_gather KC RC _ (I) 0 [.ref 154, .ref 7, .int (nI 0), uu, uu, uu] [] from ?_))
  refine aw_aload_n rfl rfl d_F_gather_0 ?_
  refine aw_aload_n rfl rfl d_F_gather_1 ?_
  refine aw_getr fl_F_9 kc_154 (by decide) rfl rc_154_0 d_F_gather_2 ?_
  refine aw_iload_n rfl rfl d_F_gather_5 ?_
  refine as_callV (as := [.ref 155, .int (nI 0)]) (d' := 2) (q := ("SinglesUp$Lines", zT4, 3)) mo_L_listSeen lk_F_64 kc_7 rfl rfl rfl ⟨by decide, by decide⟩ rfl rfl (by decide) d_F_gather_6 (sp_listSeen_7_155_0 (I := I) (fun j hj => by simp [upd2, upd, updA, f1 j hj]) (fun j hj => by simp [upd2, upd, updA, f2 j hj]) ?_)
  refine (show As l b 5 y_F_gather KC RC _ (I) 9 [.ref 154, .ref 7, .int (nI 0), uu, uu, uu] [.int (nI 0)] from ?_)
  refine aw_istore_n (lv2 := [.ref 154, .ref 7, .int (nI 0), .int (nI 0), uu, uu]) rfl (by decide) rfl d_F_gather_9 ?_
  refine aw_aload_n rfl rfl d_F_gather_10 ?_
  refine aw_iconst (v := nI 0) ci_0 d_F_gather_11 ?_
  refine aw_puti fl_F_46 kc_154 (by decide) rfl rfl rfl rfl d_F_gather_12 ?_
  refine aw_iconst (v := nI 0) ci_0 d_F_gather_15 ?_
  refine aw_istore (lv2 := [.ref 154, .ref 7, .int (nI 0), .int (nI 0), .int (nI 0), uu]) (by decide) rfl d_F_gather_16 ?_
  refine aw_iload rfl d_F_gather_18 ?_
  refine aw_iload_n rfl rfl d_F_gather_20 ?_
  refine aw_icmp_geI (tgt := 116) (0) (0) (by decide +kernel) (by decide +kernel) (by decide) d_F_gather_21 (fun _ => ?_) (fun q => absurd q (by decide))
  refine as_retv rfl d_F_gather_116 ?_
  refine (show As l b 6 y_F_fillMost KC RC K2 (upd2 I 154 3 (nI 0)) 21 [.ref 154, .ref 1, .int (nI 0), .int (nI 4), uu, uu, uu] [] from ?_)
  exact fr_fillMost (I := upd2 I 154 3 (nI 0)) (lg := nI 0) (by simp [upd2, upd, updA]) (fun I2 g1 g2 => hK I2 g1 (fun q n1 n2 => by rw [g2 q n1 n2]; simp [upd2, n1]))
set_option maxRecDepth 20000 in
theorem sp_listSeen_7_155_1 {K2 : K2T} {I : Nat → Nat → Int32} (f1 : ∀ j, j < 6 → I 9 j = nI 0) (f2 : ∀ j, j < 6 → I 10 j = nI 9) (hK : K2 (some (.int (nI 0))) I) : Ss l b 2 y_L_listSeen KC RC [.ref 7, .ref 155, .int (nI 1)] (I) K2 := by
  refine Ss.of (show As l b 2 y_L_listSeen KC RC K2 (I) 0 [.ref 7, .ref 155, .int (nI 1), uu, uu, uu, uu] [] from ?_)
  refine aw_iconst (v := nI 0) ci_0 d_L_listSeen_0 ?_
  refine aw_istore_n (lv2 := [.ref 7, .ref 155, .int (nI 1), .int (nI 0), uu, uu, uu]) rfl (by decide) rfl d_L_listSeen_1 ?_
  refine aw_iconst (v := nI 0) ci_0 d_L_listSeen_2 ?_
  refine aw_istore (lv2 := [.ref 7, .ref 155, .int (nI 1), .int (nI 0), .int (nI 0), uu, uu]) (by decide) rfl d_L_listSeen_3 ?_
  refine aw_iload rfl d_L_listSeen_5 ?_
  refine aw_bipush (v := nI 6) cb_6 d_L_listSeen_7 ?_
  refine aw_icmp_geI (tgt := 85) (0) (6) (by decide +kernel) (by decide +kernel) (by decide) d_L_listSeen_9 (fun q => absurd q (by decide)) (fun _ => ?_)
  refine aw_aload_n rfl rfl d_L_listSeen_12 ?_
  refine aw_getr fl_L_15 kc_7 (by decide) rfl rc_7_1 d_L_listSeen_13 ?_
  refine aw_iload rfl d_L_listSeen_16 ?_
  refine aw_iald (j := 0) kc_9 (vp_in_nI (by decide) (by decide)) (nI_clamp (by decide)) d_L_listSeen_18 ?_
  refine aw_top (x2 := nI 0) (f1 (0) (by omega)) ?_
  refine aw_aload_n rfl rfl d_L_listSeen_19 ?_
  refine aw_getr fl_L_18 kc_7 (by decide) rfl rc_7_2 d_L_listSeen_20 ?_
  refine aw_iload rfl d_L_listSeen_23 ?_
  refine aw_iald (j := 0) kc_10 (vp_in_nI (by decide) (by decide)) (nI_clamp (by decide)) d_L_listSeen_25 ?_
  refine aw_top (x2 := nI 9) (f2 (0) (by omega)) ?_
  refine aw_iload rfl d_L_listSeen_26 ?_
  refine aw_iload_n rfl rfl d_L_listSeen_28 ?_
  refine aw_icmp_neI (tgt := 36) (0) (1) (by decide +kernel) (by decide +kernel) (by decide) d_L_listSeen_29 (fun _ => ?_) (fun q => absurd q (by decide))
  refine aw_iconst (v := nI 0) ci_0 d_L_listSeen_36 ?_
  refine aw_iadd d_L_listSeen_37 ?_
  refine aw_top (x2 := nI 9) (by decide +kernel) ?_
  refine as_callS (as := [.int (nI 0), .int (nI 9)]) (d' := 1) mo_JM_min lk_L_37 rfl ⟨by decide, by decide⟩ rfl rfl (by decide) d_L_listSeen_38 (sp_min_c (I := I) (x := nI 0) (z := nI 9) (X := (0)) (Z := (9)) (by decide +kernel) (by decide +kernel) (fun _ => ?_) (fun q => absurd q (by decide)) )
  refine (show As l b 2 y_L_listSeen KC RC K2 (I) 41 [.ref 7, .ref 155, .int (nI 1), .int (nI 0), .int (nI 0), uu, uu] [.int (nI 0)] from ?_)
  refine aw_istore (lv2 := [.ref 7, .ref 155, .int (nI 1), .int (nI 0), .int (nI 0), .int (nI 0), uu]) (by decide) rfl d_L_listSeen_41 ?_
  refine aw_iconst (v := nI 0) ci_0 d_L_listSeen_43 ?_
  refine aw_istore (lv2 := [.ref 7, .ref 155, .int (nI 1), .int (nI 0), .int (nI 0), .int (nI 0), .int (nI 0)]) (by decide) rfl d_L_listSeen_44 ?_
  refine aw_iload rfl d_L_listSeen_46 ?_
  refine aw_iload rfl d_L_listSeen_48 ?_
  refine aw_icmp_geI (tgt := 79) (0) (0) (by decide +kernel) (by decide +kernel) (by decide) d_L_listSeen_50 (fun _ => ?_) (fun q => absurd q (by decide))
  refine aw_iinc (v := nI 1) (lv2 := [.ref 7, .ref 155, .int (nI 1), .int (nI 0), .int (nI 1), .int (nI 0), .int (nI 0)]) rfl (by decide +kernel) (by decide) rfl d_L_listSeen_79 ?_
  refine aw_goto (tgt := 5) (by decide) d_L_listSeen_82 ?_
  refine aw_iload rfl d_L_listSeen_5 ?_
  refine aw_bipush (v := nI 6) cb_6 d_L_listSeen_7 ?_
  refine aw_icmp_geI (tgt := 85) (1) (6) (by decide +kernel) (by decide +kernel) (by decide) d_L_listSeen_9 (fun q => absurd q (by decide)) (fun _ => ?_)
  refine aw_aload_n rfl rfl d_L_listSeen_12 ?_
  refine aw_getr fl_L_15 kc_7 (by decide) rfl rc_7_1 d_L_listSeen_13 ?_
  refine aw_iload rfl d_L_listSeen_16 ?_
  refine aw_iald (j := 1) kc_9 (vp_in_nI (by decide) (by decide)) (nI_clamp (by decide)) d_L_listSeen_18 ?_
  refine aw_top (x2 := nI 0) (f1 (1) (by omega)) ?_
  refine aw_aload_n rfl rfl d_L_listSeen_19 ?_
  refine aw_getr fl_L_18 kc_7 (by decide) rfl rc_7_2 d_L_listSeen_20 ?_
  refine aw_iload rfl d_L_listSeen_23 ?_
  refine aw_iald (j := 1) kc_10 (vp_in_nI (by decide) (by decide)) (nI_clamp (by decide)) d_L_listSeen_25 ?_
  refine aw_top (x2 := nI 9) (f2 (1) (by omega)) ?_
  refine aw_iload rfl d_L_listSeen_26 ?_
  refine aw_iload_n rfl rfl d_L_listSeen_28 ?_
  refine aw_icmp_neI (tgt := 36) (1) (1) (by decide +kernel) (by decide +kernel) (by decide) d_L_listSeen_29 (fun q => absurd q (by decide)) (fun _ => ?_)
  refine aw_iconst (v := nI 1) ci_1 d_L_listSeen_32 ?_
  refine aw_goto (tgt := 37) (by decide) d_L_listSeen_33 ?_
  refine aw_iadd d_L_listSeen_37 ?_
  refine aw_top (x2 := nI 10) (by decide +kernel) ?_
  refine as_callS (as := [.int (nI 0), .int (nI 10)]) (d' := 1) mo_JM_min lk_L_37 rfl ⟨by decide, by decide⟩ rfl rfl (by decide) d_L_listSeen_38 (sp_min_c (I := I) (x := nI 0) (z := nI 10) (X := (0)) (Z := (10)) (by decide +kernel) (by decide +kernel) (fun _ => ?_) (fun q => absurd q (by decide)) )
  refine (show As l b 2 y_L_listSeen KC RC K2 (I) 41 [.ref 7, .ref 155, .int (nI 1), .int (nI 0), .int (nI 1), .int (nI 0), .int (nI 0)] [.int (nI 0)] from ?_)
  refine aw_istore (lv2 := [.ref 7, .ref 155, .int (nI 1), .int (nI 0), .int (nI 1), .int (nI 0), .int (nI 0)]) (by decide) rfl d_L_listSeen_41 ?_
  refine aw_iconst (v := nI 0) ci_0 d_L_listSeen_43 ?_
  refine aw_istore (lv2 := [.ref 7, .ref 155, .int (nI 1), .int (nI 0), .int (nI 1), .int (nI 0), .int (nI 0)]) (by decide) rfl d_L_listSeen_44 ?_
  refine aw_iload rfl d_L_listSeen_46 ?_
  refine aw_iload rfl d_L_listSeen_48 ?_
  refine aw_icmp_geI (tgt := 79) (0) (0) (by decide +kernel) (by decide +kernel) (by decide) d_L_listSeen_50 (fun _ => ?_) (fun q => absurd q (by decide))
  refine aw_iinc (v := nI 2) (lv2 := [.ref 7, .ref 155, .int (nI 1), .int (nI 0), .int (nI 2), .int (nI 0), .int (nI 0)]) rfl (by decide +kernel) (by decide) rfl d_L_listSeen_79 ?_
  refine aw_goto (tgt := 5) (by decide) d_L_listSeen_82 ?_
  refine aw_iload rfl d_L_listSeen_5 ?_
  refine aw_bipush (v := nI 6) cb_6 d_L_listSeen_7 ?_
  refine aw_icmp_geI (tgt := 85) (2) (6) (by decide +kernel) (by decide +kernel) (by decide) d_L_listSeen_9 (fun q => absurd q (by decide)) (fun _ => ?_)
  refine aw_aload_n rfl rfl d_L_listSeen_12 ?_
  refine aw_getr fl_L_15 kc_7 (by decide) rfl rc_7_1 d_L_listSeen_13 ?_
  refine aw_iload rfl d_L_listSeen_16 ?_
  refine aw_iald (j := 2) kc_9 (vp_in_nI (by decide) (by decide)) (nI_clamp (by decide)) d_L_listSeen_18 ?_
  refine aw_top (x2 := nI 0) (f1 (2) (by omega)) ?_
  refine aw_aload_n rfl rfl d_L_listSeen_19 ?_
  refine aw_getr fl_L_18 kc_7 (by decide) rfl rc_7_2 d_L_listSeen_20 ?_
  refine aw_iload rfl d_L_listSeen_23 ?_
  refine aw_iald (j := 2) kc_10 (vp_in_nI (by decide) (by decide)) (nI_clamp (by decide)) d_L_listSeen_25 ?_
  refine aw_top (x2 := nI 9) (f2 (2) (by omega)) ?_
  refine aw_iload rfl d_L_listSeen_26 ?_
  refine aw_iload_n rfl rfl d_L_listSeen_28 ?_
  refine aw_icmp_neI (tgt := 36) (2) (1) (by decide +kernel) (by decide +kernel) (by decide) d_L_listSeen_29 (fun _ => ?_) (fun q => absurd q (by decide))
  refine aw_iconst (v := nI 0) ci_0 d_L_listSeen_36 ?_
  refine aw_iadd d_L_listSeen_37 ?_
  refine aw_top (x2 := nI 9) (by decide +kernel) ?_
  refine as_callS (as := [.int (nI 0), .int (nI 9)]) (d' := 1) mo_JM_min lk_L_37 rfl ⟨by decide, by decide⟩ rfl rfl (by decide) d_L_listSeen_38 (sp_min_c (I := I) (x := nI 0) (z := nI 9) (X := (0)) (Z := (9)) (by decide +kernel) (by decide +kernel) (fun _ => ?_) (fun q => absurd q (by decide)) )
  refine (show As l b 2 y_L_listSeen KC RC K2 (I) 41 [.ref 7, .ref 155, .int (nI 1), .int (nI 0), .int (nI 2), .int (nI 0), .int (nI 0)] [.int (nI 0)] from ?_)
  refine aw_istore (lv2 := [.ref 7, .ref 155, .int (nI 1), .int (nI 0), .int (nI 2), .int (nI 0), .int (nI 0)]) (by decide) rfl d_L_listSeen_41 ?_
  refine aw_iconst (v := nI 0) ci_0 d_L_listSeen_43 ?_
  refine aw_istore (lv2 := [.ref 7, .ref 155, .int (nI 1), .int (nI 0), .int (nI 2), .int (nI 0), .int (nI 0)]) (by decide) rfl d_L_listSeen_44 ?_
  refine aw_iload rfl d_L_listSeen_46 ?_
  refine aw_iload rfl d_L_listSeen_48 ?_
  refine aw_icmp_geI (tgt := 79) (0) (0) (by decide +kernel) (by decide +kernel) (by decide) d_L_listSeen_50 (fun _ => ?_) (fun q => absurd q (by decide))
  refine aw_iinc (v := nI 3) (lv2 := [.ref 7, .ref 155, .int (nI 1), .int (nI 0), .int (nI 3), .int (nI 0), .int (nI 0)]) rfl (by decide +kernel) (by decide) rfl d_L_listSeen_79 ?_
  refine aw_goto (tgt := 5) (by decide) d_L_listSeen_82 ?_
  refine aw_iload rfl d_L_listSeen_5 ?_
  refine aw_bipush (v := nI 6) cb_6 d_L_listSeen_7 ?_
  refine aw_icmp_geI (tgt := 85) (3) (6) (by decide +kernel) (by decide +kernel) (by decide) d_L_listSeen_9 (fun q => absurd q (by decide)) (fun _ => ?_)
  refine aw_aload_n rfl rfl d_L_listSeen_12 ?_
  refine aw_getr fl_L_15 kc_7 (by decide) rfl rc_7_1 d_L_listSeen_13 ?_
  refine aw_iload rfl d_L_listSeen_16 ?_
  refine aw_iald (j := 3) kc_9 (vp_in_nI (by decide) (by decide)) (nI_clamp (by decide)) d_L_listSeen_18 ?_
  refine aw_top (x2 := nI 0) (f1 (3) (by omega)) ?_
  refine aw_aload_n rfl rfl d_L_listSeen_19 ?_
  refine aw_getr fl_L_18 kc_7 (by decide) rfl rc_7_2 d_L_listSeen_20 ?_
  refine aw_iload rfl d_L_listSeen_23 ?_
  refine aw_iald (j := 3) kc_10 (vp_in_nI (by decide) (by decide)) (nI_clamp (by decide)) d_L_listSeen_25 ?_
  refine aw_top (x2 := nI 9) (f2 (3) (by omega)) ?_
  refine aw_iload rfl d_L_listSeen_26 ?_
  refine aw_iload_n rfl rfl d_L_listSeen_28 ?_
  refine aw_icmp_neI (tgt := 36) (3) (1) (by decide +kernel) (by decide +kernel) (by decide) d_L_listSeen_29 (fun _ => ?_) (fun q => absurd q (by decide))
  refine aw_iconst (v := nI 0) ci_0 d_L_listSeen_36 ?_
  refine aw_iadd d_L_listSeen_37 ?_
  refine aw_top (x2 := nI 9) (by decide +kernel) ?_
  refine as_callS (as := [.int (nI 0), .int (nI 9)]) (d' := 1) mo_JM_min lk_L_37 rfl ⟨by decide, by decide⟩ rfl rfl (by decide) d_L_listSeen_38 (sp_min_c (I := I) (x := nI 0) (z := nI 9) (X := (0)) (Z := (9)) (by decide +kernel) (by decide +kernel) (fun _ => ?_) (fun q => absurd q (by decide)) )
  refine (show As l b 2 y_L_listSeen KC RC K2 (I) 41 [.ref 7, .ref 155, .int (nI 1), .int (nI 0), .int (nI 3), .int (nI 0), .int (nI 0)] [.int (nI 0)] from ?_)
  refine aw_istore (lv2 := [.ref 7, .ref 155, .int (nI 1), .int (nI 0), .int (nI 3), .int (nI 0), .int (nI 0)]) (by decide) rfl d_L_listSeen_41 ?_
  refine aw_iconst (v := nI 0) ci_0 d_L_listSeen_43 ?_
  refine aw_istore (lv2 := [.ref 7, .ref 155, .int (nI 1), .int (nI 0), .int (nI 3), .int (nI 0), .int (nI 0)]) (by decide) rfl d_L_listSeen_44 ?_
  refine aw_iload rfl d_L_listSeen_46 ?_
  refine aw_iload rfl d_L_listSeen_48 ?_
  refine aw_icmp_geI (tgt := 79) (0) (0) (by decide +kernel) (by decide +kernel) (by decide) d_L_listSeen_50 (fun _ => ?_) (fun q => absurd q (by decide))
  refine aw_iinc (v := nI 4) (lv2 := [.ref 7, .ref 155, .int (nI 1), .int (nI 0), .int (nI 4), .int (nI 0), .int (nI 0)]) rfl (by decide +kernel) (by decide) rfl d_L_listSeen_79 ?_
  refine aw_goto (tgt := 5) (by decide) d_L_listSeen_82 ?_
  refine aw_iload rfl d_L_listSeen_5 ?_
  refine aw_bipush (v := nI 6) cb_6 d_L_listSeen_7 ?_
  refine aw_icmp_geI (tgt := 85) (4) (6) (by decide +kernel) (by decide +kernel) (by decide) d_L_listSeen_9 (fun q => absurd q (by decide)) (fun _ => ?_)
  refine aw_aload_n rfl rfl d_L_listSeen_12 ?_
  refine aw_getr fl_L_15 kc_7 (by decide) rfl rc_7_1 d_L_listSeen_13 ?_
  refine aw_iload rfl d_L_listSeen_16 ?_
  refine aw_iald (j := 4) kc_9 (vp_in_nI (by decide) (by decide)) (nI_clamp (by decide)) d_L_listSeen_18 ?_
  refine aw_top (x2 := nI 0) (f1 (4) (by omega)) ?_
  refine aw_aload_n rfl rfl d_L_listSeen_19 ?_
  refine aw_getr fl_L_18 kc_7 (by decide) rfl rc_7_2 d_L_listSeen_20 ?_
  refine aw_iload rfl d_L_listSeen_23 ?_
  refine aw_iald (j := 4) kc_10 (vp_in_nI (by decide) (by decide)) (nI_clamp (by decide)) d_L_listSeen_25 ?_
  refine aw_top (x2 := nI 9) (f2 (4) (by omega)) ?_
  refine aw_iload rfl d_L_listSeen_26 ?_
  refine aw_iload_n rfl rfl d_L_listSeen_28 ?_
  refine aw_icmp_neI (tgt := 36) (4) (1) (by decide +kernel) (by decide +kernel) (by decide) d_L_listSeen_29 (fun _ => ?_) (fun q => absurd q (by decide))
  refine aw_iconst (v := nI 0) ci_0 d_L_listSeen_36 ?_
  refine aw_iadd d_L_listSeen_37 ?_
  refine aw_top (x2 := nI 9) (by decide +kernel) ?_
  refine as_callS (as := [.int (nI 0), .int (nI 9)]) (d' := 1) mo_JM_min lk_L_37 rfl ⟨by decide, by decide⟩ rfl rfl (by decide) d_L_listSeen_38 (sp_min_c (I := I) (x := nI 0) (z := nI 9) (X := (0)) (Z := (9)) (by decide +kernel) (by decide +kernel) (fun _ => ?_) (fun q => absurd q (by decide)) )
  refine (show As l b 2 y_L_listSeen KC RC K2 (I) 41 [.ref 7, .ref 155, .int (nI 1), .int (nI 0), .int (nI 4), .int (nI 0), .int (nI 0)] [.int (nI 0)] from ?_)
  refine aw_istore (lv2 := [.ref 7, .ref 155, .int (nI 1), .int (nI 0), .int (nI 4), .int (nI 0), .int (nI 0)]) (by decide) rfl d_L_listSeen_41 ?_
  refine aw_iconst (v := nI 0) ci_0 d_L_listSeen_43 ?_
  refine aw_istore (lv2 := [.ref 7, .ref 155, .int (nI 1), .int (nI 0), .int (nI 4), .int (nI 0), .int (nI 0)]) (by decide) rfl d_L_listSeen_44 ?_
  refine aw_iload rfl d_L_listSeen_46 ?_
  refine aw_iload rfl d_L_listSeen_48 ?_
  refine aw_icmp_geI (tgt := 79) (0) (0) (by decide +kernel) (by decide +kernel) (by decide) d_L_listSeen_50 (fun _ => ?_) (fun q => absurd q (by decide))
  refine aw_iinc (v := nI 5) (lv2 := [.ref 7, .ref 155, .int (nI 1), .int (nI 0), .int (nI 5), .int (nI 0), .int (nI 0)]) rfl (by decide +kernel) (by decide) rfl d_L_listSeen_79 ?_
  refine aw_goto (tgt := 5) (by decide) d_L_listSeen_82 ?_
  refine aw_iload rfl d_L_listSeen_5 ?_
  refine aw_bipush (v := nI 6) cb_6 d_L_listSeen_7 ?_
  refine aw_icmp_geI (tgt := 85) (5) (6) (by decide +kernel) (by decide +kernel) (by decide) d_L_listSeen_9 (fun q => absurd q (by decide)) (fun _ => ?_)
  refine aw_aload_n rfl rfl d_L_listSeen_12 ?_
  refine aw_getr fl_L_15 kc_7 (by decide) rfl rc_7_1 d_L_listSeen_13 ?_
  refine aw_iload rfl d_L_listSeen_16 ?_
  refine aw_iald (j := 5) kc_9 (vp_in_nI (by decide) (by decide)) (nI_clamp (by decide)) d_L_listSeen_18 ?_
  refine aw_top (x2 := nI 0) (f1 (5) (by omega)) ?_
  refine aw_aload_n rfl rfl d_L_listSeen_19 ?_
  refine aw_getr fl_L_18 kc_7 (by decide) rfl rc_7_2 d_L_listSeen_20 ?_
  refine aw_iload rfl d_L_listSeen_23 ?_
  refine aw_iald (j := 5) kc_10 (vp_in_nI (by decide) (by decide)) (nI_clamp (by decide)) d_L_listSeen_25 ?_
  refine aw_top (x2 := nI 9) (f2 (5) (by omega)) ?_
  refine aw_iload rfl d_L_listSeen_26 ?_
  refine aw_iload_n rfl rfl d_L_listSeen_28 ?_
  refine aw_icmp_neI (tgt := 36) (5) (1) (by decide +kernel) (by decide +kernel) (by decide) d_L_listSeen_29 (fun _ => ?_) (fun q => absurd q (by decide))
  refine aw_iconst (v := nI 0) ci_0 d_L_listSeen_36 ?_
  refine aw_iadd d_L_listSeen_37 ?_
  refine aw_top (x2 := nI 9) (by decide +kernel) ?_
  refine as_callS (as := [.int (nI 0), .int (nI 9)]) (d' := 1) mo_JM_min lk_L_37 rfl ⟨by decide, by decide⟩ rfl rfl (by decide) d_L_listSeen_38 (sp_min_c (I := I) (x := nI 0) (z := nI 9) (X := (0)) (Z := (9)) (by decide +kernel) (by decide +kernel) (fun _ => ?_) (fun q => absurd q (by decide)) )
  refine (show As l b 2 y_L_listSeen KC RC K2 (I) 41 [.ref 7, .ref 155, .int (nI 1), .int (nI 0), .int (nI 5), .int (nI 0), .int (nI 0)] [.int (nI 0)] from ?_)
  refine aw_istore (lv2 := [.ref 7, .ref 155, .int (nI 1), .int (nI 0), .int (nI 5), .int (nI 0), .int (nI 0)]) (by decide) rfl d_L_listSeen_41 ?_
  refine aw_iconst (v := nI 0) ci_0 d_L_listSeen_43 ?_
  refine aw_istore (lv2 := [.ref 7, .ref 155, .int (nI 1), .int (nI 0), .int (nI 5), .int (nI 0), .int (nI 0)]) (by decide) rfl d_L_listSeen_44 ?_
  refine aw_iload rfl d_L_listSeen_46 ?_
  refine aw_iload rfl d_L_listSeen_48 ?_
  refine aw_icmp_geI (tgt := 79) (0) (0) (by decide +kernel) (by decide +kernel) (by decide) d_L_listSeen_50 (fun _ => ?_) (fun q => absurd q (by decide))
  refine aw_iinc (v := nI 6) (lv2 := [.ref 7, .ref 155, .int (nI 1), .int (nI 0), .int (nI 6), .int (nI 0), .int (nI 0)]) rfl (by decide +kernel) (by decide) rfl d_L_listSeen_79 ?_
  refine aw_goto (tgt := 5) (by decide) d_L_listSeen_82 ?_
  refine aw_iload rfl d_L_listSeen_5 ?_
  refine aw_bipush (v := nI 6) cb_6 d_L_listSeen_7 ?_
  refine aw_icmp_geI (tgt := 85) (6) (6) (by decide +kernel) (by decide +kernel) (by decide) d_L_listSeen_9 (fun _ => ?_) (fun q => absurd q (by decide))
  refine aw_iload_n rfl rfl d_L_listSeen_85 ?_
  exact as_reti rfl d_L_listSeen_86 hK
set_option maxRecDepth 20000 in
theorem sp_fillMost_1 {K2 : K2T} {I : Nat → Nat → Int32} (f1 : ∀ j, j < 6 → I 9 j = nI 0) (f2 : ∀ j, j < 6 → I 10 j = nI 9) (f3 : I 2 0 = nI 4) (hK : ∀ I', I' 154 6 = nI 0 → (∀ q, q ≠ 154 → q ≠ 158 → I' q = I q) → K2 (some (.int (nI 0))) I') : Ss l b 6 y_F_fillMost KC RC [.ref 154, .ref 1, .int (nI 1)] (I) K2 := by
  refine Ss.of (show As l b 6 y_F_fillMost KC RC K2 (I) 0 [.ref 154, .ref 1, .int (nI 1), uu, uu, uu, uu] [] from ?_)
  refine aw_aload_n rfl rfl d_F_fillMost_0 ?_
  refine aw_getr fl_F_27 kc_1 (by decide) rfl rc_1_0 d_F_fillMost_1 ?_
  refine aw_iconst (v := nI 0) ci_0 d_F_fillMost_4 ?_
  refine aw_iald (j := 0) kc_2 (vp_in_nI (by decide) (by decide)) (nI_clamp (by decide)) d_F_fillMost_5 ?_
  refine aw_top (x2 := nI 4) (f3) ?_
  refine aw_bipush (v := nI 8) cb_8 d_F_fillMost_6 ?_
  refine as_callS (as := [.int (nI 4), .int (nI 8)]) (d' := 1) mo_JM_min lk_F_32 rfl ⟨by decide, by decide⟩ rfl rfl (by decide) d_F_fillMost_8 (sp_min_c (I := I) (x := nI 4) (z := nI 8) (X := (4)) (Z := (8)) (by decide +kernel) (by decide +kernel) (fun _ => ?_) (fun q => absurd q (by decide)) )
  refine (show As l b 6 y_F_fillMost KC RC K2 (I) 11 [.ref 154, .ref 1, .int (nI 1), uu, uu, uu, uu] [.int (nI 4)] from ?_)
  refine aw_istore_n (lv2 := [.ref 154, .ref 1, .int (nI 1), .int (nI 4), uu, uu, uu]) rfl (by decide) rfl d_F_fillMost_11 ?_
  refine aw_aload_n rfl rfl d_F_fillMost_12 ?_
  refine aw_aload_n rfl rfl d_F_fillMost_13 ?_
  refine aw_getr fl_F_38 kc_1 (by decide) rfl rc_1_5 d_F_fillMost_14 ?_
  refine aw_iload_n rfl rfl d_F_fillMost_17 ?_
  refine as_callV (as := [.ref 7, .int (nI 1)]) (d' := 5) (q := ("SinglesUp$Filling", zT1, 7)) mo_F_gather lk_F_42 kc_154 rfl rfl rfl ⟨by decide, by decide⟩ rfl rfl (by decide) d_F_fillMost_18 (Ss.of (show As l b 5 y_F_gather KC RC _ (I) 0 [.ref 154, .ref 7, .int (nI 1), uu, uu, uu] [] from ?_))
  refine aw_aload_n rfl rfl d_F_gather_0 ?_
  refine aw_aload_n rfl rfl d_F_gather_1 ?_
  refine aw_getr fl_F_9 kc_154 (by decide) rfl rc_154_0 d_F_gather_2 ?_
  refine aw_iload_n rfl rfl d_F_gather_5 ?_
  refine as_callV (as := [.ref 155, .int (nI 1)]) (d' := 2) (q := ("SinglesUp$Lines", zT4, 3)) mo_L_listSeen lk_F_64 kc_7 rfl rfl rfl ⟨by decide, by decide⟩ rfl rfl (by decide) d_F_gather_6 (sp_listSeen_7_155_1 (I := I) (fun j hj => by simp [upd2, upd, updA, f1 j hj]) (fun j hj => by simp [upd2, upd, updA, f2 j hj]) ?_)
  refine (show As l b 5 y_F_gather KC RC _ (I) 9 [.ref 154, .ref 7, .int (nI 1), uu, uu, uu] [.int (nI 0)] from ?_)
  refine aw_istore_n (lv2 := [.ref 154, .ref 7, .int (nI 1), .int (nI 0), uu, uu]) rfl (by decide) rfl d_F_gather_9 ?_
  refine aw_aload_n rfl rfl d_F_gather_10 ?_
  refine aw_iconst (v := nI 0) ci_0 d_F_gather_11 ?_
  refine aw_puti fl_F_46 kc_154 (by decide) rfl rfl rfl rfl d_F_gather_12 ?_
  refine aw_iconst (v := nI 0) ci_0 d_F_gather_15 ?_
  refine aw_istore (lv2 := [.ref 154, .ref 7, .int (nI 1), .int (nI 0), .int (nI 0), uu]) (by decide) rfl d_F_gather_16 ?_
  refine aw_iload rfl d_F_gather_18 ?_
  refine aw_iload_n rfl rfl d_F_gather_20 ?_
  refine aw_icmp_geI (tgt := 116) (0) (0) (by decide +kernel) (by decide +kernel) (by decide) d_F_gather_21 (fun _ => ?_) (fun q => absurd q (by decide))
  refine as_retv rfl d_F_gather_116 ?_
  refine (show As l b 6 y_F_fillMost KC RC K2 (upd2 I 154 3 (nI 0)) 21 [.ref 154, .ref 1, .int (nI 1), .int (nI 4), uu, uu, uu] [] from ?_)
  exact fr_fillMost (I := upd2 I 154 3 (nI 0)) (lg := nI 1) (by simp [upd2, upd, updA]) (fun I2 g1 g2 => hK I2 g1 (fun q n1 n2 => by rw [g2 q n1 n2]; simp [upd2, n1]))
set_option maxRecDepth 20000 in
theorem sp_listSeen_7_155_2 {K2 : K2T} {I : Nat → Nat → Int32} (f1 : ∀ j, j < 6 → I 9 j = nI 0) (f2 : ∀ j, j < 6 → I 10 j = nI 9) (hK : K2 (some (.int (nI 0))) I) : Ss l b 2 y_L_listSeen KC RC [.ref 7, .ref 155, .int (nI 2)] (I) K2 := by
  refine Ss.of (show As l b 2 y_L_listSeen KC RC K2 (I) 0 [.ref 7, .ref 155, .int (nI 2), uu, uu, uu, uu] [] from ?_)
  refine aw_iconst (v := nI 0) ci_0 d_L_listSeen_0 ?_
  refine aw_istore_n (lv2 := [.ref 7, .ref 155, .int (nI 2), .int (nI 0), uu, uu, uu]) rfl (by decide) rfl d_L_listSeen_1 ?_
  refine aw_iconst (v := nI 0) ci_0 d_L_listSeen_2 ?_
  refine aw_istore (lv2 := [.ref 7, .ref 155, .int (nI 2), .int (nI 0), .int (nI 0), uu, uu]) (by decide) rfl d_L_listSeen_3 ?_
  refine aw_iload rfl d_L_listSeen_5 ?_
  refine aw_bipush (v := nI 6) cb_6 d_L_listSeen_7 ?_
  refine aw_icmp_geI (tgt := 85) (0) (6) (by decide +kernel) (by decide +kernel) (by decide) d_L_listSeen_9 (fun q => absurd q (by decide)) (fun _ => ?_)
  refine aw_aload_n rfl rfl d_L_listSeen_12 ?_
  refine aw_getr fl_L_15 kc_7 (by decide) rfl rc_7_1 d_L_listSeen_13 ?_
  refine aw_iload rfl d_L_listSeen_16 ?_
  refine aw_iald (j := 0) kc_9 (vp_in_nI (by decide) (by decide)) (nI_clamp (by decide)) d_L_listSeen_18 ?_
  refine aw_top (x2 := nI 0) (f1 (0) (by omega)) ?_
  refine aw_aload_n rfl rfl d_L_listSeen_19 ?_
  refine aw_getr fl_L_18 kc_7 (by decide) rfl rc_7_2 d_L_listSeen_20 ?_
  refine aw_iload rfl d_L_listSeen_23 ?_
  refine aw_iald (j := 0) kc_10 (vp_in_nI (by decide) (by decide)) (nI_clamp (by decide)) d_L_listSeen_25 ?_
  refine aw_top (x2 := nI 9) (f2 (0) (by omega)) ?_
  refine aw_iload rfl d_L_listSeen_26 ?_
  refine aw_iload_n rfl rfl d_L_listSeen_28 ?_
  refine aw_icmp_neI (tgt := 36) (0) (2) (by decide +kernel) (by decide +kernel) (by decide) d_L_listSeen_29 (fun _ => ?_) (fun q => absurd q (by decide))
  refine aw_iconst (v := nI 0) ci_0 d_L_listSeen_36 ?_
  refine aw_iadd d_L_listSeen_37 ?_
  refine aw_top (x2 := nI 9) (by decide +kernel) ?_
  refine as_callS (as := [.int (nI 0), .int (nI 9)]) (d' := 1) mo_JM_min lk_L_37 rfl ⟨by decide, by decide⟩ rfl rfl (by decide) d_L_listSeen_38 (sp_min_c (I := I) (x := nI 0) (z := nI 9) (X := (0)) (Z := (9)) (by decide +kernel) (by decide +kernel) (fun _ => ?_) (fun q => absurd q (by decide)) )
  refine (show As l b 2 y_L_listSeen KC RC K2 (I) 41 [.ref 7, .ref 155, .int (nI 2), .int (nI 0), .int (nI 0), uu, uu] [.int (nI 0)] from ?_)
  refine aw_istore (lv2 := [.ref 7, .ref 155, .int (nI 2), .int (nI 0), .int (nI 0), .int (nI 0), uu]) (by decide) rfl d_L_listSeen_41 ?_
  refine aw_iconst (v := nI 0) ci_0 d_L_listSeen_43 ?_
  refine aw_istore (lv2 := [.ref 7, .ref 155, .int (nI 2), .int (nI 0), .int (nI 0), .int (nI 0), .int (nI 0)]) (by decide) rfl d_L_listSeen_44 ?_
  refine aw_iload rfl d_L_listSeen_46 ?_
  refine aw_iload rfl d_L_listSeen_48 ?_
  refine aw_icmp_geI (tgt := 79) (0) (0) (by decide +kernel) (by decide +kernel) (by decide) d_L_listSeen_50 (fun _ => ?_) (fun q => absurd q (by decide))
  refine aw_iinc (v := nI 1) (lv2 := [.ref 7, .ref 155, .int (nI 2), .int (nI 0), .int (nI 1), .int (nI 0), .int (nI 0)]) rfl (by decide +kernel) (by decide) rfl d_L_listSeen_79 ?_
  refine aw_goto (tgt := 5) (by decide) d_L_listSeen_82 ?_
  refine aw_iload rfl d_L_listSeen_5 ?_
  refine aw_bipush (v := nI 6) cb_6 d_L_listSeen_7 ?_
  refine aw_icmp_geI (tgt := 85) (1) (6) (by decide +kernel) (by decide +kernel) (by decide) d_L_listSeen_9 (fun q => absurd q (by decide)) (fun _ => ?_)
  refine aw_aload_n rfl rfl d_L_listSeen_12 ?_
  refine aw_getr fl_L_15 kc_7 (by decide) rfl rc_7_1 d_L_listSeen_13 ?_
  refine aw_iload rfl d_L_listSeen_16 ?_
  refine aw_iald (j := 1) kc_9 (vp_in_nI (by decide) (by decide)) (nI_clamp (by decide)) d_L_listSeen_18 ?_
  refine aw_top (x2 := nI 0) (f1 (1) (by omega)) ?_
  refine aw_aload_n rfl rfl d_L_listSeen_19 ?_
  refine aw_getr fl_L_18 kc_7 (by decide) rfl rc_7_2 d_L_listSeen_20 ?_
  refine aw_iload rfl d_L_listSeen_23 ?_
  refine aw_iald (j := 1) kc_10 (vp_in_nI (by decide) (by decide)) (nI_clamp (by decide)) d_L_listSeen_25 ?_
  refine aw_top (x2 := nI 9) (f2 (1) (by omega)) ?_
  refine aw_iload rfl d_L_listSeen_26 ?_
  refine aw_iload_n rfl rfl d_L_listSeen_28 ?_
  refine aw_icmp_neI (tgt := 36) (1) (2) (by decide +kernel) (by decide +kernel) (by decide) d_L_listSeen_29 (fun _ => ?_) (fun q => absurd q (by decide))
  refine aw_iconst (v := nI 0) ci_0 d_L_listSeen_36 ?_
  refine aw_iadd d_L_listSeen_37 ?_
  refine aw_top (x2 := nI 9) (by decide +kernel) ?_
  refine as_callS (as := [.int (nI 0), .int (nI 9)]) (d' := 1) mo_JM_min lk_L_37 rfl ⟨by decide, by decide⟩ rfl rfl (by decide) d_L_listSeen_38 (sp_min_c (I := I) (x := nI 0) (z := nI 9) (X := (0)) (Z := (9)) (by decide +kernel) (by decide +kernel) (fun _ => ?_) (fun q => absurd q (by decide)) )
  refine (show As l b 2 y_L_listSeen KC RC K2 (I) 41 [.ref 7, .ref 155, .int (nI 2), .int (nI 0), .int (nI 1), .int (nI 0), .int (nI 0)] [.int (nI 0)] from ?_)
  refine aw_istore (lv2 := [.ref 7, .ref 155, .int (nI 2), .int (nI 0), .int (nI 1), .int (nI 0), .int (nI 0)]) (by decide) rfl d_L_listSeen_41 ?_
  refine aw_iconst (v := nI 0) ci_0 d_L_listSeen_43 ?_
  refine aw_istore (lv2 := [.ref 7, .ref 155, .int (nI 2), .int (nI 0), .int (nI 1), .int (nI 0), .int (nI 0)]) (by decide) rfl d_L_listSeen_44 ?_
  refine aw_iload rfl d_L_listSeen_46 ?_
  refine aw_iload rfl d_L_listSeen_48 ?_
  refine aw_icmp_geI (tgt := 79) (0) (0) (by decide +kernel) (by decide +kernel) (by decide) d_L_listSeen_50 (fun _ => ?_) (fun q => absurd q (by decide))
  refine aw_iinc (v := nI 2) (lv2 := [.ref 7, .ref 155, .int (nI 2), .int (nI 0), .int (nI 2), .int (nI 0), .int (nI 0)]) rfl (by decide +kernel) (by decide) rfl d_L_listSeen_79 ?_
  refine aw_goto (tgt := 5) (by decide) d_L_listSeen_82 ?_
  refine aw_iload rfl d_L_listSeen_5 ?_
  refine aw_bipush (v := nI 6) cb_6 d_L_listSeen_7 ?_
  refine aw_icmp_geI (tgt := 85) (2) (6) (by decide +kernel) (by decide +kernel) (by decide) d_L_listSeen_9 (fun q => absurd q (by decide)) (fun _ => ?_)
  refine aw_aload_n rfl rfl d_L_listSeen_12 ?_
  refine aw_getr fl_L_15 kc_7 (by decide) rfl rc_7_1 d_L_listSeen_13 ?_
  refine aw_iload rfl d_L_listSeen_16 ?_
  refine aw_iald (j := 2) kc_9 (vp_in_nI (by decide) (by decide)) (nI_clamp (by decide)) d_L_listSeen_18 ?_
  refine aw_top (x2 := nI 0) (f1 (2) (by omega)) ?_
  refine aw_aload_n rfl rfl d_L_listSeen_19 ?_
  refine aw_getr fl_L_18 kc_7 (by decide) rfl rc_7_2 d_L_listSeen_20 ?_
  refine aw_iload rfl d_L_listSeen_23 ?_
  refine aw_iald (j := 2) kc_10 (vp_in_nI (by decide) (by decide)) (nI_clamp (by decide)) d_L_listSeen_25 ?_
  refine aw_top (x2 := nI 9) (f2 (2) (by omega)) ?_
  refine aw_iload rfl d_L_listSeen_26 ?_
  refine aw_iload_n rfl rfl d_L_listSeen_28 ?_
  refine aw_icmp_neI (tgt := 36) (2) (2) (by decide +kernel) (by decide +kernel) (by decide) d_L_listSeen_29 (fun q => absurd q (by decide)) (fun _ => ?_)
  refine aw_iconst (v := nI 1) ci_1 d_L_listSeen_32 ?_
  refine aw_goto (tgt := 37) (by decide) d_L_listSeen_33 ?_
  refine aw_iadd d_L_listSeen_37 ?_
  refine aw_top (x2 := nI 10) (by decide +kernel) ?_
  refine as_callS (as := [.int (nI 0), .int (nI 10)]) (d' := 1) mo_JM_min lk_L_37 rfl ⟨by decide, by decide⟩ rfl rfl (by decide) d_L_listSeen_38 (sp_min_c (I := I) (x := nI 0) (z := nI 10) (X := (0)) (Z := (10)) (by decide +kernel) (by decide +kernel) (fun _ => ?_) (fun q => absurd q (by decide)) )
  refine (show As l b 2 y_L_listSeen KC RC K2 (I) 41 [.ref 7, .ref 155, .int (nI 2), .int (nI 0), .int (nI 2), .int (nI 0), .int (nI 0)] [.int (nI 0)] from ?_)
  refine aw_istore (lv2 := [.ref 7, .ref 155, .int (nI 2), .int (nI 0), .int (nI 2), .int (nI 0), .int (nI 0)]) (by decide) rfl d_L_listSeen_41 ?_
  refine aw_iconst (v := nI 0) ci_0 d_L_listSeen_43 ?_
  refine aw_istore (lv2 := [.ref 7, .ref 155, .int (nI 2), .int (nI 0), .int (nI 2), .int (nI 0), .int (nI 0)]) (by decide) rfl d_L_listSeen_44 ?_
  refine aw_iload rfl d_L_listSeen_46 ?_
  refine aw_iload rfl d_L_listSeen_48 ?_
  refine aw_icmp_geI (tgt := 79) (0) (0) (by decide +kernel) (by decide +kernel) (by decide) d_L_listSeen_50 (fun _ => ?_) (fun q => absurd q (by decide))
  refine aw_iinc (v := nI 3) (lv2 := [.ref 7, .ref 155, .int (nI 2), .int (nI 0), .int (nI 3), .int (nI 0), .int (nI 0)]) rfl (by decide +kernel) (by decide) rfl d_L_listSeen_79 ?_
  refine aw_goto (tgt := 5) (by decide) d_L_listSeen_82 ?_
  refine aw_iload rfl d_L_listSeen_5 ?_
  refine aw_bipush (v := nI 6) cb_6 d_L_listSeen_7 ?_
  refine aw_icmp_geI (tgt := 85) (3) (6) (by decide +kernel) (by decide +kernel) (by decide) d_L_listSeen_9 (fun q => absurd q (by decide)) (fun _ => ?_)
  refine aw_aload_n rfl rfl d_L_listSeen_12 ?_
  refine aw_getr fl_L_15 kc_7 (by decide) rfl rc_7_1 d_L_listSeen_13 ?_
  refine aw_iload rfl d_L_listSeen_16 ?_
  refine aw_iald (j := 3) kc_9 (vp_in_nI (by decide) (by decide)) (nI_clamp (by decide)) d_L_listSeen_18 ?_
  refine aw_top (x2 := nI 0) (f1 (3) (by omega)) ?_
  refine aw_aload_n rfl rfl d_L_listSeen_19 ?_
  refine aw_getr fl_L_18 kc_7 (by decide) rfl rc_7_2 d_L_listSeen_20 ?_
  refine aw_iload rfl d_L_listSeen_23 ?_
  refine aw_iald (j := 3) kc_10 (vp_in_nI (by decide) (by decide)) (nI_clamp (by decide)) d_L_listSeen_25 ?_
  refine aw_top (x2 := nI 9) (f2 (3) (by omega)) ?_
  refine aw_iload rfl d_L_listSeen_26 ?_
  refine aw_iload_n rfl rfl d_L_listSeen_28 ?_
  refine aw_icmp_neI (tgt := 36) (3) (2) (by decide +kernel) (by decide +kernel) (by decide) d_L_listSeen_29 (fun _ => ?_) (fun q => absurd q (by decide))
  refine aw_iconst (v := nI 0) ci_0 d_L_listSeen_36 ?_
  refine aw_iadd d_L_listSeen_37 ?_
  refine aw_top (x2 := nI 9) (by decide +kernel) ?_
  refine as_callS (as := [.int (nI 0), .int (nI 9)]) (d' := 1) mo_JM_min lk_L_37 rfl ⟨by decide, by decide⟩ rfl rfl (by decide) d_L_listSeen_38 (sp_min_c (I := I) (x := nI 0) (z := nI 9) (X := (0)) (Z := (9)) (by decide +kernel) (by decide +kernel) (fun _ => ?_) (fun q => absurd q (by decide)) )
  refine (show As l b 2 y_L_listSeen KC RC K2 (I) 41 [.ref 7, .ref 155, .int (nI 2), .int (nI 0), .int (nI 3), .int (nI 0), .int (nI 0)] [.int (nI 0)] from ?_)
  refine aw_istore (lv2 := [.ref 7, .ref 155, .int (nI 2), .int (nI 0), .int (nI 3), .int (nI 0), .int (nI 0)]) (by decide) rfl d_L_listSeen_41 ?_
  refine aw_iconst (v := nI 0) ci_0 d_L_listSeen_43 ?_
  refine aw_istore (lv2 := [.ref 7, .ref 155, .int (nI 2), .int (nI 0), .int (nI 3), .int (nI 0), .int (nI 0)]) (by decide) rfl d_L_listSeen_44 ?_
  refine aw_iload rfl d_L_listSeen_46 ?_
  refine aw_iload rfl d_L_listSeen_48 ?_
  refine aw_icmp_geI (tgt := 79) (0) (0) (by decide +kernel) (by decide +kernel) (by decide) d_L_listSeen_50 (fun _ => ?_) (fun q => absurd q (by decide))
  refine aw_iinc (v := nI 4) (lv2 := [.ref 7, .ref 155, .int (nI 2), .int (nI 0), .int (nI 4), .int (nI 0), .int (nI 0)]) rfl (by decide +kernel) (by decide) rfl d_L_listSeen_79 ?_
  refine aw_goto (tgt := 5) (by decide) d_L_listSeen_82 ?_
  refine aw_iload rfl d_L_listSeen_5 ?_
  refine aw_bipush (v := nI 6) cb_6 d_L_listSeen_7 ?_
  refine aw_icmp_geI (tgt := 85) (4) (6) (by decide +kernel) (by decide +kernel) (by decide) d_L_listSeen_9 (fun q => absurd q (by decide)) (fun _ => ?_)
  refine aw_aload_n rfl rfl d_L_listSeen_12 ?_
  refine aw_getr fl_L_15 kc_7 (by decide) rfl rc_7_1 d_L_listSeen_13 ?_
  refine aw_iload rfl d_L_listSeen_16 ?_
  refine aw_iald (j := 4) kc_9 (vp_in_nI (by decide) (by decide)) (nI_clamp (by decide)) d_L_listSeen_18 ?_
  refine aw_top (x2 := nI 0) (f1 (4) (by omega)) ?_
  refine aw_aload_n rfl rfl d_L_listSeen_19 ?_
  refine aw_getr fl_L_18 kc_7 (by decide) rfl rc_7_2 d_L_listSeen_20 ?_
  refine aw_iload rfl d_L_listSeen_23 ?_
  refine aw_iald (j := 4) kc_10 (vp_in_nI (by decide) (by decide)) (nI_clamp (by decide)) d_L_listSeen_25 ?_
  refine aw_top (x2 := nI 9) (f2 (4) (by omega)) ?_
  refine aw_iload rfl d_L_listSeen_26 ?_
  refine aw_iload_n rfl rfl d_L_listSeen_28 ?_
  refine aw_icmp_neI (tgt := 36) (4) (2) (by decide +kernel) (by decide +kernel) (by decide) d_L_listSeen_29 (fun _ => ?_) (fun q => absurd q (by decide))
  refine aw_iconst (v := nI 0) ci_0 d_L_listSeen_36 ?_
  refine aw_iadd d_L_listSeen_37 ?_
  refine aw_top (x2 := nI 9) (by decide +kernel) ?_
  refine as_callS (as := [.int (nI 0), .int (nI 9)]) (d' := 1) mo_JM_min lk_L_37 rfl ⟨by decide, by decide⟩ rfl rfl (by decide) d_L_listSeen_38 (sp_min_c (I := I) (x := nI 0) (z := nI 9) (X := (0)) (Z := (9)) (by decide +kernel) (by decide +kernel) (fun _ => ?_) (fun q => absurd q (by decide)) )
  refine (show As l b 2 y_L_listSeen KC RC K2 (I) 41 [.ref 7, .ref 155, .int (nI 2), .int (nI 0), .int (nI 4), .int (nI 0), .int (nI 0)] [.int (nI 0)] from ?_)
  refine aw_istore (lv2 := [.ref 7, .ref 155, .int (nI 2), .int (nI 0), .int (nI 4), .int (nI 0), .int (nI 0)]) (by decide) rfl d_L_listSeen_41 ?_
  refine aw_iconst (v := nI 0) ci_0 d_L_listSeen_43 ?_
  refine aw_istore (lv2 := [.ref 7, .ref 155, .int (nI 2), .int (nI 0), .int (nI 4), .int (nI 0), .int (nI 0)]) (by decide) rfl d_L_listSeen_44 ?_
  refine aw_iload rfl d_L_listSeen_46 ?_
  refine aw_iload rfl d_L_listSeen_48 ?_
  refine aw_icmp_geI (tgt := 79) (0) (0) (by decide +kernel) (by decide +kernel) (by decide) d_L_listSeen_50 (fun _ => ?_) (fun q => absurd q (by decide))
  refine aw_iinc (v := nI 5) (lv2 := [.ref 7, .ref 155, .int (nI 2), .int (nI 0), .int (nI 5), .int (nI 0), .int (nI 0)]) rfl (by decide +kernel) (by decide) rfl d_L_listSeen_79 ?_
  refine aw_goto (tgt := 5) (by decide) d_L_listSeen_82 ?_
  refine aw_iload rfl d_L_listSeen_5 ?_
  refine aw_bipush (v := nI 6) cb_6 d_L_listSeen_7 ?_
  refine aw_icmp_geI (tgt := 85) (5) (6) (by decide +kernel) (by decide +kernel) (by decide) d_L_listSeen_9 (fun q => absurd q (by decide)) (fun _ => ?_)
  refine aw_aload_n rfl rfl d_L_listSeen_12 ?_
  refine aw_getr fl_L_15 kc_7 (by decide) rfl rc_7_1 d_L_listSeen_13 ?_
  refine aw_iload rfl d_L_listSeen_16 ?_
  refine aw_iald (j := 5) kc_9 (vp_in_nI (by decide) (by decide)) (nI_clamp (by decide)) d_L_listSeen_18 ?_
  refine aw_top (x2 := nI 0) (f1 (5) (by omega)) ?_
  refine aw_aload_n rfl rfl d_L_listSeen_19 ?_
  refine aw_getr fl_L_18 kc_7 (by decide) rfl rc_7_2 d_L_listSeen_20 ?_
  refine aw_iload rfl d_L_listSeen_23 ?_
  refine aw_iald (j := 5) kc_10 (vp_in_nI (by decide) (by decide)) (nI_clamp (by decide)) d_L_listSeen_25 ?_
  refine aw_top (x2 := nI 9) (f2 (5) (by omega)) ?_
  refine aw_iload rfl d_L_listSeen_26 ?_
  refine aw_iload_n rfl rfl d_L_listSeen_28 ?_
  refine aw_icmp_neI (tgt := 36) (5) (2) (by decide +kernel) (by decide +kernel) (by decide) d_L_listSeen_29 (fun _ => ?_) (fun q => absurd q (by decide))
  refine aw_iconst (v := nI 0) ci_0 d_L_listSeen_36 ?_
  refine aw_iadd d_L_listSeen_37 ?_
  refine aw_top (x2 := nI 9) (by decide +kernel) ?_
  refine as_callS (as := [.int (nI 0), .int (nI 9)]) (d' := 1) mo_JM_min lk_L_37 rfl ⟨by decide, by decide⟩ rfl rfl (by decide) d_L_listSeen_38 (sp_min_c (I := I) (x := nI 0) (z := nI 9) (X := (0)) (Z := (9)) (by decide +kernel) (by decide +kernel) (fun _ => ?_) (fun q => absurd q (by decide)) )
  refine (show As l b 2 y_L_listSeen KC RC K2 (I) 41 [.ref 7, .ref 155, .int (nI 2), .int (nI 0), .int (nI 5), .int (nI 0), .int (nI 0)] [.int (nI 0)] from ?_)
  refine aw_istore (lv2 := [.ref 7, .ref 155, .int (nI 2), .int (nI 0), .int (nI 5), .int (nI 0), .int (nI 0)]) (by decide) rfl d_L_listSeen_41 ?_
  refine aw_iconst (v := nI 0) ci_0 d_L_listSeen_43 ?_
  refine aw_istore (lv2 := [.ref 7, .ref 155, .int (nI 2), .int (nI 0), .int (nI 5), .int (nI 0), .int (nI 0)]) (by decide) rfl d_L_listSeen_44 ?_
  refine aw_iload rfl d_L_listSeen_46 ?_
  refine aw_iload rfl d_L_listSeen_48 ?_
  refine aw_icmp_geI (tgt := 79) (0) (0) (by decide +kernel) (by decide +kernel) (by decide) d_L_listSeen_50 (fun _ => ?_) (fun q => absurd q (by decide))
  refine aw_iinc (v := nI 6) (lv2 := [.ref 7, .ref 155, .int (nI 2), .int (nI 0), .int (nI 6), .int (nI 0), .int (nI 0)]) rfl (by decide +kernel) (by decide) rfl d_L_listSeen_79 ?_
  refine aw_goto (tgt := 5) (by decide) d_L_listSeen_82 ?_
  refine aw_iload rfl d_L_listSeen_5 ?_
  refine aw_bipush (v := nI 6) cb_6 d_L_listSeen_7 ?_
  refine aw_icmp_geI (tgt := 85) (6) (6) (by decide +kernel) (by decide +kernel) (by decide) d_L_listSeen_9 (fun _ => ?_) (fun q => absurd q (by decide))
  refine aw_iload_n rfl rfl d_L_listSeen_85 ?_
  exact as_reti rfl d_L_listSeen_86 hK
set_option maxRecDepth 20000 in
theorem sp_fillMost_2 {K2 : K2T} {I : Nat → Nat → Int32} (f1 : ∀ j, j < 6 → I 9 j = nI 0) (f2 : ∀ j, j < 6 → I 10 j = nI 9) (f3 : I 2 0 = nI 4) (hK : ∀ I', I' 154 6 = nI 0 → (∀ q, q ≠ 154 → q ≠ 158 → I' q = I q) → K2 (some (.int (nI 0))) I') : Ss l b 6 y_F_fillMost KC RC [.ref 154, .ref 1, .int (nI 2)] (I) K2 := by
  refine Ss.of (show As l b 6 y_F_fillMost KC RC K2 (I) 0 [.ref 154, .ref 1, .int (nI 2), uu, uu, uu, uu] [] from ?_)
  refine aw_aload_n rfl rfl d_F_fillMost_0 ?_
  refine aw_getr fl_F_27 kc_1 (by decide) rfl rc_1_0 d_F_fillMost_1 ?_
  refine aw_iconst (v := nI 0) ci_0 d_F_fillMost_4 ?_
  refine aw_iald (j := 0) kc_2 (vp_in_nI (by decide) (by decide)) (nI_clamp (by decide)) d_F_fillMost_5 ?_
  refine aw_top (x2 := nI 4) (f3) ?_
  refine aw_bipush (v := nI 8) cb_8 d_F_fillMost_6 ?_
  refine as_callS (as := [.int (nI 4), .int (nI 8)]) (d' := 1) mo_JM_min lk_F_32 rfl ⟨by decide, by decide⟩ rfl rfl (by decide) d_F_fillMost_8 (sp_min_c (I := I) (x := nI 4) (z := nI 8) (X := (4)) (Z := (8)) (by decide +kernel) (by decide +kernel) (fun _ => ?_) (fun q => absurd q (by decide)) )
  refine (show As l b 6 y_F_fillMost KC RC K2 (I) 11 [.ref 154, .ref 1, .int (nI 2), uu, uu, uu, uu] [.int (nI 4)] from ?_)
  refine aw_istore_n (lv2 := [.ref 154, .ref 1, .int (nI 2), .int (nI 4), uu, uu, uu]) rfl (by decide) rfl d_F_fillMost_11 ?_
  refine aw_aload_n rfl rfl d_F_fillMost_12 ?_
  refine aw_aload_n rfl rfl d_F_fillMost_13 ?_
  refine aw_getr fl_F_38 kc_1 (by decide) rfl rc_1_5 d_F_fillMost_14 ?_
  refine aw_iload_n rfl rfl d_F_fillMost_17 ?_
  refine as_callV (as := [.ref 7, .int (nI 2)]) (d' := 5) (q := ("SinglesUp$Filling", zT1, 7)) mo_F_gather lk_F_42 kc_154 rfl rfl rfl ⟨by decide, by decide⟩ rfl rfl (by decide) d_F_fillMost_18 (Ss.of (show As l b 5 y_F_gather KC RC _ (I) 0 [.ref 154, .ref 7, .int (nI 2), uu, uu, uu] [] from ?_))
  refine aw_aload_n rfl rfl d_F_gather_0 ?_
  refine aw_aload_n rfl rfl d_F_gather_1 ?_
  refine aw_getr fl_F_9 kc_154 (by decide) rfl rc_154_0 d_F_gather_2 ?_
  refine aw_iload_n rfl rfl d_F_gather_5 ?_
  refine as_callV (as := [.ref 155, .int (nI 2)]) (d' := 2) (q := ("SinglesUp$Lines", zT4, 3)) mo_L_listSeen lk_F_64 kc_7 rfl rfl rfl ⟨by decide, by decide⟩ rfl rfl (by decide) d_F_gather_6 (sp_listSeen_7_155_2 (I := I) (fun j hj => by simp [upd2, upd, updA, f1 j hj]) (fun j hj => by simp [upd2, upd, updA, f2 j hj]) ?_)
  refine (show As l b 5 y_F_gather KC RC _ (I) 9 [.ref 154, .ref 7, .int (nI 2), uu, uu, uu] [.int (nI 0)] from ?_)
  refine aw_istore_n (lv2 := [.ref 154, .ref 7, .int (nI 2), .int (nI 0), uu, uu]) rfl (by decide) rfl d_F_gather_9 ?_
  refine aw_aload_n rfl rfl d_F_gather_10 ?_
  refine aw_iconst (v := nI 0) ci_0 d_F_gather_11 ?_
  refine aw_puti fl_F_46 kc_154 (by decide) rfl rfl rfl rfl d_F_gather_12 ?_
  refine aw_iconst (v := nI 0) ci_0 d_F_gather_15 ?_
  refine aw_istore (lv2 := [.ref 154, .ref 7, .int (nI 2), .int (nI 0), .int (nI 0), uu]) (by decide) rfl d_F_gather_16 ?_
  refine aw_iload rfl d_F_gather_18 ?_
  refine aw_iload_n rfl rfl d_F_gather_20 ?_
  refine aw_icmp_geI (tgt := 116) (0) (0) (by decide +kernel) (by decide +kernel) (by decide) d_F_gather_21 (fun _ => ?_) (fun q => absurd q (by decide))
  refine as_retv rfl d_F_gather_116 ?_
  refine (show As l b 6 y_F_fillMost KC RC K2 (upd2 I 154 3 (nI 0)) 21 [.ref 154, .ref 1, .int (nI 2), .int (nI 4), uu, uu, uu] [] from ?_)
  exact fr_fillMost (I := upd2 I 154 3 (nI 0)) (lg := nI 2) (by simp [upd2, upd, updA]) (fun I2 g1 g2 => hK I2 g1 (fun q n1 n2 => by rw [g2 q n1 n2]; simp [upd2, n1]))
set_option maxRecDepth 20000 in
theorem sp_listSeen_7_155_3 {K2 : K2T} {I : Nat → Nat → Int32} (f1 : ∀ j, j < 6 → I 9 j = nI 0) (f2 : ∀ j, j < 6 → I 10 j = nI 9) (hK : K2 (some (.int (nI 0))) I) : Ss l b 2 y_L_listSeen KC RC [.ref 7, .ref 155, .int (nI 3)] (I) K2 := by
  refine Ss.of (show As l b 2 y_L_listSeen KC RC K2 (I) 0 [.ref 7, .ref 155, .int (nI 3), uu, uu, uu, uu] [] from ?_)
  refine aw_iconst (v := nI 0) ci_0 d_L_listSeen_0 ?_
  refine aw_istore_n (lv2 := [.ref 7, .ref 155, .int (nI 3), .int (nI 0), uu, uu, uu]) rfl (by decide) rfl d_L_listSeen_1 ?_
  refine aw_iconst (v := nI 0) ci_0 d_L_listSeen_2 ?_
  refine aw_istore (lv2 := [.ref 7, .ref 155, .int (nI 3), .int (nI 0), .int (nI 0), uu, uu]) (by decide) rfl d_L_listSeen_3 ?_
  refine aw_iload rfl d_L_listSeen_5 ?_
  refine aw_bipush (v := nI 6) cb_6 d_L_listSeen_7 ?_
  refine aw_icmp_geI (tgt := 85) (0) (6) (by decide +kernel) (by decide +kernel) (by decide) d_L_listSeen_9 (fun q => absurd q (by decide)) (fun _ => ?_)
  refine aw_aload_n rfl rfl d_L_listSeen_12 ?_
  refine aw_getr fl_L_15 kc_7 (by decide) rfl rc_7_1 d_L_listSeen_13 ?_
  refine aw_iload rfl d_L_listSeen_16 ?_
  refine aw_iald (j := 0) kc_9 (vp_in_nI (by decide) (by decide)) (nI_clamp (by decide)) d_L_listSeen_18 ?_
  refine aw_top (x2 := nI 0) (f1 (0) (by omega)) ?_
  refine aw_aload_n rfl rfl d_L_listSeen_19 ?_
  refine aw_getr fl_L_18 kc_7 (by decide) rfl rc_7_2 d_L_listSeen_20 ?_
  refine aw_iload rfl d_L_listSeen_23 ?_
  refine aw_iald (j := 0) kc_10 (vp_in_nI (by decide) (by decide)) (nI_clamp (by decide)) d_L_listSeen_25 ?_
  refine aw_top (x2 := nI 9) (f2 (0) (by omega)) ?_
  refine aw_iload rfl d_L_listSeen_26 ?_
  refine aw_iload_n rfl rfl d_L_listSeen_28 ?_
  refine aw_icmp_neI (tgt := 36) (0) (3) (by decide +kernel) (by decide +kernel) (by decide) d_L_listSeen_29 (fun _ => ?_) (fun q => absurd q (by decide))
  refine aw_iconst (v := nI 0) ci_0 d_L_listSeen_36 ?_
  refine aw_iadd d_L_listSeen_37 ?_
  refine aw_top (x2 := nI 9) (by decide +kernel) ?_
  refine as_callS (as := [.int (nI 0), .int (nI 9)]) (d' := 1) mo_JM_min lk_L_37 rfl ⟨by decide, by decide⟩ rfl rfl (by decide) d_L_listSeen_38 (sp_min_c (I := I) (x := nI 0) (z := nI 9) (X := (0)) (Z := (9)) (by decide +kernel) (by decide +kernel) (fun _ => ?_) (fun q => absurd q (by decide)) )
  refine (show As l b 2 y_L_listSeen KC RC K2 (I) 41 [.ref 7, .ref 155, .int (nI 3), .int (nI 0), .int (nI 0), uu, uu] [.int (nI 0)] from ?_)
  refine aw_istore (lv2 := [.ref 7, .ref 155, .int (nI 3), .int (nI 0), .int (nI 0), .int (nI 0), uu]) (by decide) rfl d_L_listSeen_41 ?_
  refine aw_iconst (v := nI 0) ci_0 d_L_listSeen_43 ?_
  refine aw_istore (lv2 := [.ref 7, .ref 155, .int (nI 3), .int (nI 0), .int (nI 0), .int (nI 0), .int (nI 0)]) (by decide) rfl d_L_listSeen_44 ?_
  refine aw_iload rfl d_L_listSeen_46 ?_
  refine aw_iload rfl d_L_listSeen_48 ?_
  refine aw_icmp_geI (tgt := 79) (0) (0) (by decide +kernel) (by decide +kernel) (by decide) d_L_listSeen_50 (fun _ => ?_) (fun q => absurd q (by decide))
  refine aw_iinc (v := nI 1) (lv2 := [.ref 7, .ref 155, .int (nI 3), .int (nI 0), .int (nI 1), .int (nI 0), .int (nI 0)]) rfl (by decide +kernel) (by decide) rfl d_L_listSeen_79 ?_
  refine aw_goto (tgt := 5) (by decide) d_L_listSeen_82 ?_
  refine aw_iload rfl d_L_listSeen_5 ?_
  refine aw_bipush (v := nI 6) cb_6 d_L_listSeen_7 ?_
  refine aw_icmp_geI (tgt := 85) (1) (6) (by decide +kernel) (by decide +kernel) (by decide) d_L_listSeen_9 (fun q => absurd q (by decide)) (fun _ => ?_)
  refine aw_aload_n rfl rfl d_L_listSeen_12 ?_
  refine aw_getr fl_L_15 kc_7 (by decide) rfl rc_7_1 d_L_listSeen_13 ?_
  refine aw_iload rfl d_L_listSeen_16 ?_
  refine aw_iald (j := 1) kc_9 (vp_in_nI (by decide) (by decide)) (nI_clamp (by decide)) d_L_listSeen_18 ?_
  refine aw_top (x2 := nI 0) (f1 (1) (by omega)) ?_
  refine aw_aload_n rfl rfl d_L_listSeen_19 ?_
  refine aw_getr fl_L_18 kc_7 (by decide) rfl rc_7_2 d_L_listSeen_20 ?_
  refine aw_iload rfl d_L_listSeen_23 ?_
  refine aw_iald (j := 1) kc_10 (vp_in_nI (by decide) (by decide)) (nI_clamp (by decide)) d_L_listSeen_25 ?_
  refine aw_top (x2 := nI 9) (f2 (1) (by omega)) ?_
  refine aw_iload rfl d_L_listSeen_26 ?_
  refine aw_iload_n rfl rfl d_L_listSeen_28 ?_
  refine aw_icmp_neI (tgt := 36) (1) (3) (by decide +kernel) (by decide +kernel) (by decide) d_L_listSeen_29 (fun _ => ?_) (fun q => absurd q (by decide))
  refine aw_iconst (v := nI 0) ci_0 d_L_listSeen_36 ?_
  refine aw_iadd d_L_listSeen_37 ?_
  refine aw_top (x2 := nI 9) (by decide +kernel) ?_
  refine as_callS (as := [.int (nI 0), .int (nI 9)]) (d' := 1) mo_JM_min lk_L_37 rfl ⟨by decide, by decide⟩ rfl rfl (by decide) d_L_listSeen_38 (sp_min_c (I := I) (x := nI 0) (z := nI 9) (X := (0)) (Z := (9)) (by decide +kernel) (by decide +kernel) (fun _ => ?_) (fun q => absurd q (by decide)) )
  refine (show As l b 2 y_L_listSeen KC RC K2 (I) 41 [.ref 7, .ref 155, .int (nI 3), .int (nI 0), .int (nI 1), .int (nI 0), .int (nI 0)] [.int (nI 0)] from ?_)
  refine aw_istore (lv2 := [.ref 7, .ref 155, .int (nI 3), .int (nI 0), .int (nI 1), .int (nI 0), .int (nI 0)]) (by decide) rfl d_L_listSeen_41 ?_
  refine aw_iconst (v := nI 0) ci_0 d_L_listSeen_43 ?_
  refine aw_istore (lv2 := [.ref 7, .ref 155, .int (nI 3), .int (nI 0), .int (nI 1), .int (nI 0), .int (nI 0)]) (by decide) rfl d_L_listSeen_44 ?_
  refine aw_iload rfl d_L_listSeen_46 ?_
  refine aw_iload rfl d_L_listSeen_48 ?_
  refine aw_icmp_geI (tgt := 79) (0) (0) (by decide +kernel) (by decide +kernel) (by decide) d_L_listSeen_50 (fun _ => ?_) (fun q => absurd q (by decide))
  refine aw_iinc (v := nI 2) (lv2 := [.ref 7, .ref 155, .int (nI 3), .int (nI 0), .int (nI 2), .int (nI 0), .int (nI 0)]) rfl (by decide +kernel) (by decide) rfl d_L_listSeen_79 ?_
  refine aw_goto (tgt := 5) (by decide) d_L_listSeen_82 ?_
  refine aw_iload rfl d_L_listSeen_5 ?_
  refine aw_bipush (v := nI 6) cb_6 d_L_listSeen_7 ?_
  refine aw_icmp_geI (tgt := 85) (2) (6) (by decide +kernel) (by decide +kernel) (by decide) d_L_listSeen_9 (fun q => absurd q (by decide)) (fun _ => ?_)
  refine aw_aload_n rfl rfl d_L_listSeen_12 ?_
  refine aw_getr fl_L_15 kc_7 (by decide) rfl rc_7_1 d_L_listSeen_13 ?_
  refine aw_iload rfl d_L_listSeen_16 ?_
  refine aw_iald (j := 2) kc_9 (vp_in_nI (by decide) (by decide)) (nI_clamp (by decide)) d_L_listSeen_18 ?_
  refine aw_top (x2 := nI 0) (f1 (2) (by omega)) ?_
  refine aw_aload_n rfl rfl d_L_listSeen_19 ?_
  refine aw_getr fl_L_18 kc_7 (by decide) rfl rc_7_2 d_L_listSeen_20 ?_
  refine aw_iload rfl d_L_listSeen_23 ?_
  refine aw_iald (j := 2) kc_10 (vp_in_nI (by decide) (by decide)) (nI_clamp (by decide)) d_L_listSeen_25 ?_
  refine aw_top (x2 := nI 9) (f2 (2) (by omega)) ?_
  refine aw_iload rfl d_L_listSeen_26 ?_
  refine aw_iload_n rfl rfl d_L_listSeen_28 ?_
  refine aw_icmp_neI (tgt := 36) (2) (3) (by decide +kernel) (by decide +kernel) (by decide) d_L_listSeen_29 (fun _ => ?_) (fun q => absurd q (by decide))
  refine aw_iconst (v := nI 0) ci_0 d_L_listSeen_36 ?_
  refine aw_iadd d_L_listSeen_37 ?_
  refine aw_top (x2 := nI 9) (by decide +kernel) ?_
  refine as_callS (as := [.int (nI 0), .int (nI 9)]) (d' := 1) mo_JM_min lk_L_37 rfl ⟨by decide, by decide⟩ rfl rfl (by decide) d_L_listSeen_38 (sp_min_c (I := I) (x := nI 0) (z := nI 9) (X := (0)) (Z := (9)) (by decide +kernel) (by decide +kernel) (fun _ => ?_) (fun q => absurd q (by decide)) )
  refine (show As l b 2 y_L_listSeen KC RC K2 (I) 41 [.ref 7, .ref 155, .int (nI 3), .int (nI 0), .int (nI 2), .int (nI 0), .int (nI 0)] [.int (nI 0)] from ?_)
  refine aw_istore (lv2 := [.ref 7, .ref 155, .int (nI 3), .int (nI 0), .int (nI 2), .int (nI 0), .int (nI 0)]) (by decide) rfl d_L_listSeen_41 ?_
  refine aw_iconst (v := nI 0) ci_0 d_L_listSeen_43 ?_
  refine aw_istore (lv2 := [.ref 7, .ref 155, .int (nI 3), .int (nI 0), .int (nI 2), .int (nI 0), .int (nI 0)]) (by decide) rfl d_L_listSeen_44 ?_
  refine aw_iload rfl d_L_listSeen_46 ?_
  refine aw_iload rfl d_L_listSeen_48 ?_
  refine aw_icmp_geI (tgt := 79) (0) (0) (by decide +kernel) (by decide +kernel) (by decide) d_L_listSeen_50 (fun _ => ?_) (fun q => absurd q (by decide))
  refine aw_iinc (v := nI 3) (lv2 := [.ref 7, .ref 155, .int (nI 3), .int (nI 0), .int (nI 3), .int (nI 0), .int (nI 0)]) rfl (by decide +kernel) (by decide) rfl d_L_listSeen_79 ?_
  refine aw_goto (tgt := 5) (by decide) d_L_listSeen_82 ?_
  refine aw_iload rfl d_L_listSeen_5 ?_
  refine aw_bipush (v := nI 6) cb_6 d_L_listSeen_7 ?_
  refine aw_icmp_geI (tgt := 85) (3) (6) (by decide +kernel) (by decide +kernel) (by decide) d_L_listSeen_9 (fun q => absurd q (by decide)) (fun _ => ?_)
  refine aw_aload_n rfl rfl d_L_listSeen_12 ?_
  refine aw_getr fl_L_15 kc_7 (by decide) rfl rc_7_1 d_L_listSeen_13 ?_
  refine aw_iload rfl d_L_listSeen_16 ?_
  refine aw_iald (j := 3) kc_9 (vp_in_nI (by decide) (by decide)) (nI_clamp (by decide)) d_L_listSeen_18 ?_
  refine aw_top (x2 := nI 0) (f1 (3) (by omega)) ?_
  refine aw_aload_n rfl rfl d_L_listSeen_19 ?_
  refine aw_getr fl_L_18 kc_7 (by decide) rfl rc_7_2 d_L_listSeen_20 ?_
  refine aw_iload rfl d_L_listSeen_23 ?_
  refine aw_iald (j := 3) kc_10 (vp_in_nI (by decide) (by decide)) (nI_clamp (by decide)) d_L_listSeen_25 ?_
  refine aw_top (x2 := nI 9) (f2 (3) (by omega)) ?_
  refine aw_iload rfl d_L_listSeen_26 ?_
  refine aw_iload_n rfl rfl d_L_listSeen_28 ?_
  refine aw_icmp_neI (tgt := 36) (3) (3) (by decide +kernel) (by decide +kernel) (by decide) d_L_listSeen_29 (fun q => absurd q (by decide)) (fun _ => ?_)
  refine aw_iconst (v := nI 1) ci_1 d_L_listSeen_32 ?_
  refine aw_goto (tgt := 37) (by decide) d_L_listSeen_33 ?_
  refine aw_iadd d_L_listSeen_37 ?_
  refine aw_top (x2 := nI 10) (by decide +kernel) ?_
  refine as_callS (as := [.int (nI 0), .int (nI 10)]) (d' := 1) mo_JM_min lk_L_37 rfl ⟨by decide, by decide⟩ rfl rfl (by decide) d_L_listSeen_38 (sp_min_c (I := I) (x := nI 0) (z := nI 10) (X := (0)) (Z := (10)) (by decide +kernel) (by decide +kernel) (fun _ => ?_) (fun q => absurd q (by decide)) )
  refine (show As l b 2 y_L_listSeen KC RC K2 (I) 41 [.ref 7, .ref 155, .int (nI 3), .int (nI 0), .int (nI 3), .int (nI 0), .int (nI 0)] [.int (nI 0)] from ?_)
  refine aw_istore (lv2 := [.ref 7, .ref 155, .int (nI 3), .int (nI 0), .int (nI 3), .int (nI 0), .int (nI 0)]) (by decide) rfl d_L_listSeen_41 ?_
  refine aw_iconst (v := nI 0) ci_0 d_L_listSeen_43 ?_
  refine aw_istore (lv2 := [.ref 7, .ref 155, .int (nI 3), .int (nI 0), .int (nI 3), .int (nI 0), .int (nI 0)]) (by decide) rfl d_L_listSeen_44 ?_
  refine aw_iload rfl d_L_listSeen_46 ?_
  refine aw_iload rfl d_L_listSeen_48 ?_
  refine aw_icmp_geI (tgt := 79) (0) (0) (by decide +kernel) (by decide +kernel) (by decide) d_L_listSeen_50 (fun _ => ?_) (fun q => absurd q (by decide))
  refine aw_iinc (v := nI 4) (lv2 := [.ref 7, .ref 155, .int (nI 3), .int (nI 0), .int (nI 4), .int (nI 0), .int (nI 0)]) rfl (by decide +kernel) (by decide) rfl d_L_listSeen_79 ?_
  refine aw_goto (tgt := 5) (by decide) d_L_listSeen_82 ?_
  refine aw_iload rfl d_L_listSeen_5 ?_
  refine aw_bipush (v := nI 6) cb_6 d_L_listSeen_7 ?_
  refine aw_icmp_geI (tgt := 85) (4) (6) (by decide +kernel) (by decide +kernel) (by decide) d_L_listSeen_9 (fun q => absurd q (by decide)) (fun _ => ?_)
  refine aw_aload_n rfl rfl d_L_listSeen_12 ?_
  refine aw_getr fl_L_15 kc_7 (by decide) rfl rc_7_1 d_L_listSeen_13 ?_
  refine aw_iload rfl d_L_listSeen_16 ?_
  refine aw_iald (j := 4) kc_9 (vp_in_nI (by decide) (by decide)) (nI_clamp (by decide)) d_L_listSeen_18 ?_
  refine aw_top (x2 := nI 0) (f1 (4) (by omega)) ?_
  refine aw_aload_n rfl rfl d_L_listSeen_19 ?_
  refine aw_getr fl_L_18 kc_7 (by decide) rfl rc_7_2 d_L_listSeen_20 ?_
  refine aw_iload rfl d_L_listSeen_23 ?_
  refine aw_iald (j := 4) kc_10 (vp_in_nI (by decide) (by decide)) (nI_clamp (by decide)) d_L_listSeen_25 ?_
  refine aw_top (x2 := nI 9) (f2 (4) (by omega)) ?_
  refine aw_iload rfl d_L_listSeen_26 ?_
  refine aw_iload_n rfl rfl d_L_listSeen_28 ?_
  refine aw_icmp_neI (tgt := 36) (4) (3) (by decide +kernel) (by decide +kernel) (by decide) d_L_listSeen_29 (fun _ => ?_) (fun q => absurd q (by decide))
  refine aw_iconst (v := nI 0) ci_0 d_L_listSeen_36 ?_
  refine aw_iadd d_L_listSeen_37 ?_
  refine aw_top (x2 := nI 9) (by decide +kernel) ?_
  refine as_callS (as := [.int (nI 0), .int (nI 9)]) (d' := 1) mo_JM_min lk_L_37 rfl ⟨by decide, by decide⟩ rfl rfl (by decide) d_L_listSeen_38 (sp_min_c (I := I) (x := nI 0) (z := nI 9) (X := (0)) (Z := (9)) (by decide +kernel) (by decide +kernel) (fun _ => ?_) (fun q => absurd q (by decide)) )
  refine (show As l b 2 y_L_listSeen KC RC K2 (I) 41 [.ref 7, .ref 155, .int (nI 3), .int (nI 0), .int (nI 4), .int (nI 0), .int (nI 0)] [.int (nI 0)] from ?_)
  refine aw_istore (lv2 := [.ref 7, .ref 155, .int (nI 3), .int (nI 0), .int (nI 4), .int (nI 0), .int (nI 0)]) (by decide) rfl d_L_listSeen_41 ?_
  refine aw_iconst (v := nI 0) ci_0 d_L_listSeen_43 ?_
  refine aw_istore (lv2 := [.ref 7, .ref 155, .int (nI 3), .int (nI 0), .int (nI 4), .int (nI 0), .int (nI 0)]) (by decide) rfl d_L_listSeen_44 ?_
  refine aw_iload rfl d_L_listSeen_46 ?_
  refine aw_iload rfl d_L_listSeen_48 ?_
  refine aw_icmp_geI (tgt := 79) (0) (0) (by decide +kernel) (by decide +kernel) (by decide) d_L_listSeen_50 (fun _ => ?_) (fun q => absurd q (by decide))
  refine aw_iinc (v := nI 5) (lv2 := [.ref 7, .ref 155, .int (nI 3), .int (nI 0), .int (nI 5), .int (nI 0), .int (nI 0)]) rfl (by decide +kernel) (by decide) rfl d_L_listSeen_79 ?_
  refine aw_goto (tgt := 5) (by decide) d_L_listSeen_82 ?_
  refine aw_iload rfl d_L_listSeen_5 ?_
  refine aw_bipush (v := nI 6) cb_6 d_L_listSeen_7 ?_
  refine aw_icmp_geI (tgt := 85) (5) (6) (by decide +kernel) (by decide +kernel) (by decide) d_L_listSeen_9 (fun q => absurd q (by decide)) (fun _ => ?_)
  refine aw_aload_n rfl rfl d_L_listSeen_12 ?_
  refine aw_getr fl_L_15 kc_7 (by decide) rfl rc_7_1 d_L_listSeen_13 ?_
  refine aw_iload rfl d_L_listSeen_16 ?_
  refine aw_iald (j := 5) kc_9 (vp_in_nI (by decide) (by decide)) (nI_clamp (by decide)) d_L_listSeen_18 ?_
  refine aw_top (x2 := nI 0) (f1 (5) (by omega)) ?_
  refine aw_aload_n rfl rfl d_L_listSeen_19 ?_
  refine aw_getr fl_L_18 kc_7 (by decide) rfl rc_7_2 d_L_listSeen_20 ?_
  refine aw_iload rfl d_L_listSeen_23 ?_
  refine aw_iald (j := 5) kc_10 (vp_in_nI (by decide) (by decide)) (nI_clamp (by decide)) d_L_listSeen_25 ?_
  refine aw_top (x2 := nI 9) (f2 (5) (by omega)) ?_
  refine aw_iload rfl d_L_listSeen_26 ?_
  refine aw_iload_n rfl rfl d_L_listSeen_28 ?_
  refine aw_icmp_neI (tgt := 36) (5) (3) (by decide +kernel) (by decide +kernel) (by decide) d_L_listSeen_29 (fun _ => ?_) (fun q => absurd q (by decide))
  refine aw_iconst (v := nI 0) ci_0 d_L_listSeen_36 ?_
  refine aw_iadd d_L_listSeen_37 ?_
  refine aw_top (x2 := nI 9) (by decide +kernel) ?_
  refine as_callS (as := [.int (nI 0), .int (nI 9)]) (d' := 1) mo_JM_min lk_L_37 rfl ⟨by decide, by decide⟩ rfl rfl (by decide) d_L_listSeen_38 (sp_min_c (I := I) (x := nI 0) (z := nI 9) (X := (0)) (Z := (9)) (by decide +kernel) (by decide +kernel) (fun _ => ?_) (fun q => absurd q (by decide)) )
  refine (show As l b 2 y_L_listSeen KC RC K2 (I) 41 [.ref 7, .ref 155, .int (nI 3), .int (nI 0), .int (nI 5), .int (nI 0), .int (nI 0)] [.int (nI 0)] from ?_)
  refine aw_istore (lv2 := [.ref 7, .ref 155, .int (nI 3), .int (nI 0), .int (nI 5), .int (nI 0), .int (nI 0)]) (by decide) rfl d_L_listSeen_41 ?_
  refine aw_iconst (v := nI 0) ci_0 d_L_listSeen_43 ?_
  refine aw_istore (lv2 := [.ref 7, .ref 155, .int (nI 3), .int (nI 0), .int (nI 5), .int (nI 0), .int (nI 0)]) (by decide) rfl d_L_listSeen_44 ?_
  refine aw_iload rfl d_L_listSeen_46 ?_
  refine aw_iload rfl d_L_listSeen_48 ?_
  refine aw_icmp_geI (tgt := 79) (0) (0) (by decide +kernel) (by decide +kernel) (by decide) d_L_listSeen_50 (fun _ => ?_) (fun q => absurd q (by decide))
  refine aw_iinc (v := nI 6) (lv2 := [.ref 7, .ref 155, .int (nI 3), .int (nI 0), .int (nI 6), .int (nI 0), .int (nI 0)]) rfl (by decide +kernel) (by decide) rfl d_L_listSeen_79 ?_
  refine aw_goto (tgt := 5) (by decide) d_L_listSeen_82 ?_
  refine aw_iload rfl d_L_listSeen_5 ?_
  refine aw_bipush (v := nI 6) cb_6 d_L_listSeen_7 ?_
  refine aw_icmp_geI (tgt := 85) (6) (6) (by decide +kernel) (by decide +kernel) (by decide) d_L_listSeen_9 (fun _ => ?_) (fun q => absurd q (by decide))
  refine aw_iload_n rfl rfl d_L_listSeen_85 ?_
  exact as_reti rfl d_L_listSeen_86 hK
set_option maxRecDepth 20000 in
theorem sp_fillMost_3 {K2 : K2T} {I : Nat → Nat → Int32} (f1 : ∀ j, j < 6 → I 9 j = nI 0) (f2 : ∀ j, j < 6 → I 10 j = nI 9) (f3 : I 2 0 = nI 4) (hK : ∀ I', I' 154 6 = nI 0 → (∀ q, q ≠ 154 → q ≠ 158 → I' q = I q) → K2 (some (.int (nI 0))) I') : Ss l b 6 y_F_fillMost KC RC [.ref 154, .ref 1, .int (nI 3)] (I) K2 := by
  refine Ss.of (show As l b 6 y_F_fillMost KC RC K2 (I) 0 [.ref 154, .ref 1, .int (nI 3), uu, uu, uu, uu] [] from ?_)
  refine aw_aload_n rfl rfl d_F_fillMost_0 ?_
  refine aw_getr fl_F_27 kc_1 (by decide) rfl rc_1_0 d_F_fillMost_1 ?_
  refine aw_iconst (v := nI 0) ci_0 d_F_fillMost_4 ?_
  refine aw_iald (j := 0) kc_2 (vp_in_nI (by decide) (by decide)) (nI_clamp (by decide)) d_F_fillMost_5 ?_
  refine aw_top (x2 := nI 4) (f3) ?_
  refine aw_bipush (v := nI 8) cb_8 d_F_fillMost_6 ?_
  refine as_callS (as := [.int (nI 4), .int (nI 8)]) (d' := 1) mo_JM_min lk_F_32 rfl ⟨by decide, by decide⟩ rfl rfl (by decide) d_F_fillMost_8 (sp_min_c (I := I) (x := nI 4) (z := nI 8) (X := (4)) (Z := (8)) (by decide +kernel) (by decide +kernel) (fun _ => ?_) (fun q => absurd q (by decide)) )
  refine (show As l b 6 y_F_fillMost KC RC K2 (I) 11 [.ref 154, .ref 1, .int (nI 3), uu, uu, uu, uu] [.int (nI 4)] from ?_)
  refine aw_istore_n (lv2 := [.ref 154, .ref 1, .int (nI 3), .int (nI 4), uu, uu, uu]) rfl (by decide) rfl d_F_fillMost_11 ?_
  refine aw_aload_n rfl rfl d_F_fillMost_12 ?_
  refine aw_aload_n rfl rfl d_F_fillMost_13 ?_
  refine aw_getr fl_F_38 kc_1 (by decide) rfl rc_1_5 d_F_fillMost_14 ?_
  refine aw_iload_n rfl rfl d_F_fillMost_17 ?_
  refine as_callV (as := [.ref 7, .int (nI 3)]) (d' := 5) (q := ("SinglesUp$Filling", zT1, 7)) mo_F_gather lk_F_42 kc_154 rfl rfl rfl ⟨by decide, by decide⟩ rfl rfl (by decide) d_F_fillMost_18 (Ss.of (show As l b 5 y_F_gather KC RC _ (I) 0 [.ref 154, .ref 7, .int (nI 3), uu, uu, uu] [] from ?_))
  refine aw_aload_n rfl rfl d_F_gather_0 ?_
  refine aw_aload_n rfl rfl d_F_gather_1 ?_
  refine aw_getr fl_F_9 kc_154 (by decide) rfl rc_154_0 d_F_gather_2 ?_
  refine aw_iload_n rfl rfl d_F_gather_5 ?_
  refine as_callV (as := [.ref 155, .int (nI 3)]) (d' := 2) (q := ("SinglesUp$Lines", zT4, 3)) mo_L_listSeen lk_F_64 kc_7 rfl rfl rfl ⟨by decide, by decide⟩ rfl rfl (by decide) d_F_gather_6 (sp_listSeen_7_155_3 (I := I) (fun j hj => by simp [upd2, upd, updA, f1 j hj]) (fun j hj => by simp [upd2, upd, updA, f2 j hj]) ?_)
  refine (show As l b 5 y_F_gather KC RC _ (I) 9 [.ref 154, .ref 7, .int (nI 3), uu, uu, uu] [.int (nI 0)] from ?_)
  refine aw_istore_n (lv2 := [.ref 154, .ref 7, .int (nI 3), .int (nI 0), uu, uu]) rfl (by decide) rfl d_F_gather_9 ?_
  refine aw_aload_n rfl rfl d_F_gather_10 ?_
  refine aw_iconst (v := nI 0) ci_0 d_F_gather_11 ?_
  refine aw_puti fl_F_46 kc_154 (by decide) rfl rfl rfl rfl d_F_gather_12 ?_
  refine aw_iconst (v := nI 0) ci_0 d_F_gather_15 ?_
  refine aw_istore (lv2 := [.ref 154, .ref 7, .int (nI 3), .int (nI 0), .int (nI 0), uu]) (by decide) rfl d_F_gather_16 ?_
  refine aw_iload rfl d_F_gather_18 ?_
  refine aw_iload_n rfl rfl d_F_gather_20 ?_
  refine aw_icmp_geI (tgt := 116) (0) (0) (by decide +kernel) (by decide +kernel) (by decide) d_F_gather_21 (fun _ => ?_) (fun q => absurd q (by decide))
  refine as_retv rfl d_F_gather_116 ?_
  refine (show As l b 6 y_F_fillMost KC RC K2 (upd2 I 154 3 (nI 0)) 21 [.ref 154, .ref 1, .int (nI 3), .int (nI 4), uu, uu, uu] [] from ?_)
  exact fr_fillMost (I := upd2 I 154 3 (nI 0)) (lg := nI 3) (by simp [upd2, upd, updA]) (fun I2 g1 g2 => hK I2 g1 (fun q n1 n2 => by rw [g2 q n1 n2]; simp [upd2, n1]))
set_option maxRecDepth 20000 in
theorem sp_listSeen_7_155_4 {K2 : K2T} {I : Nat → Nat → Int32} (f1 : ∀ j, j < 6 → I 9 j = nI 0) (f2 : ∀ j, j < 6 → I 10 j = nI 9) (hK : K2 (some (.int (nI 0))) I) : Ss l b 2 y_L_listSeen KC RC [.ref 7, .ref 155, .int (nI 4)] (I) K2 := by
  refine Ss.of (show As l b 2 y_L_listSeen KC RC K2 (I) 0 [.ref 7, .ref 155, .int (nI 4), uu, uu, uu, uu] [] from ?_)
  refine aw_iconst (v := nI 0) ci_0 d_L_listSeen_0 ?_
  refine aw_istore_n (lv2 := [.ref 7, .ref 155, .int (nI 4), .int (nI 0), uu, uu, uu]) rfl (by decide) rfl d_L_listSeen_1 ?_
  refine aw_iconst (v := nI 0) ci_0 d_L_listSeen_2 ?_
  refine aw_istore (lv2 := [.ref 7, .ref 155, .int (nI 4), .int (nI 0), .int (nI 0), uu, uu]) (by decide) rfl d_L_listSeen_3 ?_
  refine aw_iload rfl d_L_listSeen_5 ?_
  refine aw_bipush (v := nI 6) cb_6 d_L_listSeen_7 ?_
  refine aw_icmp_geI (tgt := 85) (0) (6) (by decide +kernel) (by decide +kernel) (by decide) d_L_listSeen_9 (fun q => absurd q (by decide)) (fun _ => ?_)
  refine aw_aload_n rfl rfl d_L_listSeen_12 ?_
  refine aw_getr fl_L_15 kc_7 (by decide) rfl rc_7_1 d_L_listSeen_13 ?_
  refine aw_iload rfl d_L_listSeen_16 ?_
  refine aw_iald (j := 0) kc_9 (vp_in_nI (by decide) (by decide)) (nI_clamp (by decide)) d_L_listSeen_18 ?_
  refine aw_top (x2 := nI 0) (f1 (0) (by omega)) ?_
  refine aw_aload_n rfl rfl d_L_listSeen_19 ?_
  refine aw_getr fl_L_18 kc_7 (by decide) rfl rc_7_2 d_L_listSeen_20 ?_
  refine aw_iload rfl d_L_listSeen_23 ?_
  refine aw_iald (j := 0) kc_10 (vp_in_nI (by decide) (by decide)) (nI_clamp (by decide)) d_L_listSeen_25 ?_
  refine aw_top (x2 := nI 9) (f2 (0) (by omega)) ?_
  refine aw_iload rfl d_L_listSeen_26 ?_
  refine aw_iload_n rfl rfl d_L_listSeen_28 ?_
  refine aw_icmp_neI (tgt := 36) (0) (4) (by decide +kernel) (by decide +kernel) (by decide) d_L_listSeen_29 (fun _ => ?_) (fun q => absurd q (by decide))
  refine aw_iconst (v := nI 0) ci_0 d_L_listSeen_36 ?_
  refine aw_iadd d_L_listSeen_37 ?_
  refine aw_top (x2 := nI 9) (by decide +kernel) ?_
  refine as_callS (as := [.int (nI 0), .int (nI 9)]) (d' := 1) mo_JM_min lk_L_37 rfl ⟨by decide, by decide⟩ rfl rfl (by decide) d_L_listSeen_38 (sp_min_c (I := I) (x := nI 0) (z := nI 9) (X := (0)) (Z := (9)) (by decide +kernel) (by decide +kernel) (fun _ => ?_) (fun q => absurd q (by decide)) )
  refine (show As l b 2 y_L_listSeen KC RC K2 (I) 41 [.ref 7, .ref 155, .int (nI 4), .int (nI 0), .int (nI 0), uu, uu] [.int (nI 0)] from ?_)
  refine aw_istore (lv2 := [.ref 7, .ref 155, .int (nI 4), .int (nI 0), .int (nI 0), .int (nI 0), uu]) (by decide) rfl d_L_listSeen_41 ?_
  refine aw_iconst (v := nI 0) ci_0 d_L_listSeen_43 ?_
  refine aw_istore (lv2 := [.ref 7, .ref 155, .int (nI 4), .int (nI 0), .int (nI 0), .int (nI 0), .int (nI 0)]) (by decide) rfl d_L_listSeen_44 ?_
  refine aw_iload rfl d_L_listSeen_46 ?_
  refine aw_iload rfl d_L_listSeen_48 ?_
  refine aw_icmp_geI (tgt := 79) (0) (0) (by decide +kernel) (by decide +kernel) (by decide) d_L_listSeen_50 (fun _ => ?_) (fun q => absurd q (by decide))
  refine aw_iinc (v := nI 1) (lv2 := [.ref 7, .ref 155, .int (nI 4), .int (nI 0), .int (nI 1), .int (nI 0), .int (nI 0)]) rfl (by decide +kernel) (by decide) rfl d_L_listSeen_79 ?_
  refine aw_goto (tgt := 5) (by decide) d_L_listSeen_82 ?_
  refine aw_iload rfl d_L_listSeen_5 ?_
  refine aw_bipush (v := nI 6) cb_6 d_L_listSeen_7 ?_
  refine aw_icmp_geI (tgt := 85) (1) (6) (by decide +kernel) (by decide +kernel) (by decide) d_L_listSeen_9 (fun q => absurd q (by decide)) (fun _ => ?_)
  refine aw_aload_n rfl rfl d_L_listSeen_12 ?_
  refine aw_getr fl_L_15 kc_7 (by decide) rfl rc_7_1 d_L_listSeen_13 ?_
  refine aw_iload rfl d_L_listSeen_16 ?_
  refine aw_iald (j := 1) kc_9 (vp_in_nI (by decide) (by decide)) (nI_clamp (by decide)) d_L_listSeen_18 ?_
  refine aw_top (x2 := nI 0) (f1 (1) (by omega)) ?_
  refine aw_aload_n rfl rfl d_L_listSeen_19 ?_
  refine aw_getr fl_L_18 kc_7 (by decide) rfl rc_7_2 d_L_listSeen_20 ?_
  refine aw_iload rfl d_L_listSeen_23 ?_
  refine aw_iald (j := 1) kc_10 (vp_in_nI (by decide) (by decide)) (nI_clamp (by decide)) d_L_listSeen_25 ?_
  refine aw_top (x2 := nI 9) (f2 (1) (by omega)) ?_
  refine aw_iload rfl d_L_listSeen_26 ?_
  refine aw_iload_n rfl rfl d_L_listSeen_28 ?_
  refine aw_icmp_neI (tgt := 36) (1) (4) (by decide +kernel) (by decide +kernel) (by decide) d_L_listSeen_29 (fun _ => ?_) (fun q => absurd q (by decide))
  refine aw_iconst (v := nI 0) ci_0 d_L_listSeen_36 ?_
  refine aw_iadd d_L_listSeen_37 ?_
  refine aw_top (x2 := nI 9) (by decide +kernel) ?_
  refine as_callS (as := [.int (nI 0), .int (nI 9)]) (d' := 1) mo_JM_min lk_L_37 rfl ⟨by decide, by decide⟩ rfl rfl (by decide) d_L_listSeen_38 (sp_min_c (I := I) (x := nI 0) (z := nI 9) (X := (0)) (Z := (9)) (by decide +kernel) (by decide +kernel) (fun _ => ?_) (fun q => absurd q (by decide)) )
  refine (show As l b 2 y_L_listSeen KC RC K2 (I) 41 [.ref 7, .ref 155, .int (nI 4), .int (nI 0), .int (nI 1), .int (nI 0), .int (nI 0)] [.int (nI 0)] from ?_)
  refine aw_istore (lv2 := [.ref 7, .ref 155, .int (nI 4), .int (nI 0), .int (nI 1), .int (nI 0), .int (nI 0)]) (by decide) rfl d_L_listSeen_41 ?_
  refine aw_iconst (v := nI 0) ci_0 d_L_listSeen_43 ?_
  refine aw_istore (lv2 := [.ref 7, .ref 155, .int (nI 4), .int (nI 0), .int (nI 1), .int (nI 0), .int (nI 0)]) (by decide) rfl d_L_listSeen_44 ?_
  refine aw_iload rfl d_L_listSeen_46 ?_
  refine aw_iload rfl d_L_listSeen_48 ?_
  refine aw_icmp_geI (tgt := 79) (0) (0) (by decide +kernel) (by decide +kernel) (by decide) d_L_listSeen_50 (fun _ => ?_) (fun q => absurd q (by decide))
  refine aw_iinc (v := nI 2) (lv2 := [.ref 7, .ref 155, .int (nI 4), .int (nI 0), .int (nI 2), .int (nI 0), .int (nI 0)]) rfl (by decide +kernel) (by decide) rfl d_L_listSeen_79 ?_
  refine aw_goto (tgt := 5) (by decide) d_L_listSeen_82 ?_
  refine aw_iload rfl d_L_listSeen_5 ?_
  refine aw_bipush (v := nI 6) cb_6 d_L_listSeen_7 ?_
  refine aw_icmp_geI (tgt := 85) (2) (6) (by decide +kernel) (by decide +kernel) (by decide) d_L_listSeen_9 (fun q => absurd q (by decide)) (fun _ => ?_)
  refine aw_aload_n rfl rfl d_L_listSeen_12 ?_
  refine aw_getr fl_L_15 kc_7 (by decide) rfl rc_7_1 d_L_listSeen_13 ?_
  refine aw_iload rfl d_L_listSeen_16 ?_
  refine aw_iald (j := 2) kc_9 (vp_in_nI (by decide) (by decide)) (nI_clamp (by decide)) d_L_listSeen_18 ?_
  refine aw_top (x2 := nI 0) (f1 (2) (by omega)) ?_
  refine aw_aload_n rfl rfl d_L_listSeen_19 ?_
  refine aw_getr fl_L_18 kc_7 (by decide) rfl rc_7_2 d_L_listSeen_20 ?_
  refine aw_iload rfl d_L_listSeen_23 ?_
  refine aw_iald (j := 2) kc_10 (vp_in_nI (by decide) (by decide)) (nI_clamp (by decide)) d_L_listSeen_25 ?_
  refine aw_top (x2 := nI 9) (f2 (2) (by omega)) ?_
  refine aw_iload rfl d_L_listSeen_26 ?_
  refine aw_iload_n rfl rfl d_L_listSeen_28 ?_
  refine aw_icmp_neI (tgt := 36) (2) (4) (by decide +kernel) (by decide +kernel) (by decide) d_L_listSeen_29 (fun _ => ?_) (fun q => absurd q (by decide))
  refine aw_iconst (v := nI 0) ci_0 d_L_listSeen_36 ?_
  refine aw_iadd d_L_listSeen_37 ?_
  refine aw_top (x2 := nI 9) (by decide +kernel) ?_
  refine as_callS (as := [.int (nI 0), .int (nI 9)]) (d' := 1) mo_JM_min lk_L_37 rfl ⟨by decide, by decide⟩ rfl rfl (by decide) d_L_listSeen_38 (sp_min_c (I := I) (x := nI 0) (z := nI 9) (X := (0)) (Z := (9)) (by decide +kernel) (by decide +kernel) (fun _ => ?_) (fun q => absurd q (by decide)) )
  refine (show As l b 2 y_L_listSeen KC RC K2 (I) 41 [.ref 7, .ref 155, .int (nI 4), .int (nI 0), .int (nI 2), .int (nI 0), .int (nI 0)] [.int (nI 0)] from ?_)
  refine aw_istore (lv2 := [.ref 7, .ref 155, .int (nI 4), .int (nI 0), .int (nI 2), .int (nI 0), .int (nI 0)]) (by decide) rfl d_L_listSeen_41 ?_
  refine aw_iconst (v := nI 0) ci_0 d_L_listSeen_43 ?_
  refine aw_istore (lv2 := [.ref 7, .ref 155, .int (nI 4), .int (nI 0), .int (nI 2), .int (nI 0), .int (nI 0)]) (by decide) rfl d_L_listSeen_44 ?_
  refine aw_iload rfl d_L_listSeen_46 ?_
  refine aw_iload rfl d_L_listSeen_48 ?_
  refine aw_icmp_geI (tgt := 79) (0) (0) (by decide +kernel) (by decide +kernel) (by decide) d_L_listSeen_50 (fun _ => ?_) (fun q => absurd q (by decide))
  refine aw_iinc (v := nI 3) (lv2 := [.ref 7, .ref 155, .int (nI 4), .int (nI 0), .int (nI 3), .int (nI 0), .int (nI 0)]) rfl (by decide +kernel) (by decide) rfl d_L_listSeen_79 ?_
  refine aw_goto (tgt := 5) (by decide) d_L_listSeen_82 ?_
  refine aw_iload rfl d_L_listSeen_5 ?_
  refine aw_bipush (v := nI 6) cb_6 d_L_listSeen_7 ?_
  refine aw_icmp_geI (tgt := 85) (3) (6) (by decide +kernel) (by decide +kernel) (by decide) d_L_listSeen_9 (fun q => absurd q (by decide)) (fun _ => ?_)
  refine aw_aload_n rfl rfl d_L_listSeen_12 ?_
  refine aw_getr fl_L_15 kc_7 (by decide) rfl rc_7_1 d_L_listSeen_13 ?_
  refine aw_iload rfl d_L_listSeen_16 ?_
  refine aw_iald (j := 3) kc_9 (vp_in_nI (by decide) (by decide)) (nI_clamp (by decide)) d_L_listSeen_18 ?_
  refine aw_top (x2 := nI 0) (f1 (3) (by omega)) ?_
  refine aw_aload_n rfl rfl d_L_listSeen_19 ?_
  refine aw_getr fl_L_18 kc_7 (by decide) rfl rc_7_2 d_L_listSeen_20 ?_
  refine aw_iload rfl d_L_listSeen_23 ?_
  refine aw_iald (j := 3) kc_10 (vp_in_nI (by decide) (by decide)) (nI_clamp (by decide)) d_L_listSeen_25 ?_
  refine aw_top (x2 := nI 9) (f2 (3) (by omega)) ?_
  refine aw_iload rfl d_L_listSeen_26 ?_
  refine aw_iload_n rfl rfl d_L_listSeen_28 ?_
  refine aw_icmp_neI (tgt := 36) (3) (4) (by decide +kernel) (by decide +kernel) (by decide) d_L_listSeen_29 (fun _ => ?_) (fun q => absurd q (by decide))
  refine aw_iconst (v := nI 0) ci_0 d_L_listSeen_36 ?_
  refine aw_iadd d_L_listSeen_37 ?_
  refine aw_top (x2 := nI 9) (by decide +kernel) ?_
  refine as_callS (as := [.int (nI 0), .int (nI 9)]) (d' := 1) mo_JM_min lk_L_37 rfl ⟨by decide, by decide⟩ rfl rfl (by decide) d_L_listSeen_38 (sp_min_c (I := I) (x := nI 0) (z := nI 9) (X := (0)) (Z := (9)) (by decide +kernel) (by decide +kernel) (fun _ => ?_) (fun q => absurd q (by decide)) )
  refine (show As l b 2 y_L_listSeen KC RC K2 (I) 41 [.ref 7, .ref 155, .int (nI 4), .int (nI 0), .int (nI 3), .int (nI 0), .int (nI 0)] [.int (nI 0)] from ?_)
  refine aw_istore (lv2 := [.ref 7, .ref 155, .int (nI 4), .int (nI 0), .int (nI 3), .int (nI 0), .int (nI 0)]) (by decide) rfl d_L_listSeen_41 ?_
  refine aw_iconst (v := nI 0) ci_0 d_L_listSeen_43 ?_
  refine aw_istore (lv2 := [.ref 7, .ref 155, .int (nI 4), .int (nI 0), .int (nI 3), .int (nI 0), .int (nI 0)]) (by decide) rfl d_L_listSeen_44 ?_
  refine aw_iload rfl d_L_listSeen_46 ?_
  refine aw_iload rfl d_L_listSeen_48 ?_
  refine aw_icmp_geI (tgt := 79) (0) (0) (by decide +kernel) (by decide +kernel) (by decide) d_L_listSeen_50 (fun _ => ?_) (fun q => absurd q (by decide))
  refine aw_iinc (v := nI 4) (lv2 := [.ref 7, .ref 155, .int (nI 4), .int (nI 0), .int (nI 4), .int (nI 0), .int (nI 0)]) rfl (by decide +kernel) (by decide) rfl d_L_listSeen_79 ?_
  refine aw_goto (tgt := 5) (by decide) d_L_listSeen_82 ?_
  refine aw_iload rfl d_L_listSeen_5 ?_
  refine aw_bipush (v := nI 6) cb_6 d_L_listSeen_7 ?_
  refine aw_icmp_geI (tgt := 85) (4) (6) (by decide +kernel) (by decide +kernel) (by decide) d_L_listSeen_9 (fun q => absurd q (by decide)) (fun _ => ?_)
  refine aw_aload_n rfl rfl d_L_listSeen_12 ?_
  refine aw_getr fl_L_15 kc_7 (by decide) rfl rc_7_1 d_L_listSeen_13 ?_
  refine aw_iload rfl d_L_listSeen_16 ?_
  refine aw_iald (j := 4) kc_9 (vp_in_nI (by decide) (by decide)) (nI_clamp (by decide)) d_L_listSeen_18 ?_
  refine aw_top (x2 := nI 0) (f1 (4) (by omega)) ?_
  refine aw_aload_n rfl rfl d_L_listSeen_19 ?_
  refine aw_getr fl_L_18 kc_7 (by decide) rfl rc_7_2 d_L_listSeen_20 ?_
  refine aw_iload rfl d_L_listSeen_23 ?_
  refine aw_iald (j := 4) kc_10 (vp_in_nI (by decide) (by decide)) (nI_clamp (by decide)) d_L_listSeen_25 ?_
  refine aw_top (x2 := nI 9) (f2 (4) (by omega)) ?_
  refine aw_iload rfl d_L_listSeen_26 ?_
  refine aw_iload_n rfl rfl d_L_listSeen_28 ?_
  refine aw_icmp_neI (tgt := 36) (4) (4) (by decide +kernel) (by decide +kernel) (by decide) d_L_listSeen_29 (fun q => absurd q (by decide)) (fun _ => ?_)
  refine aw_iconst (v := nI 1) ci_1 d_L_listSeen_32 ?_
  refine aw_goto (tgt := 37) (by decide) d_L_listSeen_33 ?_
  refine aw_iadd d_L_listSeen_37 ?_
  refine aw_top (x2 := nI 10) (by decide +kernel) ?_
  refine as_callS (as := [.int (nI 0), .int (nI 10)]) (d' := 1) mo_JM_min lk_L_37 rfl ⟨by decide, by decide⟩ rfl rfl (by decide) d_L_listSeen_38 (sp_min_c (I := I) (x := nI 0) (z := nI 10) (X := (0)) (Z := (10)) (by decide +kernel) (by decide +kernel) (fun _ => ?_) (fun q => absurd q (by decide)) )
  refine (show As l b 2 y_L_listSeen KC RC K2 (I) 41 [.ref 7, .ref 155, .int (nI 4), .int (nI 0), .int (nI 4), .int (nI 0), .int (nI 0)] [.int (nI 0)] from ?_)
  refine aw_istore (lv2 := [.ref 7, .ref 155, .int (nI 4), .int (nI 0), .int (nI 4), .int (nI 0), .int (nI 0)]) (by decide) rfl d_L_listSeen_41 ?_
  refine aw_iconst (v := nI 0) ci_0 d_L_listSeen_43 ?_
  refine aw_istore (lv2 := [.ref 7, .ref 155, .int (nI 4), .int (nI 0), .int (nI 4), .int (nI 0), .int (nI 0)]) (by decide) rfl d_L_listSeen_44 ?_
  refine aw_iload rfl d_L_listSeen_46 ?_
  refine aw_iload rfl d_L_listSeen_48 ?_
  refine aw_icmp_geI (tgt := 79) (0) (0) (by decide +kernel) (by decide +kernel) (by decide) d_L_listSeen_50 (fun _ => ?_) (fun q => absurd q (by decide))
  refine aw_iinc (v := nI 5) (lv2 := [.ref 7, .ref 155, .int (nI 4), .int (nI 0), .int (nI 5), .int (nI 0), .int (nI 0)]) rfl (by decide +kernel) (by decide) rfl d_L_listSeen_79 ?_
  refine aw_goto (tgt := 5) (by decide) d_L_listSeen_82 ?_
  refine aw_iload rfl d_L_listSeen_5 ?_
  refine aw_bipush (v := nI 6) cb_6 d_L_listSeen_7 ?_
  refine aw_icmp_geI (tgt := 85) (5) (6) (by decide +kernel) (by decide +kernel) (by decide) d_L_listSeen_9 (fun q => absurd q (by decide)) (fun _ => ?_)
  refine aw_aload_n rfl rfl d_L_listSeen_12 ?_
  refine aw_getr fl_L_15 kc_7 (by decide) rfl rc_7_1 d_L_listSeen_13 ?_
  refine aw_iload rfl d_L_listSeen_16 ?_
  refine aw_iald (j := 5) kc_9 (vp_in_nI (by decide) (by decide)) (nI_clamp (by decide)) d_L_listSeen_18 ?_
  refine aw_top (x2 := nI 0) (f1 (5) (by omega)) ?_
  refine aw_aload_n rfl rfl d_L_listSeen_19 ?_
  refine aw_getr fl_L_18 kc_7 (by decide) rfl rc_7_2 d_L_listSeen_20 ?_
  refine aw_iload rfl d_L_listSeen_23 ?_
  refine aw_iald (j := 5) kc_10 (vp_in_nI (by decide) (by decide)) (nI_clamp (by decide)) d_L_listSeen_25 ?_
  refine aw_top (x2 := nI 9) (f2 (5) (by omega)) ?_
  refine aw_iload rfl d_L_listSeen_26 ?_
  refine aw_iload_n rfl rfl d_L_listSeen_28 ?_
  refine aw_icmp_neI (tgt := 36) (5) (4) (by decide +kernel) (by decide +kernel) (by decide) d_L_listSeen_29 (fun _ => ?_) (fun q => absurd q (by decide))
  refine aw_iconst (v := nI 0) ci_0 d_L_listSeen_36 ?_
  refine aw_iadd d_L_listSeen_37 ?_
  refine aw_top (x2 := nI 9) (by decide +kernel) ?_
  refine as_callS (as := [.int (nI 0), .int (nI 9)]) (d' := 1) mo_JM_min lk_L_37 rfl ⟨by decide, by decide⟩ rfl rfl (by decide) d_L_listSeen_38 (sp_min_c (I := I) (x := nI 0) (z := nI 9) (X := (0)) (Z := (9)) (by decide +kernel) (by decide +kernel) (fun _ => ?_) (fun q => absurd q (by decide)) )
  refine (show As l b 2 y_L_listSeen KC RC K2 (I) 41 [.ref 7, .ref 155, .int (nI 4), .int (nI 0), .int (nI 5), .int (nI 0), .int (nI 0)] [.int (nI 0)] from ?_)
  refine aw_istore (lv2 := [.ref 7, .ref 155, .int (nI 4), .int (nI 0), .int (nI 5), .int (nI 0), .int (nI 0)]) (by decide) rfl d_L_listSeen_41 ?_
  refine aw_iconst (v := nI 0) ci_0 d_L_listSeen_43 ?_
  refine aw_istore (lv2 := [.ref 7, .ref 155, .int (nI 4), .int (nI 0), .int (nI 5), .int (nI 0), .int (nI 0)]) (by decide) rfl d_L_listSeen_44 ?_
  refine aw_iload rfl d_L_listSeen_46 ?_
  refine aw_iload rfl d_L_listSeen_48 ?_
  refine aw_icmp_geI (tgt := 79) (0) (0) (by decide +kernel) (by decide +kernel) (by decide) d_L_listSeen_50 (fun _ => ?_) (fun q => absurd q (by decide))
  refine aw_iinc (v := nI 6) (lv2 := [.ref 7, .ref 155, .int (nI 4), .int (nI 0), .int (nI 6), .int (nI 0), .int (nI 0)]) rfl (by decide +kernel) (by decide) rfl d_L_listSeen_79 ?_
  refine aw_goto (tgt := 5) (by decide) d_L_listSeen_82 ?_
  refine aw_iload rfl d_L_listSeen_5 ?_
  refine aw_bipush (v := nI 6) cb_6 d_L_listSeen_7 ?_
  refine aw_icmp_geI (tgt := 85) (6) (6) (by decide +kernel) (by decide +kernel) (by decide) d_L_listSeen_9 (fun _ => ?_) (fun q => absurd q (by decide))
  refine aw_iload_n rfl rfl d_L_listSeen_85 ?_
  exact as_reti rfl d_L_listSeen_86 hK
set_option maxRecDepth 20000 in
theorem sp_fillMost_4 {K2 : K2T} {I : Nat → Nat → Int32} (f1 : ∀ j, j < 6 → I 9 j = nI 0) (f2 : ∀ j, j < 6 → I 10 j = nI 9) (f3 : I 2 0 = nI 4) (hK : ∀ I', I' 154 6 = nI 0 → (∀ q, q ≠ 154 → q ≠ 158 → I' q = I q) → K2 (some (.int (nI 0))) I') : Ss l b 6 y_F_fillMost KC RC [.ref 154, .ref 1, .int (nI 4)] (I) K2 := by
  refine Ss.of (show As l b 6 y_F_fillMost KC RC K2 (I) 0 [.ref 154, .ref 1, .int (nI 4), uu, uu, uu, uu] [] from ?_)
  refine aw_aload_n rfl rfl d_F_fillMost_0 ?_
  refine aw_getr fl_F_27 kc_1 (by decide) rfl rc_1_0 d_F_fillMost_1 ?_
  refine aw_iconst (v := nI 0) ci_0 d_F_fillMost_4 ?_
  refine aw_iald (j := 0) kc_2 (vp_in_nI (by decide) (by decide)) (nI_clamp (by decide)) d_F_fillMost_5 ?_
  refine aw_top (x2 := nI 4) (f3) ?_
  refine aw_bipush (v := nI 8) cb_8 d_F_fillMost_6 ?_
  refine as_callS (as := [.int (nI 4), .int (nI 8)]) (d' := 1) mo_JM_min lk_F_32 rfl ⟨by decide, by decide⟩ rfl rfl (by decide) d_F_fillMost_8 (sp_min_c (I := I) (x := nI 4) (z := nI 8) (X := (4)) (Z := (8)) (by decide +kernel) (by decide +kernel) (fun _ => ?_) (fun q => absurd q (by decide)) )
  refine (show As l b 6 y_F_fillMost KC RC K2 (I) 11 [.ref 154, .ref 1, .int (nI 4), uu, uu, uu, uu] [.int (nI 4)] from ?_)
  refine aw_istore_n (lv2 := [.ref 154, .ref 1, .int (nI 4), .int (nI 4), uu, uu, uu]) rfl (by decide) rfl d_F_fillMost_11 ?_
  refine aw_aload_n rfl rfl d_F_fillMost_12 ?_
  refine aw_aload_n rfl rfl d_F_fillMost_13 ?_
  refine aw_getr fl_F_38 kc_1 (by decide) rfl rc_1_5 d_F_fillMost_14 ?_
  refine aw_iload_n rfl rfl d_F_fillMost_17 ?_
  refine as_callV (as := [.ref 7, .int (nI 4)]) (d' := 5) (q := ("SinglesUp$Filling", zT1, 7)) mo_F_gather lk_F_42 kc_154 rfl rfl rfl ⟨by decide, by decide⟩ rfl rfl (by decide) d_F_fillMost_18 (Ss.of (show As l b 5 y_F_gather KC RC _ (I) 0 [.ref 154, .ref 7, .int (nI 4), uu, uu, uu] [] from ?_))
  refine aw_aload_n rfl rfl d_F_gather_0 ?_
  refine aw_aload_n rfl rfl d_F_gather_1 ?_
  refine aw_getr fl_F_9 kc_154 (by decide) rfl rc_154_0 d_F_gather_2 ?_
  refine aw_iload_n rfl rfl d_F_gather_5 ?_
  refine as_callV (as := [.ref 155, .int (nI 4)]) (d' := 2) (q := ("SinglesUp$Lines", zT4, 3)) mo_L_listSeen lk_F_64 kc_7 rfl rfl rfl ⟨by decide, by decide⟩ rfl rfl (by decide) d_F_gather_6 (sp_listSeen_7_155_4 (I := I) (fun j hj => by simp [upd2, upd, updA, f1 j hj]) (fun j hj => by simp [upd2, upd, updA, f2 j hj]) ?_)
  refine (show As l b 5 y_F_gather KC RC _ (I) 9 [.ref 154, .ref 7, .int (nI 4), uu, uu, uu] [.int (nI 0)] from ?_)
  refine aw_istore_n (lv2 := [.ref 154, .ref 7, .int (nI 4), .int (nI 0), uu, uu]) rfl (by decide) rfl d_F_gather_9 ?_
  refine aw_aload_n rfl rfl d_F_gather_10 ?_
  refine aw_iconst (v := nI 0) ci_0 d_F_gather_11 ?_
  refine aw_puti fl_F_46 kc_154 (by decide) rfl rfl rfl rfl d_F_gather_12 ?_
  refine aw_iconst (v := nI 0) ci_0 d_F_gather_15 ?_
  refine aw_istore (lv2 := [.ref 154, .ref 7, .int (nI 4), .int (nI 0), .int (nI 0), uu]) (by decide) rfl d_F_gather_16 ?_
  refine aw_iload rfl d_F_gather_18 ?_
  refine aw_iload_n rfl rfl d_F_gather_20 ?_
  refine aw_icmp_geI (tgt := 116) (0) (0) (by decide +kernel) (by decide +kernel) (by decide) d_F_gather_21 (fun _ => ?_) (fun q => absurd q (by decide))
  refine as_retv rfl d_F_gather_116 ?_
  refine (show As l b 6 y_F_fillMost KC RC K2 (upd2 I 154 3 (nI 0)) 21 [.ref 154, .ref 1, .int (nI 4), .int (nI 4), uu, uu, uu] [] from ?_)
  exact fr_fillMost (I := upd2 I 154 3 (nI 0)) (lg := nI 4) (by simp [upd2, upd, updA]) (fun I2 g1 g2 => hK I2 g1 (fun q n1 n2 => by rw [g2 q n1 n2]; simp [upd2, n1]))
set_option maxRecDepth 20000 in
theorem sp_listSeen_7_155_5 {K2 : K2T} {I : Nat → Nat → Int32} (f1 : ∀ j, j < 6 → I 9 j = nI 0) (f2 : ∀ j, j < 6 → I 10 j = nI 9) (hK : K2 (some (.int (nI 0))) I) : Ss l b 2 y_L_listSeen KC RC [.ref 7, .ref 155, .int (nI 5)] (I) K2 := by
  refine Ss.of (show As l b 2 y_L_listSeen KC RC K2 (I) 0 [.ref 7, .ref 155, .int (nI 5), uu, uu, uu, uu] [] from ?_)
  refine aw_iconst (v := nI 0) ci_0 d_L_listSeen_0 ?_
  refine aw_istore_n (lv2 := [.ref 7, .ref 155, .int (nI 5), .int (nI 0), uu, uu, uu]) rfl (by decide) rfl d_L_listSeen_1 ?_
  refine aw_iconst (v := nI 0) ci_0 d_L_listSeen_2 ?_
  refine aw_istore (lv2 := [.ref 7, .ref 155, .int (nI 5), .int (nI 0), .int (nI 0), uu, uu]) (by decide) rfl d_L_listSeen_3 ?_
  refine aw_iload rfl d_L_listSeen_5 ?_
  refine aw_bipush (v := nI 6) cb_6 d_L_listSeen_7 ?_
  refine aw_icmp_geI (tgt := 85) (0) (6) (by decide +kernel) (by decide +kernel) (by decide) d_L_listSeen_9 (fun q => absurd q (by decide)) (fun _ => ?_)
  refine aw_aload_n rfl rfl d_L_listSeen_12 ?_
  refine aw_getr fl_L_15 kc_7 (by decide) rfl rc_7_1 d_L_listSeen_13 ?_
  refine aw_iload rfl d_L_listSeen_16 ?_
  refine aw_iald (j := 0) kc_9 (vp_in_nI (by decide) (by decide)) (nI_clamp (by decide)) d_L_listSeen_18 ?_
  refine aw_top (x2 := nI 0) (f1 (0) (by omega)) ?_
  refine aw_aload_n rfl rfl d_L_listSeen_19 ?_
  refine aw_getr fl_L_18 kc_7 (by decide) rfl rc_7_2 d_L_listSeen_20 ?_
  refine aw_iload rfl d_L_listSeen_23 ?_
  refine aw_iald (j := 0) kc_10 (vp_in_nI (by decide) (by decide)) (nI_clamp (by decide)) d_L_listSeen_25 ?_
  refine aw_top (x2 := nI 9) (f2 (0) (by omega)) ?_
  refine aw_iload rfl d_L_listSeen_26 ?_
  refine aw_iload_n rfl rfl d_L_listSeen_28 ?_
  refine aw_icmp_neI (tgt := 36) (0) (5) (by decide +kernel) (by decide +kernel) (by decide) d_L_listSeen_29 (fun _ => ?_) (fun q => absurd q (by decide))
  refine aw_iconst (v := nI 0) ci_0 d_L_listSeen_36 ?_
  refine aw_iadd d_L_listSeen_37 ?_
  refine aw_top (x2 := nI 9) (by decide +kernel) ?_
  refine as_callS (as := [.int (nI 0), .int (nI 9)]) (d' := 1) mo_JM_min lk_L_37 rfl ⟨by decide, by decide⟩ rfl rfl (by decide) d_L_listSeen_38 (sp_min_c (I := I) (x := nI 0) (z := nI 9) (X := (0)) (Z := (9)) (by decide +kernel) (by decide +kernel) (fun _ => ?_) (fun q => absurd q (by decide)) )
  refine (show As l b 2 y_L_listSeen KC RC K2 (I) 41 [.ref 7, .ref 155, .int (nI 5), .int (nI 0), .int (nI 0), uu, uu] [.int (nI 0)] from ?_)
  refine aw_istore (lv2 := [.ref 7, .ref 155, .int (nI 5), .int (nI 0), .int (nI 0), .int (nI 0), uu]) (by decide) rfl d_L_listSeen_41 ?_
  refine aw_iconst (v := nI 0) ci_0 d_L_listSeen_43 ?_
  refine aw_istore (lv2 := [.ref 7, .ref 155, .int (nI 5), .int (nI 0), .int (nI 0), .int (nI 0), .int (nI 0)]) (by decide) rfl d_L_listSeen_44 ?_
  refine aw_iload rfl d_L_listSeen_46 ?_
  refine aw_iload rfl d_L_listSeen_48 ?_
  refine aw_icmp_geI (tgt := 79) (0) (0) (by decide +kernel) (by decide +kernel) (by decide) d_L_listSeen_50 (fun _ => ?_) (fun q => absurd q (by decide))
  refine aw_iinc (v := nI 1) (lv2 := [.ref 7, .ref 155, .int (nI 5), .int (nI 0), .int (nI 1), .int (nI 0), .int (nI 0)]) rfl (by decide +kernel) (by decide) rfl d_L_listSeen_79 ?_
  refine aw_goto (tgt := 5) (by decide) d_L_listSeen_82 ?_
  refine aw_iload rfl d_L_listSeen_5 ?_
  refine aw_bipush (v := nI 6) cb_6 d_L_listSeen_7 ?_
  refine aw_icmp_geI (tgt := 85) (1) (6) (by decide +kernel) (by decide +kernel) (by decide) d_L_listSeen_9 (fun q => absurd q (by decide)) (fun _ => ?_)
  refine aw_aload_n rfl rfl d_L_listSeen_12 ?_
  refine aw_getr fl_L_15 kc_7 (by decide) rfl rc_7_1 d_L_listSeen_13 ?_
  refine aw_iload rfl d_L_listSeen_16 ?_
  refine aw_iald (j := 1) kc_9 (vp_in_nI (by decide) (by decide)) (nI_clamp (by decide)) d_L_listSeen_18 ?_
  refine aw_top (x2 := nI 0) (f1 (1) (by omega)) ?_
  refine aw_aload_n rfl rfl d_L_listSeen_19 ?_
  refine aw_getr fl_L_18 kc_7 (by decide) rfl rc_7_2 d_L_listSeen_20 ?_
  refine aw_iload rfl d_L_listSeen_23 ?_
  refine aw_iald (j := 1) kc_10 (vp_in_nI (by decide) (by decide)) (nI_clamp (by decide)) d_L_listSeen_25 ?_
  refine aw_top (x2 := nI 9) (f2 (1) (by omega)) ?_
  refine aw_iload rfl d_L_listSeen_26 ?_
  refine aw_iload_n rfl rfl d_L_listSeen_28 ?_
  refine aw_icmp_neI (tgt := 36) (1) (5) (by decide +kernel) (by decide +kernel) (by decide) d_L_listSeen_29 (fun _ => ?_) (fun q => absurd q (by decide))
  refine aw_iconst (v := nI 0) ci_0 d_L_listSeen_36 ?_
  refine aw_iadd d_L_listSeen_37 ?_
  refine aw_top (x2 := nI 9) (by decide +kernel) ?_
  refine as_callS (as := [.int (nI 0), .int (nI 9)]) (d' := 1) mo_JM_min lk_L_37 rfl ⟨by decide, by decide⟩ rfl rfl (by decide) d_L_listSeen_38 (sp_min_c (I := I) (x := nI 0) (z := nI 9) (X := (0)) (Z := (9)) (by decide +kernel) (by decide +kernel) (fun _ => ?_) (fun q => absurd q (by decide)) )
  refine (show As l b 2 y_L_listSeen KC RC K2 (I) 41 [.ref 7, .ref 155, .int (nI 5), .int (nI 0), .int (nI 1), .int (nI 0), .int (nI 0)] [.int (nI 0)] from ?_)
  refine aw_istore (lv2 := [.ref 7, .ref 155, .int (nI 5), .int (nI 0), .int (nI 1), .int (nI 0), .int (nI 0)]) (by decide) rfl d_L_listSeen_41 ?_
  refine aw_iconst (v := nI 0) ci_0 d_L_listSeen_43 ?_
  refine aw_istore (lv2 := [.ref 7, .ref 155, .int (nI 5), .int (nI 0), .int (nI 1), .int (nI 0), .int (nI 0)]) (by decide) rfl d_L_listSeen_44 ?_
  refine aw_iload rfl d_L_listSeen_46 ?_
  refine aw_iload rfl d_L_listSeen_48 ?_
  refine aw_icmp_geI (tgt := 79) (0) (0) (by decide +kernel) (by decide +kernel) (by decide) d_L_listSeen_50 (fun _ => ?_) (fun q => absurd q (by decide))
  refine aw_iinc (v := nI 2) (lv2 := [.ref 7, .ref 155, .int (nI 5), .int (nI 0), .int (nI 2), .int (nI 0), .int (nI 0)]) rfl (by decide +kernel) (by decide) rfl d_L_listSeen_79 ?_
  refine aw_goto (tgt := 5) (by decide) d_L_listSeen_82 ?_
  refine aw_iload rfl d_L_listSeen_5 ?_
  refine aw_bipush (v := nI 6) cb_6 d_L_listSeen_7 ?_
  refine aw_icmp_geI (tgt := 85) (2) (6) (by decide +kernel) (by decide +kernel) (by decide) d_L_listSeen_9 (fun q => absurd q (by decide)) (fun _ => ?_)
  refine aw_aload_n rfl rfl d_L_listSeen_12 ?_
  refine aw_getr fl_L_15 kc_7 (by decide) rfl rc_7_1 d_L_listSeen_13 ?_
  refine aw_iload rfl d_L_listSeen_16 ?_
  refine aw_iald (j := 2) kc_9 (vp_in_nI (by decide) (by decide)) (nI_clamp (by decide)) d_L_listSeen_18 ?_
  refine aw_top (x2 := nI 0) (f1 (2) (by omega)) ?_
  refine aw_aload_n rfl rfl d_L_listSeen_19 ?_
  refine aw_getr fl_L_18 kc_7 (by decide) rfl rc_7_2 d_L_listSeen_20 ?_
  refine aw_iload rfl d_L_listSeen_23 ?_
  refine aw_iald (j := 2) kc_10 (vp_in_nI (by decide) (by decide)) (nI_clamp (by decide)) d_L_listSeen_25 ?_
  refine aw_top (x2 := nI 9) (f2 (2) (by omega)) ?_
  refine aw_iload rfl d_L_listSeen_26 ?_
  refine aw_iload_n rfl rfl d_L_listSeen_28 ?_
  refine aw_icmp_neI (tgt := 36) (2) (5) (by decide +kernel) (by decide +kernel) (by decide) d_L_listSeen_29 (fun _ => ?_) (fun q => absurd q (by decide))
  refine aw_iconst (v := nI 0) ci_0 d_L_listSeen_36 ?_
  refine aw_iadd d_L_listSeen_37 ?_
  refine aw_top (x2 := nI 9) (by decide +kernel) ?_
  refine as_callS (as := [.int (nI 0), .int (nI 9)]) (d' := 1) mo_JM_min lk_L_37 rfl ⟨by decide, by decide⟩ rfl rfl (by decide) d_L_listSeen_38 (sp_min_c (I := I) (x := nI 0) (z := nI 9) (X := (0)) (Z := (9)) (by decide +kernel) (by decide +kernel) (fun _ => ?_) (fun q => absurd q (by decide)) )
  refine (show As l b 2 y_L_listSeen KC RC K2 (I) 41 [.ref 7, .ref 155, .int (nI 5), .int (nI 0), .int (nI 2), .int (nI 0), .int (nI 0)] [.int (nI 0)] from ?_)
  refine aw_istore (lv2 := [.ref 7, .ref 155, .int (nI 5), .int (nI 0), .int (nI 2), .int (nI 0), .int (nI 0)]) (by decide) rfl d_L_listSeen_41 ?_
  refine aw_iconst (v := nI 0) ci_0 d_L_listSeen_43 ?_
  refine aw_istore (lv2 := [.ref 7, .ref 155, .int (nI 5), .int (nI 0), .int (nI 2), .int (nI 0), .int (nI 0)]) (by decide) rfl d_L_listSeen_44 ?_
  refine aw_iload rfl d_L_listSeen_46 ?_
  refine aw_iload rfl d_L_listSeen_48 ?_
  refine aw_icmp_geI (tgt := 79) (0) (0) (by decide +kernel) (by decide +kernel) (by decide) d_L_listSeen_50 (fun _ => ?_) (fun q => absurd q (by decide))
  refine aw_iinc (v := nI 3) (lv2 := [.ref 7, .ref 155, .int (nI 5), .int (nI 0), .int (nI 3), .int (nI 0), .int (nI 0)]) rfl (by decide +kernel) (by decide) rfl d_L_listSeen_79 ?_
  refine aw_goto (tgt := 5) (by decide) d_L_listSeen_82 ?_
  refine aw_iload rfl d_L_listSeen_5 ?_
  refine aw_bipush (v := nI 6) cb_6 d_L_listSeen_7 ?_
  refine aw_icmp_geI (tgt := 85) (3) (6) (by decide +kernel) (by decide +kernel) (by decide) d_L_listSeen_9 (fun q => absurd q (by decide)) (fun _ => ?_)
  refine aw_aload_n rfl rfl d_L_listSeen_12 ?_
  refine aw_getr fl_L_15 kc_7 (by decide) rfl rc_7_1 d_L_listSeen_13 ?_
  refine aw_iload rfl d_L_listSeen_16 ?_
  refine aw_iald (j := 3) kc_9 (vp_in_nI (by decide) (by decide)) (nI_clamp (by decide)) d_L_listSeen_18 ?_
  refine aw_top (x2 := nI 0) (f1 (3) (by omega)) ?_
  refine aw_aload_n rfl rfl d_L_listSeen_19 ?_
  refine aw_getr fl_L_18 kc_7 (by decide) rfl rc_7_2 d_L_listSeen_20 ?_
  refine aw_iload rfl d_L_listSeen_23 ?_
  refine aw_iald (j := 3) kc_10 (vp_in_nI (by decide) (by decide)) (nI_clamp (by decide)) d_L_listSeen_25 ?_
  refine aw_top (x2 := nI 9) (f2 (3) (by omega)) ?_
  refine aw_iload rfl d_L_listSeen_26 ?_
  refine aw_iload_n rfl rfl d_L_listSeen_28 ?_
  refine aw_icmp_neI (tgt := 36) (3) (5) (by decide +kernel) (by decide +kernel) (by decide) d_L_listSeen_29 (fun _ => ?_) (fun q => absurd q (by decide))
  refine aw_iconst (v := nI 0) ci_0 d_L_listSeen_36 ?_
  refine aw_iadd d_L_listSeen_37 ?_
  refine aw_top (x2 := nI 9) (by decide +kernel) ?_
  refine as_callS (as := [.int (nI 0), .int (nI 9)]) (d' := 1) mo_JM_min lk_L_37 rfl ⟨by decide, by decide⟩ rfl rfl (by decide) d_L_listSeen_38 (sp_min_c (I := I) (x := nI 0) (z := nI 9) (X := (0)) (Z := (9)) (by decide +kernel) (by decide +kernel) (fun _ => ?_) (fun q => absurd q (by decide)) )
  refine (show As l b 2 y_L_listSeen KC RC K2 (I) 41 [.ref 7, .ref 155, .int (nI 5), .int (nI 0), .int (nI 3), .int (nI 0), .int (nI 0)] [.int (nI 0)] from ?_)
  refine aw_istore (lv2 := [.ref 7, .ref 155, .int (nI 5), .int (nI 0), .int (nI 3), .int (nI 0), .int (nI 0)]) (by decide) rfl d_L_listSeen_41 ?_
  refine aw_iconst (v := nI 0) ci_0 d_L_listSeen_43 ?_
  refine aw_istore (lv2 := [.ref 7, .ref 155, .int (nI 5), .int (nI 0), .int (nI 3), .int (nI 0), .int (nI 0)]) (by decide) rfl d_L_listSeen_44 ?_
  refine aw_iload rfl d_L_listSeen_46 ?_
  refine aw_iload rfl d_L_listSeen_48 ?_
  refine aw_icmp_geI (tgt := 79) (0) (0) (by decide +kernel) (by decide +kernel) (by decide) d_L_listSeen_50 (fun _ => ?_) (fun q => absurd q (by decide))
  refine aw_iinc (v := nI 4) (lv2 := [.ref 7, .ref 155, .int (nI 5), .int (nI 0), .int (nI 4), .int (nI 0), .int (nI 0)]) rfl (by decide +kernel) (by decide) rfl d_L_listSeen_79 ?_
  refine aw_goto (tgt := 5) (by decide) d_L_listSeen_82 ?_
  refine aw_iload rfl d_L_listSeen_5 ?_
  refine aw_bipush (v := nI 6) cb_6 d_L_listSeen_7 ?_
  refine aw_icmp_geI (tgt := 85) (4) (6) (by decide +kernel) (by decide +kernel) (by decide) d_L_listSeen_9 (fun q => absurd q (by decide)) (fun _ => ?_)
  refine aw_aload_n rfl rfl d_L_listSeen_12 ?_
  refine aw_getr fl_L_15 kc_7 (by decide) rfl rc_7_1 d_L_listSeen_13 ?_
  refine aw_iload rfl d_L_listSeen_16 ?_
  refine aw_iald (j := 4) kc_9 (vp_in_nI (by decide) (by decide)) (nI_clamp (by decide)) d_L_listSeen_18 ?_
  refine aw_top (x2 := nI 0) (f1 (4) (by omega)) ?_
  refine aw_aload_n rfl rfl d_L_listSeen_19 ?_
  refine aw_getr fl_L_18 kc_7 (by decide) rfl rc_7_2 d_L_listSeen_20 ?_
  refine aw_iload rfl d_L_listSeen_23 ?_
  refine aw_iald (j := 4) kc_10 (vp_in_nI (by decide) (by decide)) (nI_clamp (by decide)) d_L_listSeen_25 ?_
  refine aw_top (x2 := nI 9) (f2 (4) (by omega)) ?_
  refine aw_iload rfl d_L_listSeen_26 ?_
  refine aw_iload_n rfl rfl d_L_listSeen_28 ?_
  refine aw_icmp_neI (tgt := 36) (4) (5) (by decide +kernel) (by decide +kernel) (by decide) d_L_listSeen_29 (fun _ => ?_) (fun q => absurd q (by decide))
  refine aw_iconst (v := nI 0) ci_0 d_L_listSeen_36 ?_
  refine aw_iadd d_L_listSeen_37 ?_
  refine aw_top (x2 := nI 9) (by decide +kernel) ?_
  refine as_callS (as := [.int (nI 0), .int (nI 9)]) (d' := 1) mo_JM_min lk_L_37 rfl ⟨by decide, by decide⟩ rfl rfl (by decide) d_L_listSeen_38 (sp_min_c (I := I) (x := nI 0) (z := nI 9) (X := (0)) (Z := (9)) (by decide +kernel) (by decide +kernel) (fun _ => ?_) (fun q => absurd q (by decide)) )
  refine (show As l b 2 y_L_listSeen KC RC K2 (I) 41 [.ref 7, .ref 155, .int (nI 5), .int (nI 0), .int (nI 4), .int (nI 0), .int (nI 0)] [.int (nI 0)] from ?_)
  refine aw_istore (lv2 := [.ref 7, .ref 155, .int (nI 5), .int (nI 0), .int (nI 4), .int (nI 0), .int (nI 0)]) (by decide) rfl d_L_listSeen_41 ?_
  refine aw_iconst (v := nI 0) ci_0 d_L_listSeen_43 ?_
  refine aw_istore (lv2 := [.ref 7, .ref 155, .int (nI 5), .int (nI 0), .int (nI 4), .int (nI 0), .int (nI 0)]) (by decide) rfl d_L_listSeen_44 ?_
  refine aw_iload rfl d_L_listSeen_46 ?_
  refine aw_iload rfl d_L_listSeen_48 ?_
  refine aw_icmp_geI (tgt := 79) (0) (0) (by decide +kernel) (by decide +kernel) (by decide) d_L_listSeen_50 (fun _ => ?_) (fun q => absurd q (by decide))
  refine aw_iinc (v := nI 5) (lv2 := [.ref 7, .ref 155, .int (nI 5), .int (nI 0), .int (nI 5), .int (nI 0), .int (nI 0)]) rfl (by decide +kernel) (by decide) rfl d_L_listSeen_79 ?_
  refine aw_goto (tgt := 5) (by decide) d_L_listSeen_82 ?_
  refine aw_iload rfl d_L_listSeen_5 ?_
  refine aw_bipush (v := nI 6) cb_6 d_L_listSeen_7 ?_
  refine aw_icmp_geI (tgt := 85) (5) (6) (by decide +kernel) (by decide +kernel) (by decide) d_L_listSeen_9 (fun q => absurd q (by decide)) (fun _ => ?_)
  refine aw_aload_n rfl rfl d_L_listSeen_12 ?_
  refine aw_getr fl_L_15 kc_7 (by decide) rfl rc_7_1 d_L_listSeen_13 ?_
  refine aw_iload rfl d_L_listSeen_16 ?_
  refine aw_iald (j := 5) kc_9 (vp_in_nI (by decide) (by decide)) (nI_clamp (by decide)) d_L_listSeen_18 ?_
  refine aw_top (x2 := nI 0) (f1 (5) (by omega)) ?_
  refine aw_aload_n rfl rfl d_L_listSeen_19 ?_
  refine aw_getr fl_L_18 kc_7 (by decide) rfl rc_7_2 d_L_listSeen_20 ?_
  refine aw_iload rfl d_L_listSeen_23 ?_
  refine aw_iald (j := 5) kc_10 (vp_in_nI (by decide) (by decide)) (nI_clamp (by decide)) d_L_listSeen_25 ?_
  refine aw_top (x2 := nI 9) (f2 (5) (by omega)) ?_
  refine aw_iload rfl d_L_listSeen_26 ?_
  refine aw_iload_n rfl rfl d_L_listSeen_28 ?_
  refine aw_icmp_neI (tgt := 36) (5) (5) (by decide +kernel) (by decide +kernel) (by decide) d_L_listSeen_29 (fun q => absurd q (by decide)) (fun _ => ?_)
  refine aw_iconst (v := nI 1) ci_1 d_L_listSeen_32 ?_
  refine aw_goto (tgt := 37) (by decide) d_L_listSeen_33 ?_
  refine aw_iadd d_L_listSeen_37 ?_
  refine aw_top (x2 := nI 10) (by decide +kernel) ?_
  refine as_callS (as := [.int (nI 0), .int (nI 10)]) (d' := 1) mo_JM_min lk_L_37 rfl ⟨by decide, by decide⟩ rfl rfl (by decide) d_L_listSeen_38 (sp_min_c (I := I) (x := nI 0) (z := nI 10) (X := (0)) (Z := (10)) (by decide +kernel) (by decide +kernel) (fun _ => ?_) (fun q => absurd q (by decide)) )
  refine (show As l b 2 y_L_listSeen KC RC K2 (I) 41 [.ref 7, .ref 155, .int (nI 5), .int (nI 0), .int (nI 5), .int (nI 0), .int (nI 0)] [.int (nI 0)] from ?_)
  refine aw_istore (lv2 := [.ref 7, .ref 155, .int (nI 5), .int (nI 0), .int (nI 5), .int (nI 0), .int (nI 0)]) (by decide) rfl d_L_listSeen_41 ?_
  refine aw_iconst (v := nI 0) ci_0 d_L_listSeen_43 ?_
  refine aw_istore (lv2 := [.ref 7, .ref 155, .int (nI 5), .int (nI 0), .int (nI 5), .int (nI 0), .int (nI 0)]) (by decide) rfl d_L_listSeen_44 ?_
  refine aw_iload rfl d_L_listSeen_46 ?_
  refine aw_iload rfl d_L_listSeen_48 ?_
  refine aw_icmp_geI (tgt := 79) (0) (0) (by decide +kernel) (by decide +kernel) (by decide) d_L_listSeen_50 (fun _ => ?_) (fun q => absurd q (by decide))
  refine aw_iinc (v := nI 6) (lv2 := [.ref 7, .ref 155, .int (nI 5), .int (nI 0), .int (nI 6), .int (nI 0), .int (nI 0)]) rfl (by decide +kernel) (by decide) rfl d_L_listSeen_79 ?_
  refine aw_goto (tgt := 5) (by decide) d_L_listSeen_82 ?_
  refine aw_iload rfl d_L_listSeen_5 ?_
  refine aw_bipush (v := nI 6) cb_6 d_L_listSeen_7 ?_
  refine aw_icmp_geI (tgt := 85) (6) (6) (by decide +kernel) (by decide +kernel) (by decide) d_L_listSeen_9 (fun _ => ?_) (fun q => absurd q (by decide))
  refine aw_iload_n rfl rfl d_L_listSeen_85 ?_
  exact as_reti rfl d_L_listSeen_86 hK
set_option maxRecDepth 20000 in
theorem sp_fillMost_5 {K2 : K2T} {I : Nat → Nat → Int32} (f1 : ∀ j, j < 6 → I 9 j = nI 0) (f2 : ∀ j, j < 6 → I 10 j = nI 9) (f3 : I 2 0 = nI 4) (hK : ∀ I', I' 154 6 = nI 0 → (∀ q, q ≠ 154 → q ≠ 158 → I' q = I q) → K2 (some (.int (nI 0))) I') : Ss l b 6 y_F_fillMost KC RC [.ref 154, .ref 1, .int (nI 5)] (I) K2 := by
  refine Ss.of (show As l b 6 y_F_fillMost KC RC K2 (I) 0 [.ref 154, .ref 1, .int (nI 5), uu, uu, uu, uu] [] from ?_)
  refine aw_aload_n rfl rfl d_F_fillMost_0 ?_
  refine aw_getr fl_F_27 kc_1 (by decide) rfl rc_1_0 d_F_fillMost_1 ?_
  refine aw_iconst (v := nI 0) ci_0 d_F_fillMost_4 ?_
  refine aw_iald (j := 0) kc_2 (vp_in_nI (by decide) (by decide)) (nI_clamp (by decide)) d_F_fillMost_5 ?_
  refine aw_top (x2 := nI 4) (f3) ?_
  refine aw_bipush (v := nI 8) cb_8 d_F_fillMost_6 ?_
  refine as_callS (as := [.int (nI 4), .int (nI 8)]) (d' := 1) mo_JM_min lk_F_32 rfl ⟨by decide, by decide⟩ rfl rfl (by decide) d_F_fillMost_8 (sp_min_c (I := I) (x := nI 4) (z := nI 8) (X := (4)) (Z := (8)) (by decide +kernel) (by decide +kernel) (fun _ => ?_) (fun q => absurd q (by decide)) )
  refine (show As l b 6 y_F_fillMost KC RC K2 (I) 11 [.ref 154, .ref 1, .int (nI 5), uu, uu, uu, uu] [.int (nI 4)] from ?_)
  refine aw_istore_n (lv2 := [.ref 154, .ref 1, .int (nI 5), .int (nI 4), uu, uu, uu]) rfl (by decide) rfl d_F_fillMost_11 ?_
  refine aw_aload_n rfl rfl d_F_fillMost_12 ?_
  refine aw_aload_n rfl rfl d_F_fillMost_13 ?_
  refine aw_getr fl_F_38 kc_1 (by decide) rfl rc_1_5 d_F_fillMost_14 ?_
  refine aw_iload_n rfl rfl d_F_fillMost_17 ?_
  refine as_callV (as := [.ref 7, .int (nI 5)]) (d' := 5) (q := ("SinglesUp$Filling", zT1, 7)) mo_F_gather lk_F_42 kc_154 rfl rfl rfl ⟨by decide, by decide⟩ rfl rfl (by decide) d_F_fillMost_18 (Ss.of (show As l b 5 y_F_gather KC RC _ (I) 0 [.ref 154, .ref 7, .int (nI 5), uu, uu, uu] [] from ?_))
  refine aw_aload_n rfl rfl d_F_gather_0 ?_
  refine aw_aload_n rfl rfl d_F_gather_1 ?_
  refine aw_getr fl_F_9 kc_154 (by decide) rfl rc_154_0 d_F_gather_2 ?_
  refine aw_iload_n rfl rfl d_F_gather_5 ?_
  refine as_callV (as := [.ref 155, .int (nI 5)]) (d' := 2) (q := ("SinglesUp$Lines", zT4, 3)) mo_L_listSeen lk_F_64 kc_7 rfl rfl rfl ⟨by decide, by decide⟩ rfl rfl (by decide) d_F_gather_6 (sp_listSeen_7_155_5 (I := I) (fun j hj => by simp [upd2, upd, updA, f1 j hj]) (fun j hj => by simp [upd2, upd, updA, f2 j hj]) ?_)
  refine (show As l b 5 y_F_gather KC RC _ (I) 9 [.ref 154, .ref 7, .int (nI 5), uu, uu, uu] [.int (nI 0)] from ?_)
  refine aw_istore_n (lv2 := [.ref 154, .ref 7, .int (nI 5), .int (nI 0), uu, uu]) rfl (by decide) rfl d_F_gather_9 ?_
  refine aw_aload_n rfl rfl d_F_gather_10 ?_
  refine aw_iconst (v := nI 0) ci_0 d_F_gather_11 ?_
  refine aw_puti fl_F_46 kc_154 (by decide) rfl rfl rfl rfl d_F_gather_12 ?_
  refine aw_iconst (v := nI 0) ci_0 d_F_gather_15 ?_
  refine aw_istore (lv2 := [.ref 154, .ref 7, .int (nI 5), .int (nI 0), .int (nI 0), uu]) (by decide) rfl d_F_gather_16 ?_
  refine aw_iload rfl d_F_gather_18 ?_
  refine aw_iload_n rfl rfl d_F_gather_20 ?_
  refine aw_icmp_geI (tgt := 116) (0) (0) (by decide +kernel) (by decide +kernel) (by decide) d_F_gather_21 (fun _ => ?_) (fun q => absurd q (by decide))
  refine as_retv rfl d_F_gather_116 ?_
  refine (show As l b 6 y_F_fillMost KC RC K2 (upd2 I 154 3 (nI 0)) 21 [.ref 154, .ref 1, .int (nI 5), .int (nI 4), uu, uu, uu] [] from ?_)
  exact fr_fillMost (I := upd2 I 154 3 (nI 0)) (lg := nI 5) (by simp [upd2, upd, updA]) (fun I2 g1 g2 => hK I2 g1 (fun q n1 n2 => by rw [g2 q n1 n2]; simp [upd2, n1]))
set_option maxRecDepth 20000 in
theorem cs_best {K2 : K2T} {I : Nat → Nat → Int32} (hR : FRc I) {x : Int32} (hg : 0 ≤ x.toInt ∧ x.toInt ≤ 1 → ∀ I', K2 (some (.int (nI 0))) I') (hb : ¬ (0 ≤ x.toInt ∧ x.toInt ≤ 1) → ∀ I', K2 (some (.int (-1))) I') : Ss l b 14 y_S_best KC RC [.ref 0, .int (x)] (I) K2 := by
  obtain ⟨hF, r6, r7, r11, t1, t2, t4, hh, tm, h7, h8, h9, q1, q10, q11, im, p0⟩ := hR
  have hF0 := hF
  obtain ⟨f0, f1, f2, f3, f4, f5, f6, f7, f8, f9, f10, f11, f12, f13, fb⟩ := hF
  have f0 : ∀ j, j < 32 → I 5 j = nI 0 := f0
  have f1 : ∀ j, j < 6 → I 9 j = nI 0 := f1
  have f2 : ∀ j, j < 6 → I 10 j = nI 9 := f2
  have f3 : I 2 0 = nI (4) := f3
  have f4 : I 2 3 = nI 0 := f4
  have f5 : I 2 5 = nI (0) := f5
  have f6 : I 11 1 = nI (0) := f6
  have f7 : I 11 0 = nI (0) := f7
  have f8 : ∀ j, j < 40 → j ≠ 0 → j ≠ 1 → j ≠ 3 → I 11 j = nI 0 := f8
  have f9 : I 16 4 = nI 0 := f9
  have f10 : I 21 4 = nI 0 := f10
  have f11 : I 26 4 = nI 0 := f11
  have f12 : I 31 4 = nI 0 := f12
  have f13 : I 36 4 = nI 0 := f13
  refine Ss.of (show As l b 14 y_S_best KC RC K2 (I) 0 [.ref 0, .int (x), uu] [] from ?_)
  refine aw_iload_n rfl rfl d_S_best_0 ?_
  refine aw_if_geI (tgt := 6) (x).toInt rfl (by decide) d_S_best_1 (fun c1 => ?_) (fun c1 => ?_)
  · refine aw_aload_n rfl rfl d_S_best_6 ?_
    refine aw_getr fl_S_46 kc_0 (by decide) rfl rc_0_6 d_S_best_7 ?_
    refine aw_aload_n rfl rfl d_S_best_10 ?_
    refine aw_getr fl_S_12 kc_0 (by decide) rfl rc_0_0 d_S_best_11 ?_
    refine aw_iconst (v := (-1 : Int32)) rfl d_S_best_14 ?_
    refine as_callV (as := [.ref 1, .int ((-1 : Int32))]) (d' := 6) (q := ("SinglesUp$Filling", zT1, 7)) mo_F_fillMost lk_S_200 kc_154 rfl rfl rfl ⟨by decide, by decide⟩ rfl rfl (by decide) d_S_best_15 (sp_fillMost_n (I := I) (fun j hj => (f1 (j) (by omega))) (fun j hj => (f2 (j) (by omega))) (f3) (fun I2 g3 hf4 => ?_))
    refine (show As l b 14 y_S_best KC RC K2 (I2) 18 [.ref 0, .int (x), uu] [.int (nI 0)] from ?_)
    refine aw_istore_n (lv2 := [.ref 0, .int (x), .int (nI 0)]) rfl (by decide) rfl d_S_best_18 ?_
    refine aw_iload_n rfl rfl d_S_best_19 ?_
    refine aw_bipush (v := nI 10) cb_10 d_S_best_20 ?_
    refine aw_icmp_geI (tgt := 50) (x).toInt (10) rfl (by decide +kernel) (by decide) d_S_best_22 (fun c5 => ?_) (fun c5 => ?_)
    · refine aw_aload_n rfl rfl d_S_best_50 ?_
      refine aw_getr fl_S_46 kc_0 (by decide) rfl rc_0_6 d_S_best_51 ?_
      refine aw_iload_n rfl rfl d_S_best_54 ?_
      refine aw_bipush (v := nI 10) cb_10 d_S_best_55 ?_
      refine aw_isub d_S_best_57 ?_
      refine as_callV (as := [.int ((x - nI 10))]) (d' := 13) (q := ("SinglesUp$Filling", zT1, 7)) mo_F_chosenAt lk_S_206 kc_154 rfl rfl rfl ⟨by decide, by decide⟩ rfl rfl (by decide) d_S_best_58 (Ss.of (show As l b 13 y_F_chosenAt KC RC _ (I2) 0 [.ref 154, .int ((x - nI 10))] [] from ?_))
      refine aw_iload_n rfl rfl d_F_chosenAt_0 ?_
      refine aw_if_ltI (tgt := 18) ((x - nI 10)).toInt rfl (by decide) d_F_chosenAt_1 (fun c6 => ?_) (fun c6 => ?_)
      · refine aw_iconst (v := (-1 : Int32)) rfl d_F_chosenAt_18 ?_
        refine as_reti rfl d_F_chosenAt_19 ?_
        refine (show As l b 14 y_S_best KC RC K2 (I2) 61 [.ref 0, .int (x), .int (nI 0)] [.int ((-1 : Int32))] from ?_)
        exact as_reti rfl d_S_best_61 (hb (by omega) _)
      · refine aw_iload_n rfl rfl d_F_chosenAt_4 ?_
        refine aw_aload_n rfl rfl d_F_chosenAt_5 ?_
        refine aw_geti fl_F_76 kc_154 (by decide) rfl d_F_chosenAt_6 ?_
        refine aw_top (x2 := nI 0) (g3) ?_
        refine aw_icmp_geI (tgt := 18) ((x - nI 10)).toInt (0) rfl (by decide +kernel) (by decide) d_F_chosenAt_9 (fun _ => ?_) (fun q => absurd q (by omega))
        refine aw_iconst (v := (-1 : Int32)) rfl d_F_chosenAt_18 ?_
        refine as_reti rfl d_F_chosenAt_19 ?_
        refine (show As l b 14 y_S_best KC RC K2 (I2) 61 [.ref 0, .int (x), .int (nI 0)] [.int ((-1 : Int32))] from ?_)
        exact as_reti rfl d_S_best_61 (hb (by omega) _)
    · refine aw_iload_n rfl rfl d_S_best_25 ?_
      refine aw_if_neI (tgt := 33) (x).toInt rfl (by decide) d_S_best_26 (fun c7 => ?_) (fun c7 => ?_)
      · refine aw_iload_n rfl rfl d_S_best_33 ?_
        refine aw_iconst (v := nI 1) ci_1 d_S_best_34 ?_
        refine aw_icmp_neI (tgt := 48) (x).toInt (1) rfl (by decide +kernel) (by decide) d_S_best_35 (fun c8 => ?_) (fun c8 => ?_)
        · refine aw_iconst (v := (-1 : Int32)) rfl d_S_best_48 ?_
          exact as_reti rfl d_S_best_49 (hb (by omega) _)
        · refine aw_aload_n rfl rfl d_S_best_38 ?_
          refine aw_getr fl_S_46 kc_0 (by decide) rfl rc_0_6 d_S_best_39 ?_
          refine aw_geti fl_S_203 kc_154 (by decide) rfl d_S_best_42 ?_
          refine aw_top (x2 := nI 0) (g3) ?_
          refine aw_goto (tgt := 49) (by decide) d_S_best_45 ?_
          exact as_reti rfl d_S_best_49 (hg (by omega) _)
      · refine aw_iload_n rfl rfl d_S_best_29 ?_
        refine aw_goto (tgt := 49) (by decide) d_S_best_30 ?_
        exact as_reti rfl d_S_best_49 (hg (by omega) _)
  · refine aw_iconst (v := (-1 : Int32)) rfl d_S_best_4 ?_
    exact as_reti rfl d_S_best_5 (hb (by omega) _)
set_option maxRecDepth 20000 in
theorem cs_look {K2 : K2T} {I : Nat → Nat → Int32} (hR : FRc I) {x : Int32} (hg : 0 ≤ x.toInt ∧ x.toInt < 6 → ∀ I', K2 (some (.int (nI 0))) I') (hb : ¬ (0 ≤ x.toInt ∧ x.toInt < 6) → ∀ I', K2 (some (.int (-1))) I') : Ss l b 14 y_S_look KC RC [.ref 0, .int (x)] (I) K2 := by
  obtain ⟨hF, r6, r7, r11, t1, t2, t4, hh, tm, h7, h8, h9, q1, q10, q11, im, p0⟩ := hR
  have hF0 := hF
  obtain ⟨f0, f1, f2, f3, f4, f5, f6, f7, f8, f9, f10, f11, f12, f13, fb⟩ := hF
  have f0 : ∀ j, j < 32 → I 5 j = nI 0 := f0
  have f1 : ∀ j, j < 6 → I 9 j = nI 0 := f1
  have f2 : ∀ j, j < 6 → I 10 j = nI 9 := f2
  have f3 : I 2 0 = nI (4) := f3
  have f4 : I 2 3 = nI 0 := f4
  have f5 : I 2 5 = nI (0) := f5
  have f6 : I 11 1 = nI (0) := f6
  have f7 : I 11 0 = nI (0) := f7
  have f8 : ∀ j, j < 40 → j ≠ 0 → j ≠ 1 → j ≠ 3 → I 11 j = nI 0 := f8
  have f9 : I 16 4 = nI 0 := f9
  have f10 : I 21 4 = nI 0 := f10
  have f11 : I 26 4 = nI 0 := f11
  have f12 : I 31 4 = nI 0 := f12
  have f13 : I 36 4 = nI 0 := f13
  refine Ss.of (show As l b 14 y_S_look KC RC K2 (I) 0 [.ref 0, .int (x)] [] from ?_)
  refine aw_iload_n rfl rfl d_S_look_0 ?_
  refine as_callS (as := [.int (x)]) (d' := 1) mo_S_isLine lk_S_73 rfl ⟨by decide, by decide⟩ rfl rfl (by decide) d_S_look_1 (sp_isLine (I := I) (x := x) (X := (x).toInt) rfl (fun c1 => ?_) (fun c2 => ?_))
  · refine (show As l b 14 y_S_look KC RC K2 (I) 4 [.ref 0, .int (x)] [.int (nI 1)] from ?_)
    refine aw_if_eqI (tgt := 24) (1) (by decide +kernel) (by decide) d_S_look_4 (fun q => absurd q (by decide)) (fun _ => ?_)
    obtain ⟨w1, hw1, ew1, gw1⟩ := nI_of_range (x := x) (n := 6) (by omega) (by omega)
    subst ew1
    rcases (show w1 = 0 ∨ w1 = 1 ∨ w1 = 2 ∨ w1 = 3 ∨ w1 = 4 ∨ w1 = 5 by omega) with rfl | rfl | rfl | rfl | rfl | rfl
    · refine aw_aload_n rfl rfl d_S_look_7 ?_
      refine aw_getr fl_S_12 kc_0 (by decide) rfl rc_0_0 d_S_look_8 ?_
      refine aw_getr fl_S_77 kc_1 (by decide) rfl rc_1_5 d_S_look_11 ?_
      refine aw_getr fl_S_81 kc_7 (by decide) rfl rc_7_2 d_S_look_14 ?_
      refine aw_iload_n rfl rfl d_S_look_17 ?_
      refine aw_iald (j := 0) kc_10 (vp_in_nI (by decide) (by decide)) (nI_clamp (by decide)) d_S_look_18 ?_
      refine aw_top (x2 := nI 9) (f2 (0) (by omega)) ?_
      refine aw_bipush (v := nI 24) cb_24 d_S_look_19 ?_
      refine aw_icmp_ltI (tgt := 26) (9) (24) (by decide +kernel) (by decide +kernel) (by decide) d_S_look_21 (fun _ => ?_) (fun q => absurd q (by decide))
      refine aw_aload_n rfl rfl d_S_look_26 ?_
      refine aw_getr fl_S_46 kc_0 (by decide) rfl rc_0_6 d_S_look_27 ?_
      refine aw_aload_n rfl rfl d_S_look_30 ?_
      refine aw_getr fl_S_12 kc_0 (by decide) rfl rc_0_0 d_S_look_31 ?_
      refine aw_iload_n rfl rfl d_S_look_34 ?_
      refine as_callV (as := [.ref 1, .int (nI 0)]) (d' := 6) (q := ("SinglesUp$Filling", zT1, 7)) mo_F_fillMost lk_S_200 kc_154 rfl rfl rfl ⟨by decide, by decide⟩ rfl rfl (by decide) d_S_look_35 (sp_fillMost_0 (I := I) (fun j hj => (f1 (j) (by omega))) (fun j hj => (f2 (j) (by omega))) (f3) (fun I3 g4 hf5 => ?_))
      refine (show As l b 14 y_S_look KC RC K2 (I3) 38 [.ref 0, .int (nI 0)] [.int (nI 0)] from ?_)
      refine aw_aload_n rfl rfl d_S_look_38 ?_
      refine aw_getr fl_S_46 kc_0 (by decide) rfl rc_0_6 d_S_look_39 ?_
      refine aw_aload_n rfl rfl d_S_look_42 ?_
      refine aw_getr fl_S_12 kc_0 (by decide) rfl rc_0_0 d_S_look_43 ?_
      refine aw_iconst (v := (-1 : Int32)) rfl d_S_look_46 ?_
      refine as_callV (as := [.ref 1, .int ((-1 : Int32))]) (d' := 6) (q := ("SinglesUp$Filling", zT1, 7)) mo_F_fillMost lk_S_200 kc_154 rfl rfl rfl ⟨by decide, by decide⟩ rfl rfl (by decide) d_S_look_47 (sp_fillMost_n (I := I3) (fun j hj => (((congrFun (hf5 9 (by decide) (by decide)) (j)).trans (f1 (j) (by omega))))) (fun j hj => (((congrFun (hf5 10 (by decide) (by decide)) (j)).trans (f2 (j) (by omega))))) (((congrFun (hf5 2 (by decide) (by decide)) (0)).trans (f3))) (fun I6 g7 hf8 => ?_))
      refine (show As l b 14 y_S_look KC RC K2 (I6) 50 [.ref 0, .int (nI 0)] [.int (nI 0), .int (nI 0)] from ?_)
      refine aw_isub d_S_look_50 ?_
      refine aw_top (x2 := nI 0) (by decide +kernel) ?_
      exact as_reti rfl d_S_look_51 (hg (by omega) _)
    · refine aw_aload_n rfl rfl d_S_look_7 ?_
      refine aw_getr fl_S_12 kc_0 (by decide) rfl rc_0_0 d_S_look_8 ?_
      refine aw_getr fl_S_77 kc_1 (by decide) rfl rc_1_5 d_S_look_11 ?_
      refine aw_getr fl_S_81 kc_7 (by decide) rfl rc_7_2 d_S_look_14 ?_
      refine aw_iload_n rfl rfl d_S_look_17 ?_
      refine aw_iald (j := 1) kc_10 (vp_in_nI (by decide) (by decide)) (nI_clamp (by decide)) d_S_look_18 ?_
      refine aw_top (x2 := nI 9) (f2 (1) (by omega)) ?_
      refine aw_bipush (v := nI 24) cb_24 d_S_look_19 ?_
      refine aw_icmp_ltI (tgt := 26) (9) (24) (by decide +kernel) (by decide +kernel) (by decide) d_S_look_21 (fun _ => ?_) (fun q => absurd q (by decide))
      refine aw_aload_n rfl rfl d_S_look_26 ?_
      refine aw_getr fl_S_46 kc_0 (by decide) rfl rc_0_6 d_S_look_27 ?_
      refine aw_aload_n rfl rfl d_S_look_30 ?_
      refine aw_getr fl_S_12 kc_0 (by decide) rfl rc_0_0 d_S_look_31 ?_
      refine aw_iload_n rfl rfl d_S_look_34 ?_
      refine as_callV (as := [.ref 1, .int (nI 1)]) (d' := 6) (q := ("SinglesUp$Filling", zT1, 7)) mo_F_fillMost lk_S_200 kc_154 rfl rfl rfl ⟨by decide, by decide⟩ rfl rfl (by decide) d_S_look_35 (sp_fillMost_1 (I := I) (fun j hj => (f1 (j) (by omega))) (fun j hj => (f2 (j) (by omega))) (f3) (fun I9 g10 hf11 => ?_))
      refine (show As l b 14 y_S_look KC RC K2 (I9) 38 [.ref 0, .int (nI 1)] [.int (nI 0)] from ?_)
      refine aw_aload_n rfl rfl d_S_look_38 ?_
      refine aw_getr fl_S_46 kc_0 (by decide) rfl rc_0_6 d_S_look_39 ?_
      refine aw_aload_n rfl rfl d_S_look_42 ?_
      refine aw_getr fl_S_12 kc_0 (by decide) rfl rc_0_0 d_S_look_43 ?_
      refine aw_iconst (v := (-1 : Int32)) rfl d_S_look_46 ?_
      refine as_callV (as := [.ref 1, .int ((-1 : Int32))]) (d' := 6) (q := ("SinglesUp$Filling", zT1, 7)) mo_F_fillMost lk_S_200 kc_154 rfl rfl rfl ⟨by decide, by decide⟩ rfl rfl (by decide) d_S_look_47 (sp_fillMost_n (I := I9) (fun j hj => (((congrFun (hf11 9 (by decide) (by decide)) (j)).trans (f1 (j) (by omega))))) (fun j hj => (((congrFun (hf11 10 (by decide) (by decide)) (j)).trans (f2 (j) (by omega))))) (((congrFun (hf11 2 (by decide) (by decide)) (0)).trans (f3))) (fun I12 g13 hf14 => ?_))
      refine (show As l b 14 y_S_look KC RC K2 (I12) 50 [.ref 0, .int (nI 1)] [.int (nI 0), .int (nI 0)] from ?_)
      refine aw_isub d_S_look_50 ?_
      refine aw_top (x2 := nI 0) (by decide +kernel) ?_
      exact as_reti rfl d_S_look_51 (hg (by omega) _)
    · refine aw_aload_n rfl rfl d_S_look_7 ?_
      refine aw_getr fl_S_12 kc_0 (by decide) rfl rc_0_0 d_S_look_8 ?_
      refine aw_getr fl_S_77 kc_1 (by decide) rfl rc_1_5 d_S_look_11 ?_
      refine aw_getr fl_S_81 kc_7 (by decide) rfl rc_7_2 d_S_look_14 ?_
      refine aw_iload_n rfl rfl d_S_look_17 ?_
      refine aw_iald (j := 2) kc_10 (vp_in_nI (by decide) (by decide)) (nI_clamp (by decide)) d_S_look_18 ?_
      refine aw_top (x2 := nI 9) (f2 (2) (by omega)) ?_
      refine aw_bipush (v := nI 24) cb_24 d_S_look_19 ?_
      refine aw_icmp_ltI (tgt := 26) (9) (24) (by decide +kernel) (by decide +kernel) (by decide) d_S_look_21 (fun _ => ?_) (fun q => absurd q (by decide))
      refine aw_aload_n rfl rfl d_S_look_26 ?_
      refine aw_getr fl_S_46 kc_0 (by decide) rfl rc_0_6 d_S_look_27 ?_
      refine aw_aload_n rfl rfl d_S_look_30 ?_
      refine aw_getr fl_S_12 kc_0 (by decide) rfl rc_0_0 d_S_look_31 ?_
      refine aw_iload_n rfl rfl d_S_look_34 ?_
      refine as_callV (as := [.ref 1, .int (nI 2)]) (d' := 6) (q := ("SinglesUp$Filling", zT1, 7)) mo_F_fillMost lk_S_200 kc_154 rfl rfl rfl ⟨by decide, by decide⟩ rfl rfl (by decide) d_S_look_35 (sp_fillMost_2 (I := I) (fun j hj => (f1 (j) (by omega))) (fun j hj => (f2 (j) (by omega))) (f3) (fun I15 g16 hf17 => ?_))
      refine (show As l b 14 y_S_look KC RC K2 (I15) 38 [.ref 0, .int (nI 2)] [.int (nI 0)] from ?_)
      refine aw_aload_n rfl rfl d_S_look_38 ?_
      refine aw_getr fl_S_46 kc_0 (by decide) rfl rc_0_6 d_S_look_39 ?_
      refine aw_aload_n rfl rfl d_S_look_42 ?_
      refine aw_getr fl_S_12 kc_0 (by decide) rfl rc_0_0 d_S_look_43 ?_
      refine aw_iconst (v := (-1 : Int32)) rfl d_S_look_46 ?_
      refine as_callV (as := [.ref 1, .int ((-1 : Int32))]) (d' := 6) (q := ("SinglesUp$Filling", zT1, 7)) mo_F_fillMost lk_S_200 kc_154 rfl rfl rfl ⟨by decide, by decide⟩ rfl rfl (by decide) d_S_look_47 (sp_fillMost_n (I := I15) (fun j hj => (((congrFun (hf17 9 (by decide) (by decide)) (j)).trans (f1 (j) (by omega))))) (fun j hj => (((congrFun (hf17 10 (by decide) (by decide)) (j)).trans (f2 (j) (by omega))))) (((congrFun (hf17 2 (by decide) (by decide)) (0)).trans (f3))) (fun I18 g19 hf20 => ?_))
      refine (show As l b 14 y_S_look KC RC K2 (I18) 50 [.ref 0, .int (nI 2)] [.int (nI 0), .int (nI 0)] from ?_)
      refine aw_isub d_S_look_50 ?_
      refine aw_top (x2 := nI 0) (by decide +kernel) ?_
      exact as_reti rfl d_S_look_51 (hg (by omega) _)
    · refine aw_aload_n rfl rfl d_S_look_7 ?_
      refine aw_getr fl_S_12 kc_0 (by decide) rfl rc_0_0 d_S_look_8 ?_
      refine aw_getr fl_S_77 kc_1 (by decide) rfl rc_1_5 d_S_look_11 ?_
      refine aw_getr fl_S_81 kc_7 (by decide) rfl rc_7_2 d_S_look_14 ?_
      refine aw_iload_n rfl rfl d_S_look_17 ?_
      refine aw_iald (j := 3) kc_10 (vp_in_nI (by decide) (by decide)) (nI_clamp (by decide)) d_S_look_18 ?_
      refine aw_top (x2 := nI 9) (f2 (3) (by omega)) ?_
      refine aw_bipush (v := nI 24) cb_24 d_S_look_19 ?_
      refine aw_icmp_ltI (tgt := 26) (9) (24) (by decide +kernel) (by decide +kernel) (by decide) d_S_look_21 (fun _ => ?_) (fun q => absurd q (by decide))
      refine aw_aload_n rfl rfl d_S_look_26 ?_
      refine aw_getr fl_S_46 kc_0 (by decide) rfl rc_0_6 d_S_look_27 ?_
      refine aw_aload_n rfl rfl d_S_look_30 ?_
      refine aw_getr fl_S_12 kc_0 (by decide) rfl rc_0_0 d_S_look_31 ?_
      refine aw_iload_n rfl rfl d_S_look_34 ?_
      refine as_callV (as := [.ref 1, .int (nI 3)]) (d' := 6) (q := ("SinglesUp$Filling", zT1, 7)) mo_F_fillMost lk_S_200 kc_154 rfl rfl rfl ⟨by decide, by decide⟩ rfl rfl (by decide) d_S_look_35 (sp_fillMost_3 (I := I) (fun j hj => (f1 (j) (by omega))) (fun j hj => (f2 (j) (by omega))) (f3) (fun I21 g22 hf23 => ?_))
      refine (show As l b 14 y_S_look KC RC K2 (I21) 38 [.ref 0, .int (nI 3)] [.int (nI 0)] from ?_)
      refine aw_aload_n rfl rfl d_S_look_38 ?_
      refine aw_getr fl_S_46 kc_0 (by decide) rfl rc_0_6 d_S_look_39 ?_
      refine aw_aload_n rfl rfl d_S_look_42 ?_
      refine aw_getr fl_S_12 kc_0 (by decide) rfl rc_0_0 d_S_look_43 ?_
      refine aw_iconst (v := (-1 : Int32)) rfl d_S_look_46 ?_
      refine as_callV (as := [.ref 1, .int ((-1 : Int32))]) (d' := 6) (q := ("SinglesUp$Filling", zT1, 7)) mo_F_fillMost lk_S_200 kc_154 rfl rfl rfl ⟨by decide, by decide⟩ rfl rfl (by decide) d_S_look_47 (sp_fillMost_n (I := I21) (fun j hj => (((congrFun (hf23 9 (by decide) (by decide)) (j)).trans (f1 (j) (by omega))))) (fun j hj => (((congrFun (hf23 10 (by decide) (by decide)) (j)).trans (f2 (j) (by omega))))) (((congrFun (hf23 2 (by decide) (by decide)) (0)).trans (f3))) (fun I24 g25 hf26 => ?_))
      refine (show As l b 14 y_S_look KC RC K2 (I24) 50 [.ref 0, .int (nI 3)] [.int (nI 0), .int (nI 0)] from ?_)
      refine aw_isub d_S_look_50 ?_
      refine aw_top (x2 := nI 0) (by decide +kernel) ?_
      exact as_reti rfl d_S_look_51 (hg (by omega) _)
    · refine aw_aload_n rfl rfl d_S_look_7 ?_
      refine aw_getr fl_S_12 kc_0 (by decide) rfl rc_0_0 d_S_look_8 ?_
      refine aw_getr fl_S_77 kc_1 (by decide) rfl rc_1_5 d_S_look_11 ?_
      refine aw_getr fl_S_81 kc_7 (by decide) rfl rc_7_2 d_S_look_14 ?_
      refine aw_iload_n rfl rfl d_S_look_17 ?_
      refine aw_iald (j := 4) kc_10 (vp_in_nI (by decide) (by decide)) (nI_clamp (by decide)) d_S_look_18 ?_
      refine aw_top (x2 := nI 9) (f2 (4) (by omega)) ?_
      refine aw_bipush (v := nI 24) cb_24 d_S_look_19 ?_
      refine aw_icmp_ltI (tgt := 26) (9) (24) (by decide +kernel) (by decide +kernel) (by decide) d_S_look_21 (fun _ => ?_) (fun q => absurd q (by decide))
      refine aw_aload_n rfl rfl d_S_look_26 ?_
      refine aw_getr fl_S_46 kc_0 (by decide) rfl rc_0_6 d_S_look_27 ?_
      refine aw_aload_n rfl rfl d_S_look_30 ?_
      refine aw_getr fl_S_12 kc_0 (by decide) rfl rc_0_0 d_S_look_31 ?_
      refine aw_iload_n rfl rfl d_S_look_34 ?_
      refine as_callV (as := [.ref 1, .int (nI 4)]) (d' := 6) (q := ("SinglesUp$Filling", zT1, 7)) mo_F_fillMost lk_S_200 kc_154 rfl rfl rfl ⟨by decide, by decide⟩ rfl rfl (by decide) d_S_look_35 (sp_fillMost_4 (I := I) (fun j hj => (f1 (j) (by omega))) (fun j hj => (f2 (j) (by omega))) (f3) (fun I27 g28 hf29 => ?_))
      refine (show As l b 14 y_S_look KC RC K2 (I27) 38 [.ref 0, .int (nI 4)] [.int (nI 0)] from ?_)
      refine aw_aload_n rfl rfl d_S_look_38 ?_
      refine aw_getr fl_S_46 kc_0 (by decide) rfl rc_0_6 d_S_look_39 ?_
      refine aw_aload_n rfl rfl d_S_look_42 ?_
      refine aw_getr fl_S_12 kc_0 (by decide) rfl rc_0_0 d_S_look_43 ?_
      refine aw_iconst (v := (-1 : Int32)) rfl d_S_look_46 ?_
      refine as_callV (as := [.ref 1, .int ((-1 : Int32))]) (d' := 6) (q := ("SinglesUp$Filling", zT1, 7)) mo_F_fillMost lk_S_200 kc_154 rfl rfl rfl ⟨by decide, by decide⟩ rfl rfl (by decide) d_S_look_47 (sp_fillMost_n (I := I27) (fun j hj => (((congrFun (hf29 9 (by decide) (by decide)) (j)).trans (f1 (j) (by omega))))) (fun j hj => (((congrFun (hf29 10 (by decide) (by decide)) (j)).trans (f2 (j) (by omega))))) (((congrFun (hf29 2 (by decide) (by decide)) (0)).trans (f3))) (fun I30 g31 hf32 => ?_))
      refine (show As l b 14 y_S_look KC RC K2 (I30) 50 [.ref 0, .int (nI 4)] [.int (nI 0), .int (nI 0)] from ?_)
      refine aw_isub d_S_look_50 ?_
      refine aw_top (x2 := nI 0) (by decide +kernel) ?_
      exact as_reti rfl d_S_look_51 (hg (by omega) _)
    · refine aw_aload_n rfl rfl d_S_look_7 ?_
      refine aw_getr fl_S_12 kc_0 (by decide) rfl rc_0_0 d_S_look_8 ?_
      refine aw_getr fl_S_77 kc_1 (by decide) rfl rc_1_5 d_S_look_11 ?_
      refine aw_getr fl_S_81 kc_7 (by decide) rfl rc_7_2 d_S_look_14 ?_
      refine aw_iload_n rfl rfl d_S_look_17 ?_
      refine aw_iald (j := 5) kc_10 (vp_in_nI (by decide) (by decide)) (nI_clamp (by decide)) d_S_look_18 ?_
      refine aw_top (x2 := nI 9) (f2 (5) (by omega)) ?_
      refine aw_bipush (v := nI 24) cb_24 d_S_look_19 ?_
      refine aw_icmp_ltI (tgt := 26) (9) (24) (by decide +kernel) (by decide +kernel) (by decide) d_S_look_21 (fun _ => ?_) (fun q => absurd q (by decide))
      refine aw_aload_n rfl rfl d_S_look_26 ?_
      refine aw_getr fl_S_46 kc_0 (by decide) rfl rc_0_6 d_S_look_27 ?_
      refine aw_aload_n rfl rfl d_S_look_30 ?_
      refine aw_getr fl_S_12 kc_0 (by decide) rfl rc_0_0 d_S_look_31 ?_
      refine aw_iload_n rfl rfl d_S_look_34 ?_
      refine as_callV (as := [.ref 1, .int (nI 5)]) (d' := 6) (q := ("SinglesUp$Filling", zT1, 7)) mo_F_fillMost lk_S_200 kc_154 rfl rfl rfl ⟨by decide, by decide⟩ rfl rfl (by decide) d_S_look_35 (sp_fillMost_5 (I := I) (fun j hj => (f1 (j) (by omega))) (fun j hj => (f2 (j) (by omega))) (f3) (fun I33 g34 hf35 => ?_))
      refine (show As l b 14 y_S_look KC RC K2 (I33) 38 [.ref 0, .int (nI 5)] [.int (nI 0)] from ?_)
      refine aw_aload_n rfl rfl d_S_look_38 ?_
      refine aw_getr fl_S_46 kc_0 (by decide) rfl rc_0_6 d_S_look_39 ?_
      refine aw_aload_n rfl rfl d_S_look_42 ?_
      refine aw_getr fl_S_12 kc_0 (by decide) rfl rc_0_0 d_S_look_43 ?_
      refine aw_iconst (v := (-1 : Int32)) rfl d_S_look_46 ?_
      refine as_callV (as := [.ref 1, .int ((-1 : Int32))]) (d' := 6) (q := ("SinglesUp$Filling", zT1, 7)) mo_F_fillMost lk_S_200 kc_154 rfl rfl rfl ⟨by decide, by decide⟩ rfl rfl (by decide) d_S_look_47 (sp_fillMost_n (I := I33) (fun j hj => (((congrFun (hf35 9 (by decide) (by decide)) (j)).trans (f1 (j) (by omega))))) (fun j hj => (((congrFun (hf35 10 (by decide) (by decide)) (j)).trans (f2 (j) (by omega))))) (((congrFun (hf35 2 (by decide) (by decide)) (0)).trans (f3))) (fun I36 g37 hf38 => ?_))
      refine (show As l b 14 y_S_look KC RC K2 (I36) 50 [.ref 0, .int (nI 5)] [.int (nI 0), .int (nI 0)] from ?_)
      refine aw_isub d_S_look_50 ?_
      refine aw_top (x2 := nI 0) (by decide +kernel) ?_
      exact as_reti rfl d_S_look_51 (hg (by omega) _)
  · refine (show As l b 14 y_S_look KC RC K2 (I) 4 [.ref 0, .int (x)] [.int (nI 0)] from ?_)
    refine aw_if_eqI (tgt := 24) (0) (by decide +kernel) (by decide) d_S_look_4 (fun _ => ?_) (fun q => absurd q (by decide))
    refine aw_iconst (v := (-1 : Int32)) rfl d_S_look_24 ?_
    exact as_reti rfl d_S_look_25 (hb (by omega) _)
set_option maxRecDepth 20000 in
theorem cs_heap {K2 : K2T} {I : Nat → Nat → Int32} (hR : FRc I) {x z : Int32} (h1 : 1 ≤ x.toInt ∧ x.toInt ≤ 8 ∧ 0 ≤ z.toInt ∧ z.toInt ≤ 9 → ∀ I', K2 (some (.int (nI 1))) I') (h0 : ¬ (1 ≤ x.toInt ∧ x.toInt ≤ 8 ∧ 0 ≤ z.toInt ∧ z.toInt ≤ 9) → ∀ I', K2 (some (.int (nI 0))) I') : Ss l b 14 y_S_heap KC RC [.ref 0, .int (x), .int (z)] (I) K2 := by
  obtain ⟨hF, r6, r7, r11, t1, t2, t4, hh, tm, h7, h8, h9, q1, q10, q11, im, p0⟩ := hR
  have hF0 := hF
  obtain ⟨f0, f1, f2, f3, f4, f5, f6, f7, f8, f9, f10, f11, f12, f13, fb⟩ := hF
  have f0 : ∀ j, j < 32 → I 5 j = nI 0 := f0
  have f1 : ∀ j, j < 6 → I 9 j = nI 0 := f1
  have f2 : ∀ j, j < 6 → I 10 j = nI 9 := f2
  have f3 : I 2 0 = nI (4) := f3
  have f4 : I 2 3 = nI 0 := f4
  have f5 : I 2 5 = nI (0) := f5
  have f6 : I 11 1 = nI (0) := f6
  have f7 : I 11 0 = nI (0) := f7
  have f8 : ∀ j, j < 40 → j ≠ 0 → j ≠ 1 → j ≠ 3 → I 11 j = nI 0 := f8
  have f9 : I 16 4 = nI 0 := f9
  have f10 : I 21 4 = nI 0 := f10
  have f11 : I 26 4 = nI 0 := f11
  have f12 : I 31 4 = nI 0 := f12
  have f13 : I 36 4 = nI 0 := f13
  refine Ss.of (show As l b 14 y_S_heap KC RC K2 (I) 0 [.ref 0, .int (x), .int (z), uu, uu] [] from ?_)
  refine aw_iload_n rfl rfl d_S_heap_0 ?_
  refine aw_iconst (v := nI 1) ci_1 d_S_heap_1 ?_
  refine aw_icmp_ltI (tgt := 21) (x).toInt (1) rfl (by decide +kernel) (by decide) d_S_heap_2 (fun c1 => ?_) (fun c1 => ?_)
  · refine aw_iconst (v := nI 0) ci_0 d_S_heap_21 ?_
    exact as_retz rfl (by decide +kernel) d_S_heap_22 (h0 (by omega) _)
  · refine aw_iload_n rfl rfl d_S_heap_5 ?_
    refine aw_bipush (v := nI 8) cb_8 d_S_heap_6 ?_
    refine aw_icmp_gtI (tgt := 21) (x).toInt (8) rfl (by decide +kernel) (by decide) d_S_heap_8 (fun c2 => ?_) (fun c2 => ?_)
    · refine aw_iconst (v := nI 0) ci_0 d_S_heap_21 ?_
      exact as_retz rfl (by decide +kernel) d_S_heap_22 (h0 (by omega) _)
    · refine aw_iload_n rfl rfl d_S_heap_11 ?_
      refine aw_if_ltI (tgt := 21) (z).toInt rfl (by decide) d_S_heap_12 (fun c3 => ?_) (fun c3 => ?_)
      · refine aw_iconst (v := nI 0) ci_0 d_S_heap_21 ?_
        exact as_retz rfl (by decide +kernel) d_S_heap_22 (h0 (by omega) _)
      · refine aw_iload_n rfl rfl d_S_heap_15 ?_
        refine aw_bipush (v := nI 9) cb_9 d_S_heap_16 ?_
        refine aw_icmp_leI (tgt := 23) (z).toInt (9) rfl (by decide +kernel) (by decide) d_S_heap_18 (fun c4 => ?_) (fun c4 => ?_)
        · obtain ⟨w1, hw1, ew1, gw1⟩ := nI_of_range (x := z) (n := 10) (by omega) (by omega)
          subst ew1
          refine aw_iload_n rfl rfl d_S_heap_23 ?_
          refine aw_aload_n rfl rfl d_S_heap_24 ?_
          refine aw_getr fl_S_12 kc_0 (by decide) rfl rc_0_0 d_S_heap_25 ?_
          refine aw_getr fl_S_209 kc_1 (by decide) rfl rc_1_4 d_S_heap_28 ?_
          refine aw_iload_n rfl rfl d_S_heap_31 ?_
          refine aw_iald (j := (x).toInt.toNat) kc_6 (vp_in_iff.mpr ⟨by omega, by omega⟩) rfl d_S_heap_32 ?_
          refine aw_top (x2 := nI 0) (hh ((x).toInt.toNat) (by omega)) ?_
          refine aw_isubN (by omega) d_S_heap_33 ?_
          refine aw_istore_n (lv2 := [.ref 0, .int (x), .int (nI (w1)), .int (nI ((w1 - 0))), uu]) rfl (by decide) rfl d_S_heap_34 ?_
          refine aw_iconst (v := nI 1) ci_1 d_S_heap_35 ?_
          refine aw_istore (lv2 := [.ref 0, .int (x), .int (nI (w1)), .int (nI ((w1 - 0))), .int (nI 1)]) (by decide) rfl d_S_heap_36 ?_
          refine aw_iload rfl d_S_heap_38 ?_
          refine aw_aload_n rfl rfl d_S_heap_40 ?_
          refine aw_getr fl_S_12 kc_0 (by decide) rfl rc_0_0 d_S_heap_41 ?_
          refine aw_getr fl_S_209 kc_1 (by decide) rfl rc_1_4 d_S_heap_44 ?_
          refine aw_alen kc_6 (by decide) d_S_heap_47 ?_
          refine aw_icmp_geI (tgt := 70) (1) (9) (by decide +kernel) (by decide +kernel) (by decide) d_S_heap_48 (fun q => absurd q (by decide)) (fun _ => ?_)
          refine aw_iload_n rfl rfl d_S_heap_51 ?_
          refine aw_aload_n rfl rfl d_S_heap_52 ?_
          refine aw_getr fl_S_12 kc_0 (by decide) rfl rc_0_0 d_S_heap_53 ?_
          refine aw_getr fl_S_209 kc_1 (by decide) rfl rc_1_4 d_S_heap_56 ?_
          refine aw_iload rfl d_S_heap_59 ?_
          refine aw_iald (j := 1) kc_6 (vp_in_nI (by decide) (by decide)) (nI_clamp (by decide)) d_S_heap_61 ?_
          refine aw_top (x2 := nI 0) (hh (1) (by omega)) ?_
          refine aw_iaddN d_S_heap_62 ?_
          refine aw_istore_n (lv2 := [.ref 0, .int (x), .int (nI (w1)), .int (nI (((w1 - 0) + 0))), .int (nI 1)]) rfl (by decide) rfl d_S_heap_63 ?_
          refine aw_iinc (v := nI 2) (lv2 := [.ref 0, .int (x), .int (nI (w1)), .int (nI (((w1 - 0) + 0))), .int (nI 2)]) rfl (by decide +kernel) (by decide) rfl d_S_heap_64 ?_
          refine aw_goto (tgt := 38) (by decide) d_S_heap_67 ?_
          refine aw_iload rfl d_S_heap_38 ?_
          refine aw_aload_n rfl rfl d_S_heap_40 ?_
          refine aw_getr fl_S_12 kc_0 (by decide) rfl rc_0_0 d_S_heap_41 ?_
          refine aw_getr fl_S_209 kc_1 (by decide) rfl rc_1_4 d_S_heap_44 ?_
          refine aw_alen kc_6 (by decide) d_S_heap_47 ?_
          refine aw_icmp_geI (tgt := 70) (2) (9) (by decide +kernel) (by decide +kernel) (by decide) d_S_heap_48 (fun q => absurd q (by decide)) (fun _ => ?_)
          refine aw_iload_n rfl rfl d_S_heap_51 ?_
          refine aw_aload_n rfl rfl d_S_heap_52 ?_
          refine aw_getr fl_S_12 kc_0 (by decide) rfl rc_0_0 d_S_heap_53 ?_
          refine aw_getr fl_S_209 kc_1 (by decide) rfl rc_1_4 d_S_heap_56 ?_
          refine aw_iload rfl d_S_heap_59 ?_
          refine aw_iald (j := 2) kc_6 (vp_in_nI (by decide) (by decide)) (nI_clamp (by decide)) d_S_heap_61 ?_
          refine aw_top (x2 := nI 0) (hh (2) (by omega)) ?_
          refine aw_iaddN d_S_heap_62 ?_
          refine aw_istore_n (lv2 := [.ref 0, .int (x), .int (nI (w1)), .int (nI ((((w1 - 0) + 0) + 0))), .int (nI 2)]) rfl (by decide) rfl d_S_heap_63 ?_
          refine aw_iinc (v := nI 3) (lv2 := [.ref 0, .int (x), .int (nI (w1)), .int (nI ((((w1 - 0) + 0) + 0))), .int (nI 3)]) rfl (by decide +kernel) (by decide) rfl d_S_heap_64 ?_
          refine aw_goto (tgt := 38) (by decide) d_S_heap_67 ?_
          refine aw_iload rfl d_S_heap_38 ?_
          refine aw_aload_n rfl rfl d_S_heap_40 ?_
          refine aw_getr fl_S_12 kc_0 (by decide) rfl rc_0_0 d_S_heap_41 ?_
          refine aw_getr fl_S_209 kc_1 (by decide) rfl rc_1_4 d_S_heap_44 ?_
          refine aw_alen kc_6 (by decide) d_S_heap_47 ?_
          refine aw_icmp_geI (tgt := 70) (3) (9) (by decide +kernel) (by decide +kernel) (by decide) d_S_heap_48 (fun q => absurd q (by decide)) (fun _ => ?_)
          refine aw_iload_n rfl rfl d_S_heap_51 ?_
          refine aw_aload_n rfl rfl d_S_heap_52 ?_
          refine aw_getr fl_S_12 kc_0 (by decide) rfl rc_0_0 d_S_heap_53 ?_
          refine aw_getr fl_S_209 kc_1 (by decide) rfl rc_1_4 d_S_heap_56 ?_
          refine aw_iload rfl d_S_heap_59 ?_
          refine aw_iald (j := 3) kc_6 (vp_in_nI (by decide) (by decide)) (nI_clamp (by decide)) d_S_heap_61 ?_
          refine aw_top (x2 := nI 0) (hh (3) (by omega)) ?_
          refine aw_iaddN d_S_heap_62 ?_
          refine aw_istore_n (lv2 := [.ref 0, .int (x), .int (nI (w1)), .int (nI (((((w1 - 0) + 0) + 0) + 0))), .int (nI 3)]) rfl (by decide) rfl d_S_heap_63 ?_
          refine aw_iinc (v := nI 4) (lv2 := [.ref 0, .int (x), .int (nI (w1)), .int (nI (((((w1 - 0) + 0) + 0) + 0))), .int (nI 4)]) rfl (by decide +kernel) (by decide) rfl d_S_heap_64 ?_
          refine aw_goto (tgt := 38) (by decide) d_S_heap_67 ?_
          refine aw_iload rfl d_S_heap_38 ?_
          refine aw_aload_n rfl rfl d_S_heap_40 ?_
          refine aw_getr fl_S_12 kc_0 (by decide) rfl rc_0_0 d_S_heap_41 ?_
          refine aw_getr fl_S_209 kc_1 (by decide) rfl rc_1_4 d_S_heap_44 ?_
          refine aw_alen kc_6 (by decide) d_S_heap_47 ?_
          refine aw_icmp_geI (tgt := 70) (4) (9) (by decide +kernel) (by decide +kernel) (by decide) d_S_heap_48 (fun q => absurd q (by decide)) (fun _ => ?_)
          refine aw_iload_n rfl rfl d_S_heap_51 ?_
          refine aw_aload_n rfl rfl d_S_heap_52 ?_
          refine aw_getr fl_S_12 kc_0 (by decide) rfl rc_0_0 d_S_heap_53 ?_
          refine aw_getr fl_S_209 kc_1 (by decide) rfl rc_1_4 d_S_heap_56 ?_
          refine aw_iload rfl d_S_heap_59 ?_
          refine aw_iald (j := 4) kc_6 (vp_in_nI (by decide) (by decide)) (nI_clamp (by decide)) d_S_heap_61 ?_
          refine aw_top (x2 := nI 0) (hh (4) (by omega)) ?_
          refine aw_iaddN d_S_heap_62 ?_
          refine aw_istore_n (lv2 := [.ref 0, .int (x), .int (nI (w1)), .int (nI ((((((w1 - 0) + 0) + 0) + 0) + 0))), .int (nI 4)]) rfl (by decide) rfl d_S_heap_63 ?_
          refine aw_iinc (v := nI 5) (lv2 := [.ref 0, .int (x), .int (nI (w1)), .int (nI ((((((w1 - 0) + 0) + 0) + 0) + 0))), .int (nI 5)]) rfl (by decide +kernel) (by decide) rfl d_S_heap_64 ?_
          refine aw_goto (tgt := 38) (by decide) d_S_heap_67 ?_
          refine aw_iload rfl d_S_heap_38 ?_
          refine aw_aload_n rfl rfl d_S_heap_40 ?_
          refine aw_getr fl_S_12 kc_0 (by decide) rfl rc_0_0 d_S_heap_41 ?_
          refine aw_getr fl_S_209 kc_1 (by decide) rfl rc_1_4 d_S_heap_44 ?_
          refine aw_alen kc_6 (by decide) d_S_heap_47 ?_
          refine aw_icmp_geI (tgt := 70) (5) (9) (by decide +kernel) (by decide +kernel) (by decide) d_S_heap_48 (fun q => absurd q (by decide)) (fun _ => ?_)
          refine aw_iload_n rfl rfl d_S_heap_51 ?_
          refine aw_aload_n rfl rfl d_S_heap_52 ?_
          refine aw_getr fl_S_12 kc_0 (by decide) rfl rc_0_0 d_S_heap_53 ?_
          refine aw_getr fl_S_209 kc_1 (by decide) rfl rc_1_4 d_S_heap_56 ?_
          refine aw_iload rfl d_S_heap_59 ?_
          refine aw_iald (j := 5) kc_6 (vp_in_nI (by decide) (by decide)) (nI_clamp (by decide)) d_S_heap_61 ?_
          refine aw_top (x2 := nI 0) (hh (5) (by omega)) ?_
          refine aw_iaddN d_S_heap_62 ?_
          refine aw_istore_n (lv2 := [.ref 0, .int (x), .int (nI (w1)), .int (nI (((((((w1 - 0) + 0) + 0) + 0) + 0) + 0))), .int (nI 5)]) rfl (by decide) rfl d_S_heap_63 ?_
          refine aw_iinc (v := nI 6) (lv2 := [.ref 0, .int (x), .int (nI (w1)), .int (nI (((((((w1 - 0) + 0) + 0) + 0) + 0) + 0))), .int (nI 6)]) rfl (by decide +kernel) (by decide) rfl d_S_heap_64 ?_
          refine aw_goto (tgt := 38) (by decide) d_S_heap_67 ?_
          refine aw_iload rfl d_S_heap_38 ?_
          refine aw_aload_n rfl rfl d_S_heap_40 ?_
          refine aw_getr fl_S_12 kc_0 (by decide) rfl rc_0_0 d_S_heap_41 ?_
          refine aw_getr fl_S_209 kc_1 (by decide) rfl rc_1_4 d_S_heap_44 ?_
          refine aw_alen kc_6 (by decide) d_S_heap_47 ?_
          refine aw_icmp_geI (tgt := 70) (6) (9) (by decide +kernel) (by decide +kernel) (by decide) d_S_heap_48 (fun q => absurd q (by decide)) (fun _ => ?_)
          refine aw_iload_n rfl rfl d_S_heap_51 ?_
          refine aw_aload_n rfl rfl d_S_heap_52 ?_
          refine aw_getr fl_S_12 kc_0 (by decide) rfl rc_0_0 d_S_heap_53 ?_
          refine aw_getr fl_S_209 kc_1 (by decide) rfl rc_1_4 d_S_heap_56 ?_
          refine aw_iload rfl d_S_heap_59 ?_
          refine aw_iald (j := 6) kc_6 (vp_in_nI (by decide) (by decide)) (nI_clamp (by decide)) d_S_heap_61 ?_
          refine aw_top (x2 := nI 0) (hh (6) (by omega)) ?_
          refine aw_iaddN d_S_heap_62 ?_
          refine aw_istore_n (lv2 := [.ref 0, .int (x), .int (nI (w1)), .int (nI ((((((((w1 - 0) + 0) + 0) + 0) + 0) + 0) + 0))), .int (nI 6)]) rfl (by decide) rfl d_S_heap_63 ?_
          refine aw_iinc (v := nI 7) (lv2 := [.ref 0, .int (x), .int (nI (w1)), .int (nI ((((((((w1 - 0) + 0) + 0) + 0) + 0) + 0) + 0))), .int (nI 7)]) rfl (by decide +kernel) (by decide) rfl d_S_heap_64 ?_
          refine aw_goto (tgt := 38) (by decide) d_S_heap_67 ?_
          refine aw_iload rfl d_S_heap_38 ?_
          refine aw_aload_n rfl rfl d_S_heap_40 ?_
          refine aw_getr fl_S_12 kc_0 (by decide) rfl rc_0_0 d_S_heap_41 ?_
          refine aw_getr fl_S_209 kc_1 (by decide) rfl rc_1_4 d_S_heap_44 ?_
          refine aw_alen kc_6 (by decide) d_S_heap_47 ?_
          refine aw_icmp_geI (tgt := 70) (7) (9) (by decide +kernel) (by decide +kernel) (by decide) d_S_heap_48 (fun q => absurd q (by decide)) (fun _ => ?_)
          refine aw_iload_n rfl rfl d_S_heap_51 ?_
          refine aw_aload_n rfl rfl d_S_heap_52 ?_
          refine aw_getr fl_S_12 kc_0 (by decide) rfl rc_0_0 d_S_heap_53 ?_
          refine aw_getr fl_S_209 kc_1 (by decide) rfl rc_1_4 d_S_heap_56 ?_
          refine aw_iload rfl d_S_heap_59 ?_
          refine aw_iald (j := 7) kc_6 (vp_in_nI (by decide) (by decide)) (nI_clamp (by decide)) d_S_heap_61 ?_
          refine aw_top (x2 := nI 0) (hh (7) (by omega)) ?_
          refine aw_iaddN d_S_heap_62 ?_
          refine aw_istore_n (lv2 := [.ref 0, .int (x), .int (nI (w1)), .int (nI (((((((((w1 - 0) + 0) + 0) + 0) + 0) + 0) + 0) + 0))), .int (nI 7)]) rfl (by decide) rfl d_S_heap_63 ?_
          refine aw_iinc (v := nI 8) (lv2 := [.ref 0, .int (x), .int (nI (w1)), .int (nI (((((((((w1 - 0) + 0) + 0) + 0) + 0) + 0) + 0) + 0))), .int (nI 8)]) rfl (by decide +kernel) (by decide) rfl d_S_heap_64 ?_
          refine aw_goto (tgt := 38) (by decide) d_S_heap_67 ?_
          refine aw_iload rfl d_S_heap_38 ?_
          refine aw_aload_n rfl rfl d_S_heap_40 ?_
          refine aw_getr fl_S_12 kc_0 (by decide) rfl rc_0_0 d_S_heap_41 ?_
          refine aw_getr fl_S_209 kc_1 (by decide) rfl rc_1_4 d_S_heap_44 ?_
          refine aw_alen kc_6 (by decide) d_S_heap_47 ?_
          refine aw_icmp_geI (tgt := 70) (8) (9) (by decide +kernel) (by decide +kernel) (by decide) d_S_heap_48 (fun q => absurd q (by decide)) (fun _ => ?_)
          refine aw_iload_n rfl rfl d_S_heap_51 ?_
          refine aw_aload_n rfl rfl d_S_heap_52 ?_
          refine aw_getr fl_S_12 kc_0 (by decide) rfl rc_0_0 d_S_heap_53 ?_
          refine aw_getr fl_S_209 kc_1 (by decide) rfl rc_1_4 d_S_heap_56 ?_
          refine aw_iload rfl d_S_heap_59 ?_
          refine aw_iald (j := 8) kc_6 (vp_in_nI (by decide) (by decide)) (nI_clamp (by decide)) d_S_heap_61 ?_
          refine aw_top (x2 := nI 0) (hh (8) (by omega)) ?_
          refine aw_iaddN d_S_heap_62 ?_
          refine aw_istore_n (lv2 := [.ref 0, .int (x), .int (nI (w1)), .int (nI ((((((((((w1 - 0) + 0) + 0) + 0) + 0) + 0) + 0) + 0) + 0))), .int (nI 8)]) rfl (by decide) rfl d_S_heap_63 ?_
          refine aw_iinc (v := nI 9) (lv2 := [.ref 0, .int (x), .int (nI (w1)), .int (nI ((((((((((w1 - 0) + 0) + 0) + 0) + 0) + 0) + 0) + 0) + 0))), .int (nI 9)]) rfl (by decide +kernel) (by decide) rfl d_S_heap_64 ?_
          refine aw_goto (tgt := 38) (by decide) d_S_heap_67 ?_
          refine aw_iload rfl d_S_heap_38 ?_
          refine aw_aload_n rfl rfl d_S_heap_40 ?_
          refine aw_getr fl_S_12 kc_0 (by decide) rfl rc_0_0 d_S_heap_41 ?_
          refine aw_getr fl_S_209 kc_1 (by decide) rfl rc_1_4 d_S_heap_44 ?_
          refine aw_alen kc_6 (by decide) d_S_heap_47 ?_
          refine aw_icmp_geI (tgt := 70) (9) (9) (by decide +kernel) (by decide +kernel) (by decide) d_S_heap_48 (fun _ => ?_) (fun q => absurd q (by decide))
          refine aw_iload_n rfl rfl d_S_heap_70 ?_
          refine aw_bipush (v := nI 12) cb_12 d_S_heap_71 ?_
          refine aw_icmp_leI (tgt := 78) (((((((((((w1 - 0) + 0) + 0) + 0) + 0) + 0) + 0) + 0) + 0) : Nat) : Int) (12) (nI_toInt (by omega)) (by decide +kernel) (by decide) d_S_heap_73 (fun c5 => ?_) (fun c5 => ?_)
          · refine aw_aload_n rfl rfl d_S_heap_78 ?_
            refine aw_getr fl_S_12 kc_0 (by decide) rfl rc_0_0 d_S_heap_79 ?_
            refine aw_getr fl_S_209 kc_1 (by decide) rfl rc_1_4 d_S_heap_82 ?_
            refine aw_iload_n rfl rfl d_S_heap_85 ?_
            refine aw_iload_n rfl rfl d_S_heap_86 ?_
            refine aw_iast (j := (x).toInt.toNat) kc_6 (vp_in_iff.mpr ⟨by omega, by omega⟩) rfl d_S_heap_87 ?_
            refine aw_iconst (v := nI 1) ci_1 d_S_heap_88 ?_
            exact as_retz rfl (by decide +kernel) d_S_heap_89 (h1 (by omega) _)
          · refine aw_iconst (v := nI 0) ci_0 d_S_heap_76 ?_
            exact as_retz rfl (by decide +kernel) d_S_heap_77 (h0 (by omega) _)
        · refine aw_iconst (v := nI 0) ci_0 d_S_heap_21 ?_
          exact as_retz rfl (by decide +kernel) d_S_heap_22 (h0 (by omega) _)
set_option maxRecDepth 20000 in
theorem lp_num {K2 : K2T} {I0 : Nat → Nat → Int32} {s : Nat} (hs : s ≤ 8) (hx : ∀ I', (∀ q, q ≠ 163 → I' q = I0 q) → As l b 4 y_P_numberAll KC RC K2 I' 64 [.ref 160, .ref 6, .int (nI 1), .int (nI s), .int (nI 67)] []) : ∀ (n i : Nat) (I : Nat → Nat → Int32), i + n = 67 → (∀ q, q ≠ 163 → I q = I0 q) → As l b 4 y_P_numberAll KC RC K2 (I) 27 [.ref 160, .ref 6, .int (nI 1), .int (nI (s)), .int (nI (i))] [] := by
  intro n
  induction n with
  | zero =>
    intro i I hi hfr
    refine aw_iload rfl d_P_numberAll_27 ?_
    refine aw_bipush (v := nI 67) cb_67 d_P_numberAll_29 ?_
    refine aw_icmp_geI (tgt := 64) ((i : Nat) : Int) (67) (nI_toInt (by omega)) (by decide +kernel) (by decide) d_P_numberAll_31 (fun _ => ?_) (fun q => absurd q (by omega))
    rw [show i = 67 by omega]; exact hx _ hfr
  | succ n ih =>
    intro i I hi hfr
    refine aw_iload rfl d_P_numberAll_27 ?_
    refine aw_bipush (v := nI 67) cb_67 d_P_numberAll_29 ?_
    refine aw_icmp_geI (tgt := 64) ((i : Nat) : Int) (67) (nI_toInt (by omega)) (by decide +kernel) (by decide) d_P_numberAll_31 (fun q => absurd q (by omega)) (fun _ => ?_)
    refine aw_aload_n rfl rfl d_P_numberAll_34 ?_
    refine aw_getr fl_P_18 kc_160 (by decide) rfl rc_160_3 d_P_numberAll_35 ?_
    refine aw_iload rfl d_P_numberAll_38 ?_
    refine aw_dup2 rfl rfl d_P_numberAll_40 ?_
    refine aw_iald (j := i) kc_163 (vp_in_nI (by omega) (by decide)) (nI_clamp (by omega)) d_P_numberAll_41 ?_
    refine aw_iload_n rfl rfl d_P_numberAll_42 ?_
    refine aw_aload_n rfl rfl d_P_numberAll_43 ?_
    refine aw_getr fl_P_11 kc_160 (by decide) rfl rc_160_0 d_P_numberAll_44 ?_
    refine aw_iload rfl d_P_numberAll_47 ?_
    refine aw_bipush (v := nI 9) cb_9 d_P_numberAll_49 ?_
    refine aw_imulN d_P_numberAll_51 ?_
    refine aw_iload_n rfl rfl d_P_numberAll_52 ?_
    refine aw_iaddN d_P_numberAll_53 ?_
    refine aw_iald (j := ((i * 9) + s)) kc_161 (vp_in_nI (by omega) (by decide)) (nI_clamp (by omega)) d_P_numberAll_54 ?_
    refine aw_imul d_P_numberAll_55 ?_
    refine aw_iadd d_P_numberAll_56 ?_
    refine aw_iast (j := i) kc_163 (vp_in_nI (by omega) (by decide)) (nI_clamp (by omega)) d_P_numberAll_57 ?_
    refine aw_iinc (v := nI (i + 1)) (lv2 := [.ref 160, .ref 6, .int (nI 1), .int (nI (s)), .int (nI (i + 1))]) rfl (inc_1 _) (by decide) rfl d_P_numberAll_58 ?_
    refine aw_goto (tgt := 27) (by decide) d_P_numberAll_61 ?_
    exact ih (i + 1) _ (by omega) (fun q hq => by rw [upd2_ne hq]; exact hfr q hq)
set_option maxRecDepth 20000 in
theorem lp_fill_c163 {K2 : K2T} {I : Nat → Nat → Int32} {v : Int32} (hK : K2 none (updA I 163 (fun j => if j < 67 then v else I 163 j))) : ∀ (n i : Nat), i + n = 67 → As l b 1 y_JA_fill KC RC K2 (updA I 163 (fun j => if j < i then v else I 163 j)) 5 [.ref 163, .int (v), .int (nI (i)), .int (nI 67)] [] := by
  intro n
  induction n with
  | zero =>
    intro i hi
    refine aw_iload_n rfl rfl d_JA_fill_5 ?_
    refine aw_iload_n rfl rfl d_JA_fill_6 ?_
    refine aw_icmp_geI (tgt := 20) ((i : Nat) : Int) (67) (nI_toInt (by omega)) (by decide +kernel) (by decide) d_JA_fill_7 (fun _ => ?_) (fun q => absurd q (by omega))
    exact as_retv rfl d_JA_fill_20 (by rw [show i = 67 by omega]; exact hK)
  | succ n ih =>
    intro i hi
    refine aw_iload_n rfl rfl d_JA_fill_5 ?_
    refine aw_iload_n rfl rfl d_JA_fill_6 ?_
    refine aw_icmp_geI (tgt := 20) ((i : Nat) : Int) (67) (nI_toInt (by omega)) (by decide +kernel) (by decide) d_JA_fill_7 (fun q => absurd q (by omega)) (fun _ => ?_)
    refine aw_aload_n rfl rfl d_JA_fill_10 ?_
    refine aw_iload_n rfl rfl d_JA_fill_11 ?_
    refine aw_iload_n rfl rfl d_JA_fill_12 ?_
    refine aw_iast (j := i) kc_163 (vp_in_nI (by omega) (by decide)) (nI_clamp (by omega)) d_JA_fill_13 ?_
    refine aw_iinc (v := nI (i + 1)) (lv2 := [.ref 163, .int (v), .int (nI (i + 1)), .int (nI 67)]) rfl (inc_1 _) (by decide) rfl d_JA_fill_14 ?_
    refine aw_goto (tgt := 5) (by decide) d_JA_fill_17 ?_
    rw [fill_s]; exact ih (i + 1) (by omega)
set_option maxRecDepth 20000 in
theorem sp_fill_c163 {K2 : K2T} {I : Nat → Nat → Int32} {v : Int32} (hK : K2 none (updA I 163 (fun j => if j < 67 then v else I 163 j))) : Ss l b 1 y_JA_fill KC RC [.ref 163, .int (v)] (I) K2 := by
  refine Ss.of (show As l b 1 y_JA_fill KC RC K2 (I) 0 [.ref 163, .int (v), uu, uu] [] from ?_)
  refine aw_iconst (v := nI 0) ci_0 d_JA_fill_0 ?_
  refine aw_istore_n (lv2 := [.ref 163, .int (v), .int (nI 0), uu]) rfl (by decide) rfl d_JA_fill_1 ?_
  refine aw_aload_n rfl rfl d_JA_fill_2 ?_
  refine aw_alen kc_163 (by decide) d_JA_fill_3 ?_
  refine aw_istore_n (lv2 := [.ref 163, .int (v), .int (nI 0), .int (nI 67)]) rfl (by decide) rfl d_JA_fill_4 ?_
  have h0 := lp_fill_c163 (l := l) (b := b) hK 67 0 (by omega); rw [fill_0] at h0; exact h0
set_option maxRecDepth 20000 in
theorem sp_numberAll {K2 : K2T} {I : Nat → Nat → Int32} (hh : ∀ j, j < 9 → I 6 j = nI 0) (hK : ∀ I', (∀ q, q ≠ 163 → I' q = I q) → K2 (some (.int (nI 1))) I') : Ss l b 4 y_P_numberAll KC RC [.ref 160, .ref 6] (I) K2 := by
  refine Ss.of (show As l b 4 y_P_numberAll KC RC K2 (I) 0 [.ref 160, .ref 6, uu, uu, uu] [] from ?_)
  refine aw_aload_n rfl rfl d_P_numberAll_0 ?_
  refine aw_getr fl_P_18 kc_160 (by decide) rfl rc_160_3 d_P_numberAll_1 ?_
  refine aw_iconst (v := nI 0) ci_0 d_P_numberAll_4 ?_
  refine as_callS (as := [.ref 163, .int (nI 0)]) (d' := 1) mo_JA_fill lk_P_52 rfl ⟨by decide, by decide⟩ rfl rfl (by decide) d_P_numberAll_5 (sp_fill_c163 (I := I) (v := nI 0) ?_)
  refine (show As l b 4 y_P_numberAll KC RC K2 (updA (I) 163 (fun j => if j < 67 then nI 0 else (I) 163 j)) 8 [.ref 160, .ref 6, uu, uu, uu] [] from ?_)
  refine aw_iconst (v := nI 1) ci_1 d_P_numberAll_8 ?_
  refine aw_istore_n (lv2 := [.ref 160, .ref 6, .int (nI 1), uu, uu]) rfl (by decide) rfl d_P_numberAll_9 ?_
  refine aw_iconst (v := nI 1) ci_1 d_P_numberAll_10 ?_
  refine aw_istore_n (lv2 := [.ref 160, .ref 6, .int (nI 1), .int (nI 1), uu]) rfl (by decide) rfl d_P_numberAll_11 ?_
  refine aw_iload_n rfl rfl d_P_numberAll_12 ?_
  refine aw_bipush (v := nI 8) cb_8 d_P_numberAll_13 ?_
  refine aw_icmp_gtI (tgt := 78) (1) (8) (by decide +kernel) (by decide +kernel) (by decide) d_P_numberAll_15 (fun q => absurd q (by decide)) (fun _ => ?_)
  refine aw_iload_n rfl rfl d_P_numberAll_18 ?_
  refine aw_aload_n rfl rfl d_P_numberAll_19 ?_
  refine aw_alen kc_6 (by decide) d_P_numberAll_20 ?_
  refine aw_icmp_geI (tgt := 78) (1) (9) (by decide +kernel) (by decide +kernel) (by decide) d_P_numberAll_21 (fun q => absurd q (by decide)) (fun _ => ?_)
  refine aw_iconst (v := nI 0) ci_0 d_P_numberAll_24 ?_
  refine aw_istore (lv2 := [.ref 160, .ref 6, .int (nI 1), .int (nI 1), .int (nI 0)]) (by decide) rfl d_P_numberAll_25 ?_
  refine lp_num (I0 := updA (I) 163 (fun j => if j < 67 then nI 0 else (I) 163 j)) (s := 1) (by decide) (fun I1 hf2 => ?_) 67 0 _ (by decide) (fun _ _ => rfl)
  refine (show As l b 4 y_P_numberAll KC RC K2 (I1) 64 [.ref 160, .ref 6, .int (nI 1), .int (nI 1), .int (nI 67)] [] from ?_)
  refine aw_iload_n rfl rfl d_P_numberAll_64 ?_
  refine aw_aload_n rfl rfl d_P_numberAll_65 ?_
  refine aw_iload_n rfl rfl d_P_numberAll_66 ?_
  refine aw_iald (j := 1) kc_6 (vp_in_nI (by decide) (by decide)) (nI_clamp (by decide)) d_P_numberAll_67 ?_
  refine aw_top (x2 := nI 0) (((congrFun (hf2 6 (by decide)) (1)).trans (Eq.trans (congrFun (updA_ne (by decide)) (1)) (hh (1) (by omega))))) ?_
  refine aw_iconst (v := nI 1) ci_1 d_P_numberAll_68 ?_
  refine aw_iadd d_P_numberAll_69 ?_
  refine aw_top (x2 := nI 1) (by decide +kernel) ?_
  refine aw_imul d_P_numberAll_70 ?_
  refine aw_top (x2 := nI 1) (by decide +kernel) ?_
  refine aw_istore_n (lv2 := [.ref 160, .ref 6, .int (nI 1), .int (nI 1), .int (nI 67)]) rfl (by decide) rfl d_P_numberAll_71 ?_
  refine aw_iinc (v := nI 2) (lv2 := [.ref 160, .ref 6, .int (nI 1), .int (nI 2), .int (nI 67)]) rfl (by decide +kernel) (by decide) rfl d_P_numberAll_72 ?_
  refine aw_goto (tgt := 12) (by decide) d_P_numberAll_75 ?_
  refine aw_iload_n rfl rfl d_P_numberAll_12 ?_
  refine aw_bipush (v := nI 8) cb_8 d_P_numberAll_13 ?_
  refine aw_icmp_gtI (tgt := 78) (2) (8) (by decide +kernel) (by decide +kernel) (by decide) d_P_numberAll_15 (fun q => absurd q (by decide)) (fun _ => ?_)
  refine aw_iload_n rfl rfl d_P_numberAll_18 ?_
  refine aw_aload_n rfl rfl d_P_numberAll_19 ?_
  refine aw_alen kc_6 (by decide) d_P_numberAll_20 ?_
  refine aw_icmp_geI (tgt := 78) (2) (9) (by decide +kernel) (by decide +kernel) (by decide) d_P_numberAll_21 (fun q => absurd q (by decide)) (fun _ => ?_)
  refine aw_iconst (v := nI 0) ci_0 d_P_numberAll_24 ?_
  refine aw_istore (lv2 := [.ref 160, .ref 6, .int (nI 1), .int (nI 2), .int (nI 0)]) (by decide) rfl d_P_numberAll_25 ?_
  refine lp_num (I0 := I1) (s := 2) (by decide) (fun I3 hf4 => ?_) 67 0 _ (by decide) (fun _ _ => rfl)
  refine (show As l b 4 y_P_numberAll KC RC K2 (I3) 64 [.ref 160, .ref 6, .int (nI 1), .int (nI 2), .int (nI 67)] [] from ?_)
  refine aw_iload_n rfl rfl d_P_numberAll_64 ?_
  refine aw_aload_n rfl rfl d_P_numberAll_65 ?_
  refine aw_iload_n rfl rfl d_P_numberAll_66 ?_
  refine aw_iald (j := 2) kc_6 (vp_in_nI (by decide) (by decide)) (nI_clamp (by decide)) d_P_numberAll_67 ?_
  refine aw_top (x2 := nI 0) (((congrFun (hf4 6 (by decide)) (2)).trans (((congrFun (hf2 6 (by decide)) (2)).trans (Eq.trans (congrFun (updA_ne (by decide)) (2)) (hh (2) (by omega))))))) ?_
  refine aw_iconst (v := nI 1) ci_1 d_P_numberAll_68 ?_
  refine aw_iadd d_P_numberAll_69 ?_
  refine aw_top (x2 := nI 1) (by decide +kernel) ?_
  refine aw_imul d_P_numberAll_70 ?_
  refine aw_top (x2 := nI 1) (by decide +kernel) ?_
  refine aw_istore_n (lv2 := [.ref 160, .ref 6, .int (nI 1), .int (nI 2), .int (nI 67)]) rfl (by decide) rfl d_P_numberAll_71 ?_
  refine aw_iinc (v := nI 3) (lv2 := [.ref 160, .ref 6, .int (nI 1), .int (nI 3), .int (nI 67)]) rfl (by decide +kernel) (by decide) rfl d_P_numberAll_72 ?_
  refine aw_goto (tgt := 12) (by decide) d_P_numberAll_75 ?_
  refine aw_iload_n rfl rfl d_P_numberAll_12 ?_
  refine aw_bipush (v := nI 8) cb_8 d_P_numberAll_13 ?_
  refine aw_icmp_gtI (tgt := 78) (3) (8) (by decide +kernel) (by decide +kernel) (by decide) d_P_numberAll_15 (fun q => absurd q (by decide)) (fun _ => ?_)
  refine aw_iload_n rfl rfl d_P_numberAll_18 ?_
  refine aw_aload_n rfl rfl d_P_numberAll_19 ?_
  refine aw_alen kc_6 (by decide) d_P_numberAll_20 ?_
  refine aw_icmp_geI (tgt := 78) (3) (9) (by decide +kernel) (by decide +kernel) (by decide) d_P_numberAll_21 (fun q => absurd q (by decide)) (fun _ => ?_)
  refine aw_iconst (v := nI 0) ci_0 d_P_numberAll_24 ?_
  refine aw_istore (lv2 := [.ref 160, .ref 6, .int (nI 1), .int (nI 3), .int (nI 0)]) (by decide) rfl d_P_numberAll_25 ?_
  refine lp_num (I0 := I3) (s := 3) (by decide) (fun I5 hf6 => ?_) 67 0 _ (by decide) (fun _ _ => rfl)
  refine (show As l b 4 y_P_numberAll KC RC K2 (I5) 64 [.ref 160, .ref 6, .int (nI 1), .int (nI 3), .int (nI 67)] [] from ?_)
  refine aw_iload_n rfl rfl d_P_numberAll_64 ?_
  refine aw_aload_n rfl rfl d_P_numberAll_65 ?_
  refine aw_iload_n rfl rfl d_P_numberAll_66 ?_
  refine aw_iald (j := 3) kc_6 (vp_in_nI (by decide) (by decide)) (nI_clamp (by decide)) d_P_numberAll_67 ?_
  refine aw_top (x2 := nI 0) (((congrFun (hf6 6 (by decide)) (3)).trans (((congrFun (hf4 6 (by decide)) (3)).trans (((congrFun (hf2 6 (by decide)) (3)).trans (Eq.trans (congrFun (updA_ne (by decide)) (3)) (hh (3) (by omega))))))))) ?_
  refine aw_iconst (v := nI 1) ci_1 d_P_numberAll_68 ?_
  refine aw_iadd d_P_numberAll_69 ?_
  refine aw_top (x2 := nI 1) (by decide +kernel) ?_
  refine aw_imul d_P_numberAll_70 ?_
  refine aw_top (x2 := nI 1) (by decide +kernel) ?_
  refine aw_istore_n (lv2 := [.ref 160, .ref 6, .int (nI 1), .int (nI 3), .int (nI 67)]) rfl (by decide) rfl d_P_numberAll_71 ?_
  refine aw_iinc (v := nI 4) (lv2 := [.ref 160, .ref 6, .int (nI 1), .int (nI 4), .int (nI 67)]) rfl (by decide +kernel) (by decide) rfl d_P_numberAll_72 ?_
  refine aw_goto (tgt := 12) (by decide) d_P_numberAll_75 ?_
  refine aw_iload_n rfl rfl d_P_numberAll_12 ?_
  refine aw_bipush (v := nI 8) cb_8 d_P_numberAll_13 ?_
  refine aw_icmp_gtI (tgt := 78) (4) (8) (by decide +kernel) (by decide +kernel) (by decide) d_P_numberAll_15 (fun q => absurd q (by decide)) (fun _ => ?_)
  refine aw_iload_n rfl rfl d_P_numberAll_18 ?_
  refine aw_aload_n rfl rfl d_P_numberAll_19 ?_
  refine aw_alen kc_6 (by decide) d_P_numberAll_20 ?_
  refine aw_icmp_geI (tgt := 78) (4) (9) (by decide +kernel) (by decide +kernel) (by decide) d_P_numberAll_21 (fun q => absurd q (by decide)) (fun _ => ?_)
  refine aw_iconst (v := nI 0) ci_0 d_P_numberAll_24 ?_
  refine aw_istore (lv2 := [.ref 160, .ref 6, .int (nI 1), .int (nI 4), .int (nI 0)]) (by decide) rfl d_P_numberAll_25 ?_
  refine lp_num (I0 := I5) (s := 4) (by decide) (fun I7 hf8 => ?_) 67 0 _ (by decide) (fun _ _ => rfl)
  refine (show As l b 4 y_P_numberAll KC RC K2 (I7) 64 [.ref 160, .ref 6, .int (nI 1), .int (nI 4), .int (nI 67)] [] from ?_)
  refine aw_iload_n rfl rfl d_P_numberAll_64 ?_
  refine aw_aload_n rfl rfl d_P_numberAll_65 ?_
  refine aw_iload_n rfl rfl d_P_numberAll_66 ?_
  refine aw_iald (j := 4) kc_6 (vp_in_nI (by decide) (by decide)) (nI_clamp (by decide)) d_P_numberAll_67 ?_
  refine aw_top (x2 := nI 0) (((congrFun (hf8 6 (by decide)) (4)).trans (((congrFun (hf6 6 (by decide)) (4)).trans (((congrFun (hf4 6 (by decide)) (4)).trans (((congrFun (hf2 6 (by decide)) (4)).trans (Eq.trans (congrFun (updA_ne (by decide)) (4)) (hh (4) (by omega))))))))))) ?_
  refine aw_iconst (v := nI 1) ci_1 d_P_numberAll_68 ?_
  refine aw_iadd d_P_numberAll_69 ?_
  refine aw_top (x2 := nI 1) (by decide +kernel) ?_
  refine aw_imul d_P_numberAll_70 ?_
  refine aw_top (x2 := nI 1) (by decide +kernel) ?_
  refine aw_istore_n (lv2 := [.ref 160, .ref 6, .int (nI 1), .int (nI 4), .int (nI 67)]) rfl (by decide) rfl d_P_numberAll_71 ?_
  refine aw_iinc (v := nI 5) (lv2 := [.ref 160, .ref 6, .int (nI 1), .int (nI 5), .int (nI 67)]) rfl (by decide +kernel) (by decide) rfl d_P_numberAll_72 ?_
  refine aw_goto (tgt := 12) (by decide) d_P_numberAll_75 ?_
  refine aw_iload_n rfl rfl d_P_numberAll_12 ?_
  refine aw_bipush (v := nI 8) cb_8 d_P_numberAll_13 ?_
  refine aw_icmp_gtI (tgt := 78) (5) (8) (by decide +kernel) (by decide +kernel) (by decide) d_P_numberAll_15 (fun q => absurd q (by decide)) (fun _ => ?_)
  refine aw_iload_n rfl rfl d_P_numberAll_18 ?_
  refine aw_aload_n rfl rfl d_P_numberAll_19 ?_
  refine aw_alen kc_6 (by decide) d_P_numberAll_20 ?_
  refine aw_icmp_geI (tgt := 78) (5) (9) (by decide +kernel) (by decide +kernel) (by decide) d_P_numberAll_21 (fun q => absurd q (by decide)) (fun _ => ?_)
  refine aw_iconst (v := nI 0) ci_0 d_P_numberAll_24 ?_
  refine aw_istore (lv2 := [.ref 160, .ref 6, .int (nI 1), .int (nI 5), .int (nI 0)]) (by decide) rfl d_P_numberAll_25 ?_
  refine lp_num (I0 := I7) (s := 5) (by decide) (fun I9 hf10 => ?_) 67 0 _ (by decide) (fun _ _ => rfl)
  refine (show As l b 4 y_P_numberAll KC RC K2 (I9) 64 [.ref 160, .ref 6, .int (nI 1), .int (nI 5), .int (nI 67)] [] from ?_)
  refine aw_iload_n rfl rfl d_P_numberAll_64 ?_
  refine aw_aload_n rfl rfl d_P_numberAll_65 ?_
  refine aw_iload_n rfl rfl d_P_numberAll_66 ?_
  refine aw_iald (j := 5) kc_6 (vp_in_nI (by decide) (by decide)) (nI_clamp (by decide)) d_P_numberAll_67 ?_
  refine aw_top (x2 := nI 0) (((congrFun (hf10 6 (by decide)) (5)).trans (((congrFun (hf8 6 (by decide)) (5)).trans (((congrFun (hf6 6 (by decide)) (5)).trans (((congrFun (hf4 6 (by decide)) (5)).trans (((congrFun (hf2 6 (by decide)) (5)).trans (Eq.trans (congrFun (updA_ne (by decide)) (5)) (hh (5) (by omega))))))))))))) ?_
  refine aw_iconst (v := nI 1) ci_1 d_P_numberAll_68 ?_
  refine aw_iadd d_P_numberAll_69 ?_
  refine aw_top (x2 := nI 1) (by decide +kernel) ?_
  refine aw_imul d_P_numberAll_70 ?_
  refine aw_top (x2 := nI 1) (by decide +kernel) ?_
  refine aw_istore_n (lv2 := [.ref 160, .ref 6, .int (nI 1), .int (nI 5), .int (nI 67)]) rfl (by decide) rfl d_P_numberAll_71 ?_
  refine aw_iinc (v := nI 6) (lv2 := [.ref 160, .ref 6, .int (nI 1), .int (nI 6), .int (nI 67)]) rfl (by decide +kernel) (by decide) rfl d_P_numberAll_72 ?_
  refine aw_goto (tgt := 12) (by decide) d_P_numberAll_75 ?_
  refine aw_iload_n rfl rfl d_P_numberAll_12 ?_
  refine aw_bipush (v := nI 8) cb_8 d_P_numberAll_13 ?_
  refine aw_icmp_gtI (tgt := 78) (6) (8) (by decide +kernel) (by decide +kernel) (by decide) d_P_numberAll_15 (fun q => absurd q (by decide)) (fun _ => ?_)
  refine aw_iload_n rfl rfl d_P_numberAll_18 ?_
  refine aw_aload_n rfl rfl d_P_numberAll_19 ?_
  refine aw_alen kc_6 (by decide) d_P_numberAll_20 ?_
  refine aw_icmp_geI (tgt := 78) (6) (9) (by decide +kernel) (by decide +kernel) (by decide) d_P_numberAll_21 (fun q => absurd q (by decide)) (fun _ => ?_)
  refine aw_iconst (v := nI 0) ci_0 d_P_numberAll_24 ?_
  refine aw_istore (lv2 := [.ref 160, .ref 6, .int (nI 1), .int (nI 6), .int (nI 0)]) (by decide) rfl d_P_numberAll_25 ?_
  refine lp_num (I0 := I9) (s := 6) (by decide) (fun I11 hf12 => ?_) 67 0 _ (by decide) (fun _ _ => rfl)
  refine (show As l b 4 y_P_numberAll KC RC K2 (I11) 64 [.ref 160, .ref 6, .int (nI 1), .int (nI 6), .int (nI 67)] [] from ?_)
  refine aw_iload_n rfl rfl d_P_numberAll_64 ?_
  refine aw_aload_n rfl rfl d_P_numberAll_65 ?_
  refine aw_iload_n rfl rfl d_P_numberAll_66 ?_
  refine aw_iald (j := 6) kc_6 (vp_in_nI (by decide) (by decide)) (nI_clamp (by decide)) d_P_numberAll_67 ?_
  refine aw_top (x2 := nI 0) (((congrFun (hf12 6 (by decide)) (6)).trans (((congrFun (hf10 6 (by decide)) (6)).trans (((congrFun (hf8 6 (by decide)) (6)).trans (((congrFun (hf6 6 (by decide)) (6)).trans (((congrFun (hf4 6 (by decide)) (6)).trans (((congrFun (hf2 6 (by decide)) (6)).trans (Eq.trans (congrFun (updA_ne (by decide)) (6)) (hh (6) (by omega))))))))))))))) ?_
  refine aw_iconst (v := nI 1) ci_1 d_P_numberAll_68 ?_
  refine aw_iadd d_P_numberAll_69 ?_
  refine aw_top (x2 := nI 1) (by decide +kernel) ?_
  refine aw_imul d_P_numberAll_70 ?_
  refine aw_top (x2 := nI 1) (by decide +kernel) ?_
  refine aw_istore_n (lv2 := [.ref 160, .ref 6, .int (nI 1), .int (nI 6), .int (nI 67)]) rfl (by decide) rfl d_P_numberAll_71 ?_
  refine aw_iinc (v := nI 7) (lv2 := [.ref 160, .ref 6, .int (nI 1), .int (nI 7), .int (nI 67)]) rfl (by decide +kernel) (by decide) rfl d_P_numberAll_72 ?_
  refine aw_goto (tgt := 12) (by decide) d_P_numberAll_75 ?_
  refine aw_iload_n rfl rfl d_P_numberAll_12 ?_
  refine aw_bipush (v := nI 8) cb_8 d_P_numberAll_13 ?_
  refine aw_icmp_gtI (tgt := 78) (7) (8) (by decide +kernel) (by decide +kernel) (by decide) d_P_numberAll_15 (fun q => absurd q (by decide)) (fun _ => ?_)
  refine aw_iload_n rfl rfl d_P_numberAll_18 ?_
  refine aw_aload_n rfl rfl d_P_numberAll_19 ?_
  refine aw_alen kc_6 (by decide) d_P_numberAll_20 ?_
  refine aw_icmp_geI (tgt := 78) (7) (9) (by decide +kernel) (by decide +kernel) (by decide) d_P_numberAll_21 (fun q => absurd q (by decide)) (fun _ => ?_)
  refine aw_iconst (v := nI 0) ci_0 d_P_numberAll_24 ?_
  refine aw_istore (lv2 := [.ref 160, .ref 6, .int (nI 1), .int (nI 7), .int (nI 0)]) (by decide) rfl d_P_numberAll_25 ?_
  refine lp_num (I0 := I11) (s := 7) (by decide) (fun I13 hf14 => ?_) 67 0 _ (by decide) (fun _ _ => rfl)
  refine (show As l b 4 y_P_numberAll KC RC K2 (I13) 64 [.ref 160, .ref 6, .int (nI 1), .int (nI 7), .int (nI 67)] [] from ?_)
  refine aw_iload_n rfl rfl d_P_numberAll_64 ?_
  refine aw_aload_n rfl rfl d_P_numberAll_65 ?_
  refine aw_iload_n rfl rfl d_P_numberAll_66 ?_
  refine aw_iald (j := 7) kc_6 (vp_in_nI (by decide) (by decide)) (nI_clamp (by decide)) d_P_numberAll_67 ?_
  refine aw_top (x2 := nI 0) (((congrFun (hf14 6 (by decide)) (7)).trans (((congrFun (hf12 6 (by decide)) (7)).trans (((congrFun (hf10 6 (by decide)) (7)).trans (((congrFun (hf8 6 (by decide)) (7)).trans (((congrFun (hf6 6 (by decide)) (7)).trans (((congrFun (hf4 6 (by decide)) (7)).trans (((congrFun (hf2 6 (by decide)) (7)).trans (Eq.trans (congrFun (updA_ne (by decide)) (7)) (hh (7) (by omega))))))))))))))))) ?_
  refine aw_iconst (v := nI 1) ci_1 d_P_numberAll_68 ?_
  refine aw_iadd d_P_numberAll_69 ?_
  refine aw_top (x2 := nI 1) (by decide +kernel) ?_
  refine aw_imul d_P_numberAll_70 ?_
  refine aw_top (x2 := nI 1) (by decide +kernel) ?_
  refine aw_istore_n (lv2 := [.ref 160, .ref 6, .int (nI 1), .int (nI 7), .int (nI 67)]) rfl (by decide) rfl d_P_numberAll_71 ?_
  refine aw_iinc (v := nI 8) (lv2 := [.ref 160, .ref 6, .int (nI 1), .int (nI 8), .int (nI 67)]) rfl (by decide +kernel) (by decide) rfl d_P_numberAll_72 ?_
  refine aw_goto (tgt := 12) (by decide) d_P_numberAll_75 ?_
  refine aw_iload_n rfl rfl d_P_numberAll_12 ?_
  refine aw_bipush (v := nI 8) cb_8 d_P_numberAll_13 ?_
  refine aw_icmp_gtI (tgt := 78) (8) (8) (by decide +kernel) (by decide +kernel) (by decide) d_P_numberAll_15 (fun q => absurd q (by decide)) (fun _ => ?_)
  refine aw_iload_n rfl rfl d_P_numberAll_18 ?_
  refine aw_aload_n rfl rfl d_P_numberAll_19 ?_
  refine aw_alen kc_6 (by decide) d_P_numberAll_20 ?_
  refine aw_icmp_geI (tgt := 78) (8) (9) (by decide +kernel) (by decide +kernel) (by decide) d_P_numberAll_21 (fun q => absurd q (by decide)) (fun _ => ?_)
  refine aw_iconst (v := nI 0) ci_0 d_P_numberAll_24 ?_
  refine aw_istore (lv2 := [.ref 160, .ref 6, .int (nI 1), .int (nI 8), .int (nI 0)]) (by decide) rfl d_P_numberAll_25 ?_
  refine lp_num (I0 := I13) (s := 8) (by decide) (fun I15 hf16 => ?_) 67 0 _ (by decide) (fun _ _ => rfl)
  refine (show As l b 4 y_P_numberAll KC RC K2 (I15) 64 [.ref 160, .ref 6, .int (nI 1), .int (nI 8), .int (nI 67)] [] from ?_)
  refine aw_iload_n rfl rfl d_P_numberAll_64 ?_
  refine aw_aload_n rfl rfl d_P_numberAll_65 ?_
  refine aw_iload_n rfl rfl d_P_numberAll_66 ?_
  refine aw_iald (j := 8) kc_6 (vp_in_nI (by decide) (by decide)) (nI_clamp (by decide)) d_P_numberAll_67 ?_
  refine aw_top (x2 := nI 0) (((congrFun (hf16 6 (by decide)) (8)).trans (((congrFun (hf14 6 (by decide)) (8)).trans (((congrFun (hf12 6 (by decide)) (8)).trans (((congrFun (hf10 6 (by decide)) (8)).trans (((congrFun (hf8 6 (by decide)) (8)).trans (((congrFun (hf6 6 (by decide)) (8)).trans (((congrFun (hf4 6 (by decide)) (8)).trans (((congrFun (hf2 6 (by decide)) (8)).trans (Eq.trans (congrFun (updA_ne (by decide)) (8)) (hh (8) (by omega))))))))))))))))))) ?_
  refine aw_iconst (v := nI 1) ci_1 d_P_numberAll_68 ?_
  refine aw_iadd d_P_numberAll_69 ?_
  refine aw_top (x2 := nI 1) (by decide +kernel) ?_
  refine aw_imul d_P_numberAll_70 ?_
  refine aw_top (x2 := nI 1) (by decide +kernel) ?_
  refine aw_istore_n (lv2 := [.ref 160, .ref 6, .int (nI 1), .int (nI 8), .int (nI 67)]) rfl (by decide) rfl d_P_numberAll_71 ?_
  refine aw_iinc (v := nI 9) (lv2 := [.ref 160, .ref 6, .int (nI 1), .int (nI 9), .int (nI 67)]) rfl (by decide +kernel) (by decide) rfl d_P_numberAll_72 ?_
  refine aw_goto (tgt := 12) (by decide) d_P_numberAll_75 ?_
  refine aw_iload_n rfl rfl d_P_numberAll_12 ?_
  refine aw_bipush (v := nI 8) cb_8 d_P_numberAll_13 ?_
  refine aw_icmp_gtI (tgt := 78) (9) (8) (by decide +kernel) (by decide +kernel) (by decide) d_P_numberAll_15 (fun _ => ?_) (fun q => absurd q (by decide))
  refine aw_iload_n rfl rfl d_P_numberAll_78 ?_
  exact as_reti rfl d_P_numberAll_79 (hK _ (fun q hq => by rw [hf16 q hq]; rw [hf14 q hq]; rw [hf12 q hq]; rw [hf10 q hq]; rw [hf8 q hq]; rw [hf6 q hq]; rw [hf4 q hq]; rw [hf2 q hq]; unfold updA; rw [if_neg hq]))
set_option maxRecDepth 20000 in
theorem lp_fill_c165 {K2 : K2T} {I : Nat → Nat → Int32} {v : Int32} (hK : K2 none (updA I 165 (fun j => if j < 9 then v else I 165 j))) : ∀ (n i : Nat), i + n = 9 → As l b 1 y_JA_fill KC RC K2 (updA I 165 (fun j => if j < i then v else I 165 j)) 5 [.ref 165, .int (v), .int (nI (i)), .int (nI 9)] [] := by
  intro n
  induction n with
  | zero =>
    intro i hi
    refine aw_iload_n rfl rfl d_JA_fill_5 ?_
    refine aw_iload_n rfl rfl d_JA_fill_6 ?_
    refine aw_icmp_geI (tgt := 20) ((i : Nat) : Int) (9) (nI_toInt (by omega)) (by decide +kernel) (by decide) d_JA_fill_7 (fun _ => ?_) (fun q => absurd q (by omega))
    exact as_retv rfl d_JA_fill_20 (by rw [show i = 9 by omega]; exact hK)
  | succ n ih =>
    intro i hi
    refine aw_iload_n rfl rfl d_JA_fill_5 ?_
    refine aw_iload_n rfl rfl d_JA_fill_6 ?_
    refine aw_icmp_geI (tgt := 20) ((i : Nat) : Int) (9) (nI_toInt (by omega)) (by decide +kernel) (by decide) d_JA_fill_7 (fun q => absurd q (by omega)) (fun _ => ?_)
    refine aw_aload_n rfl rfl d_JA_fill_10 ?_
    refine aw_iload_n rfl rfl d_JA_fill_11 ?_
    refine aw_iload_n rfl rfl d_JA_fill_12 ?_
    refine aw_iast (j := i) kc_165 (vp_in_nI (by omega) (by decide)) (nI_clamp (by omega)) d_JA_fill_13 ?_
    refine aw_iinc (v := nI (i + 1)) (lv2 := [.ref 165, .int (v), .int (nI (i + 1)), .int (nI 9)]) rfl (inc_1 _) (by decide) rfl d_JA_fill_14 ?_
    refine aw_goto (tgt := 5) (by decide) d_JA_fill_17 ?_
    rw [fill_s]; exact ih (i + 1) (by omega)
set_option maxRecDepth 20000 in
theorem sp_fill_c165 {K2 : K2T} {I : Nat → Nat → Int32} {v : Int32} (hK : K2 none (updA I 165 (fun j => if j < 9 then v else I 165 j))) : Ss l b 1 y_JA_fill KC RC [.ref 165, .int (v)] (I) K2 := by
  refine Ss.of (show As l b 1 y_JA_fill KC RC K2 (I) 0 [.ref 165, .int (v), uu, uu] [] from ?_)
  refine aw_iconst (v := nI 0) ci_0 d_JA_fill_0 ?_
  refine aw_istore_n (lv2 := [.ref 165, .int (v), .int (nI 0), uu]) rfl (by decide) rfl d_JA_fill_1 ?_
  refine aw_aload_n rfl rfl d_JA_fill_2 ?_
  refine aw_alen kc_165 (by decide) d_JA_fill_3 ?_
  refine aw_istore_n (lv2 := [.ref 165, .int (v), .int (nI 0), .int (nI 9)]) rfl (by decide) rfl d_JA_fill_4 ?_
  have h0 := lp_fill_c165 (l := l) (b := b) hK 9 0 (by omega); rw [fill_0] at h0; exact h0
set_option maxRecDepth 20000 in
theorem cs_fewest {K2 : K2T} {I : Nat → Nat → Int32} (hR : FRc I) {x : Int32} (hg : 0 ≤ x.toInt ∧ x.toInt ≤ 8 → ∀ I', K2 (some (.int (nI 0))) I') (hb : ¬ (0 ≤ x.toInt ∧ x.toInt ≤ 8) → ∀ I', K2 (some (.int (-1))) I') : Ss l b 14 y_S_fewest KC RC [.ref 0, .int (x)] (I) K2 := by
  obtain ⟨hF, r6, r7, r11, t1, t2, t4, hh, tm, h7, h8, h9, q1, q10, q11, im, p0⟩ := hR
  have hF0 := hF
  obtain ⟨f0, f1, f2, f3, f4, f5, f6, f7, f8, f9, f10, f11, f12, f13, fb⟩ := hF
  have f0 : ∀ j, j < 32 → I 5 j = nI 0 := f0
  have f1 : ∀ j, j < 6 → I 9 j = nI 0 := f1
  have f2 : ∀ j, j < 6 → I 10 j = nI 9 := f2
  have f3 : I 2 0 = nI (4) := f3
  have f4 : I 2 3 = nI 0 := f4
  have f5 : I 2 5 = nI (0) := f5
  have f6 : I 11 1 = nI (0) := f6
  have f7 : I 11 0 = nI (0) := f7
  have f8 : ∀ j, j < 40 → j ≠ 0 → j ≠ 1 → j ≠ 3 → I 11 j = nI 0 := f8
  have f9 : I 16 4 = nI 0 := f9
  have f10 : I 21 4 = nI 0 := f10
  have f11 : I 26 4 = nI 0 := f11
  have f12 : I 31 4 = nI 0 := f12
  have f13 : I 36 4 = nI 0 := f13
  refine Ss.of (show As l b 14 y_S_fewest KC RC K2 (I) 0 [.ref 0, .int (x), uu] [] from ?_)
  refine aw_iload_n rfl rfl d_S_fewest_0 ?_
  refine aw_if_ltI (tgt := 10) (x).toInt rfl (by decide) d_S_fewest_1 (fun c1 => ?_) (fun c1 => ?_)
  · refine aw_iconst (v := (-1 : Int32)) rfl d_S_fewest_10 ?_
    exact as_reti rfl d_S_fewest_11 (hb (by omega) _)
  · refine aw_iload_n rfl rfl d_S_fewest_4 ?_
    refine aw_bipush (v := nI 8) cb_8 d_S_fewest_5 ?_
    refine aw_icmp_leI (tgt := 12) (x).toInt (8) rfl (by decide +kernel) (by decide) d_S_fewest_7 (fun c2 => ?_) (fun c2 => ?_)
    · refine aw_aload_n rfl rfl d_S_fewest_12 ?_
      refine aw_getr fl_S_53 kc_0 (by decide) rfl rc_0_7 d_S_fewest_13 ?_
      refine aw_aload_n rfl rfl d_S_fewest_16 ?_
      refine aw_getr fl_S_12 kc_0 (by decide) rfl rc_0_0 d_S_fewest_17 ?_
      refine aw_getr fl_S_209 kc_1 (by decide) rfl rc_1_4 d_S_fewest_20 ?_
      refine aw_aload_n rfl rfl d_S_fewest_23 ?_
      refine aw_getr fl_S_12 kc_0 (by decide) rfl rc_0_0 d_S_fewest_24 ?_
      refine aw_getr fl_S_65 kc_1 (by decide) rfl rc_1_0 d_S_fewest_27 ?_
      refine aw_iconst (v := nI 0) ci_0 d_S_fewest_30 ?_
      refine aw_iald (j := 0) kc_2 (vp_in_nI (by decide) (by decide)) (nI_clamp (by decide)) d_S_fewest_31 ?_
      refine aw_top (x2 := nI 4) (f3) ?_
      refine as_callV (as := [.ref 6, .int (nI 4)]) (d' := 13) (q := ("SinglesUp$Packer", zT6, 7)) mo_P_pack lk_S_212 kc_160 rfl rfl rfl ⟨by decide, by decide⟩ rfl rfl (by decide) d_S_fewest_32 (Ss.of (show As l b 13 y_P_pack KC RC _ (I) 0 [.ref 160, .ref 6, .int (nI 4), uu, uu, uu] [] from ?_))
      refine aw_aload_n rfl rfl d_P_pack_0 ?_
      refine aw_aload_n rfl rfl d_P_pack_1 ?_
      refine as_callV (as := [.ref 6]) (d' := 4) (q := ("SinglesUp$Packer", zT6, 7)) mo_P_numberAll lk_P_48 kc_160 rfl rfl rfl ⟨by decide, by decide⟩ rfl rfl (by decide) d_P_pack_2 (sp_numberAll (I := I) (fun j hj => (hh (j) (by omega))) (fun I3 hf4 => ?_))
      refine (show As l b 13 y_P_pack KC RC _ (I3) 5 [.ref 160, .ref 6, .int (nI 4), uu, uu, uu] [.int (nI 1)] from ?_)
      refine aw_istore_n (lv2 := [.ref 160, .ref 6, .int (nI 4), .int (nI 1), uu, uu]) rfl (by decide) rfl d_P_pack_5 ?_
      refine aw_aload_n rfl rfl d_P_pack_6 ?_
      refine aw_getr fl_P_24 kc_160 (by decide) rfl rc_160_5 d_P_pack_7 ?_
      refine aw_iconst (v := nI 0) ci_0 d_P_pack_10 ?_
      refine as_callS (as := [.ref 165, .int (nI 0)]) (d' := 1) mo_JA_fill lk_P_52 rfl ⟨by decide, by decide⟩ rfl rfl (by decide) d_P_pack_11 (sp_fill_c165 (I := I3) (v := nI 0) ?_)
      refine (show As l b 13 y_P_pack KC RC _ (updA (I3) 165 (fun j => if j < 9 then nI 0 else (I3) 165 j)) 14 [.ref 160, .ref 6, .int (nI 4), .int (nI 1), uu, uu] [] from ?_)
      refine aw_aload_n rfl rfl d_P_pack_14 ?_
      refine aw_iconst (v := (-1 : Int32)) rfl d_P_pack_15 ?_
      refine aw_puti fl_P_27 kc_160 (by decide) rfl rfl rfl rfl d_P_pack_16 ?_
      refine aw_iconst (v := nI 1) ci_1 d_P_pack_19 ?_
      refine aw_istore (lv2 := [.ref 160, .ref 6, .int (nI 4), .int (nI 1), .int (nI 1), uu]) (by decide) rfl d_P_pack_20 ?_
      refine aw_iload rfl d_P_pack_22 ?_
      refine aw_iload_n rfl rfl d_P_pack_24 ?_
      refine aw_icmp_geI (tgt := 115) (1) (1) (by decide +kernel) (by decide +kernel) (by decide) d_P_pack_25 (fun _ => ?_) (fun q => absurd q (by decide))
      refine aw_iload_n rfl rfl d_P_pack_115 ?_
      refine aw_iconst (v := nI 1) ci_1 d_P_pack_116 ?_
      refine aw_icmp_ltI (tgt := 138) (1) (1) (by decide +kernel) (by decide +kernel) (by decide) d_P_pack_117 (fun q => absurd q (by decide)) (fun _ => ?_)
      refine aw_iload_n rfl rfl d_P_pack_120 ?_
      refine aw_sipush (v := nI 1296) cs_1296 d_P_pack_121 ?_
      refine aw_icmp_gtI (tgt := 138) (1) (1296) (by decide +kernel) (by decide +kernel) (by decide) d_P_pack_124 (fun q => absurd q (by decide)) (fun _ => ?_)
      refine aw_aload_n rfl rfl d_P_pack_127 ?_
      refine aw_getr fl_P_21 kc_160 (by decide) rfl rc_160_4 d_P_pack_128 ?_
      refine aw_iload_n rfl rfl d_P_pack_131 ?_
      refine aw_iconst (v := nI 1) ci_1 d_P_pack_132 ?_
      refine aw_isub d_P_pack_133 ?_
      refine aw_top (x2 := nI 0) (by decide +kernel) ?_
      refine aw_iald (j := 0) kc_164 (vp_in_nI (by decide) (by decide)) (nI_clamp (by decide)) d_P_pack_134 ?_
      refine aw_top (x2 := nI 0) (Eq.trans (congrFun (upd2_ne (by decide)) (0)) (Eq.trans (congrFun (updA_ne (by decide)) (0)) (((congrFun (hf4 164 (by decide)) (0)).trans (p0))))) ?_
      refine aw_goto (tgt := 139) (by decide) d_P_pack_135 ?_
      refine as_reti rfl d_P_pack_139 ?_
      refine (show As l b 14 y_S_fewest KC RC K2 (upd2 (updA (I3) 165 (fun j => if j < 9 then nI 0 else (I3) 165 j)) 160 6 ((-1 : Int32))) 35 [.ref 0, .int (x), uu] [.int (nI 0)] from ?_)
      refine aw_istore_n (lv2 := [.ref 0, .int (x), .int (nI 0)]) rfl (by decide) rfl d_S_fewest_35 ?_
      refine aw_iload_n rfl rfl d_S_fewest_36 ?_
      refine aw_if_eqI (tgt := 45) (x).toInt rfl (by decide) d_S_fewest_37 (fun c5 => ?_) (fun c5 => ?_)
      · refine aw_iload_n rfl rfl d_S_fewest_45 ?_
        refine aw_goto (tgt := 57) (by decide) d_S_fewest_46 ?_
        exact as_reti rfl d_S_fewest_57 (hg (by omega) _)
      · refine aw_iload_n rfl rfl d_S_fewest_40 ?_
        refine aw_iconst (v := (-1 : Int32)) rfl d_S_fewest_41 ?_
        refine aw_icmp_neI (tgt := 49) (0) (-1) (by decide +kernel) (by decide +kernel) (by decide) d_S_fewest_42 (fun _ => ?_) (fun q => absurd q (by decide))
        refine aw_aload_n rfl rfl d_S_fewest_49 ?_
        refine aw_getr fl_S_53 kc_0 (by decide) rfl rc_0_7 d_S_fewest_50 ?_
        refine aw_iload_n rfl rfl d_S_fewest_53 ?_
        refine as_callV (as := [.int (x)]) (d' := 13) (q := ("SinglesUp$Packer", zT6, 7)) mo_P_inFirst lk_S_216 kc_160 rfl rfl rfl ⟨by decide, by decide⟩ rfl rfl (by decide) d_S_fewest_54 (Ss.of (show As l b 13 y_P_inFirst KC RC _ (upd2 (updA (I3) 165 (fun j => if j < 9 then nI 0 else (I3) 165 j)) 160 6 ((-1 : Int32))) 0 [.ref 160, .int (x), uu] [] from ?_))
        refine aw_aload_n rfl rfl d_P_inFirst_0 ?_
        refine aw_geti fl_P_27 kc_160 (by decide) rfl d_P_inFirst_1 ?_
        refine aw_top (x2 := (-1 : Int32)) (upd2_eq) ?_
        refine aw_if_ltI (tgt := 31) (-1) (by decide +kernel) (by decide) d_P_inFirst_4 (fun _ => ?_) (fun q => absurd q (by decide))
        refine aw_iconst (v := nI 0) ci_0 d_P_inFirst_31 ?_
        refine aw_istore_n (lv2 := [.ref 160, .int (x), .int (nI 0)]) rfl (by decide) rfl d_P_inFirst_32 ?_
        refine aw_iload_n rfl rfl d_P_inFirst_33 ?_
        refine aw_if_eqI (tgt := 54) (0) (by decide +kernel) (by decide) d_P_inFirst_34 (fun _ => ?_) (fun q => absurd q (by decide))
        refine aw_iconst (v := nI 0) ci_0 d_P_inFirst_54 ?_
        refine as_reti rfl d_P_inFirst_55 ?_
        refine (show As l b 14 y_S_fewest KC RC K2 (upd2 (updA (I3) 165 (fun j => if j < 9 then nI 0 else (I3) 165 j)) 160 6 ((-1 : Int32))) 57 [.ref 0, .int (x), .int (nI 0)] [.int (nI 0)] from ?_)
        exact as_reti rfl d_S_fewest_57 (hg (by omega) _)
    · refine aw_iconst (v := (-1 : Int32)) rfl d_S_fewest_10 ?_
      exact as_reti rfl d_S_fewest_11 (hb (by omega) _)
set_option maxRecDepth 20000 in
theorem cs_till {K2 : K2T} {I : Nat → Nat → Int32} (hR : FRc I) {x z : Int32} (hK : ∀ I', K2 (some (.int (-1))) I') : Ss l b 14 y_S_till KC RC [.ref 0, .int (x), .int (z)] (I) K2 := by
  obtain ⟨hF, r6, r7, r11, t1, t2, t4, hh, tm, h7, h8, h9, q1, q10, q11, im, p0⟩ := hR
  have hF0 := hF
  obtain ⟨f0, f1, f2, f3, f4, f5, f6, f7, f8, f9, f10, f11, f12, f13, fb⟩ := hF
  have f0 : ∀ j, j < 32 → I 5 j = nI 0 := f0
  have f1 : ∀ j, j < 6 → I 9 j = nI 0 := f1
  have f2 : ∀ j, j < 6 → I 10 j = nI 9 := f2
  have f3 : I 2 0 = nI (4) := f3
  have f4 : I 2 3 = nI 0 := f4
  have f5 : I 2 5 = nI (0) := f5
  have f6 : I 11 1 = nI (0) := f6
  have f7 : I 11 0 = nI (0) := f7
  have f8 : ∀ j, j < 40 → j ≠ 0 → j ≠ 1 → j ≠ 3 → I 11 j = nI 0 := f8
  have f9 : I 16 4 = nI 0 := f9
  have f10 : I 21 4 = nI 0 := f10
  have f11 : I 26 4 = nI 0 := f11
  have f12 : I 31 4 = nI 0 := f12
  have f13 : I 36 4 = nI 0 := f13
  refine Ss.of (show As l b 14 y_S_till KC RC K2 (I) 0 [.ref 0, .int (x), .int (z)] [] from ?_)
  refine aw_aload_n rfl rfl d_S_till_0 ?_
  refine aw_getr fl_S_12 kc_0 (by decide) rfl rc_0_0 d_S_till_1 ?_
  refine aw_getr fl_S_77 kc_1 (by decide) rfl rc_1_5 d_S_till_4 ?_
  refine aw_iload_n rfl rfl d_S_till_7 ?_
  refine aw_iload_n rfl rfl d_S_till_8 ?_
  refine as_callV (as := [.int (x), .int (z)]) (d' := 13) (q := ("SinglesUp$Lines", zT4, 3)) mo_L_has lk_S_144 kc_7 rfl rfl rfl ⟨by decide, by decide⟩ rfl rfl (by decide) d_S_till_9 (Ss.of (show As l b 13 y_L_has KC RC _ (I) 0 [.ref 7, .int (x), .int (z)] [] from ?_))
  refine aw_iload_n rfl rfl d_L_has_0 ?_
  refine as_callS (as := [.int (x)]) (d' := 1) mo_S_isLine lk_L_33 rfl ⟨by decide, by decide⟩ rfl rfl (by decide) d_L_has_1 (sp_isLine (I := I) (x := x) (X := (x).toInt) rfl (fun c1 => ?_) (fun c2 => ?_))
  · refine (show As l b 13 y_L_has KC RC _ (I) 4 [.ref 7, .int (x), .int (z)] [.int (nI 1)] from ?_)
    refine aw_if_eqI (tgt := 25) (1) (by decide +kernel) (by decide) d_L_has_4 (fun q => absurd q (by decide)) (fun _ => ?_)
    refine aw_iload_n rfl rfl d_L_has_7 ?_
    refine aw_if_ltI (tgt := 25) (z).toInt rfl (by decide) d_L_has_8 (fun c3 => ?_) (fun c3 => ?_)
    · refine aw_iconst (v := nI 0) ci_0 d_L_has_25 ?_
      refine as_retz rfl (by decide +kernel) d_L_has_26 ?_
      refine (show As l b 14 y_S_till KC RC K2 (I) 12 [.ref 0, .int (x), .int (z)] [.int (nI 0)] from ?_)
      refine aw_if_eqI (tgt := 35) (0) (by decide +kernel) (by decide) d_S_till_12 (fun _ => ?_) (fun q => absurd q (by decide))
      refine aw_iconst (v := (-1 : Int32)) rfl d_S_till_35 ?_
      exact as_reti rfl d_S_till_36 (hK _)
    · refine aw_iload_n rfl rfl d_L_has_11 ?_
      refine aw_aload_n rfl rfl d_L_has_12 ?_
      refine aw_getr fl_L_15 kc_7 (by decide) rfl rc_7_1 d_L_has_13 ?_
      refine aw_iload_n rfl rfl d_L_has_16 ?_
      refine aw_iald (j := (x).toInt.toNat) kc_9 (vp_in_iff.mpr ⟨by omega, by omega⟩) rfl d_L_has_17 ?_
      refine aw_top (x2 := nI 0) (f1 ((x).toInt.toNat) (by omega)) ?_
      refine aw_icmp_geI (tgt := 25) (z).toInt (0) rfl (by decide +kernel) (by decide) d_L_has_18 (fun _ => ?_) (fun q => absurd q (by omega))
      refine aw_iconst (v := nI 0) ci_0 d_L_has_25 ?_
      refine as_retz rfl (by decide +kernel) d_L_has_26 ?_
      refine (show As l b 14 y_S_till KC RC K2 (I) 12 [.ref 0, .int (x), .int (z)] [.int (nI 0)] from ?_)
      refine aw_if_eqI (tgt := 35) (0) (by decide +kernel) (by decide) d_S_till_12 (fun _ => ?_) (fun q => absurd q (by decide))
      refine aw_iconst (v := (-1 : Int32)) rfl d_S_till_35 ?_
      exact as_reti rfl d_S_till_36 (hK _)
  · refine (show As l b 13 y_L_has KC RC _ (I) 4 [.ref 7, .int (x), .int (z)] [.int (nI 0)] from ?_)
    refine aw_if_eqI (tgt := 25) (0) (by decide +kernel) (by decide) d_L_has_4 (fun _ => ?_) (fun q => absurd q (by decide))
    refine aw_iconst (v := nI 0) ci_0 d_L_has_25 ?_
    refine as_retz rfl (by decide +kernel) d_L_has_26 ?_
    refine (show As l b 14 y_S_till KC RC K2 (I) 12 [.ref 0, .int (x), .int (z)] [.int (nI 0)] from ?_)
    refine aw_if_eqI (tgt := 35) (0) (by decide +kernel) (by decide) d_S_till_12 (fun _ => ?_) (fun q => absurd q (by decide))
    refine aw_iconst (v := (-1 : Int32)) rfl d_S_till_35 ?_
    exact as_reti rfl d_S_till_36 (hK _)
set_option maxRecDepth 20000 in
theorem cs_together {K2 : K2T} {I : Nat → Nat → Int32} (hR : FRc I) {x z u v c : Int32} (hK : ∀ I', K2 (some (.int (-2))) I') : Ss l b 14 y_S_together KC RC [.ref 0, .int (x), .int (z), .int (u), .int (v), .int (c)] (I) K2 := by
  obtain ⟨hF, r6, r7, r11, t1, t2, t4, hh, tm, h7, h8, h9, q1, q10, q11, im, p0⟩ := hR
  have hF0 := hF
  obtain ⟨f0, f1, f2, f3, f4, f5, f6, f7, f8, f9, f10, f11, f12, f13, fb⟩ := hF
  have f0 : ∀ j, j < 32 → I 5 j = nI 0 := f0
  have f1 : ∀ j, j < 6 → I 9 j = nI 0 := f1
  have f2 : ∀ j, j < 6 → I 10 j = nI 9 := f2
  have f3 : I 2 0 = nI (4) := f3
  have f4 : I 2 3 = nI 0 := f4
  have f5 : I 2 5 = nI (0) := f5
  have f6 : I 11 1 = nI (0) := f6
  have f7 : I 11 0 = nI (0) := f7
  have f8 : ∀ j, j < 40 → j ≠ 0 → j ≠ 1 → j ≠ 3 → I 11 j = nI 0 := f8
  have f9 : I 16 4 = nI 0 := f9
  have f10 : I 21 4 = nI 0 := f10
  have f11 : I 26 4 = nI 0 := f11
  have f12 : I 31 4 = nI 0 := f12
  have f13 : I 36 4 = nI 0 := f13
  refine Ss.of (show As l b 14 y_S_together KC RC K2 (I) 0 [.ref 0, .int (x), .int (z), .int (u), .int (v), .int (c), uu, uu, uu, uu, uu] [] from ?_)
  refine aw_iload rfl d_S_together_0 ?_
  refine aw_if_ltI (tgt := 42) (c).toInt rfl (by decide) d_S_together_2 (fun c1 => ?_) (fun c1 => ?_)
  · refine aw_bipush (v := (-2 : Int32)) rfl d_S_together_42 ?_
    exact as_reti rfl d_S_together_44 (hK _)
  · refine aw_iload rfl d_S_together_5 ?_
    refine aw_iconst (v := nI 1) ci_1 d_S_together_7 ?_
    refine aw_icmp_gtI (tgt := 42) (c).toInt (1) rfl (by decide +kernel) (by decide) d_S_together_8 (fun c2 => ?_) (fun c2 => ?_)
    · refine aw_bipush (v := (-2 : Int32)) rfl d_S_together_42 ?_
      exact as_reti rfl d_S_together_44 (hK _)
    · refine aw_aload_n rfl rfl d_S_together_11 ?_
      refine aw_getr fl_S_12 kc_0 (by decide) rfl rc_0_0 d_S_together_12 ?_
      refine aw_getr fl_S_77 kc_1 (by decide) rfl rc_1_5 d_S_together_15 ?_
      refine aw_iload_n rfl rfl d_S_together_18 ?_
      refine aw_iload_n rfl rfl d_S_together_19 ?_
      refine as_callV (as := [.int (x), .int (z)]) (d' := 13) (q := ("SinglesUp$Lines", zT4, 3)) mo_L_has lk_S_144 kc_7 rfl rfl rfl ⟨by decide, by decide⟩ rfl rfl (by decide) d_S_together_20 (Ss.of (show As l b 13 y_L_has KC RC _ (I) 0 [.ref 7, .int (x), .int (z)] [] from ?_))
      refine aw_iload_n rfl rfl d_L_has_0 ?_
      refine as_callS (as := [.int (x)]) (d' := 1) mo_S_isLine lk_L_33 rfl ⟨by decide, by decide⟩ rfl rfl (by decide) d_L_has_1 (sp_isLine (I := I) (x := x) (X := (x).toInt) rfl (fun c3 => ?_) (fun c4 => ?_))
      · refine (show As l b 13 y_L_has KC RC _ (I) 4 [.ref 7, .int (x), .int (z)] [.int (nI 1)] from ?_)
        refine aw_if_eqI (tgt := 25) (1) (by decide +kernel) (by decide) d_L_has_4 (fun q => absurd q (by decide)) (fun _ => ?_)
        refine aw_iload_n rfl rfl d_L_has_7 ?_
        refine aw_if_ltI (tgt := 25) (z).toInt rfl (by decide) d_L_has_8 (fun c5 => ?_) (fun c5 => ?_)
        · refine aw_iconst (v := nI 0) ci_0 d_L_has_25 ?_
          refine as_retz rfl (by decide +kernel) d_L_has_26 ?_
          refine (show As l b 14 y_S_together KC RC K2 (I) 23 [.ref 0, .int (x), .int (z), .int (u), .int (v), .int (c), uu, uu, uu, uu, uu] [.int (nI 0)] from ?_)
          refine aw_if_eqI (tgt := 42) (0) (by decide +kernel) (by decide) d_S_together_23 (fun _ => ?_) (fun q => absurd q (by decide))
          refine aw_bipush (v := (-2 : Int32)) rfl d_S_together_42 ?_
          exact as_reti rfl d_S_together_44 (hK _)
        · refine aw_iload_n rfl rfl d_L_has_11 ?_
          refine aw_aload_n rfl rfl d_L_has_12 ?_
          refine aw_getr fl_L_15 kc_7 (by decide) rfl rc_7_1 d_L_has_13 ?_
          refine aw_iload_n rfl rfl d_L_has_16 ?_
          refine aw_iald (j := (x).toInt.toNat) kc_9 (vp_in_iff.mpr ⟨by omega, by omega⟩) rfl d_L_has_17 ?_
          refine aw_top (x2 := nI 0) (f1 ((x).toInt.toNat) (by omega)) ?_
          refine aw_icmp_geI (tgt := 25) (z).toInt (0) rfl (by decide +kernel) (by decide) d_L_has_18 (fun _ => ?_) (fun q => absurd q (by omega))
          refine aw_iconst (v := nI 0) ci_0 d_L_has_25 ?_
          refine as_retz rfl (by decide +kernel) d_L_has_26 ?_
          refine (show As l b 14 y_S_together KC RC K2 (I) 23 [.ref 0, .int (x), .int (z), .int (u), .int (v), .int (c), uu, uu, uu, uu, uu] [.int (nI 0)] from ?_)
          refine aw_if_eqI (tgt := 42) (0) (by decide +kernel) (by decide) d_S_together_23 (fun _ => ?_) (fun q => absurd q (by decide))
          refine aw_bipush (v := (-2 : Int32)) rfl d_S_together_42 ?_
          exact as_reti rfl d_S_together_44 (hK _)
      · refine (show As l b 13 y_L_has KC RC _ (I) 4 [.ref 7, .int (x), .int (z)] [.int (nI 0)] from ?_)
        refine aw_if_eqI (tgt := 25) (0) (by decide +kernel) (by decide) d_L_has_4 (fun _ => ?_) (fun q => absurd q (by decide))
        refine aw_iconst (v := nI 0) ci_0 d_L_has_25 ?_
        refine as_retz rfl (by decide +kernel) d_L_has_26 ?_
        refine (show As l b 14 y_S_together KC RC K2 (I) 23 [.ref 0, .int (x), .int (z), .int (u), .int (v), .int (c), uu, uu, uu, uu, uu] [.int (nI 0)] from ?_)
        refine aw_if_eqI (tgt := 42) (0) (by decide +kernel) (by decide) d_S_together_23 (fun _ => ?_) (fun q => absurd q (by decide))
        refine aw_bipush (v := (-2 : Int32)) rfl d_S_together_42 ?_
        exact as_reti rfl d_S_together_44 (hK _)
set_option maxRecDepth 20000 in
theorem cs_past {K2 : K2T} {I : Nat → Nat → Int32} (hR : FRc I) {x z : Int32} (hK : ∀ I', K2 (some (.int (-1))) I') : Ss l b 14 y_S_past KC RC [.ref 0, .int (x), .int (z)] (I) K2 := by
  obtain ⟨hF, r6, r7, r11, t1, t2, t4, hh, tm, h7, h8, h9, q1, q10, q11, im, p0⟩ := hR
  have hF0 := hF
  obtain ⟨f0, f1, f2, f3, f4, f5, f6, f7, f8, f9, f10, f11, f12, f13, fb⟩ := hF
  have f0 : ∀ j, j < 32 → I 5 j = nI 0 := f0
  have f1 : ∀ j, j < 6 → I 9 j = nI 0 := f1
  have f2 : ∀ j, j < 6 → I 10 j = nI 9 := f2
  have f3 : I 2 0 = nI (4) := f3
  have f4 : I 2 3 = nI 0 := f4
  have f5 : I 2 5 = nI (0) := f5
  have f6 : I 11 1 = nI (0) := f6
  have f7 : I 11 0 = nI (0) := f7
  have f8 : ∀ j, j < 40 → j ≠ 0 → j ≠ 1 → j ≠ 3 → I 11 j = nI 0 := f8
  have f9 : I 16 4 = nI 0 := f9
  have f10 : I 21 4 = nI 0 := f10
  have f11 : I 26 4 = nI 0 := f11
  have f12 : I 31 4 = nI 0 := f12
  have f13 : I 36 4 = nI 0 := f13
  refine Ss.of (show As l b 14 y_S_past KC RC K2 (I) 0 [.ref 0, .int (x), .int (z), uu] [] from ?_)
  refine aw_iload_n rfl rfl d_S_past_0 ?_
  refine aw_if_ltI (tgt := 36) (x).toInt rfl (by decide) d_S_past_1 (fun c1 => ?_) (fun c1 => ?_)
  · refine aw_iconst (v := nI 0) ci_0 d_S_past_36 ?_
    refine aw_istore_n (lv2 := [.ref 0, .int (x), .int (z), .int (nI 0)]) rfl (by decide) rfl d_S_past_37 ?_
    refine aw_iload_n rfl rfl d_S_past_38 ?_
    refine aw_if_eqI (tgt := 54) (0) (by decide +kernel) (by decide) d_S_past_39 (fun _ => ?_) (fun q => absurd q (by decide))
    refine aw_iconst (v := (-1 : Int32)) rfl d_S_past_54 ?_
    exact as_reti rfl d_S_past_55 (hK _)
  · refine aw_iload_n rfl rfl d_S_past_4 ?_
    refine aw_bipush (v := nI 60) cb_60 d_S_past_5 ?_
    refine aw_icmp_geI (tgt := 36) (x).toInt (60) rfl (by decide +kernel) (by decide) d_S_past_7 (fun c2 => ?_) (fun c2 => ?_)
    · refine aw_iconst (v := nI 0) ci_0 d_S_past_36 ?_
      refine aw_istore_n (lv2 := [.ref 0, .int (x), .int (z), .int (nI 0)]) rfl (by decide) rfl d_S_past_37 ?_
      refine aw_iload_n rfl rfl d_S_past_38 ?_
      refine aw_if_eqI (tgt := 54) (0) (by decide +kernel) (by decide) d_S_past_39 (fun _ => ?_) (fun q => absurd q (by decide))
      refine aw_iconst (v := (-1 : Int32)) rfl d_S_past_54 ?_
      exact as_reti rfl d_S_past_55 (hK _)
    · refine aw_iload_n rfl rfl d_S_past_10 ?_
      refine aw_aload_n rfl rfl d_S_past_11 ?_
      refine aw_getr fl_S_12 kc_0 (by decide) rfl rc_0_0 d_S_past_12 ?_
      refine aw_getr fl_S_194 kc_1 (by decide) rfl rc_1_8 d_S_past_15 ?_
      refine aw_iconst (v := nI 0) ci_0 d_S_past_18 ?_
      refine aw_iald (j := 0) kc_11 (vp_in_nI (by decide) (by decide)) (nI_clamp (by decide)) d_S_past_19 ?_
      refine aw_top (x2 := nI 0) (f7) ?_
      refine aw_icmp_geI (tgt := 36) (x).toInt (0) rfl (by decide +kernel) (by decide) d_S_past_20 (fun _ => ?_) (fun q => absurd q (by omega))
      refine aw_iconst (v := nI 0) ci_0 d_S_past_36 ?_
      refine aw_istore_n (lv2 := [.ref 0, .int (x), .int (z), .int (nI 0)]) rfl (by decide) rfl d_S_past_37 ?_
      refine aw_iload_n rfl rfl d_S_past_38 ?_
      refine aw_if_eqI (tgt := 54) (0) (by decide +kernel) (by decide) d_S_past_39 (fun _ => ?_) (fun q => absurd q (by decide))
      refine aw_iconst (v := (-1 : Int32)) rfl d_S_past_54 ?_
      exact as_reti rfl d_S_past_55 (hK _)
set_option maxRecDepth 20000 in
theorem cs_folded {K2 : K2T} {I : Nat → Nat → Int32} (hR : FRc I) {x z u : Int32} (hg : 0 ≤ x.toInt ∧ x.toInt < 6 ∧ 1 ≤ z.toInt ∧ z.toInt ≤ 40 ∧ u.toInt = -1 → ∀ I', K2 (some (.int (nI 0))) I') (hb : ¬ (0 ≤ x.toInt ∧ x.toInt < 6 ∧ 1 ≤ z.toInt ∧ z.toInt ≤ 40 ∧ u.toInt = -1) → ∀ I', K2 (some (.int (-1))) I') : Ss l b 14 y_S_folded KC RC [.ref 0, .int (x), .int (z), .int (u)] (I) K2 := by
  obtain ⟨hF, r6, r7, r11, t1, t2, t4, hh, tm, h7, h8, h9, q1, q10, q11, im, p0⟩ := hR
  have hF0 := hF
  obtain ⟨f0, f1, f2, f3, f4, f5, f6, f7, f8, f9, f10, f11, f12, f13, fb⟩ := hF
  have f0 : ∀ j, j < 32 → I 5 j = nI 0 := f0
  have f1 : ∀ j, j < 6 → I 9 j = nI 0 := f1
  have f2 : ∀ j, j < 6 → I 10 j = nI 9 := f2
  have f3 : I 2 0 = nI (4) := f3
  have f4 : I 2 3 = nI 0 := f4
  have f5 : I 2 5 = nI (0) := f5
  have f6 : I 11 1 = nI (0) := f6
  have f7 : I 11 0 = nI (0) := f7
  have f8 : ∀ j, j < 40 → j ≠ 0 → j ≠ 1 → j ≠ 3 → I 11 j = nI 0 := f8
  have f9 : I 16 4 = nI 0 := f9
  have f10 : I 21 4 = nI 0 := f10
  have f11 : I 26 4 = nI 0 := f11
  have f12 : I 31 4 = nI 0 := f12
  have f13 : I 36 4 = nI 0 := f13
  refine Ss.of (show As l b 14 y_S_folded KC RC K2 (I) 0 [.ref 0, .int (x), .int (z), .int (u)] [] from ?_)
  refine aw_iload_n rfl rfl d_S_folded_0 ?_
  refine as_callS (as := [.int (x)]) (d' := 1) mo_S_isLine lk_S_73 rfl ⟨by decide, by decide⟩ rfl rfl (by decide) d_S_folded_1 (sp_isLine (I := I) (x := x) (X := (x).toInt) rfl (fun c1 => ?_) (fun c2 => ?_))
  · refine (show As l b 14 y_S_folded KC RC K2 (I) 4 [.ref 0, .int (x), .int (z), .int (u)] [.int (nI 1)] from ?_)
    refine aw_if_eqI (tgt := 39) (1) (by decide +kernel) (by decide) d_S_folded_4 (fun q => absurd q (by decide)) (fun _ => ?_)
    refine aw_iload_n rfl rfl d_S_folded_7 ?_
    refine aw_iconst (v := nI 1) ci_1 d_S_folded_8 ?_
    refine aw_icmp_ltI (tgt := 39) (z).toInt (1) rfl (by decide +kernel) (by decide) d_S_folded_9 (fun c3 => ?_) (fun c3 => ?_)
    · refine aw_iconst (v := (-1 : Int32)) rfl d_S_folded_39 ?_
      exact as_reti rfl d_S_folded_40 (hb (by omega) _)
    · refine aw_iload_n rfl rfl d_S_folded_12 ?_
      refine aw_bipush (v := nI 40) cb_40 d_S_folded_13 ?_
      refine aw_icmp_gtI (tgt := 39) (z).toInt (40) rfl (by decide +kernel) (by decide) d_S_folded_15 (fun c4 => ?_) (fun c4 => ?_)
      · refine aw_iconst (v := (-1 : Int32)) rfl d_S_folded_39 ?_
        exact as_reti rfl d_S_folded_40 (hb (by omega) _)
      · refine aw_iload_n rfl rfl d_S_folded_18 ?_
        refine aw_iconst (v := (-1 : Int32)) rfl d_S_folded_19 ?_
        refine aw_icmp_ltI (tgt := 39) (u).toInt (-1) rfl (by decide +kernel) (by decide) d_S_folded_20 (fun c5 => ?_) (fun c5 => ?_)
        · refine aw_iconst (v := (-1 : Int32)) rfl d_S_folded_39 ?_
          exact as_reti rfl d_S_folded_40 (hb (by omega) _)
        · refine aw_iload_n rfl rfl d_S_folded_23 ?_
          refine aw_aload_n rfl rfl d_S_folded_24 ?_
          refine aw_getr fl_S_12 kc_0 (by decide) rfl rc_0_0 d_S_folded_25 ?_
          refine aw_getr fl_S_77 kc_1 (by decide) rfl rc_1_5 d_S_folded_28 ?_
          refine aw_getr fl_S_166 kc_7 (by decide) rfl rc_7_1 d_S_folded_31 ?_
          refine aw_iload_n rfl rfl d_S_folded_34 ?_
          refine aw_iald (j := (x).toInt.toNat) kc_9 (vp_in_iff.mpr ⟨by omega, by omega⟩) rfl d_S_folded_35 ?_
          refine aw_top (x2 := nI 0) (f1 ((x).toInt.toNat) (by omega)) ?_
          refine aw_icmp_ltI (tgt := 41) (u).toInt (0) rfl (by decide +kernel) (by decide) d_S_folded_36 (fun c6 => ?_) (fun c6 => ?_)
          · refine aw_aload_n rfl rfl d_S_folded_41 ?_
            refine aw_getr fl_S_12 kc_0 (by decide) rfl rc_0_0 d_S_folded_42 ?_
            refine aw_getr fl_S_77 kc_1 (by decide) rfl rc_1_5 d_S_folded_45 ?_
            refine aw_iload_n rfl rfl d_S_folded_48 ?_
            refine aw_iload_n rfl rfl d_S_folded_49 ?_
            refine aw_iload_n rfl rfl d_S_folded_50 ?_
            refine as_callV (as := [.int (x), .int (z), .int (u)]) (d' := 13) (q := ("SinglesUp$Lines", zT4, 3)) mo_L_rowOf lk_S_249 kc_7 rfl rfl rfl ⟨by decide, by decide⟩ rfl rfl (by decide) d_S_folded_51 (Ss.of (show As l b 13 y_L_rowOf KC RC _ (I) 0 [.ref 7, .int (x), .int (z), .int (u), uu, uu, uu, uu, uu, uu] [] from ?_))
            refine aw_iconst (v := nI 0) ci_0 d_L_rowOf_0 ?_
            refine aw_istore (lv2 := [.ref 7, .int (x), .int (z), .int (u), .int (nI 0), uu, uu, uu, uu, uu]) (by decide) rfl d_L_rowOf_1 ?_
            refine aw_iconst (v := nI 0) ci_0 d_L_rowOf_3 ?_
            refine aw_istore (lv2 := [.ref 7, .int (x), .int (z), .int (u), .int (nI 0), .int (nI 0), uu, uu, uu, uu]) (by decide) rfl d_L_rowOf_4 ?_
            refine aw_aload_n rfl rfl d_L_rowOf_6 ?_
            refine aw_iload_n rfl rfl d_L_rowOf_7 ?_
            refine as_callV (as := [.int (x)]) (d' := 12) (q := ("SinglesUp$Lines", zT4, 3)) mo_L_countOf lk_L_60 kc_7 rfl rfl rfl ⟨by decide, by decide⟩ rfl rfl (by decide) d_L_rowOf_8 (Ss.of (show As l b 12 y_L_countOf KC RC _ (I) 0 [.ref 7, .int (x)] [] from ?_))
            refine aw_iload_n rfl rfl d_L_countOf_0 ?_
            refine as_callS (as := [.int (x)]) (d' := 1) mo_S_isLine lk_L_33 rfl ⟨by decide, by decide⟩ rfl rfl (by decide) d_L_countOf_1 (sp_isLine (I := I) (x := x) (X := (x).toInt) rfl (fun c7 => ?_) (fun c8 => ?_))
            · refine (show As l b 12 y_L_countOf KC RC _ (I) 4 [.ref 7, .int (x)] [.int (nI 1)] from ?_)
              refine aw_if_eqI (tgt := 21) (1) (by decide +kernel) (by decide) d_L_countOf_4 (fun q => absurd q (by decide)) (fun _ => ?_)
              refine aw_aload_n rfl rfl d_L_countOf_7 ?_
              refine aw_getr fl_L_15 kc_7 (by decide) rfl rc_7_1 d_L_countOf_8 ?_
              refine aw_iload_n rfl rfl d_L_countOf_11 ?_
              refine aw_iald (j := (x).toInt.toNat) kc_9 (vp_in_iff.mpr ⟨by omega, by omega⟩) rfl d_L_countOf_12 ?_
              refine aw_top (x2 := nI 0) (f1 ((x).toInt.toNat) (by omega)) ?_
              refine aw_bipush (v := nI 40) cb_40 d_L_countOf_13 ?_
              refine as_callS (as := [.int (nI 0), .int (nI 40)]) (d' := 1) mo_JM_min lk_L_37 rfl ⟨by decide, by decide⟩ rfl rfl (by decide) d_L_countOf_15 (sp_min_c (I := I) (x := nI 0) (z := nI 40) (X := (0)) (Z := (40)) (by decide +kernel) (by decide +kernel) (fun _ => ?_) (fun q => absurd q (by decide)) )
              refine (show As l b 12 y_L_countOf KC RC _ (I) 18 [.ref 7, .int (x)] [.int (nI 0)] from ?_)
              refine aw_goto (tgt := 22) (by decide) d_L_countOf_18 ?_
              refine as_reti rfl d_L_countOf_22 ?_
              refine (show As l b 13 y_L_rowOf KC RC _ (I) 11 [.ref 7, .int (x), .int (z), .int (u), .int (nI 0), .int (nI 0), uu, uu, uu, uu] [.int (nI 0)] from ?_)
              refine aw_istore (lv2 := [.ref 7, .int (x), .int (z), .int (u), .int (nI 0), .int (nI 0), .int (nI 0), uu, uu, uu]) (by decide) rfl d_L_rowOf_11 ?_
              refine aw_iconst (v := nI 0) ci_0 d_L_rowOf_13 ?_
              refine aw_istore (lv2 := [.ref 7, .int (x), .int (z), .int (u), .int (nI 0), .int (nI 0), .int (nI 0), .int (nI 0), uu, uu]) (by decide) rfl d_L_rowOf_14 ?_
              refine aw_iload rfl d_L_rowOf_16 ?_
              refine aw_iload rfl d_L_rowOf_18 ?_
              refine aw_icmp_geI (tgt := 121) (0) (0) (by decide +kernel) (by decide +kernel) (by decide) d_L_rowOf_20 (fun _ => ?_) (fun q => absurd q (by decide))
              refine aw_iload rfl d_L_rowOf_121 ?_
              refine as_reti rfl d_L_rowOf_123 ?_
              refine (show As l b 14 y_S_folded KC RC K2 (I) 54 [.ref 0, .int (x), .int (z), .int (u)] [.int (nI 0)] from ?_)
              exact as_reti rfl d_S_folded_54 (hg (by omega) _)
            · refine (show As l b 12 y_L_countOf KC RC _ (I) 4 [.ref 7, .int (x)] [.int (nI 0)] from ?_)
              refine aw_if_eqI (tgt := 21) (0) (by decide +kernel) (by decide) d_L_countOf_4 (fun _ => ?_) (fun q => absurd q (by decide))
              refine aw_iconst (v := nI 0) ci_0 d_L_countOf_21 ?_
              refine as_reti rfl d_L_countOf_22 ?_
              refine (show As l b 13 y_L_rowOf KC RC _ (I) 11 [.ref 7, .int (x), .int (z), .int (u), .int (nI 0), .int (nI 0), uu, uu, uu, uu] [.int (nI 0)] from ?_)
              refine aw_istore (lv2 := [.ref 7, .int (x), .int (z), .int (u), .int (nI 0), .int (nI 0), .int (nI 0), uu, uu, uu]) (by decide) rfl d_L_rowOf_11 ?_
              refine aw_iconst (v := nI 0) ci_0 d_L_rowOf_13 ?_
              refine aw_istore (lv2 := [.ref 7, .int (x), .int (z), .int (u), .int (nI 0), .int (nI 0), .int (nI 0), .int (nI 0), uu, uu]) (by decide) rfl d_L_rowOf_14 ?_
              refine aw_iload rfl d_L_rowOf_16 ?_
              refine aw_iload rfl d_L_rowOf_18 ?_
              refine aw_icmp_geI (tgt := 121) (0) (0) (by decide +kernel) (by decide +kernel) (by decide) d_L_rowOf_20 (fun _ => ?_) (fun q => absurd q (by decide))
              refine aw_iload rfl d_L_rowOf_121 ?_
              refine as_reti rfl d_L_rowOf_123 ?_
              refine (show As l b 14 y_S_folded KC RC K2 (I) 54 [.ref 0, .int (x), .int (z), .int (u)] [.int (nI 0)] from ?_)
              exact as_reti rfl d_S_folded_54 (hg (by omega) _)
          · refine aw_iconst (v := (-1 : Int32)) rfl d_S_folded_39 ?_
            exact as_reti rfl d_S_folded_40 (hb (by omega) _)
  · refine (show As l b 14 y_S_folded KC RC K2 (I) 4 [.ref 0, .int (x), .int (z), .int (u)] [.int (nI 0)] from ?_)
    refine aw_if_eqI (tgt := 39) (0) (by decide +kernel) (by decide) d_S_folded_4 (fun _ => ?_) (fun q => absurd q (by decide))
    refine aw_iconst (v := (-1 : Int32)) rfl d_S_folded_39 ?_
    exact as_reti rfl d_S_folded_40 (hb (by omega) _)
set_option maxRecDepth 20000 in
theorem cs_image_0 {K2 : K2T} {I : Nat → Nat → Int32} (hR : FRc I) (hK : ∀ I', K2 (some (.int (nI 0))) I') : Ss l b 14 y_S_image KC RC [.ref 0, .int (nI 0)] (I) K2 := by
  obtain ⟨hF, r6, r7, r11, t1, t2, t4, hh, tm, h7, h8, h9, q1, q10, q11, im, p0⟩ := hR
  have hF0 := hF
  obtain ⟨f0, f1, f2, f3, f4, f5, f6, f7, f8, f9, f10, f11, f12, f13, fb⟩ := hF
  have f0 : ∀ j, j < 32 → I 5 j = nI 0 := f0
  have f1 : ∀ j, j < 6 → I 9 j = nI 0 := f1
  have f2 : ∀ j, j < 6 → I 10 j = nI 9 := f2
  have f3 : I 2 0 = nI (4) := f3
  have f4 : I 2 3 = nI 0 := f4
  have f5 : I 2 5 = nI (0) := f5
  have f6 : I 11 1 = nI (0) := f6
  have f7 : I 11 0 = nI (0) := f7
  have f8 : ∀ j, j < 40 → j ≠ 0 → j ≠ 1 → j ≠ 3 → I 11 j = nI 0 := f8
  have f9 : I 16 4 = nI 0 := f9
  have f10 : I 21 4 = nI 0 := f10
  have f11 : I 26 4 = nI 0 := f11
  have f12 : I 31 4 = nI 0 := f12
  have f13 : I 36 4 = nI 0 := f13
  refine Ss.of (show As l b 14 y_S_image KC RC K2 (I) 0 [.ref 0, .int (nI 0)] [] from ?_)
  refine aw_iload_n rfl rfl d_S_image_0 ?_
  refine aw_if_eqI (tgt := 23) (0) (by decide +kernel) (by decide) d_S_image_1 (fun _ => ?_) (fun q => absurd q (by decide))
  refine aw_aload_n rfl rfl d_S_image_23 ?_
  refine aw_geti fl_S_255 kc_0 (by decide) rfl d_S_image_24 ?_
  refine aw_top (x2 := nI 0) (im) ?_
  refine aw_if_eqI (tgt := 45) (0) (by decide +kernel) (by decide) d_S_image_27 (fun _ => ?_) (fun q => absurd q (by decide))
  refine aw_aload_n rfl rfl d_S_image_45 ?_
  refine aw_geti fl_S_255 kc_0 (by decide) rfl d_S_image_46 ?_
  refine aw_top (x2 := nI 0) (im) ?_
  exact as_retz rfl (by decide +kernel) d_S_image_49 (hK _)
set_option maxRecDepth 20000 in
theorem cs_image_1 {K2 : K2T} {I : Nat → Nat → Int32} (hR : FRc I) (hK : ∀ I', K2 (some (.int (nI 1))) I') : Ss l b 14 y_S_image KC RC [.ref 0, .int (nI 1)] (I) K2 := by
  obtain ⟨hF, r6, r7, r11, t1, t2, t4, hh, tm, h7, h8, h9, q1, q10, q11, im, p0⟩ := hR
  have hF0 := hF
  obtain ⟨f0, f1, f2, f3, f4, f5, f6, f7, f8, f9, f10, f11, f12, f13, fb⟩ := hF
  have f0 : ∀ j, j < 32 → I 5 j = nI 0 := f0
  have f1 : ∀ j, j < 6 → I 9 j = nI 0 := f1
  have f2 : ∀ j, j < 6 → I 10 j = nI 9 := f2
  have f3 : I 2 0 = nI (4) := f3
  have f4 : I 2 3 = nI 0 := f4
  have f5 : I 2 5 = nI (0) := f5
  have f6 : I 11 1 = nI (0) := f6
  have f7 : I 11 0 = nI (0) := f7
  have f8 : ∀ j, j < 40 → j ≠ 0 → j ≠ 1 → j ≠ 3 → I 11 j = nI 0 := f8
  have f9 : I 16 4 = nI 0 := f9
  have f10 : I 21 4 = nI 0 := f10
  have f11 : I 26 4 = nI 0 := f11
  have f12 : I 31 4 = nI 0 := f12
  have f13 : I 36 4 = nI 0 := f13
  refine Ss.of (show As l b 14 y_S_image KC RC K2 (I) 0 [.ref 0, .int (nI 1)] [] from ?_)
  refine aw_iload_n rfl rfl d_S_image_0 ?_
  refine aw_if_eqI (tgt := 23) (1) (by decide +kernel) (by decide) d_S_image_1 (fun q => absurd q (by decide)) (fun _ => ?_)
  refine aw_aload_n rfl rfl d_S_image_4 ?_
  refine aw_getr fl_S_16 kc_0 (by decide) rfl rc_0_1 d_S_image_5 ?_
  refine aw_aload_n rfl rfl d_S_image_8 ?_
  refine aw_getr fl_S_12 kc_0 (by decide) rfl rc_0_0 d_S_image_9 ?_
  refine as_callV (as := [.ref 1]) (d' := 13) (q := ("SinglesUp$Hill", zT2, 14)) mo_H_copyFrom lk_S_252 kc_41 rfl rfl rfl ⟨by decide, by decide⟩ rfl rfl (by decide) d_S_image_12 (Ss.of (show As l b 13 y_H_copyFrom KC RC _ (I) 0 [.ref 41, .ref 1, uu] [] from ?_))
  refine aw_iconst (v := nI 0) ci_0 d_H_copyFrom_0 ?_
  refine aw_istore_n (lv2 := [.ref 41, .ref 1, .int (nI 0)]) rfl (by decide) rfl d_H_copyFrom_1 ?_
  refine aw_iload_n rfl rfl d_H_copyFrom_2 ?_
  refine aw_aload_n rfl rfl d_H_copyFrom_3 ?_
  refine aw_getr fl_H_17 kc_41 (by decide) rfl rc_41_1 d_H_copyFrom_4 ?_
  refine aw_alen kc_43 (by decide) d_H_copyFrom_7 ?_
  refine aw_icmp_geI (tgt := 41) (0) (5) (by decide +kernel) (by decide +kernel) (by decide) d_H_copyFrom_8 (fun q => absurd q (by decide)) (fun _ => ?_)
  refine aw_iload_n rfl rfl d_H_copyFrom_11 ?_
  refine aw_aload_n rfl rfl d_H_copyFrom_12 ?_
  refine aw_getr fl_H_17 kc_1 (by decide) rfl rc_1_1 d_H_copyFrom_13 ?_
  refine aw_alen kc_3 (by decide) d_H_copyFrom_16 ?_
  refine aw_icmp_geI (tgt := 41) (0) (5) (by decide +kernel) (by decide +kernel) (by decide) d_H_copyFrom_17 (fun q => absurd q (by decide)) (fun _ => ?_)
  refine aw_aload_n rfl rfl d_H_copyFrom_20 ?_
  refine aw_getr fl_H_17 kc_41 (by decide) rfl rc_41_1 d_H_copyFrom_21 ?_
  refine aw_iload_n rfl rfl d_H_copyFrom_24 ?_
  refine aw_aald (j := 0) kc_43 (vp_in_nI (by decide) (by decide)) (nI_clamp (by decide)) rc_43_0 d_H_copyFrom_25 ?_
  refine aw_aload_n rfl rfl d_H_copyFrom_26 ?_
  refine aw_getr fl_H_17 kc_1 (by decide) rfl rc_1_1 d_H_copyFrom_27 ?_
  refine aw_iload_n rfl rfl d_H_copyFrom_30 ?_
  refine aw_aald (j := 0) kc_3 (vp_in_nI (by decide) (by decide)) (nI_clamp (by decide)) rc_3_0 d_H_copyFrom_31 ?_
  refine as_callV (as := [.ref 16]) (d' := 12) (q := ("SinglesUp$Law", zT3, 6)) mo_W_copyFrom lk_H_57 kc_56 rfl rfl rfl ⟨by decide, by decide⟩ rfl rfl (by decide) d_H_copyFrom_32 (Ss.of (show As l b 12 y_W_copyFrom KC RC _ (I) 0 [.ref 56, .ref 16] [] from ?_))
  refine aw_aload_n rfl rfl d_W_copyFrom_0 ?_
  refine aw_aload_n rfl rfl d_W_copyFrom_1 ?_
  refine aw_geti fl_W_22 kc_16 (by decide) rfl d_W_copyFrom_2 ?_
  refine aw_puti fl_W_22 kc_56 (by decide) rfl rfl rfl rfl d_W_copyFrom_5 ?_
  refine aw_aload_n rfl rfl d_W_copyFrom_8 ?_
  refine aw_aload_n rfl rfl d_W_copyFrom_9 ?_
  refine aw_geti fl_W_26 kc_16 (by decide) rfl d_W_copyFrom_10 ?_
  refine aw_top (x2 := nI 0) (Eq.trans (congrFun (upd2_ne (by decide)) (4)) (f9)) ?_
  refine aw_puti fl_W_26 kc_56 (by decide) rfl rfl rfl rfl d_W_copyFrom_13 ?_
  refine aw_aload_n rfl rfl d_W_copyFrom_16 ?_
  refine aw_getr fl_W_9 kc_16 (by decide) rfl rc_16_0 d_W_copyFrom_17 ?_
  refine aw_iconst (v := nI 0) ci_0 d_W_copyFrom_20 ?_
  refine aw_aload_n rfl rfl d_W_copyFrom_21 ?_
  refine aw_getr fl_W_9 kc_56 (by decide) rfl rc_56_0 d_W_copyFrom_22 ?_
  refine aw_iconst (v := nI 0) ci_0 d_W_copyFrom_25 ?_
  refine aw_sipush (v := nI 400) cs_400 d_W_copyFrom_26 ?_
  refine as_copy0 (n := 400) lka_W_29 ac_nat ac_sta ac_ini kc_17 kc_57 (by omega) (by omega) (by omega) (by decide) rfl d_W_copyFrom_29 (fun J1 e2 e3 e4 => ?_)
  refine aw_aload_n rfl rfl d_W_copyFrom_32 ?_
  refine aw_getr fl_W_13 kc_16 (by decide) rfl rc_16_2 d_W_copyFrom_33 ?_
  refine aw_iconst (v := nI 0) ci_0 d_W_copyFrom_36 ?_
  refine aw_aload_n rfl rfl d_W_copyFrom_37 ?_
  refine aw_getr fl_W_13 kc_56 (by decide) rfl rc_56_2 d_W_copyFrom_38 ?_
  refine aw_iconst (v := nI 0) ci_0 d_W_copyFrom_41 ?_
  refine aw_bipush (v := nI 17) cb_17 d_W_copyFrom_42 ?_
  refine as_copy0 (n := 17) lka_W_29 ac_nat ac_sta ac_ini kc_18 kc_58 (by omega) (by omega) (by omega) (by decide) rfl d_W_copyFrom_44 (fun J5 e6 e7 e8 => ?_)
  refine aw_aload_n rfl rfl d_W_copyFrom_47 ?_
  refine aw_getr fl_W_16 kc_16 (by decide) rfl rc_16_3 d_W_copyFrom_48 ?_
  refine aw_iconst (v := nI 0) ci_0 d_W_copyFrom_51 ?_
  refine aw_aload_n rfl rfl d_W_copyFrom_52 ?_
  refine aw_getr fl_W_16 kc_56 (by decide) rfl rc_56_3 d_W_copyFrom_53 ?_
  refine aw_iconst (v := nI 0) ci_0 d_W_copyFrom_56 ?_
  refine aw_bipush (v := nI 16) cb_16 d_W_copyFrom_57 ?_
  refine as_copy0 (n := 16) lka_W_29 ac_nat ac_sta ac_ini kc_19 kc_59 (by omega) (by omega) (by omega) (by decide) rfl d_W_copyFrom_59 (fun J9 e10 e11 e12 => ?_)
  refine as_retv rfl d_W_copyFrom_62 ?_
  refine (show As l b 13 y_H_copyFrom KC RC _ (J9) 35 [.ref 41, .ref 1, .int (nI 0)] [] from ?_)
  refine aw_iinc (v := nI 1) (lv2 := [.ref 41, .ref 1, .int (nI 1)]) rfl (by decide +kernel) (by decide) rfl d_H_copyFrom_35 ?_
  refine aw_goto (tgt := 2) (by decide) d_H_copyFrom_38 ?_
  refine aw_iload_n rfl rfl d_H_copyFrom_2 ?_
  refine aw_aload_n rfl rfl d_H_copyFrom_3 ?_
  refine aw_getr fl_H_17 kc_41 (by decide) rfl rc_41_1 d_H_copyFrom_4 ?_
  refine aw_alen kc_43 (by decide) d_H_copyFrom_7 ?_
  refine aw_icmp_geI (tgt := 41) (1) (5) (by decide +kernel) (by decide +kernel) (by decide) d_H_copyFrom_8 (fun q => absurd q (by decide)) (fun _ => ?_)
  refine aw_iload_n rfl rfl d_H_copyFrom_11 ?_
  refine aw_aload_n rfl rfl d_H_copyFrom_12 ?_
  refine aw_getr fl_H_17 kc_1 (by decide) rfl rc_1_1 d_H_copyFrom_13 ?_
  refine aw_alen kc_3 (by decide) d_H_copyFrom_16 ?_
  refine aw_icmp_geI (tgt := 41) (1) (5) (by decide +kernel) (by decide +kernel) (by decide) d_H_copyFrom_17 (fun q => absurd q (by decide)) (fun _ => ?_)
  refine aw_aload_n rfl rfl d_H_copyFrom_20 ?_
  refine aw_getr fl_H_17 kc_41 (by decide) rfl rc_41_1 d_H_copyFrom_21 ?_
  refine aw_iload_n rfl rfl d_H_copyFrom_24 ?_
  refine aw_aald (j := 1) kc_43 (vp_in_nI (by decide) (by decide)) (nI_clamp (by decide)) rc_43_1 d_H_copyFrom_25 ?_
  refine aw_aload_n rfl rfl d_H_copyFrom_26 ?_
  refine aw_getr fl_H_17 kc_1 (by decide) rfl rc_1_1 d_H_copyFrom_27 ?_
  refine aw_iload_n rfl rfl d_H_copyFrom_30 ?_
  refine aw_aald (j := 1) kc_3 (vp_in_nI (by decide) (by decide)) (nI_clamp (by decide)) rc_3_1 d_H_copyFrom_31 ?_
  refine as_callV (as := [.ref 21]) (d' := 12) (q := ("SinglesUp$Law", zT3, 6)) mo_W_copyFrom lk_H_57 kc_61 rfl rfl rfl ⟨by decide, by decide⟩ rfl rfl (by decide) d_H_copyFrom_32 (Ss.of (show As l b 12 y_W_copyFrom KC RC _ (J9) 0 [.ref 61, .ref 21] [] from ?_))
  refine aw_aload_n rfl rfl d_W_copyFrom_0 ?_
  refine aw_aload_n rfl rfl d_W_copyFrom_1 ?_
  refine aw_geti fl_W_22 kc_21 (by decide) rfl d_W_copyFrom_2 ?_
  refine aw_puti fl_W_22 kc_61 (by decide) rfl rfl rfl rfl d_W_copyFrom_5 ?_
  refine aw_aload_n rfl rfl d_W_copyFrom_8 ?_
  refine aw_aload_n rfl rfl d_W_copyFrom_9 ?_
  refine aw_geti fl_W_26 kc_21 (by decide) rfl d_W_copyFrom_10 ?_
  refine aw_top (x2 := nI 0) (Eq.trans (congrFun (upd2_ne (by decide)) (4)) (((congrFun (e10 21 (by decide)) (4)).trans (((congrFun (e6 21 (by decide)) (4)).trans (((congrFun (e2 21 (by decide)) (4)).trans (Eq.trans (congrFun (upd2_ne (by decide)) (4)) (Eq.trans (congrFun (upd2_ne (by decide)) (4)) (f10)))))))))) ?_
  refine aw_puti fl_W_26 kc_61 (by decide) rfl rfl rfl rfl d_W_copyFrom_13 ?_
  refine aw_aload_n rfl rfl d_W_copyFrom_16 ?_
  refine aw_getr fl_W_9 kc_21 (by decide) rfl rc_21_0 d_W_copyFrom_17 ?_
  refine aw_iconst (v := nI 0) ci_0 d_W_copyFrom_20 ?_
  refine aw_aload_n rfl rfl d_W_copyFrom_21 ?_
  refine aw_getr fl_W_9 kc_61 (by decide) rfl rc_61_0 d_W_copyFrom_22 ?_
  refine aw_iconst (v := nI 0) ci_0 d_W_copyFrom_25 ?_
  refine aw_sipush (v := nI 400) cs_400 d_W_copyFrom_26 ?_
  refine as_copy0 (n := 400) lka_W_29 ac_nat ac_sta ac_ini kc_22 kc_62 (by omega) (by omega) (by omega) (by decide) rfl d_W_copyFrom_29 (fun J13 e14 e15 e16 => ?_)
  refine aw_aload_n rfl rfl d_W_copyFrom_32 ?_
  refine aw_getr fl_W_13 kc_21 (by decide) rfl rc_21_2 d_W_copyFrom_33 ?_
  refine aw_iconst (v := nI 0) ci_0 d_W_copyFrom_36 ?_
  refine aw_aload_n rfl rfl d_W_copyFrom_37 ?_
  refine aw_getr fl_W_13 kc_61 (by decide) rfl rc_61_2 d_W_copyFrom_38 ?_
  refine aw_iconst (v := nI 0) ci_0 d_W_copyFrom_41 ?_
  refine aw_bipush (v := nI 17) cb_17 d_W_copyFrom_42 ?_
  refine as_copy0 (n := 17) lka_W_29 ac_nat ac_sta ac_ini kc_23 kc_63 (by omega) (by omega) (by omega) (by decide) rfl d_W_copyFrom_44 (fun J17 e18 e19 e20 => ?_)
  refine aw_aload_n rfl rfl d_W_copyFrom_47 ?_
  refine aw_getr fl_W_16 kc_21 (by decide) rfl rc_21_3 d_W_copyFrom_48 ?_
  refine aw_iconst (v := nI 0) ci_0 d_W_copyFrom_51 ?_
  refine aw_aload_n rfl rfl d_W_copyFrom_52 ?_
  refine aw_getr fl_W_16 kc_61 (by decide) rfl rc_61_3 d_W_copyFrom_53 ?_
  refine aw_iconst (v := nI 0) ci_0 d_W_copyFrom_56 ?_
  refine aw_bipush (v := nI 16) cb_16 d_W_copyFrom_57 ?_
  refine as_copy0 (n := 16) lka_W_29 ac_nat ac_sta ac_ini kc_24 kc_64 (by omega) (by omega) (by omega) (by decide) rfl d_W_copyFrom_59 (fun J21 e22 e23 e24 => ?_)
  refine as_retv rfl d_W_copyFrom_62 ?_
  refine (show As l b 13 y_H_copyFrom KC RC _ (J21) 35 [.ref 41, .ref 1, .int (nI 1)] [] from ?_)
  refine aw_iinc (v := nI 2) (lv2 := [.ref 41, .ref 1, .int (nI 2)]) rfl (by decide +kernel) (by decide) rfl d_H_copyFrom_35 ?_
  refine aw_goto (tgt := 2) (by decide) d_H_copyFrom_38 ?_
  refine aw_iload_n rfl rfl d_H_copyFrom_2 ?_
  refine aw_aload_n rfl rfl d_H_copyFrom_3 ?_
  refine aw_getr fl_H_17 kc_41 (by decide) rfl rc_41_1 d_H_copyFrom_4 ?_
  refine aw_alen kc_43 (by decide) d_H_copyFrom_7 ?_
  refine aw_icmp_geI (tgt := 41) (2) (5) (by decide +kernel) (by decide +kernel) (by decide) d_H_copyFrom_8 (fun q => absurd q (by decide)) (fun _ => ?_)
  refine aw_iload_n rfl rfl d_H_copyFrom_11 ?_
  refine aw_aload_n rfl rfl d_H_copyFrom_12 ?_
  refine aw_getr fl_H_17 kc_1 (by decide) rfl rc_1_1 d_H_copyFrom_13 ?_
  refine aw_alen kc_3 (by decide) d_H_copyFrom_16 ?_
  refine aw_icmp_geI (tgt := 41) (2) (5) (by decide +kernel) (by decide +kernel) (by decide) d_H_copyFrom_17 (fun q => absurd q (by decide)) (fun _ => ?_)
  refine aw_aload_n rfl rfl d_H_copyFrom_20 ?_
  refine aw_getr fl_H_17 kc_41 (by decide) rfl rc_41_1 d_H_copyFrom_21 ?_
  refine aw_iload_n rfl rfl d_H_copyFrom_24 ?_
  refine aw_aald (j := 2) kc_43 (vp_in_nI (by decide) (by decide)) (nI_clamp (by decide)) rc_43_2 d_H_copyFrom_25 ?_
  refine aw_aload_n rfl rfl d_H_copyFrom_26 ?_
  refine aw_getr fl_H_17 kc_1 (by decide) rfl rc_1_1 d_H_copyFrom_27 ?_
  refine aw_iload_n rfl rfl d_H_copyFrom_30 ?_
  refine aw_aald (j := 2) kc_3 (vp_in_nI (by decide) (by decide)) (nI_clamp (by decide)) rc_3_2 d_H_copyFrom_31 ?_
  refine as_callV (as := [.ref 26]) (d' := 12) (q := ("SinglesUp$Law", zT3, 6)) mo_W_copyFrom lk_H_57 kc_66 rfl rfl rfl ⟨by decide, by decide⟩ rfl rfl (by decide) d_H_copyFrom_32 (Ss.of (show As l b 12 y_W_copyFrom KC RC _ (J21) 0 [.ref 66, .ref 26] [] from ?_))
  refine aw_aload_n rfl rfl d_W_copyFrom_0 ?_
  refine aw_aload_n rfl rfl d_W_copyFrom_1 ?_
  refine aw_geti fl_W_22 kc_26 (by decide) rfl d_W_copyFrom_2 ?_
  refine aw_puti fl_W_22 kc_66 (by decide) rfl rfl rfl rfl d_W_copyFrom_5 ?_
  refine aw_aload_n rfl rfl d_W_copyFrom_8 ?_
  refine aw_aload_n rfl rfl d_W_copyFrom_9 ?_
  refine aw_geti fl_W_26 kc_26 (by decide) rfl d_W_copyFrom_10 ?_
  refine aw_top (x2 := nI 0) (Eq.trans (congrFun (upd2_ne (by decide)) (4)) (((congrFun (e22 26 (by decide)) (4)).trans (((congrFun (e18 26 (by decide)) (4)).trans (((congrFun (e14 26 (by decide)) (4)).trans (Eq.trans (congrFun (upd2_ne (by decide)) (4)) (Eq.trans (congrFun (upd2_ne (by decide)) (4)) (((congrFun (e10 26 (by decide)) (4)).trans (((congrFun (e6 26 (by decide)) (4)).trans (((congrFun (e2 26 (by decide)) (4)).trans (Eq.trans (congrFun (upd2_ne (by decide)) (4)) (Eq.trans (congrFun (upd2_ne (by decide)) (4)) (f11)))))))))))))))))) ?_
  refine aw_puti fl_W_26 kc_66 (by decide) rfl rfl rfl rfl d_W_copyFrom_13 ?_
  refine aw_aload_n rfl rfl d_W_copyFrom_16 ?_
  refine aw_getr fl_W_9 kc_26 (by decide) rfl rc_26_0 d_W_copyFrom_17 ?_
  refine aw_iconst (v := nI 0) ci_0 d_W_copyFrom_20 ?_
  refine aw_aload_n rfl rfl d_W_copyFrom_21 ?_
  refine aw_getr fl_W_9 kc_66 (by decide) rfl rc_66_0 d_W_copyFrom_22 ?_
  refine aw_iconst (v := nI 0) ci_0 d_W_copyFrom_25 ?_
  refine aw_sipush (v := nI 400) cs_400 d_W_copyFrom_26 ?_
  refine as_copy0 (n := 400) lka_W_29 ac_nat ac_sta ac_ini kc_27 kc_67 (by omega) (by omega) (by omega) (by decide) rfl d_W_copyFrom_29 (fun J25 e26 e27 e28 => ?_)
  refine aw_aload_n rfl rfl d_W_copyFrom_32 ?_
  refine aw_getr fl_W_13 kc_26 (by decide) rfl rc_26_2 d_W_copyFrom_33 ?_
  refine aw_iconst (v := nI 0) ci_0 d_W_copyFrom_36 ?_
  refine aw_aload_n rfl rfl d_W_copyFrom_37 ?_
  refine aw_getr fl_W_13 kc_66 (by decide) rfl rc_66_2 d_W_copyFrom_38 ?_
  refine aw_iconst (v := nI 0) ci_0 d_W_copyFrom_41 ?_
  refine aw_bipush (v := nI 17) cb_17 d_W_copyFrom_42 ?_
  refine as_copy0 (n := 17) lka_W_29 ac_nat ac_sta ac_ini kc_28 kc_68 (by omega) (by omega) (by omega) (by decide) rfl d_W_copyFrom_44 (fun J29 e30 e31 e32 => ?_)
  refine aw_aload_n rfl rfl d_W_copyFrom_47 ?_
  refine aw_getr fl_W_16 kc_26 (by decide) rfl rc_26_3 d_W_copyFrom_48 ?_
  refine aw_iconst (v := nI 0) ci_0 d_W_copyFrom_51 ?_
  refine aw_aload_n rfl rfl d_W_copyFrom_52 ?_
  refine aw_getr fl_W_16 kc_66 (by decide) rfl rc_66_3 d_W_copyFrom_53 ?_
  refine aw_iconst (v := nI 0) ci_0 d_W_copyFrom_56 ?_
  refine aw_bipush (v := nI 16) cb_16 d_W_copyFrom_57 ?_
  refine as_copy0 (n := 16) lka_W_29 ac_nat ac_sta ac_ini kc_29 kc_69 (by omega) (by omega) (by omega) (by decide) rfl d_W_copyFrom_59 (fun J33 e34 e35 e36 => ?_)
  refine as_retv rfl d_W_copyFrom_62 ?_
  refine (show As l b 13 y_H_copyFrom KC RC _ (J33) 35 [.ref 41, .ref 1, .int (nI 2)] [] from ?_)
  refine aw_iinc (v := nI 3) (lv2 := [.ref 41, .ref 1, .int (nI 3)]) rfl (by decide +kernel) (by decide) rfl d_H_copyFrom_35 ?_
  refine aw_goto (tgt := 2) (by decide) d_H_copyFrom_38 ?_
  refine aw_iload_n rfl rfl d_H_copyFrom_2 ?_
  refine aw_aload_n rfl rfl d_H_copyFrom_3 ?_
  refine aw_getr fl_H_17 kc_41 (by decide) rfl rc_41_1 d_H_copyFrom_4 ?_
  refine aw_alen kc_43 (by decide) d_H_copyFrom_7 ?_
  refine aw_icmp_geI (tgt := 41) (3) (5) (by decide +kernel) (by decide +kernel) (by decide) d_H_copyFrom_8 (fun q => absurd q (by decide)) (fun _ => ?_)
  refine aw_iload_n rfl rfl d_H_copyFrom_11 ?_
  refine aw_aload_n rfl rfl d_H_copyFrom_12 ?_
  refine aw_getr fl_H_17 kc_1 (by decide) rfl rc_1_1 d_H_copyFrom_13 ?_
  refine aw_alen kc_3 (by decide) d_H_copyFrom_16 ?_
  refine aw_icmp_geI (tgt := 41) (3) (5) (by decide +kernel) (by decide +kernel) (by decide) d_H_copyFrom_17 (fun q => absurd q (by decide)) (fun _ => ?_)
  refine aw_aload_n rfl rfl d_H_copyFrom_20 ?_
  refine aw_getr fl_H_17 kc_41 (by decide) rfl rc_41_1 d_H_copyFrom_21 ?_
  refine aw_iload_n rfl rfl d_H_copyFrom_24 ?_
  refine aw_aald (j := 3) kc_43 (vp_in_nI (by decide) (by decide)) (nI_clamp (by decide)) rc_43_3 d_H_copyFrom_25 ?_
  refine aw_aload_n rfl rfl d_H_copyFrom_26 ?_
  refine aw_getr fl_H_17 kc_1 (by decide) rfl rc_1_1 d_H_copyFrom_27 ?_
  refine aw_iload_n rfl rfl d_H_copyFrom_30 ?_
  refine aw_aald (j := 3) kc_3 (vp_in_nI (by decide) (by decide)) (nI_clamp (by decide)) rc_3_3 d_H_copyFrom_31 ?_
  refine as_callV (as := [.ref 31]) (d' := 12) (q := ("SinglesUp$Law", zT3, 6)) mo_W_copyFrom lk_H_57 kc_71 rfl rfl rfl ⟨by decide, by decide⟩ rfl rfl (by decide) d_H_copyFrom_32 (Ss.of (show As l b 12 y_W_copyFrom KC RC _ (J33) 0 [.ref 71, .ref 31] [] from ?_))
  refine aw_aload_n rfl rfl d_W_copyFrom_0 ?_
  refine aw_aload_n rfl rfl d_W_copyFrom_1 ?_
  refine aw_geti fl_W_22 kc_31 (by decide) rfl d_W_copyFrom_2 ?_
  refine aw_puti fl_W_22 kc_71 (by decide) rfl rfl rfl rfl d_W_copyFrom_5 ?_
  refine aw_aload_n rfl rfl d_W_copyFrom_8 ?_
  refine aw_aload_n rfl rfl d_W_copyFrom_9 ?_
  refine aw_geti fl_W_26 kc_31 (by decide) rfl d_W_copyFrom_10 ?_
  refine aw_top (x2 := nI 0) (Eq.trans (congrFun (upd2_ne (by decide)) (4)) (((congrFun (e34 31 (by decide)) (4)).trans (((congrFun (e30 31 (by decide)) (4)).trans (((congrFun (e26 31 (by decide)) (4)).trans (Eq.trans (congrFun (upd2_ne (by decide)) (4)) (Eq.trans (congrFun (upd2_ne (by decide)) (4)) (((congrFun (e22 31 (by decide)) (4)).trans (((congrFun (e18 31 (by decide)) (4)).trans (((congrFun (e14 31 (by decide)) (4)).trans (Eq.trans (congrFun (upd2_ne (by decide)) (4)) (Eq.trans (congrFun (upd2_ne (by decide)) (4)) (((congrFun (e10 31 (by decide)) (4)).trans (((congrFun (e6 31 (by decide)) (4)).trans (((congrFun (e2 31 (by decide)) (4)).trans (Eq.trans (congrFun (upd2_ne (by decide)) (4)) (Eq.trans (congrFun (upd2_ne (by decide)) (4)) (f12)))))))))))))))))))))))))) ?_
  refine aw_puti fl_W_26 kc_71 (by decide) rfl rfl rfl rfl d_W_copyFrom_13 ?_
  refine aw_aload_n rfl rfl d_W_copyFrom_16 ?_
  refine aw_getr fl_W_9 kc_31 (by decide) rfl rc_31_0 d_W_copyFrom_17 ?_
  refine aw_iconst (v := nI 0) ci_0 d_W_copyFrom_20 ?_
  refine aw_aload_n rfl rfl d_W_copyFrom_21 ?_
  refine aw_getr fl_W_9 kc_71 (by decide) rfl rc_71_0 d_W_copyFrom_22 ?_
  refine aw_iconst (v := nI 0) ci_0 d_W_copyFrom_25 ?_
  refine aw_sipush (v := nI 400) cs_400 d_W_copyFrom_26 ?_
  refine as_copy0 (n := 400) lka_W_29 ac_nat ac_sta ac_ini kc_32 kc_72 (by omega) (by omega) (by omega) (by decide) rfl d_W_copyFrom_29 (fun J37 e38 e39 e40 => ?_)
  refine aw_aload_n rfl rfl d_W_copyFrom_32 ?_
  refine aw_getr fl_W_13 kc_31 (by decide) rfl rc_31_2 d_W_copyFrom_33 ?_
  refine aw_iconst (v := nI 0) ci_0 d_W_copyFrom_36 ?_
  refine aw_aload_n rfl rfl d_W_copyFrom_37 ?_
  refine aw_getr fl_W_13 kc_71 (by decide) rfl rc_71_2 d_W_copyFrom_38 ?_
  refine aw_iconst (v := nI 0) ci_0 d_W_copyFrom_41 ?_
  refine aw_bipush (v := nI 17) cb_17 d_W_copyFrom_42 ?_
  refine as_copy0 (n := 17) lka_W_29 ac_nat ac_sta ac_ini kc_33 kc_73 (by omega) (by omega) (by omega) (by decide) rfl d_W_copyFrom_44 (fun J41 e42 e43 e44 => ?_)
  refine aw_aload_n rfl rfl d_W_copyFrom_47 ?_
  refine aw_getr fl_W_16 kc_31 (by decide) rfl rc_31_3 d_W_copyFrom_48 ?_
  refine aw_iconst (v := nI 0) ci_0 d_W_copyFrom_51 ?_
  refine aw_aload_n rfl rfl d_W_copyFrom_52 ?_
  refine aw_getr fl_W_16 kc_71 (by decide) rfl rc_71_3 d_W_copyFrom_53 ?_
  refine aw_iconst (v := nI 0) ci_0 d_W_copyFrom_56 ?_
  refine aw_bipush (v := nI 16) cb_16 d_W_copyFrom_57 ?_
  refine as_copy0 (n := 16) lka_W_29 ac_nat ac_sta ac_ini kc_34 kc_74 (by omega) (by omega) (by omega) (by decide) rfl d_W_copyFrom_59 (fun J45 e46 e47 e48 => ?_)
  refine as_retv rfl d_W_copyFrom_62 ?_
  refine (show As l b 13 y_H_copyFrom KC RC _ (J45) 35 [.ref 41, .ref 1, .int (nI 3)] [] from ?_)
  refine aw_iinc (v := nI 4) (lv2 := [.ref 41, .ref 1, .int (nI 4)]) rfl (by decide +kernel) (by decide) rfl d_H_copyFrom_35 ?_
  refine aw_goto (tgt := 2) (by decide) d_H_copyFrom_38 ?_
  refine aw_iload_n rfl rfl d_H_copyFrom_2 ?_
  refine aw_aload_n rfl rfl d_H_copyFrom_3 ?_
  refine aw_getr fl_H_17 kc_41 (by decide) rfl rc_41_1 d_H_copyFrom_4 ?_
  refine aw_alen kc_43 (by decide) d_H_copyFrom_7 ?_
  refine aw_icmp_geI (tgt := 41) (4) (5) (by decide +kernel) (by decide +kernel) (by decide) d_H_copyFrom_8 (fun q => absurd q (by decide)) (fun _ => ?_)
  refine aw_iload_n rfl rfl d_H_copyFrom_11 ?_
  refine aw_aload_n rfl rfl d_H_copyFrom_12 ?_
  refine aw_getr fl_H_17 kc_1 (by decide) rfl rc_1_1 d_H_copyFrom_13 ?_
  refine aw_alen kc_3 (by decide) d_H_copyFrom_16 ?_
  refine aw_icmp_geI (tgt := 41) (4) (5) (by decide +kernel) (by decide +kernel) (by decide) d_H_copyFrom_17 (fun q => absurd q (by decide)) (fun _ => ?_)
  refine aw_aload_n rfl rfl d_H_copyFrom_20 ?_
  refine aw_getr fl_H_17 kc_41 (by decide) rfl rc_41_1 d_H_copyFrom_21 ?_
  refine aw_iload_n rfl rfl d_H_copyFrom_24 ?_
  refine aw_aald (j := 4) kc_43 (vp_in_nI (by decide) (by decide)) (nI_clamp (by decide)) rc_43_4 d_H_copyFrom_25 ?_
  refine aw_aload_n rfl rfl d_H_copyFrom_26 ?_
  refine aw_getr fl_H_17 kc_1 (by decide) rfl rc_1_1 d_H_copyFrom_27 ?_
  refine aw_iload_n rfl rfl d_H_copyFrom_30 ?_
  refine aw_aald (j := 4) kc_3 (vp_in_nI (by decide) (by decide)) (nI_clamp (by decide)) rc_3_4 d_H_copyFrom_31 ?_
  refine as_callV (as := [.ref 36]) (d' := 12) (q := ("SinglesUp$Law", zT3, 6)) mo_W_copyFrom lk_H_57 kc_76 rfl rfl rfl ⟨by decide, by decide⟩ rfl rfl (by decide) d_H_copyFrom_32 (Ss.of (show As l b 12 y_W_copyFrom KC RC _ (J45) 0 [.ref 76, .ref 36] [] from ?_))
  refine aw_aload_n rfl rfl d_W_copyFrom_0 ?_
  refine aw_aload_n rfl rfl d_W_copyFrom_1 ?_
  refine aw_geti fl_W_22 kc_36 (by decide) rfl d_W_copyFrom_2 ?_
  refine aw_puti fl_W_22 kc_76 (by decide) rfl rfl rfl rfl d_W_copyFrom_5 ?_
  refine aw_aload_n rfl rfl d_W_copyFrom_8 ?_
  refine aw_aload_n rfl rfl d_W_copyFrom_9 ?_
  refine aw_geti fl_W_26 kc_36 (by decide) rfl d_W_copyFrom_10 ?_
  refine aw_top (x2 := nI 0) (Eq.trans (congrFun (upd2_ne (by decide)) (4)) (((congrFun (e46 36 (by decide)) (4)).trans (((congrFun (e42 36 (by decide)) (4)).trans (((congrFun (e38 36 (by decide)) (4)).trans (Eq.trans (congrFun (upd2_ne (by decide)) (4)) (Eq.trans (congrFun (upd2_ne (by decide)) (4)) (((congrFun (e34 36 (by decide)) (4)).trans (((congrFun (e30 36 (by decide)) (4)).trans (((congrFun (e26 36 (by decide)) (4)).trans (Eq.trans (congrFun (upd2_ne (by decide)) (4)) (Eq.trans (congrFun (upd2_ne (by decide)) (4)) (((congrFun (e22 36 (by decide)) (4)).trans (((congrFun (e18 36 (by decide)) (4)).trans (((congrFun (e14 36 (by decide)) (4)).trans (Eq.trans (congrFun (upd2_ne (by decide)) (4)) (Eq.trans (congrFun (upd2_ne (by decide)) (4)) (((congrFun (e10 36 (by decide)) (4)).trans (((congrFun (e6 36 (by decide)) (4)).trans (((congrFun (e2 36 (by decide)) (4)).trans (Eq.trans (congrFun (upd2_ne (by decide)) (4)) (Eq.trans (congrFun (upd2_ne (by decide)) (4)) (f13)))))))))))))))))))))))))))))))))) ?_
  refine aw_puti fl_W_26 kc_76 (by decide) rfl rfl rfl rfl d_W_copyFrom_13 ?_
  refine aw_aload_n rfl rfl d_W_copyFrom_16 ?_
  refine aw_getr fl_W_9 kc_36 (by decide) rfl rc_36_0 d_W_copyFrom_17 ?_
  refine aw_iconst (v := nI 0) ci_0 d_W_copyFrom_20 ?_
  refine aw_aload_n rfl rfl d_W_copyFrom_21 ?_
  refine aw_getr fl_W_9 kc_76 (by decide) rfl rc_76_0 d_W_copyFrom_22 ?_
  refine aw_iconst (v := nI 0) ci_0 d_W_copyFrom_25 ?_
  refine aw_sipush (v := nI 400) cs_400 d_W_copyFrom_26 ?_
  refine as_copy0 (n := 400) lka_W_29 ac_nat ac_sta ac_ini kc_37 kc_77 (by omega) (by omega) (by omega) (by decide) rfl d_W_copyFrom_29 (fun J49 e50 e51 e52 => ?_)
  refine aw_aload_n rfl rfl d_W_copyFrom_32 ?_
  refine aw_getr fl_W_13 kc_36 (by decide) rfl rc_36_2 d_W_copyFrom_33 ?_
  refine aw_iconst (v := nI 0) ci_0 d_W_copyFrom_36 ?_
  refine aw_aload_n rfl rfl d_W_copyFrom_37 ?_
  refine aw_getr fl_W_13 kc_76 (by decide) rfl rc_76_2 d_W_copyFrom_38 ?_
  refine aw_iconst (v := nI 0) ci_0 d_W_copyFrom_41 ?_
  refine aw_bipush (v := nI 17) cb_17 d_W_copyFrom_42 ?_
  refine as_copy0 (n := 17) lka_W_29 ac_nat ac_sta ac_ini kc_38 kc_78 (by omega) (by omega) (by omega) (by decide) rfl d_W_copyFrom_44 (fun J53 e54 e55 e56 => ?_)
  refine aw_aload_n rfl rfl d_W_copyFrom_47 ?_
  refine aw_getr fl_W_16 kc_36 (by decide) rfl rc_36_3 d_W_copyFrom_48 ?_
  refine aw_iconst (v := nI 0) ci_0 d_W_copyFrom_51 ?_
  refine aw_aload_n rfl rfl d_W_copyFrom_52 ?_
  refine aw_getr fl_W_16 kc_76 (by decide) rfl rc_76_3 d_W_copyFrom_53 ?_
  refine aw_iconst (v := nI 0) ci_0 d_W_copyFrom_56 ?_
  refine aw_bipush (v := nI 16) cb_16 d_W_copyFrom_57 ?_
  refine as_copy0 (n := 16) lka_W_29 ac_nat ac_sta ac_ini kc_39 kc_79 (by omega) (by omega) (by omega) (by decide) rfl d_W_copyFrom_59 (fun J57 e58 e59 e60 => ?_)
  refine as_retv rfl d_W_copyFrom_62 ?_
  refine (show As l b 13 y_H_copyFrom KC RC _ (J57) 35 [.ref 41, .ref 1, .int (nI 4)] [] from ?_)
  refine aw_iinc (v := nI 5) (lv2 := [.ref 41, .ref 1, .int (nI 5)]) rfl (by decide +kernel) (by decide) rfl d_H_copyFrom_35 ?_
  refine aw_goto (tgt := 2) (by decide) d_H_copyFrom_38 ?_
  refine aw_iload_n rfl rfl d_H_copyFrom_2 ?_
  refine aw_aload_n rfl rfl d_H_copyFrom_3 ?_
  refine aw_getr fl_H_17 kc_41 (by decide) rfl rc_41_1 d_H_copyFrom_4 ?_
  refine aw_alen kc_43 (by decide) d_H_copyFrom_7 ?_
  refine aw_icmp_geI (tgt := 41) (5) (5) (by decide +kernel) (by decide +kernel) (by decide) d_H_copyFrom_8 (fun _ => ?_) (fun q => absurd q (by decide))
  refine aw_aload_n rfl rfl d_H_copyFrom_41 ?_
  refine aw_getr fl_H_33 kc_41 (by decide) rfl rc_41_5 d_H_copyFrom_42 ?_
  refine aw_aload_n rfl rfl d_H_copyFrom_45 ?_
  refine aw_getr fl_H_33 kc_1 (by decide) rfl rc_1_5 d_H_copyFrom_46 ?_
  refine as_callV (as := [.ref 7]) (d' := 12) (q := ("SinglesUp$Lines", zT4, 3)) mo_L_copyFrom lk_H_61 kc_47 rfl rfl rfl ⟨by decide, by decide⟩ rfl rfl (by decide) d_H_copyFrom_49 (Ss.of (show As l b 12 y_L_copyFrom KC RC _ (J57) 0 [.ref 47, .ref 7] [] from ?_))
  refine aw_aload_n rfl rfl d_L_copyFrom_0 ?_
  refine aw_getr fl_L_9 kc_7 (by decide) rfl rc_7_0 d_L_copyFrom_1 ?_
  refine aw_iconst (v := nI 0) ci_0 d_L_copyFrom_4 ?_
  refine aw_aload_n rfl rfl d_L_copyFrom_5 ?_
  refine aw_getr fl_L_9 kc_47 (by decide) rfl rc_47_0 d_L_copyFrom_6 ?_
  refine aw_iconst (v := nI 0) ci_0 d_L_copyFrom_9 ?_
  refine aw_aload_n rfl rfl d_L_copyFrom_10 ?_
  refine aw_getr fl_L_9 kc_47 (by decide) rfl rc_47_0 d_L_copyFrom_11 ?_
  refine aw_alen kc_48 (by decide) d_L_copyFrom_14 ?_
  refine as_copy0 (n := 1440) lka_L_27 ac_nat ac_sta ac_ini kc_8 kc_48 (by omega) (by omega) (by omega) (by decide) rfl d_L_copyFrom_15 (fun J61 e62 e63 e64 => ?_)
  refine aw_aload_n rfl rfl d_L_copyFrom_18 ?_
  refine aw_getr fl_L_15 kc_7 (by decide) rfl rc_7_1 d_L_copyFrom_19 ?_
  refine aw_iconst (v := nI 0) ci_0 d_L_copyFrom_22 ?_
  refine aw_aload_n rfl rfl d_L_copyFrom_23 ?_
  refine aw_getr fl_L_15 kc_47 (by decide) rfl rc_47_1 d_L_copyFrom_24 ?_
  refine aw_iconst (v := nI 0) ci_0 d_L_copyFrom_27 ?_
  refine aw_bipush (v := nI 6) cb_6 d_L_copyFrom_28 ?_
  refine as_copy0 (n := 6) lka_L_27 ac_nat ac_sta ac_ini kc_9 kc_49 (by omega) (by omega) (by omega) (by decide) rfl d_L_copyFrom_30 (fun J65 e66 e67 e68 => ?_)
  refine aw_aload_n rfl rfl d_L_copyFrom_33 ?_
  refine aw_getr fl_L_18 kc_7 (by decide) rfl rc_7_2 d_L_copyFrom_34 ?_
  refine aw_iconst (v := nI 0) ci_0 d_L_copyFrom_37 ?_
  refine aw_aload_n rfl rfl d_L_copyFrom_38 ?_
  refine aw_getr fl_L_18 kc_47 (by decide) rfl rc_47_2 d_L_copyFrom_39 ?_
  refine aw_iconst (v := nI 0) ci_0 d_L_copyFrom_42 ?_
  refine aw_bipush (v := nI 6) cb_6 d_L_copyFrom_43 ?_
  refine as_copy0 (n := 6) lka_L_27 ac_nat ac_sta ac_ini kc_10 kc_50 (by omega) (by omega) (by omega) (by decide) rfl d_L_copyFrom_45 (fun J69 e70 e71 e72 => ?_)
  refine as_retv rfl d_L_copyFrom_48 ?_
  refine (show As l b 13 y_H_copyFrom KC RC _ (J69) 52 [.ref 41, .ref 1, .int (nI 5)] [] from ?_)
  refine aw_aload_n rfl rfl d_H_copyFrom_52 ?_
  refine aw_getr fl_H_9 kc_1 (by decide) rfl rc_1_0 d_H_copyFrom_53 ?_
  refine aw_iconst (v := nI 0) ci_0 d_H_copyFrom_56 ?_
  refine aw_aload_n rfl rfl d_H_copyFrom_57 ?_
  refine aw_getr fl_H_9 kc_41 (by decide) rfl rc_41_0 d_H_copyFrom_58 ?_
  refine aw_iconst (v := nI 0) ci_0 d_H_copyFrom_61 ?_
  refine aw_aload_n rfl rfl d_H_copyFrom_62 ?_
  refine aw_getr fl_H_9 kc_41 (by decide) rfl rc_41_0 d_H_copyFrom_63 ?_
  refine aw_alen kc_42 (by decide) d_H_copyFrom_66 ?_
  refine as_copy0 (n := 6) lka_H_64 ac_nat ac_sta ac_ini kc_2 kc_42 (by omega) (by omega) (by omega) (by decide) rfl d_H_copyFrom_67 (fun J73 e74 e75 e76 => ?_)
  refine aw_aload_n rfl rfl d_H_copyFrom_70 ?_
  refine aw_getr fl_H_21 kc_1 (by decide) rfl rc_1_2 d_H_copyFrom_71 ?_
  refine aw_iconst (v := nI 0) ci_0 d_H_copyFrom_74 ?_
  refine aw_aload_n rfl rfl d_H_copyFrom_75 ?_
  refine aw_getr fl_H_21 kc_41 (by decide) rfl rc_41_2 d_H_copyFrom_76 ?_
  refine aw_iconst (v := nI 0) ci_0 d_H_copyFrom_79 ?_
  refine aw_aload_n rfl rfl d_H_copyFrom_80 ?_
  refine aw_getr fl_H_21 kc_41 (by decide) rfl rc_41_2 d_H_copyFrom_81 ?_
  refine aw_alen kc_44 (by decide) d_H_copyFrom_84 ?_
  refine as_copy0 (n := 9) lka_H_64 ac_nat ac_sta ac_ini kc_4 kc_44 (by omega) (by omega) (by omega) (by decide) rfl d_H_copyFrom_85 (fun J77 e78 e79 e80 => ?_)
  refine aw_aload_n rfl rfl d_H_copyFrom_88 ?_
  refine aw_getr fl_H_24 kc_1 (by decide) rfl rc_1_3 d_H_copyFrom_89 ?_
  refine aw_iconst (v := nI 0) ci_0 d_H_copyFrom_92 ?_
  refine aw_aload_n rfl rfl d_H_copyFrom_93 ?_
  refine aw_getr fl_H_24 kc_41 (by decide) rfl rc_41_3 d_H_copyFrom_94 ?_
  refine aw_iconst (v := nI 0) ci_0 d_H_copyFrom_97 ?_
  refine aw_aload_n rfl rfl d_H_copyFrom_98 ?_
  refine aw_getr fl_H_24 kc_41 (by decide) rfl rc_41_3 d_H_copyFrom_99 ?_
  refine aw_alen kc_45 (by decide) d_H_copyFrom_102 ?_
  refine as_copy0 (n := 32) lka_H_64 ac_nat ac_sta ac_ini kc_5 kc_45 (by omega) (by omega) (by omega) (by decide) rfl d_H_copyFrom_103 (fun J81 e82 e83 e84 => ?_)
  refine aw_aload_n rfl rfl d_H_copyFrom_106 ?_
  refine aw_getr fl_H_27 kc_1 (by decide) rfl rc_1_4 d_H_copyFrom_107 ?_
  refine aw_iconst (v := nI 0) ci_0 d_H_copyFrom_110 ?_
  refine aw_aload_n rfl rfl d_H_copyFrom_111 ?_
  refine aw_getr fl_H_27 kc_41 (by decide) rfl rc_41_4 d_H_copyFrom_112 ?_
  refine aw_iconst (v := nI 0) ci_0 d_H_copyFrom_115 ?_
  refine aw_aload_n rfl rfl d_H_copyFrom_116 ?_
  refine aw_getr fl_H_27 kc_41 (by decide) rfl rc_41_4 d_H_copyFrom_117 ?_
  refine aw_alen kc_46 (by decide) d_H_copyFrom_120 ?_
  refine as_copy0 (n := 9) lka_H_64 ac_nat ac_sta ac_ini kc_6 kc_46 (by omega) (by omega) (by omega) (by decide) rfl d_H_copyFrom_121 (fun J85 e86 e87 e88 => ?_)
  refine aw_aload_n rfl rfl d_H_copyFrom_124 ?_
  refine aw_getr fl_H_37 kc_1 (by decide) rfl rc_1_8 d_H_copyFrom_125 ?_
  refine aw_iconst (v := nI 0) ci_0 d_H_copyFrom_128 ?_
  refine aw_aload_n rfl rfl d_H_copyFrom_129 ?_
  refine aw_getr fl_H_37 kc_41 (by decide) rfl rc_41_8 d_H_copyFrom_130 ?_
  refine aw_iconst (v := nI 0) ci_0 d_H_copyFrom_133 ?_
  refine aw_aload_n rfl rfl d_H_copyFrom_134 ?_
  refine aw_getr fl_H_37 kc_41 (by decide) rfl rc_41_8 d_H_copyFrom_135 ?_
  refine aw_alen kc_51 (by decide) d_H_copyFrom_138 ?_
  refine as_copy0 (n := 40) lka_H_64 ac_nat ac_sta ac_ini kc_11 kc_51 (by omega) (by omega) (by omega) (by decide) rfl d_H_copyFrom_139 (fun J89 e90 e91 e92 => ?_)
  refine aw_aload_n rfl rfl d_H_copyFrom_142 ?_
  refine aw_getr fl_H_40 kc_1 (by decide) rfl rc_1_9 d_H_copyFrom_143 ?_
  refine aw_iconst (v := nI 0) ci_0 d_H_copyFrom_146 ?_
  refine aw_aload_n rfl rfl d_H_copyFrom_147 ?_
  refine aw_getr fl_H_40 kc_41 (by decide) rfl rc_41_9 d_H_copyFrom_148 ?_
  refine aw_iconst (v := nI 0) ci_0 d_H_copyFrom_151 ?_
  refine aw_aload_n rfl rfl d_H_copyFrom_152 ?_
  refine aw_getr fl_H_40 kc_41 (by decide) rfl rc_41_9 d_H_copyFrom_153 ?_
  refine aw_alen kc_52 (by decide) d_H_copyFrom_156 ?_
  refine as_copy0 (n := 30) lka_H_64 ac_nat ac_sta ac_ini kc_12 kc_52 (by omega) (by omega) (by omega) (by decide) rfl d_H_copyFrom_157 (fun J93 e94 e95 e96 => ?_)
  refine aw_aload_n rfl rfl d_H_copyFrom_160 ?_
  refine aw_getr fl_H_43 kc_1 (by decide) rfl rc_1_10 d_H_copyFrom_161 ?_
  refine aw_iconst (v := nI 0) ci_0 d_H_copyFrom_164 ?_
  refine aw_aload_n rfl rfl d_H_copyFrom_165 ?_
  refine aw_getr fl_H_43 kc_41 (by decide) rfl rc_41_10 d_H_copyFrom_166 ?_
  refine aw_iconst (v := nI 0) ci_0 d_H_copyFrom_169 ?_
  refine aw_aload_n rfl rfl d_H_copyFrom_170 ?_
  refine aw_getr fl_H_43 kc_41 (by decide) rfl rc_41_10 d_H_copyFrom_171 ?_
  refine aw_alen kc_53 (by decide) d_H_copyFrom_174 ?_
  refine as_copy0 (n := 180) lka_H_64 ac_nat ac_sta ac_ini kc_13 kc_53 (by omega) (by omega) (by omega) (by decide) rfl d_H_copyFrom_175 (fun J97 e98 e99 e100 => ?_)
  refine aw_aload_n rfl rfl d_H_copyFrom_178 ?_
  refine aw_aload_n rfl rfl d_H_copyFrom_179 ?_
  refine aw_geti fl_H_70 kc_1 (by decide) rfl d_H_copyFrom_180 ?_
  refine aw_top (x2 := nI 0) (((congrFun (e98 1 (by decide)) (6)).trans (((congrFun (e94 1 (by decide)) (6)).trans (((congrFun (e90 1 (by decide)) (6)).trans (((congrFun (e86 1 (by decide)) (6)).trans (((congrFun (e82 1 (by decide)) (6)).trans (((congrFun (e78 1 (by decide)) (6)).trans (((congrFun (e74 1 (by decide)) (6)).trans (((congrFun (e70 1 (by decide)) (6)).trans (((congrFun (e66 1 (by decide)) (6)).trans (((congrFun (e62 1 (by decide)) (6)).trans (((congrFun (e58 1 (by decide)) (6)).trans (((congrFun (e54 1 (by decide)) (6)).trans (((congrFun (e50 1 (by decide)) (6)).trans (Eq.trans (congrFun (upd2_ne (by decide)) (6)) (Eq.trans (congrFun (upd2_ne (by decide)) (6)) (((congrFun (e46 1 (by decide)) (6)).trans (((congrFun (e42 1 (by decide)) (6)).trans (((congrFun (e38 1 (by decide)) (6)).trans (Eq.trans (congrFun (upd2_ne (by decide)) (6)) (Eq.trans (congrFun (upd2_ne (by decide)) (6)) (((congrFun (e34 1 (by decide)) (6)).trans (((congrFun (e30 1 (by decide)) (6)).trans (((congrFun (e26 1 (by decide)) (6)).trans (Eq.trans (congrFun (upd2_ne (by decide)) (6)) (Eq.trans (congrFun (upd2_ne (by decide)) (6)) (((congrFun (e22 1 (by decide)) (6)).trans (((congrFun (e18 1 (by decide)) (6)).trans (((congrFun (e14 1 (by decide)) (6)).trans (Eq.trans (congrFun (upd2_ne (by decide)) (6)) (Eq.trans (congrFun (upd2_ne (by decide)) (6)) (((congrFun (e10 1 (by decide)) (6)).trans (((congrFun (e6 1 (by decide)) (6)).trans (((congrFun (e2 1 (by decide)) (6)).trans (Eq.trans (congrFun (upd2_ne (by decide)) (6)) (Eq.trans (congrFun (upd2_ne (by decide)) (6)) (r6))))))))))))))))))))))))))))))))))))))))))))))))))))))))))))) ?_
  refine aw_puti fl_H_70 kc_41 (by decide) rfl rfl rfl rfl d_H_copyFrom_183 ?_
  refine aw_aload_n rfl rfl d_H_copyFrom_186 ?_
  refine aw_aload_n rfl rfl d_H_copyFrom_187 ?_
  refine aw_geti fl_H_73 kc_1 (by decide) rfl d_H_copyFrom_188 ?_
  refine aw_top (x2 := nI 0) (Eq.trans (congrFun (upd2_ne (by decide)) (7)) (((congrFun (e98 1 (by decide)) (7)).trans (((congrFun (e94 1 (by decide)) (7)).trans (((congrFun (e90 1 (by decide)) (7)).trans (((congrFun (e86 1 (by decide)) (7)).trans (((congrFun (e82 1 (by decide)) (7)).trans (((congrFun (e78 1 (by decide)) (7)).trans (((congrFun (e74 1 (by decide)) (7)).trans (((congrFun (e70 1 (by decide)) (7)).trans (((congrFun (e66 1 (by decide)) (7)).trans (((congrFun (e62 1 (by decide)) (7)).trans (((congrFun (e58 1 (by decide)) (7)).trans (((congrFun (e54 1 (by decide)) (7)).trans (((congrFun (e50 1 (by decide)) (7)).trans (Eq.trans (congrFun (upd2_ne (by decide)) (7)) (Eq.trans (congrFun (upd2_ne (by decide)) (7)) (((congrFun (e46 1 (by decide)) (7)).trans (((congrFun (e42 1 (by decide)) (7)).trans (((congrFun (e38 1 (by decide)) (7)).trans (Eq.trans (congrFun (upd2_ne (by decide)) (7)) (Eq.trans (congrFun (upd2_ne (by decide)) (7)) (((congrFun (e34 1 (by decide)) (7)).trans (((congrFun (e30 1 (by decide)) (7)).trans (((congrFun (e26 1 (by decide)) (7)).trans (Eq.trans (congrFun (upd2_ne (by decide)) (7)) (Eq.trans (congrFun (upd2_ne (by decide)) (7)) (((congrFun (e22 1 (by decide)) (7)).trans (((congrFun (e18 1 (by decide)) (7)).trans (((congrFun (e14 1 (by decide)) (7)).trans (Eq.trans (congrFun (upd2_ne (by decide)) (7)) (Eq.trans (congrFun (upd2_ne (by decide)) (7)) (((congrFun (e10 1 (by decide)) (7)).trans (((congrFun (e6 1 (by decide)) (7)).trans (((congrFun (e2 1 (by decide)) (7)).trans (Eq.trans (congrFun (upd2_ne (by decide)) (7)) (Eq.trans (congrFun (upd2_ne (by decide)) (7)) (r7)))))))))))))))))))))))))))))))))))))))))))))))))))))))))))))) ?_
  refine aw_puti fl_H_73 kc_41 (by decide) rfl rfl rfl rfl d_H_copyFrom_191 ?_
  refine aw_aload_n rfl rfl d_H_copyFrom_194 ?_
  refine aw_aload_n rfl rfl d_H_copyFrom_195 ?_
  refine aw_geti fl_H_46 kc_1 (by decide) rfl d_H_copyFrom_196 ?_
  refine aw_top (x2 := (-1 : Int32)) (Eq.trans (congrFun (upd2_ne (by decide)) (11)) (Eq.trans (congrFun (upd2_ne (by decide)) (11)) (((congrFun (e98 1 (by decide)) (11)).trans (((congrFun (e94 1 (by decide)) (11)).trans (((congrFun (e90 1 (by decide)) (11)).trans (((congrFun (e86 1 (by decide)) (11)).trans (((congrFun (e82 1 (by decide)) (11)).trans (((congrFun (e78 1 (by decide)) (11)).trans (((congrFun (e74 1 (by decide)) (11)).trans (((congrFun (e70 1 (by decide)) (11)).trans (((congrFun (e66 1 (by decide)) (11)).trans (((congrFun (e62 1 (by decide)) (11)).trans (((congrFun (e58 1 (by decide)) (11)).trans (((congrFun (e54 1 (by decide)) (11)).trans (((congrFun (e50 1 (by decide)) (11)).trans (Eq.trans (congrFun (upd2_ne (by decide)) (11)) (Eq.trans (congrFun (upd2_ne (by decide)) (11)) (((congrFun (e46 1 (by decide)) (11)).trans (((congrFun (e42 1 (by decide)) (11)).trans (((congrFun (e38 1 (by decide)) (11)).trans (Eq.trans (congrFun (upd2_ne (by decide)) (11)) (Eq.trans (congrFun (upd2_ne (by decide)) (11)) (((congrFun (e34 1 (by decide)) (11)).trans (((congrFun (e30 1 (by decide)) (11)).trans (((congrFun (e26 1 (by decide)) (11)).trans (Eq.trans (congrFun (upd2_ne (by decide)) (11)) (Eq.trans (congrFun (upd2_ne (by decide)) (11)) (((congrFun (e22 1 (by decide)) (11)).trans (((congrFun (e18 1 (by decide)) (11)).trans (((congrFun (e14 1 (by decide)) (11)).trans (Eq.trans (congrFun (upd2_ne (by decide)) (11)) (Eq.trans (congrFun (upd2_ne (by decide)) (11)) (((congrFun (e10 1 (by decide)) (11)).trans (((congrFun (e6 1 (by decide)) (11)).trans (((congrFun (e2 1 (by decide)) (11)).trans (Eq.trans (congrFun (upd2_ne (by decide)) (11)) (Eq.trans (congrFun (upd2_ne (by decide)) (11)) (r11))))))))))))))))))))))))))))))))))))))))))))))))))))))))))))))) ?_
  refine aw_puti fl_H_46 kc_41 (by decide) rfl rfl rfl rfl d_H_copyFrom_199 ?_
  refine as_retv rfl d_H_copyFrom_202 ?_
  refine (show As l b 14 y_S_image KC RC K2 (upd2 (upd2 (upd2 J97 41 6 (nI 0)) 41 7 (nI 0)) 41 11 ((-1 : Int32))) 15 [.ref 0, .int (nI 1)] [] from ?_)
  refine aw_aload_n rfl rfl d_S_image_15 ?_
  refine aw_iconst (v := nI 1) ci_1 d_S_image_16 ?_
  refine aw_puti fl_S_255 kc_0 (by decide) rfl (by decide +kernel) (by decide +kernel) rfl d_S_image_17 ?_
  refine aw_goto (tgt := 45) (by decide) d_S_image_20 ?_
  refine aw_aload_n rfl rfl d_S_image_45 ?_
  refine aw_geti fl_S_255 kc_0 (by decide) rfl d_S_image_46 ?_
  refine aw_top (x2 := nI 1) (upd2_eq) ?_
  exact as_retz rfl (by decide +kernel) d_S_image_49 (hK _)
set_option maxRecDepth 20000 in
theorem cs_told {K2 : K2T} {I : Nat → Nat → Int32} (hR : FRc I) {x : Int32} (t0 : x.toInt = 0 → ∀ I', K2 (some (.int (nI 4))) I') (t1' : x.toInt = 1 → ∀ I', K2 (some (.int (nI 6))) I') (t2' : x.toInt = 2 → ∀ I', K2 (some (.int (nI 40))) I') (tz : 3 ≤ x.toInt ∧ x.toInt ≤ 8 → ∀ I', K2 (some (.int (nI 0))) I') (tb : ¬ (0 ≤ x.toInt ∧ x.toInt ≤ 8) → ∀ I', K2 (some (.int (-1))) I') : Ss l b 14 y_S_told KC RC [.ref 0, .int (x)] (I) K2 := by
  obtain ⟨hF, r6, r7, r11, t1, t2, t4, hh, tm, h7, h8, h9, q1, q10, q11, im, p0⟩ := hR
  have hF0 := hF
  obtain ⟨f0, f1, f2, f3, f4, f5, f6, f7, f8, f9, f10, f11, f12, f13, fb⟩ := hF
  have f0 : ∀ j, j < 32 → I 5 j = nI 0 := f0
  have f1 : ∀ j, j < 6 → I 9 j = nI 0 := f1
  have f2 : ∀ j, j < 6 → I 10 j = nI 9 := f2
  have f3 : I 2 0 = nI (4) := f3
  have f4 : I 2 3 = nI 0 := f4
  have f5 : I 2 5 = nI (0) := f5
  have f6 : I 11 1 = nI (0) := f6
  have f7 : I 11 0 = nI (0) := f7
  have f8 : ∀ j, j < 40 → j ≠ 0 → j ≠ 1 → j ≠ 3 → I 11 j = nI 0 := f8
  have f9 : I 16 4 = nI 0 := f9
  have f10 : I 21 4 = nI 0 := f10
  have f11 : I 26 4 = nI 0 := f11
  have f12 : I 31 4 = nI 0 := f12
  have f13 : I 36 4 = nI 0 := f13
  refine Ss.of (show As l b 14 y_S_told KC RC K2 (I) 0 [.ref 0, .int (x)] [] from ?_)
  refine aw_iload_n rfl rfl d_S_told_0 ?_
  refine aw_if_ltI (tgt := 19) (x).toInt rfl (by decide) d_S_told_1 (fun c1 => ?_) (fun c1 => ?_)
  · refine aw_iload_n rfl rfl d_S_told_19 ?_
    rcases (show (x).toInt = 6 ∨ (x).toInt = 7 ∨ (x).toInt = 8 ∨ ((x).toInt < 6 ∨ 8 < (x).toInt) by omega) with qs | qs | qs | qs
    · refine aw_tabInI 0 (by omega) (by decide) rfl (tgt := 48) (by decide) d_S_told_20 ?_
      refine aw_aload_n rfl rfl d_S_told_48 ?_
      refine aw_getr fl_S_33 kc_0 (by decide) rfl rc_0_4 d_S_told_49 ?_
      refine aw_geti fl_S_259 kc_137 (by decide) rfl d_S_told_52 ?_
      refine aw_top (x2 := nI 0) (h8) ?_
      exact as_reti rfl d_S_told_55 (tz (by omega) _)
    · refine aw_tabInI 1 (by omega) (by decide) rfl (tgt := 56) (by decide) d_S_told_20 ?_
      refine aw_aload_n rfl rfl d_S_told_56 ?_
      refine aw_getr fl_S_12 kc_0 (by decide) rfl rc_0_0 d_S_told_57 ?_
      refine aw_geti fl_S_262 kc_1 (by decide) rfl d_S_told_60 ?_
      refine aw_top (x2 := nI 0) (r7) ?_
      exact as_reti rfl d_S_told_63 (tz (by omega) _)
    · refine aw_tabInI 2 (by omega) (by decide) rfl (tgt := 64) (by decide) d_S_told_20 ?_
      refine aw_aload_n rfl rfl d_S_told_64 ?_
      refine aw_getr fl_S_12 kc_0 (by decide) rfl rc_0_0 d_S_told_65 ?_
      refine aw_geti fl_S_57 kc_1 (by decide) rfl d_S_told_68 ?_
      refine aw_top (x2 := nI 0) (r6) ?_
      exact as_reti rfl d_S_told_71 (tz (by omega) _)
    · refine aw_tabOut (tgt := 72) (by omega) (by decide) d_S_told_20 ?_
      refine aw_iconst (v := (-1 : Int32)) rfl d_S_told_72 ?_
      exact as_reti rfl d_S_told_73 (tb (by omega) _)
  · refine aw_iload_n rfl rfl d_S_told_4 ?_
    refine aw_iconst (v := nI 5) ci_5 d_S_told_5 ?_
    refine aw_icmp_gtI (tgt := 19) (x).toInt (5) rfl (by decide +kernel) (by decide) d_S_told_6 (fun c2 => ?_) (fun c2 => ?_)
    · refine aw_iload_n rfl rfl d_S_told_19 ?_
      rcases (show (x).toInt = 6 ∨ (x).toInt = 7 ∨ (x).toInt = 8 ∨ ((x).toInt < 6 ∨ 8 < (x).toInt) by omega) with qs | qs | qs | qs
      · refine aw_tabInI 0 (by omega) (by decide) rfl (tgt := 48) (by decide) d_S_told_20 ?_
        refine aw_aload_n rfl rfl d_S_told_48 ?_
        refine aw_getr fl_S_33 kc_0 (by decide) rfl rc_0_4 d_S_told_49 ?_
        refine aw_geti fl_S_259 kc_137 (by decide) rfl d_S_told_52 ?_
        refine aw_top (x2 := nI 0) (h8) ?_
        exact as_reti rfl d_S_told_55 (tz (by omega) _)
      · refine aw_tabInI 1 (by omega) (by decide) rfl (tgt := 56) (by decide) d_S_told_20 ?_
        refine aw_aload_n rfl rfl d_S_told_56 ?_
        refine aw_getr fl_S_12 kc_0 (by decide) rfl rc_0_0 d_S_told_57 ?_
        refine aw_geti fl_S_262 kc_1 (by decide) rfl d_S_told_60 ?_
        refine aw_top (x2 := nI 0) (r7) ?_
        exact as_reti rfl d_S_told_63 (tz (by omega) _)
      · refine aw_tabInI 2 (by omega) (by decide) rfl (tgt := 64) (by decide) d_S_told_20 ?_
        refine aw_aload_n rfl rfl d_S_told_64 ?_
        refine aw_getr fl_S_12 kc_0 (by decide) rfl rc_0_0 d_S_told_65 ?_
        refine aw_geti fl_S_57 kc_1 (by decide) rfl d_S_told_68 ?_
        refine aw_top (x2 := nI 0) (r6) ?_
        exact as_reti rfl d_S_told_71 (tz (by omega) _)
      · refine aw_tabOut (tgt := 72) (by omega) (by decide) d_S_told_20 ?_
        refine aw_iconst (v := (-1 : Int32)) rfl d_S_told_72 ?_
        exact as_reti rfl d_S_told_73 (tb (by omega) _)
    · obtain ⟨w1, hw1, ew1, gw1⟩ := nI_of_range (x := x) (n := 6) (by omega) (by omega)
      subst ew1
      rcases (show w1 = 0 ∨ w1 = 1 ∨ w1 = 2 ∨ w1 = 3 ∨ w1 = 4 ∨ w1 = 5 by omega) with rfl | rfl | rfl | rfl | rfl | rfl
      · refine aw_aload_n rfl rfl d_S_told_9 ?_
        refine aw_getr fl_S_12 kc_0 (by decide) rfl rc_0_0 d_S_told_10 ?_
        refine aw_getr fl_S_65 kc_1 (by decide) rfl rc_1_0 d_S_told_13 ?_
        refine aw_iload_n rfl rfl d_S_told_16 ?_
        refine aw_iald (j := 0) kc_2 (vp_in_nI (by decide) (by decide)) (nI_clamp (by decide)) d_S_told_17 ?_
        refine aw_top (x2 := nI 4) (f3) ?_
        exact as_reti rfl d_S_told_18 (t0 (by omega) _)
      · refine aw_aload_n rfl rfl d_S_told_9 ?_
        refine aw_getr fl_S_12 kc_0 (by decide) rfl rc_0_0 d_S_told_10 ?_
        refine aw_getr fl_S_65 kc_1 (by decide) rfl rc_1_0 d_S_told_13 ?_
        refine aw_iload_n rfl rfl d_S_told_16 ?_
        refine aw_iald (j := 1) kc_2 (vp_in_nI (by decide) (by decide)) (nI_clamp (by decide)) d_S_told_17 ?_
        refine aw_top (x2 := nI 6) (t1) ?_
        exact as_reti rfl d_S_told_18 (t1' (by omega) _)
      · refine aw_aload_n rfl rfl d_S_told_9 ?_
        refine aw_getr fl_S_12 kc_0 (by decide) rfl rc_0_0 d_S_told_10 ?_
        refine aw_getr fl_S_65 kc_1 (by decide) rfl rc_1_0 d_S_told_13 ?_
        refine aw_iload_n rfl rfl d_S_told_16 ?_
        refine aw_iald (j := 2) kc_2 (vp_in_nI (by decide) (by decide)) (nI_clamp (by decide)) d_S_told_17 ?_
        refine aw_top (x2 := nI 40) (t2) ?_
        exact as_reti rfl d_S_told_18 (t2' (by omega) _)
      · refine aw_aload_n rfl rfl d_S_told_9 ?_
        refine aw_getr fl_S_12 kc_0 (by decide) rfl rc_0_0 d_S_told_10 ?_
        refine aw_getr fl_S_65 kc_1 (by decide) rfl rc_1_0 d_S_told_13 ?_
        refine aw_iload_n rfl rfl d_S_told_16 ?_
        refine aw_iald (j := 3) kc_2 (vp_in_nI (by decide) (by decide)) (nI_clamp (by decide)) d_S_told_17 ?_
        refine aw_top (x2 := nI 0) (f4) ?_
        exact as_reti rfl d_S_told_18 (tz (by omega) _)
      · refine aw_aload_n rfl rfl d_S_told_9 ?_
        refine aw_getr fl_S_12 kc_0 (by decide) rfl rc_0_0 d_S_told_10 ?_
        refine aw_getr fl_S_65 kc_1 (by decide) rfl rc_1_0 d_S_told_13 ?_
        refine aw_iload_n rfl rfl d_S_told_16 ?_
        refine aw_iald (j := 4) kc_2 (vp_in_nI (by decide) (by decide)) (nI_clamp (by decide)) d_S_told_17 ?_
        refine aw_top (x2 := nI 0) (t4) ?_
        exact as_reti rfl d_S_told_18 (tz (by omega) _)
      · refine aw_aload_n rfl rfl d_S_told_9 ?_
        refine aw_getr fl_S_12 kc_0 (by decide) rfl rc_0_0 d_S_told_10 ?_
        refine aw_getr fl_S_65 kc_1 (by decide) rfl rc_1_0 d_S_told_13 ?_
        refine aw_iload_n rfl rfl d_S_told_16 ?_
        refine aw_iald (j := 5) kc_2 (vp_in_nI (by decide) (by decide)) (nI_clamp (by decide)) d_S_told_17 ?_
        refine aw_top (x2 := nI 0) (f5) ?_
        exact as_reti rfl d_S_told_18 (tz (by omega) _)
set_option maxRecDepth 20000 in
theorem cs_thought {K2 : K2T} {I : Nat → Nat → Int32} (hR : FRc I) {x z u v c : Int32} (he : (0 ≤ x.toInt ∧ x.toInt ≤ 3 ∧ 0 ≤ z.toInt ∧ z.toInt ≤ 99 ∧ 2 ≤ u.toInt ∧ u.toInt ≤ 8 ∧ 1 ≤ v.toInt ∧ v.toInt ≤ 40 ∧ 0 ≤ c.toInt ∧ c.toInt ≤ 5) ∧ c.toInt = 0 → ∀ I', K2 (some (.int (nI (v.toInt.toNat * u.toInt.toNat)))) I') (hz : (0 ≤ x.toInt ∧ x.toInt ≤ 3 ∧ 0 ≤ z.toInt ∧ z.toInt ≤ 99 ∧ 2 ≤ u.toInt ∧ u.toInt ≤ 8 ∧ 1 ≤ v.toInt ∧ v.toInt ≤ 40 ∧ 0 ≤ c.toInt ∧ c.toInt ≤ 5) ∧ c.toInt ≠ 0 → ∀ I', K2 (some (.int (nI 0))) I') (hb : ¬ (0 ≤ x.toInt ∧ x.toInt ≤ 3 ∧ 0 ≤ z.toInt ∧ z.toInt ≤ 99 ∧ 2 ≤ u.toInt ∧ u.toInt ≤ 8 ∧ 1 ≤ v.toInt ∧ v.toInt ≤ 40 ∧ 0 ≤ c.toInt ∧ c.toInt ≤ 5) → ∀ I', K2 (some (.int (-1))) I') : Ss l b 14 y_S_thought KC RC [.ref 0, .int (x), .int (z), .int (u), .int (v), .int (c)] (I) K2 := by
  obtain ⟨hF, r6, r7, r11, t1, t2, t4, hh, tm, h7, h8, h9, q1, q10, q11, im, p0⟩ := hR
  have hF0 := hF
  obtain ⟨f0, f1, f2, f3, f4, f5, f6, f7, f8, f9, f10, f11, f12, f13, fb⟩ := hF
  have f0 : ∀ j, j < 32 → I 5 j = nI 0 := f0
  have f1 : ∀ j, j < 6 → I 9 j = nI 0 := f1
  have f2 : ∀ j, j < 6 → I 10 j = nI 9 := f2
  have f3 : I 2 0 = nI (4) := f3
  have f4 : I 2 3 = nI 0 := f4
  have f5 : I 2 5 = nI (0) := f5
  have f6 : I 11 1 = nI (0) := f6
  have f7 : I 11 0 = nI (0) := f7
  have f8 : ∀ j, j < 40 → j ≠ 0 → j ≠ 1 → j ≠ 3 → I 11 j = nI 0 := f8
  have f9 : I 16 4 = nI 0 := f9
  have f10 : I 21 4 = nI 0 := f10
  have f11 : I 26 4 = nI 0 := f11
  have f12 : I 31 4 = nI 0 := f12
  have f13 : I 36 4 = nI 0 := f13
  refine Ss.of (show As l b 14 y_S_thought KC RC K2 (I) 0 [.ref 0, .int (x), .int (z), .int (u), .int (v), .int (c)] [] from ?_)
  refine aw_iconst (v := nI 5) ci_5 d_S_thought_0 ?_
  refine aw_iload_n rfl rfl d_S_thought_1 ?_
  refine as_callS (as := [.int (nI 5), .int (x)]) (d' := 13) mo_S_canTell lk_S_61 rfl ⟨by decide, by decide⟩ rfl rfl (by decide) d_S_thought_2 (Ss.of (show As l b 13 y_S_canTell KC RC _ (I) 0 [.int (nI 5), .int (x)] [] from ?_))
  refine aw_iload_n rfl rfl d_S_canTell_0 ?_
  refine aw_if_ltI (tgt := 31) (5) (by decide +kernel) (by decide) d_S_canTell_1 (fun q => absurd q (by decide)) (fun _ => ?_)
  refine aw_iload_n rfl rfl d_S_canTell_4 ?_
  refine aw_iconst (v := nI 5) ci_5 d_S_canTell_5 ?_
  refine aw_icmp_gtI (tgt := 31) (5) (5) (by decide +kernel) (by decide +kernel) (by decide) d_S_canTell_6 (fun q => absurd q (by decide)) (fun _ => ?_)
  refine aw_iload_n rfl rfl d_S_canTell_9 ?_
  refine aw_getsL gs_S_265 d_S_canTell_10 ?_
  refine aw_iload_n rfl rfl d_S_canTell_13 ?_
  refine aw_ialdL (j := 5) (vp_in_nI (by omega) (by omega)) (nI_clamp (by omega)) d_S_canTell_14 ?_
  refine aw_top (x2 := nI 0) (by decide +kernel) ?_
  refine aw_icmp_ltI (tgt := 31) (x).toInt (0) rfl (by decide +kernel) (by decide) d_S_canTell_15 (fun c1 => ?_) (fun c1 => ?_)
  · refine aw_iconst (v := nI 0) ci_0 d_S_canTell_31 ?_
    refine as_retz rfl (by decide +kernel) d_S_canTell_32 ?_
    refine (show As l b 14 y_S_thought KC RC K2 (I) 5 [.ref 0, .int (x), .int (z), .int (u), .int (v), .int (c)] [.int (nI 0)] from ?_)
    refine aw_if_eqI (tgt := 24) (0) (by decide +kernel) (by decide) d_S_thought_5 (fun _ => ?_) (fun q => absurd q (by decide))
    refine aw_iconst (v := (-1 : Int32)) rfl d_S_thought_24 ?_
    exact as_reti rfl d_S_thought_25 (hb (by omega) _)
  · refine aw_iload_n rfl rfl d_S_canTell_18 ?_
    refine aw_getsM gs_S_268 d_S_canTell_19 ?_
    refine aw_iload_n rfl rfl d_S_canTell_22 ?_
    refine aw_ialdM (j := 5) (vp_in_nI (by omega) (by omega)) (nI_clamp (by omega)) d_S_canTell_23 ?_
    refine aw_top (x2 := nI 3) (by decide +kernel) ?_
    refine aw_icmp_gtI (tgt := 31) (x).toInt (3) rfl (by decide +kernel) (by decide) d_S_canTell_24 (fun c2 => ?_) (fun c2 => ?_)
    · refine aw_iconst (v := nI 0) ci_0 d_S_canTell_31 ?_
      refine as_retz rfl (by decide +kernel) d_S_canTell_32 ?_
      refine (show As l b 14 y_S_thought KC RC K2 (I) 5 [.ref 0, .int (x), .int (z), .int (u), .int (v), .int (c)] [.int (nI 0)] from ?_)
      refine aw_if_eqI (tgt := 24) (0) (by decide +kernel) (by decide) d_S_thought_5 (fun _ => ?_) (fun q => absurd q (by decide))
      refine aw_iconst (v := (-1 : Int32)) rfl d_S_thought_24 ?_
      exact as_reti rfl d_S_thought_25 (hb (by omega) _)
    · refine aw_iconst (v := nI 1) ci_1 d_S_canTell_27 ?_
      refine aw_goto (tgt := 32) (by decide) d_S_canTell_28 ?_
      refine as_retz rfl (by decide +kernel) d_S_canTell_32 ?_
      refine (show As l b 14 y_S_thought KC RC K2 (I) 5 [.ref 0, .int (x), .int (z), .int (u), .int (v), .int (c)] [.int (nI 1)] from ?_)
      refine aw_if_eqI (tgt := 24) (1) (by decide +kernel) (by decide) d_S_thought_5 (fun q => absurd q (by decide)) (fun _ => ?_)
      refine aw_iconst (v := nI 4) ci_4 d_S_thought_8 ?_
      refine aw_iload_n rfl rfl d_S_thought_9 ?_
      refine as_callS (as := [.int (nI 4), .int (z)]) (d' := 13) mo_S_canTell lk_S_61 rfl ⟨by decide, by decide⟩ rfl rfl (by decide) d_S_thought_10 (Ss.of (show As l b 13 y_S_canTell KC RC _ (I) 0 [.int (nI 4), .int (z)] [] from ?_))
      refine aw_iload_n rfl rfl d_S_canTell_0 ?_
      refine aw_if_ltI (tgt := 31) (4) (by decide +kernel) (by decide) d_S_canTell_1 (fun q => absurd q (by decide)) (fun _ => ?_)
      refine aw_iload_n rfl rfl d_S_canTell_4 ?_
      refine aw_iconst (v := nI 5) ci_5 d_S_canTell_5 ?_
      refine aw_icmp_gtI (tgt := 31) (4) (5) (by decide +kernel) (by decide +kernel) (by decide) d_S_canTell_6 (fun q => absurd q (by decide)) (fun _ => ?_)
      refine aw_iload_n rfl rfl d_S_canTell_9 ?_
      refine aw_getsL gs_S_265 d_S_canTell_10 ?_
      refine aw_iload_n rfl rfl d_S_canTell_13 ?_
      refine aw_ialdL (j := 4) (vp_in_nI (by omega) (by omega)) (nI_clamp (by omega)) d_S_canTell_14 ?_
      refine aw_top (x2 := nI 0) (by decide +kernel) ?_
      refine aw_icmp_ltI (tgt := 31) (z).toInt (0) rfl (by decide +kernel) (by decide) d_S_canTell_15 (fun c3 => ?_) (fun c3 => ?_)
      · refine aw_iconst (v := nI 0) ci_0 d_S_canTell_31 ?_
        refine as_retz rfl (by decide +kernel) d_S_canTell_32 ?_
        refine (show As l b 14 y_S_thought KC RC K2 (I) 13 [.ref 0, .int (x), .int (z), .int (u), .int (v), .int (c)] [.int (nI 0)] from ?_)
        refine aw_if_eqI (tgt := 24) (0) (by decide +kernel) (by decide) d_S_thought_13 (fun _ => ?_) (fun q => absurd q (by decide))
        refine aw_iconst (v := (-1 : Int32)) rfl d_S_thought_24 ?_
        exact as_reti rfl d_S_thought_25 (hb (by omega) _)
      · refine aw_iload_n rfl rfl d_S_canTell_18 ?_
        refine aw_getsM gs_S_268 d_S_canTell_19 ?_
        refine aw_iload_n rfl rfl d_S_canTell_22 ?_
        refine aw_ialdM (j := 4) (vp_in_nI (by omega) (by omega)) (nI_clamp (by omega)) d_S_canTell_23 ?_
        refine aw_top (x2 := nI 99) (by decide +kernel) ?_
        refine aw_icmp_gtI (tgt := 31) (z).toInt (99) rfl (by decide +kernel) (by decide) d_S_canTell_24 (fun c4 => ?_) (fun c4 => ?_)
        · refine aw_iconst (v := nI 0) ci_0 d_S_canTell_31 ?_
          refine as_retz rfl (by decide +kernel) d_S_canTell_32 ?_
          refine (show As l b 14 y_S_thought KC RC K2 (I) 13 [.ref 0, .int (x), .int (z), .int (u), .int (v), .int (c)] [.int (nI 0)] from ?_)
          refine aw_if_eqI (tgt := 24) (0) (by decide +kernel) (by decide) d_S_thought_13 (fun _ => ?_) (fun q => absurd q (by decide))
          refine aw_iconst (v := (-1 : Int32)) rfl d_S_thought_24 ?_
          exact as_reti rfl d_S_thought_25 (hb (by omega) _)
        · refine aw_iconst (v := nI 1) ci_1 d_S_canTell_27 ?_
          refine aw_goto (tgt := 32) (by decide) d_S_canTell_28 ?_
          refine as_retz rfl (by decide +kernel) d_S_canTell_32 ?_
          refine (show As l b 14 y_S_thought KC RC K2 (I) 13 [.ref 0, .int (x), .int (z), .int (u), .int (v), .int (c)] [.int (nI 1)] from ?_)
          refine aw_if_eqI (tgt := 24) (1) (by decide +kernel) (by decide) d_S_thought_13 (fun q => absurd q (by decide)) (fun _ => ?_)
          refine aw_iconst (v := nI 0) ci_0 d_S_thought_16 ?_
          refine aw_iload_n rfl rfl d_S_thought_17 ?_
          refine as_callS (as := [.int (nI 0), .int (u)]) (d' := 13) mo_S_canTell lk_S_61 rfl ⟨by decide, by decide⟩ rfl rfl (by decide) d_S_thought_18 (Ss.of (show As l b 13 y_S_canTell KC RC _ (I) 0 [.int (nI 0), .int (u)] [] from ?_))
          refine aw_iload_n rfl rfl d_S_canTell_0 ?_
          refine aw_if_ltI (tgt := 31) (0) (by decide +kernel) (by decide) d_S_canTell_1 (fun q => absurd q (by decide)) (fun _ => ?_)
          refine aw_iload_n rfl rfl d_S_canTell_4 ?_
          refine aw_iconst (v := nI 5) ci_5 d_S_canTell_5 ?_
          refine aw_icmp_gtI (tgt := 31) (0) (5) (by decide +kernel) (by decide +kernel) (by decide) d_S_canTell_6 (fun q => absurd q (by decide)) (fun _ => ?_)
          refine aw_iload_n rfl rfl d_S_canTell_9 ?_
          refine aw_getsL gs_S_265 d_S_canTell_10 ?_
          refine aw_iload_n rfl rfl d_S_canTell_13 ?_
          refine aw_ialdL (j := 0) (vp_in_nI (by omega) (by omega)) (nI_clamp (by omega)) d_S_canTell_14 ?_
          refine aw_top (x2 := nI 2) (by decide +kernel) ?_
          refine aw_icmp_ltI (tgt := 31) (u).toInt (2) rfl (by decide +kernel) (by decide) d_S_canTell_15 (fun c5 => ?_) (fun c5 => ?_)
          · refine aw_iconst (v := nI 0) ci_0 d_S_canTell_31 ?_
            refine as_retz rfl (by decide +kernel) d_S_canTell_32 ?_
            refine (show As l b 14 y_S_thought KC RC K2 (I) 21 [.ref 0, .int (x), .int (z), .int (u), .int (v), .int (c)] [.int (nI 0)] from ?_)
            refine aw_if_neI (tgt := 26) (0) (by decide +kernel) (by decide) d_S_thought_21 (fun q => absurd q (by decide)) (fun _ => ?_)
            refine aw_iconst (v := (-1 : Int32)) rfl d_S_thought_24 ?_
            exact as_reti rfl d_S_thought_25 (hb (by omega) _)
          · refine aw_iload_n rfl rfl d_S_canTell_18 ?_
            refine aw_getsM gs_S_268 d_S_canTell_19 ?_
            refine aw_iload_n rfl rfl d_S_canTell_22 ?_
            refine aw_ialdM (j := 0) (vp_in_nI (by omega) (by omega)) (nI_clamp (by omega)) d_S_canTell_23 ?_
            refine aw_top (x2 := nI 8) (by decide +kernel) ?_
            refine aw_icmp_gtI (tgt := 31) (u).toInt (8) rfl (by decide +kernel) (by decide) d_S_canTell_24 (fun c6 => ?_) (fun c6 => ?_)
            · refine aw_iconst (v := nI 0) ci_0 d_S_canTell_31 ?_
              refine as_retz rfl (by decide +kernel) d_S_canTell_32 ?_
              refine (show As l b 14 y_S_thought KC RC K2 (I) 21 [.ref 0, .int (x), .int (z), .int (u), .int (v), .int (c)] [.int (nI 0)] from ?_)
              refine aw_if_neI (tgt := 26) (0) (by decide +kernel) (by decide) d_S_thought_21 (fun q => absurd q (by decide)) (fun _ => ?_)
              refine aw_iconst (v := (-1 : Int32)) rfl d_S_thought_24 ?_
              exact as_reti rfl d_S_thought_25 (hb (by omega) _)
            · refine aw_iconst (v := nI 1) ci_1 d_S_canTell_27 ?_
              refine aw_goto (tgt := 32) (by decide) d_S_canTell_28 ?_
              refine as_retz rfl (by decide +kernel) d_S_canTell_32 ?_
              refine (show As l b 14 y_S_thought KC RC K2 (I) 21 [.ref 0, .int (x), .int (z), .int (u), .int (v), .int (c)] [.int (nI 1)] from ?_)
              refine aw_if_neI (tgt := 26) (1) (by decide +kernel) (by decide) d_S_thought_21 (fun _ => ?_) (fun q => absurd q (by decide))
              refine aw_iload rfl d_S_thought_26 ?_
              refine aw_iconst (v := nI 1) ci_1 d_S_thought_28 ?_
              refine aw_icmp_ltI (tgt := 50) (v).toInt (1) rfl (by decide +kernel) (by decide) d_S_thought_29 (fun c7 => ?_) (fun c7 => ?_)
              · refine aw_iconst (v := (-1 : Int32)) rfl d_S_thought_50 ?_
                exact as_reti rfl d_S_thought_51 (hb (by omega) _)
              · refine aw_iload rfl d_S_thought_32 ?_
                refine aw_bipush (v := nI 40) cb_40 d_S_thought_34 ?_
                refine aw_icmp_gtI (tgt := 50) (v).toInt (40) rfl (by decide +kernel) (by decide) d_S_thought_36 (fun c8 => ?_) (fun c8 => ?_)
                · refine aw_iconst (v := (-1 : Int32)) rfl d_S_thought_50 ?_
                  exact as_reti rfl d_S_thought_51 (hb (by omega) _)
                · refine aw_iload rfl d_S_thought_39 ?_
                  refine aw_if_ltI (tgt := 50) (c).toInt rfl (by decide) d_S_thought_41 (fun c9 => ?_) (fun c9 => ?_)
                  · refine aw_iconst (v := (-1 : Int32)) rfl d_S_thought_50 ?_
                    exact as_reti rfl d_S_thought_51 (hb (by omega) _)
                  · refine aw_iload rfl d_S_thought_44 ?_
                    refine aw_iconst (v := nI 5) ci_5 d_S_thought_46 ?_
                    refine aw_icmp_leI (tgt := 52) (c).toInt (5) rfl (by decide +kernel) (by decide) d_S_thought_47 (fun c10 => ?_) (fun c10 => ?_)
                    · refine aw_aload_n rfl rfl d_S_thought_52 ?_
                      refine aw_getr fl_S_22 kc_0 (by decide) rfl rc_0_2 d_S_thought_53 ?_
                      refine aw_aload_n rfl rfl d_S_thought_56 ?_
                      refine aw_getr fl_S_12 kc_0 (by decide) rfl rc_0_0 d_S_thought_57 ?_
                      refine aw_iload_n rfl rfl d_S_thought_60 ?_
                      refine aw_iload_n rfl rfl d_S_thought_61 ?_
                      refine aw_iload_n rfl rfl d_S_thought_62 ?_
                      refine aw_iload rfl d_S_thought_63 ?_
                      refine as_callV (as := [.ref 1, .int (x), .int (z), .int (u), .int (v)]) (d' := 13) (q := ("SinglesUp$Mind", zT5, 3)) mo_M_imagine lk_S_219 kc_81 rfl rfl rfl ⟨by decide, by decide⟩ rfl rfl (by decide) d_S_thought_65 (Ss.of (show As l b 13 y_M_imagine KC RC _ (I) 0 [.ref 81, .ref 1, .int (x), .int (z), .int (u), .int (v)] [] from ?_))
                      obtain ⟨w1, hw1, ew1, gw1⟩ := nI_of_range (x := x) (n := 4) (by omega) (by omega)
                      subst ew1
                      obtain ⟨w3, hw3, ew3, gw3⟩ := nI_of_range (x := u) (n := 9) (by omega) (by omega)
                      subst ew3
                      obtain ⟨w4, hw4, ew4, gw4⟩ := nI_of_range (x := v) (n := 41) (by omega) (by omega)
                      subst ew4
                      refine aw_aload_n rfl rfl d_M_imagine_0 ?_
                      refine aw_getr fl_M_12 kc_81 (by decide) rfl rc_81_0 d_M_imagine_1 ?_
                      refine aw_aload_n rfl rfl d_M_imagine_4 ?_
                      refine as_callV (as := [.ref 1]) (d' := 12) (q := ("SinglesUp$Hill", zT2, 14)) mo_H_copyFrom lk_M_29 kc_82 rfl rfl rfl ⟨by decide, by decide⟩ rfl rfl (by decide) d_M_imagine_5 (Ss.of (show As l b 12 y_H_copyFrom KC RC _ (I) 0 [.ref 82, .ref 1, uu] [] from ?_))
                      refine aw_iconst (v := nI 0) ci_0 d_H_copyFrom_0 ?_
                      refine aw_istore_n (lv2 := [.ref 82, .ref 1, .int (nI 0)]) rfl (by decide) rfl d_H_copyFrom_1 ?_
                      refine aw_iload_n rfl rfl d_H_copyFrom_2 ?_
                      refine aw_aload_n rfl rfl d_H_copyFrom_3 ?_
                      refine aw_getr fl_H_17 kc_82 (by decide) rfl rc_82_1 d_H_copyFrom_4 ?_
                      refine aw_alen kc_84 (by decide) d_H_copyFrom_7 ?_
                      refine aw_icmp_geI (tgt := 41) (0) (5) (by decide +kernel) (by decide +kernel) (by decide) d_H_copyFrom_8 (fun q => absurd q (by decide)) (fun _ => ?_)
                      refine aw_iload_n rfl rfl d_H_copyFrom_11 ?_
                      refine aw_aload_n rfl rfl d_H_copyFrom_12 ?_
                      refine aw_getr fl_H_17 kc_1 (by decide) rfl rc_1_1 d_H_copyFrom_13 ?_
                      refine aw_alen kc_3 (by decide) d_H_copyFrom_16 ?_
                      refine aw_icmp_geI (tgt := 41) (0) (5) (by decide +kernel) (by decide +kernel) (by decide) d_H_copyFrom_17 (fun q => absurd q (by decide)) (fun _ => ?_)
                      refine aw_aload_n rfl rfl d_H_copyFrom_20 ?_
                      refine aw_getr fl_H_17 kc_82 (by decide) rfl rc_82_1 d_H_copyFrom_21 ?_
                      refine aw_iload_n rfl rfl d_H_copyFrom_24 ?_
                      refine aw_aald (j := 0) kc_84 (vp_in_nI (by decide) (by decide)) (nI_clamp (by decide)) rc_84_0 d_H_copyFrom_25 ?_
                      refine aw_aload_n rfl rfl d_H_copyFrom_26 ?_
                      refine aw_getr fl_H_17 kc_1 (by decide) rfl rc_1_1 d_H_copyFrom_27 ?_
                      refine aw_iload_n rfl rfl d_H_copyFrom_30 ?_
                      refine aw_aald (j := 0) kc_3 (vp_in_nI (by decide) (by decide)) (nI_clamp (by decide)) rc_3_0 d_H_copyFrom_31 ?_
                      refine as_callV (as := [.ref 16]) (d' := 11) (q := ("SinglesUp$Law", zT3, 6)) mo_W_copyFrom lk_H_57 kc_97 rfl rfl rfl ⟨by decide, by decide⟩ rfl rfl (by decide) d_H_copyFrom_32 (Ss.of (show As l b 11 y_W_copyFrom KC RC _ (I) 0 [.ref 97, .ref 16] [] from ?_))
                      refine aw_aload_n rfl rfl d_W_copyFrom_0 ?_
                      refine aw_aload_n rfl rfl d_W_copyFrom_1 ?_
                      refine aw_geti fl_W_22 kc_16 (by decide) rfl d_W_copyFrom_2 ?_
                      refine aw_puti fl_W_22 kc_97 (by decide) rfl rfl rfl rfl d_W_copyFrom_5 ?_
                      refine aw_aload_n rfl rfl d_W_copyFrom_8 ?_
                      refine aw_aload_n rfl rfl d_W_copyFrom_9 ?_
                      refine aw_geti fl_W_26 kc_16 (by decide) rfl d_W_copyFrom_10 ?_
                      refine aw_top (x2 := nI 0) (Eq.trans (congrFun (upd2_ne (by decide)) (4)) (f9)) ?_
                      refine aw_puti fl_W_26 kc_97 (by decide) rfl rfl rfl rfl d_W_copyFrom_13 ?_
                      refine aw_aload_n rfl rfl d_W_copyFrom_16 ?_
                      refine aw_getr fl_W_9 kc_16 (by decide) rfl rc_16_0 d_W_copyFrom_17 ?_
                      refine aw_iconst (v := nI 0) ci_0 d_W_copyFrom_20 ?_
                      refine aw_aload_n rfl rfl d_W_copyFrom_21 ?_
                      refine aw_getr fl_W_9 kc_97 (by decide) rfl rc_97_0 d_W_copyFrom_22 ?_
                      refine aw_iconst (v := nI 0) ci_0 d_W_copyFrom_25 ?_
                      refine aw_sipush (v := nI 400) cs_400 d_W_copyFrom_26 ?_
                      refine as_copy0 (n := 400) lka_W_29 ac_nat ac_sta ac_ini kc_17 kc_98 (by omega) (by omega) (by omega) (by decide) rfl d_W_copyFrom_29 (fun J11 e12 e13 e14 => ?_)
                      refine aw_aload_n rfl rfl d_W_copyFrom_32 ?_
                      refine aw_getr fl_W_13 kc_16 (by decide) rfl rc_16_2 d_W_copyFrom_33 ?_
                      refine aw_iconst (v := nI 0) ci_0 d_W_copyFrom_36 ?_
                      refine aw_aload_n rfl rfl d_W_copyFrom_37 ?_
                      refine aw_getr fl_W_13 kc_97 (by decide) rfl rc_97_2 d_W_copyFrom_38 ?_
                      refine aw_iconst (v := nI 0) ci_0 d_W_copyFrom_41 ?_
                      refine aw_bipush (v := nI 17) cb_17 d_W_copyFrom_42 ?_
                      refine as_copy0 (n := 17) lka_W_29 ac_nat ac_sta ac_ini kc_18 kc_99 (by omega) (by omega) (by omega) (by decide) rfl d_W_copyFrom_44 (fun J15 e16 e17 e18 => ?_)
                      refine aw_aload_n rfl rfl d_W_copyFrom_47 ?_
                      refine aw_getr fl_W_16 kc_16 (by decide) rfl rc_16_3 d_W_copyFrom_48 ?_
                      refine aw_iconst (v := nI 0) ci_0 d_W_copyFrom_51 ?_
                      refine aw_aload_n rfl rfl d_W_copyFrom_52 ?_
                      refine aw_getr fl_W_16 kc_97 (by decide) rfl rc_97_3 d_W_copyFrom_53 ?_
                      refine aw_iconst (v := nI 0) ci_0 d_W_copyFrom_56 ?_
                      refine aw_bipush (v := nI 16) cb_16 d_W_copyFrom_57 ?_
                      refine as_copy0 (n := 16) lka_W_29 ac_nat ac_sta ac_ini kc_19 kc_100 (by omega) (by omega) (by omega) (by decide) rfl d_W_copyFrom_59 (fun J19 e20 e21 e22 => ?_)
                      refine as_retv rfl d_W_copyFrom_62 ?_
                      refine (show As l b 12 y_H_copyFrom KC RC _ (J19) 35 [.ref 82, .ref 1, .int (nI 0)] [] from ?_)
                      refine aw_iinc (v := nI 1) (lv2 := [.ref 82, .ref 1, .int (nI 1)]) rfl (by decide +kernel) (by decide) rfl d_H_copyFrom_35 ?_
                      refine aw_goto (tgt := 2) (by decide) d_H_copyFrom_38 ?_
                      refine aw_iload_n rfl rfl d_H_copyFrom_2 ?_
                      refine aw_aload_n rfl rfl d_H_copyFrom_3 ?_
                      refine aw_getr fl_H_17 kc_82 (by decide) rfl rc_82_1 d_H_copyFrom_4 ?_
                      refine aw_alen kc_84 (by decide) d_H_copyFrom_7 ?_
                      refine aw_icmp_geI (tgt := 41) (1) (5) (by decide +kernel) (by decide +kernel) (by decide) d_H_copyFrom_8 (fun q => absurd q (by decide)) (fun _ => ?_)
                      refine aw_iload_n rfl rfl d_H_copyFrom_11 ?_
                      refine aw_aload_n rfl rfl d_H_copyFrom_12 ?_
                      refine aw_getr fl_H_17 kc_1 (by decide) rfl rc_1_1 d_H_copyFrom_13 ?_
                      refine aw_alen kc_3 (by decide) d_H_copyFrom_16 ?_
                      refine aw_icmp_geI (tgt := 41) (1) (5) (by decide +kernel) (by decide +kernel) (by decide) d_H_copyFrom_17 (fun q => absurd q (by decide)) (fun _ => ?_)
                      refine aw_aload_n rfl rfl d_H_copyFrom_20 ?_
                      refine aw_getr fl_H_17 kc_82 (by decide) rfl rc_82_1 d_H_copyFrom_21 ?_
                      refine aw_iload_n rfl rfl d_H_copyFrom_24 ?_
                      refine aw_aald (j := 1) kc_84 (vp_in_nI (by decide) (by decide)) (nI_clamp (by decide)) rc_84_1 d_H_copyFrom_25 ?_
                      refine aw_aload_n rfl rfl d_H_copyFrom_26 ?_
                      refine aw_getr fl_H_17 kc_1 (by decide) rfl rc_1_1 d_H_copyFrom_27 ?_
                      refine aw_iload_n rfl rfl d_H_copyFrom_30 ?_
                      refine aw_aald (j := 1) kc_3 (vp_in_nI (by decide) (by decide)) (nI_clamp (by decide)) rc_3_1 d_H_copyFrom_31 ?_
                      refine as_callV (as := [.ref 21]) (d' := 11) (q := ("SinglesUp$Law", zT3, 6)) mo_W_copyFrom lk_H_57 kc_102 rfl rfl rfl ⟨by decide, by decide⟩ rfl rfl (by decide) d_H_copyFrom_32 (Ss.of (show As l b 11 y_W_copyFrom KC RC _ (J19) 0 [.ref 102, .ref 21] [] from ?_))
                      refine aw_aload_n rfl rfl d_W_copyFrom_0 ?_
                      refine aw_aload_n rfl rfl d_W_copyFrom_1 ?_
                      refine aw_geti fl_W_22 kc_21 (by decide) rfl d_W_copyFrom_2 ?_
                      refine aw_puti fl_W_22 kc_102 (by decide) rfl rfl rfl rfl d_W_copyFrom_5 ?_
                      refine aw_aload_n rfl rfl d_W_copyFrom_8 ?_
                      refine aw_aload_n rfl rfl d_W_copyFrom_9 ?_
                      refine aw_geti fl_W_26 kc_21 (by decide) rfl d_W_copyFrom_10 ?_
                      refine aw_top (x2 := nI 0) (Eq.trans (congrFun (upd2_ne (by decide)) (4)) (((congrFun (e20 21 (by decide)) (4)).trans (((congrFun (e16 21 (by decide)) (4)).trans (((congrFun (e12 21 (by decide)) (4)).trans (Eq.trans (congrFun (upd2_ne (by decide)) (4)) (Eq.trans (congrFun (upd2_ne (by decide)) (4)) (f10)))))))))) ?_
                      refine aw_puti fl_W_26 kc_102 (by decide) rfl rfl rfl rfl d_W_copyFrom_13 ?_
                      refine aw_aload_n rfl rfl d_W_copyFrom_16 ?_
                      refine aw_getr fl_W_9 kc_21 (by decide) rfl rc_21_0 d_W_copyFrom_17 ?_
                      refine aw_iconst (v := nI 0) ci_0 d_W_copyFrom_20 ?_
                      refine aw_aload_n rfl rfl d_W_copyFrom_21 ?_
                      refine aw_getr fl_W_9 kc_102 (by decide) rfl rc_102_0 d_W_copyFrom_22 ?_
                      refine aw_iconst (v := nI 0) ci_0 d_W_copyFrom_25 ?_
                      refine aw_sipush (v := nI 400) cs_400 d_W_copyFrom_26 ?_
                      refine as_copy0 (n := 400) lka_W_29 ac_nat ac_sta ac_ini kc_22 kc_103 (by omega) (by omega) (by omega) (by decide) rfl d_W_copyFrom_29 (fun J23 e24 e25 e26 => ?_)
                      refine aw_aload_n rfl rfl d_W_copyFrom_32 ?_
                      refine aw_getr fl_W_13 kc_21 (by decide) rfl rc_21_2 d_W_copyFrom_33 ?_
                      refine aw_iconst (v := nI 0) ci_0 d_W_copyFrom_36 ?_
                      refine aw_aload_n rfl rfl d_W_copyFrom_37 ?_
                      refine aw_getr fl_W_13 kc_102 (by decide) rfl rc_102_2 d_W_copyFrom_38 ?_
                      refine aw_iconst (v := nI 0) ci_0 d_W_copyFrom_41 ?_
                      refine aw_bipush (v := nI 17) cb_17 d_W_copyFrom_42 ?_
                      refine as_copy0 (n := 17) lka_W_29 ac_nat ac_sta ac_ini kc_23 kc_104 (by omega) (by omega) (by omega) (by decide) rfl d_W_copyFrom_44 (fun J27 e28 e29 e30 => ?_)
                      refine aw_aload_n rfl rfl d_W_copyFrom_47 ?_
                      refine aw_getr fl_W_16 kc_21 (by decide) rfl rc_21_3 d_W_copyFrom_48 ?_
                      refine aw_iconst (v := nI 0) ci_0 d_W_copyFrom_51 ?_
                      refine aw_aload_n rfl rfl d_W_copyFrom_52 ?_
                      refine aw_getr fl_W_16 kc_102 (by decide) rfl rc_102_3 d_W_copyFrom_53 ?_
                      refine aw_iconst (v := nI 0) ci_0 d_W_copyFrom_56 ?_
                      refine aw_bipush (v := nI 16) cb_16 d_W_copyFrom_57 ?_
                      refine as_copy0 (n := 16) lka_W_29 ac_nat ac_sta ac_ini kc_24 kc_105 (by omega) (by omega) (by omega) (by decide) rfl d_W_copyFrom_59 (fun J31 e32 e33 e34 => ?_)
                      refine as_retv rfl d_W_copyFrom_62 ?_
                      refine (show As l b 12 y_H_copyFrom KC RC _ (J31) 35 [.ref 82, .ref 1, .int (nI 1)] [] from ?_)
                      refine aw_iinc (v := nI 2) (lv2 := [.ref 82, .ref 1, .int (nI 2)]) rfl (by decide +kernel) (by decide) rfl d_H_copyFrom_35 ?_
                      refine aw_goto (tgt := 2) (by decide) d_H_copyFrom_38 ?_
                      refine aw_iload_n rfl rfl d_H_copyFrom_2 ?_
                      refine aw_aload_n rfl rfl d_H_copyFrom_3 ?_
                      refine aw_getr fl_H_17 kc_82 (by decide) rfl rc_82_1 d_H_copyFrom_4 ?_
                      refine aw_alen kc_84 (by decide) d_H_copyFrom_7 ?_
                      refine aw_icmp_geI (tgt := 41) (2) (5) (by decide +kernel) (by decide +kernel) (by decide) d_H_copyFrom_8 (fun q => absurd q (by decide)) (fun _ => ?_)
                      refine aw_iload_n rfl rfl d_H_copyFrom_11 ?_
                      refine aw_aload_n rfl rfl d_H_copyFrom_12 ?_
                      refine aw_getr fl_H_17 kc_1 (by decide) rfl rc_1_1 d_H_copyFrom_13 ?_
                      refine aw_alen kc_3 (by decide) d_H_copyFrom_16 ?_
                      refine aw_icmp_geI (tgt := 41) (2) (5) (by decide +kernel) (by decide +kernel) (by decide) d_H_copyFrom_17 (fun q => absurd q (by decide)) (fun _ => ?_)
                      refine aw_aload_n rfl rfl d_H_copyFrom_20 ?_
                      refine aw_getr fl_H_17 kc_82 (by decide) rfl rc_82_1 d_H_copyFrom_21 ?_
                      refine aw_iload_n rfl rfl d_H_copyFrom_24 ?_
                      refine aw_aald (j := 2) kc_84 (vp_in_nI (by decide) (by decide)) (nI_clamp (by decide)) rc_84_2 d_H_copyFrom_25 ?_
                      refine aw_aload_n rfl rfl d_H_copyFrom_26 ?_
                      refine aw_getr fl_H_17 kc_1 (by decide) rfl rc_1_1 d_H_copyFrom_27 ?_
                      refine aw_iload_n rfl rfl d_H_copyFrom_30 ?_
                      refine aw_aald (j := 2) kc_3 (vp_in_nI (by decide) (by decide)) (nI_clamp (by decide)) rc_3_2 d_H_copyFrom_31 ?_
                      refine as_callV (as := [.ref 26]) (d' := 11) (q := ("SinglesUp$Law", zT3, 6)) mo_W_copyFrom lk_H_57 kc_107 rfl rfl rfl ⟨by decide, by decide⟩ rfl rfl (by decide) d_H_copyFrom_32 (Ss.of (show As l b 11 y_W_copyFrom KC RC _ (J31) 0 [.ref 107, .ref 26] [] from ?_))
                      refine aw_aload_n rfl rfl d_W_copyFrom_0 ?_
                      refine aw_aload_n rfl rfl d_W_copyFrom_1 ?_
                      refine aw_geti fl_W_22 kc_26 (by decide) rfl d_W_copyFrom_2 ?_
                      refine aw_puti fl_W_22 kc_107 (by decide) rfl rfl rfl rfl d_W_copyFrom_5 ?_
                      refine aw_aload_n rfl rfl d_W_copyFrom_8 ?_
                      refine aw_aload_n rfl rfl d_W_copyFrom_9 ?_
                      refine aw_geti fl_W_26 kc_26 (by decide) rfl d_W_copyFrom_10 ?_
                      refine aw_top (x2 := nI 0) (Eq.trans (congrFun (upd2_ne (by decide)) (4)) (((congrFun (e32 26 (by decide)) (4)).trans (((congrFun (e28 26 (by decide)) (4)).trans (((congrFun (e24 26 (by decide)) (4)).trans (Eq.trans (congrFun (upd2_ne (by decide)) (4)) (Eq.trans (congrFun (upd2_ne (by decide)) (4)) (((congrFun (e20 26 (by decide)) (4)).trans (((congrFun (e16 26 (by decide)) (4)).trans (((congrFun (e12 26 (by decide)) (4)).trans (Eq.trans (congrFun (upd2_ne (by decide)) (4)) (Eq.trans (congrFun (upd2_ne (by decide)) (4)) (f11)))))))))))))))))) ?_
                      refine aw_puti fl_W_26 kc_107 (by decide) rfl rfl rfl rfl d_W_copyFrom_13 ?_
                      refine aw_aload_n rfl rfl d_W_copyFrom_16 ?_
                      refine aw_getr fl_W_9 kc_26 (by decide) rfl rc_26_0 d_W_copyFrom_17 ?_
                      refine aw_iconst (v := nI 0) ci_0 d_W_copyFrom_20 ?_
                      refine aw_aload_n rfl rfl d_W_copyFrom_21 ?_
                      refine aw_getr fl_W_9 kc_107 (by decide) rfl rc_107_0 d_W_copyFrom_22 ?_
                      refine aw_iconst (v := nI 0) ci_0 d_W_copyFrom_25 ?_
                      refine aw_sipush (v := nI 400) cs_400 d_W_copyFrom_26 ?_
                      refine as_copy0 (n := 400) lka_W_29 ac_nat ac_sta ac_ini kc_27 kc_108 (by omega) (by omega) (by omega) (by decide) rfl d_W_copyFrom_29 (fun J35 e36 e37 e38 => ?_)
                      refine aw_aload_n rfl rfl d_W_copyFrom_32 ?_
                      refine aw_getr fl_W_13 kc_26 (by decide) rfl rc_26_2 d_W_copyFrom_33 ?_
                      refine aw_iconst (v := nI 0) ci_0 d_W_copyFrom_36 ?_
                      refine aw_aload_n rfl rfl d_W_copyFrom_37 ?_
                      refine aw_getr fl_W_13 kc_107 (by decide) rfl rc_107_2 d_W_copyFrom_38 ?_
                      refine aw_iconst (v := nI 0) ci_0 d_W_copyFrom_41 ?_
                      refine aw_bipush (v := nI 17) cb_17 d_W_copyFrom_42 ?_
                      refine as_copy0 (n := 17) lka_W_29 ac_nat ac_sta ac_ini kc_28 kc_109 (by omega) (by omega) (by omega) (by decide) rfl d_W_copyFrom_44 (fun J39 e40 e41 e42 => ?_)
                      refine aw_aload_n rfl rfl d_W_copyFrom_47 ?_
                      refine aw_getr fl_W_16 kc_26 (by decide) rfl rc_26_3 d_W_copyFrom_48 ?_
                      refine aw_iconst (v := nI 0) ci_0 d_W_copyFrom_51 ?_
                      refine aw_aload_n rfl rfl d_W_copyFrom_52 ?_
                      refine aw_getr fl_W_16 kc_107 (by decide) rfl rc_107_3 d_W_copyFrom_53 ?_
                      refine aw_iconst (v := nI 0) ci_0 d_W_copyFrom_56 ?_
                      refine aw_bipush (v := nI 16) cb_16 d_W_copyFrom_57 ?_
                      refine as_copy0 (n := 16) lka_W_29 ac_nat ac_sta ac_ini kc_29 kc_110 (by omega) (by omega) (by omega) (by decide) rfl d_W_copyFrom_59 (fun J43 e44 e45 e46 => ?_)
                      refine as_retv rfl d_W_copyFrom_62 ?_
                      refine (show As l b 12 y_H_copyFrom KC RC _ (J43) 35 [.ref 82, .ref 1, .int (nI 2)] [] from ?_)
                      refine aw_iinc (v := nI 3) (lv2 := [.ref 82, .ref 1, .int (nI 3)]) rfl (by decide +kernel) (by decide) rfl d_H_copyFrom_35 ?_
                      refine aw_goto (tgt := 2) (by decide) d_H_copyFrom_38 ?_
                      refine aw_iload_n rfl rfl d_H_copyFrom_2 ?_
                      refine aw_aload_n rfl rfl d_H_copyFrom_3 ?_
                      refine aw_getr fl_H_17 kc_82 (by decide) rfl rc_82_1 d_H_copyFrom_4 ?_
                      refine aw_alen kc_84 (by decide) d_H_copyFrom_7 ?_
                      refine aw_icmp_geI (tgt := 41) (3) (5) (by decide +kernel) (by decide +kernel) (by decide) d_H_copyFrom_8 (fun q => absurd q (by decide)) (fun _ => ?_)
                      refine aw_iload_n rfl rfl d_H_copyFrom_11 ?_
                      refine aw_aload_n rfl rfl d_H_copyFrom_12 ?_
                      refine aw_getr fl_H_17 kc_1 (by decide) rfl rc_1_1 d_H_copyFrom_13 ?_
                      refine aw_alen kc_3 (by decide) d_H_copyFrom_16 ?_
                      refine aw_icmp_geI (tgt := 41) (3) (5) (by decide +kernel) (by decide +kernel) (by decide) d_H_copyFrom_17 (fun q => absurd q (by decide)) (fun _ => ?_)
                      refine aw_aload_n rfl rfl d_H_copyFrom_20 ?_
                      refine aw_getr fl_H_17 kc_82 (by decide) rfl rc_82_1 d_H_copyFrom_21 ?_
                      refine aw_iload_n rfl rfl d_H_copyFrom_24 ?_
                      refine aw_aald (j := 3) kc_84 (vp_in_nI (by decide) (by decide)) (nI_clamp (by decide)) rc_84_3 d_H_copyFrom_25 ?_
                      refine aw_aload_n rfl rfl d_H_copyFrom_26 ?_
                      refine aw_getr fl_H_17 kc_1 (by decide) rfl rc_1_1 d_H_copyFrom_27 ?_
                      refine aw_iload_n rfl rfl d_H_copyFrom_30 ?_
                      refine aw_aald (j := 3) kc_3 (vp_in_nI (by decide) (by decide)) (nI_clamp (by decide)) rc_3_3 d_H_copyFrom_31 ?_
                      refine as_callV (as := [.ref 31]) (d' := 11) (q := ("SinglesUp$Law", zT3, 6)) mo_W_copyFrom lk_H_57 kc_112 rfl rfl rfl ⟨by decide, by decide⟩ rfl rfl (by decide) d_H_copyFrom_32 (Ss.of (show As l b 11 y_W_copyFrom KC RC _ (J43) 0 [.ref 112, .ref 31] [] from ?_))
                      refine aw_aload_n rfl rfl d_W_copyFrom_0 ?_
                      refine aw_aload_n rfl rfl d_W_copyFrom_1 ?_
                      refine aw_geti fl_W_22 kc_31 (by decide) rfl d_W_copyFrom_2 ?_
                      refine aw_puti fl_W_22 kc_112 (by decide) rfl rfl rfl rfl d_W_copyFrom_5 ?_
                      refine aw_aload_n rfl rfl d_W_copyFrom_8 ?_
                      refine aw_aload_n rfl rfl d_W_copyFrom_9 ?_
                      refine aw_geti fl_W_26 kc_31 (by decide) rfl d_W_copyFrom_10 ?_
                      refine aw_top (x2 := nI 0) (Eq.trans (congrFun (upd2_ne (by decide)) (4)) (((congrFun (e44 31 (by decide)) (4)).trans (((congrFun (e40 31 (by decide)) (4)).trans (((congrFun (e36 31 (by decide)) (4)).trans (Eq.trans (congrFun (upd2_ne (by decide)) (4)) (Eq.trans (congrFun (upd2_ne (by decide)) (4)) (((congrFun (e32 31 (by decide)) (4)).trans (((congrFun (e28 31 (by decide)) (4)).trans (((congrFun (e24 31 (by decide)) (4)).trans (Eq.trans (congrFun (upd2_ne (by decide)) (4)) (Eq.trans (congrFun (upd2_ne (by decide)) (4)) (((congrFun (e20 31 (by decide)) (4)).trans (((congrFun (e16 31 (by decide)) (4)).trans (((congrFun (e12 31 (by decide)) (4)).trans (Eq.trans (congrFun (upd2_ne (by decide)) (4)) (Eq.trans (congrFun (upd2_ne (by decide)) (4)) (f12)))))))))))))))))))))))))) ?_
                      refine aw_puti fl_W_26 kc_112 (by decide) rfl rfl rfl rfl d_W_copyFrom_13 ?_
                      refine aw_aload_n rfl rfl d_W_copyFrom_16 ?_
                      refine aw_getr fl_W_9 kc_31 (by decide) rfl rc_31_0 d_W_copyFrom_17 ?_
                      refine aw_iconst (v := nI 0) ci_0 d_W_copyFrom_20 ?_
                      refine aw_aload_n rfl rfl d_W_copyFrom_21 ?_
                      refine aw_getr fl_W_9 kc_112 (by decide) rfl rc_112_0 d_W_copyFrom_22 ?_
                      refine aw_iconst (v := nI 0) ci_0 d_W_copyFrom_25 ?_
                      refine aw_sipush (v := nI 400) cs_400 d_W_copyFrom_26 ?_
                      refine as_copy0 (n := 400) lka_W_29 ac_nat ac_sta ac_ini kc_32 kc_113 (by omega) (by omega) (by omega) (by decide) rfl d_W_copyFrom_29 (fun J47 e48 e49 e50 => ?_)
                      refine aw_aload_n rfl rfl d_W_copyFrom_32 ?_
                      refine aw_getr fl_W_13 kc_31 (by decide) rfl rc_31_2 d_W_copyFrom_33 ?_
                      refine aw_iconst (v := nI 0) ci_0 d_W_copyFrom_36 ?_
                      refine aw_aload_n rfl rfl d_W_copyFrom_37 ?_
                      refine aw_getr fl_W_13 kc_112 (by decide) rfl rc_112_2 d_W_copyFrom_38 ?_
                      refine aw_iconst (v := nI 0) ci_0 d_W_copyFrom_41 ?_
                      refine aw_bipush (v := nI 17) cb_17 d_W_copyFrom_42 ?_
                      refine as_copy0 (n := 17) lka_W_29 ac_nat ac_sta ac_ini kc_33 kc_114 (by omega) (by omega) (by omega) (by decide) rfl d_W_copyFrom_44 (fun J51 e52 e53 e54 => ?_)
                      refine aw_aload_n rfl rfl d_W_copyFrom_47 ?_
                      refine aw_getr fl_W_16 kc_31 (by decide) rfl rc_31_3 d_W_copyFrom_48 ?_
                      refine aw_iconst (v := nI 0) ci_0 d_W_copyFrom_51 ?_
                      refine aw_aload_n rfl rfl d_W_copyFrom_52 ?_
                      refine aw_getr fl_W_16 kc_112 (by decide) rfl rc_112_3 d_W_copyFrom_53 ?_
                      refine aw_iconst (v := nI 0) ci_0 d_W_copyFrom_56 ?_
                      refine aw_bipush (v := nI 16) cb_16 d_W_copyFrom_57 ?_
                      refine as_copy0 (n := 16) lka_W_29 ac_nat ac_sta ac_ini kc_34 kc_115 (by omega) (by omega) (by omega) (by decide) rfl d_W_copyFrom_59 (fun J55 e56 e57 e58 => ?_)
                      refine as_retv rfl d_W_copyFrom_62 ?_
                      refine (show As l b 12 y_H_copyFrom KC RC _ (J55) 35 [.ref 82, .ref 1, .int (nI 3)] [] from ?_)
                      refine aw_iinc (v := nI 4) (lv2 := [.ref 82, .ref 1, .int (nI 4)]) rfl (by decide +kernel) (by decide) rfl d_H_copyFrom_35 ?_
                      refine aw_goto (tgt := 2) (by decide) d_H_copyFrom_38 ?_
                      refine aw_iload_n rfl rfl d_H_copyFrom_2 ?_
                      refine aw_aload_n rfl rfl d_H_copyFrom_3 ?_
                      refine aw_getr fl_H_17 kc_82 (by decide) rfl rc_82_1 d_H_copyFrom_4 ?_
                      refine aw_alen kc_84 (by decide) d_H_copyFrom_7 ?_
                      refine aw_icmp_geI (tgt := 41) (4) (5) (by decide +kernel) (by decide +kernel) (by decide) d_H_copyFrom_8 (fun q => absurd q (by decide)) (fun _ => ?_)
                      refine aw_iload_n rfl rfl d_H_copyFrom_11 ?_
                      refine aw_aload_n rfl rfl d_H_copyFrom_12 ?_
                      refine aw_getr fl_H_17 kc_1 (by decide) rfl rc_1_1 d_H_copyFrom_13 ?_
                      refine aw_alen kc_3 (by decide) d_H_copyFrom_16 ?_
                      refine aw_icmp_geI (tgt := 41) (4) (5) (by decide +kernel) (by decide +kernel) (by decide) d_H_copyFrom_17 (fun q => absurd q (by decide)) (fun _ => ?_)
                      refine aw_aload_n rfl rfl d_H_copyFrom_20 ?_
                      refine aw_getr fl_H_17 kc_82 (by decide) rfl rc_82_1 d_H_copyFrom_21 ?_
                      refine aw_iload_n rfl rfl d_H_copyFrom_24 ?_
                      refine aw_aald (j := 4) kc_84 (vp_in_nI (by decide) (by decide)) (nI_clamp (by decide)) rc_84_4 d_H_copyFrom_25 ?_
                      refine aw_aload_n rfl rfl d_H_copyFrom_26 ?_
                      refine aw_getr fl_H_17 kc_1 (by decide) rfl rc_1_1 d_H_copyFrom_27 ?_
                      refine aw_iload_n rfl rfl d_H_copyFrom_30 ?_
                      refine aw_aald (j := 4) kc_3 (vp_in_nI (by decide) (by decide)) (nI_clamp (by decide)) rc_3_4 d_H_copyFrom_31 ?_
                      refine as_callV (as := [.ref 36]) (d' := 11) (q := ("SinglesUp$Law", zT3, 6)) mo_W_copyFrom lk_H_57 kc_117 rfl rfl rfl ⟨by decide, by decide⟩ rfl rfl (by decide) d_H_copyFrom_32 (Ss.of (show As l b 11 y_W_copyFrom KC RC _ (J55) 0 [.ref 117, .ref 36] [] from ?_))
                      refine aw_aload_n rfl rfl d_W_copyFrom_0 ?_
                      refine aw_aload_n rfl rfl d_W_copyFrom_1 ?_
                      refine aw_geti fl_W_22 kc_36 (by decide) rfl d_W_copyFrom_2 ?_
                      refine aw_puti fl_W_22 kc_117 (by decide) rfl rfl rfl rfl d_W_copyFrom_5 ?_
                      refine aw_aload_n rfl rfl d_W_copyFrom_8 ?_
                      refine aw_aload_n rfl rfl d_W_copyFrom_9 ?_
                      refine aw_geti fl_W_26 kc_36 (by decide) rfl d_W_copyFrom_10 ?_
                      refine aw_top (x2 := nI 0) (Eq.trans (congrFun (upd2_ne (by decide)) (4)) (((congrFun (e56 36 (by decide)) (4)).trans (((congrFun (e52 36 (by decide)) (4)).trans (((congrFun (e48 36 (by decide)) (4)).trans (Eq.trans (congrFun (upd2_ne (by decide)) (4)) (Eq.trans (congrFun (upd2_ne (by decide)) (4)) (((congrFun (e44 36 (by decide)) (4)).trans (((congrFun (e40 36 (by decide)) (4)).trans (((congrFun (e36 36 (by decide)) (4)).trans (Eq.trans (congrFun (upd2_ne (by decide)) (4)) (Eq.trans (congrFun (upd2_ne (by decide)) (4)) (((congrFun (e32 36 (by decide)) (4)).trans (((congrFun (e28 36 (by decide)) (4)).trans (((congrFun (e24 36 (by decide)) (4)).trans (Eq.trans (congrFun (upd2_ne (by decide)) (4)) (Eq.trans (congrFun (upd2_ne (by decide)) (4)) (((congrFun (e20 36 (by decide)) (4)).trans (((congrFun (e16 36 (by decide)) (4)).trans (((congrFun (e12 36 (by decide)) (4)).trans (Eq.trans (congrFun (upd2_ne (by decide)) (4)) (Eq.trans (congrFun (upd2_ne (by decide)) (4)) (f13)))))))))))))))))))))))))))))))))) ?_
                      refine aw_puti fl_W_26 kc_117 (by decide) rfl rfl rfl rfl d_W_copyFrom_13 ?_
                      refine aw_aload_n rfl rfl d_W_copyFrom_16 ?_
                      refine aw_getr fl_W_9 kc_36 (by decide) rfl rc_36_0 d_W_copyFrom_17 ?_
                      refine aw_iconst (v := nI 0) ci_0 d_W_copyFrom_20 ?_
                      refine aw_aload_n rfl rfl d_W_copyFrom_21 ?_
                      refine aw_getr fl_W_9 kc_117 (by decide) rfl rc_117_0 d_W_copyFrom_22 ?_
                      refine aw_iconst (v := nI 0) ci_0 d_W_copyFrom_25 ?_
                      refine aw_sipush (v := nI 400) cs_400 d_W_copyFrom_26 ?_
                      refine as_copy0 (n := 400) lka_W_29 ac_nat ac_sta ac_ini kc_37 kc_118 (by omega) (by omega) (by omega) (by decide) rfl d_W_copyFrom_29 (fun J59 e60 e61 e62 => ?_)
                      refine aw_aload_n rfl rfl d_W_copyFrom_32 ?_
                      refine aw_getr fl_W_13 kc_36 (by decide) rfl rc_36_2 d_W_copyFrom_33 ?_
                      refine aw_iconst (v := nI 0) ci_0 d_W_copyFrom_36 ?_
                      refine aw_aload_n rfl rfl d_W_copyFrom_37 ?_
                      refine aw_getr fl_W_13 kc_117 (by decide) rfl rc_117_2 d_W_copyFrom_38 ?_
                      refine aw_iconst (v := nI 0) ci_0 d_W_copyFrom_41 ?_
                      refine aw_bipush (v := nI 17) cb_17 d_W_copyFrom_42 ?_
                      refine as_copy0 (n := 17) lka_W_29 ac_nat ac_sta ac_ini kc_38 kc_119 (by omega) (by omega) (by omega) (by decide) rfl d_W_copyFrom_44 (fun J63 e64 e65 e66 => ?_)
                      refine aw_aload_n rfl rfl d_W_copyFrom_47 ?_
                      refine aw_getr fl_W_16 kc_36 (by decide) rfl rc_36_3 d_W_copyFrom_48 ?_
                      refine aw_iconst (v := nI 0) ci_0 d_W_copyFrom_51 ?_
                      refine aw_aload_n rfl rfl d_W_copyFrom_52 ?_
                      refine aw_getr fl_W_16 kc_117 (by decide) rfl rc_117_3 d_W_copyFrom_53 ?_
                      refine aw_iconst (v := nI 0) ci_0 d_W_copyFrom_56 ?_
                      refine aw_bipush (v := nI 16) cb_16 d_W_copyFrom_57 ?_
                      refine as_copy0 (n := 16) lka_W_29 ac_nat ac_sta ac_ini kc_39 kc_120 (by omega) (by omega) (by omega) (by decide) rfl d_W_copyFrom_59 (fun J67 e68 e69 e70 => ?_)
                      refine as_retv rfl d_W_copyFrom_62 ?_
                      refine (show As l b 12 y_H_copyFrom KC RC _ (J67) 35 [.ref 82, .ref 1, .int (nI 4)] [] from ?_)
                      refine aw_iinc (v := nI 5) (lv2 := [.ref 82, .ref 1, .int (nI 5)]) rfl (by decide +kernel) (by decide) rfl d_H_copyFrom_35 ?_
                      refine aw_goto (tgt := 2) (by decide) d_H_copyFrom_38 ?_
                      refine aw_iload_n rfl rfl d_H_copyFrom_2 ?_
                      refine aw_aload_n rfl rfl d_H_copyFrom_3 ?_
                      refine aw_getr fl_H_17 kc_82 (by decide) rfl rc_82_1 d_H_copyFrom_4 ?_
                      refine aw_alen kc_84 (by decide) d_H_copyFrom_7 ?_
                      refine aw_icmp_geI (tgt := 41) (5) (5) (by decide +kernel) (by decide +kernel) (by decide) d_H_copyFrom_8 (fun _ => ?_) (fun q => absurd q (by decide))
                      refine aw_aload_n rfl rfl d_H_copyFrom_41 ?_
                      refine aw_getr fl_H_33 kc_82 (by decide) rfl rc_82_5 d_H_copyFrom_42 ?_
                      refine aw_aload_n rfl rfl d_H_copyFrom_45 ?_
                      refine aw_getr fl_H_33 kc_1 (by decide) rfl rc_1_5 d_H_copyFrom_46 ?_
                      refine as_callV (as := [.ref 7]) (d' := 11) (q := ("SinglesUp$Lines", zT4, 3)) mo_L_copyFrom lk_H_61 kc_88 rfl rfl rfl ⟨by decide, by decide⟩ rfl rfl (by decide) d_H_copyFrom_49 (Ss.of (show As l b 11 y_L_copyFrom KC RC _ (J67) 0 [.ref 88, .ref 7] [] from ?_))
                      refine aw_aload_n rfl rfl d_L_copyFrom_0 ?_
                      refine aw_getr fl_L_9 kc_7 (by decide) rfl rc_7_0 d_L_copyFrom_1 ?_
                      refine aw_iconst (v := nI 0) ci_0 d_L_copyFrom_4 ?_
                      refine aw_aload_n rfl rfl d_L_copyFrom_5 ?_
                      refine aw_getr fl_L_9 kc_88 (by decide) rfl rc_88_0 d_L_copyFrom_6 ?_
                      refine aw_iconst (v := nI 0) ci_0 d_L_copyFrom_9 ?_
                      refine aw_aload_n rfl rfl d_L_copyFrom_10 ?_
                      refine aw_getr fl_L_9 kc_88 (by decide) rfl rc_88_0 d_L_copyFrom_11 ?_
                      refine aw_alen kc_89 (by decide) d_L_copyFrom_14 ?_
                      refine as_copy0 (n := 1440) lka_L_27 ac_nat ac_sta ac_ini kc_8 kc_89 (by omega) (by omega) (by omega) (by decide) rfl d_L_copyFrom_15 (fun J71 e72 e73 e74 => ?_)
                      refine aw_aload_n rfl rfl d_L_copyFrom_18 ?_
                      refine aw_getr fl_L_15 kc_7 (by decide) rfl rc_7_1 d_L_copyFrom_19 ?_
                      refine aw_iconst (v := nI 0) ci_0 d_L_copyFrom_22 ?_
                      refine aw_aload_n rfl rfl d_L_copyFrom_23 ?_
                      refine aw_getr fl_L_15 kc_88 (by decide) rfl rc_88_1 d_L_copyFrom_24 ?_
                      refine aw_iconst (v := nI 0) ci_0 d_L_copyFrom_27 ?_
                      refine aw_bipush (v := nI 6) cb_6 d_L_copyFrom_28 ?_
                      refine as_copy0 (n := 6) lka_L_27 ac_nat ac_sta ac_ini kc_9 kc_90 (by omega) (by omega) (by omega) (by decide) rfl d_L_copyFrom_30 (fun J75 e76 e77 e78 => ?_)
                      refine aw_aload_n rfl rfl d_L_copyFrom_33 ?_
                      refine aw_getr fl_L_18 kc_7 (by decide) rfl rc_7_2 d_L_copyFrom_34 ?_
                      refine aw_iconst (v := nI 0) ci_0 d_L_copyFrom_37 ?_
                      refine aw_aload_n rfl rfl d_L_copyFrom_38 ?_
                      refine aw_getr fl_L_18 kc_88 (by decide) rfl rc_88_2 d_L_copyFrom_39 ?_
                      refine aw_iconst (v := nI 0) ci_0 d_L_copyFrom_42 ?_
                      refine aw_bipush (v := nI 6) cb_6 d_L_copyFrom_43 ?_
                      refine as_copy0 (n := 6) lka_L_27 ac_nat ac_sta ac_ini kc_10 kc_91 (by omega) (by omega) (by omega) (by decide) rfl d_L_copyFrom_45 (fun J79 e80 e81 e82 => ?_)
                      refine as_retv rfl d_L_copyFrom_48 ?_
                      refine (show As l b 12 y_H_copyFrom KC RC _ (J79) 52 [.ref 82, .ref 1, .int (nI 5)] [] from ?_)
                      refine aw_aload_n rfl rfl d_H_copyFrom_52 ?_
                      refine aw_getr fl_H_9 kc_1 (by decide) rfl rc_1_0 d_H_copyFrom_53 ?_
                      refine aw_iconst (v := nI 0) ci_0 d_H_copyFrom_56 ?_
                      refine aw_aload_n rfl rfl d_H_copyFrom_57 ?_
                      refine aw_getr fl_H_9 kc_82 (by decide) rfl rc_82_0 d_H_copyFrom_58 ?_
                      refine aw_iconst (v := nI 0) ci_0 d_H_copyFrom_61 ?_
                      refine aw_aload_n rfl rfl d_H_copyFrom_62 ?_
                      refine aw_getr fl_H_9 kc_82 (by decide) rfl rc_82_0 d_H_copyFrom_63 ?_
                      refine aw_alen kc_83 (by decide) d_H_copyFrom_66 ?_
                      refine as_copy0 (n := 6) lka_H_64 ac_nat ac_sta ac_ini kc_2 kc_83 (by omega) (by omega) (by omega) (by decide) rfl d_H_copyFrom_67 (fun J83 e84 e85 e86 => ?_)
                      refine aw_aload_n rfl rfl d_H_copyFrom_70 ?_
                      refine aw_getr fl_H_21 kc_1 (by decide) rfl rc_1_2 d_H_copyFrom_71 ?_
                      refine aw_iconst (v := nI 0) ci_0 d_H_copyFrom_74 ?_
                      refine aw_aload_n rfl rfl d_H_copyFrom_75 ?_
                      refine aw_getr fl_H_21 kc_82 (by decide) rfl rc_82_2 d_H_copyFrom_76 ?_
                      refine aw_iconst (v := nI 0) ci_0 d_H_copyFrom_79 ?_
                      refine aw_aload_n rfl rfl d_H_copyFrom_80 ?_
                      refine aw_getr fl_H_21 kc_82 (by decide) rfl rc_82_2 d_H_copyFrom_81 ?_
                      refine aw_alen kc_85 (by decide) d_H_copyFrom_84 ?_
                      refine as_copy0 (n := 9) lka_H_64 ac_nat ac_sta ac_ini kc_4 kc_85 (by omega) (by omega) (by omega) (by decide) rfl d_H_copyFrom_85 (fun J87 e88 e89 e90 => ?_)
                      refine aw_aload_n rfl rfl d_H_copyFrom_88 ?_
                      refine aw_getr fl_H_24 kc_1 (by decide) rfl rc_1_3 d_H_copyFrom_89 ?_
                      refine aw_iconst (v := nI 0) ci_0 d_H_copyFrom_92 ?_
                      refine aw_aload_n rfl rfl d_H_copyFrom_93 ?_
                      refine aw_getr fl_H_24 kc_82 (by decide) rfl rc_82_3 d_H_copyFrom_94 ?_
                      refine aw_iconst (v := nI 0) ci_0 d_H_copyFrom_97 ?_
                      refine aw_aload_n rfl rfl d_H_copyFrom_98 ?_
                      refine aw_getr fl_H_24 kc_82 (by decide) rfl rc_82_3 d_H_copyFrom_99 ?_
                      refine aw_alen kc_86 (by decide) d_H_copyFrom_102 ?_
                      refine as_copy0 (n := 32) lka_H_64 ac_nat ac_sta ac_ini kc_5 kc_86 (by omega) (by omega) (by omega) (by decide) rfl d_H_copyFrom_103 (fun J91 e92 e93 e94 => ?_)
                      refine aw_aload_n rfl rfl d_H_copyFrom_106 ?_
                      refine aw_getr fl_H_27 kc_1 (by decide) rfl rc_1_4 d_H_copyFrom_107 ?_
                      refine aw_iconst (v := nI 0) ci_0 d_H_copyFrom_110 ?_
                      refine aw_aload_n rfl rfl d_H_copyFrom_111 ?_
                      refine aw_getr fl_H_27 kc_82 (by decide) rfl rc_82_4 d_H_copyFrom_112 ?_
                      refine aw_iconst (v := nI 0) ci_0 d_H_copyFrom_115 ?_
                      refine aw_aload_n rfl rfl d_H_copyFrom_116 ?_
                      refine aw_getr fl_H_27 kc_82 (by decide) rfl rc_82_4 d_H_copyFrom_117 ?_
                      refine aw_alen kc_87 (by decide) d_H_copyFrom_120 ?_
                      refine as_copy0 (n := 9) lka_H_64 ac_nat ac_sta ac_ini kc_6 kc_87 (by omega) (by omega) (by omega) (by decide) rfl d_H_copyFrom_121 (fun J95 e96 e97 e98 => ?_)
                      refine aw_aload_n rfl rfl d_H_copyFrom_124 ?_
                      refine aw_getr fl_H_37 kc_1 (by decide) rfl rc_1_8 d_H_copyFrom_125 ?_
                      refine aw_iconst (v := nI 0) ci_0 d_H_copyFrom_128 ?_
                      refine aw_aload_n rfl rfl d_H_copyFrom_129 ?_
                      refine aw_getr fl_H_37 kc_82 (by decide) rfl rc_82_8 d_H_copyFrom_130 ?_
                      refine aw_iconst (v := nI 0) ci_0 d_H_copyFrom_133 ?_
                      refine aw_aload_n rfl rfl d_H_copyFrom_134 ?_
                      refine aw_getr fl_H_37 kc_82 (by decide) rfl rc_82_8 d_H_copyFrom_135 ?_
                      refine aw_alen kc_92 (by decide) d_H_copyFrom_138 ?_
                      refine as_copy0 (n := 40) lka_H_64 ac_nat ac_sta ac_ini kc_11 kc_92 (by omega) (by omega) (by omega) (by decide) rfl d_H_copyFrom_139 (fun J99 e100 e101 e102 => ?_)
                      refine aw_aload_n rfl rfl d_H_copyFrom_142 ?_
                      refine aw_getr fl_H_40 kc_1 (by decide) rfl rc_1_9 d_H_copyFrom_143 ?_
                      refine aw_iconst (v := nI 0) ci_0 d_H_copyFrom_146 ?_
                      refine aw_aload_n rfl rfl d_H_copyFrom_147 ?_
                      refine aw_getr fl_H_40 kc_82 (by decide) rfl rc_82_9 d_H_copyFrom_148 ?_
                      refine aw_iconst (v := nI 0) ci_0 d_H_copyFrom_151 ?_
                      refine aw_aload_n rfl rfl d_H_copyFrom_152 ?_
                      refine aw_getr fl_H_40 kc_82 (by decide) rfl rc_82_9 d_H_copyFrom_153 ?_
                      refine aw_alen kc_93 (by decide) d_H_copyFrom_156 ?_
                      refine as_copy0 (n := 30) lka_H_64 ac_nat ac_sta ac_ini kc_12 kc_93 (by omega) (by omega) (by omega) (by decide) rfl d_H_copyFrom_157 (fun J103 e104 e105 e106 => ?_)
                      refine aw_aload_n rfl rfl d_H_copyFrom_160 ?_
                      refine aw_getr fl_H_43 kc_1 (by decide) rfl rc_1_10 d_H_copyFrom_161 ?_
                      refine aw_iconst (v := nI 0) ci_0 d_H_copyFrom_164 ?_
                      refine aw_aload_n rfl rfl d_H_copyFrom_165 ?_
                      refine aw_getr fl_H_43 kc_82 (by decide) rfl rc_82_10 d_H_copyFrom_166 ?_
                      refine aw_iconst (v := nI 0) ci_0 d_H_copyFrom_169 ?_
                      refine aw_aload_n rfl rfl d_H_copyFrom_170 ?_
                      refine aw_getr fl_H_43 kc_82 (by decide) rfl rc_82_10 d_H_copyFrom_171 ?_
                      refine aw_alen kc_94 (by decide) d_H_copyFrom_174 ?_
                      refine as_copy0 (n := 180) lka_H_64 ac_nat ac_sta ac_ini kc_13 kc_94 (by omega) (by omega) (by omega) (by decide) rfl d_H_copyFrom_175 (fun J107 e108 e109 e110 => ?_)
                      refine aw_aload_n rfl rfl d_H_copyFrom_178 ?_
                      refine aw_aload_n rfl rfl d_H_copyFrom_179 ?_
                      refine aw_geti fl_H_70 kc_1 (by decide) rfl d_H_copyFrom_180 ?_
                      refine aw_top (x2 := nI 0) (((congrFun (e108 1 (by decide)) (6)).trans (((congrFun (e104 1 (by decide)) (6)).trans (((congrFun (e100 1 (by decide)) (6)).trans (((congrFun (e96 1 (by decide)) (6)).trans (((congrFun (e92 1 (by decide)) (6)).trans (((congrFun (e88 1 (by decide)) (6)).trans (((congrFun (e84 1 (by decide)) (6)).trans (((congrFun (e80 1 (by decide)) (6)).trans (((congrFun (e76 1 (by decide)) (6)).trans (((congrFun (e72 1 (by decide)) (6)).trans (((congrFun (e68 1 (by decide)) (6)).trans (((congrFun (e64 1 (by decide)) (6)).trans (((congrFun (e60 1 (by decide)) (6)).trans (Eq.trans (congrFun (upd2_ne (by decide)) (6)) (Eq.trans (congrFun (upd2_ne (by decide)) (6)) (((congrFun (e56 1 (by decide)) (6)).trans (((congrFun (e52 1 (by decide)) (6)).trans (((congrFun (e48 1 (by decide)) (6)).trans (Eq.trans (congrFun (upd2_ne (by decide)) (6)) (Eq.trans (congrFun (upd2_ne (by decide)) (6)) (((congrFun (e44 1 (by decide)) (6)).trans (((congrFun (e40 1 (by decide)) (6)).trans (((congrFun (e36 1 (by decide)) (6)).trans (Eq.trans (congrFun (upd2_ne (by decide)) (6)) (Eq.trans (congrFun (upd2_ne (by decide)) (6)) (((congrFun (e32 1 (by decide)) (6)).trans (((congrFun (e28 1 (by decide)) (6)).trans (((congrFun (e24 1 (by decide)) (6)).trans (Eq.trans (congrFun (upd2_ne (by decide)) (6)) (Eq.trans (congrFun (upd2_ne (by decide)) (6)) (((congrFun (e20 1 (by decide)) (6)).trans (((congrFun (e16 1 (by decide)) (6)).trans (((congrFun (e12 1 (by decide)) (6)).trans (Eq.trans (congrFun (upd2_ne (by decide)) (6)) (Eq.trans (congrFun (upd2_ne (by decide)) (6)) (r6))))))))))))))))))))))))))))))))))))))))))))))))))))))))))))) ?_
                      refine aw_puti fl_H_70 kc_82 (by decide) rfl rfl rfl rfl d_H_copyFrom_183 ?_
                      refine aw_aload_n rfl rfl d_H_copyFrom_186 ?_
                      refine aw_aload_n rfl rfl d_H_copyFrom_187 ?_
                      refine aw_geti fl_H_73 kc_1 (by decide) rfl d_H_copyFrom_188 ?_
                      refine aw_top (x2 := nI 0) (Eq.trans (congrFun (upd2_ne (by decide)) (7)) (((congrFun (e108 1 (by decide)) (7)).trans (((congrFun (e104 1 (by decide)) (7)).trans (((congrFun (e100 1 (by decide)) (7)).trans (((congrFun (e96 1 (by decide)) (7)).trans (((congrFun (e92 1 (by decide)) (7)).trans (((congrFun (e88 1 (by decide)) (7)).trans (((congrFun (e84 1 (by decide)) (7)).trans (((congrFun (e80 1 (by decide)) (7)).trans (((congrFun (e76 1 (by decide)) (7)).trans (((congrFun (e72 1 (by decide)) (7)).trans (((congrFun (e68 1 (by decide)) (7)).trans (((congrFun (e64 1 (by decide)) (7)).trans (((congrFun (e60 1 (by decide)) (7)).trans (Eq.trans (congrFun (upd2_ne (by decide)) (7)) (Eq.trans (congrFun (upd2_ne (by decide)) (7)) (((congrFun (e56 1 (by decide)) (7)).trans (((congrFun (e52 1 (by decide)) (7)).trans (((congrFun (e48 1 (by decide)) (7)).trans (Eq.trans (congrFun (upd2_ne (by decide)) (7)) (Eq.trans (congrFun (upd2_ne (by decide)) (7)) (((congrFun (e44 1 (by decide)) (7)).trans (((congrFun (e40 1 (by decide)) (7)).trans (((congrFun (e36 1 (by decide)) (7)).trans (Eq.trans (congrFun (upd2_ne (by decide)) (7)) (Eq.trans (congrFun (upd2_ne (by decide)) (7)) (((congrFun (e32 1 (by decide)) (7)).trans (((congrFun (e28 1 (by decide)) (7)).trans (((congrFun (e24 1 (by decide)) (7)).trans (Eq.trans (congrFun (upd2_ne (by decide)) (7)) (Eq.trans (congrFun (upd2_ne (by decide)) (7)) (((congrFun (e20 1 (by decide)) (7)).trans (((congrFun (e16 1 (by decide)) (7)).trans (((congrFun (e12 1 (by decide)) (7)).trans (Eq.trans (congrFun (upd2_ne (by decide)) (7)) (Eq.trans (congrFun (upd2_ne (by decide)) (7)) (r7)))))))))))))))))))))))))))))))))))))))))))))))))))))))))))))) ?_
                      refine aw_puti fl_H_73 kc_82 (by decide) rfl rfl rfl rfl d_H_copyFrom_191 ?_
                      refine aw_aload_n rfl rfl d_H_copyFrom_194 ?_
                      refine aw_aload_n rfl rfl d_H_copyFrom_195 ?_
                      refine aw_geti fl_H_46 kc_1 (by decide) rfl d_H_copyFrom_196 ?_
                      refine aw_top (x2 := (-1 : Int32)) (Eq.trans (congrFun (upd2_ne (by decide)) (11)) (Eq.trans (congrFun (upd2_ne (by decide)) (11)) (((congrFun (e108 1 (by decide)) (11)).trans (((congrFun (e104 1 (by decide)) (11)).trans (((congrFun (e100 1 (by decide)) (11)).trans (((congrFun (e96 1 (by decide)) (11)).trans (((congrFun (e92 1 (by decide)) (11)).trans (((congrFun (e88 1 (by decide)) (11)).trans (((congrFun (e84 1 (by decide)) (11)).trans (((congrFun (e80 1 (by decide)) (11)).trans (((congrFun (e76 1 (by decide)) (11)).trans (((congrFun (e72 1 (by decide)) (11)).trans (((congrFun (e68 1 (by decide)) (11)).trans (((congrFun (e64 1 (by decide)) (11)).trans (((congrFun (e60 1 (by decide)) (11)).trans (Eq.trans (congrFun (upd2_ne (by decide)) (11)) (Eq.trans (congrFun (upd2_ne (by decide)) (11)) (((congrFun (e56 1 (by decide)) (11)).trans (((congrFun (e52 1 (by decide)) (11)).trans (((congrFun (e48 1 (by decide)) (11)).trans (Eq.trans (congrFun (upd2_ne (by decide)) (11)) (Eq.trans (congrFun (upd2_ne (by decide)) (11)) (((congrFun (e44 1 (by decide)) (11)).trans (((congrFun (e40 1 (by decide)) (11)).trans (((congrFun (e36 1 (by decide)) (11)).trans (Eq.trans (congrFun (upd2_ne (by decide)) (11)) (Eq.trans (congrFun (upd2_ne (by decide)) (11)) (((congrFun (e32 1 (by decide)) (11)).trans (((congrFun (e28 1 (by decide)) (11)).trans (((congrFun (e24 1 (by decide)) (11)).trans (Eq.trans (congrFun (upd2_ne (by decide)) (11)) (Eq.trans (congrFun (upd2_ne (by decide)) (11)) (((congrFun (e20 1 (by decide)) (11)).trans (((congrFun (e16 1 (by decide)) (11)).trans (((congrFun (e12 1 (by decide)) (11)).trans (Eq.trans (congrFun (upd2_ne (by decide)) (11)) (Eq.trans (congrFun (upd2_ne (by decide)) (11)) (r11))))))))))))))))))))))))))))))))))))))))))))))))))))))))))))))) ?_
                      refine aw_puti fl_H_46 kc_82 (by decide) rfl rfl rfl rfl d_H_copyFrom_199 ?_
                      refine as_retv rfl d_H_copyFrom_202 ?_
                      refine (show As l b 13 y_M_imagine KC RC _ (upd2 (upd2 (upd2 J107 82 6 (nI 0)) 82 7 (nI 0)) 82 11 ((-1 : Int32))) 8 [.ref 81, .ref 1, .int (nI (w1)), .int (z), .int (nI (w3)), .int (nI (w4))] [] from ?_)
                      refine aw_aload_n rfl rfl d_M_imagine_8 ?_
                      refine aw_getr fl_M_12 kc_81 (by decide) rfl rc_81_0 d_M_imagine_9 ?_
                      refine aw_getr fl_M_33 kc_82 (by decide) rfl rc_82_0 d_M_imagine_12 ?_
                      refine aw_iconst (v := nI 5) ci_5 d_M_imagine_15 ?_
                      refine aw_iload_n rfl rfl d_M_imagine_16 ?_
                      refine aw_iast (j := 5) kc_83 (vp_in_nI (by decide) (by decide)) (nI_clamp (by decide)) d_M_imagine_17 ?_
                      refine aw_aload_n rfl rfl d_M_imagine_18 ?_
                      refine aw_getr fl_M_12 kc_81 (by decide) rfl rc_81_0 d_M_imagine_19 ?_
                      refine aw_getr fl_M_33 kc_82 (by decide) rfl rc_82_0 d_M_imagine_22 ?_
                      refine aw_iconst (v := nI 4) ci_4 d_M_imagine_25 ?_
                      refine aw_iload_n rfl rfl d_M_imagine_26 ?_
                      refine aw_iast (j := 4) kc_83 (vp_in_nI (by decide) (by decide)) (nI_clamp (by decide)) d_M_imagine_27 ?_
                      refine aw_aload_n rfl rfl d_M_imagine_28 ?_
                      refine aw_getr fl_M_12 kc_81 (by decide) rfl rc_81_0 d_M_imagine_29 ?_
                      refine aw_getr fl_M_33 kc_82 (by decide) rfl rc_82_0 d_M_imagine_32 ?_
                      refine aw_iconst (v := nI 0) ci_0 d_M_imagine_35 ?_
                      refine aw_iload rfl d_M_imagine_36 ?_
                      refine aw_iast (j := 0) kc_83 (vp_in_nI (by decide) (by decide)) (nI_clamp (by decide)) d_M_imagine_38 ?_
                      refine aw_aload_n rfl rfl d_M_imagine_39 ?_
                      refine aw_getr fl_M_21 kc_81 (by decide) rfl rc_81_1 d_M_imagine_40 ?_
                      refine aw_aload_n rfl rfl d_M_imagine_43 ?_
                      refine aw_getr fl_M_12 kc_81 (by decide) rfl rc_81_0 d_M_imagine_44 ?_
                      refine aw_iload rfl d_M_imagine_47 ?_
                      refine as_callV (as := [.ref 82, .int (nI (w4))]) (d' := 6) (q := ("SinglesUp$Chair", zT0, 12)) mo_C_turns lk_M_36 kc_122 rfl rfl rfl ⟨by decide, by decide⟩ rfl rfl (by decide) d_M_imagine_49 (sp_turns_122 (I := upd2 (upd2 (upd2 (upd2 (upd2 (upd2 J107 82 6 (nI 0)) 82 7 (nI 0)) 82 11 ((-1 : Int32))) 83 (5) (nI (w1))) 83 (4) (z)) 83 (0) (nI (w3))) (s := w3) (ru := w1) (e := 0) (k := 0) (n0 := w4) (show FH 82 (upd2 (upd2 (upd2 (upd2 (upd2 (upd2 J107 82 6 (nI 0)) 82 7 (nI 0)) 82 11 ((-1 : Int32))) 83 (5) (nI (w1))) 83 (4) (z)) 83 (0) (nI (w3))) (w3) (w1) (0) (0) from ⟨fun j hj => (Eq.trans (congrFun (upd2_ne (by decide)) (j)) (Eq.trans (congrFun (upd2_ne (by decide)) (j)) (Eq.trans (congrFun (upd2_ne (by decide)) (j)) (Eq.trans (congrFun (upd2_ne (by decide)) (j)) (Eq.trans (congrFun (upd2_ne (by decide)) (j)) (Eq.trans (congrFun (upd2_ne (by decide)) (j)) (((congrFun (e108 86 (by decide)) (j)).trans (((congrFun (e104 86 (by decide)) (j)).trans (((congrFun (e100 86 (by decide)) (j)).trans (((congrFun (e96 86 (by decide)) (j)).trans (((e93 (j) (by omega)).trans (((congrFun (e88 5 (by decide)) (j)).trans (((congrFun (e84 5 (by decide)) (j)).trans (((congrFun (e80 5 (by decide)) (j)).trans (((congrFun (e76 5 (by decide)) (j)).trans (((congrFun (e72 5 (by decide)) (j)).trans (((congrFun (e68 5 (by decide)) (j)).trans (((congrFun (e64 5 (by decide)) (j)).trans (((congrFun (e60 5 (by decide)) (j)).trans (Eq.trans (congrFun (upd2_ne (by decide)) (j)) (Eq.trans (congrFun (upd2_ne (by decide)) (j)) (((congrFun (e56 5 (by decide)) (j)).trans (((congrFun (e52 5 (by decide)) (j)).trans (((congrFun (e48 5 (by decide)) (j)).trans (Eq.trans (congrFun (upd2_ne (by decide)) (j)) (Eq.trans (congrFun (upd2_ne (by decide)) (j)) (((congrFun (e44 5 (by decide)) (j)).trans (((congrFun (e40 5 (by decide)) (j)).trans (((congrFun (e36 5 (by decide)) (j)).trans (Eq.trans (congrFun (upd2_ne (by decide)) (j)) (Eq.trans (congrFun (upd2_ne (by decide)) (j)) (((congrFun (e32 5 (by decide)) (j)).trans (((congrFun (e28 5 (by decide)) (j)).trans (((congrFun (e24 5 (by decide)) (j)).trans (Eq.trans (congrFun (upd2_ne (by decide)) (j)) (Eq.trans (congrFun (upd2_ne (by decide)) (j)) (((congrFun (e20 5 (by decide)) (j)).trans (((congrFun (e16 5 (by decide)) (j)).trans (((congrFun (e12 5 (by decide)) (j)).trans (Eq.trans (congrFun (upd2_ne (by decide)) (j)) (Eq.trans (congrFun (upd2_ne (by decide)) (j)) (f0 j (by omega)))))))))))))))))))))))))))))))))))))))))))))))))))))))))))))))))))), fun j hj => (Eq.trans (congrFun (upd2_ne (by decide)) (j)) (Eq.trans (congrFun (upd2_ne (by decide)) (j)) (Eq.trans (congrFun (upd2_ne (by decide)) (j)) (Eq.trans (congrFun (upd2_ne (by decide)) (j)) (Eq.trans (congrFun (upd2_ne (by decide)) (j)) (Eq.trans (congrFun (upd2_ne (by decide)) (j)) (((congrFun (e108 90 (by decide)) (j)).trans (((congrFun (e104 90 (by decide)) (j)).trans (((congrFun (e100 90 (by decide)) (j)).trans (((congrFun (e96 90 (by decide)) (j)).trans (((congrFun (e92 90 (by decide)) (j)).trans (((congrFun (e88 90 (by decide)) (j)).trans (((congrFun (e84 90 (by decide)) (j)).trans (((congrFun (e80 90 (by decide)) (j)).trans (((e77 (j) (by omega)).trans (((congrFun (e72 9 (by decide)) (j)).trans (((congrFun (e68 9 (by decide)) (j)).trans (((congrFun (e64 9 (by decide)) (j)).trans (((congrFun (e60 9 (by decide)) (j)).trans (Eq.trans (congrFun (upd2_ne (by decide)) (j)) (Eq.trans (congrFun (upd2_ne (by decide)) (j)) (((congrFun (e56 9 (by decide)) (j)).trans (((congrFun (e52 9 (by decide)) (j)).trans (((congrFun (e48 9 (by decide)) (j)).trans (Eq.trans (congrFun (upd2_ne (by decide)) (j)) (Eq.trans (congrFun (upd2_ne (by decide)) (j)) (((congrFun (e44 9 (by decide)) (j)).trans (((congrFun (e40 9 (by decide)) (j)).trans (((congrFun (e36 9 (by decide)) (j)).trans (Eq.trans (congrFun (upd2_ne (by decide)) (j)) (Eq.trans (congrFun (upd2_ne (by decide)) (j)) (((congrFun (e32 9 (by decide)) (j)).trans (((congrFun (e28 9 (by decide)) (j)).trans (((congrFun (e24 9 (by decide)) (j)).trans (Eq.trans (congrFun (upd2_ne (by decide)) (j)) (Eq.trans (congrFun (upd2_ne (by decide)) (j)) (((congrFun (e20 9 (by decide)) (j)).trans (((congrFun (e16 9 (by decide)) (j)).trans (((congrFun (e12 9 (by decide)) (j)).trans (Eq.trans (congrFun (upd2_ne (by decide)) (j)) (Eq.trans (congrFun (upd2_ne (by decide)) (j)) (f1 (j) (by omega)))))))))))))))))))))))))))))))))))))))))))))))))))))))))))))))))))), fun j hj => (Eq.trans (congrFun (upd2_ne (by decide)) (j)) (Eq.trans (congrFun (upd2_ne (by decide)) (j)) (Eq.trans (congrFun (upd2_ne (by decide)) (j)) (Eq.trans (congrFun (upd2_ne (by decide)) (j)) (Eq.trans (congrFun (upd2_ne (by decide)) (j)) (Eq.trans (congrFun (upd2_ne (by decide)) (j)) (((congrFun (e108 91 (by decide)) (j)).trans (((congrFun (e104 91 (by decide)) (j)).trans (((congrFun (e100 91 (by decide)) (j)).trans (((congrFun (e96 91 (by decide)) (j)).trans (((congrFun (e92 91 (by decide)) (j)).trans (((congrFun (e88 91 (by decide)) (j)).trans (((congrFun (e84 91 (by decide)) (j)).trans (((e81 (j) (by omega)).trans (((congrFun (e76 10 (by decide)) (j)).trans (((congrFun (e72 10 (by decide)) (j)).trans (((congrFun (e68 10 (by decide)) (j)).trans (((congrFun (e64 10 (by decide)) (j)).trans (((congrFun (e60 10 (by decide)) (j)).trans (Eq.trans (congrFun (upd2_ne (by decide)) (j)) (Eq.trans (congrFun (upd2_ne (by decide)) (j)) (((congrFun (e56 10 (by decide)) (j)).trans (((congrFun (e52 10 (by decide)) (j)).trans (((congrFun (e48 10 (by decide)) (j)).trans (Eq.trans (congrFun (upd2_ne (by decide)) (j)) (Eq.trans (congrFun (upd2_ne (by decide)) (j)) (((congrFun (e44 10 (by decide)) (j)).trans (((congrFun (e40 10 (by decide)) (j)).trans (((congrFun (e36 10 (by decide)) (j)).trans (Eq.trans (congrFun (upd2_ne (by decide)) (j)) (Eq.trans (congrFun (upd2_ne (by decide)) (j)) (((congrFun (e32 10 (by decide)) (j)).trans (((congrFun (e28 10 (by decide)) (j)).trans (((congrFun (e24 10 (by decide)) (j)).trans (Eq.trans (congrFun (upd2_ne (by decide)) (j)) (Eq.trans (congrFun (upd2_ne (by decide)) (j)) (((congrFun (e20 10 (by decide)) (j)).trans (((congrFun (e16 10 (by decide)) (j)).trans (((congrFun (e12 10 (by decide)) (j)).trans (Eq.trans (congrFun (upd2_ne (by decide)) (j)) (Eq.trans (congrFun (upd2_ne (by decide)) (j)) (f2 (j) (by omega)))))))))))))))))))))))))))))))))))))))))))))))))))))))))))))))))))), (upd2_eq), (Eq.trans (upd2_nx (by omega)) (Eq.trans (upd2_nx (by omega)) (Eq.trans (upd2_nx (by omega)) (Eq.trans (congrFun (upd2_ne (by decide)) (3)) (Eq.trans (congrFun (upd2_ne (by decide)) (3)) (Eq.trans (congrFun (upd2_ne (by decide)) (3)) (((congrFun (e108 83 (by decide)) (3)).trans (((congrFun (e104 83 (by decide)) (3)).trans (((congrFun (e100 83 (by decide)) (3)).trans (((congrFun (e96 83 (by decide)) (3)).trans (((congrFun (e92 83 (by decide)) (3)).trans (((congrFun (e88 83 (by decide)) (3)).trans (((e85 (3) (by omega)).trans (((congrFun (e80 2 (by decide)) (3)).trans (((congrFun (e76 2 (by decide)) (3)).trans (((congrFun (e72 2 (by decide)) (3)).trans (((congrFun (e68 2 (by decide)) (3)).trans (((congrFun (e64 2 (by decide)) (3)).trans (((congrFun (e60 2 (by decide)) (3)).trans (Eq.trans (congrFun (upd2_ne (by decide)) (3)) (Eq.trans (congrFun (upd2_ne (by decide)) (3)) (((congrFun (e56 2 (by decide)) (3)).trans (((congrFun (e52 2 (by decide)) (3)).trans (((congrFun (e48 2 (by decide)) (3)).trans (Eq.trans (congrFun (upd2_ne (by decide)) (3)) (Eq.trans (congrFun (upd2_ne (by decide)) (3)) (((congrFun (e44 2 (by decide)) (3)).trans (((congrFun (e40 2 (by decide)) (3)).trans (((congrFun (e36 2 (by decide)) (3)).trans (Eq.trans (congrFun (upd2_ne (by decide)) (3)) (Eq.trans (congrFun (upd2_ne (by decide)) (3)) (((congrFun (e32 2 (by decide)) (3)).trans (((congrFun (e28 2 (by decide)) (3)).trans (((congrFun (e24 2 (by decide)) (3)).trans (Eq.trans (congrFun (upd2_ne (by decide)) (3)) (Eq.trans (congrFun (upd2_ne (by decide)) (3)) (((congrFun (e20 2 (by decide)) (3)).trans (((congrFun (e16 2 (by decide)) (3)).trans (((congrFun (e12 2 (by decide)) (3)).trans (Eq.trans (congrFun (upd2_ne (by decide)) (3)) (Eq.trans (congrFun (upd2_ne (by decide)) (3)) (f4))))))))))))))))))))))))))))))))))))))))))))))))))))))))))))))))))), (Eq.trans (upd2_nx (by omega)) (Eq.trans (upd2_nx (by omega)) (upd2_eq))), (Eq.trans (congrFun (upd2_ne (by decide)) (1)) (Eq.trans (congrFun (upd2_ne (by decide)) (1)) (Eq.trans (congrFun (upd2_ne (by decide)) (1)) (Eq.trans (congrFun (upd2_ne (by decide)) (1)) (Eq.trans (congrFun (upd2_ne (by decide)) (1)) (Eq.trans (congrFun (upd2_ne (by decide)) (1)) (((congrFun (e108 92 (by decide)) (1)).trans (((congrFun (e104 92 (by decide)) (1)).trans (((e101 (1) (by omega)).trans (((congrFun (e96 11 (by decide)) (1)).trans (((congrFun (e92 11 (by decide)) (1)).trans (((congrFun (e88 11 (by decide)) (1)).trans (((congrFun (e84 11 (by decide)) (1)).trans (((congrFun (e80 11 (by decide)) (1)).trans (((congrFun (e76 11 (by decide)) (1)).trans (((congrFun (e72 11 (by decide)) (1)).trans (((congrFun (e68 11 (by decide)) (1)).trans (((congrFun (e64 11 (by decide)) (1)).trans (((congrFun (e60 11 (by decide)) (1)).trans (Eq.trans (congrFun (upd2_ne (by decide)) (1)) (Eq.trans (congrFun (upd2_ne (by decide)) (1)) (((congrFun (e56 11 (by decide)) (1)).trans (((congrFun (e52 11 (by decide)) (1)).trans (((congrFun (e48 11 (by decide)) (1)).trans (Eq.trans (congrFun (upd2_ne (by decide)) (1)) (Eq.trans (congrFun (upd2_ne (by decide)) (1)) (((congrFun (e44 11 (by decide)) (1)).trans (((congrFun (e40 11 (by decide)) (1)).trans (((congrFun (e36 11 (by decide)) (1)).trans (Eq.trans (congrFun (upd2_ne (by decide)) (1)) (Eq.trans (congrFun (upd2_ne (by decide)) (1)) (((congrFun (e32 11 (by decide)) (1)).trans (((congrFun (e28 11 (by decide)) (1)).trans (((congrFun (e24 11 (by decide)) (1)).trans (Eq.trans (congrFun (upd2_ne (by decide)) (1)) (Eq.trans (congrFun (upd2_ne (by decide)) (1)) (((congrFun (e20 11 (by decide)) (1)).trans (((congrFun (e16 11 (by decide)) (1)).trans (((congrFun (e12 11 (by decide)) (1)).trans (Eq.trans (congrFun (upd2_ne (by decide)) (1)) (Eq.trans (congrFun (upd2_ne (by decide)) (1)) (f6))))))))))))))))))))))))))))))))))))))))))))))))))))))))))))))))))), (Eq.trans (congrFun (upd2_ne (by decide)) (0)) (Eq.trans (congrFun (upd2_ne (by decide)) (0)) (Eq.trans (congrFun (upd2_ne (by decide)) (0)) (Eq.trans (congrFun (upd2_ne (by decide)) (0)) (Eq.trans (congrFun (upd2_ne (by decide)) (0)) (Eq.trans (congrFun (upd2_ne (by decide)) (0)) (((congrFun (e108 92 (by decide)) (0)).trans (((congrFun (e104 92 (by decide)) (0)).trans (((e101 (0) (by omega)).trans (((congrFun (e96 11 (by decide)) (0)).trans (((congrFun (e92 11 (by decide)) (0)).trans (((congrFun (e88 11 (by decide)) (0)).trans (((congrFun (e84 11 (by decide)) (0)).trans (((congrFun (e80 11 (by decide)) (0)).trans (((congrFun (e76 11 (by decide)) (0)).trans (((congrFun (e72 11 (by decide)) (0)).trans (((congrFun (e68 11 (by decide)) (0)).trans (((congrFun (e64 11 (by decide)) (0)).trans (((congrFun (e60 11 (by decide)) (0)).trans (Eq.trans (congrFun (upd2_ne (by decide)) (0)) (Eq.trans (congrFun (upd2_ne (by decide)) (0)) (((congrFun (e56 11 (by decide)) (0)).trans (((congrFun (e52 11 (by decide)) (0)).trans (((congrFun (e48 11 (by decide)) (0)).trans (Eq.trans (congrFun (upd2_ne (by decide)) (0)) (Eq.trans (congrFun (upd2_ne (by decide)) (0)) (((congrFun (e44 11 (by decide)) (0)).trans (((congrFun (e40 11 (by decide)) (0)).trans (((congrFun (e36 11 (by decide)) (0)).trans (Eq.trans (congrFun (upd2_ne (by decide)) (0)) (Eq.trans (congrFun (upd2_ne (by decide)) (0)) (((congrFun (e32 11 (by decide)) (0)).trans (((congrFun (e28 11 (by decide)) (0)).trans (((congrFun (e24 11 (by decide)) (0)).trans (Eq.trans (congrFun (upd2_ne (by decide)) (0)) (Eq.trans (congrFun (upd2_ne (by decide)) (0)) (((congrFun (e20 11 (by decide)) (0)).trans (((congrFun (e16 11 (by decide)) (0)).trans (((congrFun (e12 11 (by decide)) (0)).trans (Eq.trans (congrFun (upd2_ne (by decide)) (0)) (Eq.trans (congrFun (upd2_ne (by decide)) (0)) (f7))))))))))))))))))))))))))))))))))))))))))))))))))))))))))))))))))), fun j hj a1 a2 a3 => (Eq.trans (congrFun (upd2_ne (by decide)) (j)) (Eq.trans (congrFun (upd2_ne (by decide)) (j)) (Eq.trans (congrFun (upd2_ne (by decide)) (j)) (Eq.trans (congrFun (upd2_ne (by decide)) (j)) (Eq.trans (congrFun (upd2_ne (by decide)) (j)) (Eq.trans (congrFun (upd2_ne (by decide)) (j)) (((congrFun (e108 92 (by decide)) (j)).trans (((congrFun (e104 92 (by decide)) (j)).trans (((e101 (j) (by omega)).trans (((congrFun (e96 11 (by decide)) (j)).trans (((congrFun (e92 11 (by decide)) (j)).trans (((congrFun (e88 11 (by decide)) (j)).trans (((congrFun (e84 11 (by decide)) (j)).trans (((congrFun (e80 11 (by decide)) (j)).trans (((congrFun (e76 11 (by decide)) (j)).trans (((congrFun (e72 11 (by decide)) (j)).trans (((congrFun (e68 11 (by decide)) (j)).trans (((congrFun (e64 11 (by decide)) (j)).trans (((congrFun (e60 11 (by decide)) (j)).trans (Eq.trans (congrFun (upd2_ne (by decide)) (j)) (Eq.trans (congrFun (upd2_ne (by decide)) (j)) (((congrFun (e56 11 (by decide)) (j)).trans (((congrFun (e52 11 (by decide)) (j)).trans (((congrFun (e48 11 (by decide)) (j)).trans (Eq.trans (congrFun (upd2_ne (by decide)) (j)) (Eq.trans (congrFun (upd2_ne (by decide)) (j)) (((congrFun (e44 11 (by decide)) (j)).trans (((congrFun (e40 11 (by decide)) (j)).trans (((congrFun (e36 11 (by decide)) (j)).trans (Eq.trans (congrFun (upd2_ne (by decide)) (j)) (Eq.trans (congrFun (upd2_ne (by decide)) (j)) (((congrFun (e32 11 (by decide)) (j)).trans (((congrFun (e28 11 (by decide)) (j)).trans (((congrFun (e24 11 (by decide)) (j)).trans (Eq.trans (congrFun (upd2_ne (by decide)) (j)) (Eq.trans (congrFun (upd2_ne (by decide)) (j)) (((congrFun (e20 11 (by decide)) (j)).trans (((congrFun (e16 11 (by decide)) (j)).trans (((congrFun (e12 11 (by decide)) (j)).trans (Eq.trans (congrFun (upd2_ne (by decide)) (j)) (Eq.trans (congrFun (upd2_ne (by decide)) (j)) ((f8 (j) (by omega) (by omega) (by omega) (by omega))))))))))))))))))))))))))))))))))))))))))))))))))))))))))))))))))))), (Eq.trans (congrFun (upd2_ne (by decide)) (4)) (Eq.trans (congrFun (upd2_ne (by decide)) (4)) (Eq.trans (congrFun (upd2_ne (by decide)) (4)) (Eq.trans (congrFun (upd2_ne (by decide)) (4)) (Eq.trans (congrFun (upd2_ne (by decide)) (4)) (Eq.trans (congrFun (upd2_ne (by decide)) (4)) (((congrFun (e108 97 (by decide)) (4)).trans (((congrFun (e104 97 (by decide)) (4)).trans (((congrFun (e100 97 (by decide)) (4)).trans (((congrFun (e96 97 (by decide)) (4)).trans (((congrFun (e92 97 (by decide)) (4)).trans (((congrFun (e88 97 (by decide)) (4)).trans (((congrFun (e84 97 (by decide)) (4)).trans (((congrFun (e80 97 (by decide)) (4)).trans (((congrFun (e76 97 (by decide)) (4)).trans (((congrFun (e72 97 (by decide)) (4)).trans (((congrFun (e68 97 (by decide)) (4)).trans (((congrFun (e64 97 (by decide)) (4)).trans (((congrFun (e60 97 (by decide)) (4)).trans (Eq.trans (congrFun (upd2_ne (by decide)) (4)) (Eq.trans (congrFun (upd2_ne (by decide)) (4)) (((congrFun (e56 97 (by decide)) (4)).trans (((congrFun (e52 97 (by decide)) (4)).trans (((congrFun (e48 97 (by decide)) (4)).trans (Eq.trans (congrFun (upd2_ne (by decide)) (4)) (Eq.trans (congrFun (upd2_ne (by decide)) (4)) (((congrFun (e44 97 (by decide)) (4)).trans (((congrFun (e40 97 (by decide)) (4)).trans (((congrFun (e36 97 (by decide)) (4)).trans (Eq.trans (congrFun (upd2_ne (by decide)) (4)) (Eq.trans (congrFun (upd2_ne (by decide)) (4)) (((congrFun (e32 97 (by decide)) (4)).trans (((congrFun (e28 97 (by decide)) (4)).trans (((congrFun (e24 97 (by decide)) (4)).trans (Eq.trans (congrFun (upd2_ne (by decide)) (4)) (Eq.trans (congrFun (upd2_ne (by decide)) (4)) (((congrFun (e20 97 (by decide)) (4)).trans (((congrFun (e16 97 (by decide)) (4)).trans (((congrFun (e12 97 (by decide)) (4)).trans (upd2_eq))))))))))))))))))))))))))))))))))))))))))))))))))))))))))))))))), (Eq.trans (congrFun (upd2_ne (by decide)) (4)) (Eq.trans (congrFun (upd2_ne (by decide)) (4)) (Eq.trans (congrFun (upd2_ne (by decide)) (4)) (Eq.trans (congrFun (upd2_ne (by decide)) (4)) (Eq.trans (congrFun (upd2_ne (by decide)) (4)) (Eq.trans (congrFun (upd2_ne (by decide)) (4)) (((congrFun (e108 102 (by decide)) (4)).trans (((congrFun (e104 102 (by decide)) (4)).trans (((congrFun (e100 102 (by decide)) (4)).trans (((congrFun (e96 102 (by decide)) (4)).trans (((congrFun (e92 102 (by decide)) (4)).trans (((congrFun (e88 102 (by decide)) (4)).trans (((congrFun (e84 102 (by decide)) (4)).trans (((congrFun (e80 102 (by decide)) (4)).trans (((congrFun (e76 102 (by decide)) (4)).trans (((congrFun (e72 102 (by decide)) (4)).trans (((congrFun (e68 102 (by decide)) (4)).trans (((congrFun (e64 102 (by decide)) (4)).trans (((congrFun (e60 102 (by decide)) (4)).trans (Eq.trans (congrFun (upd2_ne (by decide)) (4)) (Eq.trans (congrFun (upd2_ne (by decide)) (4)) (((congrFun (e56 102 (by decide)) (4)).trans (((congrFun (e52 102 (by decide)) (4)).trans (((congrFun (e48 102 (by decide)) (4)).trans (Eq.trans (congrFun (upd2_ne (by decide)) (4)) (Eq.trans (congrFun (upd2_ne (by decide)) (4)) (((congrFun (e44 102 (by decide)) (4)).trans (((congrFun (e40 102 (by decide)) (4)).trans (((congrFun (e36 102 (by decide)) (4)).trans (Eq.trans (congrFun (upd2_ne (by decide)) (4)) (Eq.trans (congrFun (upd2_ne (by decide)) (4)) (((congrFun (e32 102 (by decide)) (4)).trans (((congrFun (e28 102 (by decide)) (4)).trans (((congrFun (e24 102 (by decide)) (4)).trans (upd2_eq))))))))))))))))))))))))))))))))))))))))))))))))))))))))), (Eq.trans (congrFun (upd2_ne (by decide)) (4)) (Eq.trans (congrFun (upd2_ne (by decide)) (4)) (Eq.trans (congrFun (upd2_ne (by decide)) (4)) (Eq.trans (congrFun (upd2_ne (by decide)) (4)) (Eq.trans (congrFun (upd2_ne (by decide)) (4)) (Eq.trans (congrFun (upd2_ne (by decide)) (4)) (((congrFun (e108 107 (by decide)) (4)).trans (((congrFun (e104 107 (by decide)) (4)).trans (((congrFun (e100 107 (by decide)) (4)).trans (((congrFun (e96 107 (by decide)) (4)).trans (((congrFun (e92 107 (by decide)) (4)).trans (((congrFun (e88 107 (by decide)) (4)).trans (((congrFun (e84 107 (by decide)) (4)).trans (((congrFun (e80 107 (by decide)) (4)).trans (((congrFun (e76 107 (by decide)) (4)).trans (((congrFun (e72 107 (by decide)) (4)).trans (((congrFun (e68 107 (by decide)) (4)).trans (((congrFun (e64 107 (by decide)) (4)).trans (((congrFun (e60 107 (by decide)) (4)).trans (Eq.trans (congrFun (upd2_ne (by decide)) (4)) (Eq.trans (congrFun (upd2_ne (by decide)) (4)) (((congrFun (e56 107 (by decide)) (4)).trans (((congrFun (e52 107 (by decide)) (4)).trans (((congrFun (e48 107 (by decide)) (4)).trans (Eq.trans (congrFun (upd2_ne (by decide)) (4)) (Eq.trans (congrFun (upd2_ne (by decide)) (4)) (((congrFun (e44 107 (by decide)) (4)).trans (((congrFun (e40 107 (by decide)) (4)).trans (((congrFun (e36 107 (by decide)) (4)).trans (upd2_eq))))))))))))))))))))))))))))))))))))))))))))))))), (Eq.trans (congrFun (upd2_ne (by decide)) (4)) (Eq.trans (congrFun (upd2_ne (by decide)) (4)) (Eq.trans (congrFun (upd2_ne (by decide)) (4)) (Eq.trans (congrFun (upd2_ne (by decide)) (4)) (Eq.trans (congrFun (upd2_ne (by decide)) (4)) (Eq.trans (congrFun (upd2_ne (by decide)) (4)) (((congrFun (e108 112 (by decide)) (4)).trans (((congrFun (e104 112 (by decide)) (4)).trans (((congrFun (e100 112 (by decide)) (4)).trans (((congrFun (e96 112 (by decide)) (4)).trans (((congrFun (e92 112 (by decide)) (4)).trans (((congrFun (e88 112 (by decide)) (4)).trans (((congrFun (e84 112 (by decide)) (4)).trans (((congrFun (e80 112 (by decide)) (4)).trans (((congrFun (e76 112 (by decide)) (4)).trans (((congrFun (e72 112 (by decide)) (4)).trans (((congrFun (e68 112 (by decide)) (4)).trans (((congrFun (e64 112 (by decide)) (4)).trans (((congrFun (e60 112 (by decide)) (4)).trans (Eq.trans (congrFun (upd2_ne (by decide)) (4)) (Eq.trans (congrFun (upd2_ne (by decide)) (4)) (((congrFun (e56 112 (by decide)) (4)).trans (((congrFun (e52 112 (by decide)) (4)).trans (((congrFun (e48 112 (by decide)) (4)).trans (upd2_eq))))))))))))))))))))))))))))))))))))))))), (Eq.trans (congrFun (upd2_ne (by decide)) (4)) (Eq.trans (congrFun (upd2_ne (by decide)) (4)) (Eq.trans (congrFun (upd2_ne (by decide)) (4)) (Eq.trans (congrFun (upd2_ne (by decide)) (4)) (Eq.trans (congrFun (upd2_ne (by decide)) (4)) (Eq.trans (congrFun (upd2_ne (by decide)) (4)) (((congrFun (e108 117 (by decide)) (4)).trans (((congrFun (e104 117 (by decide)) (4)).trans (((congrFun (e100 117 (by decide)) (4)).trans (((congrFun (e96 117 (by decide)) (4)).trans (((congrFun (e92 117 (by decide)) (4)).trans (((congrFun (e88 117 (by decide)) (4)).trans (((congrFun (e84 117 (by decide)) (4)).trans (((congrFun (e80 117 (by decide)) (4)).trans (((congrFun (e76 117 (by decide)) (4)).trans (((congrFun (e72 117 (by decide)) (4)).trans (((congrFun (e68 117 (by decide)) (4)).trans (((congrFun (e64 117 (by decide)) (4)).trans (((congrFun (e60 117 (by decide)) (4)).trans (upd2_eq))))))))))))))))))))))))))))))))), (by omega)⟩) (by omega) (by omega) (fun I111 hF112 fr113 => ?_))
                      have hF := hF112
                      obtain ⟨d0, d1, d2, d3, d4, d5, d6, d7, d8, d9, d10, d11, d12, d13, db⟩ := hF
                      have d0 : ∀ j, j < 32 → I111 86 j = nI 0 := d0
                      have d1 : ∀ j, j < 6 → I111 90 j = nI 0 := d1
                      have d2 : ∀ j, j < 6 → I111 91 j = nI 9 := d2
                      have d3 : I111 83 0 = nI (w3) := d3
                      have d4 : I111 83 3 = nI 0 := d4
                      have d5 : I111 83 5 = nI (w1) := d5
                      have d6 : I111 92 1 = nI ((0 + w4 * w3)) := d6
                      have d7 : I111 92 0 = nI ((0 + w4)) := d7
                      have d8 : ∀ j, j < 40 → j ≠ 0 → j ≠ 1 → j ≠ 3 → I111 92 j = nI 0 := d8
                      have d9 : I111 97 4 = nI 0 := d9
                      have d10 : I111 102 4 = nI 0 := d10
                      have d11 : I111 107 4 = nI 0 := d11
                      have d12 : I111 112 4 = nI 0 := d12
                      have d13 : I111 117 4 = nI 0 := d13
                      refine (show As l b 13 y_M_imagine KC RC _ (I111) 52 [.ref 81, .ref 1, .int (nI (w1)), .int (z), .int (nI (w3)), .int (nI (w4))] [.int (nI 0)] from ?_)
                      refine aw_pop rfl d_M_imagine_52 ?_
                      refine as_retv rfl d_M_imagine_53 ?_
                      refine (show As l b 14 y_S_thought KC RC K2 (I111) 68 [.ref 0, .int (nI (w1)), .int (z), .int (nI (w3)), .int (nI (w4)), .int (c)] [] from ?_)
                      refine aw_aload_n rfl rfl d_S_thought_68 ?_
                      refine aw_getr fl_S_22 kc_0 (by decide) rfl rc_0_2 d_S_thought_69 ?_
                      refine aw_aload_n rfl rfl d_S_thought_72 ?_
                      refine aw_getr fl_S_12 kc_0 (by decide) rfl rc_0_0 d_S_thought_73 ?_
                      refine aw_iload rfl d_S_thought_76 ?_
                      refine as_callV (as := [.ref 1, .int (c)]) (d' := 13) (q := ("SinglesUp$Mind", zT5, 3)) mo_M_gained lk_S_223 kc_81 rfl rfl rfl ⟨by decide, by decide⟩ rfl rfl (by decide) d_S_thought_78 (Ss.of (show As l b 13 y_M_gained KC RC _ (I111) 0 [.ref 81, .ref 1, .int (c)] [] from ?_))
                      refine aw_iload_n rfl rfl d_M_gained_0 ?_
                      obtain ⟨w5, hw5, ew5, gw5⟩ := nI_of_range (x := c) (n := 6) (by omega) (by omega)
                      subst ew5
                      rcases (show w5 = 0 ∨ w5 = 1 ∨ w5 = 2 ∨ w5 = 3 ∨ w5 = 4 ∨ w5 = 5 by omega) with rfl | rfl | rfl | rfl | rfl | rfl
                      · refine aw_tabInI 0 (by decide +kernel) (by decide) rfl (tgt := 36) (by decide) d_M_gained_1 ?_
                        refine aw_aload_n rfl rfl d_M_gained_36 ?_
                        refine aw_getr fl_M_12 kc_81 (by decide) rfl rc_81_0 d_M_gained_37 ?_
                        refine aw_getr fl_M_40 kc_82 (by decide) rfl rc_82_8 d_M_gained_40 ?_
                        refine aw_iconst (v := nI 1) ci_1 d_M_gained_43 ?_
                        refine aw_iald (j := 1) kc_92 (vp_in_nI (by decide) (by decide)) (nI_clamp (by decide)) d_M_gained_44 ?_
                        refine aw_top (x2 := nI ((0 + w4 * w3))) (d6) ?_
                        refine aw_aload_n rfl rfl d_M_gained_45 ?_
                        refine aw_getr fl_M_40 kc_1 (by decide) rfl rc_1_8 d_M_gained_46 ?_
                        refine aw_iconst (v := nI 1) ci_1 d_M_gained_49 ?_
                        refine aw_iald (j := 1) kc_11 (vp_in_nI (by decide) (by decide)) (nI_clamp (by decide)) d_M_gained_50 ?_
                        refine aw_top (x2 := nI 0) (((congrFun (fr113 11 (by decide)) (1)).trans (Eq.trans (congrFun (upd2_ne (by decide)) (1)) (Eq.trans (congrFun (upd2_ne (by decide)) (1)) (Eq.trans (congrFun (upd2_ne (by decide)) (1)) (Eq.trans (congrFun (upd2_ne (by decide)) (1)) (Eq.trans (congrFun (upd2_ne (by decide)) (1)) (Eq.trans (congrFun (upd2_ne (by decide)) (1)) (((congrFun (e108 11 (by decide)) (1)).trans (((congrFun (e104 11 (by decide)) (1)).trans (((congrFun (e100 11 (by decide)) (1)).trans (((congrFun (e96 11 (by decide)) (1)).trans (((congrFun (e92 11 (by decide)) (1)).trans (((congrFun (e88 11 (by decide)) (1)).trans (((congrFun (e84 11 (by decide)) (1)).trans (((congrFun (e80 11 (by decide)) (1)).trans (((congrFun (e76 11 (by decide)) (1)).trans (((congrFun (e72 11 (by decide)) (1)).trans (((congrFun (e68 11 (by decide)) (1)).trans (((congrFun (e64 11 (by decide)) (1)).trans (((congrFun (e60 11 (by decide)) (1)).trans (Eq.trans (congrFun (upd2_ne (by decide)) (1)) (Eq.trans (congrFun (upd2_ne (by decide)) (1)) (((congrFun (e56 11 (by decide)) (1)).trans (((congrFun (e52 11 (by decide)) (1)).trans (((congrFun (e48 11 (by decide)) (1)).trans (Eq.trans (congrFun (upd2_ne (by decide)) (1)) (Eq.trans (congrFun (upd2_ne (by decide)) (1)) (((congrFun (e44 11 (by decide)) (1)).trans (((congrFun (e40 11 (by decide)) (1)).trans (((congrFun (e36 11 (by decide)) (1)).trans (Eq.trans (congrFun (upd2_ne (by decide)) (1)) (Eq.trans (congrFun (upd2_ne (by decide)) (1)) (((congrFun (e32 11 (by decide)) (1)).trans (((congrFun (e28 11 (by decide)) (1)).trans (((congrFun (e24 11 (by decide)) (1)).trans (Eq.trans (congrFun (upd2_ne (by decide)) (1)) (Eq.trans (congrFun (upd2_ne (by decide)) (1)) (((congrFun (e20 11 (by decide)) (1)).trans (((congrFun (e16 11 (by decide)) (1)).trans (((congrFun (e12 11 (by decide)) (1)).trans (Eq.trans (congrFun (upd2_ne (by decide)) (1)) (Eq.trans (congrFun (upd2_ne (by decide)) (1)) (f6))))))))))))))))))))))))))))))))))))))))))))))))))))))))))))))))))))) ?_
                        refine aw_isubN (by omega) d_M_gained_51 ?_
                        refine as_reti rfl d_M_gained_52 ?_
                        refine (show As l b 14 y_S_thought KC RC K2 (I111) 81 [.ref 0, .int (nI (w1)), .int (z), .int (nI (w3)), .int (nI (w4)), .int (nI 0)] [.int (nI (((0 + w4 * w3) - 0)))] from ?_)
                        exact as_reti rfl d_S_thought_81 (by have h9 := he (by omega) I111; rw [gw3, gw4] at h9; simpa using h9)
                      · refine aw_tabInI 1 (by decide +kernel) (by decide) rfl (tgt := 53) (by decide) d_M_gained_1 ?_
                        refine aw_aload_n rfl rfl d_M_gained_53 ?_
                        refine aw_getr fl_M_12 kc_81 (by decide) rfl rc_81_0 d_M_gained_54 ?_
                        refine aw_getr fl_M_40 kc_82 (by decide) rfl rc_82_8 d_M_gained_57 ?_
                        refine aw_iconst (v := nI 2) ci_2 d_M_gained_60 ?_
                        refine aw_iald (j := 2) kc_92 (vp_in_nI (by decide) (by decide)) (nI_clamp (by decide)) d_M_gained_61 ?_
                        refine aw_top (x2 := nI 0) (d8 2 (by decide) (by decide) (by decide) (by decide)) ?_
                        refine aw_aload_n rfl rfl d_M_gained_62 ?_
                        refine aw_getr fl_M_40 kc_1 (by decide) rfl rc_1_8 d_M_gained_63 ?_
                        refine aw_iconst (v := nI 2) ci_2 d_M_gained_66 ?_
                        refine aw_iald (j := 2) kc_11 (vp_in_nI (by decide) (by decide)) (nI_clamp (by decide)) d_M_gained_67 ?_
                        refine aw_top (x2 := nI 0) (((congrFun (fr113 11 (by decide)) (2)).trans (Eq.trans (congrFun (upd2_ne (by decide)) (2)) (Eq.trans (congrFun (upd2_ne (by decide)) (2)) (Eq.trans (congrFun (upd2_ne (by decide)) (2)) (Eq.trans (congrFun (upd2_ne (by decide)) (2)) (Eq.trans (congrFun (upd2_ne (by decide)) (2)) (Eq.trans (congrFun (upd2_ne (by decide)) (2)) (((congrFun (e108 11 (by decide)) (2)).trans (((congrFun (e104 11 (by decide)) (2)).trans (((congrFun (e100 11 (by decide)) (2)).trans (((congrFun (e96 11 (by decide)) (2)).trans (((congrFun (e92 11 (by decide)) (2)).trans (((congrFun (e88 11 (by decide)) (2)).trans (((congrFun (e84 11 (by decide)) (2)).trans (((congrFun (e80 11 (by decide)) (2)).trans (((congrFun (e76 11 (by decide)) (2)).trans (((congrFun (e72 11 (by decide)) (2)).trans (((congrFun (e68 11 (by decide)) (2)).trans (((congrFun (e64 11 (by decide)) (2)).trans (((congrFun (e60 11 (by decide)) (2)).trans (Eq.trans (congrFun (upd2_ne (by decide)) (2)) (Eq.trans (congrFun (upd2_ne (by decide)) (2)) (((congrFun (e56 11 (by decide)) (2)).trans (((congrFun (e52 11 (by decide)) (2)).trans (((congrFun (e48 11 (by decide)) (2)).trans (Eq.trans (congrFun (upd2_ne (by decide)) (2)) (Eq.trans (congrFun (upd2_ne (by decide)) (2)) (((congrFun (e44 11 (by decide)) (2)).trans (((congrFun (e40 11 (by decide)) (2)).trans (((congrFun (e36 11 (by decide)) (2)).trans (Eq.trans (congrFun (upd2_ne (by decide)) (2)) (Eq.trans (congrFun (upd2_ne (by decide)) (2)) (((congrFun (e32 11 (by decide)) (2)).trans (((congrFun (e28 11 (by decide)) (2)).trans (((congrFun (e24 11 (by decide)) (2)).trans (Eq.trans (congrFun (upd2_ne (by decide)) (2)) (Eq.trans (congrFun (upd2_ne (by decide)) (2)) (((congrFun (e20 11 (by decide)) (2)).trans (((congrFun (e16 11 (by decide)) (2)).trans (((congrFun (e12 11 (by decide)) (2)).trans (Eq.trans (congrFun (upd2_ne (by decide)) (2)) (Eq.trans (congrFun (upd2_ne (by decide)) (2)) (f8 2 (by decide) (by decide) (by decide) (by decide)))))))))))))))))))))))))))))))))))))))))))))))))))))))))))))))))))))) ?_
                        refine aw_isub d_M_gained_68 ?_
                        refine aw_top (x2 := nI 0) (by decide +kernel) ?_
                        refine as_reti rfl d_M_gained_69 ?_
                        refine (show As l b 14 y_S_thought KC RC K2 (I111) 81 [.ref 0, .int (nI (w1)), .int (z), .int (nI (w3)), .int (nI (w4)), .int (nI 1)] [.int (nI 0)] from ?_)
                        exact as_reti rfl d_S_thought_81 (hz (by omega) _)
                      · refine aw_tabInI 2 (by decide +kernel) (by decide) rfl (tgt := 70) (by decide) d_M_gained_1 ?_
                        refine aw_aload_n rfl rfl d_M_gained_70 ?_
                        refine aw_getr fl_M_12 kc_81 (by decide) rfl rc_81_0 d_M_gained_71 ?_
                        refine as_callS (as := [.ref 82]) (d' := 12) mo_M_allWait lk_M_43 rfl ⟨by decide, by decide⟩ rfl rfl (by decide) d_M_gained_74 (Ss.of (show As l b 12 y_M_allWait KC RC _ (I111) 0 [.ref 82, uu, uu] [] from ?_))
                        refine aw_iconst (v := nI 0) ci_0 d_M_allWait_0 ?_
                        refine aw_istore_n (lv2 := [.ref 82, .int (nI 0), uu]) rfl (by decide) rfl d_M_allWait_1 ?_
                        refine aw_iconst (v := nI 1) ci_1 d_M_allWait_2 ?_
                        refine aw_istore_n (lv2 := [.ref 82, .int (nI 0), .int (nI 1)]) rfl (by decide) rfl d_M_allWait_3 ?_
                        refine aw_iload_n rfl rfl d_M_allWait_4 ?_
                        refine aw_bipush (v := nI 8) cb_8 d_M_allWait_5 ?_
                        refine aw_icmp_gtI (tgt := 28) (1) (8) (by decide +kernel) (by decide +kernel) (by decide) d_M_allWait_7 (fun q => absurd q (by decide)) (fun _ => ?_)
                        refine aw_iload_n rfl rfl d_M_allWait_10 ?_
                        refine aw_aload_n rfl rfl d_M_allWait_11 ?_
                        refine aw_getr fl_M_40 kc_82 (by decide) rfl rc_82_8 d_M_allWait_12 ?_
                        refine aw_bipush (v := nI 20) cb_20 d_M_allWait_15 ?_
                        refine aw_iload_n rfl rfl d_M_allWait_17 ?_
                        refine aw_iadd d_M_allWait_18 ?_
                        refine aw_top (x2 := nI 21) (by decide +kernel) ?_
                        refine aw_iald (j := 21) kc_92 (vp_in_nI (by decide) (by decide)) (nI_clamp (by decide)) d_M_allWait_19 ?_
                        refine aw_top (x2 := nI 0) (d8 21 (by decide) (by decide) (by decide) (by decide)) ?_
                        refine aw_iadd d_M_allWait_20 ?_
                        refine aw_top (x2 := nI 0) (by decide +kernel) ?_
                        refine aw_istore_n (lv2 := [.ref 82, .int (nI 0), .int (nI 1)]) rfl (by decide) rfl d_M_allWait_21 ?_
                        refine aw_iinc (v := nI 2) (lv2 := [.ref 82, .int (nI 0), .int (nI 2)]) rfl (by decide +kernel) (by decide) rfl d_M_allWait_22 ?_
                        refine aw_goto (tgt := 4) (by decide) d_M_allWait_25 ?_
                        refine aw_iload_n rfl rfl d_M_allWait_4 ?_
                        refine aw_bipush (v := nI 8) cb_8 d_M_allWait_5 ?_
                        refine aw_icmp_gtI (tgt := 28) (2) (8) (by decide +kernel) (by decide +kernel) (by decide) d_M_allWait_7 (fun q => absurd q (by decide)) (fun _ => ?_)
                        refine aw_iload_n rfl rfl d_M_allWait_10 ?_
                        refine aw_aload_n rfl rfl d_M_allWait_11 ?_
                        refine aw_getr fl_M_40 kc_82 (by decide) rfl rc_82_8 d_M_allWait_12 ?_
                        refine aw_bipush (v := nI 20) cb_20 d_M_allWait_15 ?_
                        refine aw_iload_n rfl rfl d_M_allWait_17 ?_
                        refine aw_iadd d_M_allWait_18 ?_
                        refine aw_top (x2 := nI 22) (by decide +kernel) ?_
                        refine aw_iald (j := 22) kc_92 (vp_in_nI (by decide) (by decide)) (nI_clamp (by decide)) d_M_allWait_19 ?_
                        refine aw_top (x2 := nI 0) (d8 22 (by decide) (by decide) (by decide) (by decide)) ?_
                        refine aw_iadd d_M_allWait_20 ?_
                        refine aw_top (x2 := nI 0) (by decide +kernel) ?_
                        refine aw_istore_n (lv2 := [.ref 82, .int (nI 0), .int (nI 2)]) rfl (by decide) rfl d_M_allWait_21 ?_
                        refine aw_iinc (v := nI 3) (lv2 := [.ref 82, .int (nI 0), .int (nI 3)]) rfl (by decide +kernel) (by decide) rfl d_M_allWait_22 ?_
                        refine aw_goto (tgt := 4) (by decide) d_M_allWait_25 ?_
                        refine aw_iload_n rfl rfl d_M_allWait_4 ?_
                        refine aw_bipush (v := nI 8) cb_8 d_M_allWait_5 ?_
                        refine aw_icmp_gtI (tgt := 28) (3) (8) (by decide +kernel) (by decide +kernel) (by decide) d_M_allWait_7 (fun q => absurd q (by decide)) (fun _ => ?_)
                        refine aw_iload_n rfl rfl d_M_allWait_10 ?_
                        refine aw_aload_n rfl rfl d_M_allWait_11 ?_
                        refine aw_getr fl_M_40 kc_82 (by decide) rfl rc_82_8 d_M_allWait_12 ?_
                        refine aw_bipush (v := nI 20) cb_20 d_M_allWait_15 ?_
                        refine aw_iload_n rfl rfl d_M_allWait_17 ?_
                        refine aw_iadd d_M_allWait_18 ?_
                        refine aw_top (x2 := nI 23) (by decide +kernel) ?_
                        refine aw_iald (j := 23) kc_92 (vp_in_nI (by decide) (by decide)) (nI_clamp (by decide)) d_M_allWait_19 ?_
                        refine aw_top (x2 := nI 0) (d8 23 (by decide) (by decide) (by decide) (by decide)) ?_
                        refine aw_iadd d_M_allWait_20 ?_
                        refine aw_top (x2 := nI 0) (by decide +kernel) ?_
                        refine aw_istore_n (lv2 := [.ref 82, .int (nI 0), .int (nI 3)]) rfl (by decide) rfl d_M_allWait_21 ?_
                        refine aw_iinc (v := nI 4) (lv2 := [.ref 82, .int (nI 0), .int (nI 4)]) rfl (by decide +kernel) (by decide) rfl d_M_allWait_22 ?_
                        refine aw_goto (tgt := 4) (by decide) d_M_allWait_25 ?_
                        refine aw_iload_n rfl rfl d_M_allWait_4 ?_
                        refine aw_bipush (v := nI 8) cb_8 d_M_allWait_5 ?_
                        refine aw_icmp_gtI (tgt := 28) (4) (8) (by decide +kernel) (by decide +kernel) (by decide) d_M_allWait_7 (fun q => absurd q (by decide)) (fun _ => ?_)
                        refine aw_iload_n rfl rfl d_M_allWait_10 ?_
                        refine aw_aload_n rfl rfl d_M_allWait_11 ?_
                        refine aw_getr fl_M_40 kc_82 (by decide) rfl rc_82_8 d_M_allWait_12 ?_
                        refine aw_bipush (v := nI 20) cb_20 d_M_allWait_15 ?_
                        refine aw_iload_n rfl rfl d_M_allWait_17 ?_
                        refine aw_iadd d_M_allWait_18 ?_
                        refine aw_top (x2 := nI 24) (by decide +kernel) ?_
                        refine aw_iald (j := 24) kc_92 (vp_in_nI (by decide) (by decide)) (nI_clamp (by decide)) d_M_allWait_19 ?_
                        refine aw_top (x2 := nI 0) (d8 24 (by decide) (by decide) (by decide) (by decide)) ?_
                        refine aw_iadd d_M_allWait_20 ?_
                        refine aw_top (x2 := nI 0) (by decide +kernel) ?_
                        refine aw_istore_n (lv2 := [.ref 82, .int (nI 0), .int (nI 4)]) rfl (by decide) rfl d_M_allWait_21 ?_
                        refine aw_iinc (v := nI 5) (lv2 := [.ref 82, .int (nI 0), .int (nI 5)]) rfl (by decide +kernel) (by decide) rfl d_M_allWait_22 ?_
                        refine aw_goto (tgt := 4) (by decide) d_M_allWait_25 ?_
                        refine aw_iload_n rfl rfl d_M_allWait_4 ?_
                        refine aw_bipush (v := nI 8) cb_8 d_M_allWait_5 ?_
                        refine aw_icmp_gtI (tgt := 28) (5) (8) (by decide +kernel) (by decide +kernel) (by decide) d_M_allWait_7 (fun q => absurd q (by decide)) (fun _ => ?_)
                        refine aw_iload_n rfl rfl d_M_allWait_10 ?_
                        refine aw_aload_n rfl rfl d_M_allWait_11 ?_
                        refine aw_getr fl_M_40 kc_82 (by decide) rfl rc_82_8 d_M_allWait_12 ?_
                        refine aw_bipush (v := nI 20) cb_20 d_M_allWait_15 ?_
                        refine aw_iload_n rfl rfl d_M_allWait_17 ?_
                        refine aw_iadd d_M_allWait_18 ?_
                        refine aw_top (x2 := nI 25) (by decide +kernel) ?_
                        refine aw_iald (j := 25) kc_92 (vp_in_nI (by decide) (by decide)) (nI_clamp (by decide)) d_M_allWait_19 ?_
                        refine aw_top (x2 := nI 0) (d8 25 (by decide) (by decide) (by decide) (by decide)) ?_
                        refine aw_iadd d_M_allWait_20 ?_
                        refine aw_top (x2 := nI 0) (by decide +kernel) ?_
                        refine aw_istore_n (lv2 := [.ref 82, .int (nI 0), .int (nI 5)]) rfl (by decide) rfl d_M_allWait_21 ?_
                        refine aw_iinc (v := nI 6) (lv2 := [.ref 82, .int (nI 0), .int (nI 6)]) rfl (by decide +kernel) (by decide) rfl d_M_allWait_22 ?_
                        refine aw_goto (tgt := 4) (by decide) d_M_allWait_25 ?_
                        refine aw_iload_n rfl rfl d_M_allWait_4 ?_
                        refine aw_bipush (v := nI 8) cb_8 d_M_allWait_5 ?_
                        refine aw_icmp_gtI (tgt := 28) (6) (8) (by decide +kernel) (by decide +kernel) (by decide) d_M_allWait_7 (fun q => absurd q (by decide)) (fun _ => ?_)
                        refine aw_iload_n rfl rfl d_M_allWait_10 ?_
                        refine aw_aload_n rfl rfl d_M_allWait_11 ?_
                        refine aw_getr fl_M_40 kc_82 (by decide) rfl rc_82_8 d_M_allWait_12 ?_
                        refine aw_bipush (v := nI 20) cb_20 d_M_allWait_15 ?_
                        refine aw_iload_n rfl rfl d_M_allWait_17 ?_
                        refine aw_iadd d_M_allWait_18 ?_
                        refine aw_top (x2 := nI 26) (by decide +kernel) ?_
                        refine aw_iald (j := 26) kc_92 (vp_in_nI (by decide) (by decide)) (nI_clamp (by decide)) d_M_allWait_19 ?_
                        refine aw_top (x2 := nI 0) (d8 26 (by decide) (by decide) (by decide) (by decide)) ?_
                        refine aw_iadd d_M_allWait_20 ?_
                        refine aw_top (x2 := nI 0) (by decide +kernel) ?_
                        refine aw_istore_n (lv2 := [.ref 82, .int (nI 0), .int (nI 6)]) rfl (by decide) rfl d_M_allWait_21 ?_
                        refine aw_iinc (v := nI 7) (lv2 := [.ref 82, .int (nI 0), .int (nI 7)]) rfl (by decide +kernel) (by decide) rfl d_M_allWait_22 ?_
                        refine aw_goto (tgt := 4) (by decide) d_M_allWait_25 ?_
                        refine aw_iload_n rfl rfl d_M_allWait_4 ?_
                        refine aw_bipush (v := nI 8) cb_8 d_M_allWait_5 ?_
                        refine aw_icmp_gtI (tgt := 28) (7) (8) (by decide +kernel) (by decide +kernel) (by decide) d_M_allWait_7 (fun q => absurd q (by decide)) (fun _ => ?_)
                        refine aw_iload_n rfl rfl d_M_allWait_10 ?_
                        refine aw_aload_n rfl rfl d_M_allWait_11 ?_
                        refine aw_getr fl_M_40 kc_82 (by decide) rfl rc_82_8 d_M_allWait_12 ?_
                        refine aw_bipush (v := nI 20) cb_20 d_M_allWait_15 ?_
                        refine aw_iload_n rfl rfl d_M_allWait_17 ?_
                        refine aw_iadd d_M_allWait_18 ?_
                        refine aw_top (x2 := nI 27) (by decide +kernel) ?_
                        refine aw_iald (j := 27) kc_92 (vp_in_nI (by decide) (by decide)) (nI_clamp (by decide)) d_M_allWait_19 ?_
                        refine aw_top (x2 := nI 0) (d8 27 (by decide) (by decide) (by decide) (by decide)) ?_
                        refine aw_iadd d_M_allWait_20 ?_
                        refine aw_top (x2 := nI 0) (by decide +kernel) ?_
                        refine aw_istore_n (lv2 := [.ref 82, .int (nI 0), .int (nI 7)]) rfl (by decide) rfl d_M_allWait_21 ?_
                        refine aw_iinc (v := nI 8) (lv2 := [.ref 82, .int (nI 0), .int (nI 8)]) rfl (by decide +kernel) (by decide) rfl d_M_allWait_22 ?_
                        refine aw_goto (tgt := 4) (by decide) d_M_allWait_25 ?_
                        refine aw_iload_n rfl rfl d_M_allWait_4 ?_
                        refine aw_bipush (v := nI 8) cb_8 d_M_allWait_5 ?_
                        refine aw_icmp_gtI (tgt := 28) (8) (8) (by decide +kernel) (by decide +kernel) (by decide) d_M_allWait_7 (fun q => absurd q (by decide)) (fun _ => ?_)
                        refine aw_iload_n rfl rfl d_M_allWait_10 ?_
                        refine aw_aload_n rfl rfl d_M_allWait_11 ?_
                        refine aw_getr fl_M_40 kc_82 (by decide) rfl rc_82_8 d_M_allWait_12 ?_
                        refine aw_bipush (v := nI 20) cb_20 d_M_allWait_15 ?_
                        refine aw_iload_n rfl rfl d_M_allWait_17 ?_
                        refine aw_iadd d_M_allWait_18 ?_
                        refine aw_top (x2 := nI 28) (by decide +kernel) ?_
                        refine aw_iald (j := 28) kc_92 (vp_in_nI (by decide) (by decide)) (nI_clamp (by decide)) d_M_allWait_19 ?_
                        refine aw_top (x2 := nI 0) (d8 28 (by decide) (by decide) (by decide) (by decide)) ?_
                        refine aw_iadd d_M_allWait_20 ?_
                        refine aw_top (x2 := nI 0) (by decide +kernel) ?_
                        refine aw_istore_n (lv2 := [.ref 82, .int (nI 0), .int (nI 8)]) rfl (by decide) rfl d_M_allWait_21 ?_
                        refine aw_iinc (v := nI 9) (lv2 := [.ref 82, .int (nI 0), .int (nI 9)]) rfl (by decide +kernel) (by decide) rfl d_M_allWait_22 ?_
                        refine aw_goto (tgt := 4) (by decide) d_M_allWait_25 ?_
                        refine aw_iload_n rfl rfl d_M_allWait_4 ?_
                        refine aw_bipush (v := nI 8) cb_8 d_M_allWait_5 ?_
                        refine aw_icmp_gtI (tgt := 28) (9) (8) (by decide +kernel) (by decide +kernel) (by decide) d_M_allWait_7 (fun _ => ?_) (fun q => absurd q (by decide))
                        refine aw_iload_n rfl rfl d_M_allWait_28 ?_
                        refine as_reti rfl d_M_allWait_29 ?_
                        refine (show As l b 13 y_M_gained KC RC _ (I111) 77 [.ref 81, .ref 1, .int (nI 2)] [.int (nI 0)] from ?_)
                        refine aw_aload_n rfl rfl d_M_gained_77 ?_
                        refine as_callS (as := [.ref 1]) (d' := 12) mo_M_allWait lk_M_43 rfl ⟨by decide, by decide⟩ rfl rfl (by decide) d_M_gained_78 (Ss.of (show As l b 12 y_M_allWait KC RC _ (I111) 0 [.ref 1, uu, uu] [] from ?_))
                        refine aw_iconst (v := nI 0) ci_0 d_M_allWait_0 ?_
                        refine aw_istore_n (lv2 := [.ref 1, .int (nI 0), uu]) rfl (by decide) rfl d_M_allWait_1 ?_
                        refine aw_iconst (v := nI 1) ci_1 d_M_allWait_2 ?_
                        refine aw_istore_n (lv2 := [.ref 1, .int (nI 0), .int (nI 1)]) rfl (by decide) rfl d_M_allWait_3 ?_
                        refine aw_iload_n rfl rfl d_M_allWait_4 ?_
                        refine aw_bipush (v := nI 8) cb_8 d_M_allWait_5 ?_
                        refine aw_icmp_gtI (tgt := 28) (1) (8) (by decide +kernel) (by decide +kernel) (by decide) d_M_allWait_7 (fun q => absurd q (by decide)) (fun _ => ?_)
                        refine aw_iload_n rfl rfl d_M_allWait_10 ?_
                        refine aw_aload_n rfl rfl d_M_allWait_11 ?_
                        refine aw_getr fl_M_40 kc_1 (by decide) rfl rc_1_8 d_M_allWait_12 ?_
                        refine aw_bipush (v := nI 20) cb_20 d_M_allWait_15 ?_
                        refine aw_iload_n rfl rfl d_M_allWait_17 ?_
                        refine aw_iadd d_M_allWait_18 ?_
                        refine aw_top (x2 := nI 21) (by decide +kernel) ?_
                        refine aw_iald (j := 21) kc_11 (vp_in_nI (by decide) (by decide)) (nI_clamp (by decide)) d_M_allWait_19 ?_
                        refine aw_top (x2 := nI 0) (((congrFun (fr113 11 (by decide)) (21)).trans (Eq.trans (congrFun (upd2_ne (by decide)) (21)) (Eq.trans (congrFun (upd2_ne (by decide)) (21)) (Eq.trans (congrFun (upd2_ne (by decide)) (21)) (Eq.trans (congrFun (upd2_ne (by decide)) (21)) (Eq.trans (congrFun (upd2_ne (by decide)) (21)) (Eq.trans (congrFun (upd2_ne (by decide)) (21)) (((congrFun (e108 11 (by decide)) (21)).trans (((congrFun (e104 11 (by decide)) (21)).trans (((congrFun (e100 11 (by decide)) (21)).trans (((congrFun (e96 11 (by decide)) (21)).trans (((congrFun (e92 11 (by decide)) (21)).trans (((congrFun (e88 11 (by decide)) (21)).trans (((congrFun (e84 11 (by decide)) (21)).trans (((congrFun (e80 11 (by decide)) (21)).trans (((congrFun (e76 11 (by decide)) (21)).trans (((congrFun (e72 11 (by decide)) (21)).trans (((congrFun (e68 11 (by decide)) (21)).trans (((congrFun (e64 11 (by decide)) (21)).trans (((congrFun (e60 11 (by decide)) (21)).trans (Eq.trans (congrFun (upd2_ne (by decide)) (21)) (Eq.trans (congrFun (upd2_ne (by decide)) (21)) (((congrFun (e56 11 (by decide)) (21)).trans (((congrFun (e52 11 (by decide)) (21)).trans (((congrFun (e48 11 (by decide)) (21)).trans (Eq.trans (congrFun (upd2_ne (by decide)) (21)) (Eq.trans (congrFun (upd2_ne (by decide)) (21)) (((congrFun (e44 11 (by decide)) (21)).trans (((congrFun (e40 11 (by decide)) (21)).trans (((congrFun (e36 11 (by decide)) (21)).trans (Eq.trans (congrFun (upd2_ne (by decide)) (21)) (Eq.trans (congrFun (upd2_ne (by decide)) (21)) (((congrFun (e32 11 (by decide)) (21)).trans (((congrFun (e28 11 (by decide)) (21)).trans (((congrFun (e24 11 (by decide)) (21)).trans (Eq.trans (congrFun (upd2_ne (by decide)) (21)) (Eq.trans (congrFun (upd2_ne (by decide)) (21)) (((congrFun (e20 11 (by decide)) (21)).trans (((congrFun (e16 11 (by decide)) (21)).trans (((congrFun (e12 11 (by decide)) (21)).trans (Eq.trans (congrFun (upd2_ne (by decide)) (21)) (Eq.trans (congrFun (upd2_ne (by decide)) (21)) (f8 21 (by decide) (by decide) (by decide) (by decide)))))))))))))))))))))))))))))))))))))))))))))))))))))))))))))))))))))) ?_
                        refine aw_iadd d_M_allWait_20 ?_
                        refine aw_top (x2 := nI 0) (by decide +kernel) ?_
                        refine aw_istore_n (lv2 := [.ref 1, .int (nI 0), .int (nI 1)]) rfl (by decide) rfl d_M_allWait_21 ?_
                        refine aw_iinc (v := nI 2) (lv2 := [.ref 1, .int (nI 0), .int (nI 2)]) rfl (by decide +kernel) (by decide) rfl d_M_allWait_22 ?_
                        refine aw_goto (tgt := 4) (by decide) d_M_allWait_25 ?_
                        refine aw_iload_n rfl rfl d_M_allWait_4 ?_
                        refine aw_bipush (v := nI 8) cb_8 d_M_allWait_5 ?_
                        refine aw_icmp_gtI (tgt := 28) (2) (8) (by decide +kernel) (by decide +kernel) (by decide) d_M_allWait_7 (fun q => absurd q (by decide)) (fun _ => ?_)
                        refine aw_iload_n rfl rfl d_M_allWait_10 ?_
                        refine aw_aload_n rfl rfl d_M_allWait_11 ?_
                        refine aw_getr fl_M_40 kc_1 (by decide) rfl rc_1_8 d_M_allWait_12 ?_
                        refine aw_bipush (v := nI 20) cb_20 d_M_allWait_15 ?_
                        refine aw_iload_n rfl rfl d_M_allWait_17 ?_
                        refine aw_iadd d_M_allWait_18 ?_
                        refine aw_top (x2 := nI 22) (by decide +kernel) ?_
                        refine aw_iald (j := 22) kc_11 (vp_in_nI (by decide) (by decide)) (nI_clamp (by decide)) d_M_allWait_19 ?_
                        refine aw_top (x2 := nI 0) (((congrFun (fr113 11 (by decide)) (22)).trans (Eq.trans (congrFun (upd2_ne (by decide)) (22)) (Eq.trans (congrFun (upd2_ne (by decide)) (22)) (Eq.trans (congrFun (upd2_ne (by decide)) (22)) (Eq.trans (congrFun (upd2_ne (by decide)) (22)) (Eq.trans (congrFun (upd2_ne (by decide)) (22)) (Eq.trans (congrFun (upd2_ne (by decide)) (22)) (((congrFun (e108 11 (by decide)) (22)).trans (((congrFun (e104 11 (by decide)) (22)).trans (((congrFun (e100 11 (by decide)) (22)).trans (((congrFun (e96 11 (by decide)) (22)).trans (((congrFun (e92 11 (by decide)) (22)).trans (((congrFun (e88 11 (by decide)) (22)).trans (((congrFun (e84 11 (by decide)) (22)).trans (((congrFun (e80 11 (by decide)) (22)).trans (((congrFun (e76 11 (by decide)) (22)).trans (((congrFun (e72 11 (by decide)) (22)).trans (((congrFun (e68 11 (by decide)) (22)).trans (((congrFun (e64 11 (by decide)) (22)).trans (((congrFun (e60 11 (by decide)) (22)).trans (Eq.trans (congrFun (upd2_ne (by decide)) (22)) (Eq.trans (congrFun (upd2_ne (by decide)) (22)) (((congrFun (e56 11 (by decide)) (22)).trans (((congrFun (e52 11 (by decide)) (22)).trans (((congrFun (e48 11 (by decide)) (22)).trans (Eq.trans (congrFun (upd2_ne (by decide)) (22)) (Eq.trans (congrFun (upd2_ne (by decide)) (22)) (((congrFun (e44 11 (by decide)) (22)).trans (((congrFun (e40 11 (by decide)) (22)).trans (((congrFun (e36 11 (by decide)) (22)).trans (Eq.trans (congrFun (upd2_ne (by decide)) (22)) (Eq.trans (congrFun (upd2_ne (by decide)) (22)) (((congrFun (e32 11 (by decide)) (22)).trans (((congrFun (e28 11 (by decide)) (22)).trans (((congrFun (e24 11 (by decide)) (22)).trans (Eq.trans (congrFun (upd2_ne (by decide)) (22)) (Eq.trans (congrFun (upd2_ne (by decide)) (22)) (((congrFun (e20 11 (by decide)) (22)).trans (((congrFun (e16 11 (by decide)) (22)).trans (((congrFun (e12 11 (by decide)) (22)).trans (Eq.trans (congrFun (upd2_ne (by decide)) (22)) (Eq.trans (congrFun (upd2_ne (by decide)) (22)) (f8 22 (by decide) (by decide) (by decide) (by decide)))))))))))))))))))))))))))))))))))))))))))))))))))))))))))))))))))))) ?_
                        refine aw_iadd d_M_allWait_20 ?_
                        refine aw_top (x2 := nI 0) (by decide +kernel) ?_
                        refine aw_istore_n (lv2 := [.ref 1, .int (nI 0), .int (nI 2)]) rfl (by decide) rfl d_M_allWait_21 ?_
                        refine aw_iinc (v := nI 3) (lv2 := [.ref 1, .int (nI 0), .int (nI 3)]) rfl (by decide +kernel) (by decide) rfl d_M_allWait_22 ?_
                        refine aw_goto (tgt := 4) (by decide) d_M_allWait_25 ?_
                        refine aw_iload_n rfl rfl d_M_allWait_4 ?_
                        refine aw_bipush (v := nI 8) cb_8 d_M_allWait_5 ?_
                        refine aw_icmp_gtI (tgt := 28) (3) (8) (by decide +kernel) (by decide +kernel) (by decide) d_M_allWait_7 (fun q => absurd q (by decide)) (fun _ => ?_)
                        refine aw_iload_n rfl rfl d_M_allWait_10 ?_
                        refine aw_aload_n rfl rfl d_M_allWait_11 ?_
                        refine aw_getr fl_M_40 kc_1 (by decide) rfl rc_1_8 d_M_allWait_12 ?_
                        refine aw_bipush (v := nI 20) cb_20 d_M_allWait_15 ?_
                        refine aw_iload_n rfl rfl d_M_allWait_17 ?_
                        refine aw_iadd d_M_allWait_18 ?_
                        refine aw_top (x2 := nI 23) (by decide +kernel) ?_
                        refine aw_iald (j := 23) kc_11 (vp_in_nI (by decide) (by decide)) (nI_clamp (by decide)) d_M_allWait_19 ?_
                        refine aw_top (x2 := nI 0) (((congrFun (fr113 11 (by decide)) (23)).trans (Eq.trans (congrFun (upd2_ne (by decide)) (23)) (Eq.trans (congrFun (upd2_ne (by decide)) (23)) (Eq.trans (congrFun (upd2_ne (by decide)) (23)) (Eq.trans (congrFun (upd2_ne (by decide)) (23)) (Eq.trans (congrFun (upd2_ne (by decide)) (23)) (Eq.trans (congrFun (upd2_ne (by decide)) (23)) (((congrFun (e108 11 (by decide)) (23)).trans (((congrFun (e104 11 (by decide)) (23)).trans (((congrFun (e100 11 (by decide)) (23)).trans (((congrFun (e96 11 (by decide)) (23)).trans (((congrFun (e92 11 (by decide)) (23)).trans (((congrFun (e88 11 (by decide)) (23)).trans (((congrFun (e84 11 (by decide)) (23)).trans (((congrFun (e80 11 (by decide)) (23)).trans (((congrFun (e76 11 (by decide)) (23)).trans (((congrFun (e72 11 (by decide)) (23)).trans (((congrFun (e68 11 (by decide)) (23)).trans (((congrFun (e64 11 (by decide)) (23)).trans (((congrFun (e60 11 (by decide)) (23)).trans (Eq.trans (congrFun (upd2_ne (by decide)) (23)) (Eq.trans (congrFun (upd2_ne (by decide)) (23)) (((congrFun (e56 11 (by decide)) (23)).trans (((congrFun (e52 11 (by decide)) (23)).trans (((congrFun (e48 11 (by decide)) (23)).trans (Eq.trans (congrFun (upd2_ne (by decide)) (23)) (Eq.trans (congrFun (upd2_ne (by decide)) (23)) (((congrFun (e44 11 (by decide)) (23)).trans (((congrFun (e40 11 (by decide)) (23)).trans (((congrFun (e36 11 (by decide)) (23)).trans (Eq.trans (congrFun (upd2_ne (by decide)) (23)) (Eq.trans (congrFun (upd2_ne (by decide)) (23)) (((congrFun (e32 11 (by decide)) (23)).trans (((congrFun (e28 11 (by decide)) (23)).trans (((congrFun (e24 11 (by decide)) (23)).trans (Eq.trans (congrFun (upd2_ne (by decide)) (23)) (Eq.trans (congrFun (upd2_ne (by decide)) (23)) (((congrFun (e20 11 (by decide)) (23)).trans (((congrFun (e16 11 (by decide)) (23)).trans (((congrFun (e12 11 (by decide)) (23)).trans (Eq.trans (congrFun (upd2_ne (by decide)) (23)) (Eq.trans (congrFun (upd2_ne (by decide)) (23)) (f8 23 (by decide) (by decide) (by decide) (by decide)))))))))))))))))))))))))))))))))))))))))))))))))))))))))))))))))))))) ?_
                        refine aw_iadd d_M_allWait_20 ?_
                        refine aw_top (x2 := nI 0) (by decide +kernel) ?_
                        refine aw_istore_n (lv2 := [.ref 1, .int (nI 0), .int (nI 3)]) rfl (by decide) rfl d_M_allWait_21 ?_
                        refine aw_iinc (v := nI 4) (lv2 := [.ref 1, .int (nI 0), .int (nI 4)]) rfl (by decide +kernel) (by decide) rfl d_M_allWait_22 ?_
                        refine aw_goto (tgt := 4) (by decide) d_M_allWait_25 ?_
                        refine aw_iload_n rfl rfl d_M_allWait_4 ?_
                        refine aw_bipush (v := nI 8) cb_8 d_M_allWait_5 ?_
                        refine aw_icmp_gtI (tgt := 28) (4) (8) (by decide +kernel) (by decide +kernel) (by decide) d_M_allWait_7 (fun q => absurd q (by decide)) (fun _ => ?_)
                        refine aw_iload_n rfl rfl d_M_allWait_10 ?_
                        refine aw_aload_n rfl rfl d_M_allWait_11 ?_
                        refine aw_getr fl_M_40 kc_1 (by decide) rfl rc_1_8 d_M_allWait_12 ?_
                        refine aw_bipush (v := nI 20) cb_20 d_M_allWait_15 ?_
                        refine aw_iload_n rfl rfl d_M_allWait_17 ?_
                        refine aw_iadd d_M_allWait_18 ?_
                        refine aw_top (x2 := nI 24) (by decide +kernel) ?_
                        refine aw_iald (j := 24) kc_11 (vp_in_nI (by decide) (by decide)) (nI_clamp (by decide)) d_M_allWait_19 ?_
                        refine aw_top (x2 := nI 0) (((congrFun (fr113 11 (by decide)) (24)).trans (Eq.trans (congrFun (upd2_ne (by decide)) (24)) (Eq.trans (congrFun (upd2_ne (by decide)) (24)) (Eq.trans (congrFun (upd2_ne (by decide)) (24)) (Eq.trans (congrFun (upd2_ne (by decide)) (24)) (Eq.trans (congrFun (upd2_ne (by decide)) (24)) (Eq.trans (congrFun (upd2_ne (by decide)) (24)) (((congrFun (e108 11 (by decide)) (24)).trans (((congrFun (e104 11 (by decide)) (24)).trans (((congrFun (e100 11 (by decide)) (24)).trans (((congrFun (e96 11 (by decide)) (24)).trans (((congrFun (e92 11 (by decide)) (24)).trans (((congrFun (e88 11 (by decide)) (24)).trans (((congrFun (e84 11 (by decide)) (24)).trans (((congrFun (e80 11 (by decide)) (24)).trans (((congrFun (e76 11 (by decide)) (24)).trans (((congrFun (e72 11 (by decide)) (24)).trans (((congrFun (e68 11 (by decide)) (24)).trans (((congrFun (e64 11 (by decide)) (24)).trans (((congrFun (e60 11 (by decide)) (24)).trans (Eq.trans (congrFun (upd2_ne (by decide)) (24)) (Eq.trans (congrFun (upd2_ne (by decide)) (24)) (((congrFun (e56 11 (by decide)) (24)).trans (((congrFun (e52 11 (by decide)) (24)).trans (((congrFun (e48 11 (by decide)) (24)).trans (Eq.trans (congrFun (upd2_ne (by decide)) (24)) (Eq.trans (congrFun (upd2_ne (by decide)) (24)) (((congrFun (e44 11 (by decide)) (24)).trans (((congrFun (e40 11 (by decide)) (24)).trans (((congrFun (e36 11 (by decide)) (24)).trans (Eq.trans (congrFun (upd2_ne (by decide)) (24)) (Eq.trans (congrFun (upd2_ne (by decide)) (24)) (((congrFun (e32 11 (by decide)) (24)).trans (((congrFun (e28 11 (by decide)) (24)).trans (((congrFun (e24 11 (by decide)) (24)).trans (Eq.trans (congrFun (upd2_ne (by decide)) (24)) (Eq.trans (congrFun (upd2_ne (by decide)) (24)) (((congrFun (e20 11 (by decide)) (24)).trans (((congrFun (e16 11 (by decide)) (24)).trans (((congrFun (e12 11 (by decide)) (24)).trans (Eq.trans (congrFun (upd2_ne (by decide)) (24)) (Eq.trans (congrFun (upd2_ne (by decide)) (24)) (f8 24 (by decide) (by decide) (by decide) (by decide)))))))))))))))))))))))))))))))))))))))))))))))))))))))))))))))))))))) ?_
                        refine aw_iadd d_M_allWait_20 ?_
                        refine aw_top (x2 := nI 0) (by decide +kernel) ?_
                        refine aw_istore_n (lv2 := [.ref 1, .int (nI 0), .int (nI 4)]) rfl (by decide) rfl d_M_allWait_21 ?_
                        refine aw_iinc (v := nI 5) (lv2 := [.ref 1, .int (nI 0), .int (nI 5)]) rfl (by decide +kernel) (by decide) rfl d_M_allWait_22 ?_
                        refine aw_goto (tgt := 4) (by decide) d_M_allWait_25 ?_
                        refine aw_iload_n rfl rfl d_M_allWait_4 ?_
                        refine aw_bipush (v := nI 8) cb_8 d_M_allWait_5 ?_
                        refine aw_icmp_gtI (tgt := 28) (5) (8) (by decide +kernel) (by decide +kernel) (by decide) d_M_allWait_7 (fun q => absurd q (by decide)) (fun _ => ?_)
                        refine aw_iload_n rfl rfl d_M_allWait_10 ?_
                        refine aw_aload_n rfl rfl d_M_allWait_11 ?_
                        refine aw_getr fl_M_40 kc_1 (by decide) rfl rc_1_8 d_M_allWait_12 ?_
                        refine aw_bipush (v := nI 20) cb_20 d_M_allWait_15 ?_
                        refine aw_iload_n rfl rfl d_M_allWait_17 ?_
                        refine aw_iadd d_M_allWait_18 ?_
                        refine aw_top (x2 := nI 25) (by decide +kernel) ?_
                        refine aw_iald (j := 25) kc_11 (vp_in_nI (by decide) (by decide)) (nI_clamp (by decide)) d_M_allWait_19 ?_
                        refine aw_top (x2 := nI 0) (((congrFun (fr113 11 (by decide)) (25)).trans (Eq.trans (congrFun (upd2_ne (by decide)) (25)) (Eq.trans (congrFun (upd2_ne (by decide)) (25)) (Eq.trans (congrFun (upd2_ne (by decide)) (25)) (Eq.trans (congrFun (upd2_ne (by decide)) (25)) (Eq.trans (congrFun (upd2_ne (by decide)) (25)) (Eq.trans (congrFun (upd2_ne (by decide)) (25)) (((congrFun (e108 11 (by decide)) (25)).trans (((congrFun (e104 11 (by decide)) (25)).trans (((congrFun (e100 11 (by decide)) (25)).trans (((congrFun (e96 11 (by decide)) (25)).trans (((congrFun (e92 11 (by decide)) (25)).trans (((congrFun (e88 11 (by decide)) (25)).trans (((congrFun (e84 11 (by decide)) (25)).trans (((congrFun (e80 11 (by decide)) (25)).trans (((congrFun (e76 11 (by decide)) (25)).trans (((congrFun (e72 11 (by decide)) (25)).trans (((congrFun (e68 11 (by decide)) (25)).trans (((congrFun (e64 11 (by decide)) (25)).trans (((congrFun (e60 11 (by decide)) (25)).trans (Eq.trans (congrFun (upd2_ne (by decide)) (25)) (Eq.trans (congrFun (upd2_ne (by decide)) (25)) (((congrFun (e56 11 (by decide)) (25)).trans (((congrFun (e52 11 (by decide)) (25)).trans (((congrFun (e48 11 (by decide)) (25)).trans (Eq.trans (congrFun (upd2_ne (by decide)) (25)) (Eq.trans (congrFun (upd2_ne (by decide)) (25)) (((congrFun (e44 11 (by decide)) (25)).trans (((congrFun (e40 11 (by decide)) (25)).trans (((congrFun (e36 11 (by decide)) (25)).trans (Eq.trans (congrFun (upd2_ne (by decide)) (25)) (Eq.trans (congrFun (upd2_ne (by decide)) (25)) (((congrFun (e32 11 (by decide)) (25)).trans (((congrFun (e28 11 (by decide)) (25)).trans (((congrFun (e24 11 (by decide)) (25)).trans (Eq.trans (congrFun (upd2_ne (by decide)) (25)) (Eq.trans (congrFun (upd2_ne (by decide)) (25)) (((congrFun (e20 11 (by decide)) (25)).trans (((congrFun (e16 11 (by decide)) (25)).trans (((congrFun (e12 11 (by decide)) (25)).trans (Eq.trans (congrFun (upd2_ne (by decide)) (25)) (Eq.trans (congrFun (upd2_ne (by decide)) (25)) (f8 25 (by decide) (by decide) (by decide) (by decide)))))))))))))))))))))))))))))))))))))))))))))))))))))))))))))))))))))) ?_
                        refine aw_iadd d_M_allWait_20 ?_
                        refine aw_top (x2 := nI 0) (by decide +kernel) ?_
                        refine aw_istore_n (lv2 := [.ref 1, .int (nI 0), .int (nI 5)]) rfl (by decide) rfl d_M_allWait_21 ?_
                        refine aw_iinc (v := nI 6) (lv2 := [.ref 1, .int (nI 0), .int (nI 6)]) rfl (by decide +kernel) (by decide) rfl d_M_allWait_22 ?_
                        refine aw_goto (tgt := 4) (by decide) d_M_allWait_25 ?_
                        refine aw_iload_n rfl rfl d_M_allWait_4 ?_
                        refine aw_bipush (v := nI 8) cb_8 d_M_allWait_5 ?_
                        refine aw_icmp_gtI (tgt := 28) (6) (8) (by decide +kernel) (by decide +kernel) (by decide) d_M_allWait_7 (fun q => absurd q (by decide)) (fun _ => ?_)
                        refine aw_iload_n rfl rfl d_M_allWait_10 ?_
                        refine aw_aload_n rfl rfl d_M_allWait_11 ?_
                        refine aw_getr fl_M_40 kc_1 (by decide) rfl rc_1_8 d_M_allWait_12 ?_
                        refine aw_bipush (v := nI 20) cb_20 d_M_allWait_15 ?_
                        refine aw_iload_n rfl rfl d_M_allWait_17 ?_
                        refine aw_iadd d_M_allWait_18 ?_
                        refine aw_top (x2 := nI 26) (by decide +kernel) ?_
                        refine aw_iald (j := 26) kc_11 (vp_in_nI (by decide) (by decide)) (nI_clamp (by decide)) d_M_allWait_19 ?_
                        refine aw_top (x2 := nI 0) (((congrFun (fr113 11 (by decide)) (26)).trans (Eq.trans (congrFun (upd2_ne (by decide)) (26)) (Eq.trans (congrFun (upd2_ne (by decide)) (26)) (Eq.trans (congrFun (upd2_ne (by decide)) (26)) (Eq.trans (congrFun (upd2_ne (by decide)) (26)) (Eq.trans (congrFun (upd2_ne (by decide)) (26)) (Eq.trans (congrFun (upd2_ne (by decide)) (26)) (((congrFun (e108 11 (by decide)) (26)).trans (((congrFun (e104 11 (by decide)) (26)).trans (((congrFun (e100 11 (by decide)) (26)).trans (((congrFun (e96 11 (by decide)) (26)).trans (((congrFun (e92 11 (by decide)) (26)).trans (((congrFun (e88 11 (by decide)) (26)).trans (((congrFun (e84 11 (by decide)) (26)).trans (((congrFun (e80 11 (by decide)) (26)).trans (((congrFun (e76 11 (by decide)) (26)).trans (((congrFun (e72 11 (by decide)) (26)).trans (((congrFun (e68 11 (by decide)) (26)).trans (((congrFun (e64 11 (by decide)) (26)).trans (((congrFun (e60 11 (by decide)) (26)).trans (Eq.trans (congrFun (upd2_ne (by decide)) (26)) (Eq.trans (congrFun (upd2_ne (by decide)) (26)) (((congrFun (e56 11 (by decide)) (26)).trans (((congrFun (e52 11 (by decide)) (26)).trans (((congrFun (e48 11 (by decide)) (26)).trans (Eq.trans (congrFun (upd2_ne (by decide)) (26)) (Eq.trans (congrFun (upd2_ne (by decide)) (26)) (((congrFun (e44 11 (by decide)) (26)).trans (((congrFun (e40 11 (by decide)) (26)).trans (((congrFun (e36 11 (by decide)) (26)).trans (Eq.trans (congrFun (upd2_ne (by decide)) (26)) (Eq.trans (congrFun (upd2_ne (by decide)) (26)) (((congrFun (e32 11 (by decide)) (26)).trans (((congrFun (e28 11 (by decide)) (26)).trans (((congrFun (e24 11 (by decide)) (26)).trans (Eq.trans (congrFun (upd2_ne (by decide)) (26)) (Eq.trans (congrFun (upd2_ne (by decide)) (26)) (((congrFun (e20 11 (by decide)) (26)).trans (((congrFun (e16 11 (by decide)) (26)).trans (((congrFun (e12 11 (by decide)) (26)).trans (Eq.trans (congrFun (upd2_ne (by decide)) (26)) (Eq.trans (congrFun (upd2_ne (by decide)) (26)) (f8 26 (by decide) (by decide) (by decide) (by decide)))))))))))))))))))))))))))))))))))))))))))))))))))))))))))))))))))))) ?_
                        refine aw_iadd d_M_allWait_20 ?_
                        refine aw_top (x2 := nI 0) (by decide +kernel) ?_
                        refine aw_istore_n (lv2 := [.ref 1, .int (nI 0), .int (nI 6)]) rfl (by decide) rfl d_M_allWait_21 ?_
                        refine aw_iinc (v := nI 7) (lv2 := [.ref 1, .int (nI 0), .int (nI 7)]) rfl (by decide +kernel) (by decide) rfl d_M_allWait_22 ?_
                        refine aw_goto (tgt := 4) (by decide) d_M_allWait_25 ?_
                        refine aw_iload_n rfl rfl d_M_allWait_4 ?_
                        refine aw_bipush (v := nI 8) cb_8 d_M_allWait_5 ?_
                        refine aw_icmp_gtI (tgt := 28) (7) (8) (by decide +kernel) (by decide +kernel) (by decide) d_M_allWait_7 (fun q => absurd q (by decide)) (fun _ => ?_)
                        refine aw_iload_n rfl rfl d_M_allWait_10 ?_
                        refine aw_aload_n rfl rfl d_M_allWait_11 ?_
                        refine aw_getr fl_M_40 kc_1 (by decide) rfl rc_1_8 d_M_allWait_12 ?_
                        refine aw_bipush (v := nI 20) cb_20 d_M_allWait_15 ?_
                        refine aw_iload_n rfl rfl d_M_allWait_17 ?_
                        refine aw_iadd d_M_allWait_18 ?_
                        refine aw_top (x2 := nI 27) (by decide +kernel) ?_
                        refine aw_iald (j := 27) kc_11 (vp_in_nI (by decide) (by decide)) (nI_clamp (by decide)) d_M_allWait_19 ?_
                        refine aw_top (x2 := nI 0) (((congrFun (fr113 11 (by decide)) (27)).trans (Eq.trans (congrFun (upd2_ne (by decide)) (27)) (Eq.trans (congrFun (upd2_ne (by decide)) (27)) (Eq.trans (congrFun (upd2_ne (by decide)) (27)) (Eq.trans (congrFun (upd2_ne (by decide)) (27)) (Eq.trans (congrFun (upd2_ne (by decide)) (27)) (Eq.trans (congrFun (upd2_ne (by decide)) (27)) (((congrFun (e108 11 (by decide)) (27)).trans (((congrFun (e104 11 (by decide)) (27)).trans (((congrFun (e100 11 (by decide)) (27)).trans (((congrFun (e96 11 (by decide)) (27)).trans (((congrFun (e92 11 (by decide)) (27)).trans (((congrFun (e88 11 (by decide)) (27)).trans (((congrFun (e84 11 (by decide)) (27)).trans (((congrFun (e80 11 (by decide)) (27)).trans (((congrFun (e76 11 (by decide)) (27)).trans (((congrFun (e72 11 (by decide)) (27)).trans (((congrFun (e68 11 (by decide)) (27)).trans (((congrFun (e64 11 (by decide)) (27)).trans (((congrFun (e60 11 (by decide)) (27)).trans (Eq.trans (congrFun (upd2_ne (by decide)) (27)) (Eq.trans (congrFun (upd2_ne (by decide)) (27)) (((congrFun (e56 11 (by decide)) (27)).trans (((congrFun (e52 11 (by decide)) (27)).trans (((congrFun (e48 11 (by decide)) (27)).trans (Eq.trans (congrFun (upd2_ne (by decide)) (27)) (Eq.trans (congrFun (upd2_ne (by decide)) (27)) (((congrFun (e44 11 (by decide)) (27)).trans (((congrFun (e40 11 (by decide)) (27)).trans (((congrFun (e36 11 (by decide)) (27)).trans (Eq.trans (congrFun (upd2_ne (by decide)) (27)) (Eq.trans (congrFun (upd2_ne (by decide)) (27)) (((congrFun (e32 11 (by decide)) (27)).trans (((congrFun (e28 11 (by decide)) (27)).trans (((congrFun (e24 11 (by decide)) (27)).trans (Eq.trans (congrFun (upd2_ne (by decide)) (27)) (Eq.trans (congrFun (upd2_ne (by decide)) (27)) (((congrFun (e20 11 (by decide)) (27)).trans (((congrFun (e16 11 (by decide)) (27)).trans (((congrFun (e12 11 (by decide)) (27)).trans (Eq.trans (congrFun (upd2_ne (by decide)) (27)) (Eq.trans (congrFun (upd2_ne (by decide)) (27)) (f8 27 (by decide) (by decide) (by decide) (by decide)))))))))))))))))))))))))))))))))))))))))))))))))))))))))))))))))))))) ?_
                        refine aw_iadd d_M_allWait_20 ?_
                        refine aw_top (x2 := nI 0) (by decide +kernel) ?_
                        refine aw_istore_n (lv2 := [.ref 1, .int (nI 0), .int (nI 7)]) rfl (by decide) rfl d_M_allWait_21 ?_
                        refine aw_iinc (v := nI 8) (lv2 := [.ref 1, .int (nI 0), .int (nI 8)]) rfl (by decide +kernel) (by decide) rfl d_M_allWait_22 ?_
                        refine aw_goto (tgt := 4) (by decide) d_M_allWait_25 ?_
                        refine aw_iload_n rfl rfl d_M_allWait_4 ?_
                        refine aw_bipush (v := nI 8) cb_8 d_M_allWait_5 ?_
                        refine aw_icmp_gtI (tgt := 28) (8) (8) (by decide +kernel) (by decide +kernel) (by decide) d_M_allWait_7 (fun q => absurd q (by decide)) (fun _ => ?_)
                        refine aw_iload_n rfl rfl d_M_allWait_10 ?_
                        refine aw_aload_n rfl rfl d_M_allWait_11 ?_
                        refine aw_getr fl_M_40 kc_1 (by decide) rfl rc_1_8 d_M_allWait_12 ?_
                        refine aw_bipush (v := nI 20) cb_20 d_M_allWait_15 ?_
                        refine aw_iload_n rfl rfl d_M_allWait_17 ?_
                        refine aw_iadd d_M_allWait_18 ?_
                        refine aw_top (x2 := nI 28) (by decide +kernel) ?_
                        refine aw_iald (j := 28) kc_11 (vp_in_nI (by decide) (by decide)) (nI_clamp (by decide)) d_M_allWait_19 ?_
                        refine aw_top (x2 := nI 0) (((congrFun (fr113 11 (by decide)) (28)).trans (Eq.trans (congrFun (upd2_ne (by decide)) (28)) (Eq.trans (congrFun (upd2_ne (by decide)) (28)) (Eq.trans (congrFun (upd2_ne (by decide)) (28)) (Eq.trans (congrFun (upd2_ne (by decide)) (28)) (Eq.trans (congrFun (upd2_ne (by decide)) (28)) (Eq.trans (congrFun (upd2_ne (by decide)) (28)) (((congrFun (e108 11 (by decide)) (28)).trans (((congrFun (e104 11 (by decide)) (28)).trans (((congrFun (e100 11 (by decide)) (28)).trans (((congrFun (e96 11 (by decide)) (28)).trans (((congrFun (e92 11 (by decide)) (28)).trans (((congrFun (e88 11 (by decide)) (28)).trans (((congrFun (e84 11 (by decide)) (28)).trans (((congrFun (e80 11 (by decide)) (28)).trans (((congrFun (e76 11 (by decide)) (28)).trans (((congrFun (e72 11 (by decide)) (28)).trans (((congrFun (e68 11 (by decide)) (28)).trans (((congrFun (e64 11 (by decide)) (28)).trans (((congrFun (e60 11 (by decide)) (28)).trans (Eq.trans (congrFun (upd2_ne (by decide)) (28)) (Eq.trans (congrFun (upd2_ne (by decide)) (28)) (((congrFun (e56 11 (by decide)) (28)).trans (((congrFun (e52 11 (by decide)) (28)).trans (((congrFun (e48 11 (by decide)) (28)).trans (Eq.trans (congrFun (upd2_ne (by decide)) (28)) (Eq.trans (congrFun (upd2_ne (by decide)) (28)) (((congrFun (e44 11 (by decide)) (28)).trans (((congrFun (e40 11 (by decide)) (28)).trans (((congrFun (e36 11 (by decide)) (28)).trans (Eq.trans (congrFun (upd2_ne (by decide)) (28)) (Eq.trans (congrFun (upd2_ne (by decide)) (28)) (((congrFun (e32 11 (by decide)) (28)).trans (((congrFun (e28 11 (by decide)) (28)).trans (((congrFun (e24 11 (by decide)) (28)).trans (Eq.trans (congrFun (upd2_ne (by decide)) (28)) (Eq.trans (congrFun (upd2_ne (by decide)) (28)) (((congrFun (e20 11 (by decide)) (28)).trans (((congrFun (e16 11 (by decide)) (28)).trans (((congrFun (e12 11 (by decide)) (28)).trans (Eq.trans (congrFun (upd2_ne (by decide)) (28)) (Eq.trans (congrFun (upd2_ne (by decide)) (28)) (f8 28 (by decide) (by decide) (by decide) (by decide)))))))))))))))))))))))))))))))))))))))))))))))))))))))))))))))))))))) ?_
                        refine aw_iadd d_M_allWait_20 ?_
                        refine aw_top (x2 := nI 0) (by decide +kernel) ?_
                        refine aw_istore_n (lv2 := [.ref 1, .int (nI 0), .int (nI 8)]) rfl (by decide) rfl d_M_allWait_21 ?_
                        refine aw_iinc (v := nI 9) (lv2 := [.ref 1, .int (nI 0), .int (nI 9)]) rfl (by decide +kernel) (by decide) rfl d_M_allWait_22 ?_
                        refine aw_goto (tgt := 4) (by decide) d_M_allWait_25 ?_
                        refine aw_iload_n rfl rfl d_M_allWait_4 ?_
                        refine aw_bipush (v := nI 8) cb_8 d_M_allWait_5 ?_
                        refine aw_icmp_gtI (tgt := 28) (9) (8) (by decide +kernel) (by decide +kernel) (by decide) d_M_allWait_7 (fun _ => ?_) (fun q => absurd q (by decide))
                        refine aw_iload_n rfl rfl d_M_allWait_28 ?_
                        refine as_reti rfl d_M_allWait_29 ?_
                        refine (show As l b 13 y_M_gained KC RC _ (I111) 81 [.ref 81, .ref 1, .int (nI 2)] [.int (nI 0), .int (nI 0)] from ?_)
                        refine aw_isub d_M_gained_81 ?_
                        refine aw_top (x2 := nI 0) (by decide +kernel) ?_
                        refine as_reti rfl d_M_gained_82 ?_
                        refine (show As l b 14 y_S_thought KC RC K2 (I111) 81 [.ref 0, .int (nI (w1)), .int (z), .int (nI (w3)), .int (nI (w4)), .int (nI 2)] [.int (nI 0)] from ?_)
                        exact as_reti rfl d_S_thought_81 (hz (by omega) _)
                      · refine aw_tabInI 3 (by decide +kernel) (by decide) rfl (tgt := 83) (by decide) d_M_gained_1 ?_
                        refine aw_aload_n rfl rfl d_M_gained_83 ?_
                        refine aw_getr fl_M_12 kc_81 (by decide) rfl rc_81_0 d_M_gained_84 ?_
                        refine aw_getr fl_M_40 kc_82 (by decide) rfl rc_82_8 d_M_gained_87 ?_
                        refine aw_bipush (v := nI 6) cb_6 d_M_gained_90 ?_
                        refine aw_iald (j := 6) kc_92 (vp_in_nI (by decide) (by decide)) (nI_clamp (by decide)) d_M_gained_92 ?_
                        refine aw_top (x2 := nI 0) (d8 6 (by decide) (by decide) (by decide) (by decide)) ?_
                        refine aw_aload_n rfl rfl d_M_gained_93 ?_
                        refine aw_getr fl_M_40 kc_1 (by decide) rfl rc_1_8 d_M_gained_94 ?_
                        refine aw_bipush (v := nI 6) cb_6 d_M_gained_97 ?_
                        refine aw_iald (j := 6) kc_11 (vp_in_nI (by decide) (by decide)) (nI_clamp (by decide)) d_M_gained_99 ?_
                        refine aw_top (x2 := nI 0) (((congrFun (fr113 11 (by decide)) (6)).trans (Eq.trans (congrFun (upd2_ne (by decide)) (6)) (Eq.trans (congrFun (upd2_ne (by decide)) (6)) (Eq.trans (congrFun (upd2_ne (by decide)) (6)) (Eq.trans (congrFun (upd2_ne (by decide)) (6)) (Eq.trans (congrFun (upd2_ne (by decide)) (6)) (Eq.trans (congrFun (upd2_ne (by decide)) (6)) (((congrFun (e108 11 (by decide)) (6)).trans (((congrFun (e104 11 (by decide)) (6)).trans (((congrFun (e100 11 (by decide)) (6)).trans (((congrFun (e96 11 (by decide)) (6)).trans (((congrFun (e92 11 (by decide)) (6)).trans (((congrFun (e88 11 (by decide)) (6)).trans (((congrFun (e84 11 (by decide)) (6)).trans (((congrFun (e80 11 (by decide)) (6)).trans (((congrFun (e76 11 (by decide)) (6)).trans (((congrFun (e72 11 (by decide)) (6)).trans (((congrFun (e68 11 (by decide)) (6)).trans (((congrFun (e64 11 (by decide)) (6)).trans (((congrFun (e60 11 (by decide)) (6)).trans (Eq.trans (congrFun (upd2_ne (by decide)) (6)) (Eq.trans (congrFun (upd2_ne (by decide)) (6)) (((congrFun (e56 11 (by decide)) (6)).trans (((congrFun (e52 11 (by decide)) (6)).trans (((congrFun (e48 11 (by decide)) (6)).trans (Eq.trans (congrFun (upd2_ne (by decide)) (6)) (Eq.trans (congrFun (upd2_ne (by decide)) (6)) (((congrFun (e44 11 (by decide)) (6)).trans (((congrFun (e40 11 (by decide)) (6)).trans (((congrFun (e36 11 (by decide)) (6)).trans (Eq.trans (congrFun (upd2_ne (by decide)) (6)) (Eq.trans (congrFun (upd2_ne (by decide)) (6)) (((congrFun (e32 11 (by decide)) (6)).trans (((congrFun (e28 11 (by decide)) (6)).trans (((congrFun (e24 11 (by decide)) (6)).trans (Eq.trans (congrFun (upd2_ne (by decide)) (6)) (Eq.trans (congrFun (upd2_ne (by decide)) (6)) (((congrFun (e20 11 (by decide)) (6)).trans (((congrFun (e16 11 (by decide)) (6)).trans (((congrFun (e12 11 (by decide)) (6)).trans (Eq.trans (congrFun (upd2_ne (by decide)) (6)) (Eq.trans (congrFun (upd2_ne (by decide)) (6)) (f8 6 (by decide) (by decide) (by decide) (by decide)))))))))))))))))))))))))))))))))))))))))))))))))))))))))))))))))))))) ?_
                        refine aw_isub d_M_gained_100 ?_
                        refine aw_top (x2 := nI 0) (by decide +kernel) ?_
                        refine as_reti rfl d_M_gained_101 ?_
                        refine (show As l b 14 y_S_thought KC RC K2 (I111) 81 [.ref 0, .int (nI (w1)), .int (z), .int (nI (w3)), .int (nI (w4)), .int (nI 3)] [.int (nI 0)] from ?_)
                        exact as_reti rfl d_S_thought_81 (hz (by omega) _)
                      · refine aw_tabInI 4 (by decide +kernel) (by decide) rfl (tgt := 102) (by decide) d_M_gained_1 ?_
                        refine aw_aload_n rfl rfl d_M_gained_102 ?_
                        refine aw_getr fl_M_12 kc_81 (by decide) rfl rc_81_0 d_M_gained_103 ?_
                        refine aw_getr fl_M_40 kc_82 (by decide) rfl rc_82_8 d_M_gained_106 ?_
                        refine aw_iconst (v := nI 5) ci_5 d_M_gained_109 ?_
                        refine aw_iald (j := 5) kc_92 (vp_in_nI (by decide) (by decide)) (nI_clamp (by decide)) d_M_gained_110 ?_
                        refine aw_top (x2 := nI 0) (d8 5 (by decide) (by decide) (by decide) (by decide)) ?_
                        refine aw_aload_n rfl rfl d_M_gained_111 ?_
                        refine aw_getr fl_M_40 kc_1 (by decide) rfl rc_1_8 d_M_gained_112 ?_
                        refine aw_iconst (v := nI 5) ci_5 d_M_gained_115 ?_
                        refine aw_iald (j := 5) kc_11 (vp_in_nI (by decide) (by decide)) (nI_clamp (by decide)) d_M_gained_116 ?_
                        refine aw_top (x2 := nI 0) (((congrFun (fr113 11 (by decide)) (5)).trans (Eq.trans (congrFun (upd2_ne (by decide)) (5)) (Eq.trans (congrFun (upd2_ne (by decide)) (5)) (Eq.trans (congrFun (upd2_ne (by decide)) (5)) (Eq.trans (congrFun (upd2_ne (by decide)) (5)) (Eq.trans (congrFun (upd2_ne (by decide)) (5)) (Eq.trans (congrFun (upd2_ne (by decide)) (5)) (((congrFun (e108 11 (by decide)) (5)).trans (((congrFun (e104 11 (by decide)) (5)).trans (((congrFun (e100 11 (by decide)) (5)).trans (((congrFun (e96 11 (by decide)) (5)).trans (((congrFun (e92 11 (by decide)) (5)).trans (((congrFun (e88 11 (by decide)) (5)).trans (((congrFun (e84 11 (by decide)) (5)).trans (((congrFun (e80 11 (by decide)) (5)).trans (((congrFun (e76 11 (by decide)) (5)).trans (((congrFun (e72 11 (by decide)) (5)).trans (((congrFun (e68 11 (by decide)) (5)).trans (((congrFun (e64 11 (by decide)) (5)).trans (((congrFun (e60 11 (by decide)) (5)).trans (Eq.trans (congrFun (upd2_ne (by decide)) (5)) (Eq.trans (congrFun (upd2_ne (by decide)) (5)) (((congrFun (e56 11 (by decide)) (5)).trans (((congrFun (e52 11 (by decide)) (5)).trans (((congrFun (e48 11 (by decide)) (5)).trans (Eq.trans (congrFun (upd2_ne (by decide)) (5)) (Eq.trans (congrFun (upd2_ne (by decide)) (5)) (((congrFun (e44 11 (by decide)) (5)).trans (((congrFun (e40 11 (by decide)) (5)).trans (((congrFun (e36 11 (by decide)) (5)).trans (Eq.trans (congrFun (upd2_ne (by decide)) (5)) (Eq.trans (congrFun (upd2_ne (by decide)) (5)) (((congrFun (e32 11 (by decide)) (5)).trans (((congrFun (e28 11 (by decide)) (5)).trans (((congrFun (e24 11 (by decide)) (5)).trans (Eq.trans (congrFun (upd2_ne (by decide)) (5)) (Eq.trans (congrFun (upd2_ne (by decide)) (5)) (((congrFun (e20 11 (by decide)) (5)).trans (((congrFun (e16 11 (by decide)) (5)).trans (((congrFun (e12 11 (by decide)) (5)).trans (Eq.trans (congrFun (upd2_ne (by decide)) (5)) (Eq.trans (congrFun (upd2_ne (by decide)) (5)) (f8 5 (by decide) (by decide) (by decide) (by decide)))))))))))))))))))))))))))))))))))))))))))))))))))))))))))))))))))))) ?_
                        refine aw_isub d_M_gained_117 ?_
                        refine aw_top (x2 := nI 0) (by decide +kernel) ?_
                        refine as_reti rfl d_M_gained_118 ?_
                        refine (show As l b 14 y_S_thought KC RC K2 (I111) 81 [.ref 0, .int (nI (w1)), .int (z), .int (nI (w3)), .int (nI (w4)), .int (nI 4)] [.int (nI 0)] from ?_)
                        exact as_reti rfl d_S_thought_81 (hz (by omega) _)
                      · refine aw_tabOut (tgt := 119) (by decide +kernel) (by decide) d_M_gained_1 ?_
                        refine aw_aload_n rfl rfl d_M_gained_119 ?_
                        refine as_callV (as := []) (d' := 12) (q := ("SinglesUp$Mind", zT5, 3)) mo_M_longest lk_M_47 kc_81 rfl rfl rfl ⟨by decide, by decide⟩ rfl rfl (by decide) d_M_gained_120 (Ss.of (show As l b 12 y_M_longest KC RC _ (I111) 0 [.ref 81, uu, uu] [] from ?_))
                        refine aw_iconst (v := nI 0) ci_0 d_M_longest_0 ?_
                        refine aw_istore_n (lv2 := [.ref 81, .int (nI 0), uu]) rfl (by decide) rfl d_M_longest_1 ?_
                        refine aw_iconst (v := nI 1) ci_1 d_M_longest_2 ?_
                        refine aw_istore_n (lv2 := [.ref 81, .int (nI 0), .int (nI 1)]) rfl (by decide) rfl d_M_longest_3 ?_
                        refine aw_iload_n rfl rfl d_M_longest_4 ?_
                        refine aw_bipush (v := nI 8) cb_8 d_M_longest_5 ?_
                        refine aw_icmp_gtI (tgt := 33) (1) (8) (by decide +kernel) (by decide +kernel) (by decide) d_M_longest_7 (fun q => absurd q (by decide)) (fun _ => ?_)
                        refine aw_iload_n rfl rfl d_M_longest_10 ?_
                        refine aw_aload_n rfl rfl d_M_longest_11 ?_
                        refine aw_getr fl_M_12 kc_81 (by decide) rfl rc_81_0 d_M_longest_12 ?_
                        refine aw_getr fl_M_40 kc_82 (by decide) rfl rc_82_8 d_M_longest_15 ?_
                        refine aw_bipush (v := nI 30) cb_30 d_M_longest_18 ?_
                        refine aw_iload_n rfl rfl d_M_longest_20 ?_
                        refine aw_iadd d_M_longest_21 ?_
                        refine aw_top (x2 := nI 31) (by decide +kernel) ?_
                        refine aw_iald (j := 31) kc_92 (vp_in_nI (by decide) (by decide)) (nI_clamp (by decide)) d_M_longest_22 ?_
                        refine aw_top (x2 := nI 0) (d8 31 (by decide) (by decide) (by decide) (by decide)) ?_
                        refine as_callS (as := [.int (nI 0), .int (nI 0)]) (d' := 1) mo_JM_max lk_M_51 rfl ⟨by decide, by decide⟩ rfl rfl (by decide) d_M_longest_23 (sp_max_c (I := I111) (x := nI 0) (z := nI 0) (X := (0)) (Z := (0)) (by decide +kernel) (by decide +kernel) (fun _ => ?_) (fun q => absurd q (by decide)) )
                        refine (show As l b 12 y_M_longest KC RC _ (I111) 26 [.ref 81, .int (nI 0), .int (nI 1)] [.int (nI 0)] from ?_)
                        refine aw_istore_n (lv2 := [.ref 81, .int (nI 0), .int (nI 1)]) rfl (by decide) rfl d_M_longest_26 ?_
                        refine aw_iinc (v := nI 2) (lv2 := [.ref 81, .int (nI 0), .int (nI 2)]) rfl (by decide +kernel) (by decide) rfl d_M_longest_27 ?_
                        refine aw_goto (tgt := 4) (by decide) d_M_longest_30 ?_
                        refine aw_iload_n rfl rfl d_M_longest_4 ?_
                        refine aw_bipush (v := nI 8) cb_8 d_M_longest_5 ?_
                        refine aw_icmp_gtI (tgt := 33) (2) (8) (by decide +kernel) (by decide +kernel) (by decide) d_M_longest_7 (fun q => absurd q (by decide)) (fun _ => ?_)
                        refine aw_iload_n rfl rfl d_M_longest_10 ?_
                        refine aw_aload_n rfl rfl d_M_longest_11 ?_
                        refine aw_getr fl_M_12 kc_81 (by decide) rfl rc_81_0 d_M_longest_12 ?_
                        refine aw_getr fl_M_40 kc_82 (by decide) rfl rc_82_8 d_M_longest_15 ?_
                        refine aw_bipush (v := nI 30) cb_30 d_M_longest_18 ?_
                        refine aw_iload_n rfl rfl d_M_longest_20 ?_
                        refine aw_iadd d_M_longest_21 ?_
                        refine aw_top (x2 := nI 32) (by decide +kernel) ?_
                        refine aw_iald (j := 32) kc_92 (vp_in_nI (by decide) (by decide)) (nI_clamp (by decide)) d_M_longest_22 ?_
                        refine aw_top (x2 := nI 0) (d8 32 (by decide) (by decide) (by decide) (by decide)) ?_
                        refine as_callS (as := [.int (nI 0), .int (nI 0)]) (d' := 1) mo_JM_max lk_M_51 rfl ⟨by decide, by decide⟩ rfl rfl (by decide) d_M_longest_23 (sp_max_c (I := I111) (x := nI 0) (z := nI 0) (X := (0)) (Z := (0)) (by decide +kernel) (by decide +kernel) (fun _ => ?_) (fun q => absurd q (by decide)) )
                        refine (show As l b 12 y_M_longest KC RC _ (I111) 26 [.ref 81, .int (nI 0), .int (nI 2)] [.int (nI 0)] from ?_)
                        refine aw_istore_n (lv2 := [.ref 81, .int (nI 0), .int (nI 2)]) rfl (by decide) rfl d_M_longest_26 ?_
                        refine aw_iinc (v := nI 3) (lv2 := [.ref 81, .int (nI 0), .int (nI 3)]) rfl (by decide +kernel) (by decide) rfl d_M_longest_27 ?_
                        refine aw_goto (tgt := 4) (by decide) d_M_longest_30 ?_
                        refine aw_iload_n rfl rfl d_M_longest_4 ?_
                        refine aw_bipush (v := nI 8) cb_8 d_M_longest_5 ?_
                        refine aw_icmp_gtI (tgt := 33) (3) (8) (by decide +kernel) (by decide +kernel) (by decide) d_M_longest_7 (fun q => absurd q (by decide)) (fun _ => ?_)
                        refine aw_iload_n rfl rfl d_M_longest_10 ?_
                        refine aw_aload_n rfl rfl d_M_longest_11 ?_
                        refine aw_getr fl_M_12 kc_81 (by decide) rfl rc_81_0 d_M_longest_12 ?_
                        refine aw_getr fl_M_40 kc_82 (by decide) rfl rc_82_8 d_M_longest_15 ?_
                        refine aw_bipush (v := nI 30) cb_30 d_M_longest_18 ?_
                        refine aw_iload_n rfl rfl d_M_longest_20 ?_
                        refine aw_iadd d_M_longest_21 ?_
                        refine aw_top (x2 := nI 33) (by decide +kernel) ?_
                        refine aw_iald (j := 33) kc_92 (vp_in_nI (by decide) (by decide)) (nI_clamp (by decide)) d_M_longest_22 ?_
                        refine aw_top (x2 := nI 0) (d8 33 (by decide) (by decide) (by decide) (by decide)) ?_
                        refine as_callS (as := [.int (nI 0), .int (nI 0)]) (d' := 1) mo_JM_max lk_M_51 rfl ⟨by decide, by decide⟩ rfl rfl (by decide) d_M_longest_23 (sp_max_c (I := I111) (x := nI 0) (z := nI 0) (X := (0)) (Z := (0)) (by decide +kernel) (by decide +kernel) (fun _ => ?_) (fun q => absurd q (by decide)) )
                        refine (show As l b 12 y_M_longest KC RC _ (I111) 26 [.ref 81, .int (nI 0), .int (nI 3)] [.int (nI 0)] from ?_)
                        refine aw_istore_n (lv2 := [.ref 81, .int (nI 0), .int (nI 3)]) rfl (by decide) rfl d_M_longest_26 ?_
                        refine aw_iinc (v := nI 4) (lv2 := [.ref 81, .int (nI 0), .int (nI 4)]) rfl (by decide +kernel) (by decide) rfl d_M_longest_27 ?_
                        refine aw_goto (tgt := 4) (by decide) d_M_longest_30 ?_
                        refine aw_iload_n rfl rfl d_M_longest_4 ?_
                        refine aw_bipush (v := nI 8) cb_8 d_M_longest_5 ?_
                        refine aw_icmp_gtI (tgt := 33) (4) (8) (by decide +kernel) (by decide +kernel) (by decide) d_M_longest_7 (fun q => absurd q (by decide)) (fun _ => ?_)
                        refine aw_iload_n rfl rfl d_M_longest_10 ?_
                        refine aw_aload_n rfl rfl d_M_longest_11 ?_
                        refine aw_getr fl_M_12 kc_81 (by decide) rfl rc_81_0 d_M_longest_12 ?_
                        refine aw_getr fl_M_40 kc_82 (by decide) rfl rc_82_8 d_M_longest_15 ?_
                        refine aw_bipush (v := nI 30) cb_30 d_M_longest_18 ?_
                        refine aw_iload_n rfl rfl d_M_longest_20 ?_
                        refine aw_iadd d_M_longest_21 ?_
                        refine aw_top (x2 := nI 34) (by decide +kernel) ?_
                        refine aw_iald (j := 34) kc_92 (vp_in_nI (by decide) (by decide)) (nI_clamp (by decide)) d_M_longest_22 ?_
                        refine aw_top (x2 := nI 0) (d8 34 (by decide) (by decide) (by decide) (by decide)) ?_
                        refine as_callS (as := [.int (nI 0), .int (nI 0)]) (d' := 1) mo_JM_max lk_M_51 rfl ⟨by decide, by decide⟩ rfl rfl (by decide) d_M_longest_23 (sp_max_c (I := I111) (x := nI 0) (z := nI 0) (X := (0)) (Z := (0)) (by decide +kernel) (by decide +kernel) (fun _ => ?_) (fun q => absurd q (by decide)) )
                        refine (show As l b 12 y_M_longest KC RC _ (I111) 26 [.ref 81, .int (nI 0), .int (nI 4)] [.int (nI 0)] from ?_)
                        refine aw_istore_n (lv2 := [.ref 81, .int (nI 0), .int (nI 4)]) rfl (by decide) rfl d_M_longest_26 ?_
                        refine aw_iinc (v := nI 5) (lv2 := [.ref 81, .int (nI 0), .int (nI 5)]) rfl (by decide +kernel) (by decide) rfl d_M_longest_27 ?_
                        refine aw_goto (tgt := 4) (by decide) d_M_longest_30 ?_
                        refine aw_iload_n rfl rfl d_M_longest_4 ?_
                        refine aw_bipush (v := nI 8) cb_8 d_M_longest_5 ?_
                        refine aw_icmp_gtI (tgt := 33) (5) (8) (by decide +kernel) (by decide +kernel) (by decide) d_M_longest_7 (fun q => absurd q (by decide)) (fun _ => ?_)
                        refine aw_iload_n rfl rfl d_M_longest_10 ?_
                        refine aw_aload_n rfl rfl d_M_longest_11 ?_
                        refine aw_getr fl_M_12 kc_81 (by decide) rfl rc_81_0 d_M_longest_12 ?_
                        refine aw_getr fl_M_40 kc_82 (by decide) rfl rc_82_8 d_M_longest_15 ?_
                        refine aw_bipush (v := nI 30) cb_30 d_M_longest_18 ?_
                        refine aw_iload_n rfl rfl d_M_longest_20 ?_
                        refine aw_iadd d_M_longest_21 ?_
                        refine aw_top (x2 := nI 35) (by decide +kernel) ?_
                        refine aw_iald (j := 35) kc_92 (vp_in_nI (by decide) (by decide)) (nI_clamp (by decide)) d_M_longest_22 ?_
                        refine aw_top (x2 := nI 0) (d8 35 (by decide) (by decide) (by decide) (by decide)) ?_
                        refine as_callS (as := [.int (nI 0), .int (nI 0)]) (d' := 1) mo_JM_max lk_M_51 rfl ⟨by decide, by decide⟩ rfl rfl (by decide) d_M_longest_23 (sp_max_c (I := I111) (x := nI 0) (z := nI 0) (X := (0)) (Z := (0)) (by decide +kernel) (by decide +kernel) (fun _ => ?_) (fun q => absurd q (by decide)) )
                        refine (show As l b 12 y_M_longest KC RC _ (I111) 26 [.ref 81, .int (nI 0), .int (nI 5)] [.int (nI 0)] from ?_)
                        refine aw_istore_n (lv2 := [.ref 81, .int (nI 0), .int (nI 5)]) rfl (by decide) rfl d_M_longest_26 ?_
                        refine aw_iinc (v := nI 6) (lv2 := [.ref 81, .int (nI 0), .int (nI 6)]) rfl (by decide +kernel) (by decide) rfl d_M_longest_27 ?_
                        refine aw_goto (tgt := 4) (by decide) d_M_longest_30 ?_
                        refine aw_iload_n rfl rfl d_M_longest_4 ?_
                        refine aw_bipush (v := nI 8) cb_8 d_M_longest_5 ?_
                        refine aw_icmp_gtI (tgt := 33) (6) (8) (by decide +kernel) (by decide +kernel) (by decide) d_M_longest_7 (fun q => absurd q (by decide)) (fun _ => ?_)
                        refine aw_iload_n rfl rfl d_M_longest_10 ?_
                        refine aw_aload_n rfl rfl d_M_longest_11 ?_
                        refine aw_getr fl_M_12 kc_81 (by decide) rfl rc_81_0 d_M_longest_12 ?_
                        refine aw_getr fl_M_40 kc_82 (by decide) rfl rc_82_8 d_M_longest_15 ?_
                        refine aw_bipush (v := nI 30) cb_30 d_M_longest_18 ?_
                        refine aw_iload_n rfl rfl d_M_longest_20 ?_
                        refine aw_iadd d_M_longest_21 ?_
                        refine aw_top (x2 := nI 36) (by decide +kernel) ?_
                        refine aw_iald (j := 36) kc_92 (vp_in_nI (by decide) (by decide)) (nI_clamp (by decide)) d_M_longest_22 ?_
                        refine aw_top (x2 := nI 0) (d8 36 (by decide) (by decide) (by decide) (by decide)) ?_
                        refine as_callS (as := [.int (nI 0), .int (nI 0)]) (d' := 1) mo_JM_max lk_M_51 rfl ⟨by decide, by decide⟩ rfl rfl (by decide) d_M_longest_23 (sp_max_c (I := I111) (x := nI 0) (z := nI 0) (X := (0)) (Z := (0)) (by decide +kernel) (by decide +kernel) (fun _ => ?_) (fun q => absurd q (by decide)) )
                        refine (show As l b 12 y_M_longest KC RC _ (I111) 26 [.ref 81, .int (nI 0), .int (nI 6)] [.int (nI 0)] from ?_)
                        refine aw_istore_n (lv2 := [.ref 81, .int (nI 0), .int (nI 6)]) rfl (by decide) rfl d_M_longest_26 ?_
                        refine aw_iinc (v := nI 7) (lv2 := [.ref 81, .int (nI 0), .int (nI 7)]) rfl (by decide +kernel) (by decide) rfl d_M_longest_27 ?_
                        refine aw_goto (tgt := 4) (by decide) d_M_longest_30 ?_
                        refine aw_iload_n rfl rfl d_M_longest_4 ?_
                        refine aw_bipush (v := nI 8) cb_8 d_M_longest_5 ?_
                        refine aw_icmp_gtI (tgt := 33) (7) (8) (by decide +kernel) (by decide +kernel) (by decide) d_M_longest_7 (fun q => absurd q (by decide)) (fun _ => ?_)
                        refine aw_iload_n rfl rfl d_M_longest_10 ?_
                        refine aw_aload_n rfl rfl d_M_longest_11 ?_
                        refine aw_getr fl_M_12 kc_81 (by decide) rfl rc_81_0 d_M_longest_12 ?_
                        refine aw_getr fl_M_40 kc_82 (by decide) rfl rc_82_8 d_M_longest_15 ?_
                        refine aw_bipush (v := nI 30) cb_30 d_M_longest_18 ?_
                        refine aw_iload_n rfl rfl d_M_longest_20 ?_
                        refine aw_iadd d_M_longest_21 ?_
                        refine aw_top (x2 := nI 37) (by decide +kernel) ?_
                        refine aw_iald (j := 37) kc_92 (vp_in_nI (by decide) (by decide)) (nI_clamp (by decide)) d_M_longest_22 ?_
                        refine aw_top (x2 := nI 0) (d8 37 (by decide) (by decide) (by decide) (by decide)) ?_
                        refine as_callS (as := [.int (nI 0), .int (nI 0)]) (d' := 1) mo_JM_max lk_M_51 rfl ⟨by decide, by decide⟩ rfl rfl (by decide) d_M_longest_23 (sp_max_c (I := I111) (x := nI 0) (z := nI 0) (X := (0)) (Z := (0)) (by decide +kernel) (by decide +kernel) (fun _ => ?_) (fun q => absurd q (by decide)) )
                        refine (show As l b 12 y_M_longest KC RC _ (I111) 26 [.ref 81, .int (nI 0), .int (nI 7)] [.int (nI 0)] from ?_)
                        refine aw_istore_n (lv2 := [.ref 81, .int (nI 0), .int (nI 7)]) rfl (by decide) rfl d_M_longest_26 ?_
                        refine aw_iinc (v := nI 8) (lv2 := [.ref 81, .int (nI 0), .int (nI 8)]) rfl (by decide +kernel) (by decide) rfl d_M_longest_27 ?_
                        refine aw_goto (tgt := 4) (by decide) d_M_longest_30 ?_
                        refine aw_iload_n rfl rfl d_M_longest_4 ?_
                        refine aw_bipush (v := nI 8) cb_8 d_M_longest_5 ?_
                        refine aw_icmp_gtI (tgt := 33) (8) (8) (by decide +kernel) (by decide +kernel) (by decide) d_M_longest_7 (fun q => absurd q (by decide)) (fun _ => ?_)
                        refine aw_iload_n rfl rfl d_M_longest_10 ?_
                        refine aw_aload_n rfl rfl d_M_longest_11 ?_
                        refine aw_getr fl_M_12 kc_81 (by decide) rfl rc_81_0 d_M_longest_12 ?_
                        refine aw_getr fl_M_40 kc_82 (by decide) rfl rc_82_8 d_M_longest_15 ?_
                        refine aw_bipush (v := nI 30) cb_30 d_M_longest_18 ?_
                        refine aw_iload_n rfl rfl d_M_longest_20 ?_
                        refine aw_iadd d_M_longest_21 ?_
                        refine aw_top (x2 := nI 38) (by decide +kernel) ?_
                        refine aw_iald (j := 38) kc_92 (vp_in_nI (by decide) (by decide)) (nI_clamp (by decide)) d_M_longest_22 ?_
                        refine aw_top (x2 := nI 0) (d8 38 (by decide) (by decide) (by decide) (by decide)) ?_
                        refine as_callS (as := [.int (nI 0), .int (nI 0)]) (d' := 1) mo_JM_max lk_M_51 rfl ⟨by decide, by decide⟩ rfl rfl (by decide) d_M_longest_23 (sp_max_c (I := I111) (x := nI 0) (z := nI 0) (X := (0)) (Z := (0)) (by decide +kernel) (by decide +kernel) (fun _ => ?_) (fun q => absurd q (by decide)) )
                        refine (show As l b 12 y_M_longest KC RC _ (I111) 26 [.ref 81, .int (nI 0), .int (nI 8)] [.int (nI 0)] from ?_)
                        refine aw_istore_n (lv2 := [.ref 81, .int (nI 0), .int (nI 8)]) rfl (by decide) rfl d_M_longest_26 ?_
                        refine aw_iinc (v := nI 9) (lv2 := [.ref 81, .int (nI 0), .int (nI 9)]) rfl (by decide +kernel) (by decide) rfl d_M_longest_27 ?_
                        refine aw_goto (tgt := 4) (by decide) d_M_longest_30 ?_
                        refine aw_iload_n rfl rfl d_M_longest_4 ?_
                        refine aw_bipush (v := nI 8) cb_8 d_M_longest_5 ?_
                        refine aw_icmp_gtI (tgt := 33) (9) (8) (by decide +kernel) (by decide +kernel) (by decide) d_M_longest_7 (fun _ => ?_) (fun q => absurd q (by decide))
                        refine aw_iload_n rfl rfl d_M_longest_33 ?_
                        refine as_reti rfl d_M_longest_34 ?_
                        refine (show As l b 13 y_M_gained KC RC _ (I111) 123 [.ref 81, .ref 1, .int (nI 5)] [.int (nI 0)] from ?_)
                        refine as_reti rfl d_M_gained_123 ?_
                        refine (show As l b 14 y_S_thought KC RC K2 (I111) 81 [.ref 0, .int (nI (w1)), .int (z), .int (nI (w3)), .int (nI (w4)), .int (nI 5)] [.int (nI 0)] from ?_)
                        exact as_reti rfl d_S_thought_81 (hz (by omega) _)
                    · refine aw_iconst (v := (-1 : Int32)) rfl d_S_thought_50 ?_
                      exact as_reti rfl d_S_thought_51 (hb (by omega) _)
end
