/-! the class: shallow functions and the machine -/
abbrev y_C_partThatFits : MI := (⟨"SinglesUp$Chair", "partThatFits", "(LSinglesUp$Hill;I)I"⟩, prog_2_method_13_code, 6, some .int)
theorem ck_C_partThatFits_0 : (y_C_partThatFits.2.1.data.toList.drop 0).take 32 = [43, 180, 0, 72, 28, 4, 182, 0, 92, 62, 29, 42, 180, 0, 30, 164, 0, 22, 42, 28, 182, 0, 107, 153, 0, 14, 43, 180, 0, 72, 28, 182] := by decide +kernel
theorem d_C_partThatFits_0 : decode y_C_partThatFits.2.1 0 = .ok (.aload_n 1, 1) := op_aload_n1 (gk (k := 0) (t := 0) ck_C_partThatFits_0 rfl)
theorem d_C_partThatFits_1 : decode y_C_partThatFits.2.1 1 = .ok (.getfield 72, 3) := op_getfield (gk (k := 0) (t := 1) ck_C_partThatFits_0 rfl) (gk (k := 0) (t := 2) ck_C_partThatFits_0 rfl) (gk (k := 0) (t := 3) ck_C_partThatFits_0 rfl) rfl
theorem d_C_partThatFits_4 : decode y_C_partThatFits.2.1 4 = .ok (.iload_n 2, 1) := op_iload_n2 (gk (k := 0) (t := 4) ck_C_partThatFits_0 rfl)
theorem d_C_partThatFits_5 : decode y_C_partThatFits.2.1 5 = .ok (.iconst 1, 1) := op_iconst1 (gk (k := 0) (t := 5) ck_C_partThatFits_0 rfl)
theorem d_C_partThatFits_6 : decode y_C_partThatFits.2.1 6 = .ok (.invokevirtual 92, 3) := op_invokevirtual (gk (k := 0) (t := 6) ck_C_partThatFits_0 rfl) (gk (k := 0) (t := 7) ck_C_partThatFits_0 rfl) (gk (k := 0) (t := 8) ck_C_partThatFits_0 rfl) rfl
theorem d_C_partThatFits_9 : decode y_C_partThatFits.2.1 9 = .ok (.istore_n 3, 1) := op_istore_n3 (gk (k := 0) (t := 9) ck_C_partThatFits_0 rfl)
theorem d_C_partThatFits_10 : decode y_C_partThatFits.2.1 10 = .ok (.iload_n 3, 1) := op_iload_n3 (gk (k := 0) (t := 10) ck_C_partThatFits_0 rfl)
theorem d_C_partThatFits_11 : decode y_C_partThatFits.2.1 11 = .ok (.aload_n 0, 1) := op_aload_n0 (gk (k := 0) (t := 11) ck_C_partThatFits_0 rfl)
theorem d_C_partThatFits_12 : decode y_C_partThatFits.2.1 12 = .ok (.getfield 30, 3) := op_getfield (gk (k := 0) (t := 12) ck_C_partThatFits_0 rfl) (gk (k := 0) (t := 13) ck_C_partThatFits_0 rfl) (gk (k := 0) (t := 14) ck_C_partThatFits_0 rfl) rfl
theorem d_C_partThatFits_15 : decode y_C_partThatFits.2.1 15 = .ok (.if_icmp .le 22, 3) := op_icmp_le (gk (k := 0) (t := 15) ck_C_partThatFits_0 rfl) (gk (k := 0) (t := 16) ck_C_partThatFits_0 rfl) (gk (k := 0) (t := 17) ck_C_partThatFits_0 rfl) (by decide +kernel)
theorem ck_C_partThatFits_1 : (y_C_partThatFits.2.1.data.toList.drop 32).take 32 = [0, 151, 154, 0, 5, 3, 172, 29, 155, 0, 18, 29, 16, 8, 163, 0, 12, 43, 180, 0, 154, 29, 46, 167, 0, 4, 3, 54, 4, 21, 4, 154] := by decide +kernel
theorem d_C_partThatFits_37 : decode y_C_partThatFits.2.1 37 = .ok (.iconst 0, 1) := op_iconst0 (gk (k := 32) (t := 5) ck_C_partThatFits_1 rfl)
theorem d_C_partThatFits_38 : decode y_C_partThatFits.2.1 38 = .ok (.ireturn, 1) := op_ireturn (gk (k := 32) (t := 6) ck_C_partThatFits_1 rfl)
theorem d_C_partThatFits_18 : decode y_C_partThatFits.2.1 18 = .ok (.aload_n 0, 1) := op_aload_n0 (gk (k := 0) (t := 18) ck_C_partThatFits_0 rfl)
theorem d_C_partThatFits_19 : decode y_C_partThatFits.2.1 19 = .ok (.iload_n 2, 1) := op_iload_n2 (gk (k := 0) (t := 19) ck_C_partThatFits_0 rfl)
theorem d_C_partThatFits_20 : decode y_C_partThatFits.2.1 20 = .ok (.invokevirtual 107, 3) := op_invokevirtual (gk (k := 0) (t := 20) ck_C_partThatFits_0 rfl) (gk (k := 0) (t := 21) ck_C_partThatFits_0 rfl) (gk (k := 0) (t := 22) ck_C_partThatFits_0 rfl) rfl
theorem d_C_partThatFits_23 : decode y_C_partThatFits.2.1 23 = .ok (.ifCond .eq 14, 3) := op_if_eq (gk (k := 0) (t := 23) ck_C_partThatFits_0 rfl) (gk (k := 0) (t := 24) ck_C_partThatFits_0 rfl) (gk (k := 0) (t := 25) ck_C_partThatFits_0 rfl) (by decide +kernel)
theorem d_C_partThatFits_26 : decode y_C_partThatFits.2.1 26 = .ok (.aload_n 1, 1) := op_aload_n1 (gk (k := 0) (t := 26) ck_C_partThatFits_0 rfl)
theorem d_C_partThatFits_27 : decode y_C_partThatFits.2.1 27 = .ok (.getfield 72, 3) := op_getfield (gk (k := 0) (t := 27) ck_C_partThatFits_0 rfl) (gk (k := 0) (t := 28) ck_C_partThatFits_0 rfl) (gk (k := 0) (t := 29) ck_C_partThatFits_0 rfl) rfl
theorem d_C_partThatFits_30 : decode y_C_partThatFits.2.1 30 = .ok (.iload_n 2, 1) := op_iload_n2 (gk (k := 0) (t := 30) ck_C_partThatFits_0 rfl)
theorem lk_C_151 : LkV "SinglesUp$Chair" 151 y_L_isPlainAndTrue := ⟨tw_c4 100 (by decide +kernel) rfl, tw_c4 101 (by decide +kernel) rfl, Or.inl (tw_c4 99 (by decide +kernel) rfl)⟩
set_option maxRecDepth 100000 in
theorem mo_L_isPlainAndTrue : MOk y_L_isPlainAndTrue 1 := ⟨by decide +kernel, tw_c4 102 rfl rfl, tw_c1 3 (by decide +kernel) rfl, by decide +kernel, by decide +kernel, by decide +kernel⟩
theorem d_C_partThatFits_31 : decode y_C_partThatFits.2.1 31 = .ok (.invokevirtual 151, 3) := op_invokevirtual (gk (k := 0) (t := 31) ck_C_partThatFits_0 rfl) (gk (k := 32) (t := 0) ck_C_partThatFits_1 rfl) (gk (k := 32) (t := 1) ck_C_partThatFits_1 rfl) rfl
theorem d_C_partThatFits_34 : decode y_C_partThatFits.2.1 34 = .ok (.ifCond .ne 5, 3) := op_if_ne (gk (k := 32) (t := 2) ck_C_partThatFits_1 rfl) (gk (k := 32) (t := 3) ck_C_partThatFits_1 rfl) (gk (k := 32) (t := 4) ck_C_partThatFits_1 rfl) (by decide +kernel)
theorem d_C_partThatFits_39 : decode y_C_partThatFits.2.1 39 = .ok (.iload_n 3, 1) := op_iload_n3 (gk (k := 32) (t := 7) ck_C_partThatFits_1 rfl)
theorem d_C_partThatFits_59 : decode y_C_partThatFits.2.1 59 = .ok (.istore 4, 2) := op_istore (gk (k := 32) (t := 27) ck_C_partThatFits_1 rfl) (gk (k := 32) (t := 28) ck_C_partThatFits_1 rfl) rfl
theorem d_C_partThatFits_61 : decode y_C_partThatFits.2.1 61 = .ok (.iload 4, 2) := op_iload (gk (k := 32) (t := 29) ck_C_partThatFits_1 rfl) (gk (k := 32) (t := 30) ck_C_partThatFits_1 rfl) rfl
theorem ck_C_partThatFits_2 : (y_C_partThatFits.2.1.data.toList.drop 64).take 32 = [0, 5, 3, 172, 21, 4, 29, 21, 4, 100, 184, 0, 157, 54, 5, 21, 5, 42, 180, 0, 30, 163, 0, 8, 21, 5, 167, 0, 22, 29, 21, 5] := by decide +kernel
theorem d_C_partThatFits_63 : decode y_C_partThatFits.2.1 63 = .ok (.ifCond .ne 5, 3) := op_if_ne (gk (k := 32) (t := 31) ck_C_partThatFits_1 rfl) (gk (k := 64) (t := 0) ck_C_partThatFits_2 rfl) (gk (k := 64) (t := 1) ck_C_partThatFits_2 rfl) (by decide +kernel)
theorem d_C_partThatFits_68 : decode y_C_partThatFits.2.1 68 = .ok (.iload 4, 2) := op_iload (gk (k := 64) (t := 4) ck_C_partThatFits_2 rfl) (gk (k := 64) (t := 5) ck_C_partThatFits_2 rfl) rfl
theorem d_C_partThatFits_70 : decode y_C_partThatFits.2.1 70 = .ok (.iload_n 3, 1) := op_iload_n3 (gk (k := 64) (t := 6) ck_C_partThatFits_2 rfl)
theorem d_C_partThatFits_71 : decode y_C_partThatFits.2.1 71 = .ok (.iload 4, 2) := op_iload (gk (k := 64) (t := 7) ck_C_partThatFits_2 rfl) (gk (k := 64) (t := 8) ck_C_partThatFits_2 rfl) rfl
theorem d_C_partThatFits_73 : decode y_C_partThatFits.2.1 73 = .ok (.isub, 1) := op_isub (gk (k := 64) (t := 9) ck_C_partThatFits_2 rfl)
theorem lk_C_157 : LkS "SinglesUp$Chair" 157 y_JM_max := ⟨tw_c3 26 (by decide +kernel) rfl, Or.inl (tw_c4 103 (by decide +kernel) rfl)⟩
theorem d_C_partThatFits_74 : decode y_C_partThatFits.2.1 74 = .ok (.invokestatic 157, 3) := op_invokestatic (gk (k := 64) (t := 10) ck_C_partThatFits_2 rfl) (gk (k := 64) (t := 11) ck_C_partThatFits_2 rfl) (gk (k := 64) (t := 12) ck_C_partThatFits_2 rfl) rfl
theorem d_C_partThatFits_77 : decode y_C_partThatFits.2.1 77 = .ok (.istore 5, 2) := op_istore (gk (k := 64) (t := 13) ck_C_partThatFits_2 rfl) (gk (k := 64) (t := 14) ck_C_partThatFits_2 rfl) rfl
theorem d_C_partThatFits_79 : decode y_C_partThatFits.2.1 79 = .ok (.iload 5, 2) := op_iload (gk (k := 64) (t := 15) ck_C_partThatFits_2 rfl) (gk (k := 64) (t := 16) ck_C_partThatFits_2 rfl) rfl
theorem d_C_partThatFits_81 : decode y_C_partThatFits.2.1 81 = .ok (.aload_n 0, 1) := op_aload_n0 (gk (k := 64) (t := 17) ck_C_partThatFits_2 rfl)
theorem d_C_partThatFits_82 : decode y_C_partThatFits.2.1 82 = .ok (.getfield 30, 3) := op_getfield (gk (k := 64) (t := 18) ck_C_partThatFits_2 rfl) (gk (k := 64) (t := 19) ck_C_partThatFits_2 rfl) (gk (k := 64) (t := 20) ck_C_partThatFits_2 rfl) rfl
theorem d_C_partThatFits_85 : decode y_C_partThatFits.2.1 85 = .ok (.if_icmp .gt 8, 3) := op_icmp_gt (gk (k := 64) (t := 21) ck_C_partThatFits_2 rfl) (gk (k := 64) (t := 22) ck_C_partThatFits_2 rfl) (gk (k := 64) (t := 23) ck_C_partThatFits_2 rfl) (by decide +kernel)
theorem d_C_partThatFits_93 : decode y_C_partThatFits.2.1 93 = .ok (.iload_n 3, 1) := op_iload_n3 (gk (k := 64) (t := 29) ck_C_partThatFits_2 rfl)
theorem d_C_partThatFits_94 : decode y_C_partThatFits.2.1 94 = .ok (.iload 5, 2) := op_iload (gk (k := 64) (t := 30) ck_C_partThatFits_2 rfl) (gk (k := 64) (t := 31) ck_C_partThatFits_2 rfl) rfl
theorem ck_C_partThatFits_3 : (y_C_partThatFits.2.1.data.toList.drop 96).take 32 = [100, 42, 180, 0, 30, 163, 0, 10, 29, 21, 5, 100, 167, 0, 4, 3, 172] := by decide +kernel
theorem d_C_partThatFits_96 : decode y_C_partThatFits.2.1 96 = .ok (.isub, 1) := op_isub (gk (k := 96) (t := 0) ck_C_partThatFits_3 rfl)
theorem d_C_partThatFits_97 : decode y_C_partThatFits.2.1 97 = .ok (.aload_n 0, 1) := op_aload_n0 (gk (k := 96) (t := 1) ck_C_partThatFits_3 rfl)
theorem d_C_partThatFits_98 : decode y_C_partThatFits.2.1 98 = .ok (.getfield 30, 3) := op_getfield (gk (k := 96) (t := 2) ck_C_partThatFits_3 rfl) (gk (k := 96) (t := 3) ck_C_partThatFits_3 rfl) (gk (k := 96) (t := 4) ck_C_partThatFits_3 rfl) rfl
theorem d_C_partThatFits_101 : decode y_C_partThatFits.2.1 101 = .ok (.if_icmp .gt 10, 3) := op_icmp_gt (gk (k := 96) (t := 5) ck_C_partThatFits_3 rfl) (gk (k := 96) (t := 6) ck_C_partThatFits_3 rfl) (gk (k := 96) (t := 7) ck_C_partThatFits_3 rfl) (by decide +kernel)
theorem d_C_partThatFits_111 : decode y_C_partThatFits.2.1 111 = .ok (.iconst 0, 1) := op_iconst0 (gk (k := 96) (t := 15) ck_C_partThatFits_3 rfl)
theorem d_C_partThatFits_112 : decode y_C_partThatFits.2.1 112 = .ok (.ireturn, 1) := op_ireturn (gk (k := 96) (t := 16) ck_C_partThatFits_3 rfl)
theorem d_C_partThatFits_104 : decode y_C_partThatFits.2.1 104 = .ok (.iload_n 3, 1) := op_iload_n3 (gk (k := 96) (t := 8) ck_C_partThatFits_3 rfl)
theorem d_C_partThatFits_105 : decode y_C_partThatFits.2.1 105 = .ok (.iload 5, 2) := op_iload (gk (k := 96) (t := 9) ck_C_partThatFits_3 rfl) (gk (k := 96) (t := 10) ck_C_partThatFits_3 rfl) rfl
theorem d_C_partThatFits_107 : decode y_C_partThatFits.2.1 107 = .ok (.isub, 1) := op_isub (gk (k := 96) (t := 11) ck_C_partThatFits_3 rfl)
theorem d_C_partThatFits_108 : decode y_C_partThatFits.2.1 108 = .ok (.goto 4, 3) := op_goto (gk (k := 96) (t := 12) ck_C_partThatFits_3 rfl) (gk (k := 96) (t := 13) ck_C_partThatFits_3 rfl) (gk (k := 96) (t := 14) ck_C_partThatFits_3 rfl) (by decide +kernel)
theorem d_C_partThatFits_88 : decode y_C_partThatFits.2.1 88 = .ok (.iload 5, 2) := op_iload (gk (k := 64) (t := 24) ck_C_partThatFits_2 rfl) (gk (k := 64) (t := 25) ck_C_partThatFits_2 rfl) rfl
theorem d_C_partThatFits_90 : decode y_C_partThatFits.2.1 90 = .ok (.goto 22, 3) := op_goto (gk (k := 64) (t := 26) ck_C_partThatFits_2 rfl) (gk (k := 64) (t := 27) ck_C_partThatFits_2 rfl) (gk (k := 64) (t := 28) ck_C_partThatFits_2 rfl) (by decide +kernel)
theorem d_C_partThatFits_66 : decode y_C_partThatFits.2.1 66 = .ok (.iconst 0, 1) := op_iconst0 (gk (k := 64) (t := 2) ck_C_partThatFits_2 rfl)
theorem d_C_partThatFits_67 : decode y_C_partThatFits.2.1 67 = .ok (.ireturn, 1) := op_ireturn (gk (k := 64) (t := 3) ck_C_partThatFits_2 rfl)
theorem d_C_partThatFits_40 : decode y_C_partThatFits.2.1 40 = .ok (.ifCond .lt 18, 3) := op_if_lt (gk (k := 32) (t := 8) ck_C_partThatFits_1 rfl) (gk (k := 32) (t := 9) ck_C_partThatFits_1 rfl) (gk (k := 32) (t := 10) ck_C_partThatFits_1 rfl) (by decide +kernel)
theorem d_C_partThatFits_58 : decode y_C_partThatFits.2.1 58 = .ok (.iconst 0, 1) := op_iconst0 (gk (k := 32) (t := 26) ck_C_partThatFits_1 rfl)
theorem d_C_partThatFits_43 : decode y_C_partThatFits.2.1 43 = .ok (.iload_n 3, 1) := op_iload_n3 (gk (k := 32) (t := 11) ck_C_partThatFits_1 rfl)
theorem d_C_partThatFits_44 : decode y_C_partThatFits.2.1 44 = .ok (.bipush 8, 2) := op_bipush (gk (k := 32) (t := 12) ck_C_partThatFits_1 rfl) (gk (k := 32) (t := 13) ck_C_partThatFits_1 rfl) rfl
theorem d_C_partThatFits_46 : decode y_C_partThatFits.2.1 46 = .ok (.if_icmp .gt 12, 3) := op_icmp_gt (gk (k := 32) (t := 14) ck_C_partThatFits_1 rfl) (gk (k := 32) (t := 15) ck_C_partThatFits_1 rfl) (gk (k := 32) (t := 16) ck_C_partThatFits_1 rfl) (by decide +kernel)
theorem d_C_partThatFits_49 : decode y_C_partThatFits.2.1 49 = .ok (.aload_n 1, 1) := op_aload_n1 (gk (k := 32) (t := 17) ck_C_partThatFits_1 rfl)
theorem fl_C_154 : FL "SinglesUp$Chair" 154 2 2 := ⟨"SinglesUp$Hill", zT2, 14, rfl, by decide, rfl, Or.inr ⟨"SinglesUp", nw_in 93 (by decide +kernel) rfl⟩⟩
theorem d_C_partThatFits_50 : decode y_C_partThatFits.2.1 50 = .ok (.getfield 154, 3) := op_getfield (gk (k := 32) (t := 18) ck_C_partThatFits_1 rfl) (gk (k := 32) (t := 19) ck_C_partThatFits_1 rfl) (gk (k := 32) (t := 20) ck_C_partThatFits_1 rfl) rfl
theorem d_C_partThatFits_53 : decode y_C_partThatFits.2.1 53 = .ok (.iload_n 3, 1) := op_iload_n3 (gk (k := 32) (t := 21) ck_C_partThatFits_1 rfl)
theorem d_C_partThatFits_54 : decode y_C_partThatFits.2.1 54 = .ok (.iaload, 1) := op_iaload (gk (k := 32) (t := 22) ck_C_partThatFits_1 rfl)
theorem d_C_partThatFits_55 : decode y_C_partThatFits.2.1 55 = .ok (.goto 4, 3) := op_goto (gk (k := 32) (t := 23) ck_C_partThatFits_1 rfl) (gk (k := 32) (t := 24) ck_C_partThatFits_1 rfl) (gk (k := 32) (t := 25) ck_C_partThatFits_1 rfl) (by decide +kernel)
abbrev y_C_partOne : MI := (⟨"SinglesUp$Chair", "partOne", "(LSinglesUp$Hill;)V"⟩, prog_2_method_12_code, 6, none)
theorem ck_C_partOne_0 : (y_C_partOne.2.1.data.toList.drop 0).take 32 = [3, 61, 28, 42, 180, 0, 82, 162, 0, 116, 28, 17, 0, 144, 162, 0, 109, 42, 180, 0, 46, 154, 0, 102, 42, 180, 0, 24, 28, 46, 62, 42] := by decide +kernel
theorem d_C_partOne_0 : decode y_C_partOne.2.1 0 = .ok (.iconst 0, 1) := op_iconst0 (gk (k := 0) (t := 0) ck_C_partOne_0 rfl)
theorem d_C_partOne_1 : decode y_C_partOne.2.1 1 = .ok (.istore_n 2, 1) := op_istore_n2 (gk (k := 0) (t := 1) ck_C_partOne_0 rfl)
theorem d_C_partOne_2 : decode y_C_partOne.2.1 2 = .ok (.iload_n 2, 1) := op_iload_n2 (gk (k := 0) (t := 2) ck_C_partOne_0 rfl)
theorem d_C_partOne_3 : decode y_C_partOne.2.1 3 = .ok (.aload_n 0, 1) := op_aload_n0 (gk (k := 0) (t := 3) ck_C_partOne_0 rfl)
theorem d_C_partOne_4 : decode y_C_partOne.2.1 4 = .ok (.getfield 82, 3) := op_getfield (gk (k := 0) (t := 4) ck_C_partOne_0 rfl) (gk (k := 0) (t := 5) ck_C_partOne_0 rfl) (gk (k := 0) (t := 6) ck_C_partOne_0 rfl) rfl
theorem d_C_partOne_7 : decode y_C_partOne.2.1 7 = .ok (.if_icmp .ge 116, 3) := op_icmp_ge (gk (k := 0) (t := 7) ck_C_partOne_0 rfl) (gk (k := 0) (t := 8) ck_C_partOne_0 rfl) (gk (k := 0) (t := 9) ck_C_partOne_0 rfl) (by decide +kernel)
theorem ck_C_partOne_3 : (y_C_partOne.2.1.data.toList.drop 96).take 32 = [0, 72, 29, 4, 21, 5, 182, 0, 148, 43, 180, 0, 72, 29, 5, 21, 5, 182, 0, 148, 177, 132, 2, 1, 167, 255, 138, 177] := by decide +kernel
theorem d_C_partOne_123 : decode y_C_partOne.2.1 123 = .ok (.return_, 1) := op_return_ (gk (k := 96) (t := 27) ck_C_partOne_3 rfl)
theorem d_C_partOne_10 : decode y_C_partOne.2.1 10 = .ok (.iload_n 2, 1) := op_iload_n2 (gk (k := 0) (t := 10) ck_C_partOne_0 rfl)
theorem d_C_partOne_11 : decode y_C_partOne.2.1 11 = .ok (.sipush 144, 3) := op_sipush (gk (k := 0) (t := 11) ck_C_partOne_0 rfl) (gk (k := 0) (t := 12) ck_C_partOne_0 rfl) (gk (k := 0) (t := 13) ck_C_partOne_0 rfl) (by decide +kernel)
theorem d_C_partOne_14 : decode y_C_partOne.2.1 14 = .ok (.if_icmp .ge 109, 3) := op_icmp_ge (gk (k := 0) (t := 14) ck_C_partOne_0 rfl) (gk (k := 0) (t := 15) ck_C_partOne_0 rfl) (gk (k := 0) (t := 16) ck_C_partOne_0 rfl) (by decide +kernel)
theorem d_C_partOne_17 : decode y_C_partOne.2.1 17 = .ok (.aload_n 0, 1) := op_aload_n0 (gk (k := 0) (t := 17) ck_C_partOne_0 rfl)
theorem d_C_partOne_18 : decode y_C_partOne.2.1 18 = .ok (.getfield 46, 3) := op_getfield (gk (k := 0) (t := 18) ck_C_partOne_0 rfl) (gk (k := 0) (t := 19) ck_C_partOne_0 rfl) (gk (k := 0) (t := 20) ck_C_partOne_0 rfl) rfl
theorem d_C_partOne_21 : decode y_C_partOne.2.1 21 = .ok (.ifCond .ne 102, 3) := op_if_ne (gk (k := 0) (t := 21) ck_C_partOne_0 rfl) (gk (k := 0) (t := 22) ck_C_partOne_0 rfl) (gk (k := 0) (t := 23) ck_C_partOne_0 rfl) (by decide +kernel)
theorem d_C_partOne_24 : decode y_C_partOne.2.1 24 = .ok (.aload_n 0, 1) := op_aload_n0 (gk (k := 0) (t := 24) ck_C_partOne_0 rfl)
theorem d_C_partOne_25 : decode y_C_partOne.2.1 25 = .ok (.getfield 24, 3) := op_getfield (gk (k := 0) (t := 25) ck_C_partOne_0 rfl) (gk (k := 0) (t := 26) ck_C_partOne_0 rfl) (gk (k := 0) (t := 27) ck_C_partOne_0 rfl) rfl
theorem d_C_partOne_28 : decode y_C_partOne.2.1 28 = .ok (.iload_n 2, 1) := op_iload_n2 (gk (k := 0) (t := 28) ck_C_partOne_0 rfl)
theorem d_C_partOne_29 : decode y_C_partOne.2.1 29 = .ok (.iaload, 1) := op_iaload (gk (k := 0) (t := 29) ck_C_partOne_0 rfl)
theorem d_C_partOne_30 : decode y_C_partOne.2.1 30 = .ok (.istore_n 3, 1) := op_istore_n3 (gk (k := 0) (t := 30) ck_C_partOne_0 rfl)
theorem d_C_partOne_31 : decode y_C_partOne.2.1 31 = .ok (.aload_n 0, 1) := op_aload_n0 (gk (k := 0) (t := 31) ck_C_partOne_0 rfl)
theorem ck_C_partOne_1 : (y_C_partOne.2.1.data.toList.drop 32).take 32 = [43, 29, 182, 0, 144, 54, 4, 21, 4, 158, 0, 76, 43, 29, 42, 180, 0, 30, 42, 180, 0, 40, 182, 0, 119, 43, 182, 0, 115, 43, 180, 0] := by decide +kernel
theorem d_C_partOne_32 : decode y_C_partOne.2.1 32 = .ok (.aload_n 1, 1) := op_aload_n1 (gk (k := 32) (t := 0) ck_C_partOne_1 rfl)
theorem d_C_partOne_33 : decode y_C_partOne.2.1 33 = .ok (.iload_n 3, 1) := op_iload_n3 (gk (k := 32) (t := 1) ck_C_partOne_1 rfl)
theorem lk_C_144 : LkV "SinglesUp$Chair" 144 y_C_partThatFits := ⟨tw_c4 97 (by decide +kernel) rfl, tw_in 28 (by decide +kernel) rfl, Or.inl (tw_c4 95 (by decide +kernel) rfl)⟩
set_option maxRecDepth 100000 in
theorem mo_C_partThatFits : MOk y_C_partThatFits 2 := ⟨by decide +kernel, tw_c4 98 rfl rfl, tw_c1 7 (by decide +kernel) rfl, by decide +kernel, by decide +kernel, by decide +kernel⟩
theorem d_C_partOne_34 : decode y_C_partOne.2.1 34 = .ok (.invokevirtual 144, 3) := op_invokevirtual (gk (k := 32) (t := 2) ck_C_partOne_1 rfl) (gk (k := 32) (t := 3) ck_C_partOne_1 rfl) (gk (k := 32) (t := 4) ck_C_partOne_1 rfl) rfl
theorem d_C_partOne_37 : decode y_C_partOne.2.1 37 = .ok (.istore 4, 2) := op_istore (gk (k := 32) (t := 5) ck_C_partOne_1 rfl) (gk (k := 32) (t := 6) ck_C_partOne_1 rfl) rfl
theorem d_C_partOne_39 : decode y_C_partOne.2.1 39 = .ok (.iload 4, 2) := op_iload (gk (k := 32) (t := 7) ck_C_partOne_1 rfl) (gk (k := 32) (t := 8) ck_C_partOne_1 rfl) rfl
theorem d_C_partOne_117 : decode y_C_partOne.2.1 117 = .ok (.iinc 2 1, 3) := op_iinc (gk (k := 96) (t := 21) ck_C_partOne_3 rfl) (gk (k := 96) (t := 22) ck_C_partOne_3 rfl) (gk (k := 96) (t := 23) ck_C_partOne_3 rfl) rfl rfl
theorem d_C_partOne_120 : decode y_C_partOne.2.1 120 = .ok (.goto (-118), 3) := op_goto (gk (k := 96) (t := 24) ck_C_partOne_3 rfl) (gk (k := 96) (t := 25) ck_C_partOne_3 rfl) (gk (k := 96) (t := 26) ck_C_partOne_3 rfl) (by decide +kernel)
theorem d_C_partOne_41 : decode y_C_partOne.2.1 41 = .ok (.ifCond .le 76, 3) := op_if_le (gk (k := 32) (t := 9) ck_C_partOne_1 rfl) (gk (k := 32) (t := 10) ck_C_partOne_1 rfl) (gk (k := 32) (t := 11) ck_C_partOne_1 rfl) (by decide +kernel)
theorem d_C_partOne_44 : decode y_C_partOne.2.1 44 = .ok (.aload_n 1, 1) := op_aload_n1 (gk (k := 32) (t := 12) ck_C_partOne_1 rfl)
theorem d_C_partOne_45 : decode y_C_partOne.2.1 45 = .ok (.iload_n 3, 1) := op_iload_n3 (gk (k := 32) (t := 13) ck_C_partOne_1 rfl)
theorem d_C_partOne_46 : decode y_C_partOne.2.1 46 = .ok (.aload_n 0, 1) := op_aload_n0 (gk (k := 32) (t := 14) ck_C_partOne_1 rfl)
theorem d_C_partOne_47 : decode y_C_partOne.2.1 47 = .ok (.getfield 30, 3) := op_getfield (gk (k := 32) (t := 15) ck_C_partOne_1 rfl) (gk (k := 32) (t := 16) ck_C_partOne_1 rfl) (gk (k := 32) (t := 17) ck_C_partOne_1 rfl) rfl
theorem d_C_partOne_50 : decode y_C_partOne.2.1 50 = .ok (.aload_n 0, 1) := op_aload_n0 (gk (k := 32) (t := 18) ck_C_partOne_1 rfl)
theorem d_C_partOne_51 : decode y_C_partOne.2.1 51 = .ok (.getfield 40, 3) := op_getfield (gk (k := 32) (t := 19) ck_C_partOne_1 rfl) (gk (k := 32) (t := 20) ck_C_partOne_1 rfl) (gk (k := 32) (t := 21) ck_C_partOne_1 rfl) rfl
theorem lk_C_119 : LkV "SinglesUp$Chair" 119 y_H_weigh := ⟨tw_c3 201 (by decide +kernel) rfl, tw_c3 202 (by decide +kernel) rfl, Or.inl (tw_c4 84 (by decide +kernel) rfl)⟩
theorem d_C_partOne_54 : decode y_C_partOne.2.1 54 = .ok (.invokevirtual 119, 3) := op_invokevirtual (gk (k := 32) (t := 22) ck_C_partOne_1 rfl) (gk (k := 32) (t := 23) ck_C_partOne_1 rfl) (gk (k := 32) (t := 24) ck_C_partOne_1 rfl) rfl
theorem d_C_partOne_57 : decode y_C_partOne.2.1 57 = .ok (.aload_n 1, 1) := op_aload_n1 (gk (k := 32) (t := 25) ck_C_partOne_1 rfl)
theorem lk_C_115 : LkV "SinglesUp$Chair" 115 y_H_lawInForce := ⟨tw_c3 211 (by decide +kernel) rfl, tw_c3 212 (by decide +kernel) rfl, Or.inl (tw_c4 83 (by decide +kernel) rfl)⟩
theorem d_C_partOne_58 : decode y_C_partOne.2.1 58 = .ok (.invokevirtual 115, 3) := op_invokevirtual (gk (k := 32) (t := 26) ck_C_partOne_1 rfl) (gk (k := 32) (t := 27) ck_C_partOne_1 rfl) (gk (k := 32) (t := 28) ck_C_partOne_1 rfl) rfl
theorem d_C_partOne_61 : decode y_C_partOne.2.1 61 = .ok (.aload_n 1, 1) := op_aload_n1 (gk (k := 32) (t := 29) ck_C_partOne_1 rfl)
theorem fl_C_123 : FL "SinglesUp$Chair" 123 2 12 := ⟨"SinglesUp$Hill", zT2, 14, rfl, by decide, rfl, Or.inr ⟨"SinglesUp", nw_in 116 (by decide +kernel) rfl⟩⟩
theorem ck_C_partOne_2 : (y_C_partOne.2.1.data.toList.drop 64).take 32 = [123, 182, 0, 126, 158, 0, 49, 43, 180, 0, 72, 29, 4, 182, 0, 92, 21, 4, 100, 54, 5, 42, 29, 21, 4, 3, 6, 182, 0, 100, 43, 180] := by decide +kernel
theorem d_C_partOne_62 : decode y_C_partOne.2.1 62 = .ok (.getfield 123, 3) := op_getfield (gk (k := 32) (t := 30) ck_C_partOne_1 rfl) (gk (k := 32) (t := 31) ck_C_partOne_1 rfl) (gk (k := 64) (t := 0) ck_C_partOne_2 rfl) rfl
theorem lk_C_126 : LkV "SinglesUp$Chair" 126 y_W_value := ⟨tw_c3 174 (by decide +kernel) rfl, tw_c3 175 (by decide +kernel) rfl, Or.inl (tw_c4 85 (by decide +kernel) rfl)⟩
theorem d_C_partOne_65 : decode y_C_partOne.2.1 65 = .ok (.invokevirtual 126, 3) := op_invokevirtual (gk (k := 64) (t := 1) ck_C_partOne_2 rfl) (gk (k := 64) (t := 2) ck_C_partOne_2 rfl) (gk (k := 64) (t := 3) ck_C_partOne_2 rfl) rfl
theorem d_C_partOne_68 : decode y_C_partOne.2.1 68 = .ok (.ifCond .le 49, 3) := op_if_le (gk (k := 64) (t := 4) ck_C_partOne_2 rfl) (gk (k := 64) (t := 5) ck_C_partOne_2 rfl) (gk (k := 64) (t := 6) ck_C_partOne_2 rfl) (by decide +kernel)
theorem d_C_partOne_71 : decode y_C_partOne.2.1 71 = .ok (.aload_n 1, 1) := op_aload_n1 (gk (k := 64) (t := 7) ck_C_partOne_2 rfl)
theorem d_C_partOne_72 : decode y_C_partOne.2.1 72 = .ok (.getfield 72, 3) := op_getfield (gk (k := 64) (t := 8) ck_C_partOne_2 rfl) (gk (k := 64) (t := 9) ck_C_partOne_2 rfl) (gk (k := 64) (t := 10) ck_C_partOne_2 rfl) rfl
theorem d_C_partOne_75 : decode y_C_partOne.2.1 75 = .ok (.iload_n 3, 1) := op_iload_n3 (gk (k := 64) (t := 11) ck_C_partOne_2 rfl)
theorem d_C_partOne_76 : decode y_C_partOne.2.1 76 = .ok (.iconst 1, 1) := op_iconst1 (gk (k := 64) (t := 12) ck_C_partOne_2 rfl)
theorem d_C_partOne_77 : decode y_C_partOne.2.1 77 = .ok (.invokevirtual 92, 3) := op_invokevirtual (gk (k := 64) (t := 13) ck_C_partOne_2 rfl) (gk (k := 64) (t := 14) ck_C_partOne_2 rfl) (gk (k := 64) (t := 15) ck_C_partOne_2 rfl) rfl
theorem d_C_partOne_80 : decode y_C_partOne.2.1 80 = .ok (.iload 4, 2) := op_iload (gk (k := 64) (t := 16) ck_C_partOne_2 rfl) (gk (k := 64) (t := 17) ck_C_partOne_2 rfl) rfl
theorem d_C_partOne_82 : decode y_C_partOne.2.1 82 = .ok (.isub, 1) := op_isub (gk (k := 64) (t := 18) ck_C_partOne_2 rfl)
theorem d_C_partOne_83 : decode y_C_partOne.2.1 83 = .ok (.istore 5, 2) := op_istore (gk (k := 64) (t := 19) ck_C_partOne_2 rfl) (gk (k := 64) (t := 20) ck_C_partOne_2 rfl) rfl
theorem d_C_partOne_85 : decode y_C_partOne.2.1 85 = .ok (.aload_n 0, 1) := op_aload_n0 (gk (k := 64) (t := 21) ck_C_partOne_2 rfl)
theorem d_C_partOne_86 : decode y_C_partOne.2.1 86 = .ok (.iload_n 3, 1) := op_iload_n3 (gk (k := 64) (t := 22) ck_C_partOne_2 rfl)
theorem d_C_partOne_87 : decode y_C_partOne.2.1 87 = .ok (.iload 4, 2) := op_iload (gk (k := 64) (t := 23) ck_C_partOne_2 rfl) (gk (k := 64) (t := 24) ck_C_partOne_2 rfl) rfl
theorem d_C_partOne_89 : decode y_C_partOne.2.1 89 = .ok (.iconst 0, 1) := op_iconst0 (gk (k := 64) (t := 25) ck_C_partOne_2 rfl)
theorem d_C_partOne_90 : decode y_C_partOne.2.1 90 = .ok (.iconst 3, 1) := op_iconst3 (gk (k := 64) (t := 26) ck_C_partOne_2 rfl)
theorem d_C_partOne_91 : decode y_C_partOne.2.1 91 = .ok (.invokevirtual 100, 3) := op_invokevirtual (gk (k := 64) (t := 27) ck_C_partOne_2 rfl) (gk (k := 64) (t := 28) ck_C_partOne_2 rfl) (gk (k := 64) (t := 29) ck_C_partOne_2 rfl) rfl
theorem d_C_partOne_94 : decode y_C_partOne.2.1 94 = .ok (.aload_n 1, 1) := op_aload_n1 (gk (k := 64) (t := 30) ck_C_partOne_2 rfl)
theorem d_C_partOne_95 : decode y_C_partOne.2.1 95 = .ok (.getfield 72, 3) := op_getfield (gk (k := 64) (t := 31) ck_C_partOne_2 rfl) (gk (k := 96) (t := 0) ck_C_partOne_3 rfl) (gk (k := 96) (t := 1) ck_C_partOne_3 rfl) rfl
theorem d_C_partOne_98 : decode y_C_partOne.2.1 98 = .ok (.iload_n 3, 1) := op_iload_n3 (gk (k := 96) (t := 2) ck_C_partOne_3 rfl)
theorem d_C_partOne_99 : decode y_C_partOne.2.1 99 = .ok (.iconst 1, 1) := op_iconst1 (gk (k := 96) (t := 3) ck_C_partOne_3 rfl)
theorem d_C_partOne_100 : decode y_C_partOne.2.1 100 = .ok (.iload 5, 2) := op_iload (gk (k := 96) (t := 4) ck_C_partOne_3 rfl) (gk (k := 96) (t := 5) ck_C_partOne_3 rfl) rfl
theorem lk_C_148 : LkV "SinglesUp$Chair" 148 y_L_put := ⟨tw_c4 30 (by decide +kernel) rfl, tw_c4 31 (by decide +kernel) rfl, Or.inl (tw_c4 104 (by decide +kernel) rfl)⟩
theorem d_C_partOne_102 : decode y_C_partOne.2.1 102 = .ok (.invokevirtual 148, 3) := op_invokevirtual (gk (k := 96) (t := 6) ck_C_partOne_3 rfl) (gk (k := 96) (t := 7) ck_C_partOne_3 rfl) (gk (k := 96) (t := 8) ck_C_partOne_3 rfl) rfl
theorem d_C_partOne_105 : decode y_C_partOne.2.1 105 = .ok (.aload_n 1, 1) := op_aload_n1 (gk (k := 96) (t := 9) ck_C_partOne_3 rfl)
theorem d_C_partOne_106 : decode y_C_partOne.2.1 106 = .ok (.getfield 72, 3) := op_getfield (gk (k := 96) (t := 10) ck_C_partOne_3 rfl) (gk (k := 96) (t := 11) ck_C_partOne_3 rfl) (gk (k := 96) (t := 12) ck_C_partOne_3 rfl) rfl
theorem d_C_partOne_109 : decode y_C_partOne.2.1 109 = .ok (.iload_n 3, 1) := op_iload_n3 (gk (k := 96) (t := 13) ck_C_partOne_3 rfl)
theorem d_C_partOne_110 : decode y_C_partOne.2.1 110 = .ok (.iconst 2, 1) := op_iconst2 (gk (k := 96) (t := 14) ck_C_partOne_3 rfl)
theorem d_C_partOne_111 : decode y_C_partOne.2.1 111 = .ok (.iload 5, 2) := op_iload (gk (k := 96) (t := 15) ck_C_partOne_3 rfl) (gk (k := 96) (t := 16) ck_C_partOne_3 rfl) rfl
theorem d_C_partOne_113 : decode y_C_partOne.2.1 113 = .ok (.invokevirtual 148, 3) := op_invokevirtual (gk (k := 96) (t := 17) ck_C_partOne_3 rfl) (gk (k := 96) (t := 18) ck_C_partOne_3 rfl) (gk (k := 96) (t := 19) ck_C_partOne_3 rfl) rfl
theorem d_C_partOne_116 : decode y_C_partOne.2.1 116 = .ok (.return_, 1) := op_return_ (gk (k := 96) (t := 20) ck_C_partOne_3 rfl)
abbrev y_C_worthiest : MI := (⟨"SinglesUp$Chair", "worthiest", "(LSinglesUp$Hill;Z)I"⟩, prog_2_method_9_code, 7, some .int)
theorem ck_C_worthiest_0 : (y_C_worthiest.2.1.data.toList.drop 0).take 32 = [43, 182, 0, 115, 78, 3, 54, 4, 2, 54, 5, 3, 54, 6, 21, 6, 42, 180, 0, 82, 162, 0, 100, 21, 6, 17, 0, 144, 162, 0, 92, 42] := by decide +kernel
theorem d_C_worthiest_0 : decode y_C_worthiest.2.1 0 = .ok (.aload_n 1, 1) := op_aload_n1 (gk (k := 0) (t := 0) ck_C_worthiest_0 rfl)
theorem d_C_worthiest_1 : decode y_C_worthiest.2.1 1 = .ok (.invokevirtual 115, 3) := op_invokevirtual (gk (k := 0) (t := 1) ck_C_worthiest_0 rfl) (gk (k := 0) (t := 2) ck_C_worthiest_0 rfl) (gk (k := 0) (t := 3) ck_C_worthiest_0 rfl) rfl
theorem d_C_worthiest_4 : decode y_C_worthiest.2.1 4 = .ok (.astore_n 3, 1) := op_astore_n3 (gk (k := 0) (t := 4) ck_C_worthiest_0 rfl)
theorem d_C_worthiest_5 : decode y_C_worthiest.2.1 5 = .ok (.iconst 0, 1) := op_iconst0 (gk (k := 0) (t := 5) ck_C_worthiest_0 rfl)
theorem d_C_worthiest_6 : decode y_C_worthiest.2.1 6 = .ok (.istore 4, 2) := op_istore (gk (k := 0) (t := 6) ck_C_worthiest_0 rfl) (gk (k := 0) (t := 7) ck_C_worthiest_0 rfl) rfl
theorem d_C_worthiest_8 : decode y_C_worthiest.2.1 8 = .ok (.iconst (-1), 1) := op_iconstm1 (gk (k := 0) (t := 8) ck_C_worthiest_0 rfl)
theorem d_C_worthiest_9 : decode y_C_worthiest.2.1 9 = .ok (.istore 5, 2) := op_istore (gk (k := 0) (t := 9) ck_C_worthiest_0 rfl) (gk (k := 0) (t := 10) ck_C_worthiest_0 rfl) rfl
theorem d_C_worthiest_11 : decode y_C_worthiest.2.1 11 = .ok (.iconst 0, 1) := op_iconst0 (gk (k := 0) (t := 11) ck_C_worthiest_0 rfl)
theorem d_C_worthiest_12 : decode y_C_worthiest.2.1 12 = .ok (.istore 6, 2) := op_istore (gk (k := 0) (t := 12) ck_C_worthiest_0 rfl) (gk (k := 0) (t := 13) ck_C_worthiest_0 rfl) rfl
theorem d_C_worthiest_14 : decode y_C_worthiest.2.1 14 = .ok (.iload 6, 2) := op_iload (gk (k := 0) (t := 14) ck_C_worthiest_0 rfl) (gk (k := 0) (t := 15) ck_C_worthiest_0 rfl) rfl
theorem d_C_worthiest_16 : decode y_C_worthiest.2.1 16 = .ok (.aload_n 0, 1) := op_aload_n0 (gk (k := 0) (t := 16) ck_C_worthiest_0 rfl)
theorem d_C_worthiest_17 : decode y_C_worthiest.2.1 17 = .ok (.getfield 82, 3) := op_getfield (gk (k := 0) (t := 17) ck_C_worthiest_0 rfl) (gk (k := 0) (t := 18) ck_C_worthiest_0 rfl) (gk (k := 0) (t := 19) ck_C_worthiest_0 rfl) rfl
theorem d_C_worthiest_20 : decode y_C_worthiest.2.1 20 = .ok (.if_icmp .ge 100, 3) := op_icmp_ge (gk (k := 0) (t := 20) ck_C_worthiest_0 rfl) (gk (k := 0) (t := 21) ck_C_worthiest_0 rfl) (gk (k := 0) (t := 22) ck_C_worthiest_0 rfl) (by decide +kernel)
theorem ck_C_worthiest_3 : (y_C_worthiest.2.1.data.toList.drop 96).take 32 = [42, 180, 0, 27, 21, 6, 46, 54, 4, 42, 180, 0, 24, 21, 6, 46, 54, 5, 132, 6, 1, 167, 255, 153, 21, 5, 172] := by decide +kernel
theorem d_C_worthiest_120 : decode y_C_worthiest.2.1 120 = .ok (.iload 5, 2) := op_iload (gk (k := 96) (t := 24) ck_C_worthiest_3 rfl) (gk (k := 96) (t := 25) ck_C_worthiest_3 rfl) rfl
theorem d_C_worthiest_122 : decode y_C_worthiest.2.1 122 = .ok (.ireturn, 1) := op_ireturn (gk (k := 96) (t := 26) ck_C_worthiest_3 rfl)
theorem d_C_worthiest_23 : decode y_C_worthiest.2.1 23 = .ok (.iload 6, 2) := op_iload (gk (k := 0) (t := 23) ck_C_worthiest_0 rfl) (gk (k := 0) (t := 24) ck_C_worthiest_0 rfl) rfl
theorem d_C_worthiest_25 : decode y_C_worthiest.2.1 25 = .ok (.sipush 144, 3) := op_sipush (gk (k := 0) (t := 25) ck_C_worthiest_0 rfl) (gk (k := 0) (t := 26) ck_C_worthiest_0 rfl) (gk (k := 0) (t := 27) ck_C_worthiest_0 rfl) (by decide +kernel)
theorem d_C_worthiest_28 : decode y_C_worthiest.2.1 28 = .ok (.if_icmp .ge 92, 3) := op_icmp_ge (gk (k := 0) (t := 28) ck_C_worthiest_0 rfl) (gk (k := 0) (t := 29) ck_C_worthiest_0 rfl) (gk (k := 0) (t := 30) ck_C_worthiest_0 rfl) (by decide +kernel)
theorem d_C_worthiest_31 : decode y_C_worthiest.2.1 31 = .ok (.aload_n 0, 1) := op_aload_n0 (gk (k := 0) (t := 31) ck_C_worthiest_0 rfl)
theorem ck_C_worthiest_1 : (y_C_worthiest.2.1.data.toList.drop 32).take 32 = [43, 42, 180, 0, 24, 21, 6, 46, 182, 0, 111, 153, 0, 71, 28, 153, 0, 37, 43, 42, 180, 0, 24, 21, 6, 46, 42, 180, 0, 30, 42, 180] := by decide +kernel
theorem d_C_worthiest_32 : decode y_C_worthiest.2.1 32 = .ok (.aload_n 1, 1) := op_aload_n1 (gk (k := 32) (t := 0) ck_C_worthiest_1 rfl)
theorem d_C_worthiest_33 : decode y_C_worthiest.2.1 33 = .ok (.aload_n 0, 1) := op_aload_n0 (gk (k := 32) (t := 1) ck_C_worthiest_1 rfl)
theorem d_C_worthiest_34 : decode y_C_worthiest.2.1 34 = .ok (.getfield 24, 3) := op_getfield (gk (k := 32) (t := 2) ck_C_worthiest_1 rfl) (gk (k := 32) (t := 3) ck_C_worthiest_1 rfl) (gk (k := 32) (t := 4) ck_C_worthiest_1 rfl) rfl
theorem d_C_worthiest_37 : decode y_C_worthiest.2.1 37 = .ok (.iload 6, 2) := op_iload (gk (k := 32) (t := 5) ck_C_worthiest_1 rfl) (gk (k := 32) (t := 6) ck_C_worthiest_1 rfl) rfl
theorem d_C_worthiest_39 : decode y_C_worthiest.2.1 39 = .ok (.iaload, 1) := op_iaload (gk (k := 32) (t := 7) ck_C_worthiest_1 rfl)
theorem d_C_worthiest_40 : decode y_C_worthiest.2.1 40 = .ok (.invokevirtual 111, 3) := op_invokevirtual (gk (k := 32) (t := 8) ck_C_worthiest_1 rfl) (gk (k := 32) (t := 9) ck_C_worthiest_1 rfl) (gk (k := 32) (t := 10) ck_C_worthiest_1 rfl) rfl
theorem d_C_worthiest_114 : decode y_C_worthiest.2.1 114 = .ok (.iinc 6 1, 3) := op_iinc (gk (k := 96) (t := 18) ck_C_worthiest_3 rfl) (gk (k := 96) (t := 19) ck_C_worthiest_3 rfl) (gk (k := 96) (t := 20) ck_C_worthiest_3 rfl) rfl rfl
theorem d_C_worthiest_117 : decode y_C_worthiest.2.1 117 = .ok (.goto (-103), 3) := op_goto (gk (k := 96) (t := 21) ck_C_worthiest_3 rfl) (gk (k := 96) (t := 22) ck_C_worthiest_3 rfl) (gk (k := 96) (t := 23) ck_C_worthiest_3 rfl) (by decide +kernel)
theorem d_C_worthiest_43 : decode y_C_worthiest.2.1 43 = .ok (.ifCond .eq 71, 3) := op_if_eq (gk (k := 32) (t := 11) ck_C_worthiest_1 rfl) (gk (k := 32) (t := 12) ck_C_worthiest_1 rfl) (gk (k := 32) (t := 13) ck_C_worthiest_1 rfl) (by decide +kernel)
theorem d_C_worthiest_46 : decode y_C_worthiest.2.1 46 = .ok (.iload_n 2, 1) := op_iload_n2 (gk (k := 32) (t := 14) ck_C_worthiest_1 rfl)
theorem ck_C_worthiest_2 : (y_C_worthiest.2.1.data.toList.drop 64).take 32 = [0, 40, 182, 0, 119, 42, 180, 0, 27, 21, 6, 45, 43, 180, 0, 123, 182, 0, 126, 79, 42, 180, 0, 27, 21, 6, 46, 21, 4, 164, 0, 21] := by decide +kernel
theorem d_C_worthiest_84 : decode y_C_worthiest.2.1 84 = .ok (.aload_n 0, 1) := op_aload_n0 (gk (k := 64) (t := 20) ck_C_worthiest_2 rfl)
theorem fl_C_27 : FL "SinglesUp$Chair" 27 0 6 := ⟨"SinglesUp$Chair", zT0, 12, rfl, by decide, rfl, Or.inl (tw_c1 168 (by decide +kernel) rfl)⟩
theorem rc_0_6 : ∀ o, KC[o]? = some (3, 12) → RC o 6 = some (o + 6) ∧ KC[o + 6]? = some (0, 144) := by
  intro o h
  have hl : o < 166 := (List.getElem?_eq_some_iff.mp h).1
  exact (by decide +kernel : ∀ o, o < 166 → KC[o]? = some (3, 12) → RC o 6 = some (o + 6) ∧ KC[o + 6]? = some (0, 144)) o hl h
theorem d_C_worthiest_85 : decode y_C_worthiest.2.1 85 = .ok (.getfield 27, 3) := op_getfield (gk (k := 64) (t := 21) ck_C_worthiest_2 rfl) (gk (k := 64) (t := 22) ck_C_worthiest_2 rfl) (gk (k := 64) (t := 23) ck_C_worthiest_2 rfl) rfl
theorem d_C_worthiest_88 : decode y_C_worthiest.2.1 88 = .ok (.iload 6, 2) := op_iload (gk (k := 64) (t := 24) ck_C_worthiest_2 rfl) (gk (k := 64) (t := 25) ck_C_worthiest_2 rfl) rfl
theorem d_C_worthiest_90 : decode y_C_worthiest.2.1 90 = .ok (.iaload, 1) := op_iaload (gk (k := 64) (t := 26) ck_C_worthiest_2 rfl)
theorem d_C_worthiest_91 : decode y_C_worthiest.2.1 91 = .ok (.iload 4, 2) := op_iload (gk (k := 64) (t := 27) ck_C_worthiest_2 rfl) (gk (k := 64) (t := 28) ck_C_worthiest_2 rfl) rfl
theorem d_C_worthiest_93 : decode y_C_worthiest.2.1 93 = .ok (.if_icmp .le 21, 3) := op_icmp_le (gk (k := 64) (t := 29) ck_C_worthiest_2 rfl) (gk (k := 64) (t := 30) ck_C_worthiest_2 rfl) (gk (k := 64) (t := 31) ck_C_worthiest_2 rfl) (by decide +kernel)
theorem d_C_worthiest_96 : decode y_C_worthiest.2.1 96 = .ok (.aload_n 0, 1) := op_aload_n0 (gk (k := 96) (t := 0) ck_C_worthiest_3 rfl)
theorem d_C_worthiest_97 : decode y_C_worthiest.2.1 97 = .ok (.getfield 27, 3) := op_getfield (gk (k := 96) (t := 1) ck_C_worthiest_3 rfl) (gk (k := 96) (t := 2) ck_C_worthiest_3 rfl) (gk (k := 96) (t := 3) ck_C_worthiest_3 rfl) rfl
theorem d_C_worthiest_100 : decode y_C_worthiest.2.1 100 = .ok (.iload 6, 2) := op_iload (gk (k := 96) (t := 4) ck_C_worthiest_3 rfl) (gk (k := 96) (t := 5) ck_C_worthiest_3 rfl) rfl
theorem d_C_worthiest_102 : decode y_C_worthiest.2.1 102 = .ok (.iaload, 1) := op_iaload (gk (k := 96) (t := 6) ck_C_worthiest_3 rfl)
theorem d_C_worthiest_103 : decode y_C_worthiest.2.1 103 = .ok (.istore 4, 2) := op_istore (gk (k := 96) (t := 7) ck_C_worthiest_3 rfl) (gk (k := 96) (t := 8) ck_C_worthiest_3 rfl) rfl
theorem d_C_worthiest_105 : decode y_C_worthiest.2.1 105 = .ok (.aload_n 0, 1) := op_aload_n0 (gk (k := 96) (t := 9) ck_C_worthiest_3 rfl)
theorem d_C_worthiest_106 : decode y_C_worthiest.2.1 106 = .ok (.getfield 24, 3) := op_getfield (gk (k := 96) (t := 10) ck_C_worthiest_3 rfl) (gk (k := 96) (t := 11) ck_C_worthiest_3 rfl) (gk (k := 96) (t := 12) ck_C_worthiest_3 rfl) rfl
theorem d_C_worthiest_109 : decode y_C_worthiest.2.1 109 = .ok (.iload 6, 2) := op_iload (gk (k := 96) (t := 13) ck_C_worthiest_3 rfl) (gk (k := 96) (t := 14) ck_C_worthiest_3 rfl) rfl
theorem d_C_worthiest_111 : decode y_C_worthiest.2.1 111 = .ok (.iaload, 1) := op_iaload (gk (k := 96) (t := 15) ck_C_worthiest_3 rfl)
theorem d_C_worthiest_112 : decode y_C_worthiest.2.1 112 = .ok (.istore 5, 2) := op_istore (gk (k := 96) (t := 16) ck_C_worthiest_3 rfl) (gk (k := 96) (t := 17) ck_C_worthiest_3 rfl) rfl
theorem d_C_worthiest_47 : decode y_C_worthiest.2.1 47 = .ok (.ifCond .eq 37, 3) := op_if_eq (gk (k := 32) (t := 15) ck_C_worthiest_1 rfl) (gk (k := 32) (t := 16) ck_C_worthiest_1 rfl) (gk (k := 32) (t := 17) ck_C_worthiest_1 rfl) (by decide +kernel)
theorem d_C_worthiest_50 : decode y_C_worthiest.2.1 50 = .ok (.aload_n 1, 1) := op_aload_n1 (gk (k := 32) (t := 18) ck_C_worthiest_1 rfl)
theorem d_C_worthiest_51 : decode y_C_worthiest.2.1 51 = .ok (.aload_n 0, 1) := op_aload_n0 (gk (k := 32) (t := 19) ck_C_worthiest_1 rfl)
theorem d_C_worthiest_52 : decode y_C_worthiest.2.1 52 = .ok (.getfield 24, 3) := op_getfield (gk (k := 32) (t := 20) ck_C_worthiest_1 rfl) (gk (k := 32) (t := 21) ck_C_worthiest_1 rfl) (gk (k := 32) (t := 22) ck_C_worthiest_1 rfl) rfl
theorem d_C_worthiest_55 : decode y_C_worthiest.2.1 55 = .ok (.iload 6, 2) := op_iload (gk (k := 32) (t := 23) ck_C_worthiest_1 rfl) (gk (k := 32) (t := 24) ck_C_worthiest_1 rfl) rfl
theorem d_C_worthiest_57 : decode y_C_worthiest.2.1 57 = .ok (.iaload, 1) := op_iaload (gk (k := 32) (t := 25) ck_C_worthiest_1 rfl)
theorem d_C_worthiest_58 : decode y_C_worthiest.2.1 58 = .ok (.aload_n 0, 1) := op_aload_n0 (gk (k := 32) (t := 26) ck_C_worthiest_1 rfl)
theorem d_C_worthiest_59 : decode y_C_worthiest.2.1 59 = .ok (.getfield 30, 3) := op_getfield (gk (k := 32) (t := 27) ck_C_worthiest_1 rfl) (gk (k := 32) (t := 28) ck_C_worthiest_1 rfl) (gk (k := 32) (t := 29) ck_C_worthiest_1 rfl) rfl
theorem d_C_worthiest_62 : decode y_C_worthiest.2.1 62 = .ok (.aload_n 0, 1) := op_aload_n0 (gk (k := 32) (t := 30) ck_C_worthiest_1 rfl)
theorem d_C_worthiest_63 : decode y_C_worthiest.2.1 63 = .ok (.getfield 40, 3) := op_getfield (gk (k := 32) (t := 31) ck_C_worthiest_1 rfl) (gk (k := 64) (t := 0) ck_C_worthiest_2 rfl) (gk (k := 64) (t := 1) ck_C_worthiest_2 rfl) rfl
theorem d_C_worthiest_66 : decode y_C_worthiest.2.1 66 = .ok (.invokevirtual 119, 3) := op_invokevirtual (gk (k := 64) (t := 2) ck_C_worthiest_2 rfl) (gk (k := 64) (t := 3) ck_C_worthiest_2 rfl) (gk (k := 64) (t := 4) ck_C_worthiest_2 rfl) rfl
theorem d_C_worthiest_69 : decode y_C_worthiest.2.1 69 = .ok (.aload_n 0, 1) := op_aload_n0 (gk (k := 64) (t := 5) ck_C_worthiest_2 rfl)
theorem d_C_worthiest_70 : decode y_C_worthiest.2.1 70 = .ok (.getfield 27, 3) := op_getfield (gk (k := 64) (t := 6) ck_C_worthiest_2 rfl) (gk (k := 64) (t := 7) ck_C_worthiest_2 rfl) (gk (k := 64) (t := 8) ck_C_worthiest_2 rfl) rfl
theorem d_C_worthiest_73 : decode y_C_worthiest.2.1 73 = .ok (.iload 6, 2) := op_iload (gk (k := 64) (t := 9) ck_C_worthiest_2 rfl) (gk (k := 64) (t := 10) ck_C_worthiest_2 rfl) rfl
theorem d_C_worthiest_75 : decode y_C_worthiest.2.1 75 = .ok (.aload_n 3, 1) := op_aload_n3 (gk (k := 64) (t := 11) ck_C_worthiest_2 rfl)
theorem d_C_worthiest_76 : decode y_C_worthiest.2.1 76 = .ok (.aload_n 1, 1) := op_aload_n1 (gk (k := 64) (t := 12) ck_C_worthiest_2 rfl)
theorem d_C_worthiest_77 : decode y_C_worthiest.2.1 77 = .ok (.getfield 123, 3) := op_getfield (gk (k := 64) (t := 13) ck_C_worthiest_2 rfl) (gk (k := 64) (t := 14) ck_C_worthiest_2 rfl) (gk (k := 64) (t := 15) ck_C_worthiest_2 rfl) rfl
theorem d_C_worthiest_80 : decode y_C_worthiest.2.1 80 = .ok (.invokevirtual 126, 3) := op_invokevirtual (gk (k := 64) (t := 16) ck_C_worthiest_2 rfl) (gk (k := 64) (t := 17) ck_C_worthiest_2 rfl) (gk (k := 64) (t := 18) ck_C_worthiest_2 rfl) rfl
theorem d_C_worthiest_83 : decode y_C_worthiest.2.1 83 = .ok (.iastore, 1) := op_iastore (gk (k := 64) (t := 19) ck_C_worthiest_2 rfl)
abbrev y_L_listSeen : MI := (⟨"SinglesUp$Lines", "listSeen", "([II)I"⟩, prog_6_method_6_code, 7, some .int)
theorem ck_L_listSeen_0 : (y_L_listSeen.2.1.data.toList.drop 0).take 32 = [3, 62, 3, 54, 4, 21, 4, 16, 6, 162, 0, 76, 42, 180, 0, 15, 21, 4, 46, 42, 180, 0, 18, 21, 4, 46, 21, 4, 28, 160, 0, 7] := by decide +kernel
theorem d_L_listSeen_0 : decode y_L_listSeen.2.1 0 = .ok (.iconst 0, 1) := op_iconst0 (gk (k := 0) (t := 0) ck_L_listSeen_0 rfl)
theorem d_L_listSeen_1 : decode y_L_listSeen.2.1 1 = .ok (.istore_n 3, 1) := op_istore_n3 (gk (k := 0) (t := 1) ck_L_listSeen_0 rfl)
theorem d_L_listSeen_2 : decode y_L_listSeen.2.1 2 = .ok (.iconst 0, 1) := op_iconst0 (gk (k := 0) (t := 2) ck_L_listSeen_0 rfl)
theorem d_L_listSeen_3 : decode y_L_listSeen.2.1 3 = .ok (.istore 4, 2) := op_istore (gk (k := 0) (t := 3) ck_L_listSeen_0 rfl) (gk (k := 0) (t := 4) ck_L_listSeen_0 rfl) rfl
theorem d_L_listSeen_5 : decode y_L_listSeen.2.1 5 = .ok (.iload 4, 2) := op_iload (gk (k := 0) (t := 5) ck_L_listSeen_0 rfl) (gk (k := 0) (t := 6) ck_L_listSeen_0 rfl) rfl
theorem d_L_listSeen_7 : decode y_L_listSeen.2.1 7 = .ok (.bipush 6, 2) := op_bipush (gk (k := 0) (t := 7) ck_L_listSeen_0 rfl) (gk (k := 0) (t := 8) ck_L_listSeen_0 rfl) rfl
theorem d_L_listSeen_9 : decode y_L_listSeen.2.1 9 = .ok (.if_icmp .ge 76, 3) := op_icmp_ge (gk (k := 0) (t := 9) ck_L_listSeen_0 rfl) (gk (k := 0) (t := 10) ck_L_listSeen_0 rfl) (gk (k := 0) (t := 11) ck_L_listSeen_0 rfl) (by decide +kernel)
theorem ck_L_listSeen_2 : (y_L_listSeen.2.1.data.toList.drop 64).take 32 = [40, 104, 21, 6, 96, 79, 132, 3, 1, 132, 6, 1, 167, 255, 226, 132, 4, 1, 167, 255, 179, 29, 172] := by decide +kernel
theorem d_L_listSeen_85 : decode y_L_listSeen.2.1 85 = .ok (.iload_n 3, 1) := op_iload_n3 (gk (k := 64) (t := 21) ck_L_listSeen_2 rfl)
theorem d_L_listSeen_86 : decode y_L_listSeen.2.1 86 = .ok (.ireturn, 1) := op_ireturn (gk (k := 64) (t := 22) ck_L_listSeen_2 rfl)
theorem d_L_listSeen_12 : decode y_L_listSeen.2.1 12 = .ok (.aload_n 0, 1) := op_aload_n0 (gk (k := 0) (t := 12) ck_L_listSeen_0 rfl)
theorem d_L_listSeen_13 : decode y_L_listSeen.2.1 13 = .ok (.getfield 15, 3) := op_getfield (gk (k := 0) (t := 13) ck_L_listSeen_0 rfl) (gk (k := 0) (t := 14) ck_L_listSeen_0 rfl) (gk (k := 0) (t := 15) ck_L_listSeen_0 rfl) rfl
theorem d_L_listSeen_16 : decode y_L_listSeen.2.1 16 = .ok (.iload 4, 2) := op_iload (gk (k := 0) (t := 16) ck_L_listSeen_0 rfl) (gk (k := 0) (t := 17) ck_L_listSeen_0 rfl) rfl
theorem d_L_listSeen_18 : decode y_L_listSeen.2.1 18 = .ok (.iaload, 1) := op_iaload (gk (k := 0) (t := 18) ck_L_listSeen_0 rfl)
theorem d_L_listSeen_19 : decode y_L_listSeen.2.1 19 = .ok (.aload_n 0, 1) := op_aload_n0 (gk (k := 0) (t := 19) ck_L_listSeen_0 rfl)
theorem d_L_listSeen_20 : decode y_L_listSeen.2.1 20 = .ok (.getfield 18, 3) := op_getfield (gk (k := 0) (t := 20) ck_L_listSeen_0 rfl) (gk (k := 0) (t := 21) ck_L_listSeen_0 rfl) (gk (k := 0) (t := 22) ck_L_listSeen_0 rfl) rfl
theorem d_L_listSeen_23 : decode y_L_listSeen.2.1 23 = .ok (.iload 4, 2) := op_iload (gk (k := 0) (t := 23) ck_L_listSeen_0 rfl) (gk (k := 0) (t := 24) ck_L_listSeen_0 rfl) rfl
theorem d_L_listSeen_25 : decode y_L_listSeen.2.1 25 = .ok (.iaload, 1) := op_iaload (gk (k := 0) (t := 25) ck_L_listSeen_0 rfl)
theorem d_L_listSeen_26 : decode y_L_listSeen.2.1 26 = .ok (.iload 4, 2) := op_iload (gk (k := 0) (t := 26) ck_L_listSeen_0 rfl) (gk (k := 0) (t := 27) ck_L_listSeen_0 rfl) rfl
theorem d_L_listSeen_28 : decode y_L_listSeen.2.1 28 = .ok (.iload_n 2, 1) := op_iload_n2 (gk (k := 0) (t := 28) ck_L_listSeen_0 rfl)
theorem ck_L_listSeen_1 : (y_L_listSeen.2.1.data.toList.drop 32).take 32 = [4, 167, 0, 4, 3, 96, 184, 0, 37, 54, 5, 3, 54, 6, 21, 6, 21, 5, 162, 0, 29, 29, 43, 190, 162, 0, 17, 43, 29, 21, 4, 16] := by decide +kernel
theorem d_L_listSeen_37 : decode y_L_listSeen.2.1 37 = .ok (.iadd, 1) := op_iadd (gk (k := 32) (t := 5) ck_L_listSeen_1 rfl)
theorem d_L_listSeen_38 : decode y_L_listSeen.2.1 38 = .ok (.invokestatic 37, 3) := op_invokestatic (gk (k := 32) (t := 6) ck_L_listSeen_1 rfl) (gk (k := 32) (t := 7) ck_L_listSeen_1 rfl) (gk (k := 32) (t := 8) ck_L_listSeen_1 rfl) rfl
theorem d_L_listSeen_41 : decode y_L_listSeen.2.1 41 = .ok (.istore 5, 2) := op_istore (gk (k := 32) (t := 9) ck_L_listSeen_1 rfl) (gk (k := 32) (t := 10) ck_L_listSeen_1 rfl) rfl
theorem d_L_listSeen_43 : decode y_L_listSeen.2.1 43 = .ok (.iconst 0, 1) := op_iconst0 (gk (k := 32) (t := 11) ck_L_listSeen_1 rfl)
theorem d_L_listSeen_44 : decode y_L_listSeen.2.1 44 = .ok (.istore 6, 2) := op_istore (gk (k := 32) (t := 12) ck_L_listSeen_1 rfl) (gk (k := 32) (t := 13) ck_L_listSeen_1 rfl) rfl
theorem d_L_listSeen_46 : decode y_L_listSeen.2.1 46 = .ok (.iload 6, 2) := op_iload (gk (k := 32) (t := 14) ck_L_listSeen_1 rfl) (gk (k := 32) (t := 15) ck_L_listSeen_1 rfl) rfl
theorem d_L_listSeen_48 : decode y_L_listSeen.2.1 48 = .ok (.iload 5, 2) := op_iload (gk (k := 32) (t := 16) ck_L_listSeen_1 rfl) (gk (k := 32) (t := 17) ck_L_listSeen_1 rfl) rfl
theorem d_L_listSeen_50 : decode y_L_listSeen.2.1 50 = .ok (.if_icmp .ge 29, 3) := op_icmp_ge (gk (k := 32) (t := 18) ck_L_listSeen_1 rfl) (gk (k := 32) (t := 19) ck_L_listSeen_1 rfl) (gk (k := 32) (t := 20) ck_L_listSeen_1 rfl) (by decide +kernel)
theorem d_L_listSeen_53 : decode y_L_listSeen.2.1 53 = .ok (.iload_n 3, 1) := op_iload_n3 (gk (k := 32) (t := 21) ck_L_listSeen_1 rfl)
theorem d_L_listSeen_54 : decode y_L_listSeen.2.1 54 = .ok (.aload_n 1, 1) := op_aload_n1 (gk (k := 32) (t := 22) ck_L_listSeen_1 rfl)
theorem d_L_listSeen_55 : decode y_L_listSeen.2.1 55 = .ok (.arraylength, 1) := op_arraylength (gk (k := 32) (t := 23) ck_L_listSeen_1 rfl)
theorem d_L_listSeen_73 : decode y_L_listSeen.2.1 73 = .ok (.iinc 6 1, 3) := op_iinc (gk (k := 64) (t := 9) ck_L_listSeen_2 rfl) (gk (k := 64) (t := 10) ck_L_listSeen_2 rfl) (gk (k := 64) (t := 11) ck_L_listSeen_2 rfl) rfl rfl
theorem d_L_listSeen_76 : decode y_L_listSeen.2.1 76 = .ok (.goto (-30), 3) := op_goto (gk (k := 64) (t := 12) ck_L_listSeen_2 rfl) (gk (k := 64) (t := 13) ck_L_listSeen_2 rfl) (gk (k := 64) (t := 14) ck_L_listSeen_2 rfl) (by decide +kernel)
theorem d_L_listSeen_56 : decode y_L_listSeen.2.1 56 = .ok (.if_icmp .ge 17, 3) := op_icmp_ge (gk (k := 32) (t := 24) ck_L_listSeen_1 rfl) (gk (k := 32) (t := 25) ck_L_listSeen_1 rfl) (gk (k := 32) (t := 26) ck_L_listSeen_1 rfl) (by decide +kernel)
theorem d_L_listSeen_59 : decode y_L_listSeen.2.1 59 = .ok (.aload_n 1, 1) := op_aload_n1 (gk (k := 32) (t := 27) ck_L_listSeen_1 rfl)
theorem d_L_listSeen_60 : decode y_L_listSeen.2.1 60 = .ok (.iload_n 3, 1) := op_iload_n3 (gk (k := 32) (t := 28) ck_L_listSeen_1 rfl)
theorem d_L_listSeen_61 : decode y_L_listSeen.2.1 61 = .ok (.iload 4, 2) := op_iload (gk (k := 32) (t := 29) ck_L_listSeen_1 rfl) (gk (k := 32) (t := 30) ck_L_listSeen_1 rfl) rfl
theorem d_L_listSeen_63 : decode y_L_listSeen.2.1 63 = .ok (.bipush 40, 2) := op_bipush (gk (k := 32) (t := 31) ck_L_listSeen_1 rfl) (gk (k := 64) (t := 0) ck_L_listSeen_2 rfl) rfl
theorem d_L_listSeen_65 : decode y_L_listSeen.2.1 65 = .ok (.imul, 1) := op_imul (gk (k := 64) (t := 1) ck_L_listSeen_2 rfl)
theorem d_L_listSeen_66 : decode y_L_listSeen.2.1 66 = .ok (.iload 6, 2) := op_iload (gk (k := 64) (t := 2) ck_L_listSeen_2 rfl) (gk (k := 64) (t := 3) ck_L_listSeen_2 rfl) rfl
theorem d_L_listSeen_68 : decode y_L_listSeen.2.1 68 = .ok (.iadd, 1) := op_iadd (gk (k := 64) (t := 4) ck_L_listSeen_2 rfl)
theorem d_L_listSeen_69 : decode y_L_listSeen.2.1 69 = .ok (.iastore, 1) := op_iastore (gk (k := 64) (t := 5) ck_L_listSeen_2 rfl)
theorem d_L_listSeen_70 : decode y_L_listSeen.2.1 70 = .ok (.iinc 3 1, 3) := op_iinc (gk (k := 64) (t := 6) ck_L_listSeen_2 rfl) (gk (k := 64) (t := 7) ck_L_listSeen_2 rfl) (gk (k := 64) (t := 8) ck_L_listSeen_2 rfl) rfl rfl
theorem d_L_listSeen_79 : decode y_L_listSeen.2.1 79 = .ok (.iinc 4 1, 3) := op_iinc (gk (k := 64) (t := 15) ck_L_listSeen_2 rfl) (gk (k := 64) (t := 16) ck_L_listSeen_2 rfl) (gk (k := 64) (t := 17) ck_L_listSeen_2 rfl) rfl rfl
theorem d_L_listSeen_82 : decode y_L_listSeen.2.1 82 = .ok (.goto (-77), 3) := op_goto (gk (k := 64) (t := 18) ck_L_listSeen_2 rfl) (gk (k := 64) (t := 19) ck_L_listSeen_2 rfl) (gk (k := 64) (t := 20) ck_L_listSeen_2 rfl) (by decide +kernel)
theorem d_L_listSeen_29 : decode y_L_listSeen.2.1 29 = .ok (.if_icmp .ne 7, 3) := op_icmp_ne (gk (k := 0) (t := 29) ck_L_listSeen_0 rfl) (gk (k := 0) (t := 30) ck_L_listSeen_0 rfl) (gk (k := 0) (t := 31) ck_L_listSeen_0 rfl) (by decide +kernel)
theorem d_L_listSeen_36 : decode y_L_listSeen.2.1 36 = .ok (.iconst 0, 1) := op_iconst0 (gk (k := 32) (t := 4) ck_L_listSeen_1 rfl)
theorem d_L_listSeen_32 : decode y_L_listSeen.2.1 32 = .ok (.iconst 1, 1) := op_iconst1 (gk (k := 32) (t := 0) ck_L_listSeen_1 rfl)
theorem d_L_listSeen_33 : decode y_L_listSeen.2.1 33 = .ok (.goto 4, 3) := op_goto (gk (k := 32) (t := 1) ck_L_listSeen_1 rfl) (gk (k := 32) (t := 2) ck_L_listSeen_1 rfl) (gk (k := 32) (t := 3) ck_L_listSeen_1 rfl) (by decide +kernel)
abbrev y_C_fill : MI := (⟨"SinglesUp$Chair", "fill", "(LSinglesUp$Hill;)V"⟩, prog_2_method_5_code, 6, none)
theorem ck_C_fill_0 : (y_C_fill.2.1.data.toList.drop 0).take 32 = [42, 43, 180, 0, 65, 3, 46, 182, 0, 68, 42, 43, 180, 0, 72, 42, 180, 0, 24, 2, 182, 0, 76, 181, 0, 82, 4, 61, 3, 62, 29, 17] := by decide +kernel
theorem d_C_fill_0 : decode y_C_fill.2.1 0 = .ok (.aload_n 0, 1) := op_aload_n0 (gk (k := 0) (t := 0) ck_C_fill_0 rfl)
theorem d_C_fill_1 : decode y_C_fill.2.1 1 = .ok (.aload_n 1, 1) := op_aload_n1 (gk (k := 0) (t := 1) ck_C_fill_0 rfl)
theorem d_C_fill_2 : decode y_C_fill.2.1 2 = .ok (.getfield 65, 3) := op_getfield (gk (k := 0) (t := 2) ck_C_fill_0 rfl) (gk (k := 0) (t := 3) ck_C_fill_0 rfl) (gk (k := 0) (t := 4) ck_C_fill_0 rfl) rfl
theorem d_C_fill_5 : decode y_C_fill.2.1 5 = .ok (.iconst 0, 1) := op_iconst0 (gk (k := 0) (t := 5) ck_C_fill_0 rfl)
theorem d_C_fill_6 : decode y_C_fill.2.1 6 = .ok (.iaload, 1) := op_iaload (gk (k := 0) (t := 6) ck_C_fill_0 rfl)
theorem lk_C_68 : LkV "SinglesUp$Chair" 68 y_C_clear := ⟨tw_c2 136 (by decide +kernel) rfl, tw_c2 137 (by decide +kernel) rfl, Or.inl (tw_c4 66 (by decide +kernel) rfl)⟩
theorem d_C_fill_7 : decode y_C_fill.2.1 7 = .ok (.invokevirtual 68, 3) := op_invokevirtual (gk (k := 0) (t := 7) ck_C_fill_0 rfl) (gk (k := 0) (t := 8) ck_C_fill_0 rfl) (gk (k := 0) (t := 9) ck_C_fill_0 rfl) rfl
theorem d_C_fill_10 : decode y_C_fill.2.1 10 = .ok (.aload_n 0, 1) := op_aload_n0 (gk (k := 0) (t := 10) ck_C_fill_0 rfl)
theorem d_C_fill_11 : decode y_C_fill.2.1 11 = .ok (.aload_n 1, 1) := op_aload_n1 (gk (k := 0) (t := 11) ck_C_fill_0 rfl)
theorem d_C_fill_12 : decode y_C_fill.2.1 12 = .ok (.getfield 72, 3) := op_getfield (gk (k := 0) (t := 12) ck_C_fill_0 rfl) (gk (k := 0) (t := 13) ck_C_fill_0 rfl) (gk (k := 0) (t := 14) ck_C_fill_0 rfl) rfl
theorem d_C_fill_15 : decode y_C_fill.2.1 15 = .ok (.aload_n 0, 1) := op_aload_n0 (gk (k := 0) (t := 15) ck_C_fill_0 rfl)
theorem d_C_fill_16 : decode y_C_fill.2.1 16 = .ok (.getfield 24, 3) := op_getfield (gk (k := 0) (t := 16) ck_C_fill_0 rfl) (gk (k := 0) (t := 17) ck_C_fill_0 rfl) (gk (k := 0) (t := 18) ck_C_fill_0 rfl) rfl
theorem d_C_fill_19 : decode y_C_fill.2.1 19 = .ok (.iconst (-1), 1) := op_iconstm1 (gk (k := 0) (t := 19) ck_C_fill_0 rfl)
theorem lk_C_76 : LkV "SinglesUp$Chair" 76 y_L_listSeen := ⟨tw_c4 68 (by decide +kernel) rfl, tw_c4 69 (by decide +kernel) rfl, Or.inl (tw_c4 67 (by decide +kernel) rfl)⟩
set_option maxRecDepth 100000 in
theorem mo_L_listSeen : MOk y_L_listSeen 2 := ⟨by decide +kernel, tw_c4 70 rfl rfl, tw_c1 3 (by decide +kernel) rfl, by decide +kernel, by decide +kernel, by decide +kernel⟩
theorem d_C_fill_20 : decode y_C_fill.2.1 20 = .ok (.invokevirtual 76, 3) := op_invokevirtual (gk (k := 0) (t := 20) ck_C_fill_0 rfl) (gk (k := 0) (t := 21) ck_C_fill_0 rfl) (gk (k := 0) (t := 22) ck_C_fill_0 rfl) rfl
theorem d_C_fill_23 : decode y_C_fill.2.1 23 = .ok (.putfield 82, 3) := op_putfield (gk (k := 0) (t := 23) ck_C_fill_0 rfl) (gk (k := 0) (t := 24) ck_C_fill_0 rfl) (gk (k := 0) (t := 25) ck_C_fill_0 rfl) rfl
theorem d_C_fill_26 : decode y_C_fill.2.1 26 = .ok (.iconst 1, 1) := op_iconst1 (gk (k := 0) (t := 26) ck_C_fill_0 rfl)
theorem d_C_fill_27 : decode y_C_fill.2.1 27 = .ok (.istore_n 2, 1) := op_istore_n2 (gk (k := 0) (t := 27) ck_C_fill_0 rfl)
theorem d_C_fill_28 : decode y_C_fill.2.1 28 = .ok (.iconst 0, 1) := op_iconst0 (gk (k := 0) (t := 28) ck_C_fill_0 rfl)
theorem d_C_fill_29 : decode y_C_fill.2.1 29 = .ok (.istore_n 3, 1) := op_istore_n3 (gk (k := 0) (t := 29) ck_C_fill_0 rfl)
theorem d_C_fill_30 : decode y_C_fill.2.1 30 = .ok (.iload_n 3, 1) := op_iload_n3 (gk (k := 0) (t := 30) ck_C_fill_0 rfl)
theorem ck_C_fill_1 : (y_C_fill.2.1.data.toList.drop 32).take 32 = [0, 144, 163, 0, 93, 42, 43, 182, 0, 85, 54, 4, 21, 4, 2, 160, 0, 13, 42, 43, 28, 182, 0, 88, 54, 4, 3, 61, 21, 4, 2, 160] := by decide +kernel
theorem d_C_fill_31 : decode y_C_fill.2.1 31 = .ok (.sipush 144, 3) := op_sipush (gk (k := 0) (t := 31) ck_C_fill_0 rfl) (gk (k := 32) (t := 0) ck_C_fill_1 rfl) (gk (k := 32) (t := 1) ck_C_fill_1 rfl) (by decide +kernel)
theorem d_C_fill_34 : decode y_C_fill.2.1 34 = .ok (.if_icmp .gt 93, 3) := op_icmp_gt (gk (k := 32) (t := 2) ck_C_fill_1 rfl) (gk (k := 32) (t := 3) ck_C_fill_1 rfl) (gk (k := 32) (t := 4) ck_C_fill_1 rfl) (by decide +kernel)
theorem d_C_fill_37 : decode y_C_fill.2.1 37 = .ok (.aload_n 0, 1) := op_aload_n0 (gk (k := 32) (t := 5) ck_C_fill_1 rfl)
theorem d_C_fill_38 : decode y_C_fill.2.1 38 = .ok (.aload_n 1, 1) := op_aload_n1 (gk (k := 32) (t := 6) ck_C_fill_1 rfl)
theorem lk_C_85 : LkV "SinglesUp$Chair" 85 y_C_mostPassed := ⟨tw_c4 73 (by decide +kernel) rfl, tw_in 23 (by decide +kernel) rfl, Or.inl (tw_c4 71 (by decide +kernel) rfl)⟩
set_option maxRecDepth 100000 in
theorem mo_C_mostPassed : MOk y_C_mostPassed 1 := ⟨by decide +kernel, tw_c4 74 rfl rfl, tw_c1 7 (by decide +kernel) rfl, by decide +kernel, by decide +kernel, by decide +kernel⟩
theorem d_C_fill_39 : decode y_C_fill.2.1 39 = .ok (.invokevirtual 85, 3) := op_invokevirtual (gk (k := 32) (t := 7) ck_C_fill_1 rfl) (gk (k := 32) (t := 8) ck_C_fill_1 rfl) (gk (k := 32) (t := 9) ck_C_fill_1 rfl) rfl
theorem d_C_fill_42 : decode y_C_fill.2.1 42 = .ok (.istore 4, 2) := op_istore (gk (k := 32) (t := 10) ck_C_fill_1 rfl) (gk (k := 32) (t := 11) ck_C_fill_1 rfl) rfl
theorem d_C_fill_44 : decode y_C_fill.2.1 44 = .ok (.iload 4, 2) := op_iload (gk (k := 32) (t := 12) ck_C_fill_1 rfl) (gk (k := 32) (t := 13) ck_C_fill_1 rfl) rfl
theorem d_C_fill_46 : decode y_C_fill.2.1 46 = .ok (.iconst (-1), 1) := op_iconstm1 (gk (k := 32) (t := 14) ck_C_fill_1 rfl)
theorem d_C_fill_60 : decode y_C_fill.2.1 60 = .ok (.iload 4, 2) := op_iload (gk (k := 32) (t := 28) ck_C_fill_1 rfl) (gk (k := 32) (t := 29) ck_C_fill_1 rfl) rfl
theorem d_C_fill_62 : decode y_C_fill.2.1 62 = .ok (.iconst (-1), 1) := op_iconstm1 (gk (k := 32) (t := 30) ck_C_fill_1 rfl)
theorem ck_C_fill_2 : (y_C_fill.2.1.data.toList.drop 64).take 32 = [0, 6, 167, 0, 61, 43, 180, 0, 72, 21, 4, 4, 182, 0, 92, 54, 5, 21, 5, 42, 180, 0, 30, 164, 0, 13, 42, 43, 21, 4, 182, 0] := by decide +kernel
theorem d_C_fill_63 : decode y_C_fill.2.1 63 = .ok (.if_icmp .ne 6, 3) := op_icmp_ne (gk (k := 32) (t := 31) ck_C_fill_1 rfl) (gk (k := 64) (t := 0) ck_C_fill_2 rfl) (gk (k := 64) (t := 1) ck_C_fill_2 rfl) (by decide +kernel)
theorem d_C_fill_69 : decode y_C_fill.2.1 69 = .ok (.aload_n 1, 1) := op_aload_n1 (gk (k := 64) (t := 5) ck_C_fill_2 rfl)
theorem d_C_fill_70 : decode y_C_fill.2.1 70 = .ok (.getfield 72, 3) := op_getfield (gk (k := 64) (t := 6) ck_C_fill_2 rfl) (gk (k := 64) (t := 7) ck_C_fill_2 rfl) (gk (k := 64) (t := 8) ck_C_fill_2 rfl) rfl
theorem d_C_fill_73 : decode y_C_fill.2.1 73 = .ok (.iload 4, 2) := op_iload (gk (k := 64) (t := 9) ck_C_fill_2 rfl) (gk (k := 64) (t := 10) ck_C_fill_2 rfl) rfl
theorem d_C_fill_75 : decode y_C_fill.2.1 75 = .ok (.iconst 1, 1) := op_iconst1 (gk (k := 64) (t := 11) ck_C_fill_2 rfl)
theorem d_C_fill_76 : decode y_C_fill.2.1 76 = .ok (.invokevirtual 92, 3) := op_invokevirtual (gk (k := 64) (t := 12) ck_C_fill_2 rfl) (gk (k := 64) (t := 13) ck_C_fill_2 rfl) (gk (k := 64) (t := 14) ck_C_fill_2 rfl) rfl
theorem d_C_fill_79 : decode y_C_fill.2.1 79 = .ok (.istore 5, 2) := op_istore (gk (k := 64) (t := 15) ck_C_fill_2 rfl) (gk (k := 64) (t := 16) ck_C_fill_2 rfl) rfl
theorem d_C_fill_81 : decode y_C_fill.2.1 81 = .ok (.iload 5, 2) := op_iload (gk (k := 64) (t := 17) ck_C_fill_2 rfl) (gk (k := 64) (t := 18) ck_C_fill_2 rfl) rfl
theorem d_C_fill_83 : decode y_C_fill.2.1 83 = .ok (.aload_n 0, 1) := op_aload_n0 (gk (k := 64) (t := 19) ck_C_fill_2 rfl)
theorem d_C_fill_84 : decode y_C_fill.2.1 84 = .ok (.getfield 30, 3) := op_getfield (gk (k := 64) (t := 20) ck_C_fill_2 rfl) (gk (k := 64) (t := 21) ck_C_fill_2 rfl) (gk (k := 64) (t := 22) ck_C_fill_2 rfl) rfl
theorem ck_C_fill_3 : (y_C_fill.2.1.data.toList.drop 96).take 32 = [96, 167, 0, 24, 42, 21, 4, 21, 5, 43, 180, 0, 72, 21, 4, 6, 182, 0, 92, 4, 182, 0, 100, 4, 61, 132, 3, 1, 167, 255, 162, 42] := by decide +kernel
theorem d_C_fill_121 : decode y_C_fill.2.1 121 = .ok (.iinc 3 1, 3) := op_iinc (gk (k := 96) (t := 25) ck_C_fill_3 rfl) (gk (k := 96) (t := 26) ck_C_fill_3 rfl) (gk (k := 96) (t := 27) ck_C_fill_3 rfl) rfl rfl
theorem d_C_fill_124 : decode y_C_fill.2.1 124 = .ok (.goto (-94), 3) := op_goto (gk (k := 96) (t := 28) ck_C_fill_3 rfl) (gk (k := 96) (t := 29) ck_C_fill_3 rfl) (gk (k := 96) (t := 30) ck_C_fill_3 rfl) (by decide +kernel)
theorem d_C_fill_87 : decode y_C_fill.2.1 87 = .ok (.if_icmp .le 13, 3) := op_icmp_le (gk (k := 64) (t := 23) ck_C_fill_2 rfl) (gk (k := 64) (t := 24) ck_C_fill_2 rfl) (gk (k := 64) (t := 25) ck_C_fill_2 rfl) (by decide +kernel)
theorem d_C_fill_100 : decode y_C_fill.2.1 100 = .ok (.aload_n 0, 1) := op_aload_n0 (gk (k := 96) (t := 4) ck_C_fill_3 rfl)
theorem d_C_fill_101 : decode y_C_fill.2.1 101 = .ok (.iload 4, 2) := op_iload (gk (k := 96) (t := 5) ck_C_fill_3 rfl) (gk (k := 96) (t := 6) ck_C_fill_3 rfl) rfl
theorem d_C_fill_103 : decode y_C_fill.2.1 103 = .ok (.iload 5, 2) := op_iload (gk (k := 96) (t := 7) ck_C_fill_3 rfl) (gk (k := 96) (t := 8) ck_C_fill_3 rfl) rfl
theorem d_C_fill_105 : decode y_C_fill.2.1 105 = .ok (.aload_n 1, 1) := op_aload_n1 (gk (k := 96) (t := 9) ck_C_fill_3 rfl)
theorem d_C_fill_106 : decode y_C_fill.2.1 106 = .ok (.getfield 72, 3) := op_getfield (gk (k := 96) (t := 10) ck_C_fill_3 rfl) (gk (k := 96) (t := 11) ck_C_fill_3 rfl) (gk (k := 96) (t := 12) ck_C_fill_3 rfl) rfl
theorem d_C_fill_109 : decode y_C_fill.2.1 109 = .ok (.iload 4, 2) := op_iload (gk (k := 96) (t := 13) ck_C_fill_3 rfl) (gk (k := 96) (t := 14) ck_C_fill_3 rfl) rfl
theorem d_C_fill_111 : decode y_C_fill.2.1 111 = .ok (.iconst 3, 1) := op_iconst3 (gk (k := 96) (t := 15) ck_C_fill_3 rfl)
theorem d_C_fill_112 : decode y_C_fill.2.1 112 = .ok (.invokevirtual 92, 3) := op_invokevirtual (gk (k := 96) (t := 16) ck_C_fill_3 rfl) (gk (k := 96) (t := 17) ck_C_fill_3 rfl) (gk (k := 96) (t := 18) ck_C_fill_3 rfl) rfl
theorem d_C_fill_115 : decode y_C_fill.2.1 115 = .ok (.iconst 1, 1) := op_iconst1 (gk (k := 96) (t := 19) ck_C_fill_3 rfl)
theorem d_C_fill_116 : decode y_C_fill.2.1 116 = .ok (.invokevirtual 100, 3) := op_invokevirtual (gk (k := 96) (t := 20) ck_C_fill_3 rfl) (gk (k := 96) (t := 21) ck_C_fill_3 rfl) (gk (k := 96) (t := 22) ck_C_fill_3 rfl) rfl
theorem d_C_fill_119 : decode y_C_fill.2.1 119 = .ok (.iconst 1, 1) := op_iconst1 (gk (k := 96) (t := 23) ck_C_fill_3 rfl)
theorem d_C_fill_120 : decode y_C_fill.2.1 120 = .ok (.istore_n 2, 1) := op_istore_n2 (gk (k := 96) (t := 24) ck_C_fill_3 rfl)
theorem d_C_fill_90 : decode y_C_fill.2.1 90 = .ok (.aload_n 0, 1) := op_aload_n0 (gk (k := 64) (t := 26) ck_C_fill_2 rfl)
theorem d_C_fill_91 : decode y_C_fill.2.1 91 = .ok (.aload_n 1, 1) := op_aload_n1 (gk (k := 64) (t := 27) ck_C_fill_2 rfl)
theorem d_C_fill_92 : decode y_C_fill.2.1 92 = .ok (.iload 4, 2) := op_iload (gk (k := 64) (t := 28) ck_C_fill_2 rfl) (gk (k := 64) (t := 29) ck_C_fill_2 rfl) rfl
theorem lk_C_96 : LkV "SinglesUp$Chair" 96 y_C_findOut := ⟨tw_c4 88 (by decide +kernel) rfl, tw_in 26 (by decide +kernel) rfl, Or.inl (tw_c4 86 (by decide +kernel) rfl)⟩
set_option maxRecDepth 100000 in
theorem mo_C_findOut : MOk y_C_findOut 2 := ⟨by decide +kernel, tw_c4 89 rfl rfl, tw_c1 7 (by decide +kernel) rfl, by decide +kernel, by decide +kernel, by decide +kernel⟩
theorem d_C_fill_94 : decode y_C_fill.2.1 94 = .ok (.invokevirtual 96, 3) := op_invokevirtual (gk (k := 64) (t := 30) ck_C_fill_2 rfl) (gk (k := 64) (t := 31) ck_C_fill_2 rfl) (gk (k := 96) (t := 0) ck_C_fill_3 rfl) rfl
theorem d_C_fill_97 : decode y_C_fill.2.1 97 = .ok (.goto 24, 3) := op_goto (gk (k := 96) (t := 1) ck_C_fill_3 rfl) (gk (k := 96) (t := 2) ck_C_fill_3 rfl) (gk (k := 96) (t := 3) ck_C_fill_3 rfl) (by decide +kernel)
theorem d_C_fill_47 : decode y_C_fill.2.1 47 = .ok (.if_icmp .ne 13, 3) := op_icmp_ne (gk (k := 32) (t := 15) ck_C_fill_1 rfl) (gk (k := 32) (t := 16) ck_C_fill_1 rfl) (gk (k := 32) (t := 17) ck_C_fill_1 rfl) (by decide +kernel)
theorem d_C_fill_50 : decode y_C_fill.2.1 50 = .ok (.aload_n 0, 1) := op_aload_n0 (gk (k := 32) (t := 18) ck_C_fill_1 rfl)
theorem d_C_fill_51 : decode y_C_fill.2.1 51 = .ok (.aload_n 1, 1) := op_aload_n1 (gk (k := 32) (t := 19) ck_C_fill_1 rfl)
theorem d_C_fill_52 : decode y_C_fill.2.1 52 = .ok (.iload_n 2, 1) := op_iload_n2 (gk (k := 32) (t := 20) ck_C_fill_1 rfl)
theorem lk_C_88 : LkV "SinglesUp$Chair" 88 y_C_worthiest := ⟨tw_c4 81 (by decide +kernel) rfl, tw_in 25 (by decide +kernel) rfl, Or.inl (tw_c4 79 (by decide +kernel) rfl)⟩
set_option maxRecDepth 100000 in
theorem mo_C_worthiest : MOk y_C_worthiest 2 := ⟨by decide +kernel, tw_c4 82 rfl rfl, tw_c1 7 (by decide +kernel) rfl, by decide +kernel, by decide +kernel, by decide +kernel⟩
theorem d_C_fill_53 : decode y_C_fill.2.1 53 = .ok (.invokevirtual 88, 3) := op_invokevirtual (gk (k := 32) (t := 21) ck_C_fill_1 rfl) (gk (k := 32) (t := 22) ck_C_fill_1 rfl) (gk (k := 32) (t := 23) ck_C_fill_1 rfl) rfl
theorem d_C_fill_56 : decode y_C_fill.2.1 56 = .ok (.istore 4, 2) := op_istore (gk (k := 32) (t := 24) ck_C_fill_1 rfl) (gk (k := 32) (t := 25) ck_C_fill_1 rfl) rfl
theorem d_C_fill_58 : decode y_C_fill.2.1 58 = .ok (.iconst 0, 1) := op_iconst0 (gk (k := 32) (t := 26) ck_C_fill_1 rfl)
theorem d_C_fill_59 : decode y_C_fill.2.1 59 = .ok (.istore_n 2, 1) := op_istore_n2 (gk (k := 32) (t := 27) ck_C_fill_1 rfl)
theorem d_C_fill_66 : decode y_C_fill.2.1 66 = .ok (.goto 61, 3) := op_goto (gk (k := 64) (t := 2) ck_C_fill_2 rfl) (gk (k := 64) (t := 3) ck_C_fill_2 rfl) (gk (k := 64) (t := 4) ck_C_fill_2 rfl) (by decide +kernel)
theorem d_C_fill_127 : decode y_C_fill.2.1 127 = .ok (.aload_n 0, 1) := op_aload_n0 (gk (k := 96) (t := 31) ck_C_fill_3 rfl)
theorem ck_C_fill_4 : (y_C_fill.2.1.data.toList.drop 128).take 32 = [43, 182, 0, 104, 177] := by decide +kernel
theorem d_C_fill_128 : decode y_C_fill.2.1 128 = .ok (.aload_n 1, 1) := op_aload_n1 (gk (k := 128) (t := 0) ck_C_fill_4 rfl)
theorem lk_C_104 : LkV "SinglesUp$Chair" 104 y_C_partOne := ⟨tw_c4 93 (by decide +kernel) rfl, tw_in 27 (by decide +kernel) rfl, Or.inl (tw_c4 91 (by decide +kernel) rfl)⟩
set_option maxRecDepth 100000 in
theorem mo_C_partOne : MOk y_C_partOne 1 := ⟨by decide +kernel, tw_c4 94 rfl rfl, tw_c1 7 (by decide +kernel) rfl, by decide +kernel, by decide +kernel, by decide +kernel⟩
theorem d_C_fill_129 : decode y_C_fill.2.1 129 = .ok (.invokevirtual 104, 3) := op_invokevirtual (gk (k := 128) (t := 1) ck_C_fill_4 rfl) (gk (k := 128) (t := 2) ck_C_fill_4 rfl) (gk (k := 128) (t := 3) ck_C_fill_4 rfl) rfl
theorem d_C_fill_132 : decode y_C_fill.2.1 132 = .ok (.return_, 1) := op_return_ (gk (k := 128) (t := 4) ck_C_fill_4 rfl)
abbrev y_C_ride : MI := (⟨"SinglesUp$Chair", "ride", "(LSinglesUp$Hill;)I"⟩, prog_2_method_4_code, 2, some .int)
theorem ck_C_ride_0 : (y_C_ride.2.1.data.toList.drop 0).take 32 = [42, 43, 182, 0, 58, 42, 43, 182, 0, 61, 172] := by decide +kernel
theorem d_C_ride_0 : decode y_C_ride.2.1 0 = .ok (.aload_n 0, 1) := op_aload_n0 (gk (k := 0) (t := 0) ck_C_ride_0 rfl)
theorem d_C_ride_1 : decode y_C_ride.2.1 1 = .ok (.aload_n 1, 1) := op_aload_n1 (gk (k := 0) (t := 1) ck_C_ride_0 rfl)
theorem lk_C_58 : LkV "SinglesUp$Chair" 58 y_C_fill := ⟨tw_c4 63 (by decide +kernel) rfl, tw_c4 64 (by decide +kernel) rfl, Or.inl (tw_c4 62 (by decide +kernel) rfl)⟩
set_option maxRecDepth 100000 in
theorem mo_C_fill : MOk y_C_fill 1 := ⟨by decide +kernel, tw_c4 65 rfl rfl, tw_c1 7 (by decide +kernel) rfl, by decide +kernel, by decide +kernel, by decide +kernel⟩
theorem d_C_ride_2 : decode y_C_ride.2.1 2 = .ok (.invokevirtual 58, 3) := op_invokevirtual (gk (k := 0) (t := 2) ck_C_ride_0 rfl) (gk (k := 0) (t := 3) ck_C_ride_0 rfl) (gk (k := 0) (t := 4) ck_C_ride_0 rfl) rfl
theorem d_C_ride_5 : decode y_C_ride.2.1 5 = .ok (.aload_n 0, 1) := op_aload_n0 (gk (k := 0) (t := 5) ck_C_ride_0 rfl)
theorem d_C_ride_6 : decode y_C_ride.2.1 6 = .ok (.aload_n 1, 1) := op_aload_n1 (gk (k := 0) (t := 6) ck_C_ride_0 rfl)
theorem lk_C_61 : LkV "SinglesUp$Chair" 61 y_C_leave := ⟨tw_c4 13 (by decide +kernel) rfl, tw_c4 14 (by decide +kernel) rfl, Or.inl (tw_c4 105 (by decide +kernel) rfl)⟩
theorem d_C_ride_7 : decode y_C_ride.2.1 7 = .ok (.invokevirtual 61, 3) := op_invokevirtual (gk (k := 0) (t := 7) ck_C_ride_0 rfl) (gk (k := 0) (t := 8) ck_C_ride_0 rfl) (gk (k := 0) (t := 9) ck_C_ride_0 rfl) rfl
theorem d_C_ride_10 : decode y_C_ride.2.1 10 = .ok (.ireturn, 1) := op_ireturn (gk (k := 0) (t := 10) ck_C_ride_0 rfl)
abbrev y_S_chair : MI := (⟨"SinglesUp", "chair", "()I"⟩, prog_1_method_16_code, 1, some .int)
theorem ck_S_chair_0 : (y_S_chair.2.1.data.toList.drop 0).take 32 = [42, 182, 0, 181, 42, 180, 0, 29, 42, 180, 0, 12, 182, 0, 184, 172] := by decide +kernel
theorem d_S_chair_0 : decode y_S_chair.2.1 0 = .ok (.aload_n 0, 1) := op_aload_n0 (gk (k := 0) (t := 0) ck_S_chair_0 rfl)
theorem d_S_chair_1 : decode y_S_chair.2.1 1 = .ok (.invokevirtual 181, 3) := op_invokevirtual (gk (k := 0) (t := 1) ck_S_chair_0 rfl) (gk (k := 0) (t := 2) ck_S_chair_0 rfl) (gk (k := 0) (t := 3) ck_S_chair_0 rfl) rfl
theorem d_S_chair_4 : decode y_S_chair.2.1 4 = .ok (.aload_n 0, 1) := op_aload_n0 (gk (k := 0) (t := 4) ck_S_chair_0 rfl)
theorem fl_S_29 : FL "SinglesUp" 29 8 3 := ⟨"SinglesUp", zT8, 9, rfl, by decide, rfl, Or.inl (tw_c2 95 (by decide +kernel) rfl)⟩
theorem rc_8_3 : ∀ o, KC[o]? = some (11, 9) → RC o 3 = some (o + 130) ∧ KC[o + 130]? = some (3, 12) := by
  intro o h
  have hl : o < 166 := (List.getElem?_eq_some_iff.mp h).1
  exact (by decide +kernel : ∀ o, o < 166 → KC[o]? = some (11, 9) → RC o 3 = some (o + 130) ∧ KC[o + 130]? = some (3, 12)) o hl h
theorem d_S_chair_5 : decode y_S_chair.2.1 5 = .ok (.getfield 29, 3) := op_getfield (gk (k := 0) (t := 5) ck_S_chair_0 rfl) (gk (k := 0) (t := 6) ck_S_chair_0 rfl) (gk (k := 0) (t := 7) ck_S_chair_0 rfl) rfl
theorem d_S_chair_8 : decode y_S_chair.2.1 8 = .ok (.aload_n 0, 1) := op_aload_n0 (gk (k := 0) (t := 8) ck_S_chair_0 rfl)
theorem d_S_chair_9 : decode y_S_chair.2.1 9 = .ok (.getfield 12, 3) := op_getfield (gk (k := 0) (t := 9) ck_S_chair_0 rfl) (gk (k := 0) (t := 10) ck_S_chair_0 rfl) (gk (k := 0) (t := 11) ck_S_chair_0 rfl) rfl
theorem lk_S_184 : LkV "SinglesUp" 184 y_C_ride := ⟨tw_c4 59 (by decide +kernel) rfl, tw_c4 60 (by decide +kernel) rfl, Or.inl (tw_c4 58 (by decide +kernel) rfl)⟩
set_option maxRecDepth 100000 in
theorem mo_C_ride : MOk y_C_ride 1 := ⟨by decide +kernel, tw_c4 61 rfl rfl, tw_c1 7 (by decide +kernel) rfl, by decide +kernel, by decide +kernel, by decide +kernel⟩
theorem d_S_chair_12 : decode y_S_chair.2.1 12 = .ok (.invokevirtual 184, 3) := op_invokevirtual (gk (k := 0) (t := 12) ck_S_chair_0 rfl) (gk (k := 0) (t := 13) ck_S_chair_0 rfl) (gk (k := 0) (t := 14) ck_S_chair_0 rfl) rfl
theorem d_S_chair_15 : decode y_S_chair.2.1 15 = .ok (.ireturn, 1) := op_ireturn (gk (k := 0) (t := 15) ck_S_chair_0 rfl)
abbrev y_H_letComersEnter : MI := (⟨"SinglesUp$Hill", "letComersEnter", "()V"⟩, prog_4_method_5_code, 3, none)
theorem ck_H_letComersEnter_0 : (y_H_letComersEnter.2.1.data.toList.drop 0).take 32 = [3, 60, 27, 6, 96, 42, 180, 0, 24, 190, 162, 0, 60, 42, 180, 0, 24, 27, 6, 96, 46, 61, 28, 158, 0, 41, 42, 17, 3, 232, 182, 0] := by decide +kernel
theorem d_H_letComersEnter_0 : decode y_H_letComersEnter.2.1 0 = .ok (.iconst 0, 1) := op_iconst0 (gk (k := 0) (t := 0) ck_H_letComersEnter_0 rfl)
theorem d_H_letComersEnter_1 : decode y_H_letComersEnter.2.1 1 = .ok (.istore_n 1, 1) := op_istore_n1 (gk (k := 0) (t := 1) ck_H_letComersEnter_0 rfl)
theorem d_H_letComersEnter_2 : decode y_H_letComersEnter.2.1 2 = .ok (.iload_n 1, 1) := op_iload_n1 (gk (k := 0) (t := 2) ck_H_letComersEnter_0 rfl)
theorem d_H_letComersEnter_3 : decode y_H_letComersEnter.2.1 3 = .ok (.iconst 3, 1) := op_iconst3 (gk (k := 0) (t := 3) ck_H_letComersEnter_0 rfl)
theorem d_H_letComersEnter_4 : decode y_H_letComersEnter.2.1 4 = .ok (.iadd, 1) := op_iadd (gk (k := 0) (t := 4) ck_H_letComersEnter_0 rfl)
theorem d_H_letComersEnter_5 : decode y_H_letComersEnter.2.1 5 = .ok (.aload_n 0, 1) := op_aload_n0 (gk (k := 0) (t := 5) ck_H_letComersEnter_0 rfl)
theorem d_H_letComersEnter_6 : decode y_H_letComersEnter.2.1 6 = .ok (.getfield 24, 3) := op_getfield (gk (k := 0) (t := 6) ck_H_letComersEnter_0 rfl) (gk (k := 0) (t := 7) ck_H_letComersEnter_0 rfl) (gk (k := 0) (t := 8) ck_H_letComersEnter_0 rfl) rfl
theorem d_H_letComersEnter_9 : decode y_H_letComersEnter.2.1 9 = .ok (.arraylength, 1) := op_arraylength (gk (k := 0) (t := 9) ck_H_letComersEnter_0 rfl)
theorem d_H_letComersEnter_10 : decode y_H_letComersEnter.2.1 10 = .ok (.if_icmp .ge 60, 3) := op_icmp_ge (gk (k := 0) (t := 10) ck_H_letComersEnter_0 rfl) (gk (k := 0) (t := 11) ck_H_letComersEnter_0 rfl) (gk (k := 0) (t := 12) ck_H_letComersEnter_0 rfl) (by decide +kernel)
theorem ck_H_letComersEnter_2 : (y_H_letComersEnter.2.1.data.toList.drop 64).take 32 = [132, 1, 4, 167, 255, 191, 177] := by decide +kernel
theorem d_H_letComersEnter_70 : decode y_H_letComersEnter.2.1 70 = .ok (.return_, 1) := op_return_ (gk (k := 64) (t := 6) ck_H_letComersEnter_2 rfl)
theorem d_H_letComersEnter_13 : decode y_H_letComersEnter.2.1 13 = .ok (.aload_n 0, 1) := op_aload_n0 (gk (k := 0) (t := 13) ck_H_letComersEnter_0 rfl)
theorem d_H_letComersEnter_14 : decode y_H_letComersEnter.2.1 14 = .ok (.getfield 24, 3) := op_getfield (gk (k := 0) (t := 14) ck_H_letComersEnter_0 rfl) (gk (k := 0) (t := 15) ck_H_letComersEnter_0 rfl) (gk (k := 0) (t := 16) ck_H_letComersEnter_0 rfl) rfl
theorem d_H_letComersEnter_17 : decode y_H_letComersEnter.2.1 17 = .ok (.iload_n 1, 1) := op_iload_n1 (gk (k := 0) (t := 17) ck_H_letComersEnter_0 rfl)
theorem d_H_letComersEnter_18 : decode y_H_letComersEnter.2.1 18 = .ok (.iconst 3, 1) := op_iconst3 (gk (k := 0) (t := 18) ck_H_letComersEnter_0 rfl)
theorem d_H_letComersEnter_19 : decode y_H_letComersEnter.2.1 19 = .ok (.iadd, 1) := op_iadd (gk (k := 0) (t := 19) ck_H_letComersEnter_0 rfl)
theorem d_H_letComersEnter_20 : decode y_H_letComersEnter.2.1 20 = .ok (.iaload, 1) := op_iaload (gk (k := 0) (t := 20) ck_H_letComersEnter_0 rfl)
theorem d_H_letComersEnter_21 : decode y_H_letComersEnter.2.1 21 = .ok (.istore_n 2, 1) := op_istore_n2 (gk (k := 0) (t := 21) ck_H_letComersEnter_0 rfl)
theorem d_H_letComersEnter_22 : decode y_H_letComersEnter.2.1 22 = .ok (.iload_n 2, 1) := op_iload_n2 (gk (k := 0) (t := 22) ck_H_letComersEnter_0 rfl)
theorem d_H_letComersEnter_64 : decode y_H_letComersEnter.2.1 64 = .ok (.iinc 1 4, 3) := op_iinc (gk (k := 64) (t := 0) ck_H_letComersEnter_2 rfl) (gk (k := 64) (t := 1) ck_H_letComersEnter_2 rfl) (gk (k := 64) (t := 2) ck_H_letComersEnter_2 rfl) rfl rfl
theorem d_H_letComersEnter_67 : decode y_H_letComersEnter.2.1 67 = .ok (.goto (-65), 3) := op_goto (gk (k := 64) (t := 3) ck_H_letComersEnter_2 rfl) (gk (k := 64) (t := 4) ck_H_letComersEnter_2 rfl) (gk (k := 64) (t := 5) ck_H_letComersEnter_2 rfl) (by decide +kernel)
theorem d_H_letComersEnter_23 : decode y_H_letComersEnter.2.1 23 = .ok (.ifCond .le 41, 3) := op_if_le (gk (k := 0) (t := 23) ck_H_letComersEnter_0 rfl) (gk (k := 0) (t := 24) ck_H_letComersEnter_0 rfl) (gk (k := 0) (t := 25) ck_H_letComersEnter_0 rfl) (by decide +kernel)
theorem d_H_letComersEnter_26 : decode y_H_letComersEnter.2.1 26 = .ok (.aload_n 0, 1) := op_aload_n0 (gk (k := 0) (t := 26) ck_H_letComersEnter_0 rfl)
theorem d_H_letComersEnter_27 : decode y_H_letComersEnter.2.1 27 = .ok (.sipush 1000, 3) := op_sipush (gk (k := 0) (t := 27) ck_H_letComersEnter_0 rfl) (gk (k := 0) (t := 28) ck_H_letComersEnter_0 rfl) (gk (k := 0) (t := 29) ck_H_letComersEnter_0 rfl) (by decide +kernel)
theorem ck_H_letComersEnter_1 : (y_H_letComersEnter.2.1.data.toList.drop 32).take 32 = [78, 28, 162, 0, 30, 42, 42, 180, 0, 24, 27, 46, 42, 180, 0, 24, 27, 4, 96, 46, 42, 180, 0, 24, 27, 5, 96, 46, 182, 0, 82, 87] := by decide +kernel
theorem d_H_letComersEnter_30 : decode y_H_letComersEnter.2.1 30 = .ok (.invokevirtual 78, 3) := op_invokevirtual (gk (k := 0) (t := 30) ck_H_letComersEnter_0 rfl) (gk (k := 0) (t := 31) ck_H_letComersEnter_0 rfl) (gk (k := 32) (t := 0) ck_H_letComersEnter_1 rfl) rfl
theorem d_H_letComersEnter_33 : decode y_H_letComersEnter.2.1 33 = .ok (.iload_n 2, 1) := op_iload_n2 (gk (k := 32) (t := 1) ck_H_letComersEnter_1 rfl)
theorem d_H_letComersEnter_34 : decode y_H_letComersEnter.2.1 34 = .ok (.if_icmp .ge 30, 3) := op_icmp_ge (gk (k := 32) (t := 2) ck_H_letComersEnter_1 rfl) (gk (k := 32) (t := 3) ck_H_letComersEnter_1 rfl) (gk (k := 32) (t := 4) ck_H_letComersEnter_1 rfl) (by decide +kernel)
theorem d_H_letComersEnter_37 : decode y_H_letComersEnter.2.1 37 = .ok (.aload_n 0, 1) := op_aload_n0 (gk (k := 32) (t := 5) ck_H_letComersEnter_1 rfl)
theorem d_H_letComersEnter_38 : decode y_H_letComersEnter.2.1 38 = .ok (.aload_n 0, 1) := op_aload_n0 (gk (k := 32) (t := 6) ck_H_letComersEnter_1 rfl)
theorem d_H_letComersEnter_39 : decode y_H_letComersEnter.2.1 39 = .ok (.getfield 24, 3) := op_getfield (gk (k := 32) (t := 7) ck_H_letComersEnter_1 rfl) (gk (k := 32) (t := 8) ck_H_letComersEnter_1 rfl) (gk (k := 32) (t := 9) ck_H_letComersEnter_1 rfl) rfl
theorem d_H_letComersEnter_42 : decode y_H_letComersEnter.2.1 42 = .ok (.iload_n 1, 1) := op_iload_n1 (gk (k := 32) (t := 10) ck_H_letComersEnter_1 rfl)
theorem d_H_letComersEnter_43 : decode y_H_letComersEnter.2.1 43 = .ok (.iaload, 1) := op_iaload (gk (k := 32) (t := 11) ck_H_letComersEnter_1 rfl)
theorem d_H_letComersEnter_44 : decode y_H_letComersEnter.2.1 44 = .ok (.aload_n 0, 1) := op_aload_n0 (gk (k := 32) (t := 12) ck_H_letComersEnter_1 rfl)
theorem d_H_letComersEnter_45 : decode y_H_letComersEnter.2.1 45 = .ok (.getfield 24, 3) := op_getfield (gk (k := 32) (t := 13) ck_H_letComersEnter_1 rfl) (gk (k := 32) (t := 14) ck_H_letComersEnter_1 rfl) (gk (k := 32) (t := 15) ck_H_letComersEnter_1 rfl) rfl
theorem d_H_letComersEnter_48 : decode y_H_letComersEnter.2.1 48 = .ok (.iload_n 1, 1) := op_iload_n1 (gk (k := 32) (t := 16) ck_H_letComersEnter_1 rfl)
theorem d_H_letComersEnter_49 : decode y_H_letComersEnter.2.1 49 = .ok (.iconst 1, 1) := op_iconst1 (gk (k := 32) (t := 17) ck_H_letComersEnter_1 rfl)
theorem d_H_letComersEnter_50 : decode y_H_letComersEnter.2.1 50 = .ok (.iadd, 1) := op_iadd (gk (k := 32) (t := 18) ck_H_letComersEnter_1 rfl)
theorem d_H_letComersEnter_51 : decode y_H_letComersEnter.2.1 51 = .ok (.iaload, 1) := op_iaload (gk (k := 32) (t := 19) ck_H_letComersEnter_1 rfl)
theorem d_H_letComersEnter_52 : decode y_H_letComersEnter.2.1 52 = .ok (.aload_n 0, 1) := op_aload_n0 (gk (k := 32) (t := 20) ck_H_letComersEnter_1 rfl)
theorem d_H_letComersEnter_53 : decode y_H_letComersEnter.2.1 53 = .ok (.getfield 24, 3) := op_getfield (gk (k := 32) (t := 21) ck_H_letComersEnter_1 rfl) (gk (k := 32) (t := 22) ck_H_letComersEnter_1 rfl) (gk (k := 32) (t := 23) ck_H_letComersEnter_1 rfl) rfl
theorem d_H_letComersEnter_56 : decode y_H_letComersEnter.2.1 56 = .ok (.iload_n 1, 1) := op_iload_n1 (gk (k := 32) (t := 24) ck_H_letComersEnter_1 rfl)
theorem d_H_letComersEnter_57 : decode y_H_letComersEnter.2.1 57 = .ok (.iconst 2, 1) := op_iconst2 (gk (k := 32) (t := 25) ck_H_letComersEnter_1 rfl)
theorem d_H_letComersEnter_58 : decode y_H_letComersEnter.2.1 58 = .ok (.iadd, 1) := op_iadd (gk (k := 32) (t := 26) ck_H_letComersEnter_1 rfl)
theorem d_H_letComersEnter_59 : decode y_H_letComersEnter.2.1 59 = .ok (.iaload, 1) := op_iaload (gk (k := 32) (t := 27) ck_H_letComersEnter_1 rfl)
theorem lk_H_82 : LkV "SinglesUp$Hill" 82 y_H_enter := ⟨tw_c3 162 (by decide +kernel) rfl, tw_c3 163 (by decide +kernel) rfl, Or.inl (tw_c4 118 (by decide +kernel) rfl)⟩
theorem d_H_letComersEnter_60 : decode y_H_letComersEnter.2.1 60 = .ok (.invokevirtual 82, 3) := op_invokevirtual (gk (k := 32) (t := 28) ck_H_letComersEnter_1 rfl) (gk (k := 32) (t := 29) ck_H_letComersEnter_1 rfl) (gk (k := 32) (t := 30) ck_H_letComersEnter_1 rfl) rfl
theorem d_H_letComersEnter_63 : decode y_H_letComersEnter.2.1 63 = .ok (.pop, 1) := op_pop (gk (k := 32) (t := 31) ck_H_letComersEnter_1 rfl)
abbrev y_C_turns : MI := (⟨"SinglesUp$Chair", "turns", "(LSinglesUp$Hill;I)I"⟩, prog_2_method_3_code, 5, some .int)
theorem ck_C_turns_0 : (y_C_turns.2.1.data.toList.drop 0).take 32 = [3, 62, 3, 54, 4, 21, 4, 28, 162, 0, 26, 43, 182, 0, 53, 42, 43, 182, 0, 58, 29, 42, 43, 182, 0, 61, 96, 62, 132, 4, 1, 167] := by decide +kernel
theorem d_C_turns_0 : decode y_C_turns.2.1 0 = .ok (.iconst 0, 1) := op_iconst0 (gk (k := 0) (t := 0) ck_C_turns_0 rfl)
theorem d_C_turns_1 : decode y_C_turns.2.1 1 = .ok (.istore_n 3, 1) := op_istore_n3 (gk (k := 0) (t := 1) ck_C_turns_0 rfl)
theorem d_C_turns_2 : decode y_C_turns.2.1 2 = .ok (.iconst 0, 1) := op_iconst0 (gk (k := 0) (t := 2) ck_C_turns_0 rfl)
theorem d_C_turns_3 : decode y_C_turns.2.1 3 = .ok (.istore 4, 2) := op_istore (gk (k := 0) (t := 3) ck_C_turns_0 rfl) (gk (k := 0) (t := 4) ck_C_turns_0 rfl) rfl
theorem d_C_turns_5 : decode y_C_turns.2.1 5 = .ok (.iload 4, 2) := op_iload (gk (k := 0) (t := 5) ck_C_turns_0 rfl) (gk (k := 0) (t := 6) ck_C_turns_0 rfl) rfl
theorem d_C_turns_7 : decode y_C_turns.2.1 7 = .ok (.iload_n 2, 1) := op_iload_n2 (gk (k := 0) (t := 7) ck_C_turns_0 rfl)
theorem d_C_turns_8 : decode y_C_turns.2.1 8 = .ok (.if_icmp .ge 26, 3) := op_icmp_ge (gk (k := 0) (t := 8) ck_C_turns_0 rfl) (gk (k := 0) (t := 9) ck_C_turns_0 rfl) (gk (k := 0) (t := 10) ck_C_turns_0 rfl) (by decide +kernel)
theorem ck_C_turns_1 : (y_C_turns.2.1.data.toList.drop 32).take 32 = [255, 230, 29, 172] := by decide +kernel
theorem d_C_turns_34 : decode y_C_turns.2.1 34 = .ok (.iload_n 3, 1) := op_iload_n3 (gk (k := 32) (t := 2) ck_C_turns_1 rfl)
theorem d_C_turns_35 : decode y_C_turns.2.1 35 = .ok (.ireturn, 1) := op_ireturn (gk (k := 32) (t := 3) ck_C_turns_1 rfl)
theorem d_C_turns_11 : decode y_C_turns.2.1 11 = .ok (.aload_n 1, 1) := op_aload_n1 (gk (k := 0) (t := 11) ck_C_turns_0 rfl)
theorem lk_C_53 : LkV "SinglesUp$Chair" 53 y_H_letComersEnter := ⟨tw_c4 115 (by decide +kernel) rfl, tw_c4 116 (by decide +kernel) rfl, Or.inl (tw_c4 114 (by decide +kernel) rfl)⟩
set_option maxRecDepth 100000 in
theorem mo_H_letComersEnter : MOk y_H_letComersEnter 0 := ⟨by decide +kernel, tw_c4 117 rfl rfl, tw_c1 2 (by decide +kernel) rfl, by decide +kernel, by decide +kernel, by decide +kernel⟩
theorem d_C_turns_12 : decode y_C_turns.2.1 12 = .ok (.invokevirtual 53, 3) := op_invokevirtual (gk (k := 0) (t := 12) ck_C_turns_0 rfl) (gk (k := 0) (t := 13) ck_C_turns_0 rfl) (gk (k := 0) (t := 14) ck_C_turns_0 rfl) rfl
theorem d_C_turns_15 : decode y_C_turns.2.1 15 = .ok (.aload_n 0, 1) := op_aload_n0 (gk (k := 0) (t := 15) ck_C_turns_0 rfl)
theorem d_C_turns_16 : decode y_C_turns.2.1 16 = .ok (.aload_n 1, 1) := op_aload_n1 (gk (k := 0) (t := 16) ck_C_turns_0 rfl)
theorem d_C_turns_17 : decode y_C_turns.2.1 17 = .ok (.invokevirtual 58, 3) := op_invokevirtual (gk (k := 0) (t := 17) ck_C_turns_0 rfl) (gk (k := 0) (t := 18) ck_C_turns_0 rfl) (gk (k := 0) (t := 19) ck_C_turns_0 rfl) rfl
theorem d_C_turns_20 : decode y_C_turns.2.1 20 = .ok (.iload_n 3, 1) := op_iload_n3 (gk (k := 0) (t := 20) ck_C_turns_0 rfl)
theorem d_C_turns_21 : decode y_C_turns.2.1 21 = .ok (.aload_n 0, 1) := op_aload_n0 (gk (k := 0) (t := 21) ck_C_turns_0 rfl)
theorem d_C_turns_22 : decode y_C_turns.2.1 22 = .ok (.aload_n 1, 1) := op_aload_n1 (gk (k := 0) (t := 22) ck_C_turns_0 rfl)
theorem d_C_turns_23 : decode y_C_turns.2.1 23 = .ok (.invokevirtual 61, 3) := op_invokevirtual (gk (k := 0) (t := 23) ck_C_turns_0 rfl) (gk (k := 0) (t := 24) ck_C_turns_0 rfl) (gk (k := 0) (t := 25) ck_C_turns_0 rfl) rfl
theorem d_C_turns_26 : decode y_C_turns.2.1 26 = .ok (.iadd, 1) := op_iadd (gk (k := 0) (t := 26) ck_C_turns_0 rfl)
theorem d_C_turns_27 : decode y_C_turns.2.1 27 = .ok (.istore_n 3, 1) := op_istore_n3 (gk (k := 0) (t := 27) ck_C_turns_0 rfl)
theorem d_C_turns_28 : decode y_C_turns.2.1 28 = .ok (.iinc 4 1, 3) := op_iinc (gk (k := 0) (t := 28) ck_C_turns_0 rfl) (gk (k := 0) (t := 29) ck_C_turns_0 rfl) (gk (k := 0) (t := 30) ck_C_turns_0 rfl) rfl rfl
theorem d_C_turns_31 : decode y_C_turns.2.1 31 = .ok (.goto (-26), 3) := op_goto (gk (k := 0) (t := 31) ck_C_turns_0 rfl) (gk (k := 32) (t := 0) ck_C_turns_1 rfl) (gk (k := 32) (t := 1) ck_C_turns_1 rfl) (by decide +kernel)
abbrev y_S_run : MI := (⟨"SinglesUp", "run", "(I)I"⟩, prog_1_method_17_code, 2, some .int)
theorem ck_S_run_0 : (y_S_run.2.1.data.toList.drop 0).take 32 = [27, 4, 161, 0, 9, 27, 16, 60, 164, 0, 5, 2, 172, 42, 182, 0, 181, 42, 180, 0, 29, 42, 180, 0, 12, 27, 182, 0, 187, 172] := by decide +kernel
theorem d_S_run_0 : decode y_S_run.2.1 0 = .ok (.iload_n 1, 1) := op_iload_n1 (gk (k := 0) (t := 0) ck_S_run_0 rfl)
theorem d_S_run_1 : decode y_S_run.2.1 1 = .ok (.iconst 1, 1) := op_iconst1 (gk (k := 0) (t := 1) ck_S_run_0 rfl)
theorem d_S_run_2 : decode y_S_run.2.1 2 = .ok (.if_icmp .lt 9, 3) := op_icmp_lt (gk (k := 0) (t := 2) ck_S_run_0 rfl) (gk (k := 0) (t := 3) ck_S_run_0 rfl) (gk (k := 0) (t := 4) ck_S_run_0 rfl) (by decide +kernel)
theorem d_S_run_11 : decode y_S_run.2.1 11 = .ok (.iconst (-1), 1) := op_iconstm1 (gk (k := 0) (t := 11) ck_S_run_0 rfl)
theorem d_S_run_12 : decode y_S_run.2.1 12 = .ok (.ireturn, 1) := op_ireturn (gk (k := 0) (t := 12) ck_S_run_0 rfl)
theorem d_S_run_5 : decode y_S_run.2.1 5 = .ok (.iload_n 1, 1) := op_iload_n1 (gk (k := 0) (t := 5) ck_S_run_0 rfl)
theorem d_S_run_6 : decode y_S_run.2.1 6 = .ok (.bipush 60, 2) := op_bipush (gk (k := 0) (t := 6) ck_S_run_0 rfl) (gk (k := 0) (t := 7) ck_S_run_0 rfl) rfl
theorem d_S_run_8 : decode y_S_run.2.1 8 = .ok (.if_icmp .le 5, 3) := op_icmp_le (gk (k := 0) (t := 8) ck_S_run_0 rfl) (gk (k := 0) (t := 9) ck_S_run_0 rfl) (gk (k := 0) (t := 10) ck_S_run_0 rfl) (by decide +kernel)
theorem d_S_run_13 : decode y_S_run.2.1 13 = .ok (.aload_n 0, 1) := op_aload_n0 (gk (k := 0) (t := 13) ck_S_run_0 rfl)
theorem d_S_run_14 : decode y_S_run.2.1 14 = .ok (.invokevirtual 181, 3) := op_invokevirtual (gk (k := 0) (t := 14) ck_S_run_0 rfl) (gk (k := 0) (t := 15) ck_S_run_0 rfl) (gk (k := 0) (t := 16) ck_S_run_0 rfl) rfl
theorem d_S_run_17 : decode y_S_run.2.1 17 = .ok (.aload_n 0, 1) := op_aload_n0 (gk (k := 0) (t := 17) ck_S_run_0 rfl)
theorem d_S_run_18 : decode y_S_run.2.1 18 = .ok (.getfield 29, 3) := op_getfield (gk (k := 0) (t := 18) ck_S_run_0 rfl) (gk (k := 0) (t := 19) ck_S_run_0 rfl) (gk (k := 0) (t := 20) ck_S_run_0 rfl) rfl
theorem d_S_run_21 : decode y_S_run.2.1 21 = .ok (.aload_n 0, 1) := op_aload_n0 (gk (k := 0) (t := 21) ck_S_run_0 rfl)
theorem d_S_run_22 : decode y_S_run.2.1 22 = .ok (.getfield 12, 3) := op_getfield (gk (k := 0) (t := 22) ck_S_run_0 rfl) (gk (k := 0) (t := 23) ck_S_run_0 rfl) (gk (k := 0) (t := 24) ck_S_run_0 rfl) rfl
theorem d_S_run_25 : decode y_S_run.2.1 25 = .ok (.iload_n 1, 1) := op_iload_n1 (gk (k := 0) (t := 25) ck_S_run_0 rfl)
theorem lk_S_187 : LkV "SinglesUp" 187 y_C_turns := ⟨tw_c4 111 (by decide +kernel) rfl, tw_c4 112 (by decide +kernel) rfl, Or.inl (tw_c4 110 (by decide +kernel) rfl)⟩
set_option maxRecDepth 100000 in
theorem mo_C_turns : MOk y_C_turns 2 := ⟨by decide +kernel, tw_c4 113 rfl rfl, tw_c1 7 (by decide +kernel) rfl, by decide +kernel, by decide +kernel, by decide +kernel⟩
theorem d_S_run_26 : decode y_S_run.2.1 26 = .ok (.invokevirtual 187, 3) := op_invokevirtual (gk (k := 0) (t := 26) ck_S_run_0 rfl) (gk (k := 0) (t := 27) ck_S_run_0 rfl) (gk (k := 0) (t := 28) ck_S_run_0 rfl) rfl
theorem d_S_run_29 : decode y_S_run.2.1 29 = .ok (.ireturn, 1) := op_ireturn (gk (k := 0) (t := 29) ck_S_run_0 rfl)
abbrev y_S_last : MI := (⟨"SinglesUp", "last", "(I)I"⟩, prog_1_method_18_code, 3, some .int)
theorem ck_S_last_0 : (y_S_last.2.1.data.toList.drop 0).take 32 = [27, 155, 0, 27, 27, 42, 180, 0, 12, 180, 0, 191, 190, 162, 0, 15, 42, 180, 0, 12, 180, 0, 194, 3, 46, 154, 0, 5, 2, 172, 27, 16] := by decide +kernel
theorem d_S_last_0 : decode y_S_last.2.1 0 = .ok (.iload_n 1, 1) := op_iload_n1 (gk (k := 0) (t := 0) ck_S_last_0 rfl)
theorem d_S_last_1 : decode y_S_last.2.1 1 = .ok (.ifCond .lt 27, 3) := op_if_lt (gk (k := 0) (t := 1) ck_S_last_0 rfl) (gk (k := 0) (t := 2) ck_S_last_0 rfl) (gk (k := 0) (t := 3) ck_S_last_0 rfl) (by decide +kernel)
theorem d_S_last_28 : decode y_S_last.2.1 28 = .ok (.iconst (-1), 1) := op_iconstm1 (gk (k := 0) (t := 28) ck_S_last_0 rfl)
theorem d_S_last_29 : decode y_S_last.2.1 29 = .ok (.ireturn, 1) := op_ireturn (gk (k := 0) (t := 29) ck_S_last_0 rfl)
theorem d_S_last_4 : decode y_S_last.2.1 4 = .ok (.iload_n 1, 1) := op_iload_n1 (gk (k := 0) (t := 4) ck_S_last_0 rfl)
theorem d_S_last_5 : decode y_S_last.2.1 5 = .ok (.aload_n 0, 1) := op_aload_n0 (gk (k := 0) (t := 5) ck_S_last_0 rfl)
theorem d_S_last_6 : decode y_S_last.2.1 6 = .ok (.getfield 12, 3) := op_getfield (gk (k := 0) (t := 6) ck_S_last_0 rfl) (gk (k := 0) (t := 7) ck_S_last_0 rfl) (gk (k := 0) (t := 8) ck_S_last_0 rfl) rfl
theorem fl_S_191 : FL "SinglesUp" 191 2 9 := ⟨"SinglesUp$Hill", zT2, 14, rfl, by decide, rfl, Or.inr ⟨"SinglesUp", nw_in 111 (by decide +kernel) rfl⟩⟩
theorem d_S_last_9 : decode y_S_last.2.1 9 = .ok (.getfield 191, 3) := op_getfield (gk (k := 0) (t := 9) ck_S_last_0 rfl) (gk (k := 0) (t := 10) ck_S_last_0 rfl) (gk (k := 0) (t := 11) ck_S_last_0 rfl) rfl
theorem d_S_last_12 : decode y_S_last.2.1 12 = .ok (.arraylength, 1) := op_arraylength (gk (k := 0) (t := 12) ck_S_last_0 rfl)
theorem in_30 : inr (30) := lit_in rfl
theorem d_S_last_13 : decode y_S_last.2.1 13 = .ok (.if_icmp .ge 15, 3) := op_icmp_ge (gk (k := 0) (t := 13) ck_S_last_0 rfl) (gk (k := 0) (t := 14) ck_S_last_0 rfl) (gk (k := 0) (t := 15) ck_S_last_0 rfl) (by decide +kernel)
theorem d_S_last_16 : decode y_S_last.2.1 16 = .ok (.aload_n 0, 1) := op_aload_n0 (gk (k := 0) (t := 16) ck_S_last_0 rfl)
theorem d_S_last_17 : decode y_S_last.2.1 17 = .ok (.getfield 12, 3) := op_getfield (gk (k := 0) (t := 17) ck_S_last_0 rfl) (gk (k := 0) (t := 18) ck_S_last_0 rfl) (gk (k := 0) (t := 19) ck_S_last_0 rfl) rfl
theorem fl_S_194 : FL "SinglesUp" 194 2 8 := ⟨"SinglesUp$Hill", zT2, 14, rfl, by decide, rfl, Or.inr ⟨"SinglesUp", nw_in 109 (by decide +kernel) rfl⟩⟩
theorem d_S_last_20 : decode y_S_last.2.1 20 = .ok (.getfield 194, 3) := op_getfield (gk (k := 0) (t := 20) ck_S_last_0 rfl) (gk (k := 0) (t := 21) ck_S_last_0 rfl) (gk (k := 0) (t := 22) ck_S_last_0 rfl) rfl
theorem d_S_last_23 : decode y_S_last.2.1 23 = .ok (.iconst 0, 1) := op_iconst0 (gk (k := 0) (t := 23) ck_S_last_0 rfl)
theorem d_S_last_24 : decode y_S_last.2.1 24 = .ok (.iaload, 1) := op_iaload (gk (k := 0) (t := 24) ck_S_last_0 rfl)
theorem d_S_last_25 : decode y_S_last.2.1 25 = .ok (.ifCond .ne 5, 3) := op_if_ne (gk (k := 0) (t := 25) ck_S_last_0 rfl) (gk (k := 0) (t := 26) ck_S_last_0 rfl) (gk (k := 0) (t := 27) ck_S_last_0 rfl) (by decide +kernel)
theorem d_S_last_30 : decode y_S_last.2.1 30 = .ok (.iload_n 1, 1) := op_iload_n1 (gk (k := 0) (t := 30) ck_S_last_0 rfl)
theorem ck_S_last_1 : (y_S_last.2.1.data.toList.drop 32).take 32 = [10, 162, 0, 16, 27, 5, 162, 0, 7, 4, 167, 0, 28, 3, 167, 0, 24, 27, 16, 10, 112, 42, 180, 0, 12, 180, 0, 191, 3, 46, 162, 0] := by decide +kernel
theorem d_S_last_31 : decode y_S_last.2.1 31 = .ok (.bipush 10, 2) := op_bipush (gk (k := 0) (t := 31) ck_S_last_0 rfl) (gk (k := 32) (t := 0) ck_S_last_1 rfl) rfl
theorem ck_S_last_2 : (y_S_last.2.1.data.toList.drop 64).take 32 = [7, 4, 167, 0, 4, 3, 61, 28, 153, 0, 15, 42, 180, 0, 12, 180, 0, 191, 27, 46, 167, 0, 4, 2, 172] := by decide +kernel
theorem d_S_last_70 : decode y_S_last.2.1 70 = .ok (.istore_n 2, 1) := op_istore_n2 (gk (k := 64) (t := 6) ck_S_last_2 rfl)
theorem d_S_last_71 : decode y_S_last.2.1 71 = .ok (.iload_n 2, 1) := op_iload_n2 (gk (k := 64) (t := 7) ck_S_last_2 rfl)
theorem d_S_last_72 : decode y_S_last.2.1 72 = .ok (.ifCond .eq 15, 3) := op_if_eq (gk (k := 64) (t := 8) ck_S_last_2 rfl) (gk (k := 64) (t := 9) ck_S_last_2 rfl) (gk (k := 64) (t := 10) ck_S_last_2 rfl) (by decide +kernel)
theorem d_S_last_87 : decode y_S_last.2.1 87 = .ok (.iconst (-1), 1) := op_iconstm1 (gk (k := 64) (t := 23) ck_S_last_2 rfl)
theorem d_S_last_88 : decode y_S_last.2.1 88 = .ok (.ireturn, 1) := op_ireturn (gk (k := 64) (t := 24) ck_S_last_2 rfl)
theorem d_S_last_75 : decode y_S_last.2.1 75 = .ok (.aload_n 0, 1) := op_aload_n0 (gk (k := 64) (t := 11) ck_S_last_2 rfl)
theorem d_S_last_76 : decode y_S_last.2.1 76 = .ok (.getfield 12, 3) := op_getfield (gk (k := 64) (t := 12) ck_S_last_2 rfl) (gk (k := 64) (t := 13) ck_S_last_2 rfl) (gk (k := 64) (t := 14) ck_S_last_2 rfl) rfl
theorem d_S_last_79 : decode y_S_last.2.1 79 = .ok (.getfield 191, 3) := op_getfield (gk (k := 64) (t := 15) ck_S_last_2 rfl) (gk (k := 64) (t := 16) ck_S_last_2 rfl) (gk (k := 64) (t := 17) ck_S_last_2 rfl) rfl
theorem d_S_last_82 : decode y_S_last.2.1 82 = .ok (.iload_n 1, 1) := op_iload_n1 (gk (k := 64) (t := 18) ck_S_last_2 rfl)
theorem d_S_last_83 : decode y_S_last.2.1 83 = .ok (.iaload, 1) := op_iaload (gk (k := 64) (t := 19) ck_S_last_2 rfl)
theorem d_S_last_84 : decode y_S_last.2.1 84 = .ok (.goto 4, 3) := op_goto (gk (k := 64) (t := 20) ck_S_last_2 rfl) (gk (k := 64) (t := 21) ck_S_last_2 rfl) (gk (k := 64) (t := 22) ck_S_last_2 rfl) (by decide +kernel)
theorem d_S_last_33 : decode y_S_last.2.1 33 = .ok (.if_icmp .ge 16, 3) := op_icmp_ge (gk (k := 32) (t := 1) ck_S_last_1 rfl) (gk (k := 32) (t := 2) ck_S_last_1 rfl) (gk (k := 32) (t := 3) ck_S_last_1 rfl) (by decide +kernel)
theorem d_S_last_49 : decode y_S_last.2.1 49 = .ok (.iload_n 1, 1) := op_iload_n1 (gk (k := 32) (t := 17) ck_S_last_1 rfl)
theorem d_S_last_50 : decode y_S_last.2.1 50 = .ok (.bipush 10, 2) := op_bipush (gk (k := 32) (t := 18) ck_S_last_1 rfl) (gk (k := 32) (t := 19) ck_S_last_1 rfl) rfl
theorem d_S_last_52 : decode y_S_last.2.1 52 = .ok (.irem, 1) := op_irem (gk (k := 32) (t := 20) ck_S_last_1 rfl)
theorem d_S_last_53 : decode y_S_last.2.1 53 = .ok (.aload_n 0, 1) := op_aload_n0 (gk (k := 32) (t := 21) ck_S_last_1 rfl)
theorem d_S_last_54 : decode y_S_last.2.1 54 = .ok (.getfield 12, 3) := op_getfield (gk (k := 32) (t := 22) ck_S_last_1 rfl) (gk (k := 32) (t := 23) ck_S_last_1 rfl) (gk (k := 32) (t := 24) ck_S_last_1 rfl) rfl
theorem d_S_last_57 : decode y_S_last.2.1 57 = .ok (.getfield 191, 3) := op_getfield (gk (k := 32) (t := 25) ck_S_last_1 rfl) (gk (k := 32) (t := 26) ck_S_last_1 rfl) (gk (k := 32) (t := 27) ck_S_last_1 rfl) rfl
theorem d_S_last_60 : decode y_S_last.2.1 60 = .ok (.iconst 0, 1) := op_iconst0 (gk (k := 32) (t := 28) ck_S_last_1 rfl)
theorem d_S_last_61 : decode y_S_last.2.1 61 = .ok (.iaload, 1) := op_iaload (gk (k := 32) (t := 29) ck_S_last_1 rfl)
theorem d_S_last_62 : decode y_S_last.2.1 62 = .ok (.if_icmp .ge 7, 3) := op_icmp_ge (gk (k := 32) (t := 30) ck_S_last_1 rfl) (gk (k := 32) (t := 31) ck_S_last_1 rfl) (gk (k := 64) (t := 0) ck_S_last_2 rfl) (by decide +kernel)
theorem d_S_last_69 : decode y_S_last.2.1 69 = .ok (.iconst 0, 1) := op_iconst0 (gk (k := 64) (t := 5) ck_S_last_2 rfl)
theorem d_S_last_65 : decode y_S_last.2.1 65 = .ok (.iconst 1, 1) := op_iconst1 (gk (k := 64) (t := 1) ck_S_last_2 rfl)
theorem d_S_last_66 : decode y_S_last.2.1 66 = .ok (.goto 4, 3) := op_goto (gk (k := 64) (t := 2) ck_S_last_2 rfl) (gk (k := 64) (t := 3) ck_S_last_2 rfl) (gk (k := 64) (t := 4) ck_S_last_2 rfl) (by decide +kernel)
theorem d_S_last_36 : decode y_S_last.2.1 36 = .ok (.iload_n 1, 1) := op_iload_n1 (gk (k := 32) (t := 4) ck_S_last_1 rfl)
theorem d_S_last_37 : decode y_S_last.2.1 37 = .ok (.iconst 2, 1) := op_iconst2 (gk (k := 32) (t := 5) ck_S_last_1 rfl)
theorem d_S_last_38 : decode y_S_last.2.1 38 = .ok (.if_icmp .ge 7, 3) := op_icmp_ge (gk (k := 32) (t := 6) ck_S_last_1 rfl) (gk (k := 32) (t := 7) ck_S_last_1 rfl) (gk (k := 32) (t := 8) ck_S_last_1 rfl) (by decide +kernel)
theorem d_S_last_45 : decode y_S_last.2.1 45 = .ok (.iconst 0, 1) := op_iconst0 (gk (k := 32) (t := 13) ck_S_last_1 rfl)
theorem d_S_last_46 : decode y_S_last.2.1 46 = .ok (.goto 24, 3) := op_goto (gk (k := 32) (t := 14) ck_S_last_1 rfl) (gk (k := 32) (t := 15) ck_S_last_1 rfl) (gk (k := 32) (t := 16) ck_S_last_1 rfl) (by decide +kernel)
theorem d_S_last_41 : decode y_S_last.2.1 41 = .ok (.iconst 1, 1) := op_iconst1 (gk (k := 32) (t := 9) ck_S_last_1 rfl)
theorem d_S_last_42 : decode y_S_last.2.1 42 = .ok (.goto 28, 3) := op_goto (gk (k := 32) (t := 10) ck_S_last_1 rfl) (gk (k := 32) (t := 11) ck_S_last_1 rfl) (gk (k := 32) (t := 12) ck_S_last_1 rfl) (by decide +kernel)
abbrev y_H_meanWait : MI := (⟨"SinglesUp$Hill", "meanWait", "(I)I"⟩, prog_4_method_14_code, 2, some .int)
theorem ck_H_meanWait_0 : (y_H_meanWait.2.1.data.toList.drop 0).take 32 = [27, 4, 161, 0, 21, 27, 16, 8, 163, 0, 15, 42, 180, 0, 37, 16, 10, 27, 96, 46, 157, 0, 5, 2, 172, 20, 0, 122, 42, 180, 0, 37] := by decide +kernel
theorem d_H_meanWait_0 : decode y_H_meanWait.2.1 0 = .ok (.iload_n 1, 1) := op_iload_n1 (gk (k := 0) (t := 0) ck_H_meanWait_0 rfl)
theorem d_H_meanWait_1 : decode y_H_meanWait.2.1 1 = .ok (.iconst 1, 1) := op_iconst1 (gk (k := 0) (t := 1) ck_H_meanWait_0 rfl)
theorem d_H_meanWait_2 : decode y_H_meanWait.2.1 2 = .ok (.if_icmp .lt 21, 3) := op_icmp_lt (gk (k := 0) (t := 2) ck_H_meanWait_0 rfl) (gk (k := 0) (t := 3) ck_H_meanWait_0 rfl) (gk (k := 0) (t := 4) ck_H_meanWait_0 rfl) (by decide +kernel)
theorem d_H_meanWait_23 : decode y_H_meanWait.2.1 23 = .ok (.iconst (-1), 1) := op_iconstm1 (gk (k := 0) (t := 23) ck_H_meanWait_0 rfl)
theorem d_H_meanWait_24 : decode y_H_meanWait.2.1 24 = .ok (.ireturn, 1) := op_ireturn (gk (k := 0) (t := 24) ck_H_meanWait_0 rfl)
theorem d_H_meanWait_5 : decode y_H_meanWait.2.1 5 = .ok (.iload_n 1, 1) := op_iload_n1 (gk (k := 0) (t := 5) ck_H_meanWait_0 rfl)
theorem d_H_meanWait_6 : decode y_H_meanWait.2.1 6 = .ok (.bipush 8, 2) := op_bipush (gk (k := 0) (t := 6) ck_H_meanWait_0 rfl) (gk (k := 0) (t := 7) ck_H_meanWait_0 rfl) rfl
theorem d_H_meanWait_8 : decode y_H_meanWait.2.1 8 = .ok (.if_icmp .gt 15, 3) := op_icmp_gt (gk (k := 0) (t := 8) ck_H_meanWait_0 rfl) (gk (k := 0) (t := 9) ck_H_meanWait_0 rfl) (gk (k := 0) (t := 10) ck_H_meanWait_0 rfl) (by decide +kernel)
theorem d_H_meanWait_11 : decode y_H_meanWait.2.1 11 = .ok (.aload_n 0, 1) := op_aload_n0 (gk (k := 0) (t := 11) ck_H_meanWait_0 rfl)
theorem d_H_meanWait_12 : decode y_H_meanWait.2.1 12 = .ok (.getfield 37, 3) := op_getfield (gk (k := 0) (t := 12) ck_H_meanWait_0 rfl) (gk (k := 0) (t := 13) ck_H_meanWait_0 rfl) (gk (k := 0) (t := 14) ck_H_meanWait_0 rfl) rfl
theorem d_H_meanWait_15 : decode y_H_meanWait.2.1 15 = .ok (.bipush 10, 2) := op_bipush (gk (k := 0) (t := 15) ck_H_meanWait_0 rfl) (gk (k := 0) (t := 16) ck_H_meanWait_0 rfl) rfl
theorem d_H_meanWait_17 : decode y_H_meanWait.2.1 17 = .ok (.iload_n 1, 1) := op_iload_n1 (gk (k := 0) (t := 17) ck_H_meanWait_0 rfl)
theorem d_H_meanWait_18 : decode y_H_meanWait.2.1 18 = .ok (.iadd, 1) := op_iadd (gk (k := 0) (t := 18) ck_H_meanWait_0 rfl)
theorem d_H_meanWait_19 : decode y_H_meanWait.2.1 19 = .ok (.iaload, 1) := op_iaload (gk (k := 0) (t := 19) ck_H_meanWait_0 rfl)
theorem d_H_meanWait_20 : decode y_H_meanWait.2.1 20 = .ok (.ifCond .gt 5, 3) := op_if_gt (gk (k := 0) (t := 20) ck_H_meanWait_0 rfl) (gk (k := 0) (t := 21) ck_H_meanWait_0 rfl) (gk (k := 0) (t := 22) ck_H_meanWait_0 rfl) (by decide +kernel)
theorem kl_H_122 : Cond.constantLong "SinglesUp$Hill" 122 100 ∈ TW := tw_c4 131 (by decide +kernel) rfl
theorem d_H_meanWait_25 : decode y_H_meanWait.2.1 25 = .ok (.ldc2_w 122, 3) := by decide +kernel
theorem d_H_meanWait_28 : decode y_H_meanWait.2.1 28 = .ok (.aload_n 0, 1) := op_aload_n0 (gk (k := 0) (t := 28) ck_H_meanWait_0 rfl)
theorem d_H_meanWait_29 : decode y_H_meanWait.2.1 29 = .ok (.getfield 37, 3) := op_getfield (gk (k := 0) (t := 29) ck_H_meanWait_0 rfl) (gk (k := 0) (t := 30) ck_H_meanWait_0 rfl) (gk (k := 0) (t := 31) ck_H_meanWait_0 rfl) rfl
theorem ck_H_meanWait_1 : (y_H_meanWait.2.1.data.toList.drop 32).take 32 = [16, 20, 27, 96, 46, 133, 105, 42, 180, 0, 37, 16, 10, 27, 96, 46, 133, 109, 136, 172] := by decide +kernel
theorem d_H_meanWait_32 : decode y_H_meanWait.2.1 32 = .ok (.bipush 20, 2) := op_bipush (gk (k := 32) (t := 0) ck_H_meanWait_1 rfl) (gk (k := 32) (t := 1) ck_H_meanWait_1 rfl) rfl
theorem d_H_meanWait_34 : decode y_H_meanWait.2.1 34 = .ok (.iload_n 1, 1) := op_iload_n1 (gk (k := 32) (t := 2) ck_H_meanWait_1 rfl)
theorem d_H_meanWait_35 : decode y_H_meanWait.2.1 35 = .ok (.iadd, 1) := op_iadd (gk (k := 32) (t := 3) ck_H_meanWait_1 rfl)
theorem d_H_meanWait_36 : decode y_H_meanWait.2.1 36 = .ok (.iaload, 1) := op_iaload (gk (k := 32) (t := 4) ck_H_meanWait_1 rfl)
theorem d_H_meanWait_37 : decode y_H_meanWait.2.1 37 = .ok (.i2l, 1) := by decide +kernel
theorem d_H_meanWait_38 : decode y_H_meanWait.2.1 38 = .ok (.lmul, 1) := by decide +kernel
theorem d_H_meanWait_39 : decode y_H_meanWait.2.1 39 = .ok (.aload_n 0, 1) := op_aload_n0 (gk (k := 32) (t := 7) ck_H_meanWait_1 rfl)
theorem d_H_meanWait_40 : decode y_H_meanWait.2.1 40 = .ok (.getfield 37, 3) := op_getfield (gk (k := 32) (t := 8) ck_H_meanWait_1 rfl) (gk (k := 32) (t := 9) ck_H_meanWait_1 rfl) (gk (k := 32) (t := 10) ck_H_meanWait_1 rfl) rfl
theorem d_H_meanWait_43 : decode y_H_meanWait.2.1 43 = .ok (.bipush 10, 2) := op_bipush (gk (k := 32) (t := 11) ck_H_meanWait_1 rfl) (gk (k := 32) (t := 12) ck_H_meanWait_1 rfl) rfl
theorem d_H_meanWait_45 : decode y_H_meanWait.2.1 45 = .ok (.iload_n 1, 1) := op_iload_n1 (gk (k := 32) (t := 13) ck_H_meanWait_1 rfl)
theorem d_H_meanWait_46 : decode y_H_meanWait.2.1 46 = .ok (.iadd, 1) := op_iadd (gk (k := 32) (t := 14) ck_H_meanWait_1 rfl)
theorem d_H_meanWait_47 : decode y_H_meanWait.2.1 47 = .ok (.iaload, 1) := op_iaload (gk (k := 32) (t := 15) ck_H_meanWait_1 rfl)
theorem d_H_meanWait_48 : decode y_H_meanWait.2.1 48 = .ok (.i2l, 1) := by decide +kernel
theorem d_H_meanWait_49 : decode y_H_meanWait.2.1 49 = .ok (.ldiv, 1) := by decide +kernel
theorem d_H_meanWait_50 : decode y_H_meanWait.2.1 50 = .ok (.l2i, 1) := by decide +kernel
theorem d_H_meanWait_51 : decode y_H_meanWait.2.1 51 = .ok (.ireturn, 1) := op_ireturn (gk (k := 32) (t := 19) ck_H_meanWait_1 rfl)
abbrev y_S_count : MI := (⟨"SinglesUp", "count", "(I)I"⟩, prog_1_method_19_code, 3, some .int)
theorem ck_S_count_0 : (y_S_count.2.1.data.toList.drop 0).take 32 = [27, 155, 0, 19, 27, 16, 6, 163, 0, 13, 42, 180, 0, 12, 180, 0, 194, 27, 46, 172, 27, 16, 10, 112, 61, 27, 16, 10, 161, 0, 20, 27] := by decide +kernel
theorem d_S_count_0 : decode y_S_count.2.1 0 = .ok (.iload_n 1, 1) := op_iload_n1 (gk (k := 0) (t := 0) ck_S_count_0 rfl)
theorem d_S_count_20 : decode y_S_count.2.1 20 = .ok (.iload_n 1, 1) := op_iload_n1 (gk (k := 0) (t := 20) ck_S_count_0 rfl)
theorem d_S_count_21 : decode y_S_count.2.1 21 = .ok (.bipush 10, 2) := op_bipush (gk (k := 0) (t := 21) ck_S_count_0 rfl) (gk (k := 0) (t := 22) ck_S_count_0 rfl) rfl
theorem d_S_count_23 : decode y_S_count.2.1 23 = .ok (.irem, 1) := op_irem (gk (k := 0) (t := 23) ck_S_count_0 rfl)
theorem d_S_count_24 : decode y_S_count.2.1 24 = .ok (.istore_n 2, 1) := op_istore_n2 (gk (k := 0) (t := 24) ck_S_count_0 rfl)
theorem d_S_count_25 : decode y_S_count.2.1 25 = .ok (.iload_n 1, 1) := op_iload_n1 (gk (k := 0) (t := 25) ck_S_count_0 rfl)
theorem d_S_count_26 : decode y_S_count.2.1 26 = .ok (.bipush 10, 2) := op_bipush (gk (k := 0) (t := 26) ck_S_count_0 rfl) (gk (k := 0) (t := 27) ck_S_count_0 rfl) rfl
theorem d_S_count_28 : decode y_S_count.2.1 28 = .ok (.if_icmp .lt 20, 3) := op_icmp_lt (gk (k := 0) (t := 28) ck_S_count_0 rfl) (gk (k := 0) (t := 29) ck_S_count_0 rfl) (gk (k := 0) (t := 30) ck_S_count_0 rfl) (by decide +kernel)
theorem ck_S_count_1 : (y_S_count.2.1.data.toList.drop 32).take 32 = [16, 48, 163, 0, 14, 28, 4, 161, 0, 9, 28, 16, 8, 164, 0, 5, 2, 172, 27, 16, 40, 162, 0, 15, 42, 180, 0, 12, 180, 0, 194, 27] := by decide +kernel
theorem d_S_count_48 : decode y_S_count.2.1 48 = .ok (.iconst (-1), 1) := op_iconstm1 (gk (k := 32) (t := 16) ck_S_count_1 rfl)
theorem d_S_count_49 : decode y_S_count.2.1 49 = .ok (.ireturn, 1) := op_ireturn (gk (k := 32) (t := 17) ck_S_count_1 rfl)
theorem d_S_count_31 : decode y_S_count.2.1 31 = .ok (.iload_n 1, 1) := op_iload_n1 (gk (k := 0) (t := 31) ck_S_count_0 rfl)
theorem d_S_count_32 : decode y_S_count.2.1 32 = .ok (.bipush 48, 2) := op_bipush (gk (k := 32) (t := 0) ck_S_count_1 rfl) (gk (k := 32) (t := 1) ck_S_count_1 rfl) rfl
theorem d_S_count_34 : decode y_S_count.2.1 34 = .ok (.if_icmp .gt 14, 3) := op_icmp_gt (gk (k := 32) (t := 2) ck_S_count_1 rfl) (gk (k := 32) (t := 3) ck_S_count_1 rfl) (gk (k := 32) (t := 4) ck_S_count_1 rfl) (by decide +kernel)
theorem d_S_count_37 : decode y_S_count.2.1 37 = .ok (.iload_n 2, 1) := op_iload_n2 (gk (k := 32) (t := 5) ck_S_count_1 rfl)
theorem d_S_count_38 : decode y_S_count.2.1 38 = .ok (.iconst 1, 1) := op_iconst1 (gk (k := 32) (t := 6) ck_S_count_1 rfl)
theorem d_S_count_39 : decode y_S_count.2.1 39 = .ok (.if_icmp .lt 9, 3) := op_icmp_lt (gk (k := 32) (t := 7) ck_S_count_1 rfl) (gk (k := 32) (t := 8) ck_S_count_1 rfl) (gk (k := 32) (t := 9) ck_S_count_1 rfl) (by decide +kernel)
theorem d_S_count_42 : decode y_S_count.2.1 42 = .ok (.iload_n 2, 1) := op_iload_n2 (gk (k := 32) (t := 10) ck_S_count_1 rfl)
theorem d_S_count_43 : decode y_S_count.2.1 43 = .ok (.bipush 8, 2) := op_bipush (gk (k := 32) (t := 11) ck_S_count_1 rfl) (gk (k := 32) (t := 12) ck_S_count_1 rfl) rfl
theorem d_S_count_45 : decode y_S_count.2.1 45 = .ok (.if_icmp .le 5, 3) := op_icmp_le (gk (k := 32) (t := 13) ck_S_count_1 rfl) (gk (k := 32) (t := 14) ck_S_count_1 rfl) (gk (k := 32) (t := 15) ck_S_count_1 rfl) (by decide +kernel)
theorem d_S_count_50 : decode y_S_count.2.1 50 = .ok (.iload_n 1, 1) := op_iload_n1 (gk (k := 32) (t := 18) ck_S_count_1 rfl)
theorem d_S_count_51 : decode y_S_count.2.1 51 = .ok (.bipush 40, 2) := op_bipush (gk (k := 32) (t := 19) ck_S_count_1 rfl) (gk (k := 32) (t := 20) ck_S_count_1 rfl) rfl
theorem d_S_count_53 : decode y_S_count.2.1 53 = .ok (.if_icmp .ge 15, 3) := op_icmp_ge (gk (k := 32) (t := 21) ck_S_count_1 rfl) (gk (k := 32) (t := 22) ck_S_count_1 rfl) (gk (k := 32) (t := 23) ck_S_count_1 rfl) (by decide +kernel)
theorem ck_S_count_2 : (y_S_count.2.1.data.toList.drop 64).take 32 = [46, 167, 0, 11, 42, 180, 0, 12, 28, 182, 0, 197, 172] := by decide +kernel
theorem d_S_count_68 : decode y_S_count.2.1 68 = .ok (.aload_n 0, 1) := op_aload_n0 (gk (k := 64) (t := 4) ck_S_count_2 rfl)
theorem d_S_count_69 : decode y_S_count.2.1 69 = .ok (.getfield 12, 3) := op_getfield (gk (k := 64) (t := 5) ck_S_count_2 rfl) (gk (k := 64) (t := 6) ck_S_count_2 rfl) (gk (k := 64) (t := 7) ck_S_count_2 rfl) rfl
theorem d_S_count_72 : decode y_S_count.2.1 72 = .ok (.iload_n 2, 1) := op_iload_n2 (gk (k := 64) (t := 8) ck_S_count_2 rfl)
theorem lk_S_197 : LkV "SinglesUp" 197 y_H_meanWait := ⟨tw_c4 128 (by decide +kernel) rfl, tw_c4 129 (by decide +kernel) rfl, Or.inl (tw_c4 127 (by decide +kernel) rfl)⟩
set_option maxRecDepth 100000 in
theorem mo_H_meanWait : MOk y_H_meanWait 1 := ⟨by decide +kernel, tw_c4 130 rfl rfl, tw_c1 2 (by decide +kernel) rfl, by decide +kernel, by decide +kernel, by decide +kernel⟩
theorem d_S_count_73 : decode y_S_count.2.1 73 = .ok (.invokevirtual 197, 3) := op_invokevirtual (gk (k := 64) (t := 9) ck_S_count_2 rfl) (gk (k := 64) (t := 10) ck_S_count_2 rfl) (gk (k := 64) (t := 11) ck_S_count_2 rfl) rfl
theorem d_S_count_76 : decode y_S_count.2.1 76 = .ok (.ireturn, 1) := op_ireturn (gk (k := 64) (t := 12) ck_S_count_2 rfl)
theorem d_S_count_56 : decode y_S_count.2.1 56 = .ok (.aload_n 0, 1) := op_aload_n0 (gk (k := 32) (t := 24) ck_S_count_1 rfl)
theorem d_S_count_57 : decode y_S_count.2.1 57 = .ok (.getfield 12, 3) := op_getfield (gk (k := 32) (t := 25) ck_S_count_1 rfl) (gk (k := 32) (t := 26) ck_S_count_1 rfl) (gk (k := 32) (t := 27) ck_S_count_1 rfl) rfl
theorem d_S_count_60 : decode y_S_count.2.1 60 = .ok (.getfield 194, 3) := op_getfield (gk (k := 32) (t := 28) ck_S_count_1 rfl) (gk (k := 32) (t := 29) ck_S_count_1 rfl) (gk (k := 32) (t := 30) ck_S_count_1 rfl) rfl
theorem d_S_count_63 : decode y_S_count.2.1 63 = .ok (.iload_n 1, 1) := op_iload_n1 (gk (k := 32) (t := 31) ck_S_count_1 rfl)
theorem d_S_count_64 : decode y_S_count.2.1 64 = .ok (.iaload, 1) := op_iaload (gk (k := 64) (t := 0) ck_S_count_2 rfl)
theorem d_S_count_65 : decode y_S_count.2.1 65 = .ok (.goto 11, 3) := op_goto (gk (k := 64) (t := 1) ck_S_count_2 rfl) (gk (k := 64) (t := 2) ck_S_count_2 rfl) (gk (k := 64) (t := 3) ck_S_count_2 rfl) (by decide +kernel)
theorem d_S_count_1 : decode y_S_count.2.1 1 = .ok (.ifCond .lt 19, 3) := op_if_lt (gk (k := 0) (t := 1) ck_S_count_0 rfl) (gk (k := 0) (t := 2) ck_S_count_0 rfl) (gk (k := 0) (t := 3) ck_S_count_0 rfl) (by decide +kernel)
theorem d_S_count_4 : decode y_S_count.2.1 4 = .ok (.iload_n 1, 1) := op_iload_n1 (gk (k := 0) (t := 4) ck_S_count_0 rfl)
theorem d_S_count_5 : decode y_S_count.2.1 5 = .ok (.bipush 6, 2) := op_bipush (gk (k := 0) (t := 5) ck_S_count_0 rfl) (gk (k := 0) (t := 6) ck_S_count_0 rfl) rfl
theorem d_S_count_7 : decode y_S_count.2.1 7 = .ok (.if_icmp .gt 13, 3) := op_icmp_gt (gk (k := 0) (t := 7) ck_S_count_0 rfl) (gk (k := 0) (t := 8) ck_S_count_0 rfl) (gk (k := 0) (t := 9) ck_S_count_0 rfl) (by decide +kernel)
theorem d_S_count_10 : decode y_S_count.2.1 10 = .ok (.aload_n 0, 1) := op_aload_n0 (gk (k := 0) (t := 10) ck_S_count_0 rfl)
theorem d_S_count_11 : decode y_S_count.2.1 11 = .ok (.getfield 12, 3) := op_getfield (gk (k := 0) (t := 11) ck_S_count_0 rfl) (gk (k := 0) (t := 12) ck_S_count_0 rfl) (gk (k := 0) (t := 13) ck_S_count_0 rfl) rfl
theorem d_S_count_14 : decode y_S_count.2.1 14 = .ok (.getfield 194, 3) := op_getfield (gk (k := 0) (t := 14) ck_S_count_0 rfl) (gk (k := 0) (t := 15) ck_S_count_0 rfl) (gk (k := 0) (t := 16) ck_S_count_0 rfl) rfl
theorem d_S_count_17 : decode y_S_count.2.1 17 = .ok (.iload_n 1, 1) := op_iload_n1 (gk (k := 0) (t := 17) ck_S_count_0 rfl)
theorem d_S_count_18 : decode y_S_count.2.1 18 = .ok (.iaload, 1) := op_iaload (gk (k := 0) (t := 18) ck_S_count_0 rfl)
theorem d_S_count_19 : decode y_S_count.2.1 19 = .ok (.ireturn, 1) := op_ireturn (gk (k := 0) (t := 19) ck_S_count_0 rfl)
abbrev y_F_chosenAt : MI := (⟨"SinglesUp$Filling", "chosenAt", "(I)I"⟩, prog_3_method_8_code, 2, some .int)
theorem ck_F_chosenAt_0 : (y_F_chosenAt.2.1.data.toList.drop 0).take 32 = [27, 155, 0, 17, 27, 42, 180, 0, 76, 162, 0, 9, 27, 16, 8, 161, 0, 5, 2, 172, 16, 100, 42, 180, 0, 24, 27, 46, 16, 40, 108, 104] := by decide +kernel
theorem d_F_chosenAt_0 : decode y_F_chosenAt.2.1 0 = .ok (.iload_n 1, 1) := op_iload_n1 (gk (k := 0) (t := 0) ck_F_chosenAt_0 rfl)
theorem d_F_chosenAt_1 : decode y_F_chosenAt.2.1 1 = .ok (.ifCond .lt 17, 3) := op_if_lt (gk (k := 0) (t := 1) ck_F_chosenAt_0 rfl) (gk (k := 0) (t := 2) ck_F_chosenAt_0 rfl) (gk (k := 0) (t := 3) ck_F_chosenAt_0 rfl) (by decide +kernel)
theorem d_F_chosenAt_18 : decode y_F_chosenAt.2.1 18 = .ok (.iconst (-1), 1) := op_iconstm1 (gk (k := 0) (t := 18) ck_F_chosenAt_0 rfl)
theorem d_F_chosenAt_19 : decode y_F_chosenAt.2.1 19 = .ok (.ireturn, 1) := op_ireturn (gk (k := 0) (t := 19) ck_F_chosenAt_0 rfl)
theorem d_F_chosenAt_4 : decode y_F_chosenAt.2.1 4 = .ok (.iload_n 1, 1) := op_iload_n1 (gk (k := 0) (t := 4) ck_F_chosenAt_0 rfl)
theorem d_F_chosenAt_5 : decode y_F_chosenAt.2.1 5 = .ok (.aload_n 0, 1) := op_aload_n0 (gk (k := 0) (t := 5) ck_F_chosenAt_0 rfl)
theorem fl_F_76 : FL "SinglesUp$Filling" 76 1 6 := ⟨"SinglesUp$Filling", zT1, 7, rfl, by decide, rfl, Or.inl (tw_c2 36 (by decide +kernel) rfl)⟩
theorem d_F_chosenAt_6 : decode y_F_chosenAt.2.1 6 = .ok (.getfield 76, 3) := op_getfield (gk (k := 0) (t := 6) ck_F_chosenAt_0 rfl) (gk (k := 0) (t := 7) ck_F_chosenAt_0 rfl) (gk (k := 0) (t := 8) ck_F_chosenAt_0 rfl) rfl
theorem d_F_chosenAt_9 : decode y_F_chosenAt.2.1 9 = .ok (.if_icmp .ge 9, 3) := op_icmp_ge (gk (k := 0) (t := 9) ck_F_chosenAt_0 rfl) (gk (k := 0) (t := 10) ck_F_chosenAt_0 rfl) (gk (k := 0) (t := 11) ck_F_chosenAt_0 rfl) (by decide +kernel)
theorem d_F_chosenAt_12 : decode y_F_chosenAt.2.1 12 = .ok (.iload_n 1, 1) := op_iload_n1 (gk (k := 0) (t := 12) ck_F_chosenAt_0 rfl)
theorem d_F_chosenAt_13 : decode y_F_chosenAt.2.1 13 = .ok (.bipush 8, 2) := op_bipush (gk (k := 0) (t := 13) ck_F_chosenAt_0 rfl) (gk (k := 0) (t := 14) ck_F_chosenAt_0 rfl) rfl
theorem d_F_chosenAt_15 : decode y_F_chosenAt.2.1 15 = .ok (.if_icmp .lt 5, 3) := op_icmp_lt (gk (k := 0) (t := 15) ck_F_chosenAt_0 rfl) (gk (k := 0) (t := 16) ck_F_chosenAt_0 rfl) (gk (k := 0) (t := 17) ck_F_chosenAt_0 rfl) (by decide +kernel)
theorem cb_100 : (Int8.ofInt 100).toInt32 = iv 100 := by decide +kernel
theorem d_F_chosenAt_20 : decode y_F_chosenAt.2.1 20 = .ok (.bipush 100, 2) := op_bipush (gk (k := 0) (t := 20) ck_F_chosenAt_0 rfl) (gk (k := 0) (t := 21) ck_F_chosenAt_0 rfl) rfl
theorem d_F_chosenAt_22 : decode y_F_chosenAt.2.1 22 = .ok (.aload_n 0, 1) := op_aload_n0 (gk (k := 0) (t := 22) ck_F_chosenAt_0 rfl)
theorem fl_F_24 : FL "SinglesUp$Filling" 24 1 5 := ⟨"SinglesUp$Filling", zT1, 7, rfl, by decide, rfl, Or.inl (tw_c2 35 (by decide +kernel) rfl)⟩
theorem rc_1_5 : ∀ o, KC[o]? = some (4, 7) → RC o 5 = some (o + 5) ∧ KC[o + 5]? = some (0, 8) := by
  intro o h
  have hl : o < 166 := (List.getElem?_eq_some_iff.mp h).1
  exact (by decide +kernel : ∀ o, o < 166 → KC[o]? = some (4, 7) → RC o 5 = some (o + 5) ∧ KC[o + 5]? = some (0, 8)) o hl h
theorem d_F_chosenAt_23 : decode y_F_chosenAt.2.1 23 = .ok (.getfield 24, 3) := op_getfield (gk (k := 0) (t := 23) ck_F_chosenAt_0 rfl) (gk (k := 0) (t := 24) ck_F_chosenAt_0 rfl) (gk (k := 0) (t := 25) ck_F_chosenAt_0 rfl) rfl
theorem d_F_chosenAt_26 : decode y_F_chosenAt.2.1 26 = .ok (.iload_n 1, 1) := op_iload_n1 (gk (k := 0) (t := 26) ck_F_chosenAt_0 rfl)
theorem d_F_chosenAt_27 : decode y_F_chosenAt.2.1 27 = .ok (.iaload, 1) := op_iaload (gk (k := 0) (t := 27) ck_F_chosenAt_0 rfl)
theorem d_F_chosenAt_28 : decode y_F_chosenAt.2.1 28 = .ok (.bipush 40, 2) := op_bipush (gk (k := 0) (t := 28) ck_F_chosenAt_0 rfl) (gk (k := 0) (t := 29) ck_F_chosenAt_0 rfl) rfl
theorem d_F_chosenAt_30 : decode y_F_chosenAt.2.1 30 = .ok (.idiv, 1) := op_idiv (gk (k := 0) (t := 30) ck_F_chosenAt_0 rfl)
theorem d_F_chosenAt_31 : decode y_F_chosenAt.2.1 31 = .ok (.imul, 1) := op_imul (gk (k := 0) (t := 31) ck_F_chosenAt_0 rfl)
theorem ck_F_chosenAt_1 : (y_F_chosenAt.2.1.data.toList.drop 32).take 32 = [42, 180, 0, 24, 27, 46, 16, 40, 112, 96, 172] := by decide +kernel
theorem d_F_chosenAt_32 : decode y_F_chosenAt.2.1 32 = .ok (.aload_n 0, 1) := op_aload_n0 (gk (k := 32) (t := 0) ck_F_chosenAt_1 rfl)
theorem d_F_chosenAt_33 : decode y_F_chosenAt.2.1 33 = .ok (.getfield 24, 3) := op_getfield (gk (k := 32) (t := 1) ck_F_chosenAt_1 rfl) (gk (k := 32) (t := 2) ck_F_chosenAt_1 rfl) (gk (k := 32) (t := 3) ck_F_chosenAt_1 rfl) rfl
theorem d_F_chosenAt_36 : decode y_F_chosenAt.2.1 36 = .ok (.iload_n 1, 1) := op_iload_n1 (gk (k := 32) (t := 4) ck_F_chosenAt_1 rfl)
theorem d_F_chosenAt_37 : decode y_F_chosenAt.2.1 37 = .ok (.iaload, 1) := op_iaload (gk (k := 32) (t := 5) ck_F_chosenAt_1 rfl)
theorem d_F_chosenAt_38 : decode y_F_chosenAt.2.1 38 = .ok (.bipush 40, 2) := op_bipush (gk (k := 32) (t := 6) ck_F_chosenAt_1 rfl) (gk (k := 32) (t := 7) ck_F_chosenAt_1 rfl) rfl
theorem d_F_chosenAt_40 : decode y_F_chosenAt.2.1 40 = .ok (.irem, 1) := op_irem (gk (k := 32) (t := 8) ck_F_chosenAt_1 rfl)
theorem d_F_chosenAt_41 : decode y_F_chosenAt.2.1 41 = .ok (.iadd, 1) := op_iadd (gk (k := 32) (t := 9) ck_F_chosenAt_1 rfl)
theorem d_F_chosenAt_42 : decode y_F_chosenAt.2.1 42 = .ok (.ireturn, 1) := op_ireturn (gk (k := 32) (t := 10) ck_F_chosenAt_1 rfl)
abbrev y_F_at : MI := (⟨"SinglesUp$Filling", "at", "(III)I"⟩, prog_3_method_4_code, 4, some .int)
theorem ck_F_at_0 : (y_F_at.2.1.data.toList.drop 0).take 32 = [26, 155, 0, 33, 26, 17, 0, 144, 163, 0, 26, 27, 155, 0, 22, 27, 6, 162, 0, 17, 28, 155, 0, 13, 28, 16, 9, 162, 0, 7, 4, 167] := by decide +kernel
theorem d_F_at_0 : decode y_F_at.2.1 0 = .ok (.iload_n 0, 1) := op_iload_n0 (gk (k := 0) (t := 0) ck_F_at_0 rfl)
theorem ck_F_at_1 : (y_F_at.2.1.data.toList.drop 32).take 32 = [0, 4, 3, 62, 29, 153, 0, 16, 26, 6, 104, 27, 96, 16, 9, 104, 28, 96, 167, 0, 4, 3, 172] := by decide +kernel
theorem d_F_at_35 : decode y_F_at.2.1 35 = .ok (.istore_n 3, 1) := op_istore_n3 (gk (k := 32) (t := 3) ck_F_at_1 rfl)
theorem d_F_at_36 : decode y_F_at.2.1 36 = .ok (.iload_n 3, 1) := op_iload_n3 (gk (k := 32) (t := 4) ck_F_at_1 rfl)
theorem d_F_at_37 : decode y_F_at.2.1 37 = .ok (.ifCond .eq 16, 3) := op_if_eq (gk (k := 32) (t := 5) ck_F_at_1 rfl) (gk (k := 32) (t := 6) ck_F_at_1 rfl) (gk (k := 32) (t := 7) ck_F_at_1 rfl) (by decide +kernel)
theorem d_F_at_53 : decode y_F_at.2.1 53 = .ok (.iconst 0, 1) := op_iconst0 (gk (k := 32) (t := 21) ck_F_at_1 rfl)
theorem d_F_at_54 : decode y_F_at.2.1 54 = .ok (.ireturn, 1) := op_ireturn (gk (k := 32) (t := 22) ck_F_at_1 rfl)
theorem d_F_at_40 : decode y_F_at.2.1 40 = .ok (.iload_n 0, 1) := op_iload_n0 (gk (k := 32) (t := 8) ck_F_at_1 rfl)
theorem d_F_at_41 : decode y_F_at.2.1 41 = .ok (.iconst 3, 1) := op_iconst3 (gk (k := 32) (t := 9) ck_F_at_1 rfl)
theorem d_F_at_42 : decode y_F_at.2.1 42 = .ok (.imul, 1) := op_imul (gk (k := 32) (t := 10) ck_F_at_1 rfl)
theorem d_F_at_43 : decode y_F_at.2.1 43 = .ok (.iload_n 1, 1) := op_iload_n1 (gk (k := 32) (t := 11) ck_F_at_1 rfl)
theorem d_F_at_44 : decode y_F_at.2.1 44 = .ok (.iadd, 1) := op_iadd (gk (k := 32) (t := 12) ck_F_at_1 rfl)
theorem d_F_at_45 : decode y_F_at.2.1 45 = .ok (.bipush 9, 2) := op_bipush (gk (k := 32) (t := 13) ck_F_at_1 rfl) (gk (k := 32) (t := 14) ck_F_at_1 rfl) rfl
theorem d_F_at_47 : decode y_F_at.2.1 47 = .ok (.imul, 1) := op_imul (gk (k := 32) (t := 15) ck_F_at_1 rfl)
theorem d_F_at_48 : decode y_F_at.2.1 48 = .ok (.iload_n 2, 1) := op_iload_n2 (gk (k := 32) (t := 16) ck_F_at_1 rfl)
theorem d_F_at_49 : decode y_F_at.2.1 49 = .ok (.iadd, 1) := op_iadd (gk (k := 32) (t := 17) ck_F_at_1 rfl)
theorem d_F_at_50 : decode y_F_at.2.1 50 = .ok (.goto 4, 3) := op_goto (gk (k := 32) (t := 18) ck_F_at_1 rfl) (gk (k := 32) (t := 19) ck_F_at_1 rfl) (gk (k := 32) (t := 20) ck_F_at_1 rfl) (by decide +kernel)
theorem d_F_at_1 : decode y_F_at.2.1 1 = .ok (.ifCond .lt 33, 3) := op_if_lt (gk (k := 0) (t := 1) ck_F_at_0 rfl) (gk (k := 0) (t := 2) ck_F_at_0 rfl) (gk (k := 0) (t := 3) ck_F_at_0 rfl) (by decide +kernel)
theorem d_F_at_34 : decode y_F_at.2.1 34 = .ok (.iconst 0, 1) := op_iconst0 (gk (k := 32) (t := 2) ck_F_at_1 rfl)
theorem d_F_at_4 : decode y_F_at.2.1 4 = .ok (.iload_n 0, 1) := op_iload_n0 (gk (k := 0) (t := 4) ck_F_at_0 rfl)
theorem d_F_at_5 : decode y_F_at.2.1 5 = .ok (.sipush 144, 3) := op_sipush (gk (k := 0) (t := 5) ck_F_at_0 rfl) (gk (k := 0) (t := 6) ck_F_at_0 rfl) (gk (k := 0) (t := 7) ck_F_at_0 rfl) (by decide +kernel)
theorem d_F_at_8 : decode y_F_at.2.1 8 = .ok (.if_icmp .gt 26, 3) := op_icmp_gt (gk (k := 0) (t := 8) ck_F_at_0 rfl) (gk (k := 0) (t := 9) ck_F_at_0 rfl) (gk (k := 0) (t := 10) ck_F_at_0 rfl) (by decide +kernel)
theorem d_F_at_11 : decode y_F_at.2.1 11 = .ok (.iload_n 1, 1) := op_iload_n1 (gk (k := 0) (t := 11) ck_F_at_0 rfl)
theorem d_F_at_12 : decode y_F_at.2.1 12 = .ok (.ifCond .lt 22, 3) := op_if_lt (gk (k := 0) (t := 12) ck_F_at_0 rfl) (gk (k := 0) (t := 13) ck_F_at_0 rfl) (gk (k := 0) (t := 14) ck_F_at_0 rfl) (by decide +kernel)
theorem d_F_at_15 : decode y_F_at.2.1 15 = .ok (.iload_n 1, 1) := op_iload_n1 (gk (k := 0) (t := 15) ck_F_at_0 rfl)
theorem d_F_at_16 : decode y_F_at.2.1 16 = .ok (.iconst 3, 1) := op_iconst3 (gk (k := 0) (t := 16) ck_F_at_0 rfl)
theorem d_F_at_17 : decode y_F_at.2.1 17 = .ok (.if_icmp .ge 17, 3) := op_icmp_ge (gk (k := 0) (t := 17) ck_F_at_0 rfl) (gk (k := 0) (t := 18) ck_F_at_0 rfl) (gk (k := 0) (t := 19) ck_F_at_0 rfl) (by decide +kernel)
theorem d_F_at_20 : decode y_F_at.2.1 20 = .ok (.iload_n 2, 1) := op_iload_n2 (gk (k := 0) (t := 20) ck_F_at_0 rfl)
theorem d_F_at_21 : decode y_F_at.2.1 21 = .ok (.ifCond .lt 13, 3) := op_if_lt (gk (k := 0) (t := 21) ck_F_at_0 rfl) (gk (k := 0) (t := 22) ck_F_at_0 rfl) (gk (k := 0) (t := 23) ck_F_at_0 rfl) (by decide +kernel)
theorem d_F_at_24 : decode y_F_at.2.1 24 = .ok (.iload_n 2, 1) := op_iload_n2 (gk (k := 0) (t := 24) ck_F_at_0 rfl)
theorem d_F_at_25 : decode y_F_at.2.1 25 = .ok (.bipush 9, 2) := op_bipush (gk (k := 0) (t := 25) ck_F_at_0 rfl) (gk (k := 0) (t := 26) ck_F_at_0 rfl) rfl
theorem in_9 : inr (9) := lit_in rfl
theorem d_F_at_27 : decode y_F_at.2.1 27 = .ok (.if_icmp .ge 7, 3) := op_icmp_ge (gk (k := 0) (t := 27) ck_F_at_0 rfl) (gk (k := 0) (t := 28) ck_F_at_0 rfl) (gk (k := 0) (t := 29) ck_F_at_0 rfl) (by decide +kernel)
theorem d_F_at_30 : decode y_F_at.2.1 30 = .ok (.iconst 1, 1) := op_iconst1 (gk (k := 0) (t := 30) ck_F_at_0 rfl)
theorem d_F_at_31 : decode y_F_at.2.1 31 = .ok (.goto 4, 3) := op_goto (gk (k := 0) (t := 31) ck_F_at_0 rfl) (gk (k := 32) (t := 0) ck_F_at_1 rfl) (gk (k := 32) (t := 1) ck_F_at_1 rfl) (by decide +kernel)
abbrev y_F_thereWith : MI := (⟨"SinglesUp$Filling", "thereWith", "(II)I"⟩, prog_3_method_5_code, 3, some .int)
theorem ck_F_thereWith_0 : (y_F_thereWith.2.1.data.toList.drop 0).take 32 = [42, 180, 0, 18, 27, 46, 4, 159, 0, 7, 5, 167, 0, 12, 28, 154, 0, 7, 4, 167, 0, 4, 28, 172] := by decide +kernel
theorem d_F_thereWith_0 : decode y_F_thereWith.2.1 0 = .ok (.aload_n 0, 1) := op_aload_n0 (gk (k := 0) (t := 0) ck_F_thereWith_0 rfl)
theorem fl_F_18 : FL "SinglesUp$Filling" 18 1 2 := ⟨"SinglesUp$Filling", zT1, 7, rfl, by decide, rfl, Or.inl (tw_c2 32 (by decide +kernel) rfl)⟩
theorem rc_1_2 : ∀ o, KC[o]? = some (4, 7) → RC o 2 = some (o + 3) ∧ KC[o + 3]? = some (0, 144) := by
  intro o h
  have hl : o < 166 := (List.getElem?_eq_some_iff.mp h).1
  exact (by decide +kernel : ∀ o, o < 166 → KC[o]? = some (4, 7) → RC o 2 = some (o + 3) ∧ KC[o + 3]? = some (0, 144)) o hl h
theorem d_F_thereWith_1 : decode y_F_thereWith.2.1 1 = .ok (.getfield 18, 3) := op_getfield (gk (k := 0) (t := 1) ck_F_thereWith_0 rfl) (gk (k := 0) (t := 2) ck_F_thereWith_0 rfl) (gk (k := 0) (t := 3) ck_F_thereWith_0 rfl) rfl
theorem d_F_thereWith_4 : decode y_F_thereWith.2.1 4 = .ok (.iload_n 1, 1) := op_iload_n1 (gk (k := 0) (t := 4) ck_F_thereWith_0 rfl)
theorem d_F_thereWith_5 : decode y_F_thereWith.2.1 5 = .ok (.iaload, 1) := op_iaload (gk (k := 0) (t := 5) ck_F_thereWith_0 rfl)
theorem d_F_thereWith_6 : decode y_F_thereWith.2.1 6 = .ok (.iconst 1, 1) := op_iconst1 (gk (k := 0) (t := 6) ck_F_thereWith_0 rfl)
theorem d_F_thereWith_7 : decode y_F_thereWith.2.1 7 = .ok (.if_icmp .eq 7, 3) := op_icmp_eq (gk (k := 0) (t := 7) ck_F_thereWith_0 rfl) (gk (k := 0) (t := 8) ck_F_thereWith_0 rfl) (gk (k := 0) (t := 9) ck_F_thereWith_0 rfl) (by decide +kernel)
theorem d_F_thereWith_14 : decode y_F_thereWith.2.1 14 = .ok (.iload_n 2, 1) := op_iload_n2 (gk (k := 0) (t := 14) ck_F_thereWith_0 rfl)
theorem d_F_thereWith_15 : decode y_F_thereWith.2.1 15 = .ok (.ifCond .ne 7, 3) := op_if_ne (gk (k := 0) (t := 15) ck_F_thereWith_0 rfl) (gk (k := 0) (t := 16) ck_F_thereWith_0 rfl) (gk (k := 0) (t := 17) ck_F_thereWith_0 rfl) (by decide +kernel)
theorem d_F_thereWith_22 : decode y_F_thereWith.2.1 22 = .ok (.iload_n 2, 1) := op_iload_n2 (gk (k := 0) (t := 22) ck_F_thereWith_0 rfl)
theorem d_F_thereWith_23 : decode y_F_thereWith.2.1 23 = .ok (.ireturn, 1) := op_ireturn (gk (k := 0) (t := 23) ck_F_thereWith_0 rfl)
theorem d_F_thereWith_18 : decode y_F_thereWith.2.1 18 = .ok (.iconst 1, 1) := op_iconst1 (gk (k := 0) (t := 18) ck_F_thereWith_0 rfl)
theorem d_F_thereWith_19 : decode y_F_thereWith.2.1 19 = .ok (.goto 4, 3) := op_goto (gk (k := 0) (t := 19) ck_F_thereWith_0 rfl) (gk (k := 0) (t := 20) ck_F_thereWith_0 rfl) (gk (k := 0) (t := 21) ck_F_thereWith_0 rfl) (by decide +kernel)
theorem d_F_thereWith_10 : decode y_F_thereWith.2.1 10 = .ok (.iconst 2, 1) := op_iconst2 (gk (k := 0) (t := 10) ck_F_thereWith_0 rfl)
theorem d_F_thereWith_11 : decode y_F_thereWith.2.1 11 = .ok (.goto 12, 3) := op_goto (gk (k := 0) (t := 11) ck_F_thereWith_0 rfl) (gk (k := 0) (t := 12) ck_F_thereWith_0 rfl) (gk (k := 0) (t := 13) ck_F_thereWith_0 rfl) (by decide +kernel)
abbrev y_F_mostWith : MI := (⟨"SinglesUp$Filling", "mostWith", "(III)I"⟩, prog_3_method_6_code, 5, some .int)
theorem ck_F_mostWith_0 : (y_F_mostWith.2.1.data.toList.drop 0).take 32 = [27, 155, 0, 20, 27, 17, 0, 144, 162, 0, 13, 42, 180, 0, 15, 27, 46, 29, 164, 0, 5, 2, 172, 42, 180, 0, 21, 27, 4, 96, 42, 27] := by decide +kernel
theorem d_F_mostWith_0 : decode y_F_mostWith.2.1 0 = .ok (.iload_n 1, 1) := op_iload_n1 (gk (k := 0) (t := 0) ck_F_mostWith_0 rfl)
theorem d_F_mostWith_1 : decode y_F_mostWith.2.1 1 = .ok (.ifCond .lt 20, 3) := op_if_lt (gk (k := 0) (t := 1) ck_F_mostWith_0 rfl) (gk (k := 0) (t := 2) ck_F_mostWith_0 rfl) (gk (k := 0) (t := 3) ck_F_mostWith_0 rfl) (by decide +kernel)
theorem d_F_mostWith_21 : decode y_F_mostWith.2.1 21 = .ok (.iconst (-1), 1) := op_iconstm1 (gk (k := 0) (t := 21) ck_F_mostWith_0 rfl)
theorem d_F_mostWith_22 : decode y_F_mostWith.2.1 22 = .ok (.ireturn, 1) := op_ireturn (gk (k := 0) (t := 22) ck_F_mostWith_0 rfl)
theorem d_F_mostWith_4 : decode y_F_mostWith.2.1 4 = .ok (.iload_n 1, 1) := op_iload_n1 (gk (k := 0) (t := 4) ck_F_mostWith_0 rfl)
theorem d_F_mostWith_5 : decode y_F_mostWith.2.1 5 = .ok (.sipush 144, 3) := op_sipush (gk (k := 0) (t := 5) ck_F_mostWith_0 rfl) (gk (k := 0) (t := 6) ck_F_mostWith_0 rfl) (gk (k := 0) (t := 7) ck_F_mostWith_0 rfl) (by decide +kernel)
theorem d_F_mostWith_8 : decode y_F_mostWith.2.1 8 = .ok (.if_icmp .ge 13, 3) := op_icmp_ge (gk (k := 0) (t := 8) ck_F_mostWith_0 rfl) (gk (k := 0) (t := 9) ck_F_mostWith_0 rfl) (gk (k := 0) (t := 10) ck_F_mostWith_0 rfl) (by decide +kernel)
theorem d_F_mostWith_11 : decode y_F_mostWith.2.1 11 = .ok (.aload_n 0, 1) := op_aload_n0 (gk (k := 0) (t := 11) ck_F_mostWith_0 rfl)
theorem fl_F_15 : FL "SinglesUp$Filling" 15 1 1 := ⟨"SinglesUp$Filling", zT1, 7, rfl, by decide, rfl, Or.inl (tw_c2 31 (by decide +kernel) rfl)⟩
theorem rc_1_1 : ∀ o, KC[o]? = some (4, 7) → RC o 1 = some (o + 2) ∧ KC[o + 2]? = some (0, 144) := by
  intro o h
  have hl : o < 166 := (List.getElem?_eq_some_iff.mp h).1
  exact (by decide +kernel : ∀ o, o < 166 → KC[o]? = some (4, 7) → RC o 1 = some (o + 2) ∧ KC[o + 2]? = some (0, 144)) o hl h
theorem d_F_mostWith_12 : decode y_F_mostWith.2.1 12 = .ok (.getfield 15, 3) := op_getfield (gk (k := 0) (t := 12) ck_F_mostWith_0 rfl) (gk (k := 0) (t := 13) ck_F_mostWith_0 rfl) (gk (k := 0) (t := 14) ck_F_mostWith_0 rfl) rfl
theorem d_F_mostWith_15 : decode y_F_mostWith.2.1 15 = .ok (.iload_n 1, 1) := op_iload_n1 (gk (k := 0) (t := 15) ck_F_mostWith_0 rfl)
theorem d_F_mostWith_16 : decode y_F_mostWith.2.1 16 = .ok (.iaload, 1) := op_iaload (gk (k := 0) (t := 16) ck_F_mostWith_0 rfl)
theorem d_F_mostWith_17 : decode y_F_mostWith.2.1 17 = .ok (.iload_n 3, 1) := op_iload_n3 (gk (k := 0) (t := 17) ck_F_mostWith_0 rfl)
theorem d_F_mostWith_18 : decode y_F_mostWith.2.1 18 = .ok (.if_icmp .le 5, 3) := op_icmp_le (gk (k := 0) (t := 18) ck_F_mostWith_0 rfl) (gk (k := 0) (t := 19) ck_F_mostWith_0 rfl) (gk (k := 0) (t := 20) ck_F_mostWith_0 rfl) (by decide +kernel)
theorem d_F_mostWith_23 : decode y_F_mostWith.2.1 23 = .ok (.aload_n 0, 1) := op_aload_n0 (gk (k := 0) (t := 23) ck_F_mostWith_0 rfl)
theorem fl_F_21 : FL "SinglesUp$Filling" 21 1 4 := ⟨"SinglesUp$Filling", zT1, 7, rfl, by decide, rfl, Or.inl (tw_c2 34 (by decide +kernel) rfl)⟩
theorem rc_1_4 : ∀ o, KC[o]? = some (4, 7) → RC o 4 = some (o + 4) ∧ KC[o + 4]? = some (0, 3915) := by
  intro o h
  have hl : o < 166 := (List.getElem?_eq_some_iff.mp h).1
  exact (by decide +kernel : ∀ o, o < 166 → KC[o]? = some (4, 7) → RC o 4 = some (o + 4) ∧ KC[o + 4]? = some (0, 3915)) o hl h
theorem d_F_mostWith_24 : decode y_F_mostWith.2.1 24 = .ok (.getfield 21, 3) := op_getfield (gk (k := 0) (t := 24) ck_F_mostWith_0 rfl) (gk (k := 0) (t := 25) ck_F_mostWith_0 rfl) (gk (k := 0) (t := 26) ck_F_mostWith_0 rfl) rfl
theorem d_F_mostWith_27 : decode y_F_mostWith.2.1 27 = .ok (.iload_n 1, 1) := op_iload_n1 (gk (k := 0) (t := 27) ck_F_mostWith_0 rfl)
theorem d_F_mostWith_28 : decode y_F_mostWith.2.1 28 = .ok (.iconst 1, 1) := op_iconst1 (gk (k := 0) (t := 28) ck_F_mostWith_0 rfl)
theorem d_F_mostWith_29 : decode y_F_mostWith.2.1 29 = .ok (.iadd, 1) := op_iadd (gk (k := 0) (t := 29) ck_F_mostWith_0 rfl)
theorem d_F_mostWith_30 : decode y_F_mostWith.2.1 30 = .ok (.aload_n 0, 1) := op_aload_n0 (gk (k := 0) (t := 30) ck_F_mostWith_0 rfl)
theorem d_F_mostWith_31 : decode y_F_mostWith.2.1 31 = .ok (.iload_n 1, 1) := op_iload_n1 (gk (k := 0) (t := 31) ck_F_mostWith_0 rfl)
theorem ck_F_mostWith_1 : (y_F_mostWith.2.1.data.toList.drop 32).take 32 = [28, 182, 0, 73, 29, 42, 180, 0, 15, 27, 46, 100, 184, 0, 50, 46, 54, 4, 21, 4, 2, 160, 0, 7, 2, 167, 0, 12, 21, 4, 42, 180] := by decide +kernel
theorem d_F_mostWith_32 : decode y_F_mostWith.2.1 32 = .ok (.iload_n 2, 1) := op_iload_n2 (gk (k := 32) (t := 0) ck_F_mostWith_1 rfl)
theorem lk_F_73 : LkV "SinglesUp$Filling" 73 y_F_thereWith := ⟨tw_c4 156 (by decide +kernel) rfl, tw_in 31 (by decide +kernel) rfl, Or.inl (tw_c4 154 (by decide +kernel) rfl)⟩
set_option maxRecDepth 100000 in
theorem mo_F_thereWith : MOk y_F_thereWith 2 := ⟨by decide +kernel, tw_c4 157 rfl rfl, tw_c1 9 (by decide +kernel) rfl, by decide +kernel, by decide +kernel, by decide +kernel⟩
theorem d_F_mostWith_33 : decode y_F_mostWith.2.1 33 = .ok (.invokevirtual 73, 3) := op_invokevirtual (gk (k := 32) (t := 1) ck_F_mostWith_1 rfl) (gk (k := 32) (t := 2) ck_F_mostWith_1 rfl) (gk (k := 32) (t := 3) ck_F_mostWith_1 rfl) rfl
theorem d_F_mostWith_36 : decode y_F_mostWith.2.1 36 = .ok (.iload_n 3, 1) := op_iload_n3 (gk (k := 32) (t := 4) ck_F_mostWith_1 rfl)
theorem d_F_mostWith_37 : decode y_F_mostWith.2.1 37 = .ok (.aload_n 0, 1) := op_aload_n0 (gk (k := 32) (t := 5) ck_F_mostWith_1 rfl)
theorem d_F_mostWith_38 : decode y_F_mostWith.2.1 38 = .ok (.getfield 15, 3) := op_getfield (gk (k := 32) (t := 6) ck_F_mostWith_1 rfl) (gk (k := 32) (t := 7) ck_F_mostWith_1 rfl) (gk (k := 32) (t := 8) ck_F_mostWith_1 rfl) rfl
theorem d_F_mostWith_41 : decode y_F_mostWith.2.1 41 = .ok (.iload_n 1, 1) := op_iload_n1 (gk (k := 32) (t := 9) ck_F_mostWith_1 rfl)
theorem d_F_mostWith_42 : decode y_F_mostWith.2.1 42 = .ok (.iaload, 1) := op_iaload (gk (k := 32) (t := 10) ck_F_mostWith_1 rfl)
theorem d_F_mostWith_43 : decode y_F_mostWith.2.1 43 = .ok (.isub, 1) := op_isub (gk (k := 32) (t := 11) ck_F_mostWith_1 rfl)
theorem lk_F_50 : LkS "SinglesUp$Filling" 50 y_F_at := ⟨tw_c4 148 (by decide +kernel) rfl, Or.inl (tw_c4 147 (by decide +kernel) rfl)⟩
set_option maxRecDepth 100000 in
theorem mo_F_at : MOk y_F_at 3 := ⟨by decide +kernel, tw_c4 149 rfl rfl, tw_c1 9 (by decide +kernel) rfl, by decide +kernel, by decide +kernel, by decide +kernel⟩
theorem d_F_mostWith_44 : decode y_F_mostWith.2.1 44 = .ok (.invokestatic 50, 3) := op_invokestatic (gk (k := 32) (t := 12) ck_F_mostWith_1 rfl) (gk (k := 32) (t := 13) ck_F_mostWith_1 rfl) (gk (k := 32) (t := 14) ck_F_mostWith_1 rfl) rfl
theorem d_F_mostWith_47 : decode y_F_mostWith.2.1 47 = .ok (.iaload, 1) := op_iaload (gk (k := 32) (t := 15) ck_F_mostWith_1 rfl)
theorem d_F_mostWith_48 : decode y_F_mostWith.2.1 48 = .ok (.istore 4, 2) := op_istore (gk (k := 32) (t := 16) ck_F_mostWith_1 rfl) (gk (k := 32) (t := 17) ck_F_mostWith_1 rfl) rfl
theorem d_F_mostWith_50 : decode y_F_mostWith.2.1 50 = .ok (.iload 4, 2) := op_iload (gk (k := 32) (t := 18) ck_F_mostWith_1 rfl) (gk (k := 32) (t := 19) ck_F_mostWith_1 rfl) rfl
theorem d_F_mostWith_52 : decode y_F_mostWith.2.1 52 = .ok (.iconst (-1), 1) := op_iconstm1 (gk (k := 32) (t := 20) ck_F_mostWith_1 rfl)
theorem d_F_mostWith_53 : decode y_F_mostWith.2.1 53 = .ok (.if_icmp .ne 7, 3) := op_icmp_ne (gk (k := 32) (t := 21) ck_F_mostWith_1 rfl) (gk (k := 32) (t := 22) ck_F_mostWith_1 rfl) (gk (k := 32) (t := 23) ck_F_mostWith_1 rfl) (by decide +kernel)
theorem d_F_mostWith_60 : decode y_F_mostWith.2.1 60 = .ok (.iload 4, 2) := op_iload (gk (k := 32) (t := 28) ck_F_mostWith_1 rfl) (gk (k := 32) (t := 29) ck_F_mostWith_1 rfl) rfl
theorem d_F_mostWith_62 : decode y_F_mostWith.2.1 62 = .ok (.aload_n 0, 1) := op_aload_n0 (gk (k := 32) (t := 30) ck_F_mostWith_1 rfl)
theorem ck_F_mostWith_2 : (y_F_mostWith.2.1.data.toList.drop 64).take 32 = [0, 15, 27, 46, 96, 172] := by decide +kernel
theorem d_F_mostWith_63 : decode y_F_mostWith.2.1 63 = .ok (.getfield 15, 3) := op_getfield (gk (k := 32) (t := 31) ck_F_mostWith_1 rfl) (gk (k := 64) (t := 0) ck_F_mostWith_2 rfl) (gk (k := 64) (t := 1) ck_F_mostWith_2 rfl) rfl
theorem d_F_mostWith_66 : decode y_F_mostWith.2.1 66 = .ok (.iload_n 1, 1) := op_iload_n1 (gk (k := 64) (t := 2) ck_F_mostWith_2 rfl)
theorem d_F_mostWith_67 : decode y_F_mostWith.2.1 67 = .ok (.iaload, 1) := op_iaload (gk (k := 64) (t := 3) ck_F_mostWith_2 rfl)
theorem d_F_mostWith_68 : decode y_F_mostWith.2.1 68 = .ok (.iadd, 1) := op_iadd (gk (k := 64) (t := 4) ck_F_mostWith_2 rfl)
theorem d_F_mostWith_69 : decode y_F_mostWith.2.1 69 = .ok (.ireturn, 1) := op_ireturn (gk (k := 64) (t := 5) ck_F_mostWith_2 rfl)
theorem d_F_mostWith_56 : decode y_F_mostWith.2.1 56 = .ok (.iconst (-1), 1) := op_iconstm1 (gk (k := 32) (t := 24) ck_F_mostWith_1 rfl)
theorem d_F_mostWith_57 : decode y_F_mostWith.2.1 57 = .ok (.goto 12, 3) := op_goto (gk (k := 32) (t := 25) ck_F_mostWith_1 rfl) (gk (k := 32) (t := 26) ck_F_mostWith_1 rfl) (gk (k := 32) (t := 27) ck_F_mostWith_1 rfl) (by decide +kernel)
abbrev y_F_choose : MI := (⟨"SinglesUp$Filling", "choose", "(I)V"⟩, prog_3_method_7_code, 6, none)
theorem ck_F_choose_0 : (y_F_choose.2.1.data.toList.drop 0).take 32 = [42, 3, 181, 0, 76, 3, 61, 27, 62, 3, 54, 4, 21, 4, 42, 180, 0, 46, 162, 0, 103, 21, 4, 17, 0, 144, 162, 0, 95, 42, 180, 0] := by decide +kernel
theorem d_F_choose_0 : decode y_F_choose.2.1 0 = .ok (.aload_n 0, 1) := op_aload_n0 (gk (k := 0) (t := 0) ck_F_choose_0 rfl)
theorem d_F_choose_1 : decode y_F_choose.2.1 1 = .ok (.iconst 0, 1) := op_iconst0 (gk (k := 0) (t := 1) ck_F_choose_0 rfl)
theorem d_F_choose_2 : decode y_F_choose.2.1 2 = .ok (.putfield 76, 3) := op_putfield (gk (k := 0) (t := 2) ck_F_choose_0 rfl) (gk (k := 0) (t := 3) ck_F_choose_0 rfl) (gk (k := 0) (t := 4) ck_F_choose_0 rfl) rfl
theorem d_F_choose_5 : decode y_F_choose.2.1 5 = .ok (.iconst 0, 1) := op_iconst0 (gk (k := 0) (t := 5) ck_F_choose_0 rfl)
theorem d_F_choose_6 : decode y_F_choose.2.1 6 = .ok (.istore_n 2, 1) := op_istore_n2 (gk (k := 0) (t := 6) ck_F_choose_0 rfl)
theorem d_F_choose_7 : decode y_F_choose.2.1 7 = .ok (.iload_n 1, 1) := op_iload_n1 (gk (k := 0) (t := 7) ck_F_choose_0 rfl)
theorem d_F_choose_8 : decode y_F_choose.2.1 8 = .ok (.istore_n 3, 1) := op_istore_n3 (gk (k := 0) (t := 8) ck_F_choose_0 rfl)
theorem d_F_choose_9 : decode y_F_choose.2.1 9 = .ok (.iconst 0, 1) := op_iconst0 (gk (k := 0) (t := 9) ck_F_choose_0 rfl)
theorem d_F_choose_10 : decode y_F_choose.2.1 10 = .ok (.istore 4, 2) := op_istore (gk (k := 0) (t := 10) ck_F_choose_0 rfl) (gk (k := 0) (t := 11) ck_F_choose_0 rfl) rfl
theorem d_F_choose_12 : decode y_F_choose.2.1 12 = .ok (.iload 4, 2) := op_iload (gk (k := 0) (t := 12) ck_F_choose_0 rfl) (gk (k := 0) (t := 13) ck_F_choose_0 rfl) rfl
theorem d_F_choose_14 : decode y_F_choose.2.1 14 = .ok (.aload_n 0, 1) := op_aload_n0 (gk (k := 0) (t := 14) ck_F_choose_0 rfl)
theorem fl_F_46 : FL "SinglesUp$Filling" 46 1 3 := ⟨"SinglesUp$Filling", zT1, 7, rfl, by decide, rfl, Or.inl (tw_c2 33 (by decide +kernel) rfl)⟩
theorem d_F_choose_15 : decode y_F_choose.2.1 15 = .ok (.getfield 46, 3) := op_getfield (gk (k := 0) (t := 15) ck_F_choose_0 rfl) (gk (k := 0) (t := 16) ck_F_choose_0 rfl) (gk (k := 0) (t := 17) ck_F_choose_0 rfl) rfl
theorem d_F_choose_18 : decode y_F_choose.2.1 18 = .ok (.if_icmp .ge 103, 3) := op_icmp_ge (gk (k := 0) (t := 18) ck_F_choose_0 rfl) (gk (k := 0) (t := 19) ck_F_choose_0 rfl) (gk (k := 0) (t := 20) ck_F_choose_0 rfl) (by decide +kernel)
theorem ck_F_choose_3 : (y_F_choose.2.1.data.toList.drop 96).take 32 = [76, 42, 21, 4, 28, 182, 0, 73, 61, 29, 42, 180, 0, 15, 21, 4, 46, 100, 62, 132, 4, 1, 167, 255, 150, 177] := by decide +kernel
theorem d_F_choose_121 : decode y_F_choose.2.1 121 = .ok (.return_, 1) := op_return_ (gk (k := 96) (t := 25) ck_F_choose_3 rfl)
theorem d_F_choose_21 : decode y_F_choose.2.1 21 = .ok (.iload 4, 2) := op_iload (gk (k := 0) (t := 21) ck_F_choose_0 rfl) (gk (k := 0) (t := 22) ck_F_choose_0 rfl) rfl
theorem d_F_choose_23 : decode y_F_choose.2.1 23 = .ok (.sipush 144, 3) := op_sipush (gk (k := 0) (t := 23) ck_F_choose_0 rfl) (gk (k := 0) (t := 24) ck_F_choose_0 rfl) (gk (k := 0) (t := 25) ck_F_choose_0 rfl) (by decide +kernel)
theorem d_F_choose_26 : decode y_F_choose.2.1 26 = .ok (.if_icmp .ge 95, 3) := op_icmp_ge (gk (k := 0) (t := 26) ck_F_choose_0 rfl) (gk (k := 0) (t := 27) ck_F_choose_0 rfl) (gk (k := 0) (t := 28) ck_F_choose_0 rfl) (by decide +kernel)
theorem d_F_choose_29 : decode y_F_choose.2.1 29 = .ok (.aload_n 0, 1) := op_aload_n0 (gk (k := 0) (t := 29) ck_F_choose_0 rfl)
theorem ck_F_choose_1 : (y_F_choose.2.1.data.toList.drop 32).take 32 = [76, 16, 8, 162, 0, 86, 42, 21, 4, 28, 29, 182, 0, 54, 54, 5, 21, 5, 2, 159, 0, 64, 21, 5, 42, 180, 0, 21, 21, 4, 28, 29] := by decide +kernel
theorem d_F_choose_30 : decode y_F_choose.2.1 30 = .ok (.getfield 76, 3) := op_getfield (gk (k := 0) (t := 30) ck_F_choose_0 rfl) (gk (k := 0) (t := 31) ck_F_choose_0 rfl) (gk (k := 32) (t := 0) ck_F_choose_1 rfl) rfl
theorem d_F_choose_33 : decode y_F_choose.2.1 33 = .ok (.bipush 8, 2) := op_bipush (gk (k := 32) (t := 1) ck_F_choose_1 rfl) (gk (k := 32) (t := 2) ck_F_choose_1 rfl) rfl
theorem d_F_choose_35 : decode y_F_choose.2.1 35 = .ok (.if_icmp .ge 86, 3) := op_icmp_ge (gk (k := 32) (t := 3) ck_F_choose_1 rfl) (gk (k := 32) (t := 4) ck_F_choose_1 rfl) (gk (k := 32) (t := 5) ck_F_choose_1 rfl) (by decide +kernel)
theorem d_F_choose_38 : decode y_F_choose.2.1 38 = .ok (.aload_n 0, 1) := op_aload_n0 (gk (k := 32) (t := 6) ck_F_choose_1 rfl)
theorem d_F_choose_39 : decode y_F_choose.2.1 39 = .ok (.iload 4, 2) := op_iload (gk (k := 32) (t := 7) ck_F_choose_1 rfl) (gk (k := 32) (t := 8) ck_F_choose_1 rfl) rfl
theorem d_F_choose_41 : decode y_F_choose.2.1 41 = .ok (.iload_n 2, 1) := op_iload_n2 (gk (k := 32) (t := 9) ck_F_choose_1 rfl)
theorem d_F_choose_42 : decode y_F_choose.2.1 42 = .ok (.iload_n 3, 1) := op_iload_n3 (gk (k := 32) (t := 10) ck_F_choose_1 rfl)
theorem lk_F_54 : LkV "SinglesUp$Filling" 54 y_F_mostWith := ⟨tw_c4 152 (by decide +kernel) rfl, tw_in 30 (by decide +kernel) rfl, Or.inl (tw_c4 150 (by decide +kernel) rfl)⟩
set_option maxRecDepth 100000 in
theorem mo_F_mostWith : MOk y_F_mostWith 3 := ⟨by decide +kernel, tw_c4 153 rfl rfl, tw_c1 9 (by decide +kernel) rfl, by decide +kernel, by decide +kernel, by decide +kernel⟩
theorem d_F_choose_43 : decode y_F_choose.2.1 43 = .ok (.invokevirtual 54, 3) := op_invokevirtual (gk (k := 32) (t := 11) ck_F_choose_1 rfl) (gk (k := 32) (t := 12) ck_F_choose_1 rfl) (gk (k := 32) (t := 13) ck_F_choose_1 rfl) rfl
theorem d_F_choose_46 : decode y_F_choose.2.1 46 = .ok (.istore 5, 2) := op_istore (gk (k := 32) (t := 14) ck_F_choose_1 rfl) (gk (k := 32) (t := 15) ck_F_choose_1 rfl) rfl
theorem d_F_choose_48 : decode y_F_choose.2.1 48 = .ok (.iload 5, 2) := op_iload (gk (k := 32) (t := 16) ck_F_choose_1 rfl) (gk (k := 32) (t := 17) ck_F_choose_1 rfl) rfl
theorem d_F_choose_50 : decode y_F_choose.2.1 50 = .ok (.iconst (-1), 1) := op_iconstm1 (gk (k := 32) (t := 18) ck_F_choose_1 rfl)
theorem d_F_choose_115 : decode y_F_choose.2.1 115 = .ok (.iinc 4 1, 3) := op_iinc (gk (k := 96) (t := 19) ck_F_choose_3 rfl) (gk (k := 96) (t := 20) ck_F_choose_3 rfl) (gk (k := 96) (t := 21) ck_F_choose_3 rfl) rfl rfl
theorem d_F_choose_118 : decode y_F_choose.2.1 118 = .ok (.goto (-106), 3) := op_goto (gk (k := 96) (t := 22) ck_F_choose_3 rfl) (gk (k := 96) (t := 23) ck_F_choose_3 rfl) (gk (k := 96) (t := 24) ck_F_choose_3 rfl) (by decide +kernel)
theorem d_F_choose_51 : decode y_F_choose.2.1 51 = .ok (.if_icmp .eq 64, 3) := op_icmp_eq (gk (k := 32) (t := 19) ck_F_choose_1 rfl) (gk (k := 32) (t := 20) ck_F_choose_1 rfl) (gk (k := 32) (t := 21) ck_F_choose_1 rfl) (by decide +kernel)
theorem d_F_choose_54 : decode y_F_choose.2.1 54 = .ok (.iload 5, 2) := op_iload (gk (k := 32) (t := 22) ck_F_choose_1 rfl) (gk (k := 32) (t := 23) ck_F_choose_1 rfl) rfl
theorem d_F_choose_56 : decode y_F_choose.2.1 56 = .ok (.aload_n 0, 1) := op_aload_n0 (gk (k := 32) (t := 24) ck_F_choose_1 rfl)
theorem d_F_choose_57 : decode y_F_choose.2.1 57 = .ok (.getfield 21, 3) := op_getfield (gk (k := 32) (t := 25) ck_F_choose_1 rfl) (gk (k := 32) (t := 26) ck_F_choose_1 rfl) (gk (k := 32) (t := 27) ck_F_choose_1 rfl) rfl
theorem d_F_choose_60 : decode y_F_choose.2.1 60 = .ok (.iload 4, 2) := op_iload (gk (k := 32) (t := 28) ck_F_choose_1 rfl) (gk (k := 32) (t := 29) ck_F_choose_1 rfl) rfl
theorem d_F_choose_62 : decode y_F_choose.2.1 62 = .ok (.iload_n 2, 1) := op_iload_n2 (gk (k := 32) (t := 30) ck_F_choose_1 rfl)
theorem d_F_choose_63 : decode y_F_choose.2.1 63 = .ok (.iload_n 3, 1) := op_iload_n3 (gk (k := 32) (t := 31) ck_F_choose_1 rfl)
theorem ck_F_choose_2 : (y_F_choose.2.1.data.toList.drop 64).take 32 = [184, 0, 50, 46, 160, 0, 47, 42, 180, 0, 24, 42, 180, 0, 76, 42, 180, 0, 9, 21, 4, 46, 79, 42, 89, 180, 0, 76, 4, 96, 181, 0] := by decide +kernel
theorem d_F_choose_64 : decode y_F_choose.2.1 64 = .ok (.invokestatic 50, 3) := op_invokestatic (gk (k := 64) (t := 0) ck_F_choose_2 rfl) (gk (k := 64) (t := 1) ck_F_choose_2 rfl) (gk (k := 64) (t := 2) ck_F_choose_2 rfl) rfl
theorem d_F_choose_67 : decode y_F_choose.2.1 67 = .ok (.iaload, 1) := op_iaload (gk (k := 64) (t := 3) ck_F_choose_2 rfl)
theorem d_F_choose_68 : decode y_F_choose.2.1 68 = .ok (.if_icmp .ne 47, 3) := op_icmp_ne (gk (k := 64) (t := 4) ck_F_choose_2 rfl) (gk (k := 64) (t := 5) ck_F_choose_2 rfl) (gk (k := 64) (t := 6) ck_F_choose_2 rfl) (by decide +kernel)
theorem d_F_choose_71 : decode y_F_choose.2.1 71 = .ok (.aload_n 0, 1) := op_aload_n0 (gk (k := 64) (t := 7) ck_F_choose_2 rfl)
theorem d_F_choose_72 : decode y_F_choose.2.1 72 = .ok (.getfield 24, 3) := op_getfield (gk (k := 64) (t := 8) ck_F_choose_2 rfl) (gk (k := 64) (t := 9) ck_F_choose_2 rfl) (gk (k := 64) (t := 10) ck_F_choose_2 rfl) rfl
theorem d_F_choose_75 : decode y_F_choose.2.1 75 = .ok (.aload_n 0, 1) := op_aload_n0 (gk (k := 64) (t := 11) ck_F_choose_2 rfl)
theorem d_F_choose_76 : decode y_F_choose.2.1 76 = .ok (.getfield 76, 3) := op_getfield (gk (k := 64) (t := 12) ck_F_choose_2 rfl) (gk (k := 64) (t := 13) ck_F_choose_2 rfl) (gk (k := 64) (t := 14) ck_F_choose_2 rfl) rfl
theorem d_F_choose_79 : decode y_F_choose.2.1 79 = .ok (.aload_n 0, 1) := op_aload_n0 (gk (k := 64) (t := 15) ck_F_choose_2 rfl)
theorem fl_F_9 : FL "SinglesUp$Filling" 9 1 0 := ⟨"SinglesUp$Filling", zT1, 7, rfl, by decide, rfl, Or.inl (tw_c2 30 (by decide +kernel) rfl)⟩
theorem rc_1_0 : ∀ o, KC[o]? = some (4, 7) → RC o 0 = some (o + 1) ∧ KC[o + 1]? = some (0, 144) := by
  intro o h
  have hl : o < 166 := (List.getElem?_eq_some_iff.mp h).1
  exact (by decide +kernel : ∀ o, o < 166 → KC[o]? = some (4, 7) → RC o 0 = some (o + 1) ∧ KC[o + 1]? = some (0, 144)) o hl h
theorem d_F_choose_80 : decode y_F_choose.2.1 80 = .ok (.getfield 9, 3) := op_getfield (gk (k := 64) (t := 16) ck_F_choose_2 rfl) (gk (k := 64) (t := 17) ck_F_choose_2 rfl) (gk (k := 64) (t := 18) ck_F_choose_2 rfl) rfl
theorem d_F_choose_83 : decode y_F_choose.2.1 83 = .ok (.iload 4, 2) := op_iload (gk (k := 64) (t := 19) ck_F_choose_2 rfl) (gk (k := 64) (t := 20) ck_F_choose_2 rfl) rfl
theorem d_F_choose_85 : decode y_F_choose.2.1 85 = .ok (.iaload, 1) := op_iaload (gk (k := 64) (t := 21) ck_F_choose_2 rfl)
theorem d_F_choose_86 : decode y_F_choose.2.1 86 = .ok (.iastore, 1) := op_iastore (gk (k := 64) (t := 22) ck_F_choose_2 rfl)
theorem d_F_choose_87 : decode y_F_choose.2.1 87 = .ok (.aload_n 0, 1) := op_aload_n0 (gk (k := 64) (t := 23) ck_F_choose_2 rfl)
theorem d_F_choose_88 : decode y_F_choose.2.1 88 = .ok (.dup, 1) := op_dup (gk (k := 64) (t := 24) ck_F_choose_2 rfl)
theorem d_F_choose_89 : decode y_F_choose.2.1 89 = .ok (.getfield 76, 3) := op_getfield (gk (k := 64) (t := 25) ck_F_choose_2 rfl) (gk (k := 64) (t := 26) ck_F_choose_2 rfl) (gk (k := 64) (t := 27) ck_F_choose_2 rfl) rfl
theorem d_F_choose_92 : decode y_F_choose.2.1 92 = .ok (.iconst 1, 1) := op_iconst1 (gk (k := 64) (t := 28) ck_F_choose_2 rfl)
theorem d_F_choose_93 : decode y_F_choose.2.1 93 = .ok (.iadd, 1) := op_iadd (gk (k := 64) (t := 29) ck_F_choose_2 rfl)
theorem d_F_choose_94 : decode y_F_choose.2.1 94 = .ok (.putfield 76, 3) := op_putfield (gk (k := 64) (t := 30) ck_F_choose_2 rfl) (gk (k := 64) (t := 31) ck_F_choose_2 rfl) (gk (k := 96) (t := 0) ck_F_choose_3 rfl) rfl
theorem d_F_choose_97 : decode y_F_choose.2.1 97 = .ok (.aload_n 0, 1) := op_aload_n0 (gk (k := 96) (t := 1) ck_F_choose_3 rfl)
theorem d_F_choose_98 : decode y_F_choose.2.1 98 = .ok (.iload 4, 2) := op_iload (gk (k := 96) (t := 2) ck_F_choose_3 rfl) (gk (k := 96) (t := 3) ck_F_choose_3 rfl) rfl
theorem d_F_choose_100 : decode y_F_choose.2.1 100 = .ok (.iload_n 2, 1) := op_iload_n2 (gk (k := 96) (t := 4) ck_F_choose_3 rfl)
theorem d_F_choose_101 : decode y_F_choose.2.1 101 = .ok (.invokevirtual 73, 3) := op_invokevirtual (gk (k := 96) (t := 5) ck_F_choose_3 rfl) (gk (k := 96) (t := 6) ck_F_choose_3 rfl) (gk (k := 96) (t := 7) ck_F_choose_3 rfl) rfl
theorem d_F_choose_104 : decode y_F_choose.2.1 104 = .ok (.istore_n 2, 1) := op_istore_n2 (gk (k := 96) (t := 8) ck_F_choose_3 rfl)
theorem d_F_choose_105 : decode y_F_choose.2.1 105 = .ok (.iload_n 3, 1) := op_iload_n3 (gk (k := 96) (t := 9) ck_F_choose_3 rfl)
theorem d_F_choose_106 : decode y_F_choose.2.1 106 = .ok (.aload_n 0, 1) := op_aload_n0 (gk (k := 96) (t := 10) ck_F_choose_3 rfl)
theorem d_F_choose_107 : decode y_F_choose.2.1 107 = .ok (.getfield 15, 3) := op_getfield (gk (k := 96) (t := 11) ck_F_choose_3 rfl) (gk (k := 96) (t := 12) ck_F_choose_3 rfl) (gk (k := 96) (t := 13) ck_F_choose_3 rfl) rfl
theorem d_F_choose_110 : decode y_F_choose.2.1 110 = .ok (.iload 4, 2) := op_iload (gk (k := 96) (t := 14) ck_F_choose_3 rfl) (gk (k := 96) (t := 15) ck_F_choose_3 rfl) rfl
theorem d_F_choose_112 : decode y_F_choose.2.1 112 = .ok (.iaload, 1) := op_iaload (gk (k := 96) (t := 16) ck_F_choose_3 rfl)
theorem d_F_choose_113 : decode y_F_choose.2.1 113 = .ok (.isub, 1) := op_isub (gk (k := 96) (t := 17) ck_F_choose_3 rfl)
theorem d_F_choose_114 : decode y_F_choose.2.1 114 = .ok (.istore_n 3, 1) := op_istore_n3 (gk (k := 96) (t := 18) ck_F_choose_3 rfl)
abbrev y_F_gather : MI := (⟨"SinglesUp$Filling", "gather", "(LSinglesUp$Lines;I)V"⟩, prog_3_method_3_code, 6, none)
theorem ck_F_gather_0 : (y_F_gather.2.1.data.toList.drop 0).take 32 = [43, 42, 180, 0, 9, 28, 182, 0, 64, 62, 42, 3, 181, 0, 46, 3, 54, 4, 21, 4, 29, 162, 0, 95, 21, 4, 17, 0, 144, 162, 0, 87] := by decide +kernel
theorem d_F_gather_0 : decode y_F_gather.2.1 0 = .ok (.aload_n 1, 1) := op_aload_n1 (gk (k := 0) (t := 0) ck_F_gather_0 rfl)
theorem d_F_gather_1 : decode y_F_gather.2.1 1 = .ok (.aload_n 0, 1) := op_aload_n0 (gk (k := 0) (t := 1) ck_F_gather_0 rfl)
theorem d_F_gather_2 : decode y_F_gather.2.1 2 = .ok (.getfield 9, 3) := op_getfield (gk (k := 0) (t := 2) ck_F_gather_0 rfl) (gk (k := 0) (t := 3) ck_F_gather_0 rfl) (gk (k := 0) (t := 4) ck_F_gather_0 rfl) rfl
theorem d_F_gather_5 : decode y_F_gather.2.1 5 = .ok (.iload_n 2, 1) := op_iload_n2 (gk (k := 0) (t := 5) ck_F_gather_0 rfl)
theorem lk_F_64 : LkV "SinglesUp$Filling" 64 y_L_listSeen := ⟨tw_c4 68 (by decide +kernel) rfl, tw_c4 69 (by decide +kernel) rfl, Or.inl (tw_c4 145 (by decide +kernel) rfl)⟩
theorem d_F_gather_6 : decode y_F_gather.2.1 6 = .ok (.invokevirtual 64, 3) := op_invokevirtual (gk (k := 0) (t := 6) ck_F_gather_0 rfl) (gk (k := 0) (t := 7) ck_F_gather_0 rfl) (gk (k := 0) (t := 8) ck_F_gather_0 rfl) rfl
theorem d_F_gather_9 : decode y_F_gather.2.1 9 = .ok (.istore_n 3, 1) := op_istore_n3 (gk (k := 0) (t := 9) ck_F_gather_0 rfl)
theorem d_F_gather_10 : decode y_F_gather.2.1 10 = .ok (.aload_n 0, 1) := op_aload_n0 (gk (k := 0) (t := 10) ck_F_gather_0 rfl)
theorem d_F_gather_11 : decode y_F_gather.2.1 11 = .ok (.iconst 0, 1) := op_iconst0 (gk (k := 0) (t := 11) ck_F_gather_0 rfl)
theorem d_F_gather_12 : decode y_F_gather.2.1 12 = .ok (.putfield 46, 3) := op_putfield (gk (k := 0) (t := 12) ck_F_gather_0 rfl) (gk (k := 0) (t := 13) ck_F_gather_0 rfl) (gk (k := 0) (t := 14) ck_F_gather_0 rfl) rfl
theorem d_F_gather_15 : decode y_F_gather.2.1 15 = .ok (.iconst 0, 1) := op_iconst0 (gk (k := 0) (t := 15) ck_F_gather_0 rfl)
theorem d_F_gather_16 : decode y_F_gather.2.1 16 = .ok (.istore 4, 2) := op_istore (gk (k := 0) (t := 16) ck_F_gather_0 rfl) (gk (k := 0) (t := 17) ck_F_gather_0 rfl) rfl
theorem d_F_gather_18 : decode y_F_gather.2.1 18 = .ok (.iload 4, 2) := op_iload (gk (k := 0) (t := 18) ck_F_gather_0 rfl) (gk (k := 0) (t := 19) ck_F_gather_0 rfl) rfl
theorem d_F_gather_20 : decode y_F_gather.2.1 20 = .ok (.iload_n 3, 1) := op_iload_n3 (gk (k := 0) (t := 20) ck_F_gather_0 rfl)
theorem d_F_gather_21 : decode y_F_gather.2.1 21 = .ok (.if_icmp .ge 95, 3) := op_icmp_ge (gk (k := 0) (t := 21) ck_F_gather_0 rfl) (gk (k := 0) (t := 22) ck_F_gather_0 rfl) (gk (k := 0) (t := 23) ck_F_gather_0 rfl) (by decide +kernel)
theorem ck_F_gather_3 : (y_F_gather.2.1.data.toList.drop 96).take 32 = [46, 21, 5, 79, 42, 89, 180, 0, 46, 4, 96, 181, 0, 46, 132, 4, 1, 167, 255, 161, 177] := by decide +kernel
theorem d_F_gather_116 : decode y_F_gather.2.1 116 = .ok (.return_, 1) := op_return_ (gk (k := 96) (t := 20) ck_F_gather_3 rfl)
theorem d_F_gather_24 : decode y_F_gather.2.1 24 = .ok (.iload 4, 2) := op_iload (gk (k := 0) (t := 24) ck_F_gather_0 rfl) (gk (k := 0) (t := 25) ck_F_gather_0 rfl) rfl
theorem d_F_gather_26 : decode y_F_gather.2.1 26 = .ok (.sipush 144, 3) := op_sipush (gk (k := 0) (t := 26) ck_F_gather_0 rfl) (gk (k := 0) (t := 27) ck_F_gather_0 rfl) (gk (k := 0) (t := 28) ck_F_gather_0 rfl) (by decide +kernel)
theorem d_F_gather_29 : decode y_F_gather.2.1 29 = .ok (.if_icmp .ge 87, 3) := op_icmp_ge (gk (k := 0) (t := 29) ck_F_gather_0 rfl) (gk (k := 0) (t := 30) ck_F_gather_0 rfl) (gk (k := 0) (t := 31) ck_F_gather_0 rfl) (by decide +kernel)
theorem ck_F_gather_1 : (y_F_gather.2.1.data.toList.drop 32).take 32 = [43, 42, 180, 0, 9, 21, 4, 46, 6, 182, 0, 70, 54, 5, 21, 5, 5, 159, 0, 61, 42, 180, 0, 9, 42, 180, 0, 46, 42, 180, 0, 9] := by decide +kernel
theorem d_F_gather_32 : decode y_F_gather.2.1 32 = .ok (.aload_n 1, 1) := op_aload_n1 (gk (k := 32) (t := 0) ck_F_gather_1 rfl)
theorem d_F_gather_33 : decode y_F_gather.2.1 33 = .ok (.aload_n 0, 1) := op_aload_n0 (gk (k := 32) (t := 1) ck_F_gather_1 rfl)
theorem d_F_gather_34 : decode y_F_gather.2.1 34 = .ok (.getfield 9, 3) := op_getfield (gk (k := 32) (t := 2) ck_F_gather_1 rfl) (gk (k := 32) (t := 3) ck_F_gather_1 rfl) (gk (k := 32) (t := 4) ck_F_gather_1 rfl) rfl
theorem d_F_gather_37 : decode y_F_gather.2.1 37 = .ok (.iload 4, 2) := op_iload (gk (k := 32) (t := 5) ck_F_gather_1 rfl) (gk (k := 32) (t := 6) ck_F_gather_1 rfl) rfl
theorem d_F_gather_39 : decode y_F_gather.2.1 39 = .ok (.iaload, 1) := op_iaload (gk (k := 32) (t := 7) ck_F_gather_1 rfl)
theorem d_F_gather_40 : decode y_F_gather.2.1 40 = .ok (.iconst 3, 1) := op_iconst3 (gk (k := 32) (t := 8) ck_F_gather_1 rfl)
theorem lk_F_70 : LkV "SinglesUp$Filling" 70 y_L_get := ⟨tw_c3 197 (by decide +kernel) rfl, tw_c3 198 (by decide +kernel) rfl, Or.inl (tw_c4 146 (by decide +kernel) rfl)⟩
theorem d_F_gather_41 : decode y_F_gather.2.1 41 = .ok (.invokevirtual 70, 3) := op_invokevirtual (gk (k := 32) (t := 9) ck_F_gather_1 rfl) (gk (k := 32) (t := 10) ck_F_gather_1 rfl) (gk (k := 32) (t := 11) ck_F_gather_1 rfl) rfl
theorem d_F_gather_44 : decode y_F_gather.2.1 44 = .ok (.istore 5, 2) := op_istore (gk (k := 32) (t := 12) ck_F_gather_1 rfl) (gk (k := 32) (t := 13) ck_F_gather_1 rfl) rfl
theorem d_F_gather_46 : decode y_F_gather.2.1 46 = .ok (.iload 5, 2) := op_iload (gk (k := 32) (t := 14) ck_F_gather_1 rfl) (gk (k := 32) (t := 15) ck_F_gather_1 rfl) rfl
theorem d_F_gather_48 : decode y_F_gather.2.1 48 = .ok (.iconst 2, 1) := op_iconst2 (gk (k := 32) (t := 16) ck_F_gather_1 rfl)
theorem d_F_gather_110 : decode y_F_gather.2.1 110 = .ok (.iinc 4 1, 3) := op_iinc (gk (k := 96) (t := 14) ck_F_gather_3 rfl) (gk (k := 96) (t := 15) ck_F_gather_3 rfl) (gk (k := 96) (t := 16) ck_F_gather_3 rfl) rfl rfl
theorem d_F_gather_113 : decode y_F_gather.2.1 113 = .ok (.goto (-95), 3) := op_goto (gk (k := 96) (t := 17) ck_F_gather_3 rfl) (gk (k := 96) (t := 18) ck_F_gather_3 rfl) (gk (k := 96) (t := 19) ck_F_gather_3 rfl) (by decide +kernel)
theorem d_F_gather_49 : decode y_F_gather.2.1 49 = .ok (.if_icmp .eq 61, 3) := op_icmp_eq (gk (k := 32) (t := 17) ck_F_gather_1 rfl) (gk (k := 32) (t := 18) ck_F_gather_1 rfl) (gk (k := 32) (t := 19) ck_F_gather_1 rfl) (by decide +kernel)
theorem d_F_gather_52 : decode y_F_gather.2.1 52 = .ok (.aload_n 0, 1) := op_aload_n0 (gk (k := 32) (t := 20) ck_F_gather_1 rfl)
theorem d_F_gather_53 : decode y_F_gather.2.1 53 = .ok (.getfield 9, 3) := op_getfield (gk (k := 32) (t := 21) ck_F_gather_1 rfl) (gk (k := 32) (t := 22) ck_F_gather_1 rfl) (gk (k := 32) (t := 23) ck_F_gather_1 rfl) rfl
theorem d_F_gather_56 : decode y_F_gather.2.1 56 = .ok (.aload_n 0, 1) := op_aload_n0 (gk (k := 32) (t := 24) ck_F_gather_1 rfl)
theorem d_F_gather_57 : decode y_F_gather.2.1 57 = .ok (.getfield 46, 3) := op_getfield (gk (k := 32) (t := 25) ck_F_gather_1 rfl) (gk (k := 32) (t := 26) ck_F_gather_1 rfl) (gk (k := 32) (t := 27) ck_F_gather_1 rfl) rfl
theorem d_F_gather_60 : decode y_F_gather.2.1 60 = .ok (.aload_n 0, 1) := op_aload_n0 (gk (k := 32) (t := 28) ck_F_gather_1 rfl)
theorem d_F_gather_61 : decode y_F_gather.2.1 61 = .ok (.getfield 9, 3) := op_getfield (gk (k := 32) (t := 29) ck_F_gather_1 rfl) (gk (k := 32) (t := 30) ck_F_gather_1 rfl) (gk (k := 32) (t := 31) ck_F_gather_1 rfl) rfl
theorem ck_F_gather_2 : (y_F_gather.2.1.data.toList.drop 64).take 32 = [21, 4, 46, 79, 42, 180, 0, 15, 42, 180, 0, 46, 43, 42, 180, 0, 9, 21, 4, 46, 4, 182, 0, 70, 79, 42, 180, 0, 18, 42, 180, 0] := by decide +kernel
theorem d_F_gather_64 : decode y_F_gather.2.1 64 = .ok (.iload 4, 2) := op_iload (gk (k := 64) (t := 0) ck_F_gather_2 rfl) (gk (k := 64) (t := 1) ck_F_gather_2 rfl) rfl
theorem d_F_gather_66 : decode y_F_gather.2.1 66 = .ok (.iaload, 1) := op_iaload (gk (k := 64) (t := 2) ck_F_gather_2 rfl)
theorem d_F_gather_67 : decode y_F_gather.2.1 67 = .ok (.iastore, 1) := op_iastore (gk (k := 64) (t := 3) ck_F_gather_2 rfl)
theorem d_F_gather_68 : decode y_F_gather.2.1 68 = .ok (.aload_n 0, 1) := op_aload_n0 (gk (k := 64) (t := 4) ck_F_gather_2 rfl)
theorem d_F_gather_69 : decode y_F_gather.2.1 69 = .ok (.getfield 15, 3) := op_getfield (gk (k := 64) (t := 5) ck_F_gather_2 rfl) (gk (k := 64) (t := 6) ck_F_gather_2 rfl) (gk (k := 64) (t := 7) ck_F_gather_2 rfl) rfl
theorem d_F_gather_72 : decode y_F_gather.2.1 72 = .ok (.aload_n 0, 1) := op_aload_n0 (gk (k := 64) (t := 8) ck_F_gather_2 rfl)
theorem d_F_gather_73 : decode y_F_gather.2.1 73 = .ok (.getfield 46, 3) := op_getfield (gk (k := 64) (t := 9) ck_F_gather_2 rfl) (gk (k := 64) (t := 10) ck_F_gather_2 rfl) (gk (k := 64) (t := 11) ck_F_gather_2 rfl) rfl
theorem d_F_gather_76 : decode y_F_gather.2.1 76 = .ok (.aload_n 1, 1) := op_aload_n1 (gk (k := 64) (t := 12) ck_F_gather_2 rfl)
theorem d_F_gather_77 : decode y_F_gather.2.1 77 = .ok (.aload_n 0, 1) := op_aload_n0 (gk (k := 64) (t := 13) ck_F_gather_2 rfl)
theorem d_F_gather_78 : decode y_F_gather.2.1 78 = .ok (.getfield 9, 3) := op_getfield (gk (k := 64) (t := 14) ck_F_gather_2 rfl) (gk (k := 64) (t := 15) ck_F_gather_2 rfl) (gk (k := 64) (t := 16) ck_F_gather_2 rfl) rfl
theorem d_F_gather_81 : decode y_F_gather.2.1 81 = .ok (.iload 4, 2) := op_iload (gk (k := 64) (t := 17) ck_F_gather_2 rfl) (gk (k := 64) (t := 18) ck_F_gather_2 rfl) rfl
theorem d_F_gather_83 : decode y_F_gather.2.1 83 = .ok (.iaload, 1) := op_iaload (gk (k := 64) (t := 19) ck_F_gather_2 rfl)
theorem d_F_gather_84 : decode y_F_gather.2.1 84 = .ok (.iconst 1, 1) := op_iconst1 (gk (k := 64) (t := 20) ck_F_gather_2 rfl)
theorem d_F_gather_85 : decode y_F_gather.2.1 85 = .ok (.invokevirtual 70, 3) := op_invokevirtual (gk (k := 64) (t := 21) ck_F_gather_2 rfl) (gk (k := 64) (t := 22) ck_F_gather_2 rfl) (gk (k := 64) (t := 23) ck_F_gather_2 rfl) rfl
theorem d_F_gather_88 : decode y_F_gather.2.1 88 = .ok (.iastore, 1) := op_iastore (gk (k := 64) (t := 24) ck_F_gather_2 rfl)
theorem d_F_gather_89 : decode y_F_gather.2.1 89 = .ok (.aload_n 0, 1) := op_aload_n0 (gk (k := 64) (t := 25) ck_F_gather_2 rfl)
theorem d_F_gather_90 : decode y_F_gather.2.1 90 = .ok (.getfield 18, 3) := op_getfield (gk (k := 64) (t := 26) ck_F_gather_2 rfl) (gk (k := 64) (t := 27) ck_F_gather_2 rfl) (gk (k := 64) (t := 28) ck_F_gather_2 rfl) rfl
theorem d_F_gather_93 : decode y_F_gather.2.1 93 = .ok (.aload_n 0, 1) := op_aload_n0 (gk (k := 64) (t := 29) ck_F_gather_2 rfl)
theorem d_F_gather_94 : decode y_F_gather.2.1 94 = .ok (.getfield 46, 3) := op_getfield (gk (k := 64) (t := 30) ck_F_gather_2 rfl) (gk (k := 64) (t := 31) ck_F_gather_2 rfl) (gk (k := 96) (t := 0) ck_F_gather_3 rfl) rfl
theorem d_F_gather_97 : decode y_F_gather.2.1 97 = .ok (.iload 5, 2) := op_iload (gk (k := 96) (t := 1) ck_F_gather_3 rfl) (gk (k := 96) (t := 2) ck_F_gather_3 rfl) rfl
theorem d_F_gather_99 : decode y_F_gather.2.1 99 = .ok (.iastore, 1) := op_iastore (gk (k := 96) (t := 3) ck_F_gather_3 rfl)
theorem d_F_gather_100 : decode y_F_gather.2.1 100 = .ok (.aload_n 0, 1) := op_aload_n0 (gk (k := 96) (t := 4) ck_F_gather_3 rfl)
theorem d_F_gather_101 : decode y_F_gather.2.1 101 = .ok (.dup, 1) := op_dup (gk (k := 96) (t := 5) ck_F_gather_3 rfl)
theorem d_F_gather_102 : decode y_F_gather.2.1 102 = .ok (.getfield 46, 3) := op_getfield (gk (k := 96) (t := 6) ck_F_gather_3 rfl) (gk (k := 96) (t := 7) ck_F_gather_3 rfl) (gk (k := 96) (t := 8) ck_F_gather_3 rfl) rfl
theorem d_F_gather_105 : decode y_F_gather.2.1 105 = .ok (.iconst 1, 1) := op_iconst1 (gk (k := 96) (t := 9) ck_F_gather_3 rfl)
theorem d_F_gather_106 : decode y_F_gather.2.1 106 = .ok (.iadd, 1) := op_iadd (gk (k := 96) (t := 10) ck_F_gather_3 rfl)
theorem d_F_gather_107 : decode y_F_gather.2.1 107 = .ok (.putfield 46, 3) := op_putfield (gk (k := 96) (t := 11) ck_F_gather_3 rfl) (gk (k := 96) (t := 12) ck_F_gather_3 rfl) (gk (k := 96) (t := 13) ck_F_gather_3 rfl) rfl
abbrev y_F_fillMost : MI := (⟨"SinglesUp$Filling", "fillMost", "(LSinglesUp$Hill;I)I"⟩, prog_3_method_2_code, 7, some .int)
theorem ck_F_fillMost_0 : (y_F_fillMost.2.1.data.toList.drop 0).take 32 = [43, 180, 0, 27, 3, 46, 16, 8, 184, 0, 32, 62, 42, 43, 180, 0, 38, 28, 182, 0, 42, 3, 54, 4, 21, 4, 16, 9, 162, 0, 57, 42] := by decide +kernel
theorem d_F_fillMost_0 : decode y_F_fillMost.2.1 0 = .ok (.aload_n 1, 1) := op_aload_n1 (gk (k := 0) (t := 0) ck_F_fillMost_0 rfl)
theorem fl_F_27 : FL "SinglesUp$Filling" 27 2 0 := ⟨"SinglesUp$Hill", zT2, 14, rfl, by decide, rfl, Or.inr ⟨"SinglesUp", nw_in 85 (by decide +kernel) rfl⟩⟩
theorem d_F_fillMost_1 : decode y_F_fillMost.2.1 1 = .ok (.getfield 27, 3) := op_getfield (gk (k := 0) (t := 1) ck_F_fillMost_0 rfl) (gk (k := 0) (t := 2) ck_F_fillMost_0 rfl) (gk (k := 0) (t := 3) ck_F_fillMost_0 rfl) rfl
theorem d_F_fillMost_4 : decode y_F_fillMost.2.1 4 = .ok (.iconst 0, 1) := op_iconst0 (gk (k := 0) (t := 4) ck_F_fillMost_0 rfl)
theorem d_F_fillMost_5 : decode y_F_fillMost.2.1 5 = .ok (.iaload, 1) := op_iaload (gk (k := 0) (t := 5) ck_F_fillMost_0 rfl)
theorem d_F_fillMost_6 : decode y_F_fillMost.2.1 6 = .ok (.bipush 8, 2) := op_bipush (gk (k := 0) (t := 6) ck_F_fillMost_0 rfl) (gk (k := 0) (t := 7) ck_F_fillMost_0 rfl) rfl
theorem lk_F_32 : LkS "SinglesUp$Filling" 32 y_JM_min := ⟨tw_c3 46 (by decide +kernel) rfl, Or.inl (tw_c4 140 (by decide +kernel) rfl)⟩
theorem d_F_fillMost_8 : decode y_F_fillMost.2.1 8 = .ok (.invokestatic 32, 3) := op_invokestatic (gk (k := 0) (t := 8) ck_F_fillMost_0 rfl) (gk (k := 0) (t := 9) ck_F_fillMost_0 rfl) (gk (k := 0) (t := 10) ck_F_fillMost_0 rfl) rfl
theorem d_F_fillMost_11 : decode y_F_fillMost.2.1 11 = .ok (.istore_n 3, 1) := op_istore_n3 (gk (k := 0) (t := 11) ck_F_fillMost_0 rfl)
theorem d_F_fillMost_12 : decode y_F_fillMost.2.1 12 = .ok (.aload_n 0, 1) := op_aload_n0 (gk (k := 0) (t := 12) ck_F_fillMost_0 rfl)
theorem d_F_fillMost_13 : decode y_F_fillMost.2.1 13 = .ok (.aload_n 1, 1) := op_aload_n1 (gk (k := 0) (t := 13) ck_F_fillMost_0 rfl)
theorem fl_F_38 : FL "SinglesUp$Filling" 38 2 5 := ⟨"SinglesUp$Hill", zT2, 14, rfl, by decide, rfl, Or.inr ⟨"SinglesUp", nw_in 98 (by decide +kernel) rfl⟩⟩
theorem d_F_fillMost_14 : decode y_F_fillMost.2.1 14 = .ok (.getfield 38, 3) := op_getfield (gk (k := 0) (t := 14) ck_F_fillMost_0 rfl) (gk (k := 0) (t := 15) ck_F_fillMost_0 rfl) (gk (k := 0) (t := 16) ck_F_fillMost_0 rfl) rfl
theorem d_F_fillMost_17 : decode y_F_fillMost.2.1 17 = .ok (.iload_n 2, 1) := op_iload_n2 (gk (k := 0) (t := 17) ck_F_fillMost_0 rfl)
theorem lk_F_42 : LkV "SinglesUp$Filling" 42 y_F_gather := ⟨tw_c4 143 (by decide +kernel) rfl, tw_in 29 (by decide +kernel) rfl, Or.inl (tw_c4 141 (by decide +kernel) rfl)⟩
set_option maxRecDepth 100000 in
theorem mo_F_gather : MOk y_F_gather 2 := ⟨by decide +kernel, tw_c4 144 rfl rfl, tw_c1 9 (by decide +kernel) rfl, by decide +kernel, by decide +kernel, by decide +kernel⟩
theorem d_F_fillMost_18 : decode y_F_fillMost.2.1 18 = .ok (.invokevirtual 42, 3) := op_invokevirtual (gk (k := 0) (t := 18) ck_F_fillMost_0 rfl) (gk (k := 0) (t := 19) ck_F_fillMost_0 rfl) (gk (k := 0) (t := 20) ck_F_fillMost_0 rfl) rfl
theorem d_F_fillMost_21 : decode y_F_fillMost.2.1 21 = .ok (.iconst 0, 1) := op_iconst0 (gk (k := 0) (t := 21) ck_F_fillMost_0 rfl)
theorem d_F_fillMost_22 : decode y_F_fillMost.2.1 22 = .ok (.istore 4, 2) := op_istore (gk (k := 0) (t := 22) ck_F_fillMost_0 rfl) (gk (k := 0) (t := 23) ck_F_fillMost_0 rfl) rfl
theorem d_F_fillMost_24 : decode y_F_fillMost.2.1 24 = .ok (.iload 4, 2) := op_iload (gk (k := 0) (t := 24) ck_F_fillMost_0 rfl) (gk (k := 0) (t := 25) ck_F_fillMost_0 rfl) rfl
theorem d_F_fillMost_26 : decode y_F_fillMost.2.1 26 = .ok (.bipush 9, 2) := op_bipush (gk (k := 0) (t := 26) ck_F_fillMost_0 rfl) (gk (k := 0) (t := 27) ck_F_fillMost_0 rfl) rfl
theorem d_F_fillMost_28 : decode y_F_fillMost.2.1 28 = .ok (.if_icmp .ge 57, 3) := op_icmp_ge (gk (k := 0) (t := 28) ck_F_fillMost_0 rfl) (gk (k := 0) (t := 29) ck_F_fillMost_0 rfl) (gk (k := 0) (t := 30) ck_F_fillMost_0 rfl) (by decide +kernel)
theorem d_F_fillMost_31 : decode y_F_fillMost.2.1 31 = .ok (.aload_n 0, 1) := op_aload_n0 (gk (k := 0) (t := 31) ck_F_fillMost_0 rfl)
theorem ck_F_fillMost_1 : (y_F_fillMost.2.1.data.toList.drop 32).take 32 = [180, 0, 21, 42, 180, 0, 46, 3, 21, 4, 184, 0, 50, 3, 79, 42, 180, 0, 21, 42, 180, 0, 46, 4, 21, 4, 184, 0, 50, 2, 79, 42] := by decide +kernel
theorem d_F_fillMost_32 : decode y_F_fillMost.2.1 32 = .ok (.getfield 21, 3) := op_getfield (gk (k := 32) (t := 0) ck_F_fillMost_1 rfl) (gk (k := 32) (t := 1) ck_F_fillMost_1 rfl) (gk (k := 32) (t := 2) ck_F_fillMost_1 rfl) rfl
theorem d_F_fillMost_35 : decode y_F_fillMost.2.1 35 = .ok (.aload_n 0, 1) := op_aload_n0 (gk (k := 32) (t := 3) ck_F_fillMost_1 rfl)
theorem d_F_fillMost_36 : decode y_F_fillMost.2.1 36 = .ok (.getfield 46, 3) := op_getfield (gk (k := 32) (t := 4) ck_F_fillMost_1 rfl) (gk (k := 32) (t := 5) ck_F_fillMost_1 rfl) (gk (k := 32) (t := 6) ck_F_fillMost_1 rfl) rfl
theorem d_F_fillMost_39 : decode y_F_fillMost.2.1 39 = .ok (.iconst 0, 1) := op_iconst0 (gk (k := 32) (t := 7) ck_F_fillMost_1 rfl)
theorem d_F_fillMost_40 : decode y_F_fillMost.2.1 40 = .ok (.iload 4, 2) := op_iload (gk (k := 32) (t := 8) ck_F_fillMost_1 rfl) (gk (k := 32) (t := 9) ck_F_fillMost_1 rfl) rfl
theorem d_F_fillMost_42 : decode y_F_fillMost.2.1 42 = .ok (.invokestatic 50, 3) := op_invokestatic (gk (k := 32) (t := 10) ck_F_fillMost_1 rfl) (gk (k := 32) (t := 11) ck_F_fillMost_1 rfl) (gk (k := 32) (t := 12) ck_F_fillMost_1 rfl) rfl
theorem d_F_fillMost_45 : decode y_F_fillMost.2.1 45 = .ok (.iconst 0, 1) := op_iconst0 (gk (k := 32) (t := 13) ck_F_fillMost_1 rfl)
theorem d_F_fillMost_46 : decode y_F_fillMost.2.1 46 = .ok (.iastore, 1) := op_iastore (gk (k := 32) (t := 14) ck_F_fillMost_1 rfl)
theorem d_F_fillMost_47 : decode y_F_fillMost.2.1 47 = .ok (.aload_n 0, 1) := op_aload_n0 (gk (k := 32) (t := 15) ck_F_fillMost_1 rfl)
theorem d_F_fillMost_48 : decode y_F_fillMost.2.1 48 = .ok (.getfield 21, 3) := op_getfield (gk (k := 32) (t := 16) ck_F_fillMost_1 rfl) (gk (k := 32) (t := 17) ck_F_fillMost_1 rfl) (gk (k := 32) (t := 18) ck_F_fillMost_1 rfl) rfl
theorem d_F_fillMost_51 : decode y_F_fillMost.2.1 51 = .ok (.aload_n 0, 1) := op_aload_n0 (gk (k := 32) (t := 19) ck_F_fillMost_1 rfl)
theorem d_F_fillMost_52 : decode y_F_fillMost.2.1 52 = .ok (.getfield 46, 3) := op_getfield (gk (k := 32) (t := 20) ck_F_fillMost_1 rfl) (gk (k := 32) (t := 21) ck_F_fillMost_1 rfl) (gk (k := 32) (t := 22) ck_F_fillMost_1 rfl) rfl
theorem d_F_fillMost_55 : decode y_F_fillMost.2.1 55 = .ok (.iconst 1, 1) := op_iconst1 (gk (k := 32) (t := 23) ck_F_fillMost_1 rfl)
theorem d_F_fillMost_56 : decode y_F_fillMost.2.1 56 = .ok (.iload 4, 2) := op_iload (gk (k := 32) (t := 24) ck_F_fillMost_1 rfl) (gk (k := 32) (t := 25) ck_F_fillMost_1 rfl) rfl
theorem d_F_fillMost_58 : decode y_F_fillMost.2.1 58 = .ok (.invokestatic 50, 3) := op_invokestatic (gk (k := 32) (t := 26) ck_F_fillMost_1 rfl) (gk (k := 32) (t := 27) ck_F_fillMost_1 rfl) (gk (k := 32) (t := 28) ck_F_fillMost_1 rfl) rfl
theorem d_F_fillMost_61 : decode y_F_fillMost.2.1 61 = .ok (.iconst (-1), 1) := op_iconstm1 (gk (k := 32) (t := 29) ck_F_fillMost_1 rfl)
theorem d_F_fillMost_62 : decode y_F_fillMost.2.1 62 = .ok (.iastore, 1) := op_iastore (gk (k := 32) (t := 30) ck_F_fillMost_1 rfl)
theorem d_F_fillMost_63 : decode y_F_fillMost.2.1 63 = .ok (.aload_n 0, 1) := op_aload_n0 (gk (k := 32) (t := 31) ck_F_fillMost_1 rfl)
theorem ck_F_fillMost_2 : (y_F_fillMost.2.1.data.toList.drop 64).take 32 = [180, 0, 21, 42, 180, 0, 46, 5, 21, 4, 184, 0, 50, 3, 79, 132, 4, 1, 167, 255, 198, 42, 180, 0, 46, 4, 100, 54, 4, 21, 4, 155] := by decide +kernel
theorem d_F_fillMost_64 : decode y_F_fillMost.2.1 64 = .ok (.getfield 21, 3) := op_getfield (gk (k := 64) (t := 0) ck_F_fillMost_2 rfl) (gk (k := 64) (t := 1) ck_F_fillMost_2 rfl) (gk (k := 64) (t := 2) ck_F_fillMost_2 rfl) rfl
theorem d_F_fillMost_67 : decode y_F_fillMost.2.1 67 = .ok (.aload_n 0, 1) := op_aload_n0 (gk (k := 64) (t := 3) ck_F_fillMost_2 rfl)
theorem d_F_fillMost_68 : decode y_F_fillMost.2.1 68 = .ok (.getfield 46, 3) := op_getfield (gk (k := 64) (t := 4) ck_F_fillMost_2 rfl) (gk (k := 64) (t := 5) ck_F_fillMost_2 rfl) (gk (k := 64) (t := 6) ck_F_fillMost_2 rfl) rfl
theorem d_F_fillMost_71 : decode y_F_fillMost.2.1 71 = .ok (.iconst 2, 1) := op_iconst2 (gk (k := 64) (t := 7) ck_F_fillMost_2 rfl)
theorem d_F_fillMost_72 : decode y_F_fillMost.2.1 72 = .ok (.iload 4, 2) := op_iload (gk (k := 64) (t := 8) ck_F_fillMost_2 rfl) (gk (k := 64) (t := 9) ck_F_fillMost_2 rfl) rfl
theorem d_F_fillMost_74 : decode y_F_fillMost.2.1 74 = .ok (.invokestatic 50, 3) := op_invokestatic (gk (k := 64) (t := 10) ck_F_fillMost_2 rfl) (gk (k := 64) (t := 11) ck_F_fillMost_2 rfl) (gk (k := 64) (t := 12) ck_F_fillMost_2 rfl) rfl
theorem d_F_fillMost_77 : decode y_F_fillMost.2.1 77 = .ok (.iconst 0, 1) := op_iconst0 (gk (k := 64) (t := 13) ck_F_fillMost_2 rfl)
theorem d_F_fillMost_78 : decode y_F_fillMost.2.1 78 = .ok (.iastore, 1) := op_iastore (gk (k := 64) (t := 14) ck_F_fillMost_2 rfl)
theorem d_F_fillMost_79 : decode y_F_fillMost.2.1 79 = .ok (.iinc 4 1, 3) := op_iinc (gk (k := 64) (t := 15) ck_F_fillMost_2 rfl) (gk (k := 64) (t := 16) ck_F_fillMost_2 rfl) (gk (k := 64) (t := 17) ck_F_fillMost_2 rfl) rfl rfl
theorem d_F_fillMost_82 : decode y_F_fillMost.2.1 82 = .ok (.goto (-58), 3) := op_goto (gk (k := 64) (t := 18) ck_F_fillMost_2 rfl) (gk (k := 64) (t := 19) ck_F_fillMost_2 rfl) (gk (k := 64) (t := 20) ck_F_fillMost_2 rfl) (by decide +kernel)
theorem d_F_fillMost_85 : decode y_F_fillMost.2.1 85 = .ok (.aload_n 0, 1) := op_aload_n0 (gk (k := 64) (t := 21) ck_F_fillMost_2 rfl)
theorem d_F_fillMost_86 : decode y_F_fillMost.2.1 86 = .ok (.getfield 46, 3) := op_getfield (gk (k := 64) (t := 22) ck_F_fillMost_2 rfl) (gk (k := 64) (t := 23) ck_F_fillMost_2 rfl) (gk (k := 64) (t := 24) ck_F_fillMost_2 rfl) rfl
theorem d_F_fillMost_89 : decode y_F_fillMost.2.1 89 = .ok (.iconst 1, 1) := op_iconst1 (gk (k := 64) (t := 25) ck_F_fillMost_2 rfl)
theorem d_F_fillMost_90 : decode y_F_fillMost.2.1 90 = .ok (.isub, 1) := op_isub (gk (k := 64) (t := 26) ck_F_fillMost_2 rfl)
theorem d_F_fillMost_91 : decode y_F_fillMost.2.1 91 = .ok (.istore 4, 2) := op_istore (gk (k := 64) (t := 27) ck_F_fillMost_2 rfl) (gk (k := 64) (t := 28) ck_F_fillMost_2 rfl) rfl
theorem d_F_fillMost_93 : decode y_F_fillMost.2.1 93 = .ok (.iload 4, 2) := op_iload (gk (k := 64) (t := 29) ck_F_fillMost_2 rfl) (gk (k := 64) (t := 30) ck_F_fillMost_2 rfl) rfl
theorem ck_F_fillMost_3 : (y_F_fillMost.2.1.data.toList.drop 96).take 32 = [0, 83, 3, 54, 5, 21, 5, 5, 163, 0, 68, 3, 54, 6, 21, 6, 16, 9, 162, 0, 52, 42, 180, 0, 21, 21, 4, 21, 5, 21, 6, 184] := by decide +kernel
theorem d_F_fillMost_95 : decode y_F_fillMost.2.1 95 = .ok (.ifCond .lt 83, 3) := op_if_lt (gk (k := 64) (t := 31) ck_F_fillMost_2 rfl) (gk (k := 96) (t := 0) ck_F_fillMost_3 rfl) (gk (k := 96) (t := 1) ck_F_fillMost_3 rfl) (by decide +kernel)
theorem d_F_fillMost_98 : decode y_F_fillMost.2.1 98 = .ok (.iconst 0, 1) := op_iconst0 (gk (k := 96) (t := 2) ck_F_fillMost_3 rfl)
theorem d_F_fillMost_99 : decode y_F_fillMost.2.1 99 = .ok (.istore 5, 2) := op_istore (gk (k := 96) (t := 3) ck_F_fillMost_3 rfl) (gk (k := 96) (t := 4) ck_F_fillMost_3 rfl) rfl
theorem d_F_fillMost_101 : decode y_F_fillMost.2.1 101 = .ok (.iload 5, 2) := op_iload (gk (k := 96) (t := 5) ck_F_fillMost_3 rfl) (gk (k := 96) (t := 6) ck_F_fillMost_3 rfl) rfl
theorem d_F_fillMost_103 : decode y_F_fillMost.2.1 103 = .ok (.iconst 2, 1) := op_iconst2 (gk (k := 96) (t := 7) ck_F_fillMost_3 rfl)
theorem d_F_fillMost_104 : decode y_F_fillMost.2.1 104 = .ok (.if_icmp .gt 68, 3) := op_icmp_gt (gk (k := 96) (t := 8) ck_F_fillMost_3 rfl) (gk (k := 96) (t := 9) ck_F_fillMost_3 rfl) (gk (k := 96) (t := 10) ck_F_fillMost_3 rfl) (by decide +kernel)
theorem d_F_fillMost_107 : decode y_F_fillMost.2.1 107 = .ok (.iconst 0, 1) := op_iconst0 (gk (k := 96) (t := 11) ck_F_fillMost_3 rfl)
theorem d_F_fillMost_108 : decode y_F_fillMost.2.1 108 = .ok (.istore 6, 2) := op_istore (gk (k := 96) (t := 12) ck_F_fillMost_3 rfl) (gk (k := 96) (t := 13) ck_F_fillMost_3 rfl) rfl
theorem d_F_fillMost_110 : decode y_F_fillMost.2.1 110 = .ok (.iload 6, 2) := op_iload (gk (k := 96) (t := 14) ck_F_fillMost_3 rfl) (gk (k := 96) (t := 15) ck_F_fillMost_3 rfl) rfl
theorem d_F_fillMost_112 : decode y_F_fillMost.2.1 112 = .ok (.bipush 9, 2) := op_bipush (gk (k := 96) (t := 16) ck_F_fillMost_3 rfl) (gk (k := 96) (t := 17) ck_F_fillMost_3 rfl) rfl
theorem d_F_fillMost_114 : decode y_F_fillMost.2.1 114 = .ok (.if_icmp .ge 52, 3) := op_icmp_ge (gk (k := 96) (t := 18) ck_F_fillMost_3 rfl) (gk (k := 96) (t := 19) ck_F_fillMost_3 rfl) (gk (k := 96) (t := 20) ck_F_fillMost_3 rfl) (by decide +kernel)
theorem d_F_fillMost_117 : decode y_F_fillMost.2.1 117 = .ok (.aload_n 0, 1) := op_aload_n0 (gk (k := 96) (t := 21) ck_F_fillMost_3 rfl)
theorem d_F_fillMost_118 : decode y_F_fillMost.2.1 118 = .ok (.getfield 21, 3) := op_getfield (gk (k := 96) (t := 22) ck_F_fillMost_3 rfl) (gk (k := 96) (t := 23) ck_F_fillMost_3 rfl) (gk (k := 96) (t := 24) ck_F_fillMost_3 rfl) rfl
theorem d_F_fillMost_121 : decode y_F_fillMost.2.1 121 = .ok (.iload 4, 2) := op_iload (gk (k := 96) (t := 25) ck_F_fillMost_3 rfl) (gk (k := 96) (t := 26) ck_F_fillMost_3 rfl) rfl
theorem d_F_fillMost_123 : decode y_F_fillMost.2.1 123 = .ok (.iload 5, 2) := op_iload (gk (k := 96) (t := 27) ck_F_fillMost_3 rfl) (gk (k := 96) (t := 28) ck_F_fillMost_3 rfl) rfl
theorem d_F_fillMost_125 : decode y_F_fillMost.2.1 125 = .ok (.iload 6, 2) := op_iload (gk (k := 96) (t := 29) ck_F_fillMost_3 rfl) (gk (k := 96) (t := 30) ck_F_fillMost_3 rfl) rfl
theorem ck_F_fillMost_4 : (y_F_fillMost.2.1.data.toList.drop 128).take 32 = [0, 50, 42, 180, 0, 21, 21, 4, 4, 96, 21, 5, 21, 6, 184, 0, 50, 46, 42, 21, 4, 21, 5, 21, 6, 182, 0, 54, 184, 0, 57, 79] := by decide +kernel
theorem d_F_fillMost_127 : decode y_F_fillMost.2.1 127 = .ok (.invokestatic 50, 3) := op_invokestatic (gk (k := 96) (t := 31) ck_F_fillMost_3 rfl) (gk (k := 128) (t := 0) ck_F_fillMost_4 rfl) (gk (k := 128) (t := 1) ck_F_fillMost_4 rfl) rfl
theorem d_F_fillMost_130 : decode y_F_fillMost.2.1 130 = .ok (.aload_n 0, 1) := op_aload_n0 (gk (k := 128) (t := 2) ck_F_fillMost_4 rfl)
theorem d_F_fillMost_131 : decode y_F_fillMost.2.1 131 = .ok (.getfield 21, 3) := op_getfield (gk (k := 128) (t := 3) ck_F_fillMost_4 rfl) (gk (k := 128) (t := 4) ck_F_fillMost_4 rfl) (gk (k := 128) (t := 5) ck_F_fillMost_4 rfl) rfl
theorem d_F_fillMost_134 : decode y_F_fillMost.2.1 134 = .ok (.iload 4, 2) := op_iload (gk (k := 128) (t := 6) ck_F_fillMost_4 rfl) (gk (k := 128) (t := 7) ck_F_fillMost_4 rfl) rfl
theorem d_F_fillMost_136 : decode y_F_fillMost.2.1 136 = .ok (.iconst 1, 1) := op_iconst1 (gk (k := 128) (t := 8) ck_F_fillMost_4 rfl)
theorem d_F_fillMost_137 : decode y_F_fillMost.2.1 137 = .ok (.iadd, 1) := op_iadd (gk (k := 128) (t := 9) ck_F_fillMost_4 rfl)
theorem d_F_fillMost_138 : decode y_F_fillMost.2.1 138 = .ok (.iload 5, 2) := op_iload (gk (k := 128) (t := 10) ck_F_fillMost_4 rfl) (gk (k := 128) (t := 11) ck_F_fillMost_4 rfl) rfl
theorem d_F_fillMost_140 : decode y_F_fillMost.2.1 140 = .ok (.iload 6, 2) := op_iload (gk (k := 128) (t := 12) ck_F_fillMost_4 rfl) (gk (k := 128) (t := 13) ck_F_fillMost_4 rfl) rfl
theorem d_F_fillMost_142 : decode y_F_fillMost.2.1 142 = .ok (.invokestatic 50, 3) := op_invokestatic (gk (k := 128) (t := 14) ck_F_fillMost_4 rfl) (gk (k := 128) (t := 15) ck_F_fillMost_4 rfl) (gk (k := 128) (t := 16) ck_F_fillMost_4 rfl) rfl
theorem d_F_fillMost_145 : decode y_F_fillMost.2.1 145 = .ok (.iaload, 1) := op_iaload (gk (k := 128) (t := 17) ck_F_fillMost_4 rfl)
theorem d_F_fillMost_146 : decode y_F_fillMost.2.1 146 = .ok (.aload_n 0, 1) := op_aload_n0 (gk (k := 128) (t := 18) ck_F_fillMost_4 rfl)
theorem d_F_fillMost_147 : decode y_F_fillMost.2.1 147 = .ok (.iload 4, 2) := op_iload (gk (k := 128) (t := 19) ck_F_fillMost_4 rfl) (gk (k := 128) (t := 20) ck_F_fillMost_4 rfl) rfl
theorem d_F_fillMost_149 : decode y_F_fillMost.2.1 149 = .ok (.iload 5, 2) := op_iload (gk (k := 128) (t := 21) ck_F_fillMost_4 rfl) (gk (k := 128) (t := 22) ck_F_fillMost_4 rfl) rfl
theorem d_F_fillMost_151 : decode y_F_fillMost.2.1 151 = .ok (.iload 6, 2) := op_iload (gk (k := 128) (t := 23) ck_F_fillMost_4 rfl) (gk (k := 128) (t := 24) ck_F_fillMost_4 rfl) rfl
theorem d_F_fillMost_153 : decode y_F_fillMost.2.1 153 = .ok (.invokevirtual 54, 3) := op_invokevirtual (gk (k := 128) (t := 25) ck_F_fillMost_4 rfl) (gk (k := 128) (t := 26) ck_F_fillMost_4 rfl) (gk (k := 128) (t := 27) ck_F_fillMost_4 rfl) rfl
theorem lk_F_57 : LkS "SinglesUp$Filling" 57 y_JM_max := ⟨tw_c3 26 (by decide +kernel) rfl, Or.inl (tw_c4 158 (by decide +kernel) rfl)⟩
theorem d_F_fillMost_156 : decode y_F_fillMost.2.1 156 = .ok (.invokestatic 57, 3) := op_invokestatic (gk (k := 128) (t := 28) ck_F_fillMost_4 rfl) (gk (k := 128) (t := 29) ck_F_fillMost_4 rfl) (gk (k := 128) (t := 30) ck_F_fillMost_4 rfl) rfl
theorem d_F_fillMost_159 : decode y_F_fillMost.2.1 159 = .ok (.iastore, 1) := op_iastore (gk (k := 128) (t := 31) ck_F_fillMost_4 rfl)
theorem ck_F_fillMost_5 : (y_F_fillMost.2.1.data.toList.drop 160).take 32 = [132, 6, 1, 167, 255, 203, 132, 5, 1, 167, 255, 188, 132, 4, 255, 167, 255, 174, 42, 29, 182, 0, 60, 42, 180, 0, 21, 3, 3, 29, 184, 0] := by decide +kernel
theorem d_F_fillMost_160 : decode y_F_fillMost.2.1 160 = .ok (.iinc 6 1, 3) := op_iinc (gk (k := 160) (t := 0) ck_F_fillMost_5 rfl) (gk (k := 160) (t := 1) ck_F_fillMost_5 rfl) (gk (k := 160) (t := 2) ck_F_fillMost_5 rfl) rfl rfl
theorem d_F_fillMost_163 : decode y_F_fillMost.2.1 163 = .ok (.goto (-53), 3) := op_goto (gk (k := 160) (t := 3) ck_F_fillMost_5 rfl) (gk (k := 160) (t := 4) ck_F_fillMost_5 rfl) (gk (k := 160) (t := 5) ck_F_fillMost_5 rfl) (by decide +kernel)
theorem d_F_fillMost_166 : decode y_F_fillMost.2.1 166 = .ok (.iinc 5 1, 3) := op_iinc (gk (k := 160) (t := 6) ck_F_fillMost_5 rfl) (gk (k := 160) (t := 7) ck_F_fillMost_5 rfl) (gk (k := 160) (t := 8) ck_F_fillMost_5 rfl) rfl rfl
theorem d_F_fillMost_169 : decode y_F_fillMost.2.1 169 = .ok (.goto (-68), 3) := op_goto (gk (k := 160) (t := 9) ck_F_fillMost_5 rfl) (gk (k := 160) (t := 10) ck_F_fillMost_5 rfl) (gk (k := 160) (t := 11) ck_F_fillMost_5 rfl) (by decide +kernel)
theorem d_F_fillMost_172 : decode y_F_fillMost.2.1 172 = .ok (.iinc 4 (-1), 3) := op_iinc (gk (k := 160) (t := 12) ck_F_fillMost_5 rfl) (gk (k := 160) (t := 13) ck_F_fillMost_5 rfl) (gk (k := 160) (t := 14) ck_F_fillMost_5 rfl) rfl rfl
theorem d_F_fillMost_175 : decode y_F_fillMost.2.1 175 = .ok (.goto (-82), 3) := op_goto (gk (k := 160) (t := 15) ck_F_fillMost_5 rfl) (gk (k := 160) (t := 16) ck_F_fillMost_5 rfl) (gk (k := 160) (t := 17) ck_F_fillMost_5 rfl) (by decide +kernel)
theorem d_F_fillMost_178 : decode y_F_fillMost.2.1 178 = .ok (.aload_n 0, 1) := op_aload_n0 (gk (k := 160) (t := 18) ck_F_fillMost_5 rfl)
theorem d_F_fillMost_179 : decode y_F_fillMost.2.1 179 = .ok (.iload_n 3, 1) := op_iload_n3 (gk (k := 160) (t := 19) ck_F_fillMost_5 rfl)
theorem lk_F_60 : LkV "SinglesUp$Filling" 60 y_F_choose := ⟨tw_c4 161 (by decide +kernel) rfl, tw_in 32 (by decide +kernel) rfl, Or.inl (tw_c4 159 (by decide +kernel) rfl)⟩
set_option maxRecDepth 100000 in
theorem mo_F_choose : MOk y_F_choose 1 := ⟨by decide +kernel, tw_c4 162 rfl rfl, tw_c1 9 (by decide +kernel) rfl, by decide +kernel, by decide +kernel, by decide +kernel⟩
theorem d_F_fillMost_180 : decode y_F_fillMost.2.1 180 = .ok (.invokevirtual 60, 3) := op_invokevirtual (gk (k := 160) (t := 20) ck_F_fillMost_5 rfl) (gk (k := 160) (t := 21) ck_F_fillMost_5 rfl) (gk (k := 160) (t := 22) ck_F_fillMost_5 rfl) rfl
theorem d_F_fillMost_183 : decode y_F_fillMost.2.1 183 = .ok (.aload_n 0, 1) := op_aload_n0 (gk (k := 160) (t := 23) ck_F_fillMost_5 rfl)
theorem d_F_fillMost_184 : decode y_F_fillMost.2.1 184 = .ok (.getfield 21, 3) := op_getfield (gk (k := 160) (t := 24) ck_F_fillMost_5 rfl) (gk (k := 160) (t := 25) ck_F_fillMost_5 rfl) (gk (k := 160) (t := 26) ck_F_fillMost_5 rfl) rfl
theorem d_F_fillMost_187 : decode y_F_fillMost.2.1 187 = .ok (.iconst 0, 1) := op_iconst0 (gk (k := 160) (t := 27) ck_F_fillMost_5 rfl)
theorem d_F_fillMost_188 : decode y_F_fillMost.2.1 188 = .ok (.iconst 0, 1) := op_iconst0 (gk (k := 160) (t := 28) ck_F_fillMost_5 rfl)
theorem d_F_fillMost_189 : decode y_F_fillMost.2.1 189 = .ok (.iload_n 3, 1) := op_iload_n3 (gk (k := 160) (t := 29) ck_F_fillMost_5 rfl)
theorem ck_F_fillMost_6 : (y_F_fillMost.2.1.data.toList.drop 192).take 32 = [50, 46, 172] := by decide +kernel
theorem d_F_fillMost_190 : decode y_F_fillMost.2.1 190 = .ok (.invokestatic 50, 3) := op_invokestatic (gk (k := 160) (t := 30) ck_F_fillMost_5 rfl) (gk (k := 160) (t := 31) ck_F_fillMost_5 rfl) (gk (k := 192) (t := 0) ck_F_fillMost_6 rfl) rfl
theorem d_F_fillMost_193 : decode y_F_fillMost.2.1 193 = .ok (.iaload, 1) := op_iaload (gk (k := 192) (t := 1) ck_F_fillMost_6 rfl)
theorem d_F_fillMost_194 : decode y_F_fillMost.2.1 194 = .ok (.ireturn, 1) := op_ireturn (gk (k := 192) (t := 2) ck_F_fillMost_6 rfl)
def f_C_partThatFits (fu : Nat) (o0 : Nat) (o1 : Nat) (a2 : Int) (I0 : IMem) : Res :=
  zb (f_L_get fu (o1 + 6) a2 1 I0) fun y1 I2 =>
    if I2 o0 7 < y1 then (
      zb (f_C_stands fu o0 a2 I2) fun y4 I5 =>
      if y4 = 0 then (
        zr 0 I5)
      else (
        zb (f_L_isPlainAndTrue fu (o1 + 6) a2 I5) fun y7 I8 =>
        if y7 = 0 then (
          zr 0 I8)
        else (
          zj (fun (x12 : Int) (I11 : IMem) =>
              if x12 = 0 then (
                zr 0 I11)
              else (
                zb (f_JM_max fu x12 (wr32 (y1 - x12)) I11) fun y13 I14 =>
                if I14 o0 7 < y13 then (
                  if I14 o0 7 < wr32 (y1 - y13) then (
                    zr 0 I14)
                  else (
                    zr (wr32 (y1 - y13)) I14))
                else (
                  zr y13 I14))) fun k10 =>
            if y1 < 0 then (
              k10 0 I8)
            else (
              if 8 < y1 then (
                k10 0 I8)
              else (
                zg (0 ≤ y1 ∧ y1 < 9) (
                k10 (I8 (o1 + 3) y1.toNat) I8))))))
    else (
      zr 0 I2)
def fb_C_partOne_2 (fu : Nat) (k_71 : Int → Int → IMem → Res) (o0 : Nat) (o1 : Nat) (R_ : Int → IMem → Res) (w2 : Int) (I0 : IMem) : Res :=
  if w2 < I0 o0 5 then (
      if w2 < 144 then (
        if I0 o0 10 = 0 then (
          zg (0 ≤ w2 ∧ w2 < 144) (
          zl (I0 (o0 + 5) w2.toNat) fun x1 =>
          zb (f_C_partThatFits fu o0 o1 x1 I0) fun y2 I3 =>
          zj (fun  (I6 : IMem) =>
              zl (wr32 (w2 + 1)) fun x7 =>
              R_ x7 I6) fun k5 =>
            if 0 < y2 then (
              zb (f_H_weigh fu o1 x1 (I3 o0 7) (I3 o0 8) I3) fun _ I9 =>
              zb (f_H_lawInForce fu o1 I9) fun y11 I12 =>
              zb (f_W_value fu (y11.toNat) (o1 + 13) 16 I12) fun y14 I15 =>
              if 0 < y14 then (
                k_71 x1 y2 I15)
              else (
                k5 I15))
            else (
              k5 I3)))
        else (
          zr 0 I0))
      else (
        zr 0 I0))
    else (
      zr 0 I0)
def f_C_partOne_2 (fu : Nat) (k_71 : Int → Int → IMem → Res) (o0 : Nat) (o1 : Nat) : Nat → Int → IMem → Res
 | 0 => fun _ _ => none
 | n + 1 => fb_C_partOne_2 fu k_71 o0 o1 (f_C_partOne_2 fu k_71 o0 o1 n)
def f_C_partOne (fu : Nat) (o0 : Nat) (o1 : Nat) (I0 : IMem) : Res :=
  f_C_partOne_2 fu (fun (x18 : Int) (x19 : Int) (I17 : IMem) =>
      zb (f_L_get fu (o1 + 6) x18 1 I17) fun y20 I21 =>
      zl (wr32 (y20 - x19)) fun x23 =>
      zb (f_C_sit fu o0 x18 x19 0 3 I21) fun _ I25 =>
      zb (f_L_put fu (o1 + 6) x18 1 x23 I25) fun _ I28 =>
      zb (f_L_put fu (o1 + 6) x18 2 x23 I28) fun _ I31 =>
      zr 0 I31) o0 o1 fu 0 I0
def fb_C_worthiest_14 (fu : Nat) (o0 : Nat) (o1 : Nat) (p2 : Int) (o3 : Nat) (R_ : Int → Int → Int → IMem → Res) (w4 : Int) (w5 : Int) (w6 : Int) (I0 : IMem) : Res :=
  if w6 < I0 o0 5 then (
      if w6 < 144 then (
        zg (0 ≤ w6 ∧ w6 < 144) (
        zb (f_C_fits fu o0 o1 (I0 (o0 + 5) w6.toNat) I0) fun y4 I5 =>
        zj (fun (x9 : Int) (x10 : Int) (I8 : IMem) =>
            zl (wr32 (w6 + 1)) fun x11 =>
            R_ x9 x10 x11 I8) fun k7 =>
          if y4 = 0 then (
            k7 w4 w5 I5)
          else (
            zj (fun  (I13 : IMem) =>
                zg (0 ≤ w6 ∧ w6 < 144) (
                if w4 < I13 (o0 + 6) w6.toNat then (
                  zg (0 ≤ w6 ∧ w6 < 144) (
                  zl (I13 (o0 + 6) w6.toNat) fun x14 =>
                  zg (0 ≤ w6 ∧ w6 < 144) (
                  zl (I13 (o0 + 5) w6.toNat) fun x15 =>
                  k7 x14 x15 I13)))
                else (
                  k7 w4 w5 I13))) fun k12 =>
              if p2 = 0 then (
                k12 I5)
              else (
                zg (0 ≤ w6 ∧ w6 < 144) (
                zb (f_H_weigh fu o1 (I5 (o0 + 5) w6.toNat) (I5 o0 7) (I5 o0 8) I5) fun _ I17 =>
                zb (f_W_value fu o3 (o1 + 13) 16 I17) fun y19 I20 =>
                zg (0 ≤ w6 ∧ w6 < 144) (zw I20 (o0 + 6) w6.toNat y19 fun I22 =>
                k12 I22))))))
      else (
        zr w5 I0))
    else (
      zr w5 I0)
def f_C_worthiest_14 (fu : Nat) (o0 : Nat) (o1 : Nat) (p2 : Int) (o3 : Nat) : Nat → Int → Int → Int → IMem → Res
 | 0 => fun _ _ _ _ => none
 | n + 1 => fb_C_worthiest_14 fu o0 o1 p2 o3 (f_C_worthiest_14 fu o0 o1 p2 o3 n)
def f_C_worthiest (fu : Nat) (o0 : Nat) (o1 : Nat) (a2 : Int) (I0 : IMem) : Res :=
  zb (f_H_lawInForce fu o1 I0) fun y1 I2 =>
    f_C_worthiest_14 fu  o0 o1 a2 (y1.toNat) fu 0 ((-1)) 0 I2
def fb_L_listSeen_46 (fu : Nat) (k_79 : Int → IMem → Res) (o0 : Nat) (o1 n1 : Nat) (p2 : Int) (p4 : Int) (p5 : Int) (R_ : Int → Int → IMem → Res) (w3 : Int) (w6 : Int) (I0 : IMem) : Res :=
  if w6 < p5 then (
      zj (fun (x9 : Int) (I8 : IMem) =>
          zl (wr32 (w6 + 1)) fun x10 =>
          R_ x9 x10 I8) fun k7 =>
        if w3 < (n1 : Int) then (
          zg (0 ≤ w3 ∧ w3 < n1) (zw I0 o1 w3.toNat (wr32 ((wr32 (p4 * 40)) + w6)) fun I11 =>
          zl (wr32 (w3 + 1)) fun x12 =>
          k7 x12 I11))
        else (
          k7 w3 I0))
    else (
      k_79 w3 I0)
def f_L_listSeen_46 (fu : Nat) (k_79 : Int → IMem → Res) (o0 : Nat) (o1 n1 : Nat) (p2 : Int) (p4 : Int) (p5 : Int) : Nat → Int → Int → IMem → Res
 | 0 => fun _ _ _ => none
 | n + 1 => fb_L_listSeen_46 fu k_79 o0 o1 n1 p2 p4 p5 (f_L_listSeen_46 fu k_79 o0 o1 n1 p2 p4 p5 n)
def fb_L_listSeen_5 (fu : Nat) (o0 : Nat) (o1 n1 : Nat) (p2 : Int) (R_ : Int → Int → IMem → Res) (w3 : Int) (w4 : Int) (I0 : IMem) : Res :=
  if w4 < 6 then (
      zg (0 ≤ w4 ∧ w4 < 6) (
      zg (0 ≤ w4 ∧ w4 < 6) (
      zj (fun (x3 : Int) (I2 : IMem) =>
          zb (f_JM_min fu (I0 (o0 + 2) w4.toNat) (wr32 ((I0 (o0 + 3) w4.toNat) + x3)) I2) fun y4 I5 =>
          f_L_listSeen_46 fu (fun (x14 : Int) (I13 : IMem) =>
            zl (wr32 (w4 + 1)) fun x15 =>
            R_ x14 x15 I13) o0 o1 n1 p2 w4 y4 fu w3 0 I5) fun k1 =>
        if w4 = p2 then (
          k1 1 I0)
        else (
          k1 0 I0))))
    else (
      zr w3 I0)
def f_L_listSeen_5 (fu : Nat) (o0 : Nat) (o1 n1 : Nat) (p2 : Int) : Nat → Int → Int → IMem → Res
 | 0 => fun _ _ _ => none
 | n + 1 => fb_L_listSeen_5 fu o0 o1 n1 p2 (f_L_listSeen_5 fu o0 o1 n1 p2 n)
def f_L_listSeen (fu : Nat) (o0 : Nat) (o1 n1 : Nat) (a2 : Int) (I0 : IMem) : Res :=
  f_L_listSeen_5 fu  o0 o1 n1 a2 fu 0 0 I0
def fb_C_fill_30 (fu : Nat) (k_66 : IMem → Res) (k_127 : IMem → Res) (o0 : Nat) (o1 : Nat) (R_ : Int → Int → IMem → Res) (w2 : Int) (w3 : Int) (I0 : IMem) : Res :=
  if 144 < w3 then (
      k_127 I0)
    else (
      zb (f_C_mostPassed fu o0 o1 I0) fun y8 I9 =>
      zj (fun (x13 : Int) (x14 : Int) (I12 : IMem) =>
          if x14 = (-1) then (
            k_66 I12)
          else (
            zb (f_L_get fu (o1 + 6) x14 1 I12) fun y15 I16 =>
            zj (fun (x20 : Int) (I19 : IMem) =>
                zl (wr32 (w3 + 1)) fun x21 =>
                R_ x20 x21 I19) fun k18 =>
              if I16 o0 7 < y15 then (
                zb (f_C_findOut fu o0 o1 x14 I16) fun _ I29 =>
                k18 x13 I29)
              else (
                zb (f_L_get fu (o1 + 6) x14 3 I16) fun y22 I23 =>
                zb (f_C_sit fu o0 x14 y15 y22 1 I23) fun _ I26 =>
                k18 1 I26))) fun k11 =>
        if y8 = (-1) then (
          zb (f_C_worthiest fu o0 o1 w2 I9) fun y31 I32 =>
          k11 0 y31 I32)
        else (
          k11 w2 y8 I9))
def f_C_fill_30 (fu : Nat) (k_66 : IMem → Res) (k_127 : IMem → Res) (o0 : Nat) (o1 : Nat) : Nat → Int → Int → IMem → Res
 | 0 => fun _ _ _ => none
 | n + 1 => fb_C_fill_30 fu k_66 k_127 o0 o1 (f_C_fill_30 fu k_66 k_127 o0 o1 n)
def f_C_fill (fu : Nat) (o0 : Nat) (o1 : Nat) (I0 : IMem) : Res :=
  zb (f_C_clear fu o0 (I0 (o1 + 1) 0) I0) fun _ I2 =>
    zb (f_L_listSeen fu (o1 + 6) (o0 + 5) 144 ((-1)) I2) fun y4 I5 =>
    zw I5 o0 5 y4 fun I7 =>
    f_C_fill_30 fu (fun  (I34 : IMem) =>
      zb (f_C_partOne fu o0 o1 I34) fun _ I36 =>
      zr 0 I36) (fun  (I38 : IMem) =>
      zb (f_C_partOne fu o0 o1 I38) fun _ I40 =>
      zr 0 I40) o0 o1 fu 1 0 I7
def f_C_ride (fu : Nat) (o0 : Nat) (o1 : Nat) (I0 : IMem) : Res :=
  zb (f_C_fill fu o0 o1 I0) fun _ I2 =>
    zb (f_C_leave fu o0 o1 I2) fun y4 I5 =>
    zr y4 I5
def f_S_chair (fu : Nat) (o0 : Nat) (I0 : IMem) : Res :=
  zb (f_S_dropPicked fu o0 I0) fun _ I2 =>
    zb (f_C_ride fu (o0 + 130) (o0 + 1) I2) fun y4 I5 =>
    zr y4 I5
def fb_H_letComersEnter_2 (fu : Nat) (o0 : Nat) (R_ : Int → IMem → Res) (w1 : Int) (I0 : IMem) : Res :=
  if wr32 (w1 + 3) < 32 then (
      zl (wr32 (w1 + 3)) fun x1 =>
      zg (0 ≤ x1 ∧ x1 < 32) (
      zl (I0 (o0 + 4) x1.toNat) fun x2 =>
      zj (fun  (I4 : IMem) =>
          zl (wr32 (w1 + 4)) fun x5 =>
          R_ x5 I4) fun k3 =>
        if 0 < x2 then (
          zb (f_H_draw fu o0 1000 I0) fun y6 I7 =>
          if y6 < x2 then (
            zg (0 ≤ w1 ∧ w1 < 32) (
            zl (wr32 (w1 + 1)) fun x9 =>
            zg (0 ≤ x9 ∧ x9 < 32) (
            zl (wr32 (w1 + 2)) fun x10 =>
            zg (0 ≤ x10 ∧ x10 < 32) (
            zb (f_H_enter fu o0 (I7 (o0 + 4) w1.toNat) (I7 (o0 + 4) x9.toNat) (I7 (o0 + 4) x10.toNat) I7) fun y11 I12 =>
            k3 I12))))
          else (
            k3 I7))
        else (
          k3 I0)))
    else (
      zr 0 I0)
def f_H_letComersEnter_2 (fu : Nat) (o0 : Nat) : Nat → Int → IMem → Res
 | 0 => fun _ _ => none
 | n + 1 => fb_H_letComersEnter_2 fu o0 (f_H_letComersEnter_2 fu o0 n)
def f_H_letComersEnter (fu : Nat) (o0 : Nat) (I0 : IMem) : Res :=
  f_H_letComersEnter_2 fu  o0 fu 0 I0
def fb_C_turns_5 (fu : Nat) (o0 : Nat) (o1 : Nat) (p2 : Int) (R_ : Int → Int → IMem → Res) (w3 : Int) (w4 : Int) (I0 : IMem) : Res :=
  if w4 < p2 then (
      zb (f_H_letComersEnter fu o1 I0) fun _ I2 =>
      zb (f_C_fill fu o0 o1 I2) fun _ I5 =>
      zb (f_C_leave fu o0 o1 I5) fun y7 I8 =>
      zl (wr32 (w3 + y7)) fun x10 =>
      zl (wr32 (w4 + 1)) fun x11 =>
      R_ x10 x11 I8)
    else (
      zr w3 I0)
def f_C_turns_5 (fu : Nat) (o0 : Nat) (o1 : Nat) (p2 : Int) : Nat → Int → Int → IMem → Res
 | 0 => fun _ _ _ => none
 | n + 1 => fb_C_turns_5 fu o0 o1 p2 (f_C_turns_5 fu o0 o1 p2 n)
def f_C_turns (fu : Nat) (o0 : Nat) (o1 : Nat) (a2 : Int) (I0 : IMem) : Res :=
  f_C_turns_5 fu  o0 o1 a2 fu 0 0 I0
def f_S_run (fu : Nat) (o0 : Nat) (a1 : Int) (I0 : IMem) : Res :=
  if a1 < 1 then (
      zr ((-1)) I0)
    else (
      if 60 < a1 then (
        zr ((-1)) I0)
      else (
        zb (f_S_dropPicked fu o0 I0) fun _ I2 =>
        zb (f_C_turns fu (o0 + 130) (o0 + 1) a1 I2) fun y4 I5 =>
        zr y4 I5))
def f_S_last (fu : Nat) (o0 : Nat) (a1 : Int) (I0 : IMem) : Res :=
  if a1 < 0 then (
      zr ((-1)) I0)
    else (
      if a1 < 30 then (
        if I0 (o0 + 11) 0 = 0 then (
          zr ((-1)) I0)
        else (
          zj (fun (x3 : Int) (I2 : IMem) =>
              if x3 = 0 then (
                zr ((-1)) I2)
              else (
                zg (0 ≤ a1 ∧ a1 < 30) (
                zr (I2 (o0 + 12) a1.toNat) I2))) fun k1 =>
            if a1 < 10 then (
              if a1 < 2 then (
                k1 1 I0)
              else (
                k1 0 I0))
            else (
              if wrem a1 10 < I0 (o0 + 12) 0 then (
                k1 1 I0)
              else (
                k1 0 I0))))
      else (
        zr ((-1)) I0))
def f_H_meanWait (fu : Nat) (o0 : Nat) (a1 : Int) (I0 : IMem) : Res :=
  if a1 < 1 then (
      zr ((-1)) I0)
    else (
      if 8 < a1 then (
        zr ((-1)) I0)
      else (
        zl (wr32 (10 + a1)) fun x1 =>
        zg (0 ≤ x1 ∧ x1 < 40) (
        if 0 < I0 (o0 + 10) x1.toNat then (
          zl (wr32 (20 + a1)) fun x2 =>
          zg (0 ≤ x2 ∧ x2 < 40) (
          zl (wr32 (10 + a1)) fun x3 =>
          zg (0 ≤ x3 ∧ x3 < 40) (
          zg (I0 (o0 + 10) x3.toNat ≠ 0) (
          zr (((((100 : Int64) * (iv (I0 (o0 + 10) x2.toNat)).toInt64) / (iv (I0 (o0 + 10) x3.toNat)).toInt64)).toInt32.toInt) I0))))
        else (
          zr ((-1)) I0))))
def f_S_count (fu : Nat) (o0 : Nat) (a1 : Int) (I0 : IMem) : Res :=
  zj (fun  (I2 : IMem) =>
        zl (wrem a1 10) fun x3 =>
        if a1 < 10 then (
          zr ((-1)) I2)
        else (
          if 48 < a1 then (
            zr ((-1)) I2)
          else (
            if x3 < 1 then (
              zr ((-1)) I2)
            else (
              if 8 < x3 then (
                zr ((-1)) I2)
              else (
                if a1 < 40 then (
                  zg (0 ≤ a1 ∧ a1 < 40) (
                  zr (I2 (o0 + 11) a1.toNat) I2))
                else (
                  zb (f_H_meanWait fu (o0 + 1) x3 I2) fun y4 I5 =>
                  zr y4 I5)))))) fun k1 =>
      if a1 < 0 then (
        k1 I0)
      else (
        if 6 < a1 then (
          k1 I0)
        else (
          zg (0 ≤ a1 ∧ a1 < 40) (
          zr (I0 (o0 + 11) a1.toNat) I0)))
def f_F_chosenAt (fu : Nat) (o0 : Nat) (a1 : Int) (I0 : IMem) : Res :=
  if a1 < 0 then (
      zr ((-1)) I0)
    else (
      if a1 < I0 o0 6 then (
        if a1 < 8 then (
          zg (0 ≤ a1 ∧ a1 < 8) (
          zg (0 ≤ a1 ∧ a1 < 8) (
          zr (wr32 ((wr32 (100 * (wdiv (I0 (o0 + 5) a1.toNat) 40))) + (wrem (I0 (o0 + 5) a1.toNat) 40))) I0)))
        else (
          zr ((-1)) I0))
      else (
        zr ((-1)) I0))
def f_F_at (fu : Nat) (a0 : Int) (a1 : Int) (a2 : Int) (I0 : IMem) : Res :=
  zj (fun (x3 : Int) (I2 : IMem) =>
        if x3 = 0 then (
          zr 0 I2)
        else (
          zr (wr32 ((wr32 ((wr32 ((wr32 (a0 * 3)) + a1)) * 9)) + a2)) I2)) fun k1 =>
      if a0 < 0 then (
        k1 0 I0)
      else (
        if 144 < a0 then (
          k1 0 I0)
        else (
          if a1 < 0 then (
            k1 0 I0)
          else (
            if a1 < 3 then (
              if a2 < 0 then (
                k1 0 I0)
              else (
                if a2 < 9 then (
                  k1 1 I0)
                else (
                  k1 0 I0)))
            else (
              k1 0 I0))))
def f_F_thereWith (fu : Nat) (o0 : Nat) (a1 : Int) (a2 : Int) (I0 : IMem) : Res :=
  zg (0 ≤ a1 ∧ a1 < 144) (
    if I0 (o0 + 3) a1.toNat = 1 then (
      if a2 = 0 then (
        zr 1 I0)
      else (
        zr a2 I0))
    else (
      zr 2 I0))
def f_F_mostWith (fu : Nat) (o0 : Nat) (a1 : Int) (a2 : Int) (a3 : Int) (I0 : IMem) : Res :=
  if a1 < 0 then (
      zr ((-1)) I0)
    else (
      if a1 < 144 then (
        zg (0 ≤ a1 ∧ a1 < 144) (
        if a3 < I0 (o0 + 2) a1.toNat then (
          zr ((-1)) I0)
        else (
          zb (f_F_thereWith fu o0 a1 a2 I0) fun y1 I2 =>
          zg (0 ≤ a1 ∧ a1 < 144) (
          zb (f_F_at fu (wr32 (a1 + 1)) y1 (wr32 (a3 - (I2 (o0 + 2) a1.toNat))) I2) fun y4 I5 =>
          zg (0 ≤ y4 ∧ y4 < 3915) (
          zl (I5 (o0 + 4) y4.toNat) fun x7 =>
          if x7 = (-1) then (
            zr ((-1)) I5)
          else (
            zg (0 ≤ a1 ∧ a1 < 144) (
            zr (wr32 (x7 + (I5 (o0 + 2) a1.toNat))) I5)))))))
      else (
        zr ((-1)) I0))
def fb_F_choose_12 (fu : Nat) (o0 : Nat) (R_ : Int → Int → Int → IMem → Res) (w2 : Int) (w3 : Int) (w4 : Int) (I0 : IMem) : Res :=
  if w4 < I0 o0 3 then (
      if w4 < 144 then (
        if I0 o0 6 < 8 then (
          zb (f_F_mostWith fu o0 w4 w2 w3 I0) fun y2 I3 =>
          zj (fun (x7 : Int) (x8 : Int) (I6 : IMem) =>
              zl (wr32 (w4 + 1)) fun x9 =>
              R_ x7 x8 x9 I6) fun k5 =>
            if y2 = (-1) then (
              k5 w2 w3 I3)
            else (
              zb (f_F_at fu w4 w2 w3 I3) fun y10 I11 =>
              zg (0 ≤ y10 ∧ y10 < 3915) (
              if y2 = I11 (o0 + 4) y10.toNat then (
                zg (0 ≤ w4 ∧ w4 < 144) (
                zl (I11 o0 6) fun x14 =>
                zg (0 ≤ x14 ∧ x14 < 8) (zw I11 (o0 + 5) x14.toNat (I11 (o0 + 1) w4.toNat) fun I13 =>
                zw I13 o0 6 (wr32 ((I13 o0 6) + 1)) fun I15 =>
                zb (f_F_thereWith fu o0 w4 w2 I15) fun y16 I17 =>
                zg (0 ≤ w4 ∧ w4 < 144) (
                zl (wr32 (w3 - (I17 (o0 + 2) w4.toNat))) fun x19 =>
                k5 y16 x19 I17))))
              else (
                k5 w2 w3 I11))))
        else (
          zr 0 I0))
      else (
        zr 0 I0))
    else (
      zr 0 I0)
def f_F_choose_12 (fu : Nat) (o0 : Nat) : Nat → Int → Int → Int → IMem → Res
 | 0 => fun _ _ _ _ => none
 | n + 1 => fb_F_choose_12 fu o0 (f_F_choose_12 fu o0 n)
def f_F_choose (fu : Nat) (o0 : Nat) (a1 : Int) (I0 : IMem) : Res :=
  zw I0 o0 6 0 fun I1 =>
    f_F_choose_12 fu  o0 fu 0 a1 0 I1
def fb_F_gather_18 (fu : Nat) (o0 : Nat) (o1 : Nat) (p3 : Int) (R_ : Int → IMem → Res) (w4 : Int) (I0 : IMem) : Res :=
  if w4 < p3 then (
      if w4 < 144 then (
        zg (0 ≤ w4 ∧ w4 < 144) (
        zb (f_L_get fu o1 (I0 (o0 + 1) w4.toNat) 3 I0) fun y5 I6 =>
        zj (fun  (I9 : IMem) =>
            zl (wr32 (w4 + 1)) fun x10 =>
            R_ x10 I9) fun k8 =>
          if y5 = 2 then (
            k8 I6)
          else (
            zg (0 ≤ w4 ∧ w4 < 144) (
            zl (I6 o0 3) fun x12 =>
            zg (0 ≤ x12 ∧ x12 < 144) (zw I6 (o0 + 1) x12.toNat (I6 (o0 + 1) w4.toNat) fun I11 =>
            zg (0 ≤ w4 ∧ w4 < 144) (
            zb (f_L_get fu o1 (I11 (o0 + 1) w4.toNat) 1 I11) fun y13 I14 =>
            zl (I11 o0 3) fun x17 =>
            zg (0 ≤ x17 ∧ x17 < 144) (zw I14 (o0 + 2) x17.toNat y13 fun I16 =>
            zl (I16 o0 3) fun x19 =>
            zg (0 ≤ x19 ∧ x19 < 144) (zw I16 (o0 + 3) x19.toNat y5 fun I18 =>
            zw I18 o0 3 (wr32 ((I18 o0 3) + 1)) fun I20 =>
            k8 I20))))))))
      else (
        zr 0 I0))
    else (
      zr 0 I0)
def f_F_gather_18 (fu : Nat) (o0 : Nat) (o1 : Nat) (p3 : Int) : Nat → Int → IMem → Res
 | 0 => fun _ _ => none
 | n + 1 => fb_F_gather_18 fu o0 o1 p3 (f_F_gather_18 fu o0 o1 p3 n)
def f_F_gather (fu : Nat) (o0 : Nat) (o1 : Nat) (a2 : Int) (I0 : IMem) : Res :=
  zb (f_L_listSeen fu o1 (o0 + 1) 144 a2 I0) fun y1 I2 =>
    zw I2 o0 3 0 fun I4 =>
    f_F_gather_18 fu  o0 o1 y1 fu 0 I4
def fb_F_fillMost_24 (fu : Nat) (k_85 : IMem → Res) (o0 : Nat) (p3 : Int) (R_ : Int → IMem → Res) (w4 : Int) (I0 : IMem) : Res :=
  if w4 < 9 then (
      zb (f_F_at fu (I0 o0 3) 0 w4 I0) fun y7 I8 =>
      zg (0 ≤ y7 ∧ y7 < 3915) (zw I8 (o0 + 4) y7.toNat 0 fun I10 =>
      zb (f_F_at fu (I10 o0 3) 1 w4 I10) fun y11 I12 =>
      zg (0 ≤ y11 ∧ y11 < 3915) (zw I12 (o0 + 4) y11.toNat ((-1)) fun I14 =>
      zb (f_F_at fu (I14 o0 3) 2 w4 I14) fun y15 I16 =>
      zg (0 ≤ y15 ∧ y15 < 3915) (zw I16 (o0 + 4) y15.toNat 0 fun I18 =>
      zl (wr32 (w4 + 1)) fun x19 =>
      R_ x19 I18))))
    else (
      k_85 I0)
def f_F_fillMost_24 (fu : Nat) (k_85 : IMem → Res) (o0 : Nat) (p3 : Int) : Nat → Int → IMem → Res
 | 0 => fun _ _ => none
 | n + 1 => fb_F_fillMost_24 fu k_85 o0 p3 (f_F_fillMost_24 fu k_85 o0 p3 n)
def fb_F_fillMost_110 (fu : Nat) (k_166 : IMem → Res) (o0 : Nat) (p3 : Int) (p4 : Int) (p5 : Int) (R_ : Int → IMem → Res) (w6 : Int) (I0 : IMem) : Res :=
  if w6 < 9 then (
      zb (f_F_at fu p4 p5 w6 I0) fun y22 I23 =>
      zb (f_F_at fu (wr32 (p4 + 1)) p5 w6 I23) fun y25 I26 =>
      zg (0 ≤ y25 ∧ y25 < 3915) (
      zb (f_F_mostWith fu o0 p4 p5 w6 I26) fun y28 I29 =>
      zb (f_JM_max fu (I26 (o0 + 4) y25.toNat) y28 I29) fun y31 I32 =>
      zg (0 ≤ y22 ∧ y22 < 3915) (zw I32 (o0 + 4) y22.toNat y31 fun I34 =>
      zl (wr32 (w6 + 1)) fun x35 =>
      R_ x35 I34)))
    else (
      k_166 I0)
def f_F_fillMost_110 (fu : Nat) (k_166 : IMem → Res) (o0 : Nat) (p3 : Int) (p4 : Int) (p5 : Int) : Nat → Int → IMem → Res
 | 0 => fun _ _ => none
 | n + 1 => fb_F_fillMost_110 fu k_166 o0 p3 p4 p5 (f_F_fillMost_110 fu k_166 o0 p3 p4 p5 n)
def fb_F_fillMost_101 (fu : Nat) (k_172 : IMem → Res) (o0 : Nat) (p3 : Int) (p4 : Int) (R_ : Int → IMem → Res) (w5 : Int) (I0 : IMem) : Res :=
  if 2 < w5 then (
      k_172 I0)
    else (
      f_F_fillMost_110 fu (fun  (I36 : IMem) =>
        zl (wr32 (w5 + 1)) fun x37 =>
        R_ x37 I36) o0 p3 p4 w5 fu 0 I0)
def f_F_fillMost_101 (fu : Nat) (k_172 : IMem → Res) (o0 : Nat) (p3 : Int) (p4 : Int) : Nat → Int → IMem → Res
 | 0 => fun _ _ => none
 | n + 1 => fb_F_fillMost_101 fu k_172 o0 p3 p4 (f_F_fillMost_101 fu k_172 o0 p3 p4 n)
def fb_F_fillMost_93 (fu : Nat) (k_178 : IMem → Res) (o0 : Nat) (p3 : Int) (R_ : Int → IMem → Res) (w4 : Int) (I0 : IMem) : Res :=
  if w4 < 0 then (
      k_178 I0)
    else (
      f_F_fillMost_101 fu (fun  (I38 : IMem) =>
        zl (wr32 (w4 + (-1))) fun x39 =>
        R_ x39 I38) o0 p3 w4 fu 0 I0)
def f_F_fillMost_93 (fu : Nat) (k_178 : IMem → Res) (o0 : Nat) (p3 : Int) : Nat → Int → IMem → Res
 | 0 => fun _ _ => none
 | n + 1 => fb_F_fillMost_93 fu k_178 o0 p3 (f_F_fillMost_93 fu k_178 o0 p3 n)
def f_F_fillMost (fu : Nat) (o0 : Nat) (o1 : Nat) (a2 : Int) (I0 : IMem) : Res :=
  zb (f_JM_min fu (I0 (o1 + 1) 0) 8 I0) fun y1 I2 =>
    zb (f_F_gather fu o0 (o1 + 6) a2 I2) fun _ I5 =>
    f_F_fillMost_24 fu (fun  (I20 : IMem) =>
      zl (wr32 ((I20 o0 3) - 1)) fun x21 =>
      f_F_fillMost_93 fu (fun  (I40 : IMem) =>
        zb (f_F_choose fu o0 y1 I40) fun _ I42 =>
        zb (f_F_at fu 0 0 y1 I42) fun y44 I45 =>
        zg (0 ≤ y44 ∧ y44 < 3915) (
        zr (I45 (o0 + 4) y44.toNat) I45)) o0 y1 fu x21 I20) o0 y1 fu 0 I5
section
variable {l : Launch} {b : PB}
set_option maxRecDepth 20000 in
theorem t_C_partThatFits (fu : Nat) (o0 : Nat) (o1 : Nat) (a2 : Int) (I0 : IMem) (hI : RG I0) (h_o0 : KC[o0]? = some (3, 12)) (h_o1 : KC[o1]? = some (5, 14)) (h_a2 : inr a2) {r : Int × IMem} (hf : f_C_partThatFits fu o0 o1 a2 I0 = some r) : Ss l b 3 y_C_partThatFits KC RC [.ref o0, .ref o1, .int (iv a2)] (ivm I0) (Ps r) := by
  unfold f_C_partThatFits at hf
  refine Ss.of (show Ai l b 3 y_C_partThatFits KC RC (Ps r) I0 0 [.ref o0, .ref o1, .int (iv a2), uu, uu, uu] [] from ?_)
  refine aw_aload_n rfl rfl d_C_partThatFits_0 (aw_getr (r := o1 + 6) fl_C_72 h_o1 (by decide) rfl (rc_2_5 _ h_o1).1 d_C_partThatFits_1 (aw_iload_n rfl rfl d_C_partThatFits_4 (aw_iconst (v := iv 1) rfl d_C_partThatFits_5 ?_)))
  obtain ⟨y1, I2, c3, hf⟩ := of_zb hf
  refine ai_callV (as := [.int (iv a2), .int (iv 1)]) (d' := 1) (q := ("SinglesUp$Lines", zT4, 3)) mo_L_get lk_C_92 (rc_2_5 _ h_o1).2 rfl rfl rfl ⟨by decide, by decide⟩ rfl rfl (by decide) d_C_partThatFits_6 (t_L_get fu (o1 + 6) a2 1 I0 hI (rc_2_5 _ h_o1).2 h_a2 in_1 c3) (fun h_y1 h_I2 => ?_)
  refine aw_istore_n (lv2 := [.ref o0, .ref o1, .int (iv a2), .int (iv y1), uu, uu]) rfl (Nat.le_of_ble_eq_true rfl) rfl d_C_partThatFits_9 (aw_iload_n rfl rfl d_C_partThatFits_10 (aw_aload_n rfl rfl d_C_partThatFits_11 (ai_geti fl_C_30 h_o0 (by decide) rfl d_C_partThatFits_12 ?_)))
  refine ai_icmp_le h_y1 (h_I2 o0 7) hf (tgt := 37) (by decide) d_C_partThatFits_15 (fun hf => ?_) (fun hf => ?_)
  · refine aw_iconst (v := iv 0) rfl d_C_partThatFits_37 ?_
    exact ai_reti rfl d_C_partThatFits_38 hf in_0 h_I2
  · refine aw_aload_n rfl rfl d_C_partThatFits_18 (aw_iload_n rfl rfl d_C_partThatFits_19 ?_)
    obtain ⟨y4, I5, c6, hf⟩ := of_zb hf
    refine ai_callV (as := [.int (iv a2)]) (d' := 1) (q := ("SinglesUp$Chair", zT0, 12)) mo_C_stands lk_C_107 h_o0 rfl rfl rfl ⟨by decide, by decide⟩ rfl rfl (by decide) d_C_partThatFits_20 (t_C_stands fu o0 a2 I2 h_I2 h_o0 h_a2 c6) (fun h_y4 h_I5 => ?_)
    refine ai_if_eq h_y4 hf (tgt := 37) (by decide) d_C_partThatFits_23 (fun hf => ?_) (fun hf => ?_)
    · refine aw_iconst (v := iv 0) rfl d_C_partThatFits_37 ?_
      exact ai_reti rfl d_C_partThatFits_38 hf in_0 h_I5
    · refine aw_aload_n rfl rfl d_C_partThatFits_26 (aw_getr (r := o1 + 6) fl_C_72 h_o1 (by decide) rfl (rc_2_5 _ h_o1).1 d_C_partThatFits_27 (aw_iload_n rfl rfl d_C_partThatFits_30 ?_))
      obtain ⟨y7, I8, c9, hf⟩ := of_zb hf
      refine ai_callV (as := [.int (iv a2)]) (d' := 2) (q := ("SinglesUp$Lines", zT4, 3)) mo_L_isPlainAndTrue lk_C_151 (rc_2_5 _ h_o1).2 rfl rfl rfl ⟨by decide, by decide⟩ rfl rfl (by decide) d_C_partThatFits_31 (t_L_isPlainAndTrue fu (o1 + 6) a2 I5 h_I5 (rc_2_5 _ h_o1).2 h_a2 c9) (fun h_y7 h_I8 => ?_)
      refine ai_if_ne h_y7 hf (tgt := 39) (by decide) d_C_partThatFits_34 (fun hf => ?_) (fun hf => ?_)
      · refine aw_iload_n rfl rfl d_C_partThatFits_39 ?_
        obtain ⟨k10, ek10, hf⟩ := of_zj hf
        have hk10 : ∀ (x12 : Int) (I11 : IMem), inr x12 → RG I11 → k10 x12 I11 = some r → Ai l b 3 y_C_partThatFits KC RC (Ps r) I11 59 [.ref o0, uu, uu, .int (iv y1), uu, uu] [.int (iv x12)] := by
          intro x12 I11 h_x12 h_I11 hf
          subst ek10
          refine aw_istore (lv2 := [.ref o0, uu, uu, .int (iv y1), .int (iv x12), uu]) (Nat.le_of_ble_eq_true rfl) rfl d_C_partThatFits_59 (aw_iload rfl d_C_partThatFits_61 ?_)
          refine ai_if_ne h_x12 hf (tgt := 68) (by decide) d_C_partThatFits_63 (fun hf => ?_) (fun hf => ?_)
          · refine aw_iload rfl d_C_partThatFits_68 (aw_iload_n rfl rfl d_C_partThatFits_70 (aw_iload rfl d_C_partThatFits_71 (ai_isub d_C_partThatFits_73 ?_)))
            obtain ⟨y13, I14, c15, hf⟩ := of_zb hf
            refine ai_callS (as := [.int (iv x12), .int (iv (wr32 (y1 - x12)))]) (d' := 1) mo_JM_max lk_C_157 rfl ⟨by decide, by decide⟩ rfl rfl (by decide) d_C_partThatFits_74 (t_JM_max fu x12 (wr32 (y1 - x12)) I11 h_I11 h_x12 (wr32_in _) c15) (fun h_y13 h_I14 => ?_)
            refine aw_istore (lv2 := [.ref o0, uu, uu, .int (iv y1), .int (iv x12), .int (iv y13)]) (Nat.le_of_ble_eq_true rfl) rfl d_C_partThatFits_77 (aw_iload rfl d_C_partThatFits_79 (aw_aload_n rfl rfl d_C_partThatFits_81 (ai_geti fl_C_30 h_o0 (by decide) rfl d_C_partThatFits_82 ?_)))
            refine ai_icmp_gt h_y13 (h_I14 o0 7) hf (tgt := 93) (by decide) d_C_partThatFits_85 (fun hf => ?_) (fun hf => ?_)
            · refine aw_iload_n rfl rfl d_C_partThatFits_93 (aw_iload rfl d_C_partThatFits_94 (ai_isub d_C_partThatFits_96 (aw_aload_n rfl rfl d_C_partThatFits_97 (ai_geti fl_C_30 h_o0 (by decide) rfl d_C_partThatFits_98 ?_))))
              refine ai_icmp_gt (wr32_in _) (h_I14 o0 7) hf (tgt := 111) (by decide) d_C_partThatFits_101 (fun hf => ?_) (fun hf => ?_)
              · refine aw_iconst (v := iv 0) rfl d_C_partThatFits_111 ?_
                exact ai_reti rfl d_C_partThatFits_112 hf in_0 h_I14
              · refine aw_iload_n rfl rfl d_C_partThatFits_104 (aw_iload rfl d_C_partThatFits_105 (ai_isub d_C_partThatFits_107 (aw_goto (tgt := 112) (by decide) d_C_partThatFits_108 ?_)))
                exact ai_reti rfl d_C_partThatFits_112 hf (wr32_in _) h_I14
            · refine aw_iload rfl d_C_partThatFits_88 (aw_goto (tgt := 112) (by decide) d_C_partThatFits_90 ?_)
              exact ai_reti rfl d_C_partThatFits_112 hf h_y13 h_I14
          · refine aw_iconst (v := iv 0) rfl d_C_partThatFits_66 ?_
            exact ai_reti rfl d_C_partThatFits_67 hf in_0 h_I11
        refine ai_if_lt h_y1 hf (tgt := 58) (by decide) d_C_partThatFits_40 (fun hf => ?_) (fun hf => ?_)
        · refine aw_iconst (v := iv 0) rfl d_C_partThatFits_58 ?_
          refine aw_weakB (lv2 := [.ref o0, uu, uu, .int (iv y1), uu, uu]) (wk_s (wk_u (wk_u (wk_s (wk_u (wk_u wk_n)))))) ?_
          exact hk10 0 I8 in_0 h_I8 hf
        · refine aw_iload_n rfl rfl d_C_partThatFits_43 (aw_bipush (v := iv 8) cb_8 d_C_partThatFits_44 ?_)
          refine ai_icmp_gt h_y1 in_8 hf (tgt := 58) (by decide) d_C_partThatFits_46 (fun hf => ?_) (fun hf => ?_)
          · refine aw_iconst (v := iv 0) rfl d_C_partThatFits_58 ?_
            refine aw_weakB (lv2 := [.ref o0, uu, uu, .int (iv y1), uu, uu]) (wk_s (wk_u (wk_u (wk_s (wk_u (wk_u wk_n)))))) ?_
            exact hk10 0 I8 in_0 h_I8 hf
          · refine aw_aload_n rfl rfl d_C_partThatFits_49 (aw_getr (r := o1 + 3) fl_C_154 h_o1 (by decide) rfl (rc_2_2 _ h_o1).1 d_C_partThatFits_50 (aw_iload_n rfl rfl d_C_partThatFits_53 ?_))
            refine ai_iald (rc_2_2 _ h_o1).2 rfl h_y1 hf d_C_partThatFits_54 (fun _ hf => ?_)
            refine aw_goto (tgt := 59) (by decide) d_C_partThatFits_55 ?_
            refine aw_weakB (lv2 := [.ref o0, uu, uu, .int (iv y1), uu, uu]) (wk_s (wk_u (wk_u (wk_s (wk_u (wk_u wk_n)))))) ?_
            exact hk10 (I8 (o1 + 3) y1.toNat) I8 (h_I8 (o1 + 3) y1.toNat) h_I8 hf
      · refine aw_iconst (v := iv 0) rfl d_C_partThatFits_37 ?_
        exact ai_reti rfl d_C_partThatFits_38 hf in_0 h_I8
set_option maxRecDepth 20000 in
theorem t_C_partOne_2 (fu : Nat) {r : Int × IMem} (k_71 : Int → Int → IMem → Res) (o0 : Nat) (o1 : Nat) (h_o0 : KC[o0]? = some (3, 12)) (h_o1 : KC[o1]? = some (5, 14)) (hk_71 : ∀ (z3 : Int) (z4 : Int) (I9 : IMem), inr z3 → inr z4 → RG I9 → k_71 z3 z4 I9 = some r → Ai l b 4 y_C_partOne KC RC (Pv r) I9 71 [.ref o0, .ref o1, uu, .int (iv z3), .int (iv z4), uu] []) : ∀ (m : Nat) (w2 : Int) (I0 : IMem), inr w2 → RG I0 → f_C_partOne_2 fu k_71 o0 o1 m w2 I0 = some r → Ai l b 4 y_C_partOne KC RC (Pv r) I0 2 [.ref o0, .ref o1, .int (iv w2), uu, uu, uu] [] := by
  intro m
  induction m with
  | zero => intro w2 I0 h_w2 h_I0 hf; cases hf
  | succ m ih =>
    intro w2 I0 h_w2 h_I0 hf
    replace hf : fb_C_partOne_2 fu k_71 o0 o1 (f_C_partOne_2 fu k_71 o0 o1 m) w2 I0 = some r := hf
    unfold fb_C_partOne_2 at hf
    refine aw_iload_n rfl rfl d_C_partOne_2 (aw_aload_n rfl rfl d_C_partOne_3 (ai_geti fl_C_82 h_o0 (by decide) rfl d_C_partOne_4 ?_))
    refine ai_icmp_ge h_w2 (h_I0 o0 5) hf (tgt := 123) (by decide) d_C_partOne_7 (fun hf => ?_) (fun hf => ?_)
    · exact ai_retv rfl d_C_partOne_123 hf h_I0
    · refine aw_iload_n rfl rfl d_C_partOne_10 (aw_sipush (v := iv 144) cs_144 d_C_partOne_11 ?_)
      refine ai_icmp_ge h_w2 in_144 hf (tgt := 123) (by decide) d_C_partOne_14 (fun hf => ?_) (fun hf => ?_)
      · exact ai_retv rfl d_C_partOne_123 hf h_I0
      · refine aw_aload_n rfl rfl d_C_partOne_17 (ai_geti fl_C_46 h_o0 (by decide) rfl d_C_partOne_18 ?_)
        refine ai_if_ne (h_I0 o0 10) hf (tgt := 123) (by decide) d_C_partOne_21 (fun hf => ?_) (fun hf => ?_)
        · exact ai_retv rfl d_C_partOne_123 hf h_I0
        · refine aw_aload_n rfl rfl d_C_partOne_24 (aw_getr (r := o0 + 5) fl_C_24 h_o0 (by decide) rfl (rc_0_4 _ h_o0).1 d_C_partOne_25 (aw_iload_n rfl rfl d_C_partOne_28 ?_))
          refine ai_iald (rc_0_4 _ h_o0).2 rfl h_w2 hf d_C_partOne_29 (fun _ hf => ?_)
          refine ai_name hf (h_I0 (o0 + 5) w2.toNat) (fun x1 h_x1 hf => ?_)
          refine aw_istore_n (lv2 := [.ref o0, .ref o1, .int (iv w2), .int (iv x1), uu, uu]) rfl (Nat.le_of_ble_eq_true rfl) rfl d_C_partOne_30 ?_
          refine aw_aload_n rfl rfl d_C_partOne_31 (aw_aload_n rfl rfl d_C_partOne_32 (aw_iload_n rfl rfl d_C_partOne_33 ?_))
          obtain ⟨y2, I3, c4, hf⟩ := of_zb hf
          refine ai_callV (as := [.ref o1, .int (iv x1)]) (d' := 3) (q := ("SinglesUp$Chair", zT0, 12)) mo_C_partThatFits lk_C_144 h_o0 rfl rfl rfl ⟨by decide, by decide⟩ rfl rfl (by decide) d_C_partOne_34 (t_C_partThatFits fu o0 o1 x1 I0 h_I0 h_o0 h_o1 h_x1 c4) (fun h_y2 h_I3 => ?_)
          refine aw_istore (lv2 := [.ref o0, .ref o1, .int (iv w2), .int (iv x1), .int (iv y2), uu]) (Nat.le_of_ble_eq_true rfl) rfl d_C_partOne_37 (aw_iload rfl d_C_partOne_39 ?_)
          obtain ⟨k5, ek5, hf⟩ := of_zj hf
          have hk5 : ∀  (I6 : IMem), RG I6 → k5 I6 = some r → Ai l b 4 y_C_partOne KC RC (Pv r) I6 117 [.ref o0, .ref o1, .int (iv w2), uu, uu, uu] [] := by
            intro I6 h_I6 hf
            subst ek5
            refine ai_iinc (n := 1) (lv2 := fun x7 => [.ref o0, .ref o1, .int (iv x7), uu, uu, uu]) hf rfl (Nat.le_of_ble_eq_true rfl) (fun _ => rfl) d_C_partOne_117 (fun x7 h_x7 hf => ?_)
            refine aw_goto (tgt := 2) (by decide) d_C_partOne_120 ?_
            exact ih x7 I6 h_x7 h_I6 hf
          refine ai_if_le h_y2 hf (tgt := 117) (by decide) d_C_partOne_41 (fun hf => ?_) (fun hf => ?_)
          · refine aw_weakB (lv2 := [.ref o0, .ref o1, .int (iv w2), uu, uu, uu]) (wk_s (wk_s (wk_s (wk_u (wk_u (wk_u wk_n)))))) ?_
            exact hk5 I3 h_I3 hf
          · refine aw_aload_n rfl rfl d_C_partOne_44 (aw_iload_n rfl rfl d_C_partOne_45 (aw_aload_n rfl rfl d_C_partOne_46 (ai_geti fl_C_30 h_o0 (by decide) rfl d_C_partOne_47 (aw_aload_n rfl rfl d_C_partOne_50 (ai_geti fl_C_40 h_o0 (by decide) rfl d_C_partOne_51 ?_)))))
            obtain ⟨y8, I9, c10, hf⟩ := of_zb hf
            refine ai_callVv (as := [.int (iv x1), .int (iv (I3 o0 7)), .int (iv (I3 o0 8))]) (d' := 3) (q := ("SinglesUp$Hill", zT2, 14)) mo_H_weigh lk_C_119 h_o1 rfl rfl rfl ⟨by decide, by decide⟩ rfl rfl (by decide) d_C_partOne_54 (t_H_weigh fu o1 x1 (I3 o0 7) (I3 o0 8) I3 h_I3 h_o1 h_x1 (h_I3 o0 7) (h_I3 o0 8) c10) (fun h_I9 => ?_)
            refine aw_aload_n rfl rfl d_C_partOne_57 ?_
            obtain ⟨y11, I12, c13, hf⟩ := of_zb hf
            refine ai_callVr (as := []) (d' := 1) (q := ("SinglesUp$Hill", zT2, 14)) mo_H_lawInForce lk_C_115 h_o1 rfl rfl rfl ⟨by decide, by decide⟩ rfl rfl (by decide) d_C_partOne_58 (t_H_lawInForce fu o1 I9 h_I9 h_o1 c13) (fun h_y11 h_I12 => ?_)
            refine aw_aload_n rfl rfl d_C_partOne_61 (aw_getr (r := o1 + 13) fl_C_123 h_o1 (by decide) rfl (rc_2_12 _ h_o1).1 d_C_partOne_62 ?_)
            obtain ⟨y14, I15, c16, hf⟩ := of_zb hf
            refine ai_callV (as := [.ref (o1 + 13)]) (d' := 2) (q := ("SinglesUp$Law", zT3, 6)) mo_W_value lk_C_126 h_y11 rfl rfl rfl ⟨by decide, by decide⟩ rfl rfl (by decide) d_C_partOne_65 (t_W_value fu (y11.toNat) (o1 + 13) 16 I12 h_I12 h_y11 ⟨(rc_2_12 _ h_o1).2, by decide⟩ c16) (fun h_y14 h_I15 => ?_)
            refine ai_if_le h_y14 hf (tgt := 117) (by decide) d_C_partOne_68 (fun hf => ?_) (fun hf => ?_)
            · refine aw_weakB (lv2 := [.ref o0, .ref o1, .int (iv w2), uu, uu, uu]) (wk_s (wk_s (wk_s (wk_u (wk_u (wk_u wk_n)))))) ?_
              exact hk5 I15 h_I15 hf
            · refine aw_weakB (lv2 := [.ref o0, .ref o1, uu, .int (iv x1), .int (iv y2), uu]) (wk_s (wk_s (wk_u (wk_s (wk_s (wk_u wk_n)))))) ?_
              exact hk_71 x1 y2 I15 h_x1 h_y2 h_I15 hf
set_option maxRecDepth 20000 in
theorem t_C_partOne (fu : Nat) (o0 : Nat) (o1 : Nat) (I0 : IMem) (hI : RG I0) (h_o0 : KC[o0]? = some (3, 12)) (h_o1 : KC[o1]? = some (5, 14)) {r : Int × IMem} (hf : f_C_partOne fu o0 o1 I0 = some r) : Ss l b 4 y_C_partOne KC RC [.ref o0, .ref o1] (ivm I0) (Pv r) := by
  unfold f_C_partOne at hf
  refine Ss.of (show Ai l b 4 y_C_partOne KC RC (Pv r) I0 0 [.ref o0, .ref o1, uu, uu, uu, uu] [] from ?_)
  refine aw_iconst (v := iv 0) rfl d_C_partOne_0 (aw_istore_n (lv2 := [.ref o0, .ref o1, .int (iv 0), uu, uu, uu]) rfl (Nat.le_of_ble_eq_true rfl) rfl d_C_partOne_1 ?_)
  refine t_C_partOne_2 fu _ o0 o1 h_o0 h_o1 ?_ fu 0 I0 in_0 hI hf
  · intro x18 x19 I17 h_x18 h_x19 h_I17 hf
    refine aw_aload_n rfl rfl d_C_partOne_71 (aw_getr (r := o1 + 6) fl_C_72 h_o1 (by decide) rfl (rc_2_5 _ h_o1).1 d_C_partOne_72 (aw_iload_n rfl rfl d_C_partOne_75 (aw_iconst (v := iv 1) rfl d_C_partOne_76 ?_)))
    obtain ⟨y20, I21, c22, hf⟩ := of_zb hf
    refine ai_callV (as := [.int (iv x18), .int (iv 1)]) (d' := 1) (q := ("SinglesUp$Lines", zT4, 3)) mo_L_get lk_C_92 (rc_2_5 _ h_o1).2 rfl rfl rfl ⟨by decide, by decide⟩ rfl rfl (by decide) d_C_partOne_77 (t_L_get fu (o1 + 6) x18 1 I17 h_I17 (rc_2_5 _ h_o1).2 h_x18 in_1 c22) (fun h_y20 h_I21 => ?_)
    refine aw_iload rfl d_C_partOne_80 (ai_isub d_C_partOne_82 ?_)
    refine ai_name hf (wr32_in _) (fun x23 h_x23 hf => ?_)
    refine aw_istore (lv2 := [.ref o0, .ref o1, uu, .int (iv x18), .int (iv x19), .int (iv x23)]) (Nat.le_of_ble_eq_true rfl) rfl d_C_partOne_83 ?_
    refine aw_aload_n rfl rfl d_C_partOne_85 (aw_iload_n rfl rfl d_C_partOne_86 (aw_iload rfl d_C_partOne_87 (aw_iconst (v := iv 0) rfl d_C_partOne_89 (aw_iconst (v := iv 3) rfl d_C_partOne_90 ?_))))
    obtain ⟨y24, I25, c26, hf⟩ := of_zb hf
    refine ai_callVv (as := [.int (iv x18), .int (iv x19), .int (iv 0), .int (iv 3)]) (d' := 1) (q := ("SinglesUp$Chair", zT0, 12)) mo_C_sit lk_C_100 h_o0 rfl rfl rfl ⟨by decide, by decide⟩ rfl rfl (by decide) d_C_partOne_91 (t_C_sit fu o0 x18 x19 0 3 I21 h_I21 h_o0 h_x18 h_x19 in_0 in_3 c26) (fun h_I25 => ?_)
    refine aw_aload_n rfl rfl d_C_partOne_94 (aw_getr (r := o1 + 6) fl_C_72 h_o1 (by decide) rfl (rc_2_5 _ h_o1).1 d_C_partOne_95 (aw_iload_n rfl rfl d_C_partOne_98 (aw_iconst (v := iv 1) rfl d_C_partOne_99 (aw_iload rfl d_C_partOne_100 ?_))))
    obtain ⟨y27, I28, c29, hf⟩ := of_zb hf
    refine ai_callVv (as := [.int (iv x18), .int (iv 1), .int (iv x23)]) (d' := 1) (q := ("SinglesUp$Lines", zT4, 3)) mo_L_put lk_C_148 (rc_2_5 _ h_o1).2 rfl rfl rfl ⟨by decide, by decide⟩ rfl rfl (by decide) d_C_partOne_102 (t_L_put fu (o1 + 6) x18 1 x23 I25 h_I25 (rc_2_5 _ h_o1).2 h_x18 in_1 h_x23 c29) (fun h_I28 => ?_)
    refine aw_aload_n rfl rfl d_C_partOne_105 (aw_getr (r := o1 + 6) fl_C_72 h_o1 (by decide) rfl (rc_2_5 _ h_o1).1 d_C_partOne_106 (aw_iload_n rfl rfl d_C_partOne_109 (aw_iconst (v := iv 2) rfl d_C_partOne_110 (aw_iload rfl d_C_partOne_111 ?_))))
    obtain ⟨y30, I31, c32, hf⟩ := of_zb hf
    refine ai_callVv (as := [.int (iv x18), .int (iv 2), .int (iv x23)]) (d' := 1) (q := ("SinglesUp$Lines", zT4, 3)) mo_L_put lk_C_148 (rc_2_5 _ h_o1).2 rfl rfl rfl ⟨by decide, by decide⟩ rfl rfl (by decide) d_C_partOne_113 (t_L_put fu (o1 + 6) x18 2 x23 I28 h_I28 (rc_2_5 _ h_o1).2 h_x18 in_2 h_x23 c32) (fun h_I31 => ?_)
    exact ai_retv rfl d_C_partOne_116 hf h_I31
set_option maxRecDepth 20000 in
theorem t_C_worthiest_14 (fu : Nat) {r : Int × IMem} (o0 : Nat) (o1 : Nat) (p2 : Int) (o3 : Nat) (h_o0 : KC[o0]? = some (3, 12)) (h_o1 : KC[o1]? = some (5, 14)) (h_p2 : inr p2) (h_o3 : KC[o3]? = some (6, 6)) : ∀ (m : Nat) (w4 : Int) (w5 : Int) (w6 : Int) (I0 : IMem), inr w4 → inr w5 → inr w6 → RG I0 → f_C_worthiest_14 fu o0 o1 p2 o3 m w4 w5 w6 I0 = some r → Ai l b 4 y_C_worthiest KC RC (Ps r) I0 14 [.ref o0, .ref o1, .int (iv p2), .ref o3, .int (iv w4), .int (iv w5), .int (iv w6)] [] := by
  intro m
  induction m with
  | zero => intro w4 w5 w6 I0 h_w4 h_w5 h_w6 h_I0 hf; cases hf
  | succ m ih =>
    intro w4 w5 w6 I0 h_w4 h_w5 h_w6 h_I0 hf
    replace hf : fb_C_worthiest_14 fu o0 o1 p2 o3 (f_C_worthiest_14 fu o0 o1 p2 o3 m) w4 w5 w6 I0 = some r := hf
    unfold fb_C_worthiest_14 at hf
    refine aw_iload rfl d_C_worthiest_14 (aw_aload_n rfl rfl d_C_worthiest_16 (ai_geti fl_C_82 h_o0 (by decide) rfl d_C_worthiest_17 ?_))
    refine ai_icmp_ge h_w6 (h_I0 o0 5) hf (tgt := 120) (by decide) d_C_worthiest_20 (fun hf => ?_) (fun hf => ?_)
    · refine aw_iload rfl d_C_worthiest_120 ?_
      exact ai_reti rfl d_C_worthiest_122 hf h_w5 h_I0
    · refine aw_iload rfl d_C_worthiest_23 (aw_sipush (v := iv 144) cs_144 d_C_worthiest_25 ?_)
      refine ai_icmp_ge h_w6 in_144 hf (tgt := 120) (by decide) d_C_worthiest_28 (fun hf => ?_) (fun hf => ?_)
      · refine aw_iload rfl d_C_worthiest_120 ?_
        exact ai_reti rfl d_C_worthiest_122 hf h_w5 h_I0
      · refine aw_aload_n rfl rfl d_C_worthiest_31 (aw_aload_n rfl rfl d_C_worthiest_32 (aw_aload_n rfl rfl d_C_worthiest_33 (aw_getr (r := o0 + 5) fl_C_24 h_o0 (by decide) rfl (rc_0_4 _ h_o0).1 d_C_worthiest_34 (aw_iload rfl d_C_worthiest_37 ?_))))
        refine ai_iald (rc_0_4 _ h_o0).2 rfl h_w6 hf d_C_worthiest_39 (fun _ hf => ?_)
        obtain ⟨y4, I5, c6, hf⟩ := of_zb hf
        refine ai_callV (as := [.ref o1, .int (iv (I0 (o0 + 5) w6.toNat))]) (d' := 2) (q := ("SinglesUp$Chair", zT0, 12)) mo_C_fits lk_C_111 h_o0 rfl rfl rfl ⟨by decide, by decide⟩ rfl rfl (by decide) d_C_worthiest_40 (t_C_fits fu o0 o1 (I0 (o0 + 5) w6.toNat) I0 h_I0 h_o0 h_o1 (h_I0 (o0 + 5) w6.toNat) c6) (fun h_y4 h_I5 => ?_)
        obtain ⟨k7, ek7, hf⟩ := of_zj hf
        have hk7 : ∀ (x9 : Int) (x10 : Int) (I8 : IMem), inr x9 → inr x10 → RG I8 → k7 x9 x10 I8 = some r → Ai l b 4 y_C_worthiest KC RC (Ps r) I8 114 [.ref o0, .ref o1, .int (iv p2), .ref o3, .int (iv x9), .int (iv x10), .int (iv w6)] [] := by
          intro x9 x10 I8 h_x9 h_x10 h_I8 hf
          subst ek7
          refine ai_iinc (n := 1) (lv2 := fun x11 => [.ref o0, .ref o1, .int (iv p2), .ref o3, .int (iv x9), .int (iv x10), .int (iv x11)]) hf rfl (Nat.le_of_ble_eq_true rfl) (fun _ => rfl) d_C_worthiest_114 (fun x11 h_x11 hf => ?_)
          refine aw_goto (tgt := 14) (by decide) d_C_worthiest_117 ?_
          exact ih x9 x10 x11 I8 h_x9 h_x10 h_x11 h_I8 hf
        refine ai_if_eq h_y4 hf (tgt := 114) (by decide) d_C_worthiest_43 (fun hf => ?_) (fun hf => ?_)
        · exact hk7 w4 w5 I5 h_w4 h_w5 h_I5 hf
        · refine aw_iload_n rfl rfl d_C_worthiest_46 ?_
          obtain ⟨k12, ek12, hf⟩ := of_zj hf
          have hk12 : ∀  (I13 : IMem), RG I13 → k12 I13 = some r → Ai l b 4 y_C_worthiest KC RC (Ps r) I13 84 [.ref o0, .ref o1, .int (iv p2), .ref o3, .int (iv w4), .int (iv w5), .int (iv w6)] [] := by
            intro I13 h_I13 hf
            subst ek12
            refine aw_aload_n rfl rfl d_C_worthiest_84 (aw_getr (r := o0 + 6) fl_C_27 h_o0 (by decide) rfl (rc_0_6 _ h_o0).1 d_C_worthiest_85 (aw_iload rfl d_C_worthiest_88 ?_))
            refine ai_iald (rc_0_6 _ h_o0).2 rfl h_w6 hf d_C_worthiest_90 (fun _ hf => ?_)
            refine aw_iload rfl d_C_worthiest_91 ?_
            refine ai_icmp_le (h_I13 (o0 + 6) w6.toNat) h_w4 hf (tgt := 114) (by decide) d_C_worthiest_93 (fun hf => ?_) (fun hf => ?_)
            · exact hk7 w4 w5 I13 h_w4 h_w5 h_I13 hf
            · refine aw_aload_n rfl rfl d_C_worthiest_96 (aw_getr (r := o0 + 6) fl_C_27 h_o0 (by decide) rfl (rc_0_6 _ h_o0).1 d_C_worthiest_97 (aw_iload rfl d_C_worthiest_100 ?_))
              refine ai_iald (rc_0_6 _ h_o0).2 rfl h_w6 hf d_C_worthiest_102 (fun _ hf => ?_)
              refine ai_name hf (h_I13 (o0 + 6) w6.toNat) (fun x14 h_x14 hf => ?_)
              refine aw_istore (lv2 := [.ref o0, .ref o1, .int (iv p2), .ref o3, .int (iv x14), .int (iv w5), .int (iv w6)]) (Nat.le_of_ble_eq_true rfl) rfl d_C_worthiest_103 ?_
              refine aw_aload_n rfl rfl d_C_worthiest_105 (aw_getr (r := o0 + 5) fl_C_24 h_o0 (by decide) rfl (rc_0_4 _ h_o0).1 d_C_worthiest_106 (aw_iload rfl d_C_worthiest_109 ?_))
              refine ai_iald (rc_0_4 _ h_o0).2 rfl h_w6 hf d_C_worthiest_111 (fun _ hf => ?_)
              refine ai_name hf (h_I13 (o0 + 5) w6.toNat) (fun x15 h_x15 hf => ?_)
              refine aw_istore (lv2 := [.ref o0, .ref o1, .int (iv p2), .ref o3, .int (iv x14), .int (iv x15), .int (iv w6)]) (Nat.le_of_ble_eq_true rfl) rfl d_C_worthiest_112 ?_
              exact hk7 x14 x15 I13 h_x14 h_x15 h_I13 hf
          refine ai_if_eq h_p2 hf (tgt := 84) (by decide) d_C_worthiest_47 (fun hf => ?_) (fun hf => ?_)
          · exact hk12 I5 h_I5 hf
          · refine aw_aload_n rfl rfl d_C_worthiest_50 (aw_aload_n rfl rfl d_C_worthiest_51 (aw_getr (r := o0 + 5) fl_C_24 h_o0 (by decide) rfl (rc_0_4 _ h_o0).1 d_C_worthiest_52 (aw_iload rfl d_C_worthiest_55 ?_)))
            refine ai_iald (rc_0_4 _ h_o0).2 rfl h_w6 hf d_C_worthiest_57 (fun _ hf => ?_)
            refine aw_aload_n rfl rfl d_C_worthiest_58 (ai_geti fl_C_30 h_o0 (by decide) rfl d_C_worthiest_59 (aw_aload_n rfl rfl d_C_worthiest_62 (ai_geti fl_C_40 h_o0 (by decide) rfl d_C_worthiest_63 ?_)))
            obtain ⟨y16, I17, c18, hf⟩ := of_zb hf
            refine ai_callVv (as := [.int (iv (I5 (o0 + 5) w6.toNat)), .int (iv (I5 o0 7)), .int (iv (I5 o0 8))]) (d' := 3) (q := ("SinglesUp$Hill", zT2, 14)) mo_H_weigh lk_C_119 h_o1 rfl rfl rfl ⟨by decide, by decide⟩ rfl rfl (by decide) d_C_worthiest_66 (t_H_weigh fu o1 (I5 (o0 + 5) w6.toNat) (I5 o0 7) (I5 o0 8) I5 h_I5 h_o1 (h_I5 (o0 + 5) w6.toNat) (h_I5 o0 7) (h_I5 o0 8) c18) (fun h_I17 => ?_)
            refine aw_aload_n rfl rfl d_C_worthiest_69 (aw_getr (r := o0 + 6) fl_C_27 h_o0 (by decide) rfl (rc_0_6 _ h_o0).1 d_C_worthiest_70 (aw_iload rfl d_C_worthiest_73 (aw_aload_n rfl rfl d_C_worthiest_75 (aw_aload_n rfl rfl d_C_worthiest_76 (aw_getr (r := o1 + 13) fl_C_123 h_o1 (by decide) rfl (rc_2_12 _ h_o1).1 d_C_worthiest_77 ?_)))))
            obtain ⟨y19, I20, c21, hf⟩ := of_zb hf
            refine ai_callV (as := [.ref (o1 + 13)]) (d' := 2) (q := ("SinglesUp$Law", zT3, 6)) mo_W_value lk_C_126 h_o3 rfl rfl rfl ⟨by decide, by decide⟩ rfl rfl (by decide) d_C_worthiest_80 (t_W_value fu o3 (o1 + 13) 16 I17 h_I17 h_o3 ⟨(rc_2_12 _ h_o1).2, by decide⟩ c21) (fun h_y19 h_I20 => ?_)
            refine ai_iast (rc_0_6 _ h_o0).2 rfl h_w6 h_y19 h_I20 hf d_C_worthiest_83 (fun _ I22 h_I22 hf => ?_)
            exact hk12 I22 h_I22 hf
set_option maxRecDepth 20000 in
theorem t_C_worthiest (fu : Nat) (o0 : Nat) (o1 : Nat) (a2 : Int) (I0 : IMem) (hI : RG I0) (h_o0 : KC[o0]? = some (3, 12)) (h_o1 : KC[o1]? = some (5, 14)) (h_a2 : inr a2) {r : Int × IMem} (hf : f_C_worthiest fu o0 o1 a2 I0 = some r) : Ss l b 4 y_C_worthiest KC RC [.ref o0, .ref o1, .int (iv a2)] (ivm I0) (Ps r) := by
  unfold f_C_worthiest at hf
  refine Ss.of (show Ai l b 4 y_C_worthiest KC RC (Ps r) I0 0 [.ref o0, .ref o1, .int (iv a2), uu, uu, uu, uu] [] from ?_)
  refine aw_aload_n rfl rfl d_C_worthiest_0 ?_
  obtain ⟨y1, I2, c3, hf⟩ := of_zb hf
  refine ai_callVr (as := []) (d' := 1) (q := ("SinglesUp$Hill", zT2, 14)) mo_H_lawInForce lk_C_115 h_o1 rfl rfl rfl ⟨by decide, by decide⟩ rfl rfl (by decide) d_C_worthiest_1 (t_H_lawInForce fu o1 I0 hI h_o1 c3) (fun h_y1 h_I2 => ?_)
  refine aw_astore_n (lv2 := [.ref o0, .ref o1, .int (iv a2), .ref (y1.toNat), uu, uu, uu]) rfl (Nat.le_of_ble_eq_true rfl) rfl d_C_worthiest_4 (aw_iconst (v := iv 0) rfl d_C_worthiest_5 (aw_istore (lv2 := [.ref o0, .ref o1, .int (iv a2), .ref (y1.toNat), .int (iv 0), uu, uu]) (Nat.le_of_ble_eq_true rfl) rfl d_C_worthiest_6 (aw_iconst (v := iv (-1)) rfl d_C_worthiest_8 (aw_istore (lv2 := [.ref o0, .ref o1, .int (iv a2), .ref (y1.toNat), .int (iv 0), .int (iv ((-1))), uu]) (Nat.le_of_ble_eq_true rfl) rfl d_C_worthiest_9 (aw_iconst (v := iv 0) rfl d_C_worthiest_11 (aw_istore (lv2 := [.ref o0, .ref o1, .int (iv a2), .ref (y1.toNat), .int (iv 0), .int (iv ((-1))), .int (iv 0)]) (Nat.le_of_ble_eq_true rfl) rfl d_C_worthiest_12 ?_))))))
  refine t_C_worthiest_14 fu o0 o1 a2 (y1.toNat) h_o0 h_o1 h_a2 h_y1 fu 0 ((-1)) 0 I2 in_0 in_m1 in_0 h_I2 hf
set_option maxRecDepth 20000 in
theorem t_L_listSeen_46 (fu : Nat) {r : Int × IMem} (k_79 : Int → IMem → Res) (o0 : Nat) (o1 n1 : Nat) (p2 : Int) (p4 : Int) (p5 : Int) (h_o0 : KC[o0]? = some (7, 3)) (h_o1 : KC[o1]? = some (0, n1) ∧ n1 < 1000000) (h_p2 : inr p2) (h_p4 : inr p4) (h_p5 : inr p5) (hk_79 : ∀ (z3 : Int) (I9 : IMem), inr z3 → RG I9 → k_79 z3 I9 = some r → Ai l b 2 y_L_listSeen KC RC (Ps r) I9 79 [.ref o0, .ref o1, .int (iv p2), .int (iv z3), .int (iv p4), uu, uu] []) : ∀ (m : Nat) (w3 : Int) (w6 : Int) (I0 : IMem), inr w3 → inr w6 → RG I0 → f_L_listSeen_46 fu k_79 o0 o1 n1 p2 p4 p5 m w3 w6 I0 = some r → Ai l b 2 y_L_listSeen KC RC (Ps r) I0 46 [.ref o0, .ref o1, .int (iv p2), .int (iv w3), .int (iv p4), .int (iv p5), .int (iv w6)] [] := by
  intro m
  induction m with
  | zero => intro w3 w6 I0 h_w3 h_w6 h_I0 hf; cases hf
  | succ m ih =>
    intro w3 w6 I0 h_w3 h_w6 h_I0 hf
    replace hf : fb_L_listSeen_46 fu k_79 o0 o1 n1 p2 p4 p5 (f_L_listSeen_46 fu k_79 o0 o1 n1 p2 p4 p5 m) w3 w6 I0 = some r := hf
    unfold fb_L_listSeen_46 at hf
    refine aw_iload rfl d_L_listSeen_46 (aw_iload rfl d_L_listSeen_48 ?_)
    refine ai_icmp_ge h_w6 h_p5 hf (tgt := 79) (by decide) d_L_listSeen_50 (fun hf => ?_) (fun hf => ?_)
    · refine aw_weakB (lv2 := [.ref o0, .ref o1, .int (iv p2), .int (iv w3), .int (iv p4), uu, uu]) (wk_s (wk_s (wk_s (wk_s (wk_s (wk_u (wk_u wk_n))))))) ?_
      exact hk_79 w3 I0 h_w3 h_I0 hf
    · refine aw_iload_n rfl rfl d_L_listSeen_53 (aw_aload_n rfl rfl d_L_listSeen_54 (ai_alen (N := n1) h_o1.1 (by decide) rfl h_o1.2 d_L_listSeen_55 ?_))
      obtain ⟨k7, ek7, hf⟩ := of_zj hf
      have hk7 : ∀ (x9 : Int) (I8 : IMem), inr x9 → RG I8 → k7 x9 I8 = some r → Ai l b 2 y_L_listSeen KC RC (Ps r) I8 73 [.ref o0, .ref o1, .int (iv p2), .int (iv x9), .int (iv p4), .int (iv p5), .int (iv w6)] [] := by
        intro x9 I8 h_x9 h_I8 hf
        subst ek7
        refine ai_iinc (n := 1) (lv2 := fun x10 => [.ref o0, .ref o1, .int (iv p2), .int (iv x9), .int (iv p4), .int (iv p5), .int (iv x10)]) hf rfl (Nat.le_of_ble_eq_true rfl) (fun _ => rfl) d_L_listSeen_73 (fun x10 h_x10 hf => ?_)
        refine aw_goto (tgt := 46) (by decide) d_L_listSeen_76 ?_
        exact ih x9 x10 I8 h_x9 h_x10 h_I8 hf
      refine ai_icmp_ge h_w3 (nat_in h_o1.2) hf (tgt := 73) (by decide) d_L_listSeen_56 (fun hf => ?_) (fun hf => ?_)
      · exact hk7 w3 I0 h_w3 h_I0 hf
      · refine aw_aload_n rfl rfl d_L_listSeen_59 (aw_iload_n rfl rfl d_L_listSeen_60 (aw_iload rfl d_L_listSeen_61 (aw_bipush (v := iv 40) cb_40 d_L_listSeen_63 (ai_imul d_L_listSeen_65 (aw_iload rfl d_L_listSeen_66 (ai_iadd d_L_listSeen_68 ?_))))))
        refine ai_iast h_o1.1 rfl h_w3 (wr32_in _) h_I0 hf d_L_listSeen_69 (fun _ I11 h_I11 hf => ?_)
        refine ai_iinc (n := 1) (lv2 := fun x12 => [.ref o0, .ref o1, .int (iv p2), .int (iv x12), .int (iv p4), .int (iv p5), .int (iv w6)]) hf rfl (Nat.le_of_ble_eq_true rfl) (fun _ => rfl) d_L_listSeen_70 (fun x12 h_x12 hf => ?_)
        exact hk7 x12 I11 h_x12 h_I11 hf
set_option maxRecDepth 20000 in
theorem t_L_listSeen_5 (fu : Nat) {r : Int × IMem} (o0 : Nat) (o1 n1 : Nat) (p2 : Int) (h_o0 : KC[o0]? = some (7, 3)) (h_o1 : KC[o1]? = some (0, n1) ∧ n1 < 1000000) (h_p2 : inr p2) : ∀ (m : Nat) (w3 : Int) (w4 : Int) (I0 : IMem), inr w3 → inr w4 → RG I0 → f_L_listSeen_5 fu o0 o1 n1 p2 m w3 w4 I0 = some r → Ai l b 2 y_L_listSeen KC RC (Ps r) I0 5 [.ref o0, .ref o1, .int (iv p2), .int (iv w3), .int (iv w4), uu, uu] [] := by
  intro m
  induction m with
  | zero => intro w3 w4 I0 h_w3 h_w4 h_I0 hf; cases hf
  | succ m ih =>
    intro w3 w4 I0 h_w3 h_w4 h_I0 hf
    replace hf : fb_L_listSeen_5 fu o0 o1 n1 p2 (f_L_listSeen_5 fu o0 o1 n1 p2 m) w3 w4 I0 = some r := hf
    unfold fb_L_listSeen_5 at hf
    refine aw_iload rfl d_L_listSeen_5 (aw_bipush (v := iv 6) cb_6 d_L_listSeen_7 ?_)
    refine ai_icmp_ge h_w4 in_6 hf (tgt := 85) (by decide) d_L_listSeen_9 (fun hf => ?_) (fun hf => ?_)
    · refine aw_iload_n rfl rfl d_L_listSeen_85 ?_
      exact ai_reti rfl d_L_listSeen_86 hf h_w3 h_I0
    · refine aw_aload_n rfl rfl d_L_listSeen_12 (aw_getr (r := o0 + 2) fl_L_15 h_o0 (by decide) rfl (rc_4_1 _ h_o0).1 d_L_listSeen_13 (aw_iload rfl d_L_listSeen_16 ?_))
      refine ai_iald (rc_4_1 _ h_o0).2 rfl h_w4 hf d_L_listSeen_18 (fun _ hf => ?_)
      refine aw_aload_n rfl rfl d_L_listSeen_19 (aw_getr (r := o0 + 3) fl_L_18 h_o0 (by decide) rfl (rc_4_2 _ h_o0).1 d_L_listSeen_20 (aw_iload rfl d_L_listSeen_23 ?_))
      refine ai_iald (rc_4_2 _ h_o0).2 rfl h_w4 hf d_L_listSeen_25 (fun _ hf => ?_)
      refine aw_iload rfl d_L_listSeen_26 (aw_iload_n rfl rfl d_L_listSeen_28 ?_)
      obtain ⟨k1, ek1, hf⟩ := of_zj hf
      have hk1 : ∀ (x3 : Int) (I2 : IMem), inr x3 → RG I2 → k1 x3 I2 = some r → Ai l b 2 y_L_listSeen KC RC (Ps r) I2 37 [.ref o0, .ref o1, .int (iv p2), .int (iv w3), .int (iv w4), uu, uu] [.int (iv x3), .int (iv (I0 (o0 + 3) w4.toNat)), .int (iv (I0 (o0 + 2) w4.toNat))] := by
        intro x3 I2 h_x3 h_I2 hf
        subst ek1
        refine ai_iadd d_L_listSeen_37 ?_
        obtain ⟨y4, I5, c6, hf⟩ := of_zb hf
        refine ai_callS (as := [.int (iv (I0 (o0 + 2) w4.toNat)), .int (iv (wr32 ((I0 (o0 + 3) w4.toNat) + x3)))]) (d' := 1) mo_JM_min lk_L_37 rfl ⟨by decide, by decide⟩ rfl rfl (by decide) d_L_listSeen_38 (t_JM_min fu (I0 (o0 + 2) w4.toNat) (wr32 ((I0 (o0 + 3) w4.toNat) + x3)) I2 h_I2 (h_I0 (o0 + 2) w4.toNat) (wr32_in _) c6) (fun h_y4 h_I5 => ?_)
        refine aw_istore (lv2 := [.ref o0, .ref o1, .int (iv p2), .int (iv w3), .int (iv w4), .int (iv y4), uu]) (Nat.le_of_ble_eq_true rfl) rfl d_L_listSeen_41 (aw_iconst (v := iv 0) rfl d_L_listSeen_43 (aw_istore (lv2 := [.ref o0, .ref o1, .int (iv p2), .int (iv w3), .int (iv w4), .int (iv y4), .int (iv 0)]) (Nat.le_of_ble_eq_true rfl) rfl d_L_listSeen_44 ?_))
        refine t_L_listSeen_46 fu _ o0 o1 n1 p2 w4 y4 h_o0 h_o1 h_p2 h_w4 h_y4 ?_ fu w3 0 I5 h_w3 in_0 h_I5 hf
        · intro x14 I13 h_x14 h_I13 hf
          refine ai_iinc (n := 1) (lv2 := fun x15 => [.ref o0, .ref o1, .int (iv p2), .int (iv x14), .int (iv x15), uu, uu]) hf rfl (Nat.le_of_ble_eq_true rfl) (fun _ => rfl) d_L_listSeen_79 (fun x15 h_x15 hf => ?_)
          refine aw_goto (tgt := 5) (by decide) d_L_listSeen_82 ?_
          exact ih x14 x15 I13 h_x14 h_x15 h_I13 hf
      refine ai_icmp_ne h_w4 h_p2 hf (tgt := 36) (by decide) d_L_listSeen_29 (fun hf => ?_) (fun hf => ?_)
      · refine aw_iconst (v := iv 0) rfl d_L_listSeen_36 ?_
        exact hk1 0 I0 in_0 h_I0 hf
      · refine aw_iconst (v := iv 1) rfl d_L_listSeen_32 (aw_goto (tgt := 37) (by decide) d_L_listSeen_33 ?_)
        exact hk1 1 I0 in_1 h_I0 hf
set_option maxRecDepth 20000 in
theorem t_L_listSeen (fu : Nat) (o0 : Nat) (o1 n1 : Nat) (a2 : Int) (I0 : IMem) (hI : RG I0) (h_o0 : KC[o0]? = some (7, 3)) (h_o1 : KC[o1]? = some (0, n1) ∧ n1 < 1000000) (h_a2 : inr a2) {r : Int × IMem} (hf : f_L_listSeen fu o0 o1 n1 a2 I0 = some r) : Ss l b 2 y_L_listSeen KC RC [.ref o0, .ref o1, .int (iv a2)] (ivm I0) (Ps r) := by
  unfold f_L_listSeen at hf
  refine Ss.of (show Ai l b 2 y_L_listSeen KC RC (Ps r) I0 0 [.ref o0, .ref o1, .int (iv a2), uu, uu, uu, uu] [] from ?_)
  refine aw_iconst (v := iv 0) rfl d_L_listSeen_0 (aw_istore_n (lv2 := [.ref o0, .ref o1, .int (iv a2), .int (iv 0), uu, uu, uu]) rfl (Nat.le_of_ble_eq_true rfl) rfl d_L_listSeen_1 (aw_iconst (v := iv 0) rfl d_L_listSeen_2 (aw_istore (lv2 := [.ref o0, .ref o1, .int (iv a2), .int (iv 0), .int (iv 0), uu, uu]) (Nat.le_of_ble_eq_true rfl) rfl d_L_listSeen_3 ?_)))
  refine t_L_listSeen_5 fu o0 o1 n1 a2 h_o0 h_o1 h_a2 fu 0 0 I0 in_0 in_0 hI hf
set_option maxRecDepth 20000 in
theorem t_C_fill_30 (fu : Nat) {r : Int × IMem} (k_66 : IMem → Res) (k_127 : IMem → Res) (o0 : Nat) (o1 : Nat) (h_o0 : KC[o0]? = some (3, 12)) (h_o1 : KC[o1]? = some (5, 14)) (hk_66 : ∀ (I9 : IMem), RG I9 → k_66 I9 = some r → Ai l b 5 y_C_fill KC RC (Pv r) I9 66 [.ref o0, .ref o1, uu, uu, uu, uu] []) (hk_127 : ∀ (I9 : IMem), RG I9 → k_127 I9 = some r → Ai l b 5 y_C_fill KC RC (Pv r) I9 127 [.ref o0, .ref o1, uu, uu, uu, uu] []) : ∀ (m : Nat) (w2 : Int) (w3 : Int) (I0 : IMem), inr w2 → inr w3 → RG I0 → f_C_fill_30 fu k_66 k_127 o0 o1 m w2 w3 I0 = some r → Ai l b 5 y_C_fill KC RC (Pv r) I0 30 [.ref o0, .ref o1, .int (iv w2), .int (iv w3), uu, uu] [] := by
  intro m
  induction m with
  | zero => intro w2 w3 I0 h_w2 h_w3 h_I0 hf; cases hf
  | succ m ih =>
    intro w2 w3 I0 h_w2 h_w3 h_I0 hf
    replace hf : fb_C_fill_30 fu k_66 k_127 o0 o1 (f_C_fill_30 fu k_66 k_127 o0 o1 m) w2 w3 I0 = some r := hf
    unfold fb_C_fill_30 at hf
    refine aw_iload_n rfl rfl d_C_fill_30 (aw_sipush (v := iv 144) cs_144 d_C_fill_31 ?_)
    refine ai_icmp_gt h_w3 in_144 hf (tgt := 127) (by decide) d_C_fill_34 (fun hf => ?_) (fun hf => ?_)
    · refine aw_weakB (lv2 := [.ref o0, .ref o1, uu, uu, uu, uu]) (wk_s (wk_s (wk_u (wk_u (wk_u (wk_u wk_n)))))) ?_
      exact hk_127 I0 h_I0 hf
    · refine aw_aload_n rfl rfl d_C_fill_37 (aw_aload_n rfl rfl d_C_fill_38 ?_)
      obtain ⟨y8, I9, c10, hf⟩ := of_zb hf
      refine ai_callV (as := [.ref o1]) (d' := 3) (q := ("SinglesUp$Chair", zT0, 12)) mo_C_mostPassed lk_C_85 h_o0 rfl rfl rfl ⟨by decide, by decide⟩ rfl rfl (by decide) d_C_fill_39 (t_C_mostPassed fu o0 o1 I0 h_I0 h_o0 h_o1 c10) (fun h_y8 h_I9 => ?_)
      refine aw_istore (lv2 := [.ref o0, .ref o1, .int (iv w2), .int (iv w3), .int (iv y8), uu]) (Nat.le_of_ble_eq_true rfl) rfl d_C_fill_42 (aw_iload rfl d_C_fill_44 (aw_iconst (v := iv (-1)) rfl d_C_fill_46 ?_))
      obtain ⟨k11, ek11, hf⟩ := of_zj hf
      have hk11 : ∀ (x13 : Int) (x14 : Int) (I12 : IMem), inr x13 → inr x14 → RG I12 → k11 x13 x14 I12 = some r → Ai l b 5 y_C_fill KC RC (Pv r) I12 60 [.ref o0, .ref o1, .int (iv x13), .int (iv w3), .int (iv x14), uu] [] := by
        intro x13 x14 I12 h_x13 h_x14 h_I12 hf
        subst ek11
        refine aw_iload rfl d_C_fill_60 (aw_iconst (v := iv (-1)) rfl d_C_fill_62 ?_)
        refine ai_icmp_ne h_x14 in_m1 hf (tgt := 69) (by decide) d_C_fill_63 (fun hf => ?_) (fun hf => ?_)
        · refine aw_aload_n rfl rfl d_C_fill_69 (aw_getr (r := o1 + 6) fl_C_72 h_o1 (by decide) rfl (rc_2_5 _ h_o1).1 d_C_fill_70 (aw_iload rfl d_C_fill_73 (aw_iconst (v := iv 1) rfl d_C_fill_75 ?_)))
          obtain ⟨y15, I16, c17, hf⟩ := of_zb hf
          refine ai_callV (as := [.int (iv x14), .int (iv 1)]) (d' := 1) (q := ("SinglesUp$Lines", zT4, 3)) mo_L_get lk_C_92 (rc_2_5 _ h_o1).2 rfl rfl rfl ⟨by decide, by decide⟩ rfl rfl (by decide) d_C_fill_76 (t_L_get fu (o1 + 6) x14 1 I12 h_I12 (rc_2_5 _ h_o1).2 h_x14 in_1 c17) (fun h_y15 h_I16 => ?_)
          refine aw_istore (lv2 := [.ref o0, .ref o1, .int (iv x13), .int (iv w3), .int (iv x14), .int (iv y15)]) (Nat.le_of_ble_eq_true rfl) rfl d_C_fill_79 (aw_iload rfl d_C_fill_81 (aw_aload_n rfl rfl d_C_fill_83 (ai_geti fl_C_30 h_o0 (by decide) rfl d_C_fill_84 ?_)))
          obtain ⟨k18, ek18, hf⟩ := of_zj hf
          have hk18 : ∀ (x20 : Int) (I19 : IMem), inr x20 → RG I19 → k18 x20 I19 = some r → Ai l b 5 y_C_fill KC RC (Pv r) I19 121 [.ref o0, .ref o1, .int (iv x20), .int (iv w3), uu, uu] [] := by
            intro x20 I19 h_x20 h_I19 hf
            subst ek18
            refine ai_iinc (n := 1) (lv2 := fun x21 => [.ref o0, .ref o1, .int (iv x20), .int (iv x21), uu, uu]) hf rfl (Nat.le_of_ble_eq_true rfl) (fun _ => rfl) d_C_fill_121 (fun x21 h_x21 hf => ?_)
            refine aw_goto (tgt := 30) (by decide) d_C_fill_124 ?_
            exact ih x20 x21 I19 h_x20 h_x21 h_I19 hf
          refine ai_icmp_le h_y15 (h_I16 o0 7) hf (tgt := 100) (by decide) d_C_fill_87 (fun hf => ?_) (fun hf => ?_)
          · refine aw_aload_n rfl rfl d_C_fill_100 (aw_iload rfl d_C_fill_101 (aw_iload rfl d_C_fill_103 (aw_aload_n rfl rfl d_C_fill_105 (aw_getr (r := o1 + 6) fl_C_72 h_o1 (by decide) rfl (rc_2_5 _ h_o1).1 d_C_fill_106 (aw_iload rfl d_C_fill_109 (aw_iconst (v := iv 3) rfl d_C_fill_111 ?_))))))
            obtain ⟨y22, I23, c24, hf⟩ := of_zb hf
            refine ai_callV (as := [.int (iv x14), .int (iv 3)]) (d' := 1) (q := ("SinglesUp$Lines", zT4, 3)) mo_L_get lk_C_92 (rc_2_5 _ h_o1).2 rfl rfl rfl ⟨by decide, by decide⟩ rfl rfl (by decide) d_C_fill_112 (t_L_get fu (o1 + 6) x14 3 I16 h_I16 (rc_2_5 _ h_o1).2 h_x14 in_3 c24) (fun h_y22 h_I23 => ?_)
            refine aw_iconst (v := iv 1) rfl d_C_fill_115 ?_
            obtain ⟨y25, I26, c27, hf⟩ := of_zb hf
            refine ai_callVv (as := [.int (iv x14), .int (iv y15), .int (iv y22), .int (iv 1)]) (d' := 1) (q := ("SinglesUp$Chair", zT0, 12)) mo_C_sit lk_C_100 h_o0 rfl rfl rfl ⟨by decide, by decide⟩ rfl rfl (by decide) d_C_fill_116 (t_C_sit fu o0 x14 y15 y22 1 I23 h_I23 h_o0 h_x14 h_y15 h_y22 in_1 c27) (fun h_I26 => ?_)
            refine aw_iconst (v := iv 1) rfl d_C_fill_119 (aw_istore_n (lv2 := [.ref o0, .ref o1, .int (iv 1), .int (iv w3), .int (iv x14), .int (iv y15)]) rfl (Nat.le_of_ble_eq_true rfl) rfl d_C_fill_120 ?_)
            refine aw_weakB (lv2 := [.ref o0, .ref o1, .int (iv 1), .int (iv w3), uu, uu]) (wk_s (wk_s (wk_s (wk_s (wk_u (wk_u wk_n)))))) ?_
            exact hk18 1 I26 in_1 h_I26 hf
          · refine aw_aload_n rfl rfl d_C_fill_90 (aw_aload_n rfl rfl d_C_fill_91 (aw_iload rfl d_C_fill_92 ?_))
            obtain ⟨y28, I29, c30, hf⟩ := of_zb hf
            refine ai_callVv (as := [.ref o1, .int (iv x14)]) (d' := 1) (q := ("SinglesUp$Chair", zT0, 12)) mo_C_findOut lk_C_96 h_o0 rfl rfl rfl ⟨by decide, by decide⟩ rfl rfl (by decide) d_C_fill_94 (t_C_findOut fu o0 o1 x14 I16 h_I16 h_o0 h_o1 h_x14 c30) (fun h_I29 => ?_)
            refine aw_goto (tgt := 121) (by decide) d_C_fill_97 ?_
            refine aw_weakB (lv2 := [.ref o0, .ref o1, .int (iv x13), .int (iv w3), uu, uu]) (wk_s (wk_s (wk_s (wk_s (wk_u (wk_u wk_n)))))) ?_
            exact hk18 x13 I29 h_x13 h_I29 hf
        · refine aw_weakB (lv2 := [.ref o0, .ref o1, uu, uu, uu, uu]) (wk_s (wk_s (wk_u (wk_u (wk_u (wk_u wk_n)))))) ?_
          exact hk_66 I12 h_I12 hf
      refine ai_icmp_ne h_y8 in_m1 hf (tgt := 60) (by decide) d_C_fill_47 (fun hf => ?_) (fun hf => ?_)
      · exact hk11 w2 y8 I9 h_w2 h_y8 h_I9 hf
      · refine aw_aload_n rfl rfl d_C_fill_50 (aw_aload_n rfl rfl d_C_fill_51 (aw_iload_n rfl rfl d_C_fill_52 ?_))
        obtain ⟨y31, I32, c33, hf⟩ := of_zb hf
        refine ai_callV (as := [.ref o1, .int (iv w2)]) (d' := 4) (q := ("SinglesUp$Chair", zT0, 12)) mo_C_worthiest lk_C_88 h_o0 rfl rfl rfl ⟨by decide, by decide⟩ rfl rfl (by decide) d_C_fill_53 (t_C_worthiest fu o0 o1 w2 I9 h_I9 h_o0 h_o1 h_w2 c33) (fun h_y31 h_I32 => ?_)
        refine aw_istore (lv2 := [.ref o0, .ref o1, .int (iv w2), .int (iv w3), .int (iv y31), uu]) (Nat.le_of_ble_eq_true rfl) rfl d_C_fill_56 (aw_iconst (v := iv 0) rfl d_C_fill_58 (aw_istore_n (lv2 := [.ref o0, .ref o1, .int (iv 0), .int (iv w3), .int (iv y31), uu]) rfl (Nat.le_of_ble_eq_true rfl) rfl d_C_fill_59 ?_))
        exact hk11 0 y31 I32 in_0 h_y31 h_I32 hf
set_option maxRecDepth 20000 in
theorem t_C_fill (fu : Nat) (o0 : Nat) (o1 : Nat) (I0 : IMem) (hI : RG I0) (h_o0 : KC[o0]? = some (3, 12)) (h_o1 : KC[o1]? = some (5, 14)) {r : Int × IMem} (hf : f_C_fill fu o0 o1 I0 = some r) : Ss l b 5 y_C_fill KC RC [.ref o0, .ref o1] (ivm I0) (Pv r) := by
  unfold f_C_fill at hf
  refine Ss.of (show Ai l b 5 y_C_fill KC RC (Pv r) I0 0 [.ref o0, .ref o1, uu, uu, uu, uu] [] from ?_)
  refine aw_aload_n rfl rfl d_C_fill_0 (aw_aload_n rfl rfl d_C_fill_1 (aw_getr (r := o1 + 1) fl_C_65 h_o1 (by decide) rfl (rc_2_0 _ h_o1).1 d_C_fill_2 (aw_iconst (v := iv 0) rfl d_C_fill_5 (ai_ialdc (j := 0) (rc_2_0 _ h_o1).2 (by decide) (by decide) d_C_fill_6 ?_))))
  obtain ⟨y1, I2, c3, hf⟩ := of_zb hf
  refine ai_callVv (as := [.int (iv (I0 (o1 + 1) 0))]) (d' := 2) (q := ("SinglesUp$Chair", zT0, 12)) mo_C_clear lk_C_68 h_o0 rfl rfl rfl ⟨by decide, by decide⟩ rfl rfl (by decide) d_C_fill_7 (t_C_clear fu o0 (I0 (o1 + 1) 0) I0 hI h_o0 (hI (o1 + 1) 0) c3) (fun h_I2 => ?_)
  refine aw_aload_n rfl rfl d_C_fill_10 (aw_aload_n rfl rfl d_C_fill_11 (aw_getr (r := o1 + 6) fl_C_72 h_o1 (by decide) rfl (rc_2_5 _ h_o1).1 d_C_fill_12 (aw_aload_n rfl rfl d_C_fill_15 (aw_getr (r := o0 + 5) fl_C_24 h_o0 (by decide) rfl (rc_0_4 _ h_o0).1 d_C_fill_16 (aw_iconst (v := iv (-1)) rfl d_C_fill_19 ?_)))))
  obtain ⟨y4, I5, c6, hf⟩ := of_zb hf
  refine ai_callV (as := [.ref (o0 + 5), .int (iv ((-1)))]) (d' := 2) (q := ("SinglesUp$Lines", zT4, 3)) mo_L_listSeen lk_C_76 (rc_2_5 _ h_o1).2 rfl rfl rfl ⟨by decide, by decide⟩ rfl rfl (by decide) d_C_fill_20 (t_L_listSeen fu (o1 + 6) (o0 + 5) 144 ((-1)) I2 h_I2 (rc_2_5 _ h_o1).2 ⟨(rc_0_4 _ h_o0).2, by decide⟩ in_m1 c6) (fun h_y4 h_I5 => ?_)
  refine ai_puti hf h_I5 h_y4 fl_C_82 h_o0 (by decide) rfl rfl rfl rfl d_C_fill_23 (fun I7 h_I7 hf => ?_)
  refine aw_iconst (v := iv 1) rfl d_C_fill_26 (aw_istore_n (lv2 := [.ref o0, .ref o1, .int (iv 1), uu, uu, uu]) rfl (Nat.le_of_ble_eq_true rfl) rfl d_C_fill_27 (aw_iconst (v := iv 0) rfl d_C_fill_28 (aw_istore_n (lv2 := [.ref o0, .ref o1, .int (iv 1), .int (iv 0), uu, uu]) rfl (Nat.le_of_ble_eq_true rfl) rfl d_C_fill_29 ?_)))
  refine t_C_fill_30 fu _ _ o0 o1 h_o0 h_o1 ?_ ?_ fu 1 0 I7 in_1 in_0 h_I7 hf
  · intro I34 h_I34 hf
    refine aw_goto (tgt := 127) (by decide) d_C_fill_66 (aw_aload_n rfl rfl d_C_fill_127 (aw_aload_n rfl rfl d_C_fill_128 ?_))
    obtain ⟨y35, I36, c37, hf⟩ := of_zb hf
    refine ai_callVv (as := [.ref o1]) (d' := 4) (q := ("SinglesUp$Chair", zT0, 12)) mo_C_partOne lk_C_104 h_o0 rfl rfl rfl ⟨by decide, by decide⟩ rfl rfl (by decide) d_C_fill_129 (t_C_partOne fu o0 o1 I34 h_I34 h_o0 h_o1 c37) (fun h_I36 => ?_)
    exact ai_retv rfl d_C_fill_132 hf h_I36
  · intro I38 h_I38 hf
    refine aw_aload_n rfl rfl d_C_fill_127 (aw_aload_n rfl rfl d_C_fill_128 ?_)
    obtain ⟨y39, I40, c41, hf⟩ := of_zb hf
    refine ai_callVv (as := [.ref o1]) (d' := 4) (q := ("SinglesUp$Chair", zT0, 12)) mo_C_partOne lk_C_104 h_o0 rfl rfl rfl ⟨by decide, by decide⟩ rfl rfl (by decide) d_C_fill_129 (t_C_partOne fu o0 o1 I38 h_I38 h_o0 h_o1 c41) (fun h_I40 => ?_)
    exact ai_retv rfl d_C_fill_132 hf h_I40
set_option maxRecDepth 20000 in
theorem t_C_ride (fu : Nat) (o0 : Nat) (o1 : Nat) (I0 : IMem) (hI : RG I0) (h_o0 : KC[o0]? = some (3, 12)) (h_o1 : KC[o1]? = some (5, 14)) {r : Int × IMem} (hf : f_C_ride fu o0 o1 I0 = some r) : Ss l b 6 y_C_ride KC RC [.ref o0, .ref o1] (ivm I0) (Ps r) := by
  unfold f_C_ride at hf
  refine Ss.of (show Ai l b 6 y_C_ride KC RC (Ps r) I0 0 [.ref o0, .ref o1] [] from ?_)
  refine aw_aload_n rfl rfl d_C_ride_0 (aw_aload_n rfl rfl d_C_ride_1 ?_)
  obtain ⟨y1, I2, c3, hf⟩ := of_zb hf
  refine ai_callVv (as := [.ref o1]) (d' := 5) (q := ("SinglesUp$Chair", zT0, 12)) mo_C_fill lk_C_58 h_o0 rfl rfl rfl ⟨by decide, by decide⟩ rfl rfl (by decide) d_C_ride_2 (t_C_fill fu o0 o1 I0 hI h_o0 h_o1 c3) (fun h_I2 => ?_)
  refine aw_aload_n rfl rfl d_C_ride_5 (aw_aload_n rfl rfl d_C_ride_6 ?_)
  obtain ⟨y4, I5, c6, hf⟩ := of_zb hf
  refine ai_callV (as := [.ref o1]) (d' := 4) (q := ("SinglesUp$Chair", zT0, 12)) mo_C_leave lk_C_61 h_o0 rfl rfl rfl ⟨by decide, by decide⟩ rfl rfl (by decide) d_C_ride_7 (t_C_leave fu o0 o1 I2 h_I2 h_o0 h_o1 c6) (fun h_y4 h_I5 => ?_)
  exact ai_reti rfl d_C_ride_10 hf h_y4 h_I5
set_option maxRecDepth 20000 in
theorem t_S_chair (fu : Nat) (o0 : Nat) (I0 : IMem) (hI : RG I0) (h_o0 : KC[o0]? = some (11, 9)) {r : Int × IMem} (hf : f_S_chair fu o0 I0 = some r) : Ss l b 7 y_S_chair KC RC [.ref o0] (ivm I0) (Ps r) := by
  unfold f_S_chair at hf
  refine Ss.of (show Ai l b 7 y_S_chair KC RC (Ps r) I0 0 [.ref o0] [] from ?_)
  refine aw_aload_n rfl rfl d_S_chair_0 ?_
  obtain ⟨y1, I2, c3, hf⟩ := of_zb hf
  refine ai_callVv (as := []) (d' := 3) (q := ("SinglesUp", zT8, 9)) mo_S_dropPicked lk_S_181 h_o0 rfl rfl rfl ⟨by decide, by decide⟩ rfl rfl (by decide) d_S_chair_1 (t_S_dropPicked fu o0 I0 hI h_o0 c3) (fun h_I2 => ?_)
  refine aw_aload_n rfl rfl d_S_chair_4 (aw_getr (r := o0 + 130) fl_S_29 h_o0 (by decide) rfl (rc_8_3 _ h_o0).1 d_S_chair_5 (aw_aload_n rfl rfl d_S_chair_8 (aw_getr (r := o0 + 1) fl_S_12 h_o0 (by decide) rfl (rc_8_0 _ h_o0).1 d_S_chair_9 ?_)))
  obtain ⟨y4, I5, c6, hf⟩ := of_zb hf
  refine ai_callV (as := [.ref (o0 + 1)]) (d' := 6) (q := ("SinglesUp$Chair", zT0, 12)) mo_C_ride lk_S_184 (rc_8_3 _ h_o0).2 rfl rfl rfl ⟨by decide, by decide⟩ rfl rfl (by decide) d_S_chair_12 (t_C_ride fu (o0 + 130) (o0 + 1) I2 h_I2 (rc_8_3 _ h_o0).2 (rc_8_0 _ h_o0).2 c6) (fun h_y4 h_I5 => ?_)
  exact ai_reti rfl d_S_chair_15 hf h_y4 h_I5
set_option maxRecDepth 20000 in
theorem t_H_letComersEnter_2 (fu : Nat) {r : Int × IMem} (o0 : Nat) (h_o0 : KC[o0]? = some (5, 14)) : ∀ (m : Nat) (w1 : Int) (I0 : IMem), inr w1 → RG I0 → f_H_letComersEnter_2 fu o0 m w1 I0 = some r → Ai l b 5 y_H_letComersEnter KC RC (Pv r) I0 2 [.ref o0, .int (iv w1), uu] [] := by
  intro m
  induction m with
  | zero => intro w1 I0 h_w1 h_I0 hf; cases hf
  | succ m ih =>
    intro w1 I0 h_w1 h_I0 hf
    replace hf : fb_H_letComersEnter_2 fu o0 (f_H_letComersEnter_2 fu o0 m) w1 I0 = some r := hf
    unfold fb_H_letComersEnter_2 at hf
    refine aw_iload_n rfl rfl d_H_letComersEnter_2 (aw_iconst (v := iv 3) rfl d_H_letComersEnter_3 (ai_iadd d_H_letComersEnter_4 (aw_aload_n rfl rfl d_H_letComersEnter_5 (aw_getr (r := o0 + 4) fl_H_24 h_o0 (by decide) rfl (rc_2_3 _ h_o0).1 d_H_letComersEnter_6 (ai_alen (N := 32) (rc_2_3 _ h_o0).2 (by decide) rfl (by decide) d_H_letComersEnter_9 ?_)))))
    refine ai_icmp_ge (wr32_in _) in_32 hf (tgt := 70) (by decide) d_H_letComersEnter_10 (fun hf => ?_) (fun hf => ?_)
    · exact ai_retv rfl d_H_letComersEnter_70 hf h_I0
    · refine aw_aload_n rfl rfl d_H_letComersEnter_13 (aw_getr (r := o0 + 4) fl_H_24 h_o0 (by decide) rfl (rc_2_3 _ h_o0).1 d_H_letComersEnter_14 (aw_iload_n rfl rfl d_H_letComersEnter_17 (aw_iconst (v := iv 3) rfl d_H_letComersEnter_18 (ai_iadd d_H_letComersEnter_19 ?_))))
      refine ai_name hf (wr32_in _) (fun x1 h_x1 hf => ?_)
      refine ai_iald (rc_2_3 _ h_o0).2 rfl h_x1 hf d_H_letComersEnter_20 (fun _ hf => ?_)
      refine ai_name hf (h_I0 (o0 + 4) x1.toNat) (fun x2 h_x2 hf => ?_)
      refine aw_istore_n (lv2 := [.ref o0, .int (iv w1), .int (iv x2)]) rfl (Nat.le_of_ble_eq_true rfl) rfl d_H_letComersEnter_21 ?_
      refine aw_iload_n rfl rfl d_H_letComersEnter_22 ?_
      obtain ⟨k3, ek3, hf⟩ := of_zj hf
      have hk3 : ∀  (I4 : IMem), RG I4 → k3 I4 = some r → Ai l b 5 y_H_letComersEnter KC RC (Pv r) I4 64 [.ref o0, .int (iv w1), uu] [] := by
        intro I4 h_I4 hf
        subst ek3
        refine ai_iinc (n := 4) (lv2 := fun x5 => [.ref o0, .int (iv x5), uu]) hf rfl (Nat.le_of_ble_eq_true rfl) (fun _ => rfl) d_H_letComersEnter_64 (fun x5 h_x5 hf => ?_)
        refine aw_goto (tgt := 2) (by decide) d_H_letComersEnter_67 ?_
        exact ih x5 I4 h_x5 h_I4 hf
      refine ai_if_le h_x2 hf (tgt := 64) (by decide) d_H_letComersEnter_23 (fun hf => ?_) (fun hf => ?_)
      · refine aw_weakB (lv2 := [.ref o0, .int (iv w1), uu]) (wk_s (wk_s (wk_u wk_n))) ?_
        exact hk3 I0 h_I0 hf
      · refine aw_aload_n rfl rfl d_H_letComersEnter_26 (aw_sipush (v := iv 1000) cs_1000 d_H_letComersEnter_27 ?_)
        obtain ⟨y6, I7, c8, hf⟩ := of_zb hf
        refine ai_callV (as := [.int (iv 1000)]) (d' := 1) (q := ("SinglesUp$Hill", zT2, 14)) mo_H_draw lk_H_78 h_o0 rfl rfl rfl ⟨by decide, by decide⟩ rfl rfl (by decide) d_H_letComersEnter_30 (t_H_draw fu o0 1000 I0 h_I0 h_o0 in_1000 c8) (fun h_y6 h_I7 => ?_)
        refine aw_iload_n rfl rfl d_H_letComersEnter_33 ?_
        refine ai_icmp_ge h_y6 h_x2 hf (tgt := 64) (by decide) d_H_letComersEnter_34 (fun hf => ?_) (fun hf => ?_)
        · refine aw_weakB (lv2 := [.ref o0, .int (iv w1), uu]) (wk_s (wk_s (wk_u wk_n))) ?_
          exact hk3 I7 h_I7 hf
        · refine aw_aload_n rfl rfl d_H_letComersEnter_37 (aw_aload_n rfl rfl d_H_letComersEnter_38 (aw_getr (r := o0 + 4) fl_H_24 h_o0 (by decide) rfl (rc_2_3 _ h_o0).1 d_H_letComersEnter_39 (aw_iload_n rfl rfl d_H_letComersEnter_42 ?_)))
          refine ai_iald (rc_2_3 _ h_o0).2 rfl h_w1 hf d_H_letComersEnter_43 (fun _ hf => ?_)
          refine aw_aload_n rfl rfl d_H_letComersEnter_44 (aw_getr (r := o0 + 4) fl_H_24 h_o0 (by decide) rfl (rc_2_3 _ h_o0).1 d_H_letComersEnter_45 (aw_iload_n rfl rfl d_H_letComersEnter_48 (aw_iconst (v := iv 1) rfl d_H_letComersEnter_49 (ai_iadd d_H_letComersEnter_50 ?_))))
          refine ai_name hf (wr32_in _) (fun x9 h_x9 hf => ?_)
          refine ai_iald (rc_2_3 _ h_o0).2 rfl h_x9 hf d_H_letComersEnter_51 (fun _ hf => ?_)
          refine aw_aload_n rfl rfl d_H_letComersEnter_52 (aw_getr (r := o0 + 4) fl_H_24 h_o0 (by decide) rfl (rc_2_3 _ h_o0).1 d_H_letComersEnter_53 (aw_iload_n rfl rfl d_H_letComersEnter_56 (aw_iconst (v := iv 2) rfl d_H_letComersEnter_57 (ai_iadd d_H_letComersEnter_58 ?_))))
          refine ai_name hf (wr32_in _) (fun x10 h_x10 hf => ?_)
          refine ai_iald (rc_2_3 _ h_o0).2 rfl h_x10 hf d_H_letComersEnter_59 (fun _ hf => ?_)
          obtain ⟨y11, I12, c13, hf⟩ := of_zb hf
          refine ai_callV (as := [.int (iv (I7 (o0 + 4) w1.toNat)), .int (iv (I7 (o0 + 4) x9.toNat)), .int (iv (I7 (o0 + 4) x10.toNat))]) (d' := 4) (q := ("SinglesUp$Hill", zT2, 14)) mo_H_enter lk_H_82 h_o0 rfl rfl rfl ⟨by decide, by decide⟩ rfl rfl (by decide) d_H_letComersEnter_60 (t_H_enter fu o0 (I7 (o0 + 4) w1.toNat) (I7 (o0 + 4) x9.toNat) (I7 (o0 + 4) x10.toNat) I7 h_I7 h_o0 (h_I7 (o0 + 4) w1.toNat) (h_I7 (o0 + 4) x9.toNat) (h_I7 (o0 + 4) x10.toNat) c13) (fun h_y11 h_I12 => ?_)
          refine aw_pop rfl d_H_letComersEnter_63 ?_
          refine aw_weakB (lv2 := [.ref o0, .int (iv w1), uu]) (wk_s (wk_s (wk_u wk_n))) ?_
          exact hk3 I12 h_I12 hf
set_option maxRecDepth 20000 in
theorem t_H_letComersEnter (fu : Nat) (o0 : Nat) (I0 : IMem) (hI : RG I0) (h_o0 : KC[o0]? = some (5, 14)) {r : Int × IMem} (hf : f_H_letComersEnter fu o0 I0 = some r) : Ss l b 5 y_H_letComersEnter KC RC [.ref o0] (ivm I0) (Pv r) := by
  unfold f_H_letComersEnter at hf
  refine Ss.of (show Ai l b 5 y_H_letComersEnter KC RC (Pv r) I0 0 [.ref o0, uu, uu] [] from ?_)
  refine aw_iconst (v := iv 0) rfl d_H_letComersEnter_0 (aw_istore_n (lv2 := [.ref o0, .int (iv 0), uu]) rfl (Nat.le_of_ble_eq_true rfl) rfl d_H_letComersEnter_1 ?_)
  refine t_H_letComersEnter_2 fu o0 h_o0 fu 0 I0 in_0 hI hf
set_option maxRecDepth 20000 in
theorem t_C_turns_5 (fu : Nat) {r : Int × IMem} (o0 : Nat) (o1 : Nat) (p2 : Int) (h_o0 : KC[o0]? = some (3, 12)) (h_o1 : KC[o1]? = some (5, 14)) (h_p2 : inr p2) : ∀ (m : Nat) (w3 : Int) (w4 : Int) (I0 : IMem), inr w3 → inr w4 → RG I0 → f_C_turns_5 fu o0 o1 p2 m w3 w4 I0 = some r → Ai l b 6 y_C_turns KC RC (Ps r) I0 5 [.ref o0, .ref o1, .int (iv p2), .int (iv w3), .int (iv w4)] [] := by
  intro m
  induction m with
  | zero => intro w3 w4 I0 h_w3 h_w4 h_I0 hf; cases hf
  | succ m ih =>
    intro w3 w4 I0 h_w3 h_w4 h_I0 hf
    replace hf : fb_C_turns_5 fu o0 o1 p2 (f_C_turns_5 fu o0 o1 p2 m) w3 w4 I0 = some r := hf
    unfold fb_C_turns_5 at hf
    refine aw_iload rfl d_C_turns_5 (aw_iload_n rfl rfl d_C_turns_7 ?_)
    refine ai_icmp_ge h_w4 h_p2 hf (tgt := 34) (by decide) d_C_turns_8 (fun hf => ?_) (fun hf => ?_)
    · refine aw_iload_n rfl rfl d_C_turns_34 ?_
      exact ai_reti rfl d_C_turns_35 hf h_w3 h_I0
    · refine aw_aload_n rfl rfl d_C_turns_11 ?_
      obtain ⟨y1, I2, c3, hf⟩ := of_zb hf
      refine ai_callVv (as := []) (d' := 5) (q := ("SinglesUp$Hill", zT2, 14)) mo_H_letComersEnter lk_C_53 h_o1 rfl rfl rfl ⟨by decide, by decide⟩ rfl rfl (by decide) d_C_turns_12 (t_H_letComersEnter fu o1 I0 h_I0 h_o1 c3) (fun h_I2 => ?_)
      refine aw_aload_n rfl rfl d_C_turns_15 (aw_aload_n rfl rfl d_C_turns_16 ?_)
      obtain ⟨y4, I5, c6, hf⟩ := of_zb hf
      refine ai_callVv (as := [.ref o1]) (d' := 5) (q := ("SinglesUp$Chair", zT0, 12)) mo_C_fill lk_C_58 h_o0 rfl rfl rfl ⟨by decide, by decide⟩ rfl rfl (by decide) d_C_turns_17 (t_C_fill fu o0 o1 I2 h_I2 h_o0 h_o1 c6) (fun h_I5 => ?_)
      refine aw_iload_n rfl rfl d_C_turns_20 (aw_aload_n rfl rfl d_C_turns_21 (aw_aload_n rfl rfl d_C_turns_22 ?_))
      obtain ⟨y7, I8, c9, hf⟩ := of_zb hf
      refine ai_callV (as := [.ref o1]) (d' := 4) (q := ("SinglesUp$Chair", zT0, 12)) mo_C_leave lk_C_61 h_o0 rfl rfl rfl ⟨by decide, by decide⟩ rfl rfl (by decide) d_C_turns_23 (t_C_leave fu o0 o1 I5 h_I5 h_o0 h_o1 c9) (fun h_y7 h_I8 => ?_)
      refine ai_iadd d_C_turns_26 ?_
      refine ai_name hf (wr32_in _) (fun x10 h_x10 hf => ?_)
      refine aw_istore_n (lv2 := [.ref o0, .ref o1, .int (iv p2), .int (iv x10), .int (iv w4)]) rfl (Nat.le_of_ble_eq_true rfl) rfl d_C_turns_27 ?_
      refine ai_iinc (n := 1) (lv2 := fun x11 => [.ref o0, .ref o1, .int (iv p2), .int (iv x10), .int (iv x11)]) hf rfl (Nat.le_of_ble_eq_true rfl) (fun _ => rfl) d_C_turns_28 (fun x11 h_x11 hf => ?_)
      refine aw_goto (tgt := 5) (by decide) d_C_turns_31 ?_
      exact ih x10 x11 I8 h_x10 h_x11 h_I8 hf
set_option maxRecDepth 20000 in
theorem t_C_turns (fu : Nat) (o0 : Nat) (o1 : Nat) (a2 : Int) (I0 : IMem) (hI : RG I0) (h_o0 : KC[o0]? = some (3, 12)) (h_o1 : KC[o1]? = some (5, 14)) (h_a2 : inr a2) {r : Int × IMem} (hf : f_C_turns fu o0 o1 a2 I0 = some r) : Ss l b 6 y_C_turns KC RC [.ref o0, .ref o1, .int (iv a2)] (ivm I0) (Ps r) := by
  unfold f_C_turns at hf
  refine Ss.of (show Ai l b 6 y_C_turns KC RC (Ps r) I0 0 [.ref o0, .ref o1, .int (iv a2), uu, uu] [] from ?_)
  refine aw_iconst (v := iv 0) rfl d_C_turns_0 (aw_istore_n (lv2 := [.ref o0, .ref o1, .int (iv a2), .int (iv 0), uu]) rfl (Nat.le_of_ble_eq_true rfl) rfl d_C_turns_1 (aw_iconst (v := iv 0) rfl d_C_turns_2 (aw_istore (lv2 := [.ref o0, .ref o1, .int (iv a2), .int (iv 0), .int (iv 0)]) (Nat.le_of_ble_eq_true rfl) rfl d_C_turns_3 ?_)))
  refine t_C_turns_5 fu o0 o1 a2 h_o0 h_o1 h_a2 fu 0 0 I0 in_0 in_0 hI hf
set_option maxRecDepth 20000 in
theorem t_S_run (fu : Nat) (o0 : Nat) (a1 : Int) (I0 : IMem) (hI : RG I0) (h_o0 : KC[o0]? = some (11, 9)) (h_a1 : inr a1) {r : Int × IMem} (hf : f_S_run fu o0 a1 I0 = some r) : Ss l b 7 y_S_run KC RC [.ref o0, .int (iv a1)] (ivm I0) (Ps r) := by
  unfold f_S_run at hf
  refine Ss.of (show Ai l b 7 y_S_run KC RC (Ps r) I0 0 [.ref o0, .int (iv a1)] [] from ?_)
  refine aw_iload_n rfl rfl d_S_run_0 (aw_iconst (v := iv 1) rfl d_S_run_1 ?_)
  refine ai_icmp_lt h_a1 in_1 hf (tgt := 11) (by decide) d_S_run_2 (fun hf => ?_) (fun hf => ?_)
  · refine aw_iconst (v := iv (-1)) rfl d_S_run_11 ?_
    exact ai_reti rfl d_S_run_12 hf in_m1 hI
  · refine aw_iload_n rfl rfl d_S_run_5 (aw_bipush (v := iv 60) cb_60 d_S_run_6 ?_)
    refine ai_icmp_le h_a1 in_60 hf (tgt := 13) (by decide) d_S_run_8 (fun hf => ?_) (fun hf => ?_)
    · refine aw_aload_n rfl rfl d_S_run_13 ?_
      obtain ⟨y1, I2, c3, hf⟩ := of_zb hf
      refine ai_callVv (as := []) (d' := 3) (q := ("SinglesUp", zT8, 9)) mo_S_dropPicked lk_S_181 h_o0 rfl rfl rfl ⟨by decide, by decide⟩ rfl rfl (by decide) d_S_run_14 (t_S_dropPicked fu o0 I0 hI h_o0 c3) (fun h_I2 => ?_)
      refine aw_aload_n rfl rfl d_S_run_17 (aw_getr (r := o0 + 130) fl_S_29 h_o0 (by decide) rfl (rc_8_3 _ h_o0).1 d_S_run_18 (aw_aload_n rfl rfl d_S_run_21 (aw_getr (r := o0 + 1) fl_S_12 h_o0 (by decide) rfl (rc_8_0 _ h_o0).1 d_S_run_22 (aw_iload_n rfl rfl d_S_run_25 ?_))))
      obtain ⟨y4, I5, c6, hf⟩ := of_zb hf
      refine ai_callV (as := [.ref (o0 + 1), .int (iv a1)]) (d' := 6) (q := ("SinglesUp$Chair", zT0, 12)) mo_C_turns lk_S_187 (rc_8_3 _ h_o0).2 rfl rfl rfl ⟨by decide, by decide⟩ rfl rfl (by decide) d_S_run_26 (t_C_turns fu (o0 + 130) (o0 + 1) a1 I2 h_I2 (rc_8_3 _ h_o0).2 (rc_8_0 _ h_o0).2 h_a1 c6) (fun h_y4 h_I5 => ?_)
      exact ai_reti rfl d_S_run_29 hf h_y4 h_I5
    · refine aw_iconst (v := iv (-1)) rfl d_S_run_11 ?_
      exact ai_reti rfl d_S_run_12 hf in_m1 hI
set_option maxRecDepth 20000 in
theorem t_S_last (fu : Nat) (o0 : Nat) (a1 : Int) (I0 : IMem) (hI : RG I0) (h_o0 : KC[o0]? = some (11, 9)) (h_a1 : inr a1) {r : Int × IMem} (hf : f_S_last fu o0 a1 I0 = some r) : Ss l b 1 y_S_last KC RC [.ref o0, .int (iv a1)] (ivm I0) (Ps r) := by
  unfold f_S_last at hf
  refine Ss.of (show Ai l b 1 y_S_last KC RC (Ps r) I0 0 [.ref o0, .int (iv a1), uu] [] from ?_)
  refine aw_iload_n rfl rfl d_S_last_0 ?_
  refine ai_if_lt h_a1 hf (tgt := 28) (by decide) d_S_last_1 (fun hf => ?_) (fun hf => ?_)
  · refine aw_iconst (v := iv (-1)) rfl d_S_last_28 ?_
    exact ai_reti rfl d_S_last_29 hf in_m1 hI
  · refine aw_iload_n rfl rfl d_S_last_4 (aw_aload_n rfl rfl d_S_last_5 (aw_getr (r := o0 + 1) fl_S_12 h_o0 (by decide) rfl (rc_8_0 _ h_o0).1 d_S_last_6 (aw_getr (r := o0 + 12) fl_S_191 ((rc_8_0 _ h_o0).2) (by decide) rfl (rc_2_9 _ (rc_8_0 _ h_o0).2).1 d_S_last_9 (ai_alen (N := 30) (rc_2_9 _ (rc_8_0 _ h_o0).2).2 (by decide) rfl (by decide) d_S_last_12 ?_))))
    refine ai_icmp_ge h_a1 in_30 hf (tgt := 28) (by decide) d_S_last_13 (fun hf => ?_) (fun hf => ?_)
    · refine aw_iconst (v := iv (-1)) rfl d_S_last_28 ?_
      exact ai_reti rfl d_S_last_29 hf in_m1 hI
    · refine aw_aload_n rfl rfl d_S_last_16 (aw_getr (r := o0 + 1) fl_S_12 h_o0 (by decide) rfl (rc_8_0 _ h_o0).1 d_S_last_17 (aw_getr (r := o0 + 11) fl_S_194 ((rc_8_0 _ h_o0).2) (by decide) rfl (rc_2_8 _ (rc_8_0 _ h_o0).2).1 d_S_last_20 (aw_iconst (v := iv 0) rfl d_S_last_23 (ai_ialdc (j := 0) (rc_2_8 _ (rc_8_0 _ h_o0).2).2 (by decide) (by decide) d_S_last_24 ?_))))
      refine ai_if_ne (hI (o0 + 11) 0) hf (tgt := 30) (by decide) d_S_last_25 (fun hf => ?_) (fun hf => ?_)
      · refine aw_iload_n rfl rfl d_S_last_30 (aw_bipush (v := iv 10) cb_10 d_S_last_31 ?_)
        obtain ⟨k1, ek1, hf⟩ := of_zj hf
        have hk1 : ∀ (x3 : Int) (I2 : IMem), inr x3 → RG I2 → k1 x3 I2 = some r → Ai l b 1 y_S_last KC RC (Ps r) I2 70 [.ref o0, .int (iv a1), uu] [.int (iv x3)] := by
          intro x3 I2 h_x3 h_I2 hf
          subst ek1
          refine aw_istore_n (lv2 := [.ref o0, .int (iv a1), .int (iv x3)]) rfl (Nat.le_of_ble_eq_true rfl) rfl d_S_last_70 (aw_iload_n rfl rfl d_S_last_71 ?_)
          refine ai_if_eq h_x3 hf (tgt := 87) (by decide) d_S_last_72 (fun hf => ?_) (fun hf => ?_)
          · refine aw_iconst (v := iv (-1)) rfl d_S_last_87 ?_
            exact ai_reti rfl d_S_last_88 hf in_m1 h_I2
          · refine aw_aload_n rfl rfl d_S_last_75 (aw_getr (r := o0 + 1) fl_S_12 h_o0 (by decide) rfl (rc_8_0 _ h_o0).1 d_S_last_76 (aw_getr (r := o0 + 12) fl_S_191 ((rc_8_0 _ h_o0).2) (by decide) rfl (rc_2_9 _ (rc_8_0 _ h_o0).2).1 d_S_last_79 (aw_iload_n rfl rfl d_S_last_82 ?_)))
            refine ai_iald (rc_2_9 _ (rc_8_0 _ h_o0).2).2 rfl h_a1 hf d_S_last_83 (fun _ hf => ?_)
            refine aw_goto (tgt := 88) (by decide) d_S_last_84 ?_
            exact ai_reti rfl d_S_last_88 hf (h_I2 (o0 + 12) a1.toNat) h_I2
        refine ai_icmp_ge h_a1 in_10 hf (tgt := 49) (by decide) d_S_last_33 (fun hf => ?_) (fun hf => ?_)
        · refine aw_iload_n rfl rfl d_S_last_49 (aw_bipush (v := iv 10) cb_10 d_S_last_50 (ai_iremc in_10 (by decide) d_S_last_52 (aw_aload_n rfl rfl d_S_last_53 (aw_getr (r := o0 + 1) fl_S_12 h_o0 (by decide) rfl (rc_8_0 _ h_o0).1 d_S_last_54 (aw_getr (r := o0 + 12) fl_S_191 ((rc_8_0 _ h_o0).2) (by decide) rfl (rc_2_9 _ (rc_8_0 _ h_o0).2).1 d_S_last_57 (aw_iconst (v := iv 0) rfl d_S_last_60 (ai_ialdc (j := 0) (rc_2_9 _ (rc_8_0 _ h_o0).2).2 (by decide) (by decide) d_S_last_61 ?_)))))))
          refine ai_icmp_ge (wrem_in _ _) (hI (o0 + 12) 0) hf (tgt := 69) (by decide) d_S_last_62 (fun hf => ?_) (fun hf => ?_)
          · refine aw_iconst (v := iv 0) rfl d_S_last_69 ?_
            exact hk1 0 I0 in_0 hI hf
          · refine aw_iconst (v := iv 1) rfl d_S_last_65 (aw_goto (tgt := 70) (by decide) d_S_last_66 ?_)
            exact hk1 1 I0 in_1 hI hf
        · refine aw_iload_n rfl rfl d_S_last_36 (aw_iconst (v := iv 2) rfl d_S_last_37 ?_)
          refine ai_icmp_ge h_a1 in_2 hf (tgt := 45) (by decide) d_S_last_38 (fun hf => ?_) (fun hf => ?_)
          · refine aw_iconst (v := iv 0) rfl d_S_last_45 (aw_goto (tgt := 70) (by decide) d_S_last_46 ?_)
            exact hk1 0 I0 in_0 hI hf
          · refine aw_iconst (v := iv 1) rfl d_S_last_41 (aw_goto (tgt := 70) (by decide) d_S_last_42 ?_)
            exact hk1 1 I0 in_1 hI hf
      · refine aw_iconst (v := iv (-1)) rfl d_S_last_28 ?_
        exact ai_reti rfl d_S_last_29 hf in_m1 hI
set_option maxRecDepth 20000 in
theorem t_H_meanWait (fu : Nat) (o0 : Nat) (a1 : Int) (I0 : IMem) (hI : RG I0) (h_o0 : KC[o0]? = some (5, 14)) (h_a1 : inr a1) {r : Int × IMem} (hf : f_H_meanWait fu o0 a1 I0 = some r) : Ss l b 1 y_H_meanWait KC RC [.ref o0, .int (iv a1)] (ivm I0) (Ps r) := by
  unfold f_H_meanWait at hf
  refine Ss.of (show Ai l b 1 y_H_meanWait KC RC (Ps r) I0 0 [.ref o0, .int (iv a1)] [] from ?_)
  refine aw_iload_n rfl rfl d_H_meanWait_0 (aw_iconst (v := iv 1) rfl d_H_meanWait_1 ?_)
  refine ai_icmp_lt h_a1 in_1 hf (tgt := 23) (by decide) d_H_meanWait_2 (fun hf => ?_) (fun hf => ?_)
  · refine aw_iconst (v := iv (-1)) rfl d_H_meanWait_23 ?_
    exact ai_reti rfl d_H_meanWait_24 hf in_m1 hI
  · refine aw_iload_n rfl rfl d_H_meanWait_5 (aw_bipush (v := iv 8) cb_8 d_H_meanWait_6 ?_)
    refine ai_icmp_gt h_a1 in_8 hf (tgt := 23) (by decide) d_H_meanWait_8 (fun hf => ?_) (fun hf => ?_)
    · refine aw_iconst (v := iv (-1)) rfl d_H_meanWait_23 ?_
      exact ai_reti rfl d_H_meanWait_24 hf in_m1 hI
    · refine aw_aload_n rfl rfl d_H_meanWait_11 (aw_getr (r := o0 + 10) fl_H_37 h_o0 (by decide) rfl (rc_2_8 _ h_o0).1 d_H_meanWait_12 (aw_bipush (v := iv 10) cb_10 d_H_meanWait_15 (aw_iload_n rfl rfl d_H_meanWait_17 (ai_iadd d_H_meanWait_18 ?_))))
      refine ai_name hf (wr32_in _) (fun x1 h_x1 hf => ?_)
      refine ai_iald (rc_2_8 _ h_o0).2 rfl h_x1 hf d_H_meanWait_19 (fun _ hf => ?_)
      refine ai_if_gt (hI (o0 + 10) x1.toNat) hf (tgt := 25) (by decide) d_H_meanWait_20 (fun hf => ?_) (fun hf => ?_)
      · refine aw_ldc2 kl_H_122 d_H_meanWait_25 (aw_aload_n rfl rfl d_H_meanWait_28 (aw_getr (r := o0 + 10) fl_H_37 h_o0 (by decide) rfl (rc_2_8 _ h_o0).1 d_H_meanWait_29 (aw_bipush (v := iv 20) cb_20 d_H_meanWait_32 (aw_iload_n rfl rfl d_H_meanWait_34 (ai_iadd d_H_meanWait_35 ?_)))))
        refine ai_name hf (wr32_in _) (fun x2 h_x2 hf => ?_)
        refine ai_iald (rc_2_8 _ h_o0).2 rfl h_x2 hf d_H_meanWait_36 (fun _ hf => ?_)
        refine aw_i2l rfl d_H_meanWait_37 (aw_lmul d_H_meanWait_38 (aw_aload_n rfl rfl d_H_meanWait_39 (aw_getr (r := o0 + 10) fl_H_37 h_o0 (by decide) rfl (rc_2_8 _ h_o0).1 d_H_meanWait_40 (aw_bipush (v := iv 10) cb_10 d_H_meanWait_43 (aw_iload_n rfl rfl d_H_meanWait_45 (ai_iadd d_H_meanWait_46 ?_))))))
        refine ai_name hf (wr32_in _) (fun x3 h_x3 hf => ?_)
        refine ai_iald (rc_2_8 _ h_o0).2 rfl h_x3 hf d_H_meanWait_47 (fun _ hf => ?_)
        refine aw_i2l rfl d_H_meanWait_48 ?_
        obtain ⟨gl, hf⟩ := of_zg hf
        refine aw_ldiv (i64_ne (hI (o0 + 10) x3.toNat) gl) d_H_meanWait_49 ?_
        refine aw_l2i rfl d_H_meanWait_50 (ai_top (iv_of _).symm ?_)
        exact ai_reti rfl d_H_meanWait_51 hf (toInt_in _) hI
      · refine aw_iconst (v := iv (-1)) rfl d_H_meanWait_23 ?_
        exact ai_reti rfl d_H_meanWait_24 hf in_m1 hI
set_option maxRecDepth 20000 in
theorem t_S_count (fu : Nat) (o0 : Nat) (a1 : Int) (I0 : IMem) (hI : RG I0) (h_o0 : KC[o0]? = some (11, 9)) (h_a1 : inr a1) {r : Int × IMem} (hf : f_S_count fu o0 a1 I0 = some r) : Ss l b 2 y_S_count KC RC [.ref o0, .int (iv a1)] (ivm I0) (Ps r) := by
  unfold f_S_count at hf
  refine Ss.of (show Ai l b 2 y_S_count KC RC (Ps r) I0 0 [.ref o0, .int (iv a1), uu] [] from ?_)
  refine aw_iload_n rfl rfl d_S_count_0 ?_
  obtain ⟨k1, ek1, hf⟩ := of_zj hf
  have hk1 : ∀  (I2 : IMem), RG I2 → k1 I2 = some r → Ai l b 2 y_S_count KC RC (Ps r) I2 20 [.ref o0, .int (iv a1), uu] [] := by
    intro I2 h_I2 hf
    subst ek1
    refine aw_iload_n rfl rfl d_S_count_20 (aw_bipush (v := iv 10) cb_10 d_S_count_21 (ai_iremc in_10 (by decide) d_S_count_23 ?_))
    refine ai_name hf (wrem_in _ _) (fun x3 h_x3 hf => ?_)
    refine aw_istore_n (lv2 := [.ref o0, .int (iv a1), .int (iv x3)]) rfl (Nat.le_of_ble_eq_true rfl) rfl d_S_count_24 ?_
    refine aw_iload_n rfl rfl d_S_count_25 (aw_bipush (v := iv 10) cb_10 d_S_count_26 ?_)
    refine ai_icmp_lt h_a1 in_10 hf (tgt := 48) (by decide) d_S_count_28 (fun hf => ?_) (fun hf => ?_)
    · refine aw_iconst (v := iv (-1)) rfl d_S_count_48 ?_
      exact ai_reti rfl d_S_count_49 hf in_m1 h_I2
    · refine aw_iload_n rfl rfl d_S_count_31 (aw_bipush (v := iv 48) cb_48 d_S_count_32 ?_)
      refine ai_icmp_gt h_a1 in_48 hf (tgt := 48) (by decide) d_S_count_34 (fun hf => ?_) (fun hf => ?_)
      · refine aw_iconst (v := iv (-1)) rfl d_S_count_48 ?_
        exact ai_reti rfl d_S_count_49 hf in_m1 h_I2
      · refine aw_iload_n rfl rfl d_S_count_37 (aw_iconst (v := iv 1) rfl d_S_count_38 ?_)
        refine ai_icmp_lt h_x3 in_1 hf (tgt := 48) (by decide) d_S_count_39 (fun hf => ?_) (fun hf => ?_)
        · refine aw_iconst (v := iv (-1)) rfl d_S_count_48 ?_
          exact ai_reti rfl d_S_count_49 hf in_m1 h_I2
        · refine aw_iload_n rfl rfl d_S_count_42 (aw_bipush (v := iv 8) cb_8 d_S_count_43 ?_)
          refine ai_icmp_le h_x3 in_8 hf (tgt := 50) (by decide) d_S_count_45 (fun hf => ?_) (fun hf => ?_)
          · refine aw_iload_n rfl rfl d_S_count_50 (aw_bipush (v := iv 40) cb_40 d_S_count_51 ?_)
            refine ai_icmp_ge h_a1 in_40 hf (tgt := 68) (by decide) d_S_count_53 (fun hf => ?_) (fun hf => ?_)
            · refine aw_aload_n rfl rfl d_S_count_68 (aw_getr (r := o0 + 1) fl_S_12 h_o0 (by decide) rfl (rc_8_0 _ h_o0).1 d_S_count_69 (aw_iload_n rfl rfl d_S_count_72 ?_))
              obtain ⟨y4, I5, c6, hf⟩ := of_zb hf
              refine ai_callV (as := [.int (iv x3)]) (d' := 1) (q := ("SinglesUp$Hill", zT2, 14)) mo_H_meanWait lk_S_197 (rc_8_0 _ h_o0).2 rfl rfl rfl ⟨by decide, by decide⟩ rfl rfl (by decide) d_S_count_73 (t_H_meanWait fu (o0 + 1) x3 I2 h_I2 (rc_8_0 _ h_o0).2 h_x3 c6) (fun h_y4 h_I5 => ?_)
              exact ai_reti rfl d_S_count_76 hf h_y4 h_I5
            · refine aw_aload_n rfl rfl d_S_count_56 (aw_getr (r := o0 + 1) fl_S_12 h_o0 (by decide) rfl (rc_8_0 _ h_o0).1 d_S_count_57 (aw_getr (r := o0 + 11) fl_S_194 ((rc_8_0 _ h_o0).2) (by decide) rfl (rc_2_8 _ (rc_8_0 _ h_o0).2).1 d_S_count_60 (aw_iload_n rfl rfl d_S_count_63 ?_)))
              refine ai_iald (rc_2_8 _ (rc_8_0 _ h_o0).2).2 rfl h_a1 hf d_S_count_64 (fun _ hf => ?_)
              refine aw_goto (tgt := 76) (by decide) d_S_count_65 ?_
              exact ai_reti rfl d_S_count_76 hf (h_I2 (o0 + 11) a1.toNat) h_I2
          · refine aw_iconst (v := iv (-1)) rfl d_S_count_48 ?_
            exact ai_reti rfl d_S_count_49 hf in_m1 h_I2
  refine ai_if_lt h_a1 hf (tgt := 20) (by decide) d_S_count_1 (fun hf => ?_) (fun hf => ?_)
  · exact hk1 I0 hI hf
  · refine aw_iload_n rfl rfl d_S_count_4 (aw_bipush (v := iv 6) cb_6 d_S_count_5 ?_)
    refine ai_icmp_gt h_a1 in_6 hf (tgt := 20) (by decide) d_S_count_7 (fun hf => ?_) (fun hf => ?_)
    · exact hk1 I0 hI hf
    · refine aw_aload_n rfl rfl d_S_count_10 (aw_getr (r := o0 + 1) fl_S_12 h_o0 (by decide) rfl (rc_8_0 _ h_o0).1 d_S_count_11 (aw_getr (r := o0 + 11) fl_S_194 ((rc_8_0 _ h_o0).2) (by decide) rfl (rc_2_8 _ (rc_8_0 _ h_o0).2).1 d_S_count_14 (aw_iload_n rfl rfl d_S_count_17 ?_)))
      refine ai_iald (rc_2_8 _ (rc_8_0 _ h_o0).2).2 rfl h_a1 hf d_S_count_18 (fun _ hf => ?_)
      exact ai_reti rfl d_S_count_19 hf (hI (o0 + 11) a1.toNat) hI
set_option maxRecDepth 20000 in
theorem t_F_chosenAt (fu : Nat) (o0 : Nat) (a1 : Int) (I0 : IMem) (hI : RG I0) (h_o0 : KC[o0]? = some (4, 7)) (h_a1 : inr a1) {r : Int × IMem} (hf : f_F_chosenAt fu o0 a1 I0 = some r) : Ss l b 1 y_F_chosenAt KC RC [.ref o0, .int (iv a1)] (ivm I0) (Ps r) := by
  unfold f_F_chosenAt at hf
  refine Ss.of (show Ai l b 1 y_F_chosenAt KC RC (Ps r) I0 0 [.ref o0, .int (iv a1)] [] from ?_)
  refine aw_iload_n rfl rfl d_F_chosenAt_0 ?_
  refine ai_if_lt h_a1 hf (tgt := 18) (by decide) d_F_chosenAt_1 (fun hf => ?_) (fun hf => ?_)
  · refine aw_iconst (v := iv (-1)) rfl d_F_chosenAt_18 ?_
    exact ai_reti rfl d_F_chosenAt_19 hf in_m1 hI
  · refine aw_iload_n rfl rfl d_F_chosenAt_4 (aw_aload_n rfl rfl d_F_chosenAt_5 (ai_geti fl_F_76 h_o0 (by decide) rfl d_F_chosenAt_6 ?_))
    refine ai_icmp_ge h_a1 (hI o0 6) hf (tgt := 18) (by decide) d_F_chosenAt_9 (fun hf => ?_) (fun hf => ?_)
    · refine aw_iconst (v := iv (-1)) rfl d_F_chosenAt_18 ?_
      exact ai_reti rfl d_F_chosenAt_19 hf in_m1 hI
    · refine aw_iload_n rfl rfl d_F_chosenAt_12 (aw_bipush (v := iv 8) cb_8 d_F_chosenAt_13 ?_)
      refine ai_icmp_lt h_a1 in_8 hf (tgt := 20) (by decide) d_F_chosenAt_15 (fun hf => ?_) (fun hf => ?_)
      · refine aw_bipush (v := iv 100) cb_100 d_F_chosenAt_20 (aw_aload_n rfl rfl d_F_chosenAt_22 (aw_getr (r := o0 + 5) fl_F_24 h_o0 (by decide) rfl (rc_1_5 _ h_o0).1 d_F_chosenAt_23 (aw_iload_n rfl rfl d_F_chosenAt_26 ?_)))
        refine ai_iald (rc_1_5 _ h_o0).2 rfl h_a1 hf d_F_chosenAt_27 (fun _ hf => ?_)
        refine aw_bipush (v := iv 40) cb_40 d_F_chosenAt_28 (ai_idivc in_40 (by decide) d_F_chosenAt_30 (ai_imul d_F_chosenAt_31 (aw_aload_n rfl rfl d_F_chosenAt_32 (aw_getr (r := o0 + 5) fl_F_24 h_o0 (by decide) rfl (rc_1_5 _ h_o0).1 d_F_chosenAt_33 (aw_iload_n rfl rfl d_F_chosenAt_36 ?_)))))
        refine ai_iald (rc_1_5 _ h_o0).2 rfl h_a1 hf d_F_chosenAt_37 (fun _ hf => ?_)
        refine aw_bipush (v := iv 40) cb_40 d_F_chosenAt_38 (ai_iremc in_40 (by decide) d_F_chosenAt_40 (ai_iadd d_F_chosenAt_41 ?_))
        exact ai_reti rfl d_F_chosenAt_42 hf (wr32_in _) hI
      · refine aw_iconst (v := iv (-1)) rfl d_F_chosenAt_18 ?_
        exact ai_reti rfl d_F_chosenAt_19 hf in_m1 hI
set_option maxRecDepth 20000 in
theorem t_F_at (fu : Nat) (a0 : Int) (a1 : Int) (a2 : Int) (I0 : IMem) (hI : RG I0) (h_a0 : inr a0) (h_a1 : inr a1) (h_a2 : inr a2) {r : Int × IMem} (hf : f_F_at fu a0 a1 a2 I0 = some r) : Ss l b 1 y_F_at KC RC [.int (iv a0), .int (iv a1), .int (iv a2)] (ivm I0) (Ps r) := by
  unfold f_F_at at hf
  refine Ss.of (show Ai l b 1 y_F_at KC RC (Ps r) I0 0 [.int (iv a0), .int (iv a1), .int (iv a2), uu] [] from ?_)
  refine aw_iload_n rfl rfl d_F_at_0 ?_
  obtain ⟨k1, ek1, hf⟩ := of_zj hf
  have hk1 : ∀ (x3 : Int) (I2 : IMem), inr x3 → RG I2 → k1 x3 I2 = some r → Ai l b 1 y_F_at KC RC (Ps r) I2 35 [.int (iv a0), .int (iv a1), .int (iv a2), uu] [.int (iv x3)] := by
    intro x3 I2 h_x3 h_I2 hf
    subst ek1
    refine aw_istore_n (lv2 := [.int (iv a0), .int (iv a1), .int (iv a2), .int (iv x3)]) rfl (Nat.le_of_ble_eq_true rfl) rfl d_F_at_35 (aw_iload_n rfl rfl d_F_at_36 ?_)
    refine ai_if_eq h_x3 hf (tgt := 53) (by decide) d_F_at_37 (fun hf => ?_) (fun hf => ?_)
    · refine aw_iconst (v := iv 0) rfl d_F_at_53 ?_
      exact ai_reti rfl d_F_at_54 hf in_0 h_I2
    · refine aw_iload_n rfl rfl d_F_at_40 (aw_iconst (v := iv 3) rfl d_F_at_41 (ai_imul d_F_at_42 (aw_iload_n rfl rfl d_F_at_43 (ai_iadd d_F_at_44 (aw_bipush (v := iv 9) cb_9 d_F_at_45 (ai_imul d_F_at_47 (aw_iload_n rfl rfl d_F_at_48 (ai_iadd d_F_at_49 (aw_goto (tgt := 54) (by decide) d_F_at_50 ?_)))))))))
      exact ai_reti rfl d_F_at_54 hf (wr32_in _) h_I2
  refine ai_if_lt h_a0 hf (tgt := 34) (by decide) d_F_at_1 (fun hf => ?_) (fun hf => ?_)
  · refine aw_iconst (v := iv 0) rfl d_F_at_34 ?_
    exact hk1 0 I0 in_0 hI hf
  · refine aw_iload_n rfl rfl d_F_at_4 (aw_sipush (v := iv 144) cs_144 d_F_at_5 ?_)
    refine ai_icmp_gt h_a0 in_144 hf (tgt := 34) (by decide) d_F_at_8 (fun hf => ?_) (fun hf => ?_)
    · refine aw_iconst (v := iv 0) rfl d_F_at_34 ?_
      exact hk1 0 I0 in_0 hI hf
    · refine aw_iload_n rfl rfl d_F_at_11 ?_
      refine ai_if_lt h_a1 hf (tgt := 34) (by decide) d_F_at_12 (fun hf => ?_) (fun hf => ?_)
      · refine aw_iconst (v := iv 0) rfl d_F_at_34 ?_
        exact hk1 0 I0 in_0 hI hf
      · refine aw_iload_n rfl rfl d_F_at_15 (aw_iconst (v := iv 3) rfl d_F_at_16 ?_)
        refine ai_icmp_ge h_a1 in_3 hf (tgt := 34) (by decide) d_F_at_17 (fun hf => ?_) (fun hf => ?_)
        · refine aw_iconst (v := iv 0) rfl d_F_at_34 ?_
          exact hk1 0 I0 in_0 hI hf
        · refine aw_iload_n rfl rfl d_F_at_20 ?_
          refine ai_if_lt h_a2 hf (tgt := 34) (by decide) d_F_at_21 (fun hf => ?_) (fun hf => ?_)
          · refine aw_iconst (v := iv 0) rfl d_F_at_34 ?_
            exact hk1 0 I0 in_0 hI hf
          · refine aw_iload_n rfl rfl d_F_at_24 (aw_bipush (v := iv 9) cb_9 d_F_at_25 ?_)
            refine ai_icmp_ge h_a2 in_9 hf (tgt := 34) (by decide) d_F_at_27 (fun hf => ?_) (fun hf => ?_)
            · refine aw_iconst (v := iv 0) rfl d_F_at_34 ?_
              exact hk1 0 I0 in_0 hI hf
            · refine aw_iconst (v := iv 1) rfl d_F_at_30 (aw_goto (tgt := 35) (by decide) d_F_at_31 ?_)
              exact hk1 1 I0 in_1 hI hf
set_option maxRecDepth 20000 in
theorem t_F_thereWith (fu : Nat) (o0 : Nat) (a1 : Int) (a2 : Int) (I0 : IMem) (hI : RG I0) (h_o0 : KC[o0]? = some (4, 7)) (h_a1 : inr a1) (h_a2 : inr a2) {r : Int × IMem} (hf : f_F_thereWith fu o0 a1 a2 I0 = some r) : Ss l b 1 y_F_thereWith KC RC [.ref o0, .int (iv a1), .int (iv a2)] (ivm I0) (Ps r) := by
  unfold f_F_thereWith at hf
  refine Ss.of (show Ai l b 1 y_F_thereWith KC RC (Ps r) I0 0 [.ref o0, .int (iv a1), .int (iv a2)] [] from ?_)
  refine aw_aload_n rfl rfl d_F_thereWith_0 (aw_getr (r := o0 + 3) fl_F_18 h_o0 (by decide) rfl (rc_1_2 _ h_o0).1 d_F_thereWith_1 (aw_iload_n rfl rfl d_F_thereWith_4 ?_))
  refine ai_iald (rc_1_2 _ h_o0).2 rfl h_a1 hf d_F_thereWith_5 (fun _ hf => ?_)
  refine aw_iconst (v := iv 1) rfl d_F_thereWith_6 ?_
  refine ai_icmp_eq (hI (o0 + 3) a1.toNat) in_1 hf (tgt := 14) (by decide) d_F_thereWith_7 (fun hf => ?_) (fun hf => ?_)
  · refine aw_iload_n rfl rfl d_F_thereWith_14 ?_
    refine ai_if_ne h_a2 hf (tgt := 22) (by decide) d_F_thereWith_15 (fun hf => ?_) (fun hf => ?_)
    · refine aw_iload_n rfl rfl d_F_thereWith_22 ?_
      exact ai_reti rfl d_F_thereWith_23 hf h_a2 hI
    · refine aw_iconst (v := iv 1) rfl d_F_thereWith_18 (aw_goto (tgt := 23) (by decide) d_F_thereWith_19 ?_)
      exact ai_reti rfl d_F_thereWith_23 hf in_1 hI
  · refine aw_iconst (v := iv 2) rfl d_F_thereWith_10 (aw_goto (tgt := 23) (by decide) d_F_thereWith_11 ?_)
    exact ai_reti rfl d_F_thereWith_23 hf in_2 hI
set_option maxRecDepth 20000 in
theorem t_F_mostWith (fu : Nat) (o0 : Nat) (a1 : Int) (a2 : Int) (a3 : Int) (I0 : IMem) (hI : RG I0) (h_o0 : KC[o0]? = some (4, 7)) (h_a1 : inr a1) (h_a2 : inr a2) (h_a3 : inr a3) {r : Int × IMem} (hf : f_F_mostWith fu o0 a1 a2 a3 I0 = some r) : Ss l b 2 y_F_mostWith KC RC [.ref o0, .int (iv a1), .int (iv a2), .int (iv a3)] (ivm I0) (Ps r) := by
  unfold f_F_mostWith at hf
  refine Ss.of (show Ai l b 2 y_F_mostWith KC RC (Ps r) I0 0 [.ref o0, .int (iv a1), .int (iv a2), .int (iv a3), uu] [] from ?_)
  refine aw_iload_n rfl rfl d_F_mostWith_0 ?_
  refine ai_if_lt h_a1 hf (tgt := 21) (by decide) d_F_mostWith_1 (fun hf => ?_) (fun hf => ?_)
  · refine aw_iconst (v := iv (-1)) rfl d_F_mostWith_21 ?_
    exact ai_reti rfl d_F_mostWith_22 hf in_m1 hI
  · refine aw_iload_n rfl rfl d_F_mostWith_4 (aw_sipush (v := iv 144) cs_144 d_F_mostWith_5 ?_)
    refine ai_icmp_ge h_a1 in_144 hf (tgt := 21) (by decide) d_F_mostWith_8 (fun hf => ?_) (fun hf => ?_)
    · refine aw_iconst (v := iv (-1)) rfl d_F_mostWith_21 ?_
      exact ai_reti rfl d_F_mostWith_22 hf in_m1 hI
    · refine aw_aload_n rfl rfl d_F_mostWith_11 (aw_getr (r := o0 + 2) fl_F_15 h_o0 (by decide) rfl (rc_1_1 _ h_o0).1 d_F_mostWith_12 (aw_iload_n rfl rfl d_F_mostWith_15 ?_))
      refine ai_iald (rc_1_1 _ h_o0).2 rfl h_a1 hf d_F_mostWith_16 (fun _ hf => ?_)
      refine aw_iload_n rfl rfl d_F_mostWith_17 ?_
      refine ai_icmp_le (hI (o0 + 2) a1.toNat) h_a3 hf (tgt := 23) (by decide) d_F_mostWith_18 (fun hf => ?_) (fun hf => ?_)
      · refine aw_aload_n rfl rfl d_F_mostWith_23 (aw_getr (r := o0 + 4) fl_F_21 h_o0 (by decide) rfl (rc_1_4 _ h_o0).1 d_F_mostWith_24 (aw_iload_n rfl rfl d_F_mostWith_27 (aw_iconst (v := iv 1) rfl d_F_mostWith_28 (ai_iadd d_F_mostWith_29 (aw_aload_n rfl rfl d_F_mostWith_30 (aw_iload_n rfl rfl d_F_mostWith_31 (aw_iload_n rfl rfl d_F_mostWith_32 ?_)))))))
        obtain ⟨y1, I2, c3, hf⟩ := of_zb hf
        refine ai_callV (as := [.int (iv a1), .int (iv a2)]) (d' := 1) (q := ("SinglesUp$Filling", zT1, 7)) mo_F_thereWith lk_F_73 h_o0 rfl rfl rfl ⟨by decide, by decide⟩ rfl rfl (by decide) d_F_mostWith_33 (t_F_thereWith fu o0 a1 a2 I0 hI h_o0 h_a1 h_a2 c3) (fun h_y1 h_I2 => ?_)
        refine aw_iload_n rfl rfl d_F_mostWith_36 (aw_aload_n rfl rfl d_F_mostWith_37 (aw_getr (r := o0 + 2) fl_F_15 h_o0 (by decide) rfl (rc_1_1 _ h_o0).1 d_F_mostWith_38 (aw_iload_n rfl rfl d_F_mostWith_41 ?_)))
        refine ai_iald (rc_1_1 _ h_o0).2 rfl h_a1 hf d_F_mostWith_42 (fun _ hf => ?_)
        refine ai_isub d_F_mostWith_43 ?_
        obtain ⟨y4, I5, c6, hf⟩ := of_zb hf
        refine ai_callS (as := [.int (iv (wr32 (a1 + 1))), .int (iv y1), .int (iv (wr32 (a3 - (I2 (o0 + 2) a1.toNat))))]) (d' := 1) mo_F_at lk_F_50 rfl ⟨by decide, by decide⟩ rfl rfl (by decide) d_F_mostWith_44 (t_F_at fu (wr32 (a1 + 1)) y1 (wr32 (a3 - (I2 (o0 + 2) a1.toNat))) I2 h_I2 (wr32_in _) h_y1 (wr32_in _) c6) (fun h_y4 h_I5 => ?_)
        refine ai_iald (rc_1_4 _ h_o0).2 rfl h_y4 hf d_F_mostWith_47 (fun _ hf => ?_)
        refine ai_name hf (h_I5 (o0 + 4) y4.toNat) (fun x7 h_x7 hf => ?_)
        refine aw_istore (lv2 := [.ref o0, .int (iv a1), .int (iv a2), .int (iv a3), .int (iv x7)]) (Nat.le_of_ble_eq_true rfl) rfl d_F_mostWith_48 ?_
        refine aw_iload rfl d_F_mostWith_50 (aw_iconst (v := iv (-1)) rfl d_F_mostWith_52 ?_)
        refine ai_icmp_ne h_x7 in_m1 hf (tgt := 60) (by decide) d_F_mostWith_53 (fun hf => ?_) (fun hf => ?_)
        · refine aw_iload rfl d_F_mostWith_60 (aw_aload_n rfl rfl d_F_mostWith_62 (aw_getr (r := o0 + 2) fl_F_15 h_o0 (by decide) rfl (rc_1_1 _ h_o0).1 d_F_mostWith_63 (aw_iload_n rfl rfl d_F_mostWith_66 ?_)))
          refine ai_iald (rc_1_1 _ h_o0).2 rfl h_a1 hf d_F_mostWith_67 (fun _ hf => ?_)
          refine ai_iadd d_F_mostWith_68 ?_
          exact ai_reti rfl d_F_mostWith_69 hf (wr32_in _) h_I5
        · refine aw_iconst (v := iv (-1)) rfl d_F_mostWith_56 (aw_goto (tgt := 69) (by decide) d_F_mostWith_57 ?_)
          exact ai_reti rfl d_F_mostWith_69 hf in_m1 h_I5
      · refine aw_iconst (v := iv (-1)) rfl d_F_mostWith_21 ?_
        exact ai_reti rfl d_F_mostWith_22 hf in_m1 hI
set_option maxRecDepth 20000 in
theorem t_F_choose_12 (fu : Nat) {r : Int × IMem} (o0 : Nat) (h_o0 : KC[o0]? = some (4, 7)) : ∀ (m : Nat) (w2 : Int) (w3 : Int) (w4 : Int) (I0 : IMem), inr w2 → inr w3 → inr w4 → RG I0 → f_F_choose_12 fu o0 m w2 w3 w4 I0 = some r → Ai l b 3 y_F_choose KC RC (Pv r) I0 12 [.ref o0, uu, .int (iv w2), .int (iv w3), .int (iv w4), uu] [] := by
  intro m
  induction m with
  | zero => intro w2 w3 w4 I0 h_w2 h_w3 h_w4 h_I0 hf; cases hf
  | succ m ih =>
    intro w2 w3 w4 I0 h_w2 h_w3 h_w4 h_I0 hf
    replace hf : fb_F_choose_12 fu o0 (f_F_choose_12 fu o0 m) w2 w3 w4 I0 = some r := hf
    unfold fb_F_choose_12 at hf
    refine aw_iload rfl d_F_choose_12 (aw_aload_n rfl rfl d_F_choose_14 (ai_geti fl_F_46 h_o0 (by decide) rfl d_F_choose_15 ?_))
    refine ai_icmp_ge h_w4 (h_I0 o0 3) hf (tgt := 121) (by decide) d_F_choose_18 (fun hf => ?_) (fun hf => ?_)
    · exact ai_retv rfl d_F_choose_121 hf h_I0
    · refine aw_iload rfl d_F_choose_21 (aw_sipush (v := iv 144) cs_144 d_F_choose_23 ?_)
      refine ai_icmp_ge h_w4 in_144 hf (tgt := 121) (by decide) d_F_choose_26 (fun hf => ?_) (fun hf => ?_)
      · exact ai_retv rfl d_F_choose_121 hf h_I0
      · refine aw_aload_n rfl rfl d_F_choose_29 (ai_geti fl_F_76 h_o0 (by decide) rfl d_F_choose_30 (aw_bipush (v := iv 8) cb_8 d_F_choose_33 ?_))
        refine ai_icmp_ge (h_I0 o0 6) in_8 hf (tgt := 121) (by decide) d_F_choose_35 (fun hf => ?_) (fun hf => ?_)
        · exact ai_retv rfl d_F_choose_121 hf h_I0
        · refine aw_aload_n rfl rfl d_F_choose_38 (aw_iload rfl d_F_choose_39 (aw_iload_n rfl rfl d_F_choose_41 (aw_iload_n rfl rfl d_F_choose_42 ?_)))
          obtain ⟨y2, I3, c4, hf⟩ := of_zb hf
          refine ai_callV (as := [.int (iv w4), .int (iv w2), .int (iv w3)]) (d' := 2) (q := ("SinglesUp$Filling", zT1, 7)) mo_F_mostWith lk_F_54 h_o0 rfl rfl rfl ⟨by decide, by decide⟩ rfl rfl (by decide) d_F_choose_43 (t_F_mostWith fu o0 w4 w2 w3 I0 h_I0 h_o0 h_w4 h_w2 h_w3 c4) (fun h_y2 h_I3 => ?_)
          refine aw_istore (lv2 := [.ref o0, uu, .int (iv w2), .int (iv w3), .int (iv w4), .int (iv y2)]) (Nat.le_of_ble_eq_true rfl) rfl d_F_choose_46 (aw_iload rfl d_F_choose_48 (aw_iconst (v := iv (-1)) rfl d_F_choose_50 ?_))
          obtain ⟨k5, ek5, hf⟩ := of_zj hf
          have hk5 : ∀ (x7 : Int) (x8 : Int) (I6 : IMem), inr x7 → inr x8 → RG I6 → k5 x7 x8 I6 = some r → Ai l b 3 y_F_choose KC RC (Pv r) I6 115 [.ref o0, uu, .int (iv x7), .int (iv x8), .int (iv w4), uu] [] := by
            intro x7 x8 I6 h_x7 h_x8 h_I6 hf
            subst ek5
            refine ai_iinc (n := 1) (lv2 := fun x9 => [.ref o0, uu, .int (iv x7), .int (iv x8), .int (iv x9), uu]) hf rfl (Nat.le_of_ble_eq_true rfl) (fun _ => rfl) d_F_choose_115 (fun x9 h_x9 hf => ?_)
            refine aw_goto (tgt := 12) (by decide) d_F_choose_118 ?_
            exact ih x7 x8 x9 I6 h_x7 h_x8 h_x9 h_I6 hf
          refine ai_icmp_eq h_y2 in_m1 hf (tgt := 115) (by decide) d_F_choose_51 (fun hf => ?_) (fun hf => ?_)
          · refine aw_weakB (lv2 := [.ref o0, uu, .int (iv w2), .int (iv w3), .int (iv w4), uu]) (wk_s (wk_u (wk_s (wk_s (wk_s (wk_u wk_n)))))) ?_
            exact hk5 w2 w3 I3 h_w2 h_w3 h_I3 hf
          · refine aw_iload rfl d_F_choose_54 (aw_aload_n rfl rfl d_F_choose_56 (aw_getr (r := o0 + 4) fl_F_21 h_o0 (by decide) rfl (rc_1_4 _ h_o0).1 d_F_choose_57 (aw_iload rfl d_F_choose_60 (aw_iload_n rfl rfl d_F_choose_62 (aw_iload_n rfl rfl d_F_choose_63 ?_)))))
            obtain ⟨y10, I11, c12, hf⟩ := of_zb hf
            refine ai_callS (as := [.int (iv w4), .int (iv w2), .int (iv w3)]) (d' := 1) mo_F_at lk_F_50 rfl ⟨by decide, by decide⟩ rfl rfl (by decide) d_F_choose_64 (t_F_at fu w4 w2 w3 I3 h_I3 h_w4 h_w2 h_w3 c12) (fun h_y10 h_I11 => ?_)
            refine ai_iald (rc_1_4 _ h_o0).2 rfl h_y10 hf d_F_choose_67 (fun _ hf => ?_)
            refine ai_icmp_ne h_y2 (h_I11 (o0 + 4) y10.toNat) hf (tgt := 115) (by decide) d_F_choose_68 (fun hf => ?_) (fun hf => ?_)
            · refine aw_weakB (lv2 := [.ref o0, uu, .int (iv w2), .int (iv w3), .int (iv w4), uu]) (wk_s (wk_u (wk_s (wk_s (wk_s (wk_u wk_n)))))) ?_
              exact hk5 w2 w3 I11 h_w2 h_w3 h_I11 hf
            · refine aw_aload_n rfl rfl d_F_choose_71 (aw_getr (r := o0 + 5) fl_F_24 h_o0 (by decide) rfl (rc_1_5 _ h_o0).1 d_F_choose_72 (aw_aload_n rfl rfl d_F_choose_75 (ai_geti fl_F_76 h_o0 (by decide) rfl d_F_choose_76 (aw_aload_n rfl rfl d_F_choose_79 (aw_getr (r := o0 + 1) fl_F_9 h_o0 (by decide) rfl (rc_1_0 _ h_o0).1 d_F_choose_80 (aw_iload rfl d_F_choose_83 ?_))))))
              refine ai_iald (rc_1_0 _ h_o0).2 rfl h_w4 hf d_F_choose_85 (fun _ hf => ?_)
              refine ai_nameU hf (h_I11 o0 6) (fun x14 h_x14 hf => ?_)
              refine ai_iast (rc_1_5 _ h_o0).2 rfl h_x14 (h_I11 (o0 + 1) w4.toNat) h_I11 hf d_F_choose_86 (fun _ I13 h_I13 hf => ?_)
              refine aw_aload_n rfl rfl d_F_choose_87 (aw_dup rfl d_F_choose_88 (ai_geti fl_F_76 h_o0 (by decide) rfl d_F_choose_89 (aw_iconst (v := iv 1) rfl d_F_choose_92 (ai_iadd d_F_choose_93 ?_))))
              refine ai_puti hf h_I13 (wr32_in _) fl_F_76 h_o0 (by decide) rfl rfl rfl rfl d_F_choose_94 (fun I15 h_I15 hf => ?_)
              refine aw_aload_n rfl rfl d_F_choose_97 (aw_iload rfl d_F_choose_98 (aw_iload_n rfl rfl d_F_choose_100 ?_))
              obtain ⟨y16, I17, c18, hf⟩ := of_zb hf
              refine ai_callV (as := [.int (iv w4), .int (iv w2)]) (d' := 1) (q := ("SinglesUp$Filling", zT1, 7)) mo_F_thereWith lk_F_73 h_o0 rfl rfl rfl ⟨by decide, by decide⟩ rfl rfl (by decide) d_F_choose_101 (t_F_thereWith fu o0 w4 w2 I15 h_I15 h_o0 h_w4 h_w2 c18) (fun h_y16 h_I17 => ?_)
              refine aw_istore_n (lv2 := [.ref o0, uu, .int (iv y16), .int (iv w3), .int (iv w4), .int (iv y2)]) rfl (Nat.le_of_ble_eq_true rfl) rfl d_F_choose_104 (aw_iload_n rfl rfl d_F_choose_105 (aw_aload_n rfl rfl d_F_choose_106 (aw_getr (r := o0 + 2) fl_F_15 h_o0 (by decide) rfl (rc_1_1 _ h_o0).1 d_F_choose_107 (aw_iload rfl d_F_choose_110 ?_))))
              refine ai_iald (rc_1_1 _ h_o0).2 rfl h_w4 hf d_F_choose_112 (fun _ hf => ?_)
              refine ai_isub d_F_choose_113 ?_
              refine ai_name hf (wr32_in _) (fun x19 h_x19 hf => ?_)
              refine aw_istore_n (lv2 := [.ref o0, uu, .int (iv y16), .int (iv x19), .int (iv w4), .int (iv y2)]) rfl (Nat.le_of_ble_eq_true rfl) rfl d_F_choose_114 ?_
              refine aw_weakB (lv2 := [.ref o0, uu, .int (iv y16), .int (iv x19), .int (iv w4), uu]) (wk_s (wk_u (wk_s (wk_s (wk_s (wk_u wk_n)))))) ?_
              exact hk5 y16 x19 I17 h_y16 h_x19 h_I17 hf
set_option maxRecDepth 20000 in
theorem t_F_choose (fu : Nat) (o0 : Nat) (a1 : Int) (I0 : IMem) (hI : RG I0) (h_o0 : KC[o0]? = some (4, 7)) (h_a1 : inr a1) {r : Int × IMem} (hf : f_F_choose fu o0 a1 I0 = some r) : Ss l b 3 y_F_choose KC RC [.ref o0, .int (iv a1)] (ivm I0) (Pv r) := by
  unfold f_F_choose at hf
  refine Ss.of (show Ai l b 3 y_F_choose KC RC (Pv r) I0 0 [.ref o0, .int (iv a1), uu, uu, uu, uu] [] from ?_)
  refine aw_aload_n rfl rfl d_F_choose_0 (aw_iconst (v := iv 0) rfl d_F_choose_1 ?_)
  refine ai_puti hf hI in_0 fl_F_76 h_o0 (by decide) rfl rfl rfl rfl d_F_choose_2 (fun I1 h_I1 hf => ?_)
  refine aw_iconst (v := iv 0) rfl d_F_choose_5 (aw_istore_n (lv2 := [.ref o0, .int (iv a1), .int (iv 0), uu, uu, uu]) rfl (Nat.le_of_ble_eq_true rfl) rfl d_F_choose_6 (aw_iload_n rfl rfl d_F_choose_7 (aw_istore_n (lv2 := [.ref o0, .int (iv a1), .int (iv 0), .int (iv a1), uu, uu]) rfl (Nat.le_of_ble_eq_true rfl) rfl d_F_choose_8 (aw_iconst (v := iv 0) rfl d_F_choose_9 (aw_istore (lv2 := [.ref o0, .int (iv a1), .int (iv 0), .int (iv a1), .int (iv 0), uu]) (Nat.le_of_ble_eq_true rfl) rfl d_F_choose_10 ?_)))))
  refine aw_weakB (lv2 := [.ref o0, uu, .int (iv 0), .int (iv a1), .int (iv 0), uu]) (wk_s (wk_u (wk_s (wk_s (wk_s (wk_u wk_n)))))) ?_
  refine t_F_choose_12 fu o0 h_o0 fu 0 a1 0 I1 in_0 h_a1 in_0 h_I1 hf
set_option maxRecDepth 20000 in
theorem t_F_gather_18 (fu : Nat) {r : Int × IMem} (o0 : Nat) (o1 : Nat) (p3 : Int) (h_o0 : KC[o0]? = some (4, 7)) (h_o1 : KC[o1]? = some (7, 3)) (h_p3 : inr p3) : ∀ (m : Nat) (w4 : Int) (I0 : IMem), inr w4 → RG I0 → f_F_gather_18 fu o0 o1 p3 m w4 I0 = some r → Ai l b 3 y_F_gather KC RC (Pv r) I0 18 [.ref o0, .ref o1, uu, .int (iv p3), .int (iv w4), uu] [] := by
  intro m
  induction m with
  | zero => intro w4 I0 h_w4 h_I0 hf; cases hf
  | succ m ih =>
    intro w4 I0 h_w4 h_I0 hf
    replace hf : fb_F_gather_18 fu o0 o1 p3 (f_F_gather_18 fu o0 o1 p3 m) w4 I0 = some r := hf
    unfold fb_F_gather_18 at hf
    refine aw_iload rfl d_F_gather_18 (aw_iload_n rfl rfl d_F_gather_20 ?_)
    refine ai_icmp_ge h_w4 h_p3 hf (tgt := 116) (by decide) d_F_gather_21 (fun hf => ?_) (fun hf => ?_)
    · exact ai_retv rfl d_F_gather_116 hf h_I0
    · refine aw_iload rfl d_F_gather_24 (aw_sipush (v := iv 144) cs_144 d_F_gather_26 ?_)
      refine ai_icmp_ge h_w4 in_144 hf (tgt := 116) (by decide) d_F_gather_29 (fun hf => ?_) (fun hf => ?_)
      · exact ai_retv rfl d_F_gather_116 hf h_I0
      · refine aw_aload_n rfl rfl d_F_gather_32 (aw_aload_n rfl rfl d_F_gather_33 (aw_getr (r := o0 + 1) fl_F_9 h_o0 (by decide) rfl (rc_1_0 _ h_o0).1 d_F_gather_34 (aw_iload rfl d_F_gather_37 ?_)))
        refine ai_iald (rc_1_0 _ h_o0).2 rfl h_w4 hf d_F_gather_39 (fun _ hf => ?_)
        refine aw_iconst (v := iv 3) rfl d_F_gather_40 ?_
        obtain ⟨y5, I6, c7, hf⟩ := of_zb hf
        refine ai_callV (as := [.int (iv (I0 (o0 + 1) w4.toNat)), .int (iv 3)]) (d' := 1) (q := ("SinglesUp$Lines", zT4, 3)) mo_L_get lk_F_70 h_o1 rfl rfl rfl ⟨by decide, by decide⟩ rfl rfl (by decide) d_F_gather_41 (t_L_get fu o1 (I0 (o0 + 1) w4.toNat) 3 I0 h_I0 h_o1 (h_I0 (o0 + 1) w4.toNat) in_3 c7) (fun h_y5 h_I6 => ?_)
        refine aw_istore (lv2 := [.ref o0, .ref o1, uu, .int (iv p3), .int (iv w4), .int (iv y5)]) (Nat.le_of_ble_eq_true rfl) rfl d_F_gather_44 (aw_iload rfl d_F_gather_46 (aw_iconst (v := iv 2) rfl d_F_gather_48 ?_))
        obtain ⟨k8, ek8, hf⟩ := of_zj hf
        have hk8 : ∀  (I9 : IMem), RG I9 → k8 I9 = some r → Ai l b 3 y_F_gather KC RC (Pv r) I9 110 [.ref o0, .ref o1, uu, .int (iv p3), .int (iv w4), uu] [] := by
          intro I9 h_I9 hf
          subst ek8
          refine ai_iinc (n := 1) (lv2 := fun x10 => [.ref o0, .ref o1, uu, .int (iv p3), .int (iv x10), uu]) hf rfl (Nat.le_of_ble_eq_true rfl) (fun _ => rfl) d_F_gather_110 (fun x10 h_x10 hf => ?_)
          refine aw_goto (tgt := 18) (by decide) d_F_gather_113 ?_
          exact ih x10 I9 h_x10 h_I9 hf
        refine ai_icmp_eq h_y5 in_2 hf (tgt := 110) (by decide) d_F_gather_49 (fun hf => ?_) (fun hf => ?_)
        · refine aw_weakB (lv2 := [.ref o0, .ref o1, uu, .int (iv p3), .int (iv w4), uu]) (wk_s (wk_s (wk_u (wk_s (wk_s (wk_u wk_n)))))) ?_
          exact hk8 I6 h_I6 hf
        · refine aw_aload_n rfl rfl d_F_gather_52 (aw_getr (r := o0 + 1) fl_F_9 h_o0 (by decide) rfl (rc_1_0 _ h_o0).1 d_F_gather_53 (aw_aload_n rfl rfl d_F_gather_56 (ai_geti fl_F_46 h_o0 (by decide) rfl d_F_gather_57 (aw_aload_n rfl rfl d_F_gather_60 (aw_getr (r := o0 + 1) fl_F_9 h_o0 (by decide) rfl (rc_1_0 _ h_o0).1 d_F_gather_61 (aw_iload rfl d_F_gather_64 ?_))))))
          refine ai_iald (rc_1_0 _ h_o0).2 rfl h_w4 hf d_F_gather_66 (fun _ hf => ?_)
          refine ai_nameU hf (h_I6 o0 3) (fun x12 h_x12 hf => ?_)
          refine ai_iast (rc_1_0 _ h_o0).2 rfl h_x12 (h_I6 (o0 + 1) w4.toNat) h_I6 hf d_F_gather_67 (fun _ I11 h_I11 hf => ?_)
          refine aw_aload_n rfl rfl d_F_gather_68 (aw_getr (r := o0 + 2) fl_F_15 h_o0 (by decide) rfl (rc_1_1 _ h_o0).1 d_F_gather_69 (aw_aload_n rfl rfl d_F_gather_72 (ai_geti fl_F_46 h_o0 (by decide) rfl d_F_gather_73 (aw_aload_n rfl rfl d_F_gather_76 (aw_aload_n rfl rfl d_F_gather_77 (aw_getr (r := o0 + 1) fl_F_9 h_o0 (by decide) rfl (rc_1_0 _ h_o0).1 d_F_gather_78 (aw_iload rfl d_F_gather_81 ?_)))))))
          refine ai_iald (rc_1_0 _ h_o0).2 rfl h_w4 hf d_F_gather_83 (fun _ hf => ?_)
          refine aw_iconst (v := iv 1) rfl d_F_gather_84 ?_
          obtain ⟨y13, I14, c15, hf⟩ := of_zb hf
          refine ai_callV (as := [.int (iv (I11 (o0 + 1) w4.toNat)), .int (iv 1)]) (d' := 1) (q := ("SinglesUp$Lines", zT4, 3)) mo_L_get lk_F_70 h_o1 rfl rfl rfl ⟨by decide, by decide⟩ rfl rfl (by decide) d_F_gather_85 (t_L_get fu o1 (I11 (o0 + 1) w4.toNat) 1 I11 h_I11 h_o1 (h_I11 (o0 + 1) w4.toNat) in_1 c15) (fun h_y13 h_I14 => ?_)
          refine ai_nameU hf (h_I11 o0 3) (fun x17 h_x17 hf => ?_)
          refine ai_iast (rc_1_1 _ h_o0).2 rfl h_x17 h_y13 h_I14 hf d_F_gather_88 (fun _ I16 h_I16 hf => ?_)
          refine aw_aload_n rfl rfl d_F_gather_89 (aw_getr (r := o0 + 3) fl_F_18 h_o0 (by decide) rfl (rc_1_2 _ h_o0).1 d_F_gather_90 (aw_aload_n rfl rfl d_F_gather_93 (ai_geti fl_F_46 h_o0 (by decide) rfl d_F_gather_94 (aw_iload rfl d_F_gather_97 ?_))))
          refine ai_nameU hf (h_I16 o0 3) (fun x19 h_x19 hf => ?_)
          refine ai_iast (rc_1_2 _ h_o0).2 rfl h_x19 h_y5 h_I16 hf d_F_gather_99 (fun _ I18 h_I18 hf => ?_)
          refine aw_aload_n rfl rfl d_F_gather_100 (aw_dup rfl d_F_gather_101 (ai_geti fl_F_46 h_o0 (by decide) rfl d_F_gather_102 (aw_iconst (v := iv 1) rfl d_F_gather_105 (ai_iadd d_F_gather_106 ?_))))
          refine ai_puti hf h_I18 (wr32_in _) fl_F_46 h_o0 (by decide) rfl rfl rfl rfl d_F_gather_107 (fun I20 h_I20 hf => ?_)
          refine aw_weakB (lv2 := [.ref o0, .ref o1, uu, .int (iv p3), .int (iv w4), uu]) (wk_s (wk_s (wk_u (wk_s (wk_s (wk_u wk_n)))))) ?_
          exact hk8 I20 h_I20 hf
set_option maxRecDepth 20000 in
theorem t_F_gather (fu : Nat) (o0 : Nat) (o1 : Nat) (a2 : Int) (I0 : IMem) (hI : RG I0) (h_o0 : KC[o0]? = some (4, 7)) (h_o1 : KC[o1]? = some (7, 3)) (h_a2 : inr a2) {r : Int × IMem} (hf : f_F_gather fu o0 o1 a2 I0 = some r) : Ss l b 3 y_F_gather KC RC [.ref o0, .ref o1, .int (iv a2)] (ivm I0) (Pv r) := by
  unfold f_F_gather at hf
  refine Ss.of (show Ai l b 3 y_F_gather KC RC (Pv r) I0 0 [.ref o0, .ref o1, .int (iv a2), uu, uu, uu] [] from ?_)
  refine aw_aload_n rfl rfl d_F_gather_0 (aw_aload_n rfl rfl d_F_gather_1 (aw_getr (r := o0 + 1) fl_F_9 h_o0 (by decide) rfl (rc_1_0 _ h_o0).1 d_F_gather_2 (aw_iload_n rfl rfl d_F_gather_5 ?_)))
  obtain ⟨y1, I2, c3, hf⟩ := of_zb hf
  refine ai_callV (as := [.ref (o0 + 1), .int (iv a2)]) (d' := 2) (q := ("SinglesUp$Lines", zT4, 3)) mo_L_listSeen lk_F_64 h_o1 rfl rfl rfl ⟨by decide, by decide⟩ rfl rfl (by decide) d_F_gather_6 (t_L_listSeen fu o1 (o0 + 1) 144 a2 I0 hI h_o1 ⟨(rc_1_0 _ h_o0).2, by decide⟩ h_a2 c3) (fun h_y1 h_I2 => ?_)
  refine aw_istore_n (lv2 := [.ref o0, .ref o1, .int (iv a2), .int (iv y1), uu, uu]) rfl (Nat.le_of_ble_eq_true rfl) rfl d_F_gather_9 (aw_aload_n rfl rfl d_F_gather_10 (aw_iconst (v := iv 0) rfl d_F_gather_11 ?_))
  refine ai_puti hf h_I2 in_0 fl_F_46 h_o0 (by decide) rfl rfl rfl rfl d_F_gather_12 (fun I4 h_I4 hf => ?_)
  refine aw_iconst (v := iv 0) rfl d_F_gather_15 (aw_istore (lv2 := [.ref o0, .ref o1, .int (iv a2), .int (iv y1), .int (iv 0), uu]) (Nat.le_of_ble_eq_true rfl) rfl d_F_gather_16 ?_)
  refine aw_weakB (lv2 := [.ref o0, .ref o1, uu, .int (iv y1), .int (iv 0), uu]) (wk_s (wk_s (wk_u (wk_s (wk_s (wk_u wk_n)))))) ?_
  refine t_F_gather_18 fu o0 o1 y1 h_o0 h_o1 h_y1 fu 0 I4 in_0 h_I4 hf
set_option maxRecDepth 20000 in
theorem t_F_fillMost_24 (fu : Nat) {r : Int × IMem} (k_85 : IMem → Res) (o0 : Nat) (p3 : Int) (h_o0 : KC[o0]? = some (4, 7)) (h_p3 : inr p3) (hk_85 : ∀ (I9 : IMem), RG I9 → k_85 I9 = some r → Ai l b 4 y_F_fillMost KC RC (Ps r) I9 85 [.ref o0, uu, uu, .int (iv p3), uu, uu, uu] []) : ∀ (m : Nat) (w4 : Int) (I0 : IMem), inr w4 → RG I0 → f_F_fillMost_24 fu k_85 o0 p3 m w4 I0 = some r → Ai l b 4 y_F_fillMost KC RC (Ps r) I0 24 [.ref o0, uu, uu, .int (iv p3), .int (iv w4), uu, uu] [] := by
  intro m
  induction m with
  | zero => intro w4 I0 h_w4 h_I0 hf; cases hf
  | succ m ih =>
    intro w4 I0 h_w4 h_I0 hf
    replace hf : fb_F_fillMost_24 fu k_85 o0 p3 (f_F_fillMost_24 fu k_85 o0 p3 m) w4 I0 = some r := hf
    unfold fb_F_fillMost_24 at hf
    refine aw_iload rfl d_F_fillMost_24 (aw_bipush (v := iv 9) cb_9 d_F_fillMost_26 ?_)
    refine ai_icmp_ge h_w4 in_9 hf (tgt := 85) (by decide) d_F_fillMost_28 (fun hf => ?_) (fun hf => ?_)
    · refine aw_weakB (lv2 := [.ref o0, uu, uu, .int (iv p3), uu, uu, uu]) (wk_s (wk_u (wk_u (wk_s (wk_u (wk_u (wk_u wk_n))))))) ?_
      exact hk_85 I0 h_I0 hf
    · refine aw_aload_n rfl rfl d_F_fillMost_31 (aw_getr (r := o0 + 4) fl_F_21 h_o0 (by decide) rfl (rc_1_4 _ h_o0).1 d_F_fillMost_32 (aw_aload_n rfl rfl d_F_fillMost_35 (ai_geti fl_F_46 h_o0 (by decide) rfl d_F_fillMost_36 (aw_iconst (v := iv 0) rfl d_F_fillMost_39 (aw_iload rfl d_F_fillMost_40 ?_)))))
      obtain ⟨y7, I8, c9, hf⟩ := of_zb hf
      refine ai_callS (as := [.int (iv (I0 o0 3)), .int (iv 0), .int (iv w4)]) (d' := 1) mo_F_at lk_F_50 rfl ⟨by decide, by decide⟩ rfl rfl (by decide) d_F_fillMost_42 (t_F_at fu (I0 o0 3) 0 w4 I0 h_I0 (h_I0 o0 3) in_0 h_w4 c9) (fun h_y7 h_I8 => ?_)
      refine aw_iconst (v := iv 0) rfl d_F_fillMost_45 ?_
      refine ai_iast (rc_1_4 _ h_o0).2 rfl h_y7 in_0 h_I8 hf d_F_fillMost_46 (fun _ I10 h_I10 hf => ?_)
      refine aw_aload_n rfl rfl d_F_fillMost_47 (aw_getr (r := o0 + 4) fl_F_21 h_o0 (by decide) rfl (rc_1_4 _ h_o0).1 d_F_fillMost_48 (aw_aload_n rfl rfl d_F_fillMost_51 (ai_geti fl_F_46 h_o0 (by decide) rfl d_F_fillMost_52 (aw_iconst (v := iv 1) rfl d_F_fillMost_55 (aw_iload rfl d_F_fillMost_56 ?_)))))
      obtain ⟨y11, I12, c13, hf⟩ := of_zb hf
      refine ai_callS (as := [.int (iv (I10 o0 3)), .int (iv 1), .int (iv w4)]) (d' := 1) mo_F_at lk_F_50 rfl ⟨by decide, by decide⟩ rfl rfl (by decide) d_F_fillMost_58 (t_F_at fu (I10 o0 3) 1 w4 I10 h_I10 (h_I10 o0 3) in_1 h_w4 c13) (fun h_y11 h_I12 => ?_)
      refine aw_iconst (v := iv (-1)) rfl d_F_fillMost_61 ?_
      refine ai_iast (rc_1_4 _ h_o0).2 rfl h_y11 in_m1 h_I12 hf d_F_fillMost_62 (fun _ I14 h_I14 hf => ?_)
      refine aw_aload_n rfl rfl d_F_fillMost_63 (aw_getr (r := o0 + 4) fl_F_21 h_o0 (by decide) rfl (rc_1_4 _ h_o0).1 d_F_fillMost_64 (aw_aload_n rfl rfl d_F_fillMost_67 (ai_geti fl_F_46 h_o0 (by decide) rfl d_F_fillMost_68 (aw_iconst (v := iv 2) rfl d_F_fillMost_71 (aw_iload rfl d_F_fillMost_72 ?_)))))
      obtain ⟨y15, I16, c17, hf⟩ := of_zb hf
      refine ai_callS (as := [.int (iv (I14 o0 3)), .int (iv 2), .int (iv w4)]) (d' := 1) mo_F_at lk_F_50 rfl ⟨by decide, by decide⟩ rfl rfl (by decide) d_F_fillMost_74 (t_F_at fu (I14 o0 3) 2 w4 I14 h_I14 (h_I14 o0 3) in_2 h_w4 c17) (fun h_y15 h_I16 => ?_)
      refine aw_iconst (v := iv 0) rfl d_F_fillMost_77 ?_
      refine ai_iast (rc_1_4 _ h_o0).2 rfl h_y15 in_0 h_I16 hf d_F_fillMost_78 (fun _ I18 h_I18 hf => ?_)
      refine ai_iinc (n := 1) (lv2 := fun x19 => [.ref o0, uu, uu, .int (iv p3), .int (iv x19), uu, uu]) hf rfl (Nat.le_of_ble_eq_true rfl) (fun _ => rfl) d_F_fillMost_79 (fun x19 h_x19 hf => ?_)
      refine aw_goto (tgt := 24) (by decide) d_F_fillMost_82 ?_
      exact ih x19 I18 h_x19 h_I18 hf
set_option maxRecDepth 20000 in
theorem t_F_fillMost_110 (fu : Nat) {r : Int × IMem} (k_166 : IMem → Res) (o0 : Nat) (p3 : Int) (p4 : Int) (p5 : Int) (h_o0 : KC[o0]? = some (4, 7)) (h_p3 : inr p3) (h_p4 : inr p4) (h_p5 : inr p5) (hk_166 : ∀ (I9 : IMem), RG I9 → k_166 I9 = some r → Ai l b 4 y_F_fillMost KC RC (Ps r) I9 166 [.ref o0, uu, uu, .int (iv p3), .int (iv p4), .int (iv p5), uu] []) : ∀ (m : Nat) (w6 : Int) (I0 : IMem), inr w6 → RG I0 → f_F_fillMost_110 fu k_166 o0 p3 p4 p5 m w6 I0 = some r → Ai l b 4 y_F_fillMost KC RC (Ps r) I0 110 [.ref o0, uu, uu, .int (iv p3), .int (iv p4), .int (iv p5), .int (iv w6)] [] := by
  intro m
  induction m with
  | zero => intro w6 I0 h_w6 h_I0 hf; cases hf
  | succ m ih =>
    intro w6 I0 h_w6 h_I0 hf
    replace hf : fb_F_fillMost_110 fu k_166 o0 p3 p4 p5 (f_F_fillMost_110 fu k_166 o0 p3 p4 p5 m) w6 I0 = some r := hf
    unfold fb_F_fillMost_110 at hf
    refine aw_iload rfl d_F_fillMost_110 (aw_bipush (v := iv 9) cb_9 d_F_fillMost_112 ?_)
    refine ai_icmp_ge h_w6 in_9 hf (tgt := 166) (by decide) d_F_fillMost_114 (fun hf => ?_) (fun hf => ?_)
    · refine aw_weakB (lv2 := [.ref o0, uu, uu, .int (iv p3), .int (iv p4), .int (iv p5), uu]) (wk_s (wk_u (wk_u (wk_s (wk_s (wk_s (wk_u wk_n))))))) ?_
      exact hk_166 I0 h_I0 hf
    · refine aw_aload_n rfl rfl d_F_fillMost_117 (aw_getr (r := o0 + 4) fl_F_21 h_o0 (by decide) rfl (rc_1_4 _ h_o0).1 d_F_fillMost_118 (aw_iload rfl d_F_fillMost_121 (aw_iload rfl d_F_fillMost_123 (aw_iload rfl d_F_fillMost_125 ?_))))
      obtain ⟨y22, I23, c24, hf⟩ := of_zb hf
      refine ai_callS (as := [.int (iv p4), .int (iv p5), .int (iv w6)]) (d' := 1) mo_F_at lk_F_50 rfl ⟨by decide, by decide⟩ rfl rfl (by decide) d_F_fillMost_127 (t_F_at fu p4 p5 w6 I0 h_I0 h_p4 h_p5 h_w6 c24) (fun h_y22 h_I23 => ?_)
      refine aw_aload_n rfl rfl d_F_fillMost_130 (aw_getr (r := o0 + 4) fl_F_21 h_o0 (by decide) rfl (rc_1_4 _ h_o0).1 d_F_fillMost_131 (aw_iload rfl d_F_fillMost_134 (aw_iconst (v := iv 1) rfl d_F_fillMost_136 (ai_iadd d_F_fillMost_137 (aw_iload rfl d_F_fillMost_138 (aw_iload rfl d_F_fillMost_140 ?_))))))
      obtain ⟨y25, I26, c27, hf⟩ := of_zb hf
      refine ai_callS (as := [.int (iv (wr32 (p4 + 1))), .int (iv p5), .int (iv w6)]) (d' := 1) mo_F_at lk_F_50 rfl ⟨by decide, by decide⟩ rfl rfl (by decide) d_F_fillMost_142 (t_F_at fu (wr32 (p4 + 1)) p5 w6 I23 h_I23 (wr32_in _) h_p5 h_w6 c27) (fun h_y25 h_I26 => ?_)
      refine ai_iald (rc_1_4 _ h_o0).2 rfl h_y25 hf d_F_fillMost_145 (fun _ hf => ?_)
      refine aw_aload_n rfl rfl d_F_fillMost_146 (aw_iload rfl d_F_fillMost_147 (aw_iload rfl d_F_fillMost_149 (aw_iload rfl d_F_fillMost_151 ?_)))
      obtain ⟨y28, I29, c30, hf⟩ := of_zb hf
      refine ai_callV (as := [.int (iv p4), .int (iv p5), .int (iv w6)]) (d' := 2) (q := ("SinglesUp$Filling", zT1, 7)) mo_F_mostWith lk_F_54 h_o0 rfl rfl rfl ⟨by decide, by decide⟩ rfl rfl (by decide) d_F_fillMost_153 (t_F_mostWith fu o0 p4 p5 w6 I26 h_I26 h_o0 h_p4 h_p5 h_w6 c30) (fun h_y28 h_I29 => ?_)
      obtain ⟨y31, I32, c33, hf⟩ := of_zb hf
      refine ai_callS (as := [.int (iv (I26 (o0 + 4) y25.toNat)), .int (iv y28)]) (d' := 1) mo_JM_max lk_F_57 rfl ⟨by decide, by decide⟩ rfl rfl (by decide) d_F_fillMost_156 (t_JM_max fu (I26 (o0 + 4) y25.toNat) y28 I29 h_I29 (h_I26 (o0 + 4) y25.toNat) h_y28 c33) (fun h_y31 h_I32 => ?_)
      refine ai_iast (rc_1_4 _ h_o0).2 rfl h_y22 h_y31 h_I32 hf d_F_fillMost_159 (fun _ I34 h_I34 hf => ?_)
      refine ai_iinc (n := 1) (lv2 := fun x35 => [.ref o0, uu, uu, .int (iv p3), .int (iv p4), .int (iv p5), .int (iv x35)]) hf rfl (Nat.le_of_ble_eq_true rfl) (fun _ => rfl) d_F_fillMost_160 (fun x35 h_x35 hf => ?_)
      refine aw_goto (tgt := 110) (by decide) d_F_fillMost_163 ?_
      exact ih x35 I34 h_x35 h_I34 hf
set_option maxRecDepth 20000 in
theorem t_F_fillMost_101 (fu : Nat) {r : Int × IMem} (k_172 : IMem → Res) (o0 : Nat) (p3 : Int) (p4 : Int) (h_o0 : KC[o0]? = some (4, 7)) (h_p3 : inr p3) (h_p4 : inr p4) (hk_172 : ∀ (I9 : IMem), RG I9 → k_172 I9 = some r → Ai l b 4 y_F_fillMost KC RC (Ps r) I9 172 [.ref o0, uu, uu, .int (iv p3), .int (iv p4), uu, uu] []) : ∀ (m : Nat) (w5 : Int) (I0 : IMem), inr w5 → RG I0 → f_F_fillMost_101 fu k_172 o0 p3 p4 m w5 I0 = some r → Ai l b 4 y_F_fillMost KC RC (Ps r) I0 101 [.ref o0, uu, uu, .int (iv p3), .int (iv p4), .int (iv w5), uu] [] := by
  intro m
  induction m with
  | zero => intro w5 I0 h_w5 h_I0 hf; cases hf
  | succ m ih =>
    intro w5 I0 h_w5 h_I0 hf
    replace hf : fb_F_fillMost_101 fu k_172 o0 p3 p4 (f_F_fillMost_101 fu k_172 o0 p3 p4 m) w5 I0 = some r := hf
    unfold fb_F_fillMost_101 at hf
    refine aw_iload rfl d_F_fillMost_101 (aw_iconst (v := iv 2) rfl d_F_fillMost_103 ?_)
    refine ai_icmp_gt h_w5 in_2 hf (tgt := 172) (by decide) d_F_fillMost_104 (fun hf => ?_) (fun hf => ?_)
    · refine aw_weakB (lv2 := [.ref o0, uu, uu, .int (iv p3), .int (iv p4), uu, uu]) (wk_s (wk_u (wk_u (wk_s (wk_s (wk_u (wk_u wk_n))))))) ?_
      exact hk_172 I0 h_I0 hf
    · refine aw_iconst (v := iv 0) rfl d_F_fillMost_107 (aw_istore (lv2 := [.ref o0, uu, uu, .int (iv p3), .int (iv p4), .int (iv w5), .int (iv 0)]) (Nat.le_of_ble_eq_true rfl) rfl d_F_fillMost_108 ?_)
      refine t_F_fillMost_110 fu _ o0 p3 p4 w5 h_o0 h_p3 h_p4 h_w5 ?_ fu 0 I0 in_0 h_I0 hf
      · intro I36 h_I36 hf
        refine ai_iinc (n := 1) (lv2 := fun x37 => [.ref o0, uu, uu, .int (iv p3), .int (iv p4), .int (iv x37), uu]) hf rfl (Nat.le_of_ble_eq_true rfl) (fun _ => rfl) d_F_fillMost_166 (fun x37 h_x37 hf => ?_)
        refine aw_goto (tgt := 101) (by decide) d_F_fillMost_169 ?_
        exact ih x37 I36 h_x37 h_I36 hf
set_option maxRecDepth 20000 in
theorem t_F_fillMost_93 (fu : Nat) {r : Int × IMem} (k_178 : IMem → Res) (o0 : Nat) (p3 : Int) (h_o0 : KC[o0]? = some (4, 7)) (h_p3 : inr p3) (hk_178 : ∀ (I9 : IMem), RG I9 → k_178 I9 = some r → Ai l b 4 y_F_fillMost KC RC (Ps r) I9 178 [.ref o0, uu, uu, .int (iv p3), uu, uu, uu] []) : ∀ (m : Nat) (w4 : Int) (I0 : IMem), inr w4 → RG I0 → f_F_fillMost_93 fu k_178 o0 p3 m w4 I0 = some r → Ai l b 4 y_F_fillMost KC RC (Ps r) I0 93 [.ref o0, uu, uu, .int (iv p3), .int (iv w4), uu, uu] [] := by
  intro m
  induction m with
  | zero => intro w4 I0 h_w4 h_I0 hf; cases hf
  | succ m ih =>
    intro w4 I0 h_w4 h_I0 hf
    replace hf : fb_F_fillMost_93 fu k_178 o0 p3 (f_F_fillMost_93 fu k_178 o0 p3 m) w4 I0 = some r := hf
    unfold fb_F_fillMost_93 at hf
    refine aw_iload rfl d_F_fillMost_93 ?_
    refine ai_if_lt h_w4 hf (tgt := 178) (by decide) d_F_fillMost_95 (fun hf => ?_) (fun hf => ?_)
    · refine aw_weakB (lv2 := [.ref o0, uu, uu, .int (iv p3), uu, uu, uu]) (wk_s (wk_u (wk_u (wk_s (wk_u (wk_u (wk_u wk_n))))))) ?_
      exact hk_178 I0 h_I0 hf
    · refine aw_iconst (v := iv 0) rfl d_F_fillMost_98 (aw_istore (lv2 := [.ref o0, uu, uu, .int (iv p3), .int (iv w4), .int (iv 0), uu]) (Nat.le_of_ble_eq_true rfl) rfl d_F_fillMost_99 ?_)
      refine t_F_fillMost_101 fu _ o0 p3 w4 h_o0 h_p3 h_w4 ?_ fu 0 I0 in_0 h_I0 hf
      · intro I38 h_I38 hf
        refine ai_iinc (n := (-1)) (lv2 := fun x39 => [.ref o0, uu, uu, .int (iv p3), .int (iv x39), uu, uu]) hf rfl (Nat.le_of_ble_eq_true rfl) (fun _ => rfl) d_F_fillMost_172 (fun x39 h_x39 hf => ?_)
        refine aw_goto (tgt := 93) (by decide) d_F_fillMost_175 ?_
        exact ih x39 I38 h_x39 h_I38 hf
set_option maxRecDepth 20000 in
theorem t_F_fillMost (fu : Nat) (o0 : Nat) (o1 : Nat) (a2 : Int) (I0 : IMem) (hI : RG I0) (h_o0 : KC[o0]? = some (4, 7)) (h_o1 : KC[o1]? = some (5, 14)) (h_a2 : inr a2) {r : Int × IMem} (hf : f_F_fillMost fu o0 o1 a2 I0 = some r) : Ss l b 4 y_F_fillMost KC RC [.ref o0, .ref o1, .int (iv a2)] (ivm I0) (Ps r) := by
  unfold f_F_fillMost at hf
  refine Ss.of (show Ai l b 4 y_F_fillMost KC RC (Ps r) I0 0 [.ref o0, .ref o1, .int (iv a2), uu, uu, uu, uu] [] from ?_)
  refine aw_aload_n rfl rfl d_F_fillMost_0 (aw_getr (r := o1 + 1) fl_F_27 h_o1 (by decide) rfl (rc_2_0 _ h_o1).1 d_F_fillMost_1 (aw_iconst (v := iv 0) rfl d_F_fillMost_4 (ai_ialdc (j := 0) (rc_2_0 _ h_o1).2 (by decide) (by decide) d_F_fillMost_5 (aw_bipush (v := iv 8) cb_8 d_F_fillMost_6 ?_))))
  obtain ⟨y1, I2, c3, hf⟩ := of_zb hf
  refine ai_callS (as := [.int (iv (I0 (o1 + 1) 0)), .int (iv 8)]) (d' := 1) mo_JM_min lk_F_32 rfl ⟨by decide, by decide⟩ rfl rfl (by decide) d_F_fillMost_8 (t_JM_min fu (I0 (o1 + 1) 0) 8 I0 hI (hI (o1 + 1) 0) in_8 c3) (fun h_y1 h_I2 => ?_)
  refine aw_istore_n (lv2 := [.ref o0, .ref o1, .int (iv a2), .int (iv y1), uu, uu, uu]) rfl (Nat.le_of_ble_eq_true rfl) rfl d_F_fillMost_11 (aw_aload_n rfl rfl d_F_fillMost_12 (aw_aload_n rfl rfl d_F_fillMost_13 (aw_getr (r := o1 + 6) fl_F_38 h_o1 (by decide) rfl (rc_2_5 _ h_o1).1 d_F_fillMost_14 (aw_iload_n rfl rfl d_F_fillMost_17 ?_))))
  obtain ⟨y4, I5, c6, hf⟩ := of_zb hf
  refine ai_callVv (as := [.ref (o1 + 6), .int (iv a2)]) (d' := 3) (q := ("SinglesUp$Filling", zT1, 7)) mo_F_gather lk_F_42 h_o0 rfl rfl rfl ⟨by decide, by decide⟩ rfl rfl (by decide) d_F_fillMost_18 (t_F_gather fu o0 (o1 + 6) a2 I2 h_I2 h_o0 (rc_2_5 _ h_o1).2 h_a2 c6) (fun h_I5 => ?_)
  refine aw_iconst (v := iv 0) rfl d_F_fillMost_21 (aw_istore (lv2 := [.ref o0, .ref o1, .int (iv a2), .int (iv y1), .int (iv 0), uu, uu]) (Nat.le_of_ble_eq_true rfl) rfl d_F_fillMost_22 ?_)
  refine aw_weakB (lv2 := [.ref o0, uu, uu, .int (iv y1), .int (iv 0), uu, uu]) (wk_s (wk_u (wk_u (wk_s (wk_s (wk_u (wk_u wk_n))))))) ?_
  refine t_F_fillMost_24 fu _ o0 y1 h_o0 h_y1 ?_ fu 0 I5 in_0 h_I5 hf
  · intro I20 h_I20 hf
    refine aw_aload_n rfl rfl d_F_fillMost_85 (ai_geti fl_F_46 h_o0 (by decide) rfl d_F_fillMost_86 (aw_iconst (v := iv 1) rfl d_F_fillMost_89 (ai_isub d_F_fillMost_90 ?_)))
    refine ai_name hf (wr32_in _) (fun x21 h_x21 hf => ?_)
    refine aw_istore (lv2 := [.ref o0, uu, uu, .int (iv y1), .int (iv x21), uu, uu]) (Nat.le_of_ble_eq_true rfl) rfl d_F_fillMost_91 ?_
    refine t_F_fillMost_93 fu _ o0 y1 h_o0 h_y1 ?_ fu x21 I20 h_x21 h_I20 hf
    · intro I40 h_I40 hf
      refine aw_aload_n rfl rfl d_F_fillMost_178 (aw_iload_n rfl rfl d_F_fillMost_179 ?_)
      obtain ⟨y41, I42, c43, hf⟩ := of_zb hf
      refine ai_callVv (as := [.int (iv y1)]) (d' := 3) (q := ("SinglesUp$Filling", zT1, 7)) mo_F_choose lk_F_60 h_o0 rfl rfl rfl ⟨by decide, by decide⟩ rfl rfl (by decide) d_F_fillMost_180 (t_F_choose fu o0 y1 I40 h_I40 h_o0 h_y1 c43) (fun h_I42 => ?_)
      refine aw_aload_n rfl rfl d_F_fillMost_183 (aw_getr (r := o0 + 4) fl_F_21 h_o0 (by decide) rfl (rc_1_4 _ h_o0).1 d_F_fillMost_184 (aw_iconst (v := iv 0) rfl d_F_fillMost_187 (aw_iconst (v := iv 0) rfl d_F_fillMost_188 (aw_iload_n rfl rfl d_F_fillMost_189 ?_))))
      obtain ⟨y44, I45, c46, hf⟩ := of_zb hf
      refine ai_callS (as := [.int (iv 0), .int (iv 0), .int (iv y1)]) (d' := 1) mo_F_at lk_F_50 rfl ⟨by decide, by decide⟩ rfl rfl (by decide) d_F_fillMost_190 (t_F_at fu 0 0 y1 I42 h_I42 in_0 in_0 h_y1 c46) (fun h_y44 h_I45 => ?_)
      refine ai_iald (rc_1_4 _ h_o0).2 rfl h_y44 hf d_F_fillMost_193 (fun _ hf => ?_)
      exact ai_reti rfl d_F_fillMost_194 hf (h_I45 (o0 + 4) y44.toNat) h_I45
end
