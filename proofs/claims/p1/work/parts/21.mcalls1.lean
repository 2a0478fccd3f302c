/-! the reference: calls on a fresh object -/
abbrev y_X_state : MI := (⟨"SinglesUpModel", "state", "(I)I"⟩, prog_11_method_3_code, 3, some .int)
theorem d_X_state_0 : decode y_X_state.2.1 0 = .ok (.aload_n 0, 1) := by decide +kernel
theorem d_X_state_1 : decode y_X_state.2.1 1 = .ok (.getfield 7, 3) := by decide +kernel
theorem d_X_state_4 : decode y_X_state.2.1 4 = .ok (.iconst 0, 1) := by decide +kernel
theorem d_X_state_5 : decode y_X_state.2.1 5 = .ok (.iaload, 1) := by decide +kernel
theorem d_X_state_6 : decode y_X_state.2.1 6 = .ok (.istore_n 2, 1) := by decide +kernel
theorem d_X_state_7 : decode y_X_state.2.1 7 = .ok (.aload_n 0, 1) := by decide +kernel
theorem d_X_state_8 : decode y_X_state.2.1 8 = .ok (.getfield 7, 3) := by decide +kernel
theorem d_X_state_11 : decode y_X_state.2.1 11 = .ok (.iconst 0, 1) := by decide +kernel
theorem d_X_state_12 : decode y_X_state.2.1 12 = .ok (.iload_n 1, 1) := by decide +kernel
theorem d_X_state_13 : decode y_X_state.2.1 13 = .ok (.iastore, 1) := by decide +kernel
theorem d_X_state_14 : decode y_X_state.2.1 14 = .ok (.iload_n 2, 1) := by decide +kernel
theorem d_X_state_15 : decode y_X_state.2.1 15 = .ok (.ireturn, 1) := by decide +kernel
abbrev y_X_set : MI := (⟨"SinglesUpModel", "set", "(II)Z"⟩, prog_11_method_6_code, 4, some .boolean)
theorem d_X_set_0 : decode y_X_set.2.1 0 = .ok (.iload_n 1, 1) := by decide +kernel
theorem d_X_set_1 : decode y_X_set.2.1 1 = .ok (.ifCond .ne 13, 3) := by decide +kernel
theorem d_X_set_14 : decode y_X_set.2.1 14 = .ok (.iload_n 1, 1) := by decide +kernel
theorem d_X_set_15 : decode y_X_set.2.1 15 = .ok (.iconst 1, 1) := by decide +kernel
theorem d_X_set_16 : decode y_X_set.2.1 16 = .ok (.if_icmp .ne 13, 3) := by decide +kernel
theorem d_X_set_29 : decode y_X_set.2.1 29 = .ok (.iload_n 1, 1) := by decide +kernel
theorem d_X_set_30 : decode y_X_set.2.1 30 = .ok (.iconst 2, 1) := by decide +kernel
theorem d_X_set_31 : decode y_X_set.2.1 31 = .ok (.if_icmp .ne 14, 3) := by decide +kernel
theorem d_X_set_45 : decode y_X_set.2.1 45 = .ok (.iload_n 1, 1) := by decide +kernel
theorem d_X_set_46 : decode y_X_set.2.1 46 = .ok (.iconst 3, 1) := by decide +kernel
theorem d_X_set_47 : decode y_X_set.2.1 47 = .ok (.if_icmp .ne 14, 3) := by decide +kernel
theorem d_X_set_61 : decode y_X_set.2.1 61 = .ok (.iload_n 1, 1) := by decide +kernel
theorem d_X_set_62 : decode y_X_set.2.1 62 = .ok (.iconst 4, 1) := by decide +kernel
theorem d_X_set_63 : decode y_X_set.2.1 63 = .ok (.if_icmp .ne 13, 3) := by decide +kernel
theorem d_X_set_76 : decode y_X_set.2.1 76 = .ok (.iload_n 1, 1) := by decide +kernel
theorem d_X_set_77 : decode y_X_set.2.1 77 = .ok (.iconst 5, 1) := by decide +kernel
theorem d_X_set_78 : decode y_X_set.2.1 78 = .ok (.if_icmp .ne 16, 3) := by decide +kernel
theorem d_X_set_94 : decode y_X_set.2.1 94 = .ok (.iconst 0, 1) := by decide +kernel
theorem d_X_set_95 : decode y_X_set.2.1 95 = .ok (.istore_n 3, 1) := by decide +kernel
theorem d_X_set_96 : decode y_X_set.2.1 96 = .ok (.iload_n 3, 1) := by decide +kernel
theorem d_X_set_97 : decode y_X_set.2.1 97 = .ok (.ifCond .ne 5, 3) := by decide +kernel
theorem d_X_set_100 : decode y_X_set.2.1 100 = .ok (.iconst 0, 1) := by decide +kernel
theorem d_X_set_101 : decode y_X_set.2.1 101 = .ok (.ireturn, 1) := by decide +kernel
theorem d_X_set_81 : decode y_X_set.2.1 81 = .ok (.iload_n 2, 1) := by decide +kernel
theorem d_X_set_82 : decode y_X_set.2.1 82 = .ok (.iconst 0, 1) := by decide +kernel
theorem d_X_set_83 : decode y_X_set.2.1 83 = .ok (.iconst 3, 1) := by decide +kernel
theorem d_X_set_84 : decode y_X_set.2.1 84 = .ok (.invokestatic 98, 3) := by decide +kernel
abbrev y_X_isIn : MI := (⟨"SinglesUpModel", "isIn", "(III)Z"⟩, prog_11_method_2_code, 3, some .boolean)
theorem lk_X_98 : LkS "SinglesUpModel" 98 y_X_isIn := ⟨tw_in 1312 (by decide +kernel) rfl, Or.inl (tw_in 1311 (by decide +kernel) rfl)⟩
theorem mo_X_isIn : MOk y_X_isIn 3 := ⟨by decide +kernel, tw_in 1313 (by decide +kernel) rfl, tw_in 108 (by decide +kernel) rfl, by decide +kernel, by decide +kernel, by decide +kernel⟩
theorem d_X_isIn_0 : decode y_X_isIn.2.1 0 = .ok (.iload_n 0, 1) := by decide +kernel
theorem d_X_isIn_1 : decode y_X_isIn.2.1 1 = .ok (.iload_n 1, 1) := by decide +kernel
theorem d_X_isIn_2 : decode y_X_isIn.2.1 2 = .ok (.if_icmp .lt 12, 3) := by decide +kernel
theorem d_X_isIn_14 : decode y_X_isIn.2.1 14 = .ok (.iconst 0, 1) := by decide +kernel
theorem d_X_isIn_15 : decode y_X_isIn.2.1 15 = .ok (.ireturn, 1) := by decide +kernel
theorem d_X_set_87 : decode y_X_set.2.1 87 = .ok (.ifCond .eq 7, 3) := by decide +kernel
theorem d_X_isIn_5 : decode y_X_isIn.2.1 5 = .ok (.iload_n 0, 1) := by decide +kernel
theorem d_X_isIn_6 : decode y_X_isIn.2.1 6 = .ok (.iload_n 2, 1) := by decide +kernel
theorem d_X_isIn_7 : decode y_X_isIn.2.1 7 = .ok (.if_icmp .gt 7, 3) := by decide +kernel
theorem d_X_isIn_10 : decode y_X_isIn.2.1 10 = .ok (.iconst 1, 1) := by decide +kernel
theorem d_X_isIn_11 : decode y_X_isIn.2.1 11 = .ok (.goto 4, 3) := by decide +kernel
theorem d_X_set_90 : decode y_X_set.2.1 90 = .ok (.iconst 1, 1) := by decide +kernel
theorem d_X_set_91 : decode y_X_set.2.1 91 = .ok (.goto 4, 3) := by decide +kernel
theorem d_X_set_102 : decode y_X_set.2.1 102 = .ok (.aload_n 0, 1) := by decide +kernel
theorem d_X_set_103 : decode y_X_set.2.1 103 = .ok (.getfield 7, 3) := by decide +kernel
theorem d_X_set_106 : decode y_X_set.2.1 106 = .ok (.iconst 1, 1) := by decide +kernel
theorem d_X_set_107 : decode y_X_set.2.1 107 = .ok (.iload_n 1, 1) := by decide +kernel
theorem d_X_set_108 : decode y_X_set.2.1 108 = .ok (.iadd, 1) := by decide +kernel
theorem d_X_set_109 : decode y_X_set.2.1 109 = .ok (.iload_n 2, 1) := by decide +kernel
theorem d_X_set_110 : decode y_X_set.2.1 110 = .ok (.iastore, 1) := by decide +kernel
theorem d_X_set_111 : decode y_X_set.2.1 111 = .ok (.iload_n 1, 1) := by decide +kernel
theorem d_X_set_112 : decode y_X_set.2.1 112 = .ok (.ifCond .ne 7, 3) := by decide +kernel
theorem d_X_set_119 : decode y_X_set.2.1 119 = .ok (.iconst 1, 1) := by decide +kernel
theorem d_X_set_120 : decode y_X_set.2.1 120 = .ok (.ireturn, 1) := by decide +kernel
theorem d_X_set_66 : decode y_X_set.2.1 66 = .ok (.iload_n 2, 1) := by decide +kernel
theorem d_X_set_67 : decode y_X_set.2.1 67 = .ok (.iconst 0, 1) := by decide +kernel
theorem d_X_set_68 : decode y_X_set.2.1 68 = .ok (.bipush 99, 2) := by decide +kernel
theorem cb_99 : (Int8.ofInt 99).toInt32 = nI 99 := by decide +kernel
theorem d_X_set_70 : decode y_X_set.2.1 70 = .ok (.invokestatic 98, 3) := by decide +kernel
theorem d_X_set_73 : decode y_X_set.2.1 73 = .ok (.goto 22, 3) := by decide +kernel
theorem d_X_set_50 : decode y_X_set.2.1 50 = .ok (.iload_n 2, 1) := by decide +kernel
theorem d_X_set_51 : decode y_X_set.2.1 51 = .ok (.iconst 0, 1) := by decide +kernel
theorem d_X_set_52 : decode y_X_set.2.1 52 = .ok (.sipush 1000, 3) := by decide +kernel
theorem d_X_set_55 : decode y_X_set.2.1 55 = .ok (.invokestatic 98, 3) := by decide +kernel
theorem d_X_set_58 : decode y_X_set.2.1 58 = .ok (.goto 37, 3) := by decide +kernel
theorem d_X_set_34 : decode y_X_set.2.1 34 = .ok (.iload_n 2, 1) := by decide +kernel
theorem d_X_set_35 : decode y_X_set.2.1 35 = .ok (.iconst 0, 1) := by decide +kernel
theorem d_X_set_36 : decode y_X_set.2.1 36 = .ok (.sipush 999, 3) := by decide +kernel
theorem cs_999 : (Int16.ofInt 999).toInt32 = nI 999 := by decide +kernel
theorem d_X_set_39 : decode y_X_set.2.1 39 = .ok (.invokestatic 98, 3) := by decide +kernel
theorem d_X_set_42 : decode y_X_set.2.1 42 = .ok (.goto 53, 3) := by decide +kernel
theorem d_X_set_19 : decode y_X_set.2.1 19 = .ok (.iload_n 2, 1) := by decide +kernel
theorem d_X_set_20 : decode y_X_set.2.1 20 = .ok (.iconst 1, 1) := by decide +kernel
theorem d_X_set_21 : decode y_X_set.2.1 21 = .ok (.bipush 99, 2) := by decide +kernel
theorem d_X_set_23 : decode y_X_set.2.1 23 = .ok (.invokestatic 98, 3) := by decide +kernel
theorem d_X_set_26 : decode y_X_set.2.1 26 = .ok (.goto 69, 3) := by decide +kernel
theorem d_X_set_4 : decode y_X_set.2.1 4 = .ok (.iload_n 2, 1) := by decide +kernel
theorem d_X_set_5 : decode y_X_set.2.1 5 = .ok (.iconst 2, 1) := by decide +kernel
theorem d_X_set_6 : decode y_X_set.2.1 6 = .ok (.bipush 8, 2) := by decide +kernel
theorem d_X_set_8 : decode y_X_set.2.1 8 = .ok (.invokestatic 98, 3) := by decide +kernel
theorem d_X_set_11 : decode y_X_set.2.1 11 = .ok (.goto 84, 3) := by decide +kernel
theorem d_X_set_115 : decode y_X_set.2.1 115 = .ok (.aload_n 0, 1) := by decide +kernel
theorem d_X_set_116 : decode y_X_set.2.1 116 = .ok (.invokevirtual 102, 3) := by decide +kernel
abbrev y_X_seen : MI := (⟨"SinglesUpModel", "seen", "(II)Z"⟩, prog_11_method_7_code, 3, some .boolean)
theorem d_X_seen_0 : decode y_X_seen.2.1 0 = .ok (.iload_n 1, 1) := by decide +kernel
theorem d_X_seen_1 : decode y_X_seen.2.1 1 = .ok (.invokestatic 105, 3) := by decide +kernel
abbrev y_X_isLine : MI := (⟨"SinglesUpModel", "isLine", "(I)Z"⟩, prog_11_method_5_code, 1, some .boolean)
theorem lk_X_105 : LkS "SinglesUpModel" 105 y_X_isLine := ⟨tw_in 1323 (by decide +kernel) rfl, Or.inl (tw_in 1322 (by decide +kernel) rfl)⟩
theorem mo_X_isLine : MOk y_X_isLine 1 := ⟨by decide +kernel, tw_in 1324 (by decide +kernel) rfl, tw_in 108 (by decide +kernel) rfl, by decide +kernel, by decide +kernel, by decide +kernel⟩
theorem d_X_isLine_0 : decode y_X_isLine.2.1 0 = .ok (.iload_n 0, 1) := by decide +kernel
theorem d_X_isLine_1 : decode y_X_isLine.2.1 1 = .ok (.iconst 0, 1) := by decide +kernel
theorem d_X_isLine_2 : decode y_X_isLine.2.1 2 = .ok (.iconst 5, 1) := by decide +kernel
theorem d_X_isLine_3 : decode y_X_isLine.2.1 3 = .ok (.invokestatic 98, 3) := by decide +kernel
theorem d_X_isLine_6 : decode y_X_isLine.2.1 6 = .ok (.ireturn, 1) := by decide +kernel
theorem d_X_seen_4 : decode y_X_seen.2.1 4 = .ok (.ifCond .eq 13, 3) := by decide +kernel
theorem d_X_seen_17 : decode y_X_seen.2.1 17 = .ok (.iconst 0, 1) := by decide +kernel
theorem d_X_seen_18 : decode y_X_seen.2.1 18 = .ok (.ireturn, 1) := by decide +kernel
theorem d_X_seen_7 : decode y_X_seen.2.1 7 = .ok (.iload_n 2, 1) := by decide +kernel
theorem d_X_seen_8 : decode y_X_seen.2.1 8 = .ok (.iconst 1, 1) := by decide +kernel
theorem d_X_seen_9 : decode y_X_seen.2.1 9 = .ok (.bipush 24, 2) := by decide +kernel
theorem d_X_seen_11 : decode y_X_seen.2.1 11 = .ok (.invokestatic 98, 3) := by decide +kernel
theorem d_X_seen_14 : decode y_X_seen.2.1 14 = .ok (.ifCond .ne 5, 3) := by decide +kernel
theorem d_X_seen_19 : decode y_X_seen.2.1 19 = .ok (.aload_n 0, 1) := by decide +kernel
theorem d_X_seen_20 : decode y_X_seen.2.1 20 = .ok (.getfield 7, 3) := by decide +kernel
theorem d_X_seen_23 : decode y_X_seen.2.1 23 = .ok (.bipush 10, 2) := by decide +kernel
theorem d_X_seen_25 : decode y_X_seen.2.1 25 = .ok (.iload_n 1, 1) := by decide +kernel
theorem d_X_seen_26 : decode y_X_seen.2.1 26 = .ok (.iadd, 1) := by decide +kernel
theorem d_X_seen_27 : decode y_X_seen.2.1 27 = .ok (.iload_n 2, 1) := by decide +kernel
theorem d_X_seen_28 : decode y_X_seen.2.1 28 = .ok (.iastore, 1) := by decide +kernel
theorem d_X_seen_29 : decode y_X_seen.2.1 29 = .ok (.iconst 1, 1) := by decide +kernel
theorem d_X_seen_30 : decode y_X_seen.2.1 30 = .ok (.ireturn, 1) := by decide +kernel
abbrev y_X_parts : MI := (⟨"SinglesUpModel", "parts", "(II)Z"⟩, prog_11_method_8_code, 3, some .boolean)
theorem d_X_parts_0 : decode y_X_parts.2.1 0 = .ok (.iload_n 1, 1) := by decide +kernel
theorem d_X_parts_1 : decode y_X_parts.2.1 1 = .ok (.iconst 2, 1) := by decide +kernel
theorem d_X_parts_2 : decode y_X_parts.2.1 2 = .ok (.bipush 8, 2) := by decide +kernel
theorem d_X_parts_4 : decode y_X_parts.2.1 4 = .ok (.invokestatic 98, 3) := by decide +kernel
theorem d_X_parts_7 : decode y_X_parts.2.1 7 = .ok (.ifCond .eq 14, 3) := by decide +kernel
theorem d_X_parts_21 : decode y_X_parts.2.1 21 = .ok (.iconst 0, 1) := by decide +kernel
theorem d_X_parts_22 : decode y_X_parts.2.1 22 = .ok (.ireturn, 1) := by decide +kernel
theorem d_X_parts_10 : decode y_X_parts.2.1 10 = .ok (.iload_n 2, 1) := by decide +kernel
theorem d_X_parts_11 : decode y_X_parts.2.1 11 = .ok (.iconst 0, 1) := by decide +kernel
theorem d_X_parts_12 : decode y_X_parts.2.1 12 = .ok (.iload_n 1, 1) := by decide +kernel
theorem d_X_parts_13 : decode y_X_parts.2.1 13 = .ok (.iconst 1, 1) := by decide +kernel
theorem d_X_parts_14 : decode y_X_parts.2.1 14 = .ok (.isub, 1) := by decide +kernel
theorem d_X_parts_15 : decode y_X_parts.2.1 15 = .ok (.invokestatic 98, 3) := by decide +kernel
theorem d_X_parts_18 : decode y_X_parts.2.1 18 = .ok (.ifCond .ne 5, 3) := by decide +kernel
theorem d_X_parts_23 : decode y_X_parts.2.1 23 = .ok (.aload_n 0, 1) := by decide +kernel
theorem d_X_parts_24 : decode y_X_parts.2.1 24 = .ok (.getfield 7, 3) := by decide +kernel
theorem d_X_parts_27 : decode y_X_parts.2.1 27 = .ok (.bipush 16, 2) := by decide +kernel
theorem d_X_parts_29 : decode y_X_parts.2.1 29 = .ok (.iload_n 1, 1) := by decide +kernel
theorem d_X_parts_30 : decode y_X_parts.2.1 30 = .ok (.iadd, 1) := by decide +kernel
theorem d_X_parts_31 : decode y_X_parts.2.1 31 = .ok (.iload_n 2, 1) := by decide +kernel
theorem d_X_parts_32 : decode y_X_parts.2.1 32 = .ok (.iastore, 1) := by decide +kernel
theorem d_X_parts_33 : decode y_X_parts.2.1 33 = .ok (.iconst 1, 1) := by decide +kernel
theorem d_X_parts_34 : decode y_X_parts.2.1 34 = .ok (.ireturn, 1) := by decide +kernel
abbrev y_X_comer : MI := (⟨"SinglesUpModel", "comer", "(IIIII)Z"⟩, prog_11_method_10_code, 6, some .boolean)
theorem d_X_comer_0 : decode y_X_comer.2.1 0 = .ok (.iload_n 1, 1) := by decide +kernel
theorem d_X_comer_1 : decode y_X_comer.2.1 1 = .ok (.iconst 0, 1) := by decide +kernel
theorem d_X_comer_2 : decode y_X_comer.2.1 2 = .ok (.bipush 7, 2) := by decide +kernel
theorem d_X_comer_4 : decode y_X_comer.2.1 4 = .ok (.invokestatic 98, 3) := by decide +kernel
theorem d_X_comer_7 : decode y_X_comer.2.1 7 = .ok (.ifCond .eq 25, 3) := by decide +kernel
theorem d_X_comer_32 : decode y_X_comer.2.1 32 = .ok (.iconst 0, 1) := by decide +kernel
theorem d_X_comer_33 : decode y_X_comer.2.1 33 = .ok (.ireturn, 1) := by decide +kernel
theorem d_X_comer_10 : decode y_X_comer.2.1 10 = .ok (.iload_n 2, 1) := by decide +kernel
theorem d_X_comer_11 : decode y_X_comer.2.1 11 = .ok (.iload_n 3, 1) := by decide +kernel
theorem d_X_comer_12 : decode y_X_comer.2.1 12 = .ok (.iload 4, 2) := by decide +kernel
theorem d_X_comer_14 : decode y_X_comer.2.1 14 = .ok (.invokestatic 109, 3) := by decide +kernel
abbrev y_X_isGroup : MI := (⟨"SinglesUpModel", "isGroup", "(III)Z"⟩, prog_11_method_9_code, 3, some .boolean)
theorem lk_X_109 : LkS "SinglesUpModel" 109 y_X_isGroup := ⟨tw_in 1334 (by decide +kernel) rfl, Or.inl (tw_in 1333 (by decide +kernel) rfl)⟩
theorem mo_X_isGroup : MOk y_X_isGroup 3 := ⟨by decide +kernel, tw_in 1335 (by decide +kernel) rfl, tw_in 108 (by decide +kernel) rfl, by decide +kernel, by decide +kernel, by decide +kernel⟩
theorem d_X_isGroup_0 : decode y_X_isGroup.2.1 0 = .ok (.iload_n 0, 1) := by decide +kernel
theorem d_X_isGroup_1 : decode y_X_isGroup.2.1 1 = .ok (.iconst 1, 1) := by decide +kernel
theorem d_X_isGroup_2 : decode y_X_isGroup.2.1 2 = .ok (.bipush 8, 2) := by decide +kernel
theorem d_X_isGroup_4 : decode y_X_isGroup.2.1 4 = .ok (.invokestatic 98, 3) := by decide +kernel
theorem d_X_isGroup_7 : decode y_X_isGroup.2.1 7 = .ok (.ifCond .eq 25, 3) := by decide +kernel
theorem d_X_isGroup_32 : decode y_X_isGroup.2.1 32 = .ok (.iconst 0, 1) := by decide +kernel
theorem d_X_isGroup_33 : decode y_X_isGroup.2.1 33 = .ok (.ireturn, 1) := by decide +kernel
theorem d_X_comer_17 : decode y_X_comer.2.1 17 = .ok (.ifCond .eq 15, 3) := by decide +kernel
theorem d_X_isGroup_10 : decode y_X_isGroup.2.1 10 = .ok (.iload_n 1, 1) := by decide +kernel
theorem d_X_isGroup_11 : decode y_X_isGroup.2.1 11 = .ok (.iconst 1, 1) := by decide +kernel
theorem d_X_isGroup_12 : decode y_X_isGroup.2.1 12 = .ok (.iload_n 0, 1) := by decide +kernel
theorem d_X_isGroup_13 : decode y_X_isGroup.2.1 13 = .ok (.invokestatic 98, 3) := by decide +kernel
theorem d_X_isGroup_16 : decode y_X_isGroup.2.1 16 = .ok (.ifCond .eq 16, 3) := by decide +kernel
theorem d_X_isGroup_19 : decode y_X_isGroup.2.1 19 = .ok (.iload_n 2, 1) := by decide +kernel
theorem d_X_isGroup_20 : decode y_X_isGroup.2.1 20 = .ok (.iconst 0, 1) := by decide +kernel
theorem d_X_isGroup_21 : decode y_X_isGroup.2.1 21 = .ok (.iconst 3, 1) := by decide +kernel
theorem d_X_isGroup_22 : decode y_X_isGroup.2.1 22 = .ok (.invokestatic 98, 3) := by decide +kernel
theorem d_X_isGroup_25 : decode y_X_isGroup.2.1 25 = .ok (.ifCond .eq 7, 3) := by decide +kernel
theorem d_X_isGroup_28 : decode y_X_isGroup.2.1 28 = .ok (.iconst 1, 1) := by decide +kernel
theorem d_X_isGroup_29 : decode y_X_isGroup.2.1 29 = .ok (.goto 4, 3) := by decide +kernel
theorem d_X_comer_20 : decode y_X_comer.2.1 20 = .ok (.iload 5, 2) := by decide +kernel
theorem d_X_comer_22 : decode y_X_comer.2.1 22 = .ok (.iconst 0, 1) := by decide +kernel
theorem d_X_comer_23 : decode y_X_comer.2.1 23 = .ok (.sipush 1000, 3) := by decide +kernel
theorem d_X_comer_26 : decode y_X_comer.2.1 26 = .ok (.invokestatic 98, 3) := by decide +kernel
theorem d_X_comer_29 : decode y_X_comer.2.1 29 = .ok (.ifCond .ne 5, 3) := by decide +kernel
theorem d_X_comer_34 : decode y_X_comer.2.1 34 = .ok (.aload_n 0, 1) := by decide +kernel
theorem d_X_comer_35 : decode y_X_comer.2.1 35 = .ok (.getfield 7, 3) := by decide +kernel
theorem d_X_comer_38 : decode y_X_comer.2.1 38 = .ok (.bipush 26, 2) := by decide +kernel
theorem cb_26 : (Int8.ofInt 26).toInt32 = nI 26 := by decide +kernel
theorem d_X_comer_40 : decode y_X_comer.2.1 40 = .ok (.iconst 4, 1) := by decide +kernel
theorem d_X_comer_41 : decode y_X_comer.2.1 41 = .ok (.iload_n 1, 1) := by decide +kernel
theorem d_X_comer_42 : decode y_X_comer.2.1 42 = .ok (.imul, 1) := by decide +kernel
theorem d_X_comer_43 : decode y_X_comer.2.1 43 = .ok (.iadd, 1) := by decide +kernel
theorem d_X_comer_44 : decode y_X_comer.2.1 44 = .ok (.iload_n 2, 1) := by decide +kernel
theorem d_X_comer_45 : decode y_X_comer.2.1 45 = .ok (.iastore, 1) := by decide +kernel
theorem d_X_comer_46 : decode y_X_comer.2.1 46 = .ok (.aload_n 0, 1) := by decide +kernel
theorem d_X_comer_47 : decode y_X_comer.2.1 47 = .ok (.getfield 7, 3) := by decide +kernel
theorem d_X_comer_50 : decode y_X_comer.2.1 50 = .ok (.bipush 26, 2) := by decide +kernel
theorem d_X_comer_52 : decode y_X_comer.2.1 52 = .ok (.iconst 4, 1) := by decide +kernel
theorem d_X_comer_53 : decode y_X_comer.2.1 53 = .ok (.iload_n 1, 1) := by decide +kernel
theorem d_X_comer_54 : decode y_X_comer.2.1 54 = .ok (.imul, 1) := by decide +kernel
theorem d_X_comer_55 : decode y_X_comer.2.1 55 = .ok (.iadd, 1) := by decide +kernel
theorem d_X_comer_56 : decode y_X_comer.2.1 56 = .ok (.iconst 1, 1) := by decide +kernel
theorem d_X_comer_57 : decode y_X_comer.2.1 57 = .ok (.iadd, 1) := by decide +kernel
theorem d_X_comer_58 : decode y_X_comer.2.1 58 = .ok (.iload_n 3, 1) := by decide +kernel
theorem d_X_comer_59 : decode y_X_comer.2.1 59 = .ok (.iastore, 1) := by decide +kernel
theorem d_X_comer_60 : decode y_X_comer.2.1 60 = .ok (.aload_n 0, 1) := by decide +kernel
theorem d_X_comer_61 : decode y_X_comer.2.1 61 = .ok (.getfield 7, 3) := by decide +kernel
theorem d_X_comer_64 : decode y_X_comer.2.1 64 = .ok (.bipush 26, 2) := by decide +kernel
theorem d_X_comer_66 : decode y_X_comer.2.1 66 = .ok (.iconst 4, 1) := by decide +kernel
theorem d_X_comer_67 : decode y_X_comer.2.1 67 = .ok (.iload_n 1, 1) := by decide +kernel
theorem d_X_comer_68 : decode y_X_comer.2.1 68 = .ok (.imul, 1) := by decide +kernel
theorem d_X_comer_69 : decode y_X_comer.2.1 69 = .ok (.iadd, 1) := by decide +kernel
theorem d_X_comer_70 : decode y_X_comer.2.1 70 = .ok (.iconst 2, 1) := by decide +kernel
theorem d_X_comer_71 : decode y_X_comer.2.1 71 = .ok (.iadd, 1) := by decide +kernel
theorem d_X_comer_72 : decode y_X_comer.2.1 72 = .ok (.iload 4, 2) := by decide +kernel
theorem d_X_comer_74 : decode y_X_comer.2.1 74 = .ok (.iastore, 1) := by decide +kernel
theorem d_X_comer_75 : decode y_X_comer.2.1 75 = .ok (.aload_n 0, 1) := by decide +kernel
theorem d_X_comer_76 : decode y_X_comer.2.1 76 = .ok (.getfield 7, 3) := by decide +kernel
theorem d_X_comer_79 : decode y_X_comer.2.1 79 = .ok (.bipush 26, 2) := by decide +kernel
theorem d_X_comer_81 : decode y_X_comer.2.1 81 = .ok (.iconst 4, 1) := by decide +kernel
theorem d_X_comer_82 : decode y_X_comer.2.1 82 = .ok (.iload_n 1, 1) := by decide +kernel
theorem d_X_comer_83 : decode y_X_comer.2.1 83 = .ok (.imul, 1) := by decide +kernel
theorem d_X_comer_84 : decode y_X_comer.2.1 84 = .ok (.iadd, 1) := by decide +kernel
theorem d_X_comer_85 : decode y_X_comer.2.1 85 = .ok (.iconst 3, 1) := by decide +kernel
theorem d_X_comer_86 : decode y_X_comer.2.1 86 = .ok (.iadd, 1) := by decide +kernel
theorem d_X_comer_87 : decode y_X_comer.2.1 87 = .ok (.iload 5, 2) := by decide +kernel
theorem d_X_comer_89 : decode y_X_comer.2.1 89 = .ok (.iastore, 1) := by decide +kernel
theorem d_X_comer_90 : decode y_X_comer.2.1 90 = .ok (.iconst 1, 1) := by decide +kernel
theorem d_X_comer_91 : decode y_X_comer.2.1 91 = .ok (.ireturn, 1) := by decide +kernel
abbrev y_X_feed : MI := (⟨"SinglesUpModel", "feed", "(IIIII)I"⟩, prog_11_method_11_code, 8, some .int)
theorem d_X_feed_0 : decode y_X_feed.2.1 0 = .ok (.aload_n 0, 1) := by decide +kernel
theorem d_X_feed_1 : decode y_X_feed.2.1 1 = .ok (.getfield 112, 3) := by decide +kernel
theorem fl_X_112 : FL "SinglesUpModel" 112 9 12 := ⟨"SinglesUpModel", zT9, 51, rfl, by decide, rfl, Or.inl (tw_in 1161 (by decide +kernel) rfl)⟩
theorem d_X_feed_4 : decode y_X_feed.2.1 4 = .ok (.bipush 20, 2) := by decide +kernel
theorem d_X_feed_6 : decode y_X_feed.2.1 6 = .ok (.iadd, 1) := by decide +kernel
theorem d_X_feed_7 : decode y_X_feed.2.1 7 = .ok (.sipush 400, 3) := by decide +kernel
theorem d_X_feed_10 : decode y_X_feed.2.1 10 = .ok (.if_icmp .le 5, 3) := by decide +kernel
theorem d_X_feed_15 : decode y_X_feed.2.1 15 = .ok (.iconst 0, 1) := by decide +kernel
theorem d_X_feed_16 : decode y_X_feed.2.1 16 = .ok (.istore 6, 2) := by decide +kernel
theorem d_X_feed_18 : decode y_X_feed.2.1 18 = .ok (.iload 6, 2) := by decide +kernel
theorem d_X_feed_20 : decode y_X_feed.2.1 20 = .ok (.bipush 20, 2) := by decide +kernel
theorem d_X_feed_22 : decode y_X_feed.2.1 22 = .ok (.if_icmp .ge 93, 3) := by decide +kernel
theorem d_X_feed_25 : decode y_X_feed.2.1 25 = .ok (.iload 6, 2) := by decide +kernel
theorem d_X_feed_27 : decode y_X_feed.2.1 27 = .ok (.iconst 4, 1) := by decide +kernel
theorem d_X_feed_28 : decode y_X_feed.2.1 28 = .ok (.if_icmp .ge 7, 3) := by decide +kernel
theorem d_X_feed_31 : decode y_X_feed.2.1 31 = .ok (.iload_n 1, 1) := by decide +kernel
theorem d_X_feed_32 : decode y_X_feed.2.1 32 = .ok (.goto 39, 3) := by decide +kernel
theorem d_X_feed_71 : decode y_X_feed.2.1 71 = .ok (.istore 7, 2) := by decide +kernel
theorem d_X_feed_73 : decode y_X_feed.2.1 73 = .ok (.aload_n 0, 1) := by decide +kernel
theorem d_X_feed_74 : decode y_X_feed.2.1 74 = .ok (.getfield 25, 3) := by decide +kernel
theorem fl_X_25 : FL "SinglesUpModel" 25 9 6 := ⟨"SinglesUpModel", zT9, 51, rfl, by decide, rfl, Or.inl (tw_in 1155 (by decide +kernel) rfl)⟩
theorem rm_0_6 : RM 0 6 = some 6 := by decide +kernel
theorem d_X_feed_77 : decode y_X_feed.2.1 77 = .ok (.aload_n 0, 1) := by decide +kernel
theorem d_X_feed_78 : decode y_X_feed.2.1 78 = .ok (.getfield 112, 3) := by decide +kernel
theorem d_X_feed_81 : decode y_X_feed.2.1 81 = .ok (.iload 7, 2) := by decide +kernel
theorem d_X_feed_83 : decode y_X_feed.2.1 83 = .ok (.bipush 24, 2) := by decide +kernel
theorem d_X_feed_85 : decode y_X_feed.2.1 85 = .ok (.bipush 8, 2) := by decide +kernel
theorem d_X_feed_87 : decode y_X_feed.2.1 87 = .ok (.iload 6, 2) := by decide +kernel
theorem d_X_feed_89 : decode y_X_feed.2.1 89 = .ok (.iconst 4, 1) := by decide +kernel
theorem d_X_feed_90 : decode y_X_feed.2.1 90 = .ok (.irem, 1) := by decide +kernel
theorem d_X_feed_91 : decode y_X_feed.2.1 91 = .ok (.imul, 1) := by decide +kernel
theorem d_X_feed_92 : decode y_X_feed.2.1 92 = .ok (.isub, 1) := by decide +kernel
theorem d_X_feed_93 : decode y_X_feed.2.1 93 = .ok (.ishr, 1) := by decide +kernel
theorem d_X_feed_94 : decode y_X_feed.2.1 94 = .ok (.sipush 255, 3) := by decide +kernel
theorem d_X_feed_97 : decode y_X_feed.2.1 97 = .ok (.iand, 1) := by decide +kernel
theorem d_X_feed_98 : decode y_X_feed.2.1 98 = .ok (.iastore, 1) := by decide +kernel
theorem km_6 : KM[6]? = some (0, 400) := by decide +kernel
theorem d_X_feed_99 : decode y_X_feed.2.1 99 = .ok (.aload_n 0, 1) := by decide +kernel
theorem d_X_feed_100 : decode y_X_feed.2.1 100 = .ok (.dup, 1) := by decide +kernel
theorem d_X_feed_101 : decode y_X_feed.2.1 101 = .ok (.getfield 112, 3) := by decide +kernel
theorem d_X_feed_104 : decode y_X_feed.2.1 104 = .ok (.iconst 1, 1) := by decide +kernel
theorem d_X_feed_105 : decode y_X_feed.2.1 105 = .ok (.iadd, 1) := by decide +kernel
theorem d_X_feed_106 : decode y_X_feed.2.1 106 = .ok (.putfield 112, 3) := by decide +kernel
theorem d_X_feed_109 : decode y_X_feed.2.1 109 = .ok (.iinc 6 1, 3) := by decide +kernel
theorem d_X_feed_112 : decode y_X_feed.2.1 112 = .ok (.goto (-94), 3) := by decide +kernel
theorem d_X_feed_35 : decode y_X_feed.2.1 35 = .ok (.iload 6, 2) := by decide +kernel
theorem d_X_feed_37 : decode y_X_feed.2.1 37 = .ok (.bipush 8, 2) := by decide +kernel
theorem d_X_feed_39 : decode y_X_feed.2.1 39 = .ok (.if_icmp .ge 7, 3) := by decide +kernel
theorem d_X_feed_42 : decode y_X_feed.2.1 42 = .ok (.iload_n 2, 1) := by decide +kernel
theorem d_X_feed_43 : decode y_X_feed.2.1 43 = .ok (.goto 28, 3) := by decide +kernel
theorem d_X_feed_46 : decode y_X_feed.2.1 46 = .ok (.iload 6, 2) := by decide +kernel
theorem d_X_feed_48 : decode y_X_feed.2.1 48 = .ok (.bipush 12, 2) := by decide +kernel
theorem d_X_feed_50 : decode y_X_feed.2.1 50 = .ok (.if_icmp .ge 7, 3) := by decide +kernel
theorem d_X_feed_53 : decode y_X_feed.2.1 53 = .ok (.iload_n 3, 1) := by decide +kernel
theorem d_X_feed_54 : decode y_X_feed.2.1 54 = .ok (.goto 17, 3) := by decide +kernel
theorem d_X_feed_57 : decode y_X_feed.2.1 57 = .ok (.iload 6, 2) := by decide +kernel
theorem d_X_feed_59 : decode y_X_feed.2.1 59 = .ok (.bipush 16, 2) := by decide +kernel
theorem d_X_feed_61 : decode y_X_feed.2.1 61 = .ok (.if_icmp .ge 8, 3) := by decide +kernel
theorem d_X_feed_64 : decode y_X_feed.2.1 64 = .ok (.iload 4, 2) := by decide +kernel
theorem d_X_feed_66 : decode y_X_feed.2.1 66 = .ok (.goto 5, 3) := by decide +kernel
theorem d_X_feed_69 : decode y_X_feed.2.1 69 = .ok (.iload 5, 2) := by decide +kernel
theorem d_X_feed_115 : decode y_X_feed.2.1 115 = .ok (.aload_n 0, 1) := by decide +kernel
theorem d_X_feed_116 : decode y_X_feed.2.1 116 = .ok (.getfield 112, 3) := by decide +kernel
theorem d_X_feed_119 : decode y_X_feed.2.1 119 = .ok (.ireturn, 1) := by decide +kernel
abbrev y_X_end : MI := (⟨"SinglesUpModel", "end", "(I)Z"⟩, prog_11_method_12_code, 2, some .boolean)
theorem d_X_end_0 : decode y_X_end.2.1 0 = .ok (.iload_n 1, 1) := by decide +kernel
theorem d_X_end_1 : decode y_X_end.2.1 1 = .ok (.iconst 0, 1) := by decide +kernel
theorem d_X_end_2 : decode y_X_end.2.1 2 = .ok (.aload_n 0, 1) := by decide +kernel
theorem d_X_end_3 : decode y_X_end.2.1 3 = .ok (.getfield 112, 3) := by decide +kernel
theorem d_X_end_6 : decode y_X_end.2.1 6 = .ok (.invokestatic 98, 3) := by decide +kernel
theorem d_X_end_9 : decode y_X_end.2.1 9 = .ok (.ifCond .ne 5, 3) := by decide +kernel
theorem d_X_end_12 : decode y_X_end.2.1 12 = .ok (.iconst 0, 1) := by decide +kernel
theorem d_X_end_13 : decode y_X_end.2.1 13 = .ok (.ireturn, 1) := by decide +kernel
theorem d_X_end_14 : decode y_X_end.2.1 14 = .ok (.aload_n 0, 1) := by decide +kernel
theorem d_X_end_15 : decode y_X_end.2.1 15 = .ok (.iload_n 1, 1) := by decide +kernel
theorem d_X_end_16 : decode y_X_end.2.1 16 = .ok (.putfield 112, 3) := by decide +kernel
theorem d_X_end_19 : decode y_X_end.2.1 19 = .ok (.iconst 1, 1) := by decide +kernel
theorem d_X_end_20 : decode y_X_end.2.1 20 = .ok (.ireturn, 1) := by decide +kernel
abbrev y_X_text : MI := (⟨"SinglesUpModel", "text", "(I)I"⟩, prog_11_method_33_code, 4, some .int)
theorem d_X_text_0 : decode y_X_text.2.1 0 = .ok (.aload_n 0, 1) := by decide +kernel
theorem d_X_text_1 : decode y_X_text.2.1 1 = .ok (.iconst 0, 1) := by decide +kernel
theorem d_X_text_2 : decode y_X_text.2.1 2 = .ok (.putfield 193, 3) := by decide +kernel
theorem fl_X_193 : FL "SinglesUpModel" 193 9 17 := ⟨"SinglesUpModel", zT9, 51, rfl, by decide, rfl, Or.inl (tw_in 1166 (by decide +kernel) rfl)⟩
theorem d_X_text_5 : decode y_X_text.2.1 5 = .ok (.iload_n 1, 1) := by decide +kernel
theorem d_X_text_6 : decode y_X_text.2.1 6 = .ok (.iconst 0, 1) := by decide +kernel
theorem d_X_text_7 : decode y_X_text.2.1 7 = .ok (.iconst 4, 1) := by decide +kernel
theorem d_X_text_8 : decode y_X_text.2.1 8 = .ok (.invokestatic 98, 3) := by decide +kernel
theorem d_X_text_11 : decode y_X_text.2.1 11 = .ok (.ifCond .ne 20, 3) := by decide +kernel
theorem d_X_text_14 : decode y_X_text.2.1 14 = .ok (.aload_n 0, 1) := by decide +kernel
theorem d_X_text_15 : decode y_X_text.2.1 15 = .ok (.iconst 0, 1) := by decide +kernel
theorem d_X_text_16 : decode y_X_text.2.1 16 = .ok (.putfield 112, 3) := by decide +kernel
theorem d_X_text_19 : decode y_X_text.2.1 19 = .ok (.aload_n 0, 1) := by decide +kernel
theorem d_X_text_20 : decode y_X_text.2.1 20 = .ok (.iconst 0, 1) := by decide +kernel
theorem d_X_text_21 : decode y_X_text.2.1 21 = .ok (.putfield 247, 3) := by decide +kernel
theorem fl_X_247 : FL "SinglesUpModel" 247 9 19 := ⟨"SinglesUpModel", zT9, 51, rfl, by decide, rfl, Or.inl (tw_in 1168 (by decide +kernel) rfl)⟩
theorem d_X_text_24 : decode y_X_text.2.1 24 = .ok (.aload_n 0, 1) := by decide +kernel
theorem d_X_text_25 : decode y_X_text.2.1 25 = .ok (.iconst (-1), 1) := by decide +kernel
theorem d_X_text_26 : decode y_X_text.2.1 26 = .ok (.putfield 34, 3) := by decide +kernel
theorem fl_X_34 : FL "SinglesUpModel" 34 9 21 := ⟨"SinglesUpModel", zT9, 51, rfl, by decide, rfl, Or.inl (tw_in 1170 (by decide +kernel) rfl)⟩
theorem d_X_text_29 : decode y_X_text.2.1 29 = .ok (.iconst (-1), 1) := by decide +kernel
theorem d_X_text_30 : decode y_X_text.2.1 30 = .ok (.ireturn, 1) := by decide +kernel
theorem d_X_text_31 : decode y_X_text.2.1 31 = .ok (.aload_n 0, 1) := by decide +kernel
theorem d_X_text_32 : decode y_X_text.2.1 32 = .ok (.iload_n 1, 1) := by decide +kernel
theorem d_X_text_33 : decode y_X_text.2.1 33 = .ok (.putfield 166, 3) := by decide +kernel
theorem fl_X_166 : FL "SinglesUpModel" 166 9 9 := ⟨"SinglesUpModel", zT9, 51, rfl, by decide, rfl, Or.inl (tw_in 1158 (by decide +kernel) rfl)⟩
theorem d_X_text_36 : decode y_X_text.2.1 36 = .ok (.aload_n 0, 1) := by decide +kernel
theorem d_X_text_37 : decode y_X_text.2.1 37 = .ok (.iconst 0, 1) := by decide +kernel
theorem d_X_text_38 : decode y_X_text.2.1 38 = .ok (.putfield 115, 3) := by decide +kernel
theorem fl_X_115 : FL "SinglesUpModel" 115 9 13 := ⟨"SinglesUpModel", zT9, 51, rfl, by decide, rfl, Or.inl (tw_in 1162 (by decide +kernel) rfl)⟩
theorem d_X_text_41 : decode y_X_text.2.1 41 = .ok (.aload_n 0, 1) := by decide +kernel
theorem d_X_text_42 : decode y_X_text.2.1 42 = .ok (.iconst 0, 1) := by decide +kernel
theorem d_X_text_43 : decode y_X_text.2.1 43 = .ok (.putfield 244, 3) := by decide +kernel
theorem fl_X_244 : FL "SinglesUpModel" 244 9 10 := ⟨"SinglesUpModel", zT9, 51, rfl, by decide, rfl, Or.inl (tw_in 1159 (by decide +kernel) rfl)⟩
theorem d_X_text_46 : decode y_X_text.2.1 46 = .ok (.aload_n 0, 1) := by decide +kernel
theorem d_X_text_47 : decode y_X_text.2.1 47 = .ok (.iconst 0, 1) := by decide +kernel
theorem d_X_text_48 : decode y_X_text.2.1 48 = .ok (.putfield 205, 3) := by decide +kernel
theorem fl_X_205 : FL "SinglesUpModel" 205 9 11 := ⟨"SinglesUpModel", zT9, 51, rfl, by decide, rfl, Or.inl (tw_in 1160 (by decide +kernel) rfl)⟩
theorem d_X_text_51 : decode y_X_text.2.1 51 = .ok (.aload_n 0, 1) := by decide +kernel
theorem d_X_text_52 : decode y_X_text.2.1 52 = .ok (.invokevirtual 202, 3) := by decide +kernel
abbrev y_X_next0 : MI := (⟨"SinglesUpModel", "next0", "()V"⟩, prog_11_method_20_code, 3, none)
theorem lk_X_202 : LkV "SinglesUpModel" 202 y_X_next0 := ⟨tw_in 1350 (by decide +kernel) rfl, tw_in 40 (by decide +kernel) rfl, Or.inl (tw_in 1348 (by decide +kernel) rfl)⟩
theorem mo_X_next0 : MOk y_X_next0 0 := ⟨by decide +kernel, tw_in 1351 (by decide +kernel) rfl, tw_in 108 (by decide +kernel) rfl, by decide +kernel, by decide +kernel, by decide +kernel⟩
theorem d_X_next0_0 : decode y_X_next0.2.1 0 = .ok (.aload_n 0, 1) := by decide +kernel
theorem d_X_next0_1 : decode y_X_next0.2.1 1 = .ok (.aload_n 0, 1) := by decide +kernel
theorem d_X_next0_2 : decode y_X_next0.2.1 2 = .ok (.getfield 115, 3) := by decide +kernel
theorem d_X_next0_5 : decode y_X_next0.2.1 5 = .ok (.invokevirtual 174, 3) := by decide +kernel
abbrev y_X_see : MI := (⟨"SinglesUpModel", "see", "(I)I"⟩, prog_11_method_13_code, 2, some .int)
theorem lk_X_174 : LkV "SinglesUpModel" 174 y_X_see := ⟨tw_in 1354 (by decide +kernel) rfl, tw_in 41 (by decide +kernel) rfl, Or.inl (tw_in 1352 (by decide +kernel) rfl)⟩
theorem mo_X_see : MOk y_X_see 1 := ⟨by decide +kernel, tw_in 1355 (by decide +kernel) rfl, tw_in 108 (by decide +kernel) rfl, by decide +kernel, by decide +kernel, by decide +kernel⟩
theorem d_X_see_0 : decode y_X_see.2.1 0 = .ok (.iload_n 1, 1) := by decide +kernel
theorem d_X_see_1 : decode y_X_see.2.1 1 = .ok (.aload_n 0, 1) := by decide +kernel
theorem d_X_see_2 : decode y_X_see.2.1 2 = .ok (.getfield 112, 3) := by decide +kernel
theorem d_X_see_5 : decode y_X_see.2.1 5 = .ok (.if_icmp .ge 12, 3) := by decide +kernel
theorem d_X_see_17 : decode y_X_see.2.1 17 = .ok (.iconst (-1), 1) := by decide +kernel
theorem d_X_see_18 : decode y_X_see.2.1 18 = .ok (.ireturn, 1) := by decide +kernel
theorem d_X_next0_8 : decode y_X_next0.2.1 8 = .ok (.bipush 32, 2) := by decide +kernel
theorem cb_32 : (Int8.ofInt 32).toInt32 = nI 32 := by decide +kernel
theorem d_X_next0_10 : decode y_X_next0.2.1 10 = .ok (.if_icmp .eq 16, 3) := by decide +kernel
theorem d_X_next0_13 : decode y_X_next0.2.1 13 = .ok (.aload_n 0, 1) := by decide +kernel
theorem d_X_next0_14 : decode y_X_next0.2.1 14 = .ok (.aload_n 0, 1) := by decide +kernel
theorem d_X_next0_15 : decode y_X_next0.2.1 15 = .ok (.getfield 115, 3) := by decide +kernel
theorem d_X_next0_18 : decode y_X_next0.2.1 18 = .ok (.invokevirtual 174, 3) := by decide +kernel
theorem d_X_next0_21 : decode y_X_next0.2.1 21 = .ok (.bipush 10, 2) := by decide +kernel
theorem d_X_next0_23 : decode y_X_next0.2.1 23 = .ok (.if_icmp .ne 16, 3) := by decide +kernel
theorem d_X_next0_39 : decode y_X_next0.2.1 39 = .ok (.aload_n 0, 1) := by decide +kernel
theorem d_X_next0_40 : decode y_X_next0.2.1 40 = .ok (.aload_n 0, 1) := by decide +kernel
theorem d_X_next0_41 : decode y_X_next0.2.1 41 = .ok (.getfield 115, 3) := by decide +kernel
theorem d_X_next0_44 : decode y_X_next0.2.1 44 = .ok (.putfield 118, 3) := by decide +kernel
theorem fl_X_118 : FL "SinglesUpModel" 118 9 15 := ⟨"SinglesUpModel", zT9, 51, rfl, by decide, rfl, Or.inl (tw_in 1164 (by decide +kernel) rfl)⟩
theorem d_X_next0_47 : decode y_X_next0.2.1 47 = .ok (.aload_n 0, 1) := by decide +kernel
theorem d_X_next0_48 : decode y_X_next0.2.1 48 = .ok (.aload_n 0, 1) := by decide +kernel
theorem d_X_next0_49 : decode y_X_next0.2.1 49 = .ok (.getfield 115, 3) := by decide +kernel
theorem d_X_next0_52 : decode y_X_next0.2.1 52 = .ok (.invokevirtual 174, 3) := by decide +kernel
theorem d_X_next0_55 : decode y_X_next0.2.1 55 = .ok (.istore_n 1, 1) := by decide +kernel
theorem d_X_next0_56 : decode y_X_next0.2.1 56 = .ok (.iload_n 1, 1) := by decide +kernel
theorem d_X_next0_57 : decode y_X_next0.2.1 57 = .ok (.iconst (-1), 1) := by decide +kernel
theorem d_X_next0_58 : decode y_X_next0.2.1 58 = .ok (.if_icmp .ne 11, 3) := by decide +kernel
theorem d_X_next0_61 : decode y_X_next0.2.1 61 = .ok (.aload_n 0, 1) := by decide +kernel
theorem d_X_next0_62 : decode y_X_next0.2.1 62 = .ok (.iconst 0, 1) := by decide +kernel
theorem d_X_next0_63 : decode y_X_next0.2.1 63 = .ok (.putfield 178, 3) := by decide +kernel
theorem fl_X_178 : FL "SinglesUpModel" 178 9 14 := ⟨"SinglesUpModel", zT9, 51, rfl, by decide, rfl, Or.inl (tw_in 1163 (by decide +kernel) rfl)⟩
theorem d_X_next0_66 : decode y_X_next0.2.1 66 = .ok (.goto 240, 3) := by decide +kernel
theorem d_X_next0_306 : decode y_X_next0.2.1 306 = .ok (.return_, 1) := by decide +kernel
theorem d_X_text_55 : decode y_X_text.2.1 55 = .ok (.iconst 1, 1) := by decide +kernel
theorem d_X_text_56 : decode y_X_text.2.1 56 = .ok (.istore_n 2, 1) := by decide +kernel
theorem d_X_text_57 : decode y_X_text.2.1 57 = .ok (.iload_n 2, 1) := by decide +kernel
theorem d_X_text_58 : decode y_X_text.2.1 58 = .ok (.ifCond .eq 36, 3) := by decide +kernel
theorem d_X_text_61 : decode y_X_text.2.1 61 = .ok (.aload_n 0, 1) := by decide +kernel
theorem d_X_text_62 : decode y_X_text.2.1 62 = .ok (.getfield 178, 3) := by decide +kernel
theorem d_X_text_65 : decode y_X_text.2.1 65 = .ok (.ifCond .eq 29, 3) := by decide +kernel
theorem d_X_text_94 : decode y_X_text.2.1 94 = .ok (.aload_n 0, 1) := by decide +kernel
theorem d_X_text_95 : decode y_X_text.2.1 95 = .ok (.iconst 0, 1) := by decide +kernel
theorem d_X_text_96 : decode y_X_text.2.1 96 = .ok (.putfield 112, 3) := by decide +kernel
theorem d_X_text_99 : decode y_X_text.2.1 99 = .ok (.aload_n 0, 1) := by decide +kernel
theorem d_X_text_100 : decode y_X_text.2.1 100 = .ok (.aload_n 0, 1) := by decide +kernel
theorem d_X_text_101 : decode y_X_text.2.1 101 = .ok (.getfield 193, 3) := by decide +kernel
theorem d_X_text_104 : decode y_X_text.2.1 104 = .ok (.putfield 247, 3) := by decide +kernel
theorem d_X_text_107 : decode y_X_text.2.1 107 = .ok (.aload_n 0, 1) := by decide +kernel
theorem d_X_text_108 : decode y_X_text.2.1 108 = .ok (.iload_n 2, 1) := by decide +kernel
theorem d_X_text_109 : decode y_X_text.2.1 109 = .ok (.ifCond .eq 7, 3) := by decide +kernel
theorem d_X_text_112 : decode y_X_text.2.1 112 = .ok (.iconst (-1), 1) := by decide +kernel
theorem d_X_text_113 : decode y_X_text.2.1 113 = .ok (.goto 7, 3) := by decide +kernel
theorem d_X_text_120 : decode y_X_text.2.1 120 = .ok (.putfield 34, 3) := by decide +kernel
theorem d_X_text_123 : decode y_X_text.2.1 123 = .ok (.iload_n 2, 1) := by decide +kernel
theorem d_X_text_124 : decode y_X_text.2.1 124 = .ok (.ifCond .ne 5, 3) := by decide +kernel
theorem d_X_text_129 : decode y_X_text.2.1 129 = .ok (.aload_n 0, 1) := by decide +kernel
theorem d_X_text_130 : decode y_X_text.2.1 130 = .ok (.getfield 7, 3) := by decide +kernel
theorem d_X_text_133 : decode y_X_text.2.1 133 = .ok (.sipush 1580, 3) := by decide +kernel
theorem cs_1580 : (Int16.ofInt 1580).toInt32 = nI 1580 := by decide +kernel
theorem d_X_text_136 : decode y_X_text.2.1 136 = .ok (.iload_n 1, 1) := by decide +kernel
theorem d_X_text_137 : decode y_X_text.2.1 137 = .ok (.iadd, 1) := by decide +kernel
theorem d_X_text_138 : decode y_X_text.2.1 138 = .ok (.aload_n 0, 1) := by decide +kernel
theorem d_X_text_139 : decode y_X_text.2.1 139 = .ok (.getfield 244, 3) := by decide +kernel
theorem d_X_text_142 : decode y_X_text.2.1 142 = .ok (.iastore, 1) := by decide +kernel
theorem d_X_text_143 : decode y_X_text.2.1 143 = .ok (.iconst 0, 1) := by decide +kernel
theorem d_X_text_144 : decode y_X_text.2.1 144 = .ok (.istore_n 3, 1) := by decide +kernel
theorem d_X_text_145 : decode y_X_text.2.1 145 = .ok (.iload_n 3, 1) := by decide +kernel
theorem d_X_text_146 : decode y_X_text.2.1 146 = .ok (.aload_n 0, 1) := by decide +kernel
theorem d_X_text_147 : decode y_X_text.2.1 147 = .ok (.getfield 244, 3) := by decide +kernel
theorem d_X_text_150 : decode y_X_text.2.1 150 = .ok (.if_icmp .ge 107, 3) := by decide +kernel
theorem d_X_text_257 : decode y_X_text.2.1 257 = .ok (.iconst 0, 1) := by decide +kernel
theorem d_X_text_258 : decode y_X_text.2.1 258 = .ok (.istore_n 3, 1) := by decide +kernel
theorem d_X_text_259 : decode y_X_text.2.1 259 = .ok (.iload_n 3, 1) := by decide +kernel
theorem d_X_text_260 : decode y_X_text.2.1 260 = .ok (.iconst 2, 1) := by decide +kernel
theorem d_X_text_261 : decode y_X_text.2.1 261 = .ok (.aload_n 0, 1) := by decide +kernel
theorem d_X_text_262 : decode y_X_text.2.1 262 = .ok (.getfield 205, 3) := by decide +kernel
theorem d_X_text_265 : decode y_X_text.2.1 265 = .ok (.imul, 1) := by decide +kernel
theorem d_X_text_266 : decode y_X_text.2.1 266 = .ok (.if_icmp .ge 31, 3) := by decide +kernel
theorem d_X_text_297 : decode y_X_text.2.1 297 = .ok (.aload_n 0, 1) := by decide +kernel
theorem d_X_text_298 : decode y_X_text.2.1 298 = .ok (.getfield 244, 3) := by decide +kernel
theorem d_X_text_301 : decode y_X_text.2.1 301 = .ok (.ireturn, 1) := by decide +kernel
abbrev y_X_fault : MI := (⟨"SinglesUpModel", "fault", "(I)I"⟩, prog_11_method_34_code, 2, some .int)
theorem d_X_fault_0 : decode y_X_fault.2.1 0 = .ok (.iload_n 1, 1) := by decide +kernel
theorem d_X_fault_1 : decode y_X_fault.2.1 1 = .ok (.ifCond .ne 10, 3) := by decide +kernel
theorem d_X_fault_11 : decode y_X_fault.2.1 11 = .ok (.iload_n 1, 1) := by decide +kernel
theorem d_X_fault_12 : decode y_X_fault.2.1 12 = .ok (.iconst 1, 1) := by decide +kernel
theorem d_X_fault_13 : decode y_X_fault.2.1 13 = .ok (.if_icmp .ne 10, 3) := by decide +kernel
theorem d_X_fault_23 : decode y_X_fault.2.1 23 = .ok (.iconst (-1), 1) := by decide +kernel
theorem d_X_fault_24 : decode y_X_fault.2.1 24 = .ok (.ireturn, 1) := by decide +kernel
theorem d_X_fault_16 : decode y_X_fault.2.1 16 = .ok (.aload_n 0, 1) := by decide +kernel
theorem d_X_fault_17 : decode y_X_fault.2.1 17 = .ok (.getfield 34, 3) := by decide +kernel
theorem d_X_fault_20 : decode y_X_fault.2.1 20 = .ok (.goto 4, 3) := by decide +kernel
theorem d_X_fault_4 : decode y_X_fault.2.1 4 = .ok (.aload_n 0, 1) := by decide +kernel
theorem d_X_fault_5 : decode y_X_fault.2.1 5 = .ok (.getfield 247, 3) := by decide +kernel
theorem d_X_fault_8 : decode y_X_fault.2.1 8 = .ok (.goto 16, 3) := by decide +kernel
abbrev y_X_come : MI := (⟨"SinglesUpModel", "come", "(III)I"⟩, prog_11_method_44_code, 4, some .int)
theorem d_X_come_0 : decode y_X_come.2.1 0 = .ok (.iload_n 1, 1) := by decide +kernel
theorem d_X_come_1 : decode y_X_come.2.1 1 = .ok (.iload_n 2, 1) := by decide +kernel
theorem d_X_come_2 : decode y_X_come.2.1 2 = .ok (.iload_n 3, 1) := by decide +kernel
theorem d_X_come_3 : decode y_X_come.2.1 3 = .ok (.invokestatic 109, 3) := by decide +kernel
theorem d_X_come_6 : decode y_X_come.2.1 6 = .ok (.ifCond .eq 13, 3) := by decide +kernel
theorem d_X_come_19 : decode y_X_come.2.1 19 = .ok (.bipush (-2), 2) := by decide +kernel
theorem d_X_come_21 : decode y_X_come.2.1 21 = .ok (.ireturn, 1) := by decide +kernel
theorem d_X_come_9 : decode y_X_come.2.1 9 = .ok (.aload_n 0, 1) := by decide +kernel
theorem d_X_come_10 : decode y_X_come.2.1 10 = .ok (.iload_n 1, 1) := by decide +kernel
theorem d_X_come_11 : decode y_X_come.2.1 11 = .ok (.iload_n 2, 1) := by decide +kernel
theorem d_X_come_12 : decode y_X_come.2.1 12 = .ok (.iload_n 3, 1) := by decide +kernel
theorem d_X_come_13 : decode y_X_come.2.1 13 = .ok (.invokevirtual 281, 3) := by decide +kernel
abbrev y_X_comes : MI := (⟨"SinglesUpModel", "comes", "(III)I"⟩, prog_11_method_43_code, 5, some .int)
theorem lk_X_281 : LkV "SinglesUpModel" 281 y_X_comes := ⟨tw_in 1454 (by decide +kernel) rfl, tw_in 58 (by decide +kernel) rfl, Or.inl (tw_in 1452 (by decide +kernel) rfl)⟩
theorem mo_X_comes : MOk y_X_comes 3 := ⟨by decide +kernel, tw_in 1455 (by decide +kernel) rfl, tw_in 108 (by decide +kernel) rfl, by decide +kernel, by decide +kernel, by decide +kernel⟩
theorem d_X_comes_0 : decode y_X_comes.2.1 0 = .ok (.aload_n 0, 1) := by decide +kernel
theorem d_X_comes_1 : decode y_X_comes.2.1 1 = .ok (.iload_n 2, 1) := by decide +kernel
theorem d_X_comes_2 : decode y_X_comes.2.1 2 = .ok (.iload_n 3, 1) := by decide +kernel
theorem d_X_comes_3 : decode y_X_comes.2.1 3 = .ok (.invokevirtual 274, 3) := by decide +kernel
abbrev y_X_lineFor : MI := (⟨"SinglesUpModel", "lineFor", "(II)I"⟩, prog_11_method_41_code, 5, some .int)
theorem lk_X_274 : LkV "SinglesUpModel" 274 y_X_lineFor := ⟨tw_in 1458 (by decide +kernel) rfl, tw_in 59 (by decide +kernel) rfl, Or.inl (tw_in 1456 (by decide +kernel) rfl)⟩
theorem mo_X_lineFor : MOk y_X_lineFor 2 := ⟨by decide +kernel, tw_in 1459 (by decide +kernel) rfl, tw_in 108 (by decide +kernel) rfl, by decide +kernel, by decide +kernel, by decide +kernel⟩
theorem d_X_lineFor_0 : decode y_X_lineFor.2.1 0 = .ok (.aload_n 0, 1) := by decide +kernel
theorem d_X_lineFor_1 : decode y_X_lineFor.2.1 1 = .ok (.getfield 38, 3) := by decide +kernel
theorem fl_X_38 : FL "SinglesUpModel" 38 9 22 := ⟨"SinglesUpModel", zT9, 51, rfl, by decide, rfl, Or.inl (tw_in 1171 (by decide +kernel) rfl)⟩
theorem d_X_lineFor_4 : decode y_X_lineFor.2.1 4 = .ok (.iconst (-1), 1) := by decide +kernel
theorem d_X_lineFor_5 : decode y_X_lineFor.2.1 5 = .ok (.if_icmp .eq 28, 3) := by decide +kernel
theorem d_X_lineFor_33 : decode y_X_lineFor.2.1 33 = .ok (.iconst 0, 1) := by decide +kernel
theorem d_X_lineFor_34 : decode y_X_lineFor.2.1 34 = .ok (.istore_n 3, 1) := by decide +kernel
theorem d_X_lineFor_35 : decode y_X_lineFor.2.1 35 = .ok (.iconst 1, 1) := by decide +kernel
theorem d_X_lineFor_36 : decode y_X_lineFor.2.1 36 = .ok (.istore 4, 2) := by decide +kernel
theorem d_X_lineFor_38 : decode y_X_lineFor.2.1 38 = .ok (.iload 4, 2) := by decide +kernel
theorem d_X_lineFor_40 : decode y_X_lineFor.2.1 40 = .ok (.bipush 6, 2) := by decide +kernel
theorem d_X_lineFor_42 : decode y_X_lineFor.2.1 42 = .ok (.if_icmp .ge 40, 3) := by decide +kernel
theorem d_X_lineFor_45 : decode y_X_lineFor.2.1 45 = .ok (.aload_n 0, 1) := by decide +kernel
theorem d_X_lineFor_46 : decode y_X_lineFor.2.1 46 = .ok (.getfield 7, 3) := by decide +kernel
theorem d_X_lineFor_49 : decode y_X_lineFor.2.1 49 = .ok (.sipush 130, 3) := by decide +kernel
theorem d_X_lineFor_52 : decode y_X_lineFor.2.1 52 = .ok (.iload 4, 2) := by decide +kernel
theorem d_X_lineFor_54 : decode y_X_lineFor.2.1 54 = .ok (.iadd, 1) := by decide +kernel
theorem d_X_lineFor_55 : decode y_X_lineFor.2.1 55 = .ok (.iaload, 1) := by decide +kernel
theorem d_X_lineFor_56 : decode y_X_lineFor.2.1 56 = .ok (.aload_n 0, 1) := by decide +kernel
theorem d_X_lineFor_57 : decode y_X_lineFor.2.1 57 = .ok (.getfield 7, 3) := by decide +kernel
theorem d_X_lineFor_60 : decode y_X_lineFor.2.1 60 = .ok (.sipush 130, 3) := by decide +kernel
theorem d_X_lineFor_63 : decode y_X_lineFor.2.1 63 = .ok (.iload_n 3, 1) := by decide +kernel
theorem d_X_lineFor_64 : decode y_X_lineFor.2.1 64 = .ok (.iadd, 1) := by decide +kernel
theorem d_X_lineFor_65 : decode y_X_lineFor.2.1 65 = .ok (.iaload, 1) := by decide +kernel
theorem d_X_lineFor_66 : decode y_X_lineFor.2.1 66 = .ok (.if_icmp .ge 8, 3) := by decide +kernel
theorem d_X_lineFor_74 : decode y_X_lineFor.2.1 74 = .ok (.iload_n 3, 1) := by decide +kernel
theorem d_X_lineFor_75 : decode y_X_lineFor.2.1 75 = .ok (.istore_n 3, 1) := by decide +kernel
theorem d_X_lineFor_76 : decode y_X_lineFor.2.1 76 = .ok (.iinc 4 1, 3) := by decide +kernel
theorem d_X_lineFor_79 : decode y_X_lineFor.2.1 79 = .ok (.goto (-41), 3) := by decide +kernel
theorem d_X_lineFor_82 : decode y_X_lineFor.2.1 82 = .ok (.aload_n 0, 1) := by decide +kernel
theorem d_X_lineFor_83 : decode y_X_lineFor.2.1 83 = .ok (.getfield 31, 3) := by decide +kernel
theorem fl_X_31 : FL "SinglesUpModel" 31 9 8 := ⟨"SinglesUpModel", zT9, 51, rfl, by decide, rfl, Or.inl (tw_in 1157 (by decide +kernel) rfl)⟩
theorem rm_0_8 : RM 0 8 = some 8 := by decide +kernel
theorem d_X_lineFor_86 : decode y_X_lineFor.2.1 86 = .ok (.iconst 1, 1) := by decide +kernel
theorem d_X_lineFor_87 : decode y_X_lineFor.2.1 87 = .ok (.iload_n 1, 1) := by decide +kernel
theorem d_X_lineFor_88 : decode y_X_lineFor.2.1 88 = .ok (.iastore, 1) := by decide +kernel
theorem km_8 : KM[8]? = some (0, 12) := by decide +kernel
theorem d_X_lineFor_89 : decode y_X_lineFor.2.1 89 = .ok (.aload_n 0, 1) := by decide +kernel
theorem d_X_lineFor_90 : decode y_X_lineFor.2.1 90 = .ok (.getfield 31, 3) := by decide +kernel
theorem d_X_lineFor_93 : decode y_X_lineFor.2.1 93 = .ok (.bipush 7, 2) := by decide +kernel
theorem d_X_lineFor_95 : decode y_X_lineFor.2.1 95 = .ok (.iload_n 2, 1) := by decide +kernel
theorem d_X_lineFor_96 : decode y_X_lineFor.2.1 96 = .ok (.iastore, 1) := by decide +kernel
theorem d_X_lineFor_97 : decode y_X_lineFor.2.1 97 = .ok (.aload_n 0, 1) := by decide +kernel
theorem d_X_lineFor_98 : decode y_X_lineFor.2.1 98 = .ok (.getfield 31, 3) := by decide +kernel
theorem d_X_lineFor_101 : decode y_X_lineFor.2.1 101 = .ok (.bipush 10, 2) := by decide +kernel
theorem d_X_lineFor_103 : decode y_X_lineFor.2.1 103 = .ok (.iload_n 3, 1) := by decide +kernel
theorem d_X_lineFor_104 : decode y_X_lineFor.2.1 104 = .ok (.iastore, 1) := by decide +kernel
theorem d_X_lineFor_105 : decode y_X_lineFor.2.1 105 = .ok (.aload_n 0, 1) := by decide +kernel
theorem d_X_lineFor_106 : decode y_X_lineFor.2.1 106 = .ok (.getfield 31, 3) := by decide +kernel
theorem d_X_lineFor_109 : decode y_X_lineFor.2.1 109 = .ok (.bipush 11, 2) := by decide +kernel
theorem cb_11 : (Int8.ofInt 11).toInt32 = nI 11 := by decide +kernel
theorem d_X_lineFor_111 : decode y_X_lineFor.2.1 111 = .ok (.aload_n 0, 1) := by decide +kernel
theorem d_X_lineFor_112 : decode y_X_lineFor.2.1 112 = .ok (.getfield 7, 3) := by decide +kernel
theorem d_X_lineFor_115 : decode y_X_lineFor.2.1 115 = .ok (.sipush 130, 3) := by decide +kernel
theorem d_X_lineFor_118 : decode y_X_lineFor.2.1 118 = .ok (.iaload, 1) := by decide +kernel
theorem d_X_lineFor_119 : decode y_X_lineFor.2.1 119 = .ok (.iastore, 1) := by decide +kernel
theorem d_X_lineFor_120 : decode y_X_lineFor.2.1 120 = .ok (.aload_n 0, 1) := by decide +kernel
theorem d_X_lineFor_121 : decode y_X_lineFor.2.1 121 = .ok (.iconst 4, 1) := by decide +kernel
theorem d_X_lineFor_122 : decode y_X_lineFor.2.1 122 = .ok (.invokevirtual 267, 3) := by decide +kernel
abbrev y_X_firstLine : MI := (⟨"SinglesUpModel", "firstLine", "(I)I"⟩, prog_11_method_37_code, 4, some .int)
theorem lk_X_267 : LkV "SinglesUpModel" 267 y_X_firstLine := ⟨tw_in 1462 (by decide +kernel) rfl, tw_in 60 (by decide +kernel) rfl, Or.inl (tw_in 1460 (by decide +kernel) rfl)⟩
theorem mo_X_firstLine : MOk y_X_firstLine 1 := ⟨by decide +kernel, tw_in 1463 (by decide +kernel) rfl, tw_in 108 (by decide +kernel) rfl, by decide +kernel, by decide +kernel, by decide +kernel⟩
theorem d_X_firstLine_0 : decode y_X_firstLine.2.1 0 = .ok (.iconst 0, 1) := by decide +kernel
theorem d_X_firstLine_1 : decode y_X_firstLine.2.1 1 = .ok (.istore_n 2, 1) := by decide +kernel
theorem d_X_firstLine_2 : decode y_X_firstLine.2.1 2 = .ok (.iload_n 2, 1) := by decide +kernel
theorem d_X_firstLine_3 : decode y_X_firstLine.2.1 3 = .ok (.aload_n 0, 1) := by decide +kernel
theorem d_X_firstLine_4 : decode y_X_firstLine.2.1 4 = .ok (.getfield 7, 3) := by decide +kernel
theorem d_X_firstLine_7 : decode y_X_firstLine.2.1 7 = .ok (.sipush 1580, 3) := by decide +kernel
theorem d_X_firstLine_10 : decode y_X_firstLine.2.1 10 = .ok (.iload_n 1, 1) := by decide +kernel
theorem d_X_firstLine_11 : decode y_X_firstLine.2.1 11 = .ok (.iadd, 1) := by decide +kernel
theorem d_X_firstLine_12 : decode y_X_firstLine.2.1 12 = .ok (.iaload, 1) := by decide +kernel
theorem d_X_firstLine_13 : decode y_X_firstLine.2.1 13 = .ok (.if_icmp .ge 70, 3) := by decide +kernel
theorem d_X_firstLine_83 : decode y_X_firstLine.2.1 83 = .ok (.iconst (-1), 1) := by decide +kernel
theorem d_X_firstLine_84 : decode y_X_firstLine.2.1 84 = .ok (.ireturn, 1) := by decide +kernel
theorem d_X_lineFor_125 : decode y_X_lineFor.2.1 125 = .ok (.istore 4, 2) := by decide +kernel
theorem d_X_lineFor_127 : decode y_X_lineFor.2.1 127 = .ok (.iload 4, 2) := by decide +kernel
theorem d_X_lineFor_129 : decode y_X_lineFor.2.1 129 = .ok (.iconst (-1), 1) := by decide +kernel
theorem d_X_lineFor_130 : decode y_X_lineFor.2.1 130 = .ok (.if_icmp .ne 7, 3) := by decide +kernel
theorem d_X_lineFor_133 : decode y_X_lineFor.2.1 133 = .ok (.iconst 0, 1) := by decide +kernel
theorem d_X_lineFor_134 : decode y_X_lineFor.2.1 134 = .ok (.goto 14, 3) := by decide +kernel
theorem d_X_lineFor_148 : decode y_X_lineFor.2.1 148 = .ok (.ireturn, 1) := by decide +kernel
theorem d_X_comes_6 : decode y_X_comes.2.1 6 = .ok (.istore 4, 2) := by decide +kernel
theorem d_X_comes_8 : decode y_X_comes.2.1 8 = .ok (.aload_n 0, 1) := by decide +kernel
theorem d_X_comes_9 : decode y_X_comes.2.1 9 = .ok (.getfield 7, 3) := by decide +kernel
theorem d_X_comes_12 : decode y_X_comes.2.1 12 = .ok (.bipush 7, 2) := by decide +kernel
theorem d_X_comes_14 : decode y_X_comes.2.1 14 = .ok (.dup2, 1) := by decide +kernel
theorem d_X_comes_15 : decode y_X_comes.2.1 15 = .ok (.iaload, 1) := by decide +kernel
theorem d_X_comes_16 : decode y_X_comes.2.1 16 = .ok (.iconst 1, 1) := by decide +kernel
theorem d_X_comes_17 : decode y_X_comes.2.1 17 = .ok (.iadd, 1) := by decide +kernel
theorem d_X_comes_18 : decode y_X_comes.2.1 18 = .ok (.iastore, 1) := by decide +kernel
theorem d_X_comes_19 : decode y_X_comes.2.1 19 = .ok (.aload_n 0, 1) := by decide +kernel
theorem d_X_comes_20 : decode y_X_comes.2.1 20 = .ok (.iload 4, 2) := by decide +kernel
theorem d_X_comes_22 : decode y_X_comes.2.1 22 = .ok (.aload_n 0, 1) := by decide +kernel
theorem d_X_comes_23 : decode y_X_comes.2.1 23 = .ok (.getfield 7, 3) := by decide +kernel
theorem d_X_comes_26 : decode y_X_comes.2.1 26 = .ok (.bipush 7, 2) := by decide +kernel
theorem d_X_comes_28 : decode y_X_comes.2.1 28 = .ok (.iaload, 1) := by decide +kernel
theorem d_X_comes_29 : decode y_X_comes.2.1 29 = .ok (.iconst 1, 1) := by decide +kernel
theorem d_X_comes_30 : decode y_X_comes.2.1 30 = .ok (.isub, 1) := by decide +kernel
theorem d_X_comes_31 : decode y_X_comes.2.1 31 = .ok (.iload_n 1, 1) := by decide +kernel
theorem d_X_comes_32 : decode y_X_comes.2.1 32 = .ok (.iload_n 2, 1) := by decide +kernel
theorem d_X_comes_33 : decode y_X_comes.2.1 33 = .ok (.iload_n 3, 1) := by decide +kernel
theorem d_X_comes_34 : decode y_X_comes.2.1 34 = .ok (.iconst 0, 1) := by decide +kernel
theorem d_X_comes_35 : decode y_X_comes.2.1 35 = .ok (.iconst 0, 1) := by decide +kernel
theorem d_X_comes_36 : decode y_X_comes.2.1 36 = .ok (.invokevirtual 277, 3) := by decide +kernel
abbrev y_X_stands : MI := (⟨"SinglesUpModel", "stands", "(IIIIIII)Z"⟩, prog_11_method_42_code, 9, some .boolean)
theorem lk_X_277 : LkV "SinglesUpModel" 277 y_X_stands := ⟨tw_in 1473 (by decide +kernel) rfl, tw_in 62 (by decide +kernel) rfl, Or.inl (tw_in 1471 (by decide +kernel) rfl)⟩
theorem mo_X_stands : MOk y_X_stands 7 := ⟨by decide +kernel, tw_in 1474 (by decide +kernel) rfl, tw_in 108 (by decide +kernel) rfl, by decide +kernel, by decide +kernel, by decide +kernel⟩
theorem d_X_stands_0 : decode y_X_stands.2.1 0 = .ok (.aload_n 0, 1) := by decide +kernel
theorem d_X_stands_1 : decode y_X_stands.2.1 1 = .ok (.getfield 7, 3) := by decide +kernel
theorem d_X_stands_4 : decode y_X_stands.2.1 4 = .ok (.sipush 130, 3) := by decide +kernel
theorem d_X_stands_7 : decode y_X_stands.2.1 7 = .ok (.iload_n 1, 1) := by decide +kernel
theorem d_X_stands_8 : decode y_X_stands.2.1 8 = .ok (.iadd, 1) := by decide +kernel
theorem d_X_stands_9 : decode y_X_stands.2.1 9 = .ok (.iaload, 1) := by decide +kernel
theorem d_X_stands_10 : decode y_X_stands.2.1 10 = .ok (.bipush 40, 2) := by decide +kernel
theorem d_X_stands_12 : decode y_X_stands.2.1 12 = .ok (.if_icmp .ne 40, 3) := by decide +kernel
theorem d_X_stands_52 : decode y_X_stands.2.1 52 = .ok (.iload_n 1, 1) := by decide +kernel
theorem d_X_stands_53 : decode y_X_stands.2.1 53 = .ok (.aload_n 0, 1) := by decide +kernel
theorem d_X_stands_54 : decode y_X_stands.2.1 54 = .ok (.getfield 7, 3) := by decide +kernel
theorem d_X_stands_57 : decode y_X_stands.2.1 57 = .ok (.sipush 130, 3) := by decide +kernel
theorem d_X_stands_60 : decode y_X_stands.2.1 60 = .ok (.iload_n 1, 1) := by decide +kernel
theorem d_X_stands_61 : decode y_X_stands.2.1 61 = .ok (.iadd, 1) := by decide +kernel
theorem d_X_stands_62 : decode y_X_stands.2.1 62 = .ok (.iaload, 1) := by decide +kernel
theorem d_X_stands_63 : decode y_X_stands.2.1 63 = .ok (.invokestatic 260, 3) := by decide +kernel
abbrev y_X_cell : MI := (⟨"SinglesUpModel", "cell", "(II)I"⟩, prog_11_method_38_code, 2, some .int)
theorem lk_X_260 : LkS "SinglesUpModel" 260 y_X_cell := ⟨tw_in 1476 (by decide +kernel) rfl, Or.inl (tw_in 1475 (by decide +kernel) rfl)⟩
theorem mo_X_cell : MOk y_X_cell 2 := ⟨by decide +kernel, tw_in 1477 (by decide +kernel) rfl, tw_in 108 (by decide +kernel) rfl, by decide +kernel, by decide +kernel, by decide +kernel⟩
theorem d_X_cell_0 : decode y_X_cell.2.1 0 = .ok (.sipush 140, 3) := by decide +kernel
theorem cs_140 : (Int16.ofInt 140).toInt32 = nI 140 := by decide +kernel
theorem d_X_cell_3 : decode y_X_cell.2.1 3 = .ok (.bipush 6, 2) := by decide +kernel
theorem d_X_cell_5 : decode y_X_cell.2.1 5 = .ok (.bipush 40, 2) := by decide +kernel
theorem d_X_cell_7 : decode y_X_cell.2.1 7 = .ok (.iload_n 0, 1) := by decide +kernel
theorem d_X_cell_8 : decode y_X_cell.2.1 8 = .ok (.imul, 1) := by decide +kernel
theorem d_X_cell_9 : decode y_X_cell.2.1 9 = .ok (.iload_n 1, 1) := by decide +kernel
theorem d_X_cell_10 : decode y_X_cell.2.1 10 = .ok (.iadd, 1) := by decide +kernel
theorem d_X_cell_11 : decode y_X_cell.2.1 11 = .ok (.imul, 1) := by decide +kernel
theorem d_X_cell_12 : decode y_X_cell.2.1 12 = .ok (.iadd, 1) := by decide +kernel
theorem d_X_cell_13 : decode y_X_cell.2.1 13 = .ok (.ireturn, 1) := by decide +kernel
theorem d_X_stands_66 : decode y_X_stands.2.1 66 = .ok (.istore 8, 2) := by decide +kernel
theorem d_X_stands_68 : decode y_X_stands.2.1 68 = .ok (.aload_n 0, 1) := by decide +kernel
theorem d_X_stands_69 : decode y_X_stands.2.1 69 = .ok (.getfield 7, 3) := by decide +kernel
theorem d_X_stands_72 : decode y_X_stands.2.1 72 = .ok (.iload 8, 2) := by decide +kernel
theorem d_X_stands_74 : decode y_X_stands.2.1 74 = .ok (.iconst 0, 1) := by decide +kernel
theorem d_X_stands_75 : decode y_X_stands.2.1 75 = .ok (.iadd, 1) := by decide +kernel
theorem d_X_stands_76 : decode y_X_stands.2.1 76 = .ok (.iload_n 2, 1) := by decide +kernel
theorem d_X_stands_77 : decode y_X_stands.2.1 77 = .ok (.iastore, 1) := by decide +kernel
theorem d_X_stands_78 : decode y_X_stands.2.1 78 = .ok (.aload_n 0, 1) := by decide +kernel
theorem d_X_stands_79 : decode y_X_stands.2.1 79 = .ok (.getfield 7, 3) := by decide +kernel
theorem d_X_stands_82 : decode y_X_stands.2.1 82 = .ok (.iload 8, 2) := by decide +kernel
theorem d_X_stands_84 : decode y_X_stands.2.1 84 = .ok (.iconst 1, 1) := by decide +kernel
theorem d_X_stands_85 : decode y_X_stands.2.1 85 = .ok (.iadd, 1) := by decide +kernel
theorem d_X_stands_86 : decode y_X_stands.2.1 86 = .ok (.iload_n 3, 1) := by decide +kernel
theorem d_X_stands_87 : decode y_X_stands.2.1 87 = .ok (.iastore, 1) := by decide +kernel
theorem d_X_stands_88 : decode y_X_stands.2.1 88 = .ok (.aload_n 0, 1) := by decide +kernel
theorem d_X_stands_89 : decode y_X_stands.2.1 89 = .ok (.getfield 7, 3) := by decide +kernel
theorem d_X_stands_92 : decode y_X_stands.2.1 92 = .ok (.iload 8, 2) := by decide +kernel
theorem d_X_stands_94 : decode y_X_stands.2.1 94 = .ok (.iconst 2, 1) := by decide +kernel
theorem d_X_stands_95 : decode y_X_stands.2.1 95 = .ok (.iadd, 1) := by decide +kernel
theorem d_X_stands_96 : decode y_X_stands.2.1 96 = .ok (.iload 4, 2) := by decide +kernel
theorem d_X_stands_98 : decode y_X_stands.2.1 98 = .ok (.iastore, 1) := by decide +kernel
theorem d_X_stands_99 : decode y_X_stands.2.1 99 = .ok (.aload_n 0, 1) := by decide +kernel
theorem d_X_stands_100 : decode y_X_stands.2.1 100 = .ok (.getfield 7, 3) := by decide +kernel
theorem d_X_stands_103 : decode y_X_stands.2.1 103 = .ok (.iload 8, 2) := by decide +kernel
theorem d_X_stands_105 : decode y_X_stands.2.1 105 = .ok (.iconst 3, 1) := by decide +kernel
theorem d_X_stands_106 : decode y_X_stands.2.1 106 = .ok (.iadd, 1) := by decide +kernel
theorem d_X_stands_107 : decode y_X_stands.2.1 107 = .ok (.iload 5, 2) := by decide +kernel
theorem d_X_stands_109 : decode y_X_stands.2.1 109 = .ok (.iastore, 1) := by decide +kernel
theorem d_X_stands_110 : decode y_X_stands.2.1 110 = .ok (.aload_n 0, 1) := by decide +kernel
theorem d_X_stands_111 : decode y_X_stands.2.1 111 = .ok (.getfield 7, 3) := by decide +kernel
theorem d_X_stands_114 : decode y_X_stands.2.1 114 = .ok (.iload 8, 2) := by decide +kernel
theorem d_X_stands_116 : decode y_X_stands.2.1 116 = .ok (.iconst 4, 1) := by decide +kernel
theorem d_X_stands_117 : decode y_X_stands.2.1 117 = .ok (.iadd, 1) := by decide +kernel
theorem d_X_stands_118 : decode y_X_stands.2.1 118 = .ok (.iload 6, 2) := by decide +kernel
theorem d_X_stands_120 : decode y_X_stands.2.1 120 = .ok (.iastore, 1) := by decide +kernel
theorem d_X_stands_121 : decode y_X_stands.2.1 121 = .ok (.aload_n 0, 1) := by decide +kernel
theorem d_X_stands_122 : decode y_X_stands.2.1 122 = .ok (.getfield 7, 3) := by decide +kernel
theorem d_X_stands_125 : decode y_X_stands.2.1 125 = .ok (.iload 8, 2) := by decide +kernel
theorem d_X_stands_127 : decode y_X_stands.2.1 127 = .ok (.iconst 5, 1) := by decide +kernel
theorem d_X_stands_128 : decode y_X_stands.2.1 128 = .ok (.iadd, 1) := by decide +kernel
theorem d_X_stands_129 : decode y_X_stands.2.1 129 = .ok (.iload 7, 2) := by decide +kernel
theorem d_X_stands_131 : decode y_X_stands.2.1 131 = .ok (.iastore, 1) := by decide +kernel
theorem d_X_stands_132 : decode y_X_stands.2.1 132 = .ok (.aload_n 0, 1) := by decide +kernel
theorem d_X_stands_133 : decode y_X_stands.2.1 133 = .ok (.getfield 7, 3) := by decide +kernel
theorem d_X_stands_136 : decode y_X_stands.2.1 136 = .ok (.sipush 130, 3) := by decide +kernel
theorem d_X_stands_139 : decode y_X_stands.2.1 139 = .ok (.iload_n 1, 1) := by decide +kernel
theorem d_X_stands_140 : decode y_X_stands.2.1 140 = .ok (.iadd, 1) := by decide +kernel
theorem d_X_stands_141 : decode y_X_stands.2.1 141 = .ok (.dup2, 1) := by decide +kernel
theorem d_X_stands_142 : decode y_X_stands.2.1 142 = .ok (.iaload, 1) := by decide +kernel
theorem d_X_stands_143 : decode y_X_stands.2.1 143 = .ok (.iconst 1, 1) := by decide +kernel
theorem d_X_stands_144 : decode y_X_stands.2.1 144 = .ok (.iadd, 1) := by decide +kernel
theorem d_X_stands_145 : decode y_X_stands.2.1 145 = .ok (.iastore, 1) := by decide +kernel
theorem d_X_stands_146 : decode y_X_stands.2.1 146 = .ok (.iconst 1, 1) := by decide +kernel
theorem d_X_stands_147 : decode y_X_stands.2.1 147 = .ok (.ireturn, 1) := by decide +kernel
theorem d_X_comes_39 : decode y_X_comes.2.1 39 = .ok (.ifCond .eq 8, 3) := by decide +kernel
theorem d_X_comes_42 : decode y_X_comes.2.1 42 = .ok (.iload 4, 2) := by decide +kernel
theorem d_X_comes_44 : decode y_X_comes.2.1 44 = .ok (.goto 4, 3) := by decide +kernel
theorem d_X_comes_48 : decode y_X_comes.2.1 48 = .ok (.ireturn, 1) := by decide +kernel
theorem d_X_come_16 : decode y_X_come.2.1 16 = .ok (.goto 5, 3) := by decide +kernel
abbrev y_X_group : MI := (⟨"SinglesUpModel", "group", "(III)I"⟩, prog_11_method_45_code, 4, some .int)
theorem d_X_group_0 : decode y_X_group.2.1 0 = .ok (.iload_n 1, 1) := by decide +kernel
theorem d_X_group_1 : decode y_X_group.2.1 1 = .ok (.invokestatic 105, 3) := by decide +kernel
theorem d_X_group_4 : decode y_X_group.2.1 4 = .ok (.ifCond .eq 23, 3) := by decide +kernel
theorem d_X_group_27 : decode y_X_group.2.1 27 = .ok (.ldc_w 284, 3) := by decide +kernel
theorem lc_X_284 : Cond.constant "SinglesUpModel" 284 (-1000000) ∈ TW := tw_in 1482 (by decide +kernel) rfl
theorem d_X_group_30 : decode y_X_group.2.1 30 = .ok (.ireturn, 1) := by decide +kernel
theorem d_X_group_7 : decode y_X_group.2.1 7 = .ok (.iload_n 2, 1) := by decide +kernel
theorem d_X_group_8 : decode y_X_group.2.1 8 = .ok (.iconst 0, 1) := by decide +kernel
theorem d_X_group_9 : decode y_X_group.2.1 9 = .ok (.bipush 39, 2) := by decide +kernel
theorem cb_39 : (Int8.ofInt 39).toInt32 = nI 39 := by decide +kernel
theorem d_X_group_11 : decode y_X_group.2.1 11 = .ok (.invokestatic 98, 3) := by decide +kernel
theorem d_X_group_14 : decode y_X_group.2.1 14 = .ok (.ifCond .eq 13, 3) := by decide +kernel
theorem d_X_group_17 : decode y_X_group.2.1 17 = .ok (.iload_n 3, 1) := by decide +kernel
theorem d_X_group_18 : decode y_X_group.2.1 18 = .ok (.iconst 0, 1) := by decide +kernel
theorem d_X_group_19 : decode y_X_group.2.1 19 = .ok (.bipush 6, 2) := by decide +kernel
theorem d_X_group_21 : decode y_X_group.2.1 21 = .ok (.invokestatic 98, 3) := by decide +kernel
theorem d_X_group_24 : decode y_X_group.2.1 24 = .ok (.ifCond .ne 7, 3) := by decide +kernel
theorem d_X_group_31 : decode y_X_group.2.1 31 = .ok (.iload_n 2, 1) := by decide +kernel
theorem d_X_group_32 : decode y_X_group.2.1 32 = .ok (.aload_n 0, 1) := by decide +kernel
theorem d_X_group_33 : decode y_X_group.2.1 33 = .ok (.getfield 7, 3) := by decide +kernel
theorem d_X_group_36 : decode y_X_group.2.1 36 = .ok (.sipush 130, 3) := by decide +kernel
theorem d_X_group_39 : decode y_X_group.2.1 39 = .ok (.iload_n 1, 1) := by decide +kernel
theorem d_X_group_40 : decode y_X_group.2.1 40 = .ok (.iadd, 1) := by decide +kernel
theorem d_X_group_41 : decode y_X_group.2.1 41 = .ok (.iaload, 1) := by decide +kernel
theorem d_X_group_42 : decode y_X_group.2.1 42 = .ok (.if_icmp .lt 5, 3) := by decide +kernel
theorem d_X_group_45 : decode y_X_group.2.1 45 = .ok (.iconst (-1), 1) := by decide +kernel
theorem d_X_group_46 : decode y_X_group.2.1 46 = .ok (.ireturn, 1) := by decide +kernel
abbrev y_X_line : MI := (⟨"SinglesUpModel", "line", "(II)I"⟩, prog_11_method_46_code, 5, some .int)
theorem d_X_line_0 : decode y_X_line.2.1 0 = .ok (.iload_n 1, 1) := by decide +kernel
theorem d_X_line_1 : decode y_X_line.2.1 1 = .ok (.invokestatic 105, 3) := by decide +kernel
theorem d_X_line_4 : decode y_X_line.2.1 4 = .ok (.ifCond .eq 12, 3) := by decide +kernel
theorem d_X_line_16 : decode y_X_line.2.1 16 = .ok (.iconst (-1), 1) := by decide +kernel
theorem d_X_line_17 : decode y_X_line.2.1 17 = .ok (.ireturn, 1) := by decide +kernel
theorem d_X_line_7 : decode y_X_line.2.1 7 = .ok (.iload_n 2, 1) := by decide +kernel
theorem d_X_line_8 : decode y_X_line.2.1 8 = .ok (.iconst 0, 1) := by decide +kernel
theorem d_X_line_9 : decode y_X_line.2.1 9 = .ok (.iconst 1, 1) := by decide +kernel
theorem d_X_line_10 : decode y_X_line.2.1 10 = .ok (.invokestatic 98, 3) := by decide +kernel
theorem d_X_line_13 : decode y_X_line.2.1 13 = .ok (.ifCond .ne 5, 3) := by decide +kernel
theorem d_X_line_18 : decode y_X_line.2.1 18 = .ok (.iconst 0, 1) := by decide +kernel
theorem d_X_line_19 : decode y_X_line.2.1 19 = .ok (.istore_n 3, 1) := by decide +kernel
theorem d_X_line_20 : decode y_X_line.2.1 20 = .ok (.iconst 0, 1) := by decide +kernel
theorem d_X_line_21 : decode y_X_line.2.1 21 = .ok (.istore 4, 2) := by decide +kernel
theorem d_X_line_23 : decode y_X_line.2.1 23 = .ok (.iload 4, 2) := by decide +kernel
theorem d_X_line_25 : decode y_X_line.2.1 25 = .ok (.aload_n 0, 1) := by decide +kernel
theorem d_X_line_26 : decode y_X_line.2.1 26 = .ok (.getfield 7, 3) := by decide +kernel
theorem d_X_line_29 : decode y_X_line.2.1 29 = .ok (.sipush 130, 3) := by decide +kernel
theorem d_X_line_32 : decode y_X_line.2.1 32 = .ok (.iload_n 1, 1) := by decide +kernel
theorem d_X_line_33 : decode y_X_line.2.1 33 = .ok (.iadd, 1) := by decide +kernel
theorem d_X_line_34 : decode y_X_line.2.1 34 = .ok (.iaload, 1) := by decide +kernel
theorem d_X_line_35 : decode y_X_line.2.1 35 = .ok (.if_icmp .ge 20, 3) := by decide +kernel
theorem d_X_line_55 : decode y_X_line.2.1 55 = .ok (.iload_n 2, 1) := by decide +kernel
theorem d_X_line_56 : decode y_X_line.2.1 56 = .ok (.ifCond .ne 16, 3) := by decide +kernel
theorem d_X_line_72 : decode y_X_line.2.1 72 = .ok (.iload_n 3, 1) := by decide +kernel
theorem d_X_line_73 : decode y_X_line.2.1 73 = .ok (.ireturn, 1) := by decide +kernel
theorem d_X_line_59 : decode y_X_line.2.1 59 = .ok (.aload_n 0, 1) := by decide +kernel
theorem d_X_line_60 : decode y_X_line.2.1 60 = .ok (.getfield 7, 3) := by decide +kernel
theorem d_X_line_63 : decode y_X_line.2.1 63 = .ok (.sipush 130, 3) := by decide +kernel
theorem d_X_line_66 : decode y_X_line.2.1 66 = .ok (.iload_n 1, 1) := by decide +kernel
theorem d_X_line_67 : decode y_X_line.2.1 67 = .ok (.iadd, 1) := by decide +kernel
theorem d_X_line_68 : decode y_X_line.2.1 68 = .ok (.iaload, 1) := by decide +kernel
theorem d_X_line_69 : decode y_X_line.2.1 69 = .ok (.goto 4, 3) := by decide +kernel
abbrev y_X_pick : MI := (⟨"SinglesUpModel", "pick", "(II)I"⟩, prog_11_method_64_code, 7, some .int)
theorem d_X_pick_0 : decode y_X_pick.2.1 0 = .ok (.iload_n 1, 1) := by decide +kernel
theorem d_X_pick_1 : decode y_X_pick.2.1 1 = .ok (.invokestatic 105, 3) := by decide +kernel
theorem d_X_pick_4 : decode y_X_pick.2.1 4 = .ok (.ifCond .eq 37, 3) := by decide +kernel
theorem d_X_pick_41 : decode y_X_pick.2.1 41 = .ok (.iconst 1, 1) := by decide +kernel
theorem d_X_pick_42 : decode y_X_pick.2.1 42 = .ok (.ireturn, 1) := by decide +kernel
theorem d_X_pick_7 : decode y_X_pick.2.1 7 = .ok (.iload_n 2, 1) := by decide +kernel
theorem d_X_pick_8 : decode y_X_pick.2.1 8 = .ok (.iconst 0, 1) := by decide +kernel
theorem d_X_pick_9 : decode y_X_pick.2.1 9 = .ok (.aload_n 0, 1) := by decide +kernel
theorem d_X_pick_10 : decode y_X_pick.2.1 10 = .ok (.getfield 7, 3) := by decide +kernel
theorem d_X_pick_13 : decode y_X_pick.2.1 13 = .ok (.sipush 130, 3) := by decide +kernel
theorem d_X_pick_16 : decode y_X_pick.2.1 16 = .ok (.iload_n 1, 1) := by decide +kernel
theorem d_X_pick_17 : decode y_X_pick.2.1 17 = .ok (.iadd, 1) := by decide +kernel
theorem d_X_pick_18 : decode y_X_pick.2.1 18 = .ok (.iaload, 1) := by decide +kernel
theorem d_X_pick_19 : decode y_X_pick.2.1 19 = .ok (.iconst 1, 1) := by decide +kernel
theorem d_X_pick_20 : decode y_X_pick.2.1 20 = .ok (.isub, 1) := by decide +kernel
theorem d_X_pick_21 : decode y_X_pick.2.1 21 = .ok (.invokestatic 98, 3) := by decide +kernel
theorem d_X_pick_24 : decode y_X_pick.2.1 24 = .ok (.ifCond .eq 17, 3) := by decide +kernel
abbrev y_X_last : MI := (⟨"SinglesUpModel", "last", "(I)I"⟩, prog_11_method_60_code, 3, some .int)
theorem d_X_last_0 : decode y_X_last.2.1 0 = .ok (.aload_n 0, 1) := by decide +kernel
theorem d_X_last_1 : decode y_X_last.2.1 1 = .ok (.getfield 7, 3) := by decide +kernel
theorem d_X_last_4 : decode y_X_last.2.1 4 = .ok (.bipush 110, 2) := by decide +kernel
theorem d_X_last_6 : decode y_X_last.2.1 6 = .ok (.iaload, 1) := by decide +kernel
theorem d_X_last_7 : decode y_X_last.2.1 7 = .ok (.istore_n 2, 1) := by decide +kernel
theorem d_X_last_8 : decode y_X_last.2.1 8 = .ok (.iload_n 2, 1) := by decide +kernel
theorem d_X_last_9 : decode y_X_last.2.1 9 = .ok (.iconst (-1), 1) := by decide +kernel
theorem d_X_last_10 : decode y_X_last.2.1 10 = .ok (.if_icmp .ne 5, 3) := by decide +kernel
theorem d_X_last_13 : decode y_X_last.2.1 13 = .ok (.iconst (-1), 1) := by decide +kernel
theorem d_X_last_14 : decode y_X_last.2.1 14 = .ok (.ireturn, 1) := by decide +kernel
abbrev y_X_count : MI := (⟨"SinglesUpModel", "count", "(I)I"⟩, prog_11_method_61_code, 3, some .int)
theorem d_X_count_0 : decode y_X_count.2.1 0 = .ok (.iload_n 1, 1) := by decide +kernel
theorem d_X_count_1 : decode y_X_count.2.1 1 = .ok (.iconst 0, 1) := by decide +kernel
theorem d_X_count_2 : decode y_X_count.2.1 2 = .ok (.bipush 6, 2) := by decide +kernel
theorem d_X_count_4 : decode y_X_count.2.1 4 = .ok (.invokestatic 98, 3) := by decide +kernel
theorem d_X_count_7 : decode y_X_count.2.1 7 = .ok (.ifCond .eq 13, 3) := by decide +kernel
theorem d_X_count_20 : decode y_X_count.2.1 20 = .ok (.iload_n 1, 1) := by decide +kernel
theorem d_X_count_21 : decode y_X_count.2.1 21 = .ok (.bipush 41, 2) := by decide +kernel
theorem cb_41 : (Int8.ofInt 41).toInt32 = nI 41 := by decide +kernel
theorem d_X_count_23 : decode y_X_count.2.1 23 = .ok (.bipush 48, 2) := by decide +kernel
theorem d_X_count_25 : decode y_X_count.2.1 25 = .ok (.invokestatic 98, 3) := by decide +kernel
theorem d_X_count_28 : decode y_X_count.2.1 28 = .ok (.ifCond .eq 51, 3) := by decide +kernel
theorem d_X_count_79 : decode y_X_count.2.1 79 = .ok (.iload_n 1, 1) := by decide +kernel
theorem d_X_count_80 : decode y_X_count.2.1 80 = .ok (.bipush 10, 2) := by decide +kernel
theorem d_X_count_82 : decode y_X_count.2.1 82 = .ok (.irem, 1) := by decide +kernel
theorem d_X_count_83 : decode y_X_count.2.1 83 = .ok (.iconst 1, 1) := by decide +kernel
theorem d_X_count_84 : decode y_X_count.2.1 84 = .ok (.bipush 8, 2) := by decide +kernel
theorem d_X_count_86 : decode y_X_count.2.1 86 = .ok (.invokestatic 98, 3) := by decide +kernel
theorem d_X_count_89 : decode y_X_count.2.1 89 = .ok (.ifCond .eq 18, 3) := by decide +kernel
theorem d_X_count_107 : decode y_X_count.2.1 107 = .ok (.iconst 0, 1) := by decide +kernel
theorem d_X_count_108 : decode y_X_count.2.1 108 = .ok (.istore_n 2, 1) := by decide +kernel
theorem d_X_count_109 : decode y_X_count.2.1 109 = .ok (.iload_n 2, 1) := by decide +kernel
theorem d_X_count_110 : decode y_X_count.2.1 110 = .ok (.ifCond .eq 18, 3) := by decide +kernel
theorem d_X_count_128 : decode y_X_count.2.1 128 = .ok (.iconst (-1), 1) := by decide +kernel
theorem d_X_count_129 : decode y_X_count.2.1 129 = .ok (.ireturn, 1) := by decide +kernel
theorem d_X_count_92 : decode y_X_count.2.1 92 = .ok (.iload_n 1, 1) := by decide +kernel
theorem d_X_count_93 : decode y_X_count.2.1 93 = .ok (.bipush 11, 2) := by decide +kernel
theorem d_X_count_95 : decode y_X_count.2.1 95 = .ok (.bipush 38, 2) := by decide +kernel
theorem cb_38 : (Int8.ofInt 38).toInt32 = nI 38 := by decide +kernel
theorem d_X_count_97 : decode y_X_count.2.1 97 = .ok (.invokestatic 98, 3) := by decide +kernel
theorem d_X_count_100 : decode y_X_count.2.1 100 = .ok (.ifCond .eq 7, 3) := by decide +kernel
theorem d_X_count_103 : decode y_X_count.2.1 103 = .ok (.iconst 1, 1) := by decide +kernel
theorem d_X_count_104 : decode y_X_count.2.1 104 = .ok (.goto 4, 3) := by decide +kernel
theorem d_X_count_113 : decode y_X_count.2.1 113 = .ok (.aload_n 0, 1) := by decide +kernel
theorem d_X_count_114 : decode y_X_count.2.1 114 = .ok (.getfield 7, 3) := by decide +kernel
theorem d_X_count_117 : decode y_X_count.2.1 117 = .ok (.bipush 80, 2) := by decide +kernel
theorem cb_80 : (Int8.ofInt 80).toInt32 = nI 80 := by decide +kernel
theorem d_X_count_119 : decode y_X_count.2.1 119 = .ok (.iload_n 1, 1) := by decide +kernel
theorem d_X_count_120 : decode y_X_count.2.1 120 = .ok (.iadd, 1) := by decide +kernel
theorem d_X_count_121 : decode y_X_count.2.1 121 = .ok (.bipush 10, 2) := by decide +kernel
theorem d_X_count_123 : decode y_X_count.2.1 123 = .ok (.isub, 1) := by decide +kernel
theorem d_X_count_124 : decode y_X_count.2.1 124 = .ok (.iaload, 1) := by decide +kernel
theorem d_X_count_125 : decode y_X_count.2.1 125 = .ok (.goto 4, 3) := by decide +kernel
theorem d_X_count_31 : decode y_X_count.2.1 31 = .ok (.aload_n 0, 1) := by decide +kernel
theorem d_X_count_32 : decode y_X_count.2.1 32 = .ok (.getfield 7, 3) := by decide +kernel
theorem d_X_count_35 : decode y_X_count.2.1 35 = .ok (.bipush 80, 2) := by decide +kernel
theorem d_X_count_37 : decode y_X_count.2.1 37 = .ok (.iload_n 1, 1) := by decide +kernel
theorem d_X_count_38 : decode y_X_count.2.1 38 = .ok (.iadd, 1) := by decide +kernel
theorem d_X_count_39 : decode y_X_count.2.1 39 = .ok (.bipush 40, 2) := by decide +kernel
theorem d_X_count_41 : decode y_X_count.2.1 41 = .ok (.isub, 1) := by decide +kernel
theorem d_X_count_42 : decode y_X_count.2.1 42 = .ok (.iaload, 1) := by decide +kernel
theorem d_X_count_43 : decode y_X_count.2.1 43 = .ok (.ifCond .ne 7, 3) := by decide +kernel
theorem d_X_count_46 : decode y_X_count.2.1 46 = .ok (.iconst (-1), 1) := by decide +kernel
theorem d_X_count_47 : decode y_X_count.2.1 47 = .ok (.goto 31, 3) := by decide +kernel
theorem d_X_count_78 : decode y_X_count.2.1 78 = .ok (.ireturn, 1) := by decide +kernel
theorem d_X_count_10 : decode y_X_count.2.1 10 = .ok (.aload_n 0, 1) := by decide +kernel
theorem d_X_count_11 : decode y_X_count.2.1 11 = .ok (.getfield 7, 3) := by decide +kernel
theorem d_X_count_14 : decode y_X_count.2.1 14 = .ok (.bipush 70, 2) := by decide +kernel
theorem d_X_count_16 : decode y_X_count.2.1 16 = .ok (.iload_n 1, 1) := by decide +kernel
theorem d_X_count_17 : decode y_X_count.2.1 17 = .ok (.iadd, 1) := by decide +kernel
theorem d_X_count_18 : decode y_X_count.2.1 18 = .ok (.iaload, 1) := by decide +kernel
theorem d_X_count_19 : decode y_X_count.2.1 19 = .ok (.ireturn, 1) := by decide +kernel
abbrev y_X_heap : MI := (⟨"SinglesUpModel", "heap", "(II)Z"⟩, prog_11_method_73_code, 5, some .boolean)
theorem d_X_heap_0 : decode y_X_heap.2.1 0 = .ok (.iload_n 1, 1) := by decide +kernel
theorem d_X_heap_1 : decode y_X_heap.2.1 1 = .ok (.iconst 1, 1) := by decide +kernel
theorem d_X_heap_2 : decode y_X_heap.2.1 2 = .ok (.bipush 8, 2) := by decide +kernel
theorem d_X_heap_4 : decode y_X_heap.2.1 4 = .ok (.invokestatic 98, 3) := by decide +kernel
theorem d_X_heap_7 : decode y_X_heap.2.1 7 = .ok (.ifCond .eq 13, 3) := by decide +kernel
theorem d_X_heap_20 : decode y_X_heap.2.1 20 = .ok (.iconst 0, 1) := by decide +kernel
theorem d_X_heap_21 : decode y_X_heap.2.1 21 = .ok (.ireturn, 1) := by decide +kernel
theorem d_X_heap_10 : decode y_X_heap.2.1 10 = .ok (.iload_n 2, 1) := by decide +kernel
theorem d_X_heap_11 : decode y_X_heap.2.1 11 = .ok (.iconst 0, 1) := by decide +kernel
theorem d_X_heap_12 : decode y_X_heap.2.1 12 = .ok (.bipush 9, 2) := by decide +kernel
theorem d_X_heap_14 : decode y_X_heap.2.1 14 = .ok (.invokestatic 98, 3) := by decide +kernel
theorem d_X_heap_17 : decode y_X_heap.2.1 17 = .ok (.ifCond .ne 5, 3) := by decide +kernel
theorem d_X_heap_22 : decode y_X_heap.2.1 22 = .ok (.iload_n 2, 1) := by decide +kernel
theorem d_X_heap_23 : decode y_X_heap.2.1 23 = .ok (.istore_n 3, 1) := by decide +kernel
theorem d_X_heap_24 : decode y_X_heap.2.1 24 = .ok (.iconst 1, 1) := by decide +kernel
theorem d_X_heap_25 : decode y_X_heap.2.1 25 = .ok (.istore 4, 2) := by decide +kernel
theorem d_X_heap_27 : decode y_X_heap.2.1 27 = .ok (.iload 4, 2) := by decide +kernel
theorem d_X_heap_29 : decode y_X_heap.2.1 29 = .ok (.bipush 8, 2) := by decide +kernel
theorem d_X_heap_31 : decode y_X_heap.2.1 31 = .ok (.if_icmp .gt 32, 3) := by decide +kernel
theorem d_X_heap_34 : decode y_X_heap.2.1 34 = .ok (.iload_n 3, 1) := by decide +kernel
theorem d_X_heap_35 : decode y_X_heap.2.1 35 = .ok (.iload 4, 2) := by decide +kernel
theorem d_X_heap_37 : decode y_X_heap.2.1 37 = .ok (.iload_n 1, 1) := by decide +kernel
theorem d_X_heap_38 : decode y_X_heap.2.1 38 = .ok (.if_icmp .ne 7, 3) := by decide +kernel
theorem d_X_heap_41 : decode y_X_heap.2.1 41 = .ok (.iconst 0, 1) := by decide +kernel
theorem d_X_heap_42 : decode y_X_heap.2.1 42 = .ok (.goto 13, 3) := by decide +kernel
theorem d_X_heap_55 : decode y_X_heap.2.1 55 = .ok (.iadd, 1) := by decide +kernel
theorem d_X_heap_56 : decode y_X_heap.2.1 56 = .ok (.istore_n 3, 1) := by decide +kernel
theorem d_X_heap_57 : decode y_X_heap.2.1 57 = .ok (.iinc 4 1, 3) := by decide +kernel
theorem d_X_heap_60 : decode y_X_heap.2.1 60 = .ok (.goto (-33), 3) := by decide +kernel
theorem d_X_heap_45 : decode y_X_heap.2.1 45 = .ok (.aload_n 0, 1) := by decide +kernel
theorem d_X_heap_46 : decode y_X_heap.2.1 46 = .ok (.getfield 7, 3) := by decide +kernel
theorem d_X_heap_49 : decode y_X_heap.2.1 49 = .ok (.bipush 60, 2) := by decide +kernel
theorem d_X_heap_51 : decode y_X_heap.2.1 51 = .ok (.iload 4, 2) := by decide +kernel
theorem d_X_heap_53 : decode y_X_heap.2.1 53 = .ok (.iadd, 1) := by decide +kernel
theorem d_X_heap_54 : decode y_X_heap.2.1 54 = .ok (.iaload, 1) := by decide +kernel
theorem d_X_heap_63 : decode y_X_heap.2.1 63 = .ok (.iload_n 3, 1) := by decide +kernel
theorem d_X_heap_64 : decode y_X_heap.2.1 64 = .ok (.bipush 12, 2) := by decide +kernel
theorem d_X_heap_66 : decode y_X_heap.2.1 66 = .ok (.if_icmp .le 5, 3) := by decide +kernel
theorem d_X_heap_71 : decode y_X_heap.2.1 71 = .ok (.aload_n 0, 1) := by decide +kernel
theorem d_X_heap_72 : decode y_X_heap.2.1 72 = .ok (.getfield 7, 3) := by decide +kernel
theorem d_X_heap_75 : decode y_X_heap.2.1 75 = .ok (.bipush 60, 2) := by decide +kernel
theorem d_X_heap_77 : decode y_X_heap.2.1 77 = .ok (.iload_n 1, 1) := by decide +kernel
theorem d_X_heap_78 : decode y_X_heap.2.1 78 = .ok (.iadd, 1) := by decide +kernel
theorem d_X_heap_79 : decode y_X_heap.2.1 79 = .ok (.iload_n 2, 1) := by decide +kernel
theorem d_X_heap_80 : decode y_X_heap.2.1 80 = .ok (.iastore, 1) := by decide +kernel
theorem d_X_heap_81 : decode y_X_heap.2.1 81 = .ok (.iconst 1, 1) := by decide +kernel
theorem d_X_heap_82 : decode y_X_heap.2.1 82 = .ok (.ireturn, 1) := by decide +kernel
theorem d_X_heap_69 : decode y_X_heap.2.1 69 = .ok (.iconst 0, 1) := by decide +kernel
theorem d_X_heap_70 : decode y_X_heap.2.1 70 = .ok (.ireturn, 1) := by decide +kernel
abbrev y_X_fewest : MI := (⟨"SinglesUpModel", "fewest", "(I)I"⟩, prog_11_method_79_code, 6, some .int)
theorem d_X_fewest_0 : decode y_X_fewest.2.1 0 = .ok (.iload_n 1, 1) := by decide +kernel
theorem d_X_fewest_1 : decode y_X_fewest.2.1 1 = .ok (.iconst 0, 1) := by decide +kernel
theorem d_X_fewest_2 : decode y_X_fewest.2.1 2 = .ok (.bipush 8, 2) := by decide +kernel
theorem d_X_fewest_4 : decode y_X_fewest.2.1 4 = .ok (.invokestatic 98, 3) := by decide +kernel
theorem d_X_fewest_7 : decode y_X_fewest.2.1 7 = .ok (.ifCond .ne 5, 3) := by decide +kernel
theorem d_X_fewest_10 : decode y_X_fewest.2.1 10 = .ok (.iconst (-1), 1) := by decide +kernel
theorem d_X_fewest_11 : decode y_X_fewest.2.1 11 = .ok (.ireturn, 1) := by decide +kernel
theorem d_X_fewest_12 : decode y_X_fewest.2.1 12 = .ok (.iconst 1, 1) := by decide +kernel
theorem d_X_fewest_13 : decode y_X_fewest.2.1 13 = .ok (.istore_n 2, 1) := by decide +kernel
theorem d_X_fewest_14 : decode y_X_fewest.2.1 14 = .ok (.iconst 1, 1) := by decide +kernel
theorem d_X_fewest_15 : decode y_X_fewest.2.1 15 = .ok (.istore_n 3, 1) := by decide +kernel
theorem d_X_fewest_16 : decode y_X_fewest.2.1 16 = .ok (.iload_n 3, 1) := by decide +kernel
theorem d_X_fewest_17 : decode y_X_fewest.2.1 17 = .ok (.bipush 8, 2) := by decide +kernel
theorem d_X_fewest_19 : decode y_X_fewest.2.1 19 = .ok (.if_icmp .gt 70, 3) := by decide +kernel
theorem d_X_fewest_22 : decode y_X_fewest.2.1 22 = .ok (.aload_n 0, 1) := by decide +kernel
theorem d_X_fewest_23 : decode y_X_fewest.2.1 23 = .ok (.getfield 75, 3) := by decide +kernel
theorem fl_X_75 : FL "SinglesUpModel" 75 9 42 := ⟨"SinglesUpModel", zT9, 51, rfl, by decide, rfl, Or.inl (tw_in 1191 (by decide +kernel) rfl)⟩
theorem rm_0_42 : RM 0 42 = some 19 := by decide +kernel
theorem d_X_fewest_26 : decode y_X_fewest.2.1 26 = .ok (.iload_n 3, 1) := by decide +kernel
theorem d_X_fewest_27 : decode y_X_fewest.2.1 27 = .ok (.aload_n 0, 1) := by decide +kernel
theorem d_X_fewest_28 : decode y_X_fewest.2.1 28 = .ok (.getfield 7, 3) := by decide +kernel
theorem d_X_fewest_31 : decode y_X_fewest.2.1 31 = .ok (.bipush 60, 2) := by decide +kernel
theorem d_X_fewest_33 : decode y_X_fewest.2.1 33 = .ok (.iload_n 3, 1) := by decide +kernel
theorem d_X_fewest_34 : decode y_X_fewest.2.1 34 = .ok (.iadd, 1) := by decide +kernel
theorem d_X_fewest_35 : decode y_X_fewest.2.1 35 = .ok (.iaload, 1) := by decide +kernel
theorem d_X_fewest_36 : decode y_X_fewest.2.1 36 = .ok (.iastore, 1) := by decide +kernel
theorem km_19 : KM[19]? = some (0, 9) := by decide +kernel
theorem d_X_fewest_37 : decode y_X_fewest.2.1 37 = .ok (.aload_n 0, 1) := by decide +kernel
theorem d_X_fewest_38 : decode y_X_fewest.2.1 38 = .ok (.getfield 81, 3) := by decide +kernel
theorem fl_X_81 : FL "SinglesUpModel" 81 9 44 := ⟨"SinglesUpModel", zT9, 51, rfl, by decide, rfl, Or.inl (tw_in 1193 (by decide +kernel) rfl)⟩
theorem rm_0_44 : RM 0 44 = some 21 := by decide +kernel
theorem d_X_fewest_41 : decode y_X_fewest.2.1 41 = .ok (.iload_n 3, 1) := by decide +kernel
theorem d_X_fewest_42 : decode y_X_fewest.2.1 42 = .ok (.iconst 0, 1) := by decide +kernel
theorem d_X_fewest_43 : decode y_X_fewest.2.1 43 = .ok (.iastore, 1) := by decide +kernel
theorem km_21 : KM[21]? = some (0, 9) := by decide +kernel
theorem d_X_fewest_44 : decode y_X_fewest.2.1 44 = .ok (.aload_n 0, 1) := by decide +kernel
theorem d_X_fewest_45 : decode y_X_fewest.2.1 45 = .ok (.getfield 78, 3) := by decide +kernel
theorem fl_X_78 : FL "SinglesUpModel" 78 9 43 := ⟨"SinglesUpModel", zT9, 51, rfl, by decide, rfl, Or.inl (tw_in 1192 (by decide +kernel) rfl)⟩
theorem rm_0_43 : RM 0 43 = some 20 := by decide +kernel
theorem d_X_fewest_48 : decode y_X_fewest.2.1 48 = .ok (.iload_n 3, 1) := by decide +kernel
theorem d_X_fewest_49 : decode y_X_fewest.2.1 49 = .ok (.iload_n 2, 1) := by decide +kernel
theorem d_X_fewest_50 : decode y_X_fewest.2.1 50 = .ok (.iastore, 1) := by decide +kernel
theorem km_20 : KM[20]? = some (0, 9) := by decide +kernel
theorem d_X_fewest_51 : decode y_X_fewest.2.1 51 = .ok (.iload_n 2, 1) := by decide +kernel
theorem d_X_fewest_52 : decode y_X_fewest.2.1 52 = .ok (.aload_n 0, 1) := by decide +kernel
theorem d_X_fewest_53 : decode y_X_fewest.2.1 53 = .ok (.getfield 75, 3) := by decide +kernel
theorem d_X_fewest_56 : decode y_X_fewest.2.1 56 = .ok (.iload_n 3, 1) := by decide +kernel
theorem d_X_fewest_57 : decode y_X_fewest.2.1 57 = .ok (.iaload, 1) := by decide +kernel
theorem d_X_fewest_58 : decode y_X_fewest.2.1 58 = .ok (.iconst 1, 1) := by decide +kernel
theorem d_X_fewest_59 : decode y_X_fewest.2.1 59 = .ok (.iadd, 1) := by decide +kernel
theorem d_X_fewest_60 : decode y_X_fewest.2.1 60 = .ok (.imul, 1) := by decide +kernel
theorem d_X_fewest_61 : decode y_X_fewest.2.1 61 = .ok (.istore_n 2, 1) := by decide +kernel
theorem d_X_fewest_62 : decode y_X_fewest.2.1 62 = .ok (.aload_n 0, 1) := by decide +kernel
theorem d_X_fewest_63 : decode y_X_fewest.2.1 63 = .ok (.getfield 75, 3) := by decide +kernel
theorem d_X_fewest_66 : decode y_X_fewest.2.1 66 = .ok (.iload_n 3, 1) := by decide +kernel
theorem d_X_fewest_67 : decode y_X_fewest.2.1 67 = .ok (.iaload, 1) := by decide +kernel
theorem d_X_fewest_68 : decode y_X_fewest.2.1 68 = .ok (.ifCond .le 15, 3) := by decide +kernel
theorem d_X_fewest_83 : decode y_X_fewest.2.1 83 = .ok (.iinc 3 1, 3) := by decide +kernel
theorem d_X_fewest_86 : decode y_X_fewest.2.1 86 = .ok (.goto (-70), 3) := by decide +kernel
theorem d_X_fewest_89 : decode y_X_fewest.2.1 89 = .ok (.iconst 0, 1) := by decide +kernel
theorem d_X_fewest_90 : decode y_X_fewest.2.1 90 = .ok (.istore_n 3, 1) := by decide +kernel
theorem d_X_fewest_91 : decode y_X_fewest.2.1 91 = .ok (.iload_n 3, 1) := by decide +kernel
theorem d_X_fewest_92 : decode y_X_fewest.2.1 92 = .ok (.iload_n 2, 1) := by decide +kernel
theorem d_X_fewest_93 : decode y_X_fewest.2.1 93 = .ok (.if_icmp .ge 16, 3) := by decide +kernel
theorem d_X_fewest_96 : decode y_X_fewest.2.1 96 = .ok (.aload_n 0, 1) := by decide +kernel
theorem d_X_fewest_97 : decode y_X_fewest.2.1 97 = .ok (.getfield 72, 3) := by decide +kernel
theorem fl_X_72 : FL "SinglesUpModel" 72 9 41 := ⟨"SinglesUpModel", zT9, 51, rfl, by decide, rfl, Or.inl (tw_in 1190 (by decide +kernel) rfl)⟩
theorem rm_0_41 : RM 0 41 = some 18 := by decide +kernel
theorem d_X_fewest_100 : decode y_X_fewest.2.1 100 = .ok (.iload_n 3, 1) := by decide +kernel
theorem d_X_fewest_101 : decode y_X_fewest.2.1 101 = .ok (.iconst (-1), 1) := by decide +kernel
theorem d_X_fewest_102 : decode y_X_fewest.2.1 102 = .ok (.iastore, 1) := by decide +kernel
theorem km_18 : KM[18]? = some (0, 4100) := by decide +kernel
theorem d_X_fewest_103 : decode y_X_fewest.2.1 103 = .ok (.iinc 3 1, 3) := by decide +kernel
theorem d_X_fewest_106 : decode y_X_fewest.2.1 106 = .ok (.goto (-15), 3) := by decide +kernel
theorem d_X_fewest_109 : decode y_X_fewest.2.1 109 = .ok (.aload_n 0, 1) := by decide +kernel
theorem d_X_fewest_110 : decode y_X_fewest.2.1 110 = .ok (.invokevirtual 377, 3) := by decide +kernel
abbrev y_X_needs : MI := (⟨"SinglesUpModel", "needs", "()I"⟩, prog_11_method_76_code, 4, some .int)
theorem lk_X_377 : LkV "SinglesUpModel" 377 y_X_needs := ⟨tw_in 1612 (by decide +kernel) rfl, tw_in 81 (by decide +kernel) rfl, Or.inl (tw_in 1610 (by decide +kernel) rfl)⟩
theorem mo_X_needs : MOk y_X_needs 0 := ⟨by decide +kernel, tw_in 1613 (by decide +kernel) rfl, tw_in 108 (by decide +kernel) rfl, by decide +kernel, by decide +kernel, by decide +kernel⟩
theorem d_X_needs_0 : decode y_X_needs.2.1 0 = .ok (.aload_n 0, 1) := by decide +kernel
theorem d_X_needs_1 : decode y_X_needs.2.1 1 = .ok (.invokevirtual 368, 3) := by decide +kernel
abbrev y_X_greatest : MI := (⟨"SinglesUpModel", "greatest", "()I"⟩, prog_11_method_75_code, 2, some .int)
theorem lk_X_368 : LkV "SinglesUpModel" 368 y_X_greatest := ⟨tw_in 1616 (by decide +kernel) rfl, tw_in 82 (by decide +kernel) rfl, Or.inl (tw_in 1614 (by decide +kernel) rfl)⟩
theorem mo_X_greatest : MOk y_X_greatest 0 := ⟨by decide +kernel, tw_in 1617 (by decide +kernel) rfl, tw_in 108 (by decide +kernel) rfl, by decide +kernel, by decide +kernel, by decide +kernel⟩
theorem d_X_greatest_0 : decode y_X_greatest.2.1 0 = .ok (.bipush 8, 2) := by decide +kernel
theorem d_X_greatest_2 : decode y_X_greatest.2.1 2 = .ok (.istore_n 1, 1) := by decide +kernel
theorem d_X_greatest_3 : decode y_X_greatest.2.1 3 = .ok (.iload_n 1, 1) := by decide +kernel
theorem d_X_greatest_4 : decode y_X_greatest.2.1 4 = .ok (.ifCond .le 20, 3) := by decide +kernel
theorem d_X_greatest_7 : decode y_X_greatest.2.1 7 = .ok (.aload_n 0, 1) := by decide +kernel
theorem d_X_greatest_8 : decode y_X_greatest.2.1 8 = .ok (.getfield 75, 3) := by decide +kernel
theorem d_X_greatest_11 : decode y_X_greatest.2.1 11 = .ok (.iload_n 1, 1) := by decide +kernel
theorem d_X_greatest_12 : decode y_X_greatest.2.1 12 = .ok (.iaload, 1) := by decide +kernel
theorem d_X_greatest_13 : decode y_X_greatest.2.1 13 = .ok (.ifCond .le 5, 3) := by decide +kernel
theorem d_X_greatest_18 : decode y_X_greatest.2.1 18 = .ok (.iinc 1 (-1), 3) := by decide +kernel
theorem d_X_greatest_21 : decode y_X_greatest.2.1 21 = .ok (.goto (-18), 3) := by decide +kernel
theorem d_X_greatest_24 : decode y_X_greatest.2.1 24 = .ok (.iconst 0, 1) := by decide +kernel
theorem d_X_greatest_25 : decode y_X_greatest.2.1 25 = .ok (.ireturn, 1) := by decide +kernel
theorem d_X_needs_4 : decode y_X_needs.2.1 4 = .ok (.istore_n 1, 1) := by decide +kernel
theorem d_X_needs_5 : decode y_X_needs.2.1 5 = .ok (.iload_n 1, 1) := by decide +kernel
theorem d_X_needs_6 : decode y_X_needs.2.1 6 = .ok (.ifCond .ne 5, 3) := by decide +kernel
theorem d_X_needs_9 : decode y_X_needs.2.1 9 = .ok (.iconst 0, 1) := by decide +kernel
theorem d_X_needs_10 : decode y_X_needs.2.1 10 = .ok (.ireturn, 1) := by decide +kernel
theorem d_X_fewest_113 : decode y_X_fewest.2.1 113 = .ok (.istore_n 3, 1) := by decide +kernel
theorem d_X_fewest_114 : decode y_X_fewest.2.1 114 = .ok (.iload_n 1, 1) := by decide +kernel
theorem d_X_fewest_115 : decode y_X_fewest.2.1 115 = .ok (.ifCond .eq 7, 3) := by decide +kernel
theorem d_X_fewest_122 : decode y_X_fewest.2.1 122 = .ok (.iload_n 3, 1) := by decide +kernel
theorem d_X_fewest_123 : decode y_X_fewest.2.1 123 = .ok (.ireturn, 1) := by decide +kernel
theorem d_X_fewest_118 : decode y_X_fewest.2.1 118 = .ok (.iload_n 3, 1) := by decide +kernel
theorem d_X_fewest_119 : decode y_X_fewest.2.1 119 = .ok (.ifCond .ne 5, 3) := by decide +kernel
abbrev y_X_till : MI := (⟨"SinglesUpModel", "till", "(II)I"⟩, prog_11_method_87_code, 5, some .int)
theorem d_X_till_0 : decode y_X_till.2.1 0 = .ok (.aload_n 0, 1) := by decide +kernel
theorem d_X_till_1 : decode y_X_till.2.1 1 = .ok (.iload_n 1, 1) := by decide +kernel
theorem d_X_till_2 : decode y_X_till.2.1 2 = .ok (.iload_n 2, 1) := by decide +kernel
theorem d_X_till_3 : decode y_X_till.2.1 3 = .ok (.invokevirtual 389, 3) := by decide +kernel
abbrev y_X_isThere : MI := (⟨"SinglesUpModel", "isThere", "(II)Z"⟩, prog_11_method_86_code, 3, some .boolean)
theorem lk_X_389 : LkV "SinglesUpModel" 389 y_X_isThere := ⟨tw_in 1636 (by decide +kernel) rfl, tw_in 86 (by decide +kernel) rfl, Or.inl (tw_in 1634 (by decide +kernel) rfl)⟩
theorem mo_X_isThere : MOk y_X_isThere 2 := ⟨by decide +kernel, tw_in 1637 (by decide +kernel) rfl, tw_in 108 (by decide +kernel) rfl, by decide +kernel, by decide +kernel, by decide +kernel⟩
theorem d_X_isThere_0 : decode y_X_isThere.2.1 0 = .ok (.iload_n 1, 1) := by decide +kernel
theorem d_X_isThere_1 : decode y_X_isThere.2.1 1 = .ok (.invokestatic 105, 3) := by decide +kernel
theorem d_X_isThere_4 : decode y_X_isThere.2.1 4 = .ok (.ifCond .eq 27, 3) := by decide +kernel
theorem d_X_isThere_31 : decode y_X_isThere.2.1 31 = .ok (.iconst 0, 1) := by decide +kernel
theorem d_X_isThere_32 : decode y_X_isThere.2.1 32 = .ok (.ireturn, 1) := by decide +kernel
theorem d_X_till_6 : decode y_X_till.2.1 6 = .ok (.ifCond .ne 5, 3) := by decide +kernel
theorem d_X_till_9 : decode y_X_till.2.1 9 = .ok (.iconst (-1), 1) := by decide +kernel
theorem d_X_till_10 : decode y_X_till.2.1 10 = .ok (.ireturn, 1) := by decide +kernel
theorem d_X_isThere_7 : decode y_X_isThere.2.1 7 = .ok (.iload_n 2, 1) := by decide +kernel
theorem d_X_isThere_8 : decode y_X_isThere.2.1 8 = .ok (.iconst 0, 1) := by decide +kernel
theorem d_X_isThere_9 : decode y_X_isThere.2.1 9 = .ok (.aload_n 0, 1) := by decide +kernel
theorem d_X_isThere_10 : decode y_X_isThere.2.1 10 = .ok (.getfield 7, 3) := by decide +kernel
theorem d_X_isThere_13 : decode y_X_isThere.2.1 13 = .ok (.sipush 130, 3) := by decide +kernel
theorem d_X_isThere_16 : decode y_X_isThere.2.1 16 = .ok (.iload_n 1, 1) := by decide +kernel
theorem d_X_isThere_17 : decode y_X_isThere.2.1 17 = .ok (.iadd, 1) := by decide +kernel
theorem d_X_isThere_18 : decode y_X_isThere.2.1 18 = .ok (.iaload, 1) := by decide +kernel
theorem d_X_isThere_19 : decode y_X_isThere.2.1 19 = .ok (.iconst 1, 1) := by decide +kernel
theorem d_X_isThere_20 : decode y_X_isThere.2.1 20 = .ok (.isub, 1) := by decide +kernel
theorem d_X_isThere_21 : decode y_X_isThere.2.1 21 = .ok (.invokestatic 98, 3) := by decide +kernel
theorem d_X_isThere_24 : decode y_X_isThere.2.1 24 = .ok (.ifCond .eq 7, 3) := by decide +kernel
abbrev y_X_together : MI := (⟨"SinglesUpModel", "together", "(IIIII)I"⟩, prog_11_method_90_code, 9, some .int)
theorem d_X_together_0 : decode y_X_together.2.1 0 = .ok (.aload_n 0, 1) := by decide +kernel
theorem d_X_together_1 : decode y_X_together.2.1 1 = .ok (.iload_n 1, 1) := by decide +kernel
theorem d_X_together_2 : decode y_X_together.2.1 2 = .ok (.iload_n 2, 1) := by decide +kernel
theorem d_X_together_3 : decode y_X_together.2.1 3 = .ok (.invokevirtual 401, 3) := by decide +kernel
abbrev y_X_isPlain : MI := (⟨"SinglesUpModel", "isPlain", "(II)Z"⟩, prog_11_method_88_code, 3, some .boolean)
theorem lk_X_401 : LkV "SinglesUpModel" 401 y_X_isPlain := ⟨tw_in 1660 (by decide +kernel) rfl, tw_in 91 (by decide +kernel) rfl, Or.inl (tw_in 1658 (by decide +kernel) rfl)⟩
theorem mo_X_isPlain : MOk y_X_isPlain 2 := ⟨by decide +kernel, tw_in 1661 (by decide +kernel) rfl, tw_in 108 (by decide +kernel) rfl, by decide +kernel, by decide +kernel, by decide +kernel⟩
theorem d_X_isPlain_0 : decode y_X_isPlain.2.1 0 = .ok (.aload_n 0, 1) := by decide +kernel
theorem d_X_isPlain_1 : decode y_X_isPlain.2.1 1 = .ok (.iload_n 1, 1) := by decide +kernel
theorem d_X_isPlain_2 : decode y_X_isPlain.2.1 2 = .ok (.iload_n 2, 1) := by decide +kernel
theorem d_X_isPlain_3 : decode y_X_isPlain.2.1 3 = .ok (.invokevirtual 389, 3) := by decide +kernel
theorem d_X_isPlain_6 : decode y_X_isPlain.2.1 6 = .ok (.ifCond .eq 34, 3) := by decide +kernel
theorem d_X_isPlain_40 : decode y_X_isPlain.2.1 40 = .ok (.iconst 0, 1) := by decide +kernel
theorem d_X_isPlain_41 : decode y_X_isPlain.2.1 41 = .ok (.ireturn, 1) := by decide +kernel
theorem d_X_together_6 : decode y_X_together.2.1 6 = .ok (.ifCond .eq 55, 3) := by decide +kernel
theorem d_X_together_61 : decode y_X_together.2.1 61 = .ok (.bipush (-2), 2) := by decide +kernel
theorem d_X_together_63 : decode y_X_together.2.1 63 = .ok (.ireturn, 1) := by decide +kernel
abbrev y_X_past : MI := (⟨"SinglesUpModel", "past", "(II)I"⟩, prog_11_method_62_code, 3, some .int)
theorem d_X_past_0 : decode y_X_past.2.1 0 = .ok (.iload_n 1, 1) := by decide +kernel
theorem d_X_past_1 : decode y_X_past.2.1 1 = .ok (.iconst 0, 1) := by decide +kernel
theorem d_X_past_2 : decode y_X_past.2.1 2 = .ok (.bipush 59, 2) := by decide +kernel
theorem cb_59 : (Int8.ofInt 59).toInt32 = nI 59 := by decide +kernel
theorem d_X_past_4 : decode y_X_past.2.1 4 = .ok (.invokestatic 98, 3) := by decide +kernel
theorem d_X_past_7 : decode y_X_past.2.1 7 = .ok (.ifCond .eq 53, 3) := by decide +kernel
theorem d_X_past_60 : decode y_X_past.2.1 60 = .ok (.iconst (-1), 1) := by decide +kernel
theorem d_X_past_61 : decode y_X_past.2.1 61 = .ok (.ireturn, 1) := by decide +kernel
theorem d_X_past_10 : decode y_X_past.2.1 10 = .ok (.iload_n 1, 1) := by decide +kernel
theorem d_X_past_11 : decode y_X_past.2.1 11 = .ok (.aload_n 0, 1) := by decide +kernel
theorem d_X_past_12 : decode y_X_past.2.1 12 = .ok (.getfield 7, 3) := by decide +kernel
theorem d_X_past_15 : decode y_X_past.2.1 15 = .ok (.bipush 70, 2) := by decide +kernel
theorem d_X_past_17 : decode y_X_past.2.1 17 = .ok (.iaload, 1) := by decide +kernel
theorem d_X_past_18 : decode y_X_past.2.1 18 = .ok (.if_icmp .ge 42, 3) := by decide +kernel
abbrev y_X_folded : MI := (⟨"SinglesUpModel", "folded", "(III)I"⟩, prog_11_method_96_code, 9, some .int)
theorem d_X_folded_0 : decode y_X_folded.2.1 0 = .ok (.iload_n 1, 1) := by decide +kernel
theorem d_X_folded_1 : decode y_X_folded.2.1 1 = .ok (.invokestatic 105, 3) := by decide +kernel
theorem d_X_folded_4 : decode y_X_folded.2.1 4 = .ok (.ifCond .eq 33, 3) := by decide +kernel
theorem d_X_folded_37 : decode y_X_folded.2.1 37 = .ok (.iconst (-1), 1) := by decide +kernel
theorem d_X_folded_38 : decode y_X_folded.2.1 38 = .ok (.ireturn, 1) := by decide +kernel
theorem d_X_folded_7 : decode y_X_folded.2.1 7 = .ok (.iload_n 2, 1) := by decide +kernel
theorem d_X_folded_8 : decode y_X_folded.2.1 8 = .ok (.iconst 1, 1) := by decide +kernel
theorem d_X_folded_9 : decode y_X_folded.2.1 9 = .ok (.bipush 40, 2) := by decide +kernel
theorem d_X_folded_11 : decode y_X_folded.2.1 11 = .ok (.invokestatic 98, 3) := by decide +kernel
theorem d_X_folded_14 : decode y_X_folded.2.1 14 = .ok (.ifCond .eq 23, 3) := by decide +kernel
theorem d_X_folded_17 : decode y_X_folded.2.1 17 = .ok (.iload_n 3, 1) := by decide +kernel
theorem d_X_folded_18 : decode y_X_folded.2.1 18 = .ok (.iconst (-1), 1) := by decide +kernel
theorem d_X_folded_19 : decode y_X_folded.2.1 19 = .ok (.aload_n 0, 1) := by decide +kernel
theorem d_X_folded_20 : decode y_X_folded.2.1 20 = .ok (.getfield 7, 3) := by decide +kernel
theorem d_X_folded_23 : decode y_X_folded.2.1 23 = .ok (.sipush 130, 3) := by decide +kernel
theorem d_X_folded_26 : decode y_X_folded.2.1 26 = .ok (.iload_n 1, 1) := by decide +kernel
theorem d_X_folded_27 : decode y_X_folded.2.1 27 = .ok (.iadd, 1) := by decide +kernel
theorem d_X_folded_28 : decode y_X_folded.2.1 28 = .ok (.iaload, 1) := by decide +kernel
theorem d_X_folded_29 : decode y_X_folded.2.1 29 = .ok (.iconst 1, 1) := by decide +kernel
theorem d_X_folded_30 : decode y_X_folded.2.1 30 = .ok (.isub, 1) := by decide +kernel
theorem d_X_folded_31 : decode y_X_folded.2.1 31 = .ok (.invokestatic 98, 3) := by decide +kernel
theorem d_X_folded_34 : decode y_X_folded.2.1 34 = .ok (.ifCond .ne 5, 3) := by decide +kernel
theorem d_X_folded_39 : decode y_X_folded.2.1 39 = .ok (.iconst 0, 1) := by decide +kernel
theorem d_X_folded_40 : decode y_X_folded.2.1 40 = .ok (.istore 4, 2) := by decide +kernel
theorem d_X_folded_42 : decode y_X_folded.2.1 42 = .ok (.iload_n 2, 1) := by decide +kernel
theorem d_X_folded_43 : decode y_X_folded.2.1 43 = .ok (.istore 5, 2) := by decide +kernel
theorem d_X_folded_45 : decode y_X_folded.2.1 45 = .ok (.iconst 0, 1) := by decide +kernel
theorem d_X_folded_46 : decode y_X_folded.2.1 46 = .ok (.istore 6, 2) := by decide +kernel
theorem d_X_folded_48 : decode y_X_folded.2.1 48 = .ok (.iload 6, 2) := by decide +kernel
theorem d_X_folded_50 : decode y_X_folded.2.1 50 = .ok (.aload_n 0, 1) := by decide +kernel
theorem d_X_folded_51 : decode y_X_folded.2.1 51 = .ok (.getfield 7, 3) := by decide +kernel
theorem d_X_folded_54 : decode y_X_folded.2.1 54 = .ok (.sipush 130, 3) := by decide +kernel
theorem d_X_folded_57 : decode y_X_folded.2.1 57 = .ok (.iload_n 1, 1) := by decide +kernel
theorem d_X_folded_58 : decode y_X_folded.2.1 58 = .ok (.iadd, 1) := by decide +kernel
theorem d_X_folded_59 : decode y_X_folded.2.1 59 = .ok (.iaload, 1) := by decide +kernel
theorem d_X_folded_60 : decode y_X_folded.2.1 60 = .ok (.if_icmp .ge 89, 3) := by decide +kernel
theorem d_X_folded_149 : decode y_X_folded.2.1 149 = .ok (.iload 4, 2) := by decide +kernel
theorem d_X_folded_151 : decode y_X_folded.2.1 151 = .ok (.ireturn, 1) := by decide +kernel
abbrev y_X_told : MI := (⟨"SinglesUpModel", "told", "(I)I"⟩, prog_11_method_98_code, 2, some .int)
theorem d_X_told_0 : decode y_X_told.2.1 0 = .ok (.iload_n 1, 1) := by decide +kernel
theorem d_X_told_1 : decode y_X_told.2.1 1 = .ok (.iconst 0, 1) := by decide +kernel
theorem d_X_told_2 : decode y_X_told.2.1 2 = .ok (.iconst 5, 1) := by decide +kernel
theorem d_X_told_3 : decode y_X_told.2.1 3 = .ok (.invokestatic 98, 3) := by decide +kernel
theorem d_X_told_6 : decode y_X_told.2.1 6 = .ok (.ifCond .eq 14, 3) := by decide +kernel
theorem d_X_told_20 : decode y_X_told.2.1 20 = .ok (.iload_n 1, 1) := by decide +kernel
theorem d_X_told_21 : decode y_X_told.2.1 21 = .ok (.bipush 6, 2) := by decide +kernel
theorem d_X_told_23 : decode y_X_told.2.1 23 = .ok (.if_icmp .ne 10, 3) := by decide +kernel
theorem d_X_told_33 : decode y_X_told.2.1 33 = .ok (.iload_n 1, 1) := by decide +kernel
theorem d_X_told_34 : decode y_X_told.2.1 34 = .ok (.bipush 7, 2) := by decide +kernel
theorem d_X_told_36 : decode y_X_told.2.1 36 = .ok (.if_icmp .ne 13, 3) := by decide +kernel
theorem d_X_told_49 : decode y_X_told.2.1 49 = .ok (.iload_n 1, 1) := by decide +kernel
theorem d_X_told_50 : decode y_X_told.2.1 50 = .ok (.bipush 8, 2) := by decide +kernel
theorem d_X_told_52 : decode y_X_told.2.1 52 = .ok (.if_icmp .ne 12, 3) := by decide +kernel
theorem d_X_told_64 : decode y_X_told.2.1 64 = .ok (.iconst (-1), 1) := by decide +kernel
theorem d_X_told_65 : decode y_X_told.2.1 65 = .ok (.ireturn, 1) := by decide +kernel
theorem d_X_told_55 : decode y_X_told.2.1 55 = .ok (.aload_n 0, 1) := by decide +kernel
theorem d_X_told_56 : decode y_X_told.2.1 56 = .ok (.getfield 7, 3) := by decide +kernel
theorem d_X_told_59 : decode y_X_told.2.1 59 = .ok (.iconst 0, 1) := by decide +kernel
theorem d_X_told_60 : decode y_X_told.2.1 60 = .ok (.iaload, 1) := by decide +kernel
theorem d_X_told_61 : decode y_X_told.2.1 61 = .ok (.goto 4, 3) := by decide +kernel
theorem d_X_told_39 : decode y_X_told.2.1 39 = .ok (.aload_n 0, 1) := by decide +kernel
theorem d_X_told_40 : decode y_X_told.2.1 40 = .ok (.getfield 7, 3) := by decide +kernel
theorem d_X_told_43 : decode y_X_told.2.1 43 = .ok (.bipush 7, 2) := by decide +kernel
theorem d_X_told_45 : decode y_X_told.2.1 45 = .ok (.iaload, 1) := by decide +kernel
theorem d_X_told_46 : decode y_X_told.2.1 46 = .ok (.goto 19, 3) := by decide +kernel
theorem d_X_told_26 : decode y_X_told.2.1 26 = .ok (.aload_n 0, 1) := by decide +kernel
theorem d_X_told_27 : decode y_X_told.2.1 27 = .ok (.getfield 344, 3) := by decide +kernel
theorem d_X_told_30 : decode y_X_told.2.1 30 = .ok (.goto 35, 3) := by decide +kernel
theorem d_X_told_9 : decode y_X_told.2.1 9 = .ok (.aload_n 0, 1) := by decide +kernel
theorem d_X_told_10 : decode y_X_told.2.1 10 = .ok (.getfield 7, 3) := by decide +kernel
theorem d_X_told_13 : decode y_X_told.2.1 13 = .ok (.iconst 1, 1) := by decide +kernel
theorem d_X_told_14 : decode y_X_told.2.1 14 = .ok (.iload_n 1, 1) := by decide +kernel
theorem d_X_told_15 : decode y_X_told.2.1 15 = .ok (.iadd, 1) := by decide +kernel
theorem d_X_told_16 : decode y_X_told.2.1 16 = .ok (.iaload, 1) := by decide +kernel
theorem d_X_told_17 : decode y_X_told.2.1 17 = .ok (.goto 48, 3) := by decide +kernel
abbrev y_X_image : MI := (⟨"SinglesUpModel", "image", "(Z)Z"⟩, prog_11_method_97_code, 3, some .boolean)
theorem d_X_image_0 : decode y_X_image.2.1 0 = .ok (.iload_n 1, 1) := by decide +kernel
theorem d_X_image_1 : decode y_X_image.2.1 1 = .ok (.ifCond .ne 12, 3) := by decide +kernel
theorem d_X_image_4 : decode y_X_image.2.1 4 = .ok (.aload_n 0, 1) := by decide +kernel
theorem d_X_image_5 : decode y_X_image.2.1 5 = .ok (.getfield 420, 3) := by decide +kernel
theorem fl_X_420 : FL "SinglesUpModel" 420 9 3 := ⟨"SinglesUpModel", zT9, 51, rfl, by decide, rfl, Or.inl (tw_in 1152 (by decide +kernel) rfl)⟩
theorem d_X_image_8 : decode y_X_image.2.1 8 = .ok (.ifCond .ne 5, 3) := by decide +kernel
theorem d_X_image_11 : decode y_X_image.2.1 11 = .ok (.iconst 0, 1) := by decide +kernel
theorem d_X_image_12 : decode y_X_image.2.1 12 = .ok (.ireturn, 1) := by decide +kernel
section
variable {l : Launch} {b : PB}
/-- what a fresh reference holds -/
def FRm (I : Nat → Nat → Int32) : Prop :=
  GM I 4 0 0 ∧ I 1 0 = nI 0 ∧ I 1 2 = nI 6 ∧ I 1 3 = nI 40 ∧ I 1 5 = nI 0 ∧ I 1 6 = nI 0 ∧ I 1 7 = nI 0 ∧ I 1 73 = nI 0 ∧ I 1 74 = nI 0 ∧ (∀ j, j < 9 → I 1 (60 + j) = nI 0) ∧ I 1 110 = (-1) ∧ I 0 3 = nI 0 ∧ I 0 12 = nI 0 ∧ I 0 19 = nI 0 ∧ I 0 21 = (-1) ∧ I 0 22 = (-1) ∧ I 0 23 = (-1) ∧ I 0 35 = nI 0
theorem nI_of_toInt {x : Int32} {c : Nat} (h : x.toInt = (c : Int)) (hc : c < 2 ^ 31) : x = nI c := Int32.toInt_inj.mp (h.trans (nI_toInt hc).symm)
set_option maxRecDepth 20000 in
theorem ms_state {K2 : K2T} {I : Nat → Nat → Int32} (hR : FRm I) {x : Int32} (hK : ∀ I', K2 (some (.int (nI 0))) I') : Ss l b 14 y_X_state KM RM [.ref 0, .int (x)] (I) K2 := by
  obtain ⟨hF, w0, w2, w3, w5, w6, w7, w73, w74, wh, w110, o3, o12, o19, o21, o22, o23, o35⟩ := hR
  have hF0 := hF
  obtain ⟨g0, g1, g2, g3, g4, g5, g6, g7, g8, g9, g10, g11, g12, gb⟩ := hF
  refine Ss.of (show As l b 14 y_X_state KM RM K2 (I) 0 [.ref 0, .int (x), uu] [] from ?_)
  refine aw_aload_n rfl rfl d_X_state_0 ?_
  refine aw_getr fl_X_7 km_0 (by decide) rfl rm_0_0 d_X_state_1 ?_
  refine aw_iconst (v := nI 0) ci_0 d_X_state_4 ?_
  refine aw_iald (j := 0) km_1 (vp_in_nI (by decide) (by decide)) (nI_clamp (by decide)) d_X_state_5 ?_
  refine aw_top (x2 := nI 0) (w0) ?_
  refine aw_istore_n (lv2 := [.ref 0, .int (x), .int (nI 0)]) rfl (by decide) rfl d_X_state_6 ?_
  refine aw_aload_n rfl rfl d_X_state_7 ?_
  refine aw_getr fl_X_7 km_0 (by decide) rfl rm_0_0 d_X_state_8 ?_
  refine aw_iconst (v := nI 0) ci_0 d_X_state_11 ?_
  refine aw_iload_n rfl rfl d_X_state_12 ?_
  refine aw_iast (j := 0) km_1 (vp_in_nI (by decide) (by decide)) (nI_clamp (by decide)) d_X_state_13 ?_
  refine aw_iload_n rfl rfl d_X_state_14 ?_
  exact as_reti rfl d_X_state_15 (hK _)
set_option maxRecDepth 20000 in
theorem ms_set {K2 : K2T} {I : Nat → Nat → Int32} (hR : FRm I) {x z : Int32} (h1 : (x.toInt = 0 ∧ 2 ≤ z.toInt ∧ z.toInt ≤ 8) ∨ (x.toInt = 1 ∧ 1 ≤ z.toInt ∧ z.toInt ≤ 99) ∨ (x.toInt = 2 ∧ 0 ≤ z.toInt ∧ z.toInt ≤ 999) ∨ (x.toInt = 3 ∧ 0 ≤ z.toInt ∧ z.toInt ≤ 1000) ∨ (x.toInt = 4 ∧ 0 ≤ z.toInt ∧ z.toInt ≤ 99) ∨ (x.toInt = 5 ∧ 0 ≤ z.toInt ∧ z.toInt ≤ 3) → ∀ I', K2 (some (.int (nI 1))) I') (h0 : ¬ ((x.toInt = 0 ∧ 2 ≤ z.toInt ∧ z.toInt ≤ 8) ∨ (x.toInt = 1 ∧ 1 ≤ z.toInt ∧ z.toInt ≤ 99) ∨ (x.toInt = 2 ∧ 0 ≤ z.toInt ∧ z.toInt ≤ 999) ∨ (x.toInt = 3 ∧ 0 ≤ z.toInt ∧ z.toInt ≤ 1000) ∨ (x.toInt = 4 ∧ 0 ≤ z.toInt ∧ z.toInt ≤ 99) ∨ (x.toInt = 5 ∧ 0 ≤ z.toInt ∧ z.toInt ≤ 3)) → ∀ I', K2 (some (.int (nI 0))) I') : Ss l b 14 y_X_set KM RM [.ref 0, .int (x), .int (z)] (I) K2 := by
  obtain ⟨hF, w0, w2, w3, w5, w6, w7, w73, w74, wh, w110, o3, o12, o19, o21, o22, o23, o35⟩ := hR
  have hF0 := hF
  obtain ⟨g0, g1, g2, g3, g4, g5, g6, g7, g8, g9, g10, g11, g12, gb⟩ := hF
  refine Ss.of (show As l b 14 y_X_set KM RM K2 (I) 0 [.ref 0, .int (x), .int (z), uu] [] from ?_)
  refine aw_iload_n rfl rfl d_X_set_0 ?_
  refine aw_if_neI (tgt := 14) (x).toInt rfl (by decide) d_X_set_1 (fun c1 => ?_) (fun c1 => ?_)
  · refine aw_iload_n rfl rfl d_X_set_14 ?_
    refine aw_iconst (v := nI 1) ci_1 d_X_set_15 ?_
    refine aw_icmp_neI (tgt := 29) (x).toInt (1) rfl (by decide +kernel) (by decide) d_X_set_16 (fun c2 => ?_) (fun c2 => ?_)
    · refine aw_iload_n rfl rfl d_X_set_29 ?_
      refine aw_iconst (v := nI 2) ci_2 d_X_set_30 ?_
      refine aw_icmp_neI (tgt := 45) (x).toInt (2) rfl (by decide +kernel) (by decide) d_X_set_31 (fun c3 => ?_) (fun c3 => ?_)
      · refine aw_iload_n rfl rfl d_X_set_45 ?_
        refine aw_iconst (v := nI 3) ci_3 d_X_set_46 ?_
        refine aw_icmp_neI (tgt := 61) (x).toInt (3) rfl (by decide +kernel) (by decide) d_X_set_47 (fun c4 => ?_) (fun c4 => ?_)
        · refine aw_iload_n rfl rfl d_X_set_61 ?_
          refine aw_iconst (v := nI 4) ci_4 d_X_set_62 ?_
          refine aw_icmp_neI (tgt := 76) (x).toInt (4) rfl (by decide +kernel) (by decide) d_X_set_63 (fun c5 => ?_) (fun c5 => ?_)
          · refine aw_iload_n rfl rfl d_X_set_76 ?_
            refine aw_iconst (v := nI 5) ci_5 d_X_set_77 ?_
            refine aw_icmp_neI (tgt := 94) (x).toInt (5) rfl (by decide +kernel) (by decide) d_X_set_78 (fun c6 => ?_) (fun c6 => ?_)
            · refine aw_iconst (v := nI 0) ci_0 d_X_set_94 ?_
              refine aw_istore_n (lv2 := [.ref 0, .int (x), .int (z), .int (nI 0)]) rfl (by decide) rfl d_X_set_95 ?_
              refine aw_iload_n rfl rfl d_X_set_96 ?_
              refine aw_if_neI (tgt := 102) (0) (by decide +kernel) (by decide) d_X_set_97 (fun q => absurd q (by decide)) (fun _ => ?_)
              refine aw_iconst (v := nI 0) ci_0 d_X_set_100 ?_
              exact as_retz rfl (by decide +kernel) d_X_set_101 (h0 (by omega) _)
            · refine aw_iload_n rfl rfl d_X_set_81 ?_
              refine aw_iconst (v := nI 0) ci_0 d_X_set_82 ?_
              refine aw_iconst (v := nI 3) ci_3 d_X_set_83 ?_
              refine as_callS (as := [.int (z), .int (nI 0), .int (nI 3)]) (d' := 13) mo_X_isIn lk_X_98 rfl ⟨by decide, by decide⟩ rfl rfl (by decide) d_X_set_84 (Ss.of (show As l b 13 y_X_isIn KM RM _ (I) 0 [.int (z), .int (nI 0), .int (nI 3)] [] from ?_))
              refine aw_iload_n rfl rfl d_X_isIn_0 ?_
              refine aw_iload_n rfl rfl d_X_isIn_1 ?_
              refine aw_icmp_ltI (tgt := 14) (z).toInt (0) rfl (by decide +kernel) (by decide) d_X_isIn_2 (fun c7 => ?_) (fun c7 => ?_)
              · refine aw_iconst (v := nI 0) ci_0 d_X_isIn_14 ?_
                refine as_retz rfl (by decide +kernel) d_X_isIn_15 ?_
                refine (show As l b 14 y_X_set KM RM K2 (I) 87 [.ref 0, .int (x), .int (z), uu] [.int (nI 0)] from ?_)
                refine aw_if_eqI (tgt := 94) (0) (by decide +kernel) (by decide) d_X_set_87 (fun _ => ?_) (fun q => absurd q (by decide))
                refine aw_iconst (v := nI 0) ci_0 d_X_set_94 ?_
                refine aw_istore_n (lv2 := [.ref 0, .int (x), .int (z), .int (nI 0)]) rfl (by decide) rfl d_X_set_95 ?_
                refine aw_iload_n rfl rfl d_X_set_96 ?_
                refine aw_if_neI (tgt := 102) (0) (by decide +kernel) (by decide) d_X_set_97 (fun q => absurd q (by decide)) (fun _ => ?_)
                refine aw_iconst (v := nI 0) ci_0 d_X_set_100 ?_
                exact as_retz rfl (by decide +kernel) d_X_set_101 (h0 (by omega) _)
              · refine aw_iload_n rfl rfl d_X_isIn_5 ?_
                refine aw_iload_n rfl rfl d_X_isIn_6 ?_
                refine aw_icmp_gtI (tgt := 14) (z).toInt (3) rfl (by decide +kernel) (by decide) d_X_isIn_7 (fun c8 => ?_) (fun c8 => ?_)
                · refine aw_iconst (v := nI 0) ci_0 d_X_isIn_14 ?_
                  refine as_retz rfl (by decide +kernel) d_X_isIn_15 ?_
                  refine (show As l b 14 y_X_set KM RM K2 (I) 87 [.ref 0, .int (x), .int (z), uu] [.int (nI 0)] from ?_)
                  refine aw_if_eqI (tgt := 94) (0) (by decide +kernel) (by decide) d_X_set_87 (fun _ => ?_) (fun q => absurd q (by decide))
                  refine aw_iconst (v := nI 0) ci_0 d_X_set_94 ?_
                  refine aw_istore_n (lv2 := [.ref 0, .int (x), .int (z), .int (nI 0)]) rfl (by decide) rfl d_X_set_95 ?_
                  refine aw_iload_n rfl rfl d_X_set_96 ?_
                  refine aw_if_neI (tgt := 102) (0) (by decide +kernel) (by decide) d_X_set_97 (fun q => absurd q (by decide)) (fun _ => ?_)
                  refine aw_iconst (v := nI 0) ci_0 d_X_set_100 ?_
                  exact as_retz rfl (by decide +kernel) d_X_set_101 (h0 (by omega) _)
                · refine aw_iconst (v := nI 1) ci_1 d_X_isIn_10 ?_
                  refine aw_goto (tgt := 15) (by decide) d_X_isIn_11 ?_
                  refine as_retz rfl (by decide +kernel) d_X_isIn_15 ?_
                  refine (show As l b 14 y_X_set KM RM K2 (I) 87 [.ref 0, .int (x), .int (z), uu] [.int (nI 1)] from ?_)
                  refine aw_if_eqI (tgt := 94) (1) (by decide +kernel) (by decide) d_X_set_87 (fun q => absurd q (by decide)) (fun _ => ?_)
                  refine aw_iconst (v := nI 1) ci_1 d_X_set_90 ?_
                  refine aw_goto (tgt := 95) (by decide) d_X_set_91 ?_
                  refine aw_istore_n (lv2 := [.ref 0, .int (x), .int (z), .int (nI 1)]) rfl (by decide) rfl d_X_set_95 ?_
                  refine aw_iload_n rfl rfl d_X_set_96 ?_
                  refine aw_if_neI (tgt := 102) (1) (by decide +kernel) (by decide) d_X_set_97 (fun _ => ?_) (fun q => absurd q (by decide))
                  obtain rfl := nI_of_toInt (c := 5) (show (x).toInt = ((5 : Nat) : Int) by omega) (by decide)
                  refine aw_aload_n rfl rfl d_X_set_102 ?_
                  refine aw_getr fl_X_7 km_0 (by decide) rfl rm_0_0 d_X_set_103 ?_
                  refine aw_iconst (v := nI 1) ci_1 d_X_set_106 ?_
                  refine aw_iload_n rfl rfl d_X_set_107 ?_
                  refine aw_iadd d_X_set_108 ?_
                  refine aw_top (x2 := nI 6) (by decide +kernel) ?_
                  refine aw_iload_n rfl rfl d_X_set_109 ?_
                  refine aw_iast (j := 6) km_1 (vp_in_nI (by decide) (by decide)) (nI_clamp (by decide)) d_X_set_110 ?_
                  refine aw_iload_n rfl rfl d_X_set_111 ?_
                  refine aw_if_neI (tgt := 119) (5) (by decide +kernel) (by decide) d_X_set_112 (fun _ => ?_) (fun q => absurd q (by decide))
                  refine aw_iconst (v := nI 1) ci_1 d_X_set_119 ?_
                  exact as_retz rfl (by decide +kernel) d_X_set_120 (h1 (by omega) _)
          · refine aw_iload_n rfl rfl d_X_set_66 ?_
            refine aw_iconst (v := nI 0) ci_0 d_X_set_67 ?_
            refine aw_bipush (v := nI 99) cb_99 d_X_set_68 ?_
            refine as_callS (as := [.int (z), .int (nI 0), .int (nI 99)]) (d' := 13) mo_X_isIn lk_X_98 rfl ⟨by decide, by decide⟩ rfl rfl (by decide) d_X_set_70 (Ss.of (show As l b 13 y_X_isIn KM RM _ (I) 0 [.int (z), .int (nI 0), .int (nI 99)] [] from ?_))
            refine aw_iload_n rfl rfl d_X_isIn_0 ?_
            refine aw_iload_n rfl rfl d_X_isIn_1 ?_
            refine aw_icmp_ltI (tgt := 14) (z).toInt (0) rfl (by decide +kernel) (by decide) d_X_isIn_2 (fun c9 => ?_) (fun c9 => ?_)
            · refine aw_iconst (v := nI 0) ci_0 d_X_isIn_14 ?_
              refine as_retz rfl (by decide +kernel) d_X_isIn_15 ?_
              refine (show As l b 14 y_X_set KM RM K2 (I) 73 [.ref 0, .int (x), .int (z), uu] [.int (nI 0)] from ?_)
              refine aw_goto (tgt := 95) (by decide) d_X_set_73 ?_
              refine aw_istore_n (lv2 := [.ref 0, .int (x), .int (z), .int (nI 0)]) rfl (by decide) rfl d_X_set_95 ?_
              refine aw_iload_n rfl rfl d_X_set_96 ?_
              refine aw_if_neI (tgt := 102) (0) (by decide +kernel) (by decide) d_X_set_97 (fun q => absurd q (by decide)) (fun _ => ?_)
              refine aw_iconst (v := nI 0) ci_0 d_X_set_100 ?_
              exact as_retz rfl (by decide +kernel) d_X_set_101 (h0 (by omega) _)
            · refine aw_iload_n rfl rfl d_X_isIn_5 ?_
              refine aw_iload_n rfl rfl d_X_isIn_6 ?_
              refine aw_icmp_gtI (tgt := 14) (z).toInt (99) rfl (by decide +kernel) (by decide) d_X_isIn_7 (fun c10 => ?_) (fun c10 => ?_)
              · refine aw_iconst (v := nI 0) ci_0 d_X_isIn_14 ?_
                refine as_retz rfl (by decide +kernel) d_X_isIn_15 ?_
                refine (show As l b 14 y_X_set KM RM K2 (I) 73 [.ref 0, .int (x), .int (z), uu] [.int (nI 0)] from ?_)
                refine aw_goto (tgt := 95) (by decide) d_X_set_73 ?_
                refine aw_istore_n (lv2 := [.ref 0, .int (x), .int (z), .int (nI 0)]) rfl (by decide) rfl d_X_set_95 ?_
                refine aw_iload_n rfl rfl d_X_set_96 ?_
                refine aw_if_neI (tgt := 102) (0) (by decide +kernel) (by decide) d_X_set_97 (fun q => absurd q (by decide)) (fun _ => ?_)
                refine aw_iconst (v := nI 0) ci_0 d_X_set_100 ?_
                exact as_retz rfl (by decide +kernel) d_X_set_101 (h0 (by omega) _)
              · refine aw_iconst (v := nI 1) ci_1 d_X_isIn_10 ?_
                refine aw_goto (tgt := 15) (by decide) d_X_isIn_11 ?_
                refine as_retz rfl (by decide +kernel) d_X_isIn_15 ?_
                refine (show As l b 14 y_X_set KM RM K2 (I) 73 [.ref 0, .int (x), .int (z), uu] [.int (nI 1)] from ?_)
                refine aw_goto (tgt := 95) (by decide) d_X_set_73 ?_
                refine aw_istore_n (lv2 := [.ref 0, .int (x), .int (z), .int (nI 1)]) rfl (by decide) rfl d_X_set_95 ?_
                refine aw_iload_n rfl rfl d_X_set_96 ?_
                refine aw_if_neI (tgt := 102) (1) (by decide +kernel) (by decide) d_X_set_97 (fun _ => ?_) (fun q => absurd q (by decide))
                obtain rfl := nI_of_toInt (c := 4) (show (x).toInt = ((4 : Nat) : Int) by omega) (by decide)
                refine aw_aload_n rfl rfl d_X_set_102 ?_
                refine aw_getr fl_X_7 km_0 (by decide) rfl rm_0_0 d_X_set_103 ?_
                refine aw_iconst (v := nI 1) ci_1 d_X_set_106 ?_
                refine aw_iload_n rfl rfl d_X_set_107 ?_
                refine aw_iadd d_X_set_108 ?_
                refine aw_top (x2 := nI 5) (by decide +kernel) ?_
                refine aw_iload_n rfl rfl d_X_set_109 ?_
                refine aw_iast (j := 5) km_1 (vp_in_nI (by decide) (by decide)) (nI_clamp (by decide)) d_X_set_110 ?_
                refine aw_iload_n rfl rfl d_X_set_111 ?_
                refine aw_if_neI (tgt := 119) (4) (by decide +kernel) (by decide) d_X_set_112 (fun _ => ?_) (fun q => absurd q (by decide))
                refine aw_iconst (v := nI 1) ci_1 d_X_set_119 ?_
                exact as_retz rfl (by decide +kernel) d_X_set_120 (h1 (by omega) _)
        · refine aw_iload_n rfl rfl d_X_set_50 ?_
          refine aw_iconst (v := nI 0) ci_0 d_X_set_51 ?_
          refine aw_sipush (v := nI 1000) cs_1000 d_X_set_52 ?_
          refine as_callS (as := [.int (z), .int (nI 0), .int (nI 1000)]) (d' := 13) mo_X_isIn lk_X_98 rfl ⟨by decide, by decide⟩ rfl rfl (by decide) d_X_set_55 (Ss.of (show As l b 13 y_X_isIn KM RM _ (I) 0 [.int (z), .int (nI 0), .int (nI 1000)] [] from ?_))
          refine aw_iload_n rfl rfl d_X_isIn_0 ?_
          refine aw_iload_n rfl rfl d_X_isIn_1 ?_
          refine aw_icmp_ltI (tgt := 14) (z).toInt (0) rfl (by decide +kernel) (by decide) d_X_isIn_2 (fun c11 => ?_) (fun c11 => ?_)
          · refine aw_iconst (v := nI 0) ci_0 d_X_isIn_14 ?_
            refine as_retz rfl (by decide +kernel) d_X_isIn_15 ?_
            refine (show As l b 14 y_X_set KM RM K2 (I) 58 [.ref 0, .int (x), .int (z), uu] [.int (nI 0)] from ?_)
            refine aw_goto (tgt := 95) (by decide) d_X_set_58 ?_
            refine aw_istore_n (lv2 := [.ref 0, .int (x), .int (z), .int (nI 0)]) rfl (by decide) rfl d_X_set_95 ?_
            refine aw_iload_n rfl rfl d_X_set_96 ?_
            refine aw_if_neI (tgt := 102) (0) (by decide +kernel) (by decide) d_X_set_97 (fun q => absurd q (by decide)) (fun _ => ?_)
            refine aw_iconst (v := nI 0) ci_0 d_X_set_100 ?_
            exact as_retz rfl (by decide +kernel) d_X_set_101 (h0 (by omega) _)
          · refine aw_iload_n rfl rfl d_X_isIn_5 ?_
            refine aw_iload_n rfl rfl d_X_isIn_6 ?_
            refine aw_icmp_gtI (tgt := 14) (z).toInt (1000) rfl (by decide +kernel) (by decide) d_X_isIn_7 (fun c12 => ?_) (fun c12 => ?_)
            · refine aw_iconst (v := nI 0) ci_0 d_X_isIn_14 ?_
              refine as_retz rfl (by decide +kernel) d_X_isIn_15 ?_
              refine (show As l b 14 y_X_set KM RM K2 (I) 58 [.ref 0, .int (x), .int (z), uu] [.int (nI 0)] from ?_)
              refine aw_goto (tgt := 95) (by decide) d_X_set_58 ?_
              refine aw_istore_n (lv2 := [.ref 0, .int (x), .int (z), .int (nI 0)]) rfl (by decide) rfl d_X_set_95 ?_
              refine aw_iload_n rfl rfl d_X_set_96 ?_
              refine aw_if_neI (tgt := 102) (0) (by decide +kernel) (by decide) d_X_set_97 (fun q => absurd q (by decide)) (fun _ => ?_)
              refine aw_iconst (v := nI 0) ci_0 d_X_set_100 ?_
              exact as_retz rfl (by decide +kernel) d_X_set_101 (h0 (by omega) _)
            · refine aw_iconst (v := nI 1) ci_1 d_X_isIn_10 ?_
              refine aw_goto (tgt := 15) (by decide) d_X_isIn_11 ?_
              refine as_retz rfl (by decide +kernel) d_X_isIn_15 ?_
              refine (show As l b 14 y_X_set KM RM K2 (I) 58 [.ref 0, .int (x), .int (z), uu] [.int (nI 1)] from ?_)
              refine aw_goto (tgt := 95) (by decide) d_X_set_58 ?_
              refine aw_istore_n (lv2 := [.ref 0, .int (x), .int (z), .int (nI 1)]) rfl (by decide) rfl d_X_set_95 ?_
              refine aw_iload_n rfl rfl d_X_set_96 ?_
              refine aw_if_neI (tgt := 102) (1) (by decide +kernel) (by decide) d_X_set_97 (fun _ => ?_) (fun q => absurd q (by decide))
              obtain rfl := nI_of_toInt (c := 3) (show (x).toInt = ((3 : Nat) : Int) by omega) (by decide)
              refine aw_aload_n rfl rfl d_X_set_102 ?_
              refine aw_getr fl_X_7 km_0 (by decide) rfl rm_0_0 d_X_set_103 ?_
              refine aw_iconst (v := nI 1) ci_1 d_X_set_106 ?_
              refine aw_iload_n rfl rfl d_X_set_107 ?_
              refine aw_iadd d_X_set_108 ?_
              refine aw_top (x2 := nI 4) (by decide +kernel) ?_
              refine aw_iload_n rfl rfl d_X_set_109 ?_
              refine aw_iast (j := 4) km_1 (vp_in_nI (by decide) (by decide)) (nI_clamp (by decide)) d_X_set_110 ?_
              refine aw_iload_n rfl rfl d_X_set_111 ?_
              refine aw_if_neI (tgt := 119) (3) (by decide +kernel) (by decide) d_X_set_112 (fun _ => ?_) (fun q => absurd q (by decide))
              refine aw_iconst (v := nI 1) ci_1 d_X_set_119 ?_
              exact as_retz rfl (by decide +kernel) d_X_set_120 (h1 (by omega) _)
      · refine aw_iload_n rfl rfl d_X_set_34 ?_
        refine aw_iconst (v := nI 0) ci_0 d_X_set_35 ?_
        refine aw_sipush (v := nI 999) cs_999 d_X_set_36 ?_
        refine as_callS (as := [.int (z), .int (nI 0), .int (nI 999)]) (d' := 13) mo_X_isIn lk_X_98 rfl ⟨by decide, by decide⟩ rfl rfl (by decide) d_X_set_39 (Ss.of (show As l b 13 y_X_isIn KM RM _ (I) 0 [.int (z), .int (nI 0), .int (nI 999)] [] from ?_))
        refine aw_iload_n rfl rfl d_X_isIn_0 ?_
        refine aw_iload_n rfl rfl d_X_isIn_1 ?_
        refine aw_icmp_ltI (tgt := 14) (z).toInt (0) rfl (by decide +kernel) (by decide) d_X_isIn_2 (fun c13 => ?_) (fun c13 => ?_)
        · refine aw_iconst (v := nI 0) ci_0 d_X_isIn_14 ?_
          refine as_retz rfl (by decide +kernel) d_X_isIn_15 ?_
          refine (show As l b 14 y_X_set KM RM K2 (I) 42 [.ref 0, .int (x), .int (z), uu] [.int (nI 0)] from ?_)
          refine aw_goto (tgt := 95) (by decide) d_X_set_42 ?_
          refine aw_istore_n (lv2 := [.ref 0, .int (x), .int (z), .int (nI 0)]) rfl (by decide) rfl d_X_set_95 ?_
          refine aw_iload_n rfl rfl d_X_set_96 ?_
          refine aw_if_neI (tgt := 102) (0) (by decide +kernel) (by decide) d_X_set_97 (fun q => absurd q (by decide)) (fun _ => ?_)
          refine aw_iconst (v := nI 0) ci_0 d_X_set_100 ?_
          exact as_retz rfl (by decide +kernel) d_X_set_101 (h0 (by omega) _)
        · refine aw_iload_n rfl rfl d_X_isIn_5 ?_
          refine aw_iload_n rfl rfl d_X_isIn_6 ?_
          refine aw_icmp_gtI (tgt := 14) (z).toInt (999) rfl (by decide +kernel) (by decide) d_X_isIn_7 (fun c14 => ?_) (fun c14 => ?_)
          · refine aw_iconst (v := nI 0) ci_0 d_X_isIn_14 ?_
            refine as_retz rfl (by decide +kernel) d_X_isIn_15 ?_
            refine (show As l b 14 y_X_set KM RM K2 (I) 42 [.ref 0, .int (x), .int (z), uu] [.int (nI 0)] from ?_)
            refine aw_goto (tgt := 95) (by decide) d_X_set_42 ?_
            refine aw_istore_n (lv2 := [.ref 0, .int (x), .int (z), .int (nI 0)]) rfl (by decide) rfl d_X_set_95 ?_
            refine aw_iload_n rfl rfl d_X_set_96 ?_
            refine aw_if_neI (tgt := 102) (0) (by decide +kernel) (by decide) d_X_set_97 (fun q => absurd q (by decide)) (fun _ => ?_)
            refine aw_iconst (v := nI 0) ci_0 d_X_set_100 ?_
            exact as_retz rfl (by decide +kernel) d_X_set_101 (h0 (by omega) _)
          · refine aw_iconst (v := nI 1) ci_1 d_X_isIn_10 ?_
            refine aw_goto (tgt := 15) (by decide) d_X_isIn_11 ?_
            refine as_retz rfl (by decide +kernel) d_X_isIn_15 ?_
            refine (show As l b 14 y_X_set KM RM K2 (I) 42 [.ref 0, .int (x), .int (z), uu] [.int (nI 1)] from ?_)
            refine aw_goto (tgt := 95) (by decide) d_X_set_42 ?_
            refine aw_istore_n (lv2 := [.ref 0, .int (x), .int (z), .int (nI 1)]) rfl (by decide) rfl d_X_set_95 ?_
            refine aw_iload_n rfl rfl d_X_set_96 ?_
            refine aw_if_neI (tgt := 102) (1) (by decide +kernel) (by decide) d_X_set_97 (fun _ => ?_) (fun q => absurd q (by decide))
            obtain rfl := nI_of_toInt (c := 2) (show (x).toInt = ((2 : Nat) : Int) by omega) (by decide)
            refine aw_aload_n rfl rfl d_X_set_102 ?_
            refine aw_getr fl_X_7 km_0 (by decide) rfl rm_0_0 d_X_set_103 ?_
            refine aw_iconst (v := nI 1) ci_1 d_X_set_106 ?_
            refine aw_iload_n rfl rfl d_X_set_107 ?_
            refine aw_iadd d_X_set_108 ?_
            refine aw_top (x2 := nI 3) (by decide +kernel) ?_
            refine aw_iload_n rfl rfl d_X_set_109 ?_
            refine aw_iast (j := 3) km_1 (vp_in_nI (by decide) (by decide)) (nI_clamp (by decide)) d_X_set_110 ?_
            refine aw_iload_n rfl rfl d_X_set_111 ?_
            refine aw_if_neI (tgt := 119) (2) (by decide +kernel) (by decide) d_X_set_112 (fun _ => ?_) (fun q => absurd q (by decide))
            refine aw_iconst (v := nI 1) ci_1 d_X_set_119 ?_
            exact as_retz rfl (by decide +kernel) d_X_set_120 (h1 (by omega) _)
    · refine aw_iload_n rfl rfl d_X_set_19 ?_
      refine aw_iconst (v := nI 1) ci_1 d_X_set_20 ?_
      refine aw_bipush (v := nI 99) cb_99 d_X_set_21 ?_
      refine as_callS (as := [.int (z), .int (nI 1), .int (nI 99)]) (d' := 13) mo_X_isIn lk_X_98 rfl ⟨by decide, by decide⟩ rfl rfl (by decide) d_X_set_23 (Ss.of (show As l b 13 y_X_isIn KM RM _ (I) 0 [.int (z), .int (nI 1), .int (nI 99)] [] from ?_))
      refine aw_iload_n rfl rfl d_X_isIn_0 ?_
      refine aw_iload_n rfl rfl d_X_isIn_1 ?_
      refine aw_icmp_ltI (tgt := 14) (z).toInt (1) rfl (by decide +kernel) (by decide) d_X_isIn_2 (fun c15 => ?_) (fun c15 => ?_)
      · refine aw_iconst (v := nI 0) ci_0 d_X_isIn_14 ?_
        refine as_retz rfl (by decide +kernel) d_X_isIn_15 ?_
        refine (show As l b 14 y_X_set KM RM K2 (I) 26 [.ref 0, .int (x), .int (z), uu] [.int (nI 0)] from ?_)
        refine aw_goto (tgt := 95) (by decide) d_X_set_26 ?_
        refine aw_istore_n (lv2 := [.ref 0, .int (x), .int (z), .int (nI 0)]) rfl (by decide) rfl d_X_set_95 ?_
        refine aw_iload_n rfl rfl d_X_set_96 ?_
        refine aw_if_neI (tgt := 102) (0) (by decide +kernel) (by decide) d_X_set_97 (fun q => absurd q (by decide)) (fun _ => ?_)
        refine aw_iconst (v := nI 0) ci_0 d_X_set_100 ?_
        exact as_retz rfl (by decide +kernel) d_X_set_101 (h0 (by omega) _)
      · refine aw_iload_n rfl rfl d_X_isIn_5 ?_
        refine aw_iload_n rfl rfl d_X_isIn_6 ?_
        refine aw_icmp_gtI (tgt := 14) (z).toInt (99) rfl (by decide +kernel) (by decide) d_X_isIn_7 (fun c16 => ?_) (fun c16 => ?_)
        · refine aw_iconst (v := nI 0) ci_0 d_X_isIn_14 ?_
          refine as_retz rfl (by decide +kernel) d_X_isIn_15 ?_
          refine (show As l b 14 y_X_set KM RM K2 (I) 26 [.ref 0, .int (x), .int (z), uu] [.int (nI 0)] from ?_)
          refine aw_goto (tgt := 95) (by decide) d_X_set_26 ?_
          refine aw_istore_n (lv2 := [.ref 0, .int (x), .int (z), .int (nI 0)]) rfl (by decide) rfl d_X_set_95 ?_
          refine aw_iload_n rfl rfl d_X_set_96 ?_
          refine aw_if_neI (tgt := 102) (0) (by decide +kernel) (by decide) d_X_set_97 (fun q => absurd q (by decide)) (fun _ => ?_)
          refine aw_iconst (v := nI 0) ci_0 d_X_set_100 ?_
          exact as_retz rfl (by decide +kernel) d_X_set_101 (h0 (by omega) _)
        · refine aw_iconst (v := nI 1) ci_1 d_X_isIn_10 ?_
          refine aw_goto (tgt := 15) (by decide) d_X_isIn_11 ?_
          refine as_retz rfl (by decide +kernel) d_X_isIn_15 ?_
          refine (show As l b 14 y_X_set KM RM K2 (I) 26 [.ref 0, .int (x), .int (z), uu] [.int (nI 1)] from ?_)
          refine aw_goto (tgt := 95) (by decide) d_X_set_26 ?_
          refine aw_istore_n (lv2 := [.ref 0, .int (x), .int (z), .int (nI 1)]) rfl (by decide) rfl d_X_set_95 ?_
          refine aw_iload_n rfl rfl d_X_set_96 ?_
          refine aw_if_neI (tgt := 102) (1) (by decide +kernel) (by decide) d_X_set_97 (fun _ => ?_) (fun q => absurd q (by decide))
          obtain rfl := nI_of_toInt (c := 1) (show (x).toInt = ((1 : Nat) : Int) by omega) (by decide)
          refine aw_aload_n rfl rfl d_X_set_102 ?_
          refine aw_getr fl_X_7 km_0 (by decide) rfl rm_0_0 d_X_set_103 ?_
          refine aw_iconst (v := nI 1) ci_1 d_X_set_106 ?_
          refine aw_iload_n rfl rfl d_X_set_107 ?_
          refine aw_iadd d_X_set_108 ?_
          refine aw_top (x2 := nI 2) (by decide +kernel) ?_
          refine aw_iload_n rfl rfl d_X_set_109 ?_
          refine aw_iast (j := 2) km_1 (vp_in_nI (by decide) (by decide)) (nI_clamp (by decide)) d_X_set_110 ?_
          refine aw_iload_n rfl rfl d_X_set_111 ?_
          refine aw_if_neI (tgt := 119) (1) (by decide +kernel) (by decide) d_X_set_112 (fun _ => ?_) (fun q => absurd q (by decide))
          refine aw_iconst (v := nI 1) ci_1 d_X_set_119 ?_
          exact as_retz rfl (by decide +kernel) d_X_set_120 (h1 (by omega) _)
  · refine aw_iload_n rfl rfl d_X_set_4 ?_
    refine aw_iconst (v := nI 2) ci_2 d_X_set_5 ?_
    refine aw_bipush (v := nI 8) cb_8 d_X_set_6 ?_
    refine as_callS (as := [.int (z), .int (nI 2), .int (nI 8)]) (d' := 13) mo_X_isIn lk_X_98 rfl ⟨by decide, by decide⟩ rfl rfl (by decide) d_X_set_8 (Ss.of (show As l b 13 y_X_isIn KM RM _ (I) 0 [.int (z), .int (nI 2), .int (nI 8)] [] from ?_))
    refine aw_iload_n rfl rfl d_X_isIn_0 ?_
    refine aw_iload_n rfl rfl d_X_isIn_1 ?_
    refine aw_icmp_ltI (tgt := 14) (z).toInt (2) rfl (by decide +kernel) (by decide) d_X_isIn_2 (fun c17 => ?_) (fun c17 => ?_)
    · refine aw_iconst (v := nI 0) ci_0 d_X_isIn_14 ?_
      refine as_retz rfl (by decide +kernel) d_X_isIn_15 ?_
      refine (show As l b 14 y_X_set KM RM K2 (I) 11 [.ref 0, .int (x), .int (z), uu] [.int (nI 0)] from ?_)
      refine aw_goto (tgt := 95) (by decide) d_X_set_11 ?_
      refine aw_istore_n (lv2 := [.ref 0, .int (x), .int (z), .int (nI 0)]) rfl (by decide) rfl d_X_set_95 ?_
      refine aw_iload_n rfl rfl d_X_set_96 ?_
      refine aw_if_neI (tgt := 102) (0) (by decide +kernel) (by decide) d_X_set_97 (fun q => absurd q (by decide)) (fun _ => ?_)
      refine aw_iconst (v := nI 0) ci_0 d_X_set_100 ?_
      exact as_retz rfl (by decide +kernel) d_X_set_101 (h0 (by omega) _)
    · refine aw_iload_n rfl rfl d_X_isIn_5 ?_
      refine aw_iload_n rfl rfl d_X_isIn_6 ?_
      refine aw_icmp_gtI (tgt := 14) (z).toInt (8) rfl (by decide +kernel) (by decide) d_X_isIn_7 (fun c18 => ?_) (fun c18 => ?_)
      · refine aw_iconst (v := nI 0) ci_0 d_X_isIn_14 ?_
        refine as_retz rfl (by decide +kernel) d_X_isIn_15 ?_
        refine (show As l b 14 y_X_set KM RM K2 (I) 11 [.ref 0, .int (x), .int (z), uu] [.int (nI 0)] from ?_)
        refine aw_goto (tgt := 95) (by decide) d_X_set_11 ?_
        refine aw_istore_n (lv2 := [.ref 0, .int (x), .int (z), .int (nI 0)]) rfl (by decide) rfl d_X_set_95 ?_
        refine aw_iload_n rfl rfl d_X_set_96 ?_
        refine aw_if_neI (tgt := 102) (0) (by decide +kernel) (by decide) d_X_set_97 (fun q => absurd q (by decide)) (fun _ => ?_)
        refine aw_iconst (v := nI 0) ci_0 d_X_set_100 ?_
        exact as_retz rfl (by decide +kernel) d_X_set_101 (h0 (by omega) _)
      · refine aw_iconst (v := nI 1) ci_1 d_X_isIn_10 ?_
        refine aw_goto (tgt := 15) (by decide) d_X_isIn_11 ?_
        refine as_retz rfl (by decide +kernel) d_X_isIn_15 ?_
        refine (show As l b 14 y_X_set KM RM K2 (I) 11 [.ref 0, .int (x), .int (z), uu] [.int (nI 1)] from ?_)
        refine aw_goto (tgt := 95) (by decide) d_X_set_11 ?_
        refine aw_istore_n (lv2 := [.ref 0, .int (x), .int (z), .int (nI 1)]) rfl (by decide) rfl d_X_set_95 ?_
        refine aw_iload_n rfl rfl d_X_set_96 ?_
        refine aw_if_neI (tgt := 102) (1) (by decide +kernel) (by decide) d_X_set_97 (fun _ => ?_) (fun q => absurd q (by decide))
        obtain rfl := nI_of_toInt (c := 0) (show (x).toInt = ((0 : Nat) : Int) by omega) (by decide)
        refine aw_aload_n rfl rfl d_X_set_102 ?_
        refine aw_getr fl_X_7 km_0 (by decide) rfl rm_0_0 d_X_set_103 ?_
        refine aw_iconst (v := nI 1) ci_1 d_X_set_106 ?_
        refine aw_iload_n rfl rfl d_X_set_107 ?_
        refine aw_iadd d_X_set_108 ?_
        refine aw_top (x2 := nI 1) (by decide +kernel) ?_
        refine aw_iload_n rfl rfl d_X_set_109 ?_
        refine aw_iast (j := 1) km_1 (vp_in_nI (by decide) (by decide)) (nI_clamp (by decide)) d_X_set_110 ?_
        refine aw_iload_n rfl rfl d_X_set_111 ?_
        refine aw_if_neI (tgt := 119) (0) (by decide +kernel) (by decide) d_X_set_112 (fun q => absurd q (by decide)) (fun _ => ?_)
        refine aw_aload_n rfl rfl d_X_set_115 ?_
        refine as_callV (as := []) (d' := 1) (q := ("SinglesUpModel", zT9, 51)) mo_X_forgets lk_X_102 km_0 rfl rfl rfl ⟨by decide, by decide⟩ rfl rfl (by decide) d_X_set_116 (sp_forgets (I := upd2 I 1 (1) (z)) ?_)
        refine (show As l b 14 y_X_set KM RM K2 (upd2 (updA (upd2 I 1 (1) (z)) 13 (fun j => if j < 240 then nI 0 else (upd2 I 1 (1) (z)) 13 j)) 0 35 (nI 0)) 119 [.ref 0, .int (nI 0), .int (z), .int (nI 1)] [] from ?_)
        refine aw_iconst (v := nI 1) ci_1 d_X_set_119 ?_
        exact as_retz rfl (by decide +kernel) d_X_set_120 (h1 (by omega) _)
set_option maxRecDepth 20000 in
theorem ms_seen {K2 : K2T} {I : Nat → Nat → Int32} (hR : FRm I) {x z : Int32} (h1 : 0 ≤ x.toInt ∧ x.toInt < 6 ∧ 1 ≤ z.toInt ∧ z.toInt ≤ 24 → ∀ I', K2 (some (.int (nI 1))) I') (h0 : ¬ (0 ≤ x.toInt ∧ x.toInt < 6 ∧ 1 ≤ z.toInt ∧ z.toInt ≤ 24) → ∀ I', K2 (some (.int (nI 0))) I') : Ss l b 14 y_X_seen KM RM [.ref 0, .int (x), .int (z)] (I) K2 := by
  obtain ⟨hF, w0, w2, w3, w5, w6, w7, w73, w74, wh, w110, o3, o12, o19, o21, o22, o23, o35⟩ := hR
  have hF0 := hF
  obtain ⟨g0, g1, g2, g3, g4, g5, g6, g7, g8, g9, g10, g11, g12, gb⟩ := hF
  refine Ss.of (show As l b 14 y_X_seen KM RM K2 (I) 0 [.ref 0, .int (x), .int (z)] [] from ?_)
  refine aw_iload_n rfl rfl d_X_seen_0 ?_
  refine as_callS (as := [.int (x)]) (d' := 13) mo_X_isLine lk_X_105 rfl ⟨by decide, by decide⟩ rfl rfl (by decide) d_X_seen_1 (Ss.of (show As l b 13 y_X_isLine KM RM _ (I) 0 [.int (x)] [] from ?_))
  refine aw_iload_n rfl rfl d_X_isLine_0 ?_
  refine aw_iconst (v := nI 0) ci_0 d_X_isLine_1 ?_
  refine aw_iconst (v := nI 5) ci_5 d_X_isLine_2 ?_
  refine as_callS (as := [.int (x), .int (nI 0), .int (nI 5)]) (d' := 12) mo_X_isIn lk_X_98 rfl ⟨by decide, by decide⟩ rfl rfl (by decide) d_X_isLine_3 (Ss.of (show As l b 12 y_X_isIn KM RM _ (I) 0 [.int (x), .int (nI 0), .int (nI 5)] [] from ?_))
  refine aw_iload_n rfl rfl d_X_isIn_0 ?_
  refine aw_iload_n rfl rfl d_X_isIn_1 ?_
  refine aw_icmp_ltI (tgt := 14) (x).toInt (0) rfl (by decide +kernel) (by decide) d_X_isIn_2 (fun c1 => ?_) (fun c1 => ?_)
  · refine aw_iconst (v := nI 0) ci_0 d_X_isIn_14 ?_
    refine as_retz rfl (by decide +kernel) d_X_isIn_15 ?_
    refine (show As l b 13 y_X_isLine KM RM _ (I) 6 [.int (x)] [.int (nI 0)] from ?_)
    refine as_retz rfl (by decide +kernel) d_X_isLine_6 ?_
    refine (show As l b 14 y_X_seen KM RM K2 (I) 4 [.ref 0, .int (x), .int (z)] [.int (nI 0)] from ?_)
    refine aw_if_eqI (tgt := 17) (0) (by decide +kernel) (by decide) d_X_seen_4 (fun _ => ?_) (fun q => absurd q (by decide))
    refine aw_iconst (v := nI 0) ci_0 d_X_seen_17 ?_
    exact as_retz rfl (by decide +kernel) d_X_seen_18 (h0 (by omega) _)
  · refine aw_iload_n rfl rfl d_X_isIn_5 ?_
    refine aw_iload_n rfl rfl d_X_isIn_6 ?_
    refine aw_icmp_gtI (tgt := 14) (x).toInt (5) rfl (by decide +kernel) (by decide) d_X_isIn_7 (fun c2 => ?_) (fun c2 => ?_)
    · refine aw_iconst (v := nI 0) ci_0 d_X_isIn_14 ?_
      refine as_retz rfl (by decide +kernel) d_X_isIn_15 ?_
      refine (show As l b 13 y_X_isLine KM RM _ (I) 6 [.int (x)] [.int (nI 0)] from ?_)
      refine as_retz rfl (by decide +kernel) d_X_isLine_6 ?_
      refine (show As l b 14 y_X_seen KM RM K2 (I) 4 [.ref 0, .int (x), .int (z)] [.int (nI 0)] from ?_)
      refine aw_if_eqI (tgt := 17) (0) (by decide +kernel) (by decide) d_X_seen_4 (fun _ => ?_) (fun q => absurd q (by decide))
      refine aw_iconst (v := nI 0) ci_0 d_X_seen_17 ?_
      exact as_retz rfl (by decide +kernel) d_X_seen_18 (h0 (by omega) _)
    · refine aw_iconst (v := nI 1) ci_1 d_X_isIn_10 ?_
      refine aw_goto (tgt := 15) (by decide) d_X_isIn_11 ?_
      refine as_retz rfl (by decide +kernel) d_X_isIn_15 ?_
      refine (show As l b 13 y_X_isLine KM RM _ (I) 6 [.int (x)] [.int (nI 1)] from ?_)
      refine as_retz rfl (by decide +kernel) d_X_isLine_6 ?_
      refine (show As l b 14 y_X_seen KM RM K2 (I) 4 [.ref 0, .int (x), .int (z)] [.int (nI 1)] from ?_)
      refine aw_if_eqI (tgt := 17) (1) (by decide +kernel) (by decide) d_X_seen_4 (fun q => absurd q (by decide)) (fun _ => ?_)
      refine aw_iload_n rfl rfl d_X_seen_7 ?_
      refine aw_iconst (v := nI 1) ci_1 d_X_seen_8 ?_
      refine aw_bipush (v := nI 24) cb_24 d_X_seen_9 ?_
      refine as_callS (as := [.int (z), .int (nI 1), .int (nI 24)]) (d' := 13) mo_X_isIn lk_X_98 rfl ⟨by decide, by decide⟩ rfl rfl (by decide) d_X_seen_11 (Ss.of (show As l b 13 y_X_isIn KM RM _ (I) 0 [.int (z), .int (nI 1), .int (nI 24)] [] from ?_))
      refine aw_iload_n rfl rfl d_X_isIn_0 ?_
      refine aw_iload_n rfl rfl d_X_isIn_1 ?_
      refine aw_icmp_ltI (tgt := 14) (z).toInt (1) rfl (by decide +kernel) (by decide) d_X_isIn_2 (fun c3 => ?_) (fun c3 => ?_)
      · refine aw_iconst (v := nI 0) ci_0 d_X_isIn_14 ?_
        refine as_retz rfl (by decide +kernel) d_X_isIn_15 ?_
        refine (show As l b 14 y_X_seen KM RM K2 (I) 14 [.ref 0, .int (x), .int (z)] [.int (nI 0)] from ?_)
        refine aw_if_neI (tgt := 19) (0) (by decide +kernel) (by decide) d_X_seen_14 (fun q => absurd q (by decide)) (fun _ => ?_)
        refine aw_iconst (v := nI 0) ci_0 d_X_seen_17 ?_
        exact as_retz rfl (by decide +kernel) d_X_seen_18 (h0 (by omega) _)
      · refine aw_iload_n rfl rfl d_X_isIn_5 ?_
        refine aw_iload_n rfl rfl d_X_isIn_6 ?_
        refine aw_icmp_gtI (tgt := 14) (z).toInt (24) rfl (by decide +kernel) (by decide) d_X_isIn_7 (fun c4 => ?_) (fun c4 => ?_)
        · refine aw_iconst (v := nI 0) ci_0 d_X_isIn_14 ?_
          refine as_retz rfl (by decide +kernel) d_X_isIn_15 ?_
          refine (show As l b 14 y_X_seen KM RM K2 (I) 14 [.ref 0, .int (x), .int (z)] [.int (nI 0)] from ?_)
          refine aw_if_neI (tgt := 19) (0) (by decide +kernel) (by decide) d_X_seen_14 (fun q => absurd q (by decide)) (fun _ => ?_)
          refine aw_iconst (v := nI 0) ci_0 d_X_seen_17 ?_
          exact as_retz rfl (by decide +kernel) d_X_seen_18 (h0 (by omega) _)
        · refine aw_iconst (v := nI 1) ci_1 d_X_isIn_10 ?_
          refine aw_goto (tgt := 15) (by decide) d_X_isIn_11 ?_
          refine as_retz rfl (by decide +kernel) d_X_isIn_15 ?_
          refine (show As l b 14 y_X_seen KM RM K2 (I) 14 [.ref 0, .int (x), .int (z)] [.int (nI 1)] from ?_)
          refine aw_if_neI (tgt := 19) (1) (by decide +kernel) (by decide) d_X_seen_14 (fun _ => ?_) (fun q => absurd q (by decide))
          obtain ⟨w1, hw1, ew1, gw1⟩ := nI_of_range (x := x) (n := 6) (by omega) (by omega)
          subst ew1
          refine aw_aload_n rfl rfl d_X_seen_19 ?_
          refine aw_getr fl_X_7 km_0 (by decide) rfl rm_0_0 d_X_seen_20 ?_
          refine aw_bipush (v := nI 10) cb_10 d_X_seen_23 ?_
          refine aw_iload_n rfl rfl d_X_seen_25 ?_
          refine aw_iaddN d_X_seen_26 ?_
          refine aw_iload_n rfl rfl d_X_seen_27 ?_
          refine aw_iast (j := (10 + w1)) km_1 (vp_in_nI (by omega) (by decide)) (nI_clamp (by omega)) d_X_seen_28 ?_
          refine aw_iconst (v := nI 1) ci_1 d_X_seen_29 ?_
          exact as_retz rfl (by decide +kernel) d_X_seen_30 (h1 (by omega) _)
set_option maxRecDepth 20000 in
theorem ms_parts {K2 : K2T} {I : Nat → Nat → Int32} (hR : FRm I) {x z : Int32} (h1 : 2 ≤ x.toInt ∧ x.toInt ≤ 8 ∧ 0 ≤ z.toInt ∧ z.toInt < x.toInt → ∀ I', K2 (some (.int (nI 1))) I') (h0 : ¬ (2 ≤ x.toInt ∧ x.toInt ≤ 8 ∧ 0 ≤ z.toInt ∧ z.toInt < x.toInt) → ∀ I', K2 (some (.int (nI 0))) I') : Ss l b 14 y_X_parts KM RM [.ref 0, .int (x), .int (z)] (I) K2 := by
  obtain ⟨hF, w0, w2, w3, w5, w6, w7, w73, w74, wh, w110, o3, o12, o19, o21, o22, o23, o35⟩ := hR
  have hF0 := hF
  obtain ⟨g0, g1, g2, g3, g4, g5, g6, g7, g8, g9, g10, g11, g12, gb⟩ := hF
  refine Ss.of (show As l b 14 y_X_parts KM RM K2 (I) 0 [.ref 0, .int (x), .int (z)] [] from ?_)
  refine aw_iload_n rfl rfl d_X_parts_0 ?_
  refine aw_iconst (v := nI 2) ci_2 d_X_parts_1 ?_
  refine aw_bipush (v := nI 8) cb_8 d_X_parts_2 ?_
  refine as_callS (as := [.int (x), .int (nI 2), .int (nI 8)]) (d' := 13) mo_X_isIn lk_X_98 rfl ⟨by decide, by decide⟩ rfl rfl (by decide) d_X_parts_4 (Ss.of (show As l b 13 y_X_isIn KM RM _ (I) 0 [.int (x), .int (nI 2), .int (nI 8)] [] from ?_))
  refine aw_iload_n rfl rfl d_X_isIn_0 ?_
  refine aw_iload_n rfl rfl d_X_isIn_1 ?_
  refine aw_icmp_ltI (tgt := 14) (x).toInt (2) rfl (by decide +kernel) (by decide) d_X_isIn_2 (fun c1 => ?_) (fun c1 => ?_)
  · refine aw_iconst (v := nI 0) ci_0 d_X_isIn_14 ?_
    refine as_retz rfl (by decide +kernel) d_X_isIn_15 ?_
    refine (show As l b 14 y_X_parts KM RM K2 (I) 7 [.ref 0, .int (x), .int (z)] [.int (nI 0)] from ?_)
    refine aw_if_eqI (tgt := 21) (0) (by decide +kernel) (by decide) d_X_parts_7 (fun _ => ?_) (fun q => absurd q (by decide))
    refine aw_iconst (v := nI 0) ci_0 d_X_parts_21 ?_
    exact as_retz rfl (by decide +kernel) d_X_parts_22 (h0 (by omega) _)
  · refine aw_iload_n rfl rfl d_X_isIn_5 ?_
    refine aw_iload_n rfl rfl d_X_isIn_6 ?_
    refine aw_icmp_gtI (tgt := 14) (x).toInt (8) rfl (by decide +kernel) (by decide) d_X_isIn_7 (fun c2 => ?_) (fun c2 => ?_)
    · refine aw_iconst (v := nI 0) ci_0 d_X_isIn_14 ?_
      refine as_retz rfl (by decide +kernel) d_X_isIn_15 ?_
      refine (show As l b 14 y_X_parts KM RM K2 (I) 7 [.ref 0, .int (x), .int (z)] [.int (nI 0)] from ?_)
      refine aw_if_eqI (tgt := 21) (0) (by decide +kernel) (by decide) d_X_parts_7 (fun _ => ?_) (fun q => absurd q (by decide))
      refine aw_iconst (v := nI 0) ci_0 d_X_parts_21 ?_
      exact as_retz rfl (by decide +kernel) d_X_parts_22 (h0 (by omega) _)
    · refine aw_iconst (v := nI 1) ci_1 d_X_isIn_10 ?_
      refine aw_goto (tgt := 15) (by decide) d_X_isIn_11 ?_
      refine as_retz rfl (by decide +kernel) d_X_isIn_15 ?_
      refine (show As l b 14 y_X_parts KM RM K2 (I) 7 [.ref 0, .int (x), .int (z)] [.int (nI 1)] from ?_)
      refine aw_if_eqI (tgt := 21) (1) (by decide +kernel) (by decide) d_X_parts_7 (fun q => absurd q (by decide)) (fun _ => ?_)
      obtain ⟨w1, hw1, ew1, gw1⟩ := nI_of_range (x := x) (n := 9) (by omega) (by omega)
      subst ew1
      refine aw_iload_n rfl rfl d_X_parts_10 ?_
      refine aw_iconst (v := nI 0) ci_0 d_X_parts_11 ?_
      refine aw_iload_n rfl rfl d_X_parts_12 ?_
      refine aw_iconst (v := nI 1) ci_1 d_X_parts_13 ?_
      refine aw_isubN (by omega) d_X_parts_14 ?_
      refine as_callS (as := [.int (z), .int (nI 0), .int (nI ((w1 - 1)))]) (d' := 13) mo_X_isIn lk_X_98 rfl ⟨by decide, by decide⟩ rfl rfl (by decide) d_X_parts_15 (Ss.of (show As l b 13 y_X_isIn KM RM _ (I) 0 [.int (z), .int (nI 0), .int (nI ((w1 - 1)))] [] from ?_))
      refine aw_iload_n rfl rfl d_X_isIn_0 ?_
      refine aw_iload_n rfl rfl d_X_isIn_1 ?_
      refine aw_icmp_ltI (tgt := 14) (z).toInt (0) rfl (by decide +kernel) (by decide) d_X_isIn_2 (fun c3 => ?_) (fun c3 => ?_)
      · refine aw_iconst (v := nI 0) ci_0 d_X_isIn_14 ?_
        refine as_retz rfl (by decide +kernel) d_X_isIn_15 ?_
        refine (show As l b 14 y_X_parts KM RM K2 (I) 18 [.ref 0, .int (nI (w1)), .int (z)] [.int (nI 0)] from ?_)
        refine aw_if_neI (tgt := 23) (0) (by decide +kernel) (by decide) d_X_parts_18 (fun q => absurd q (by decide)) (fun _ => ?_)
        refine aw_iconst (v := nI 0) ci_0 d_X_parts_21 ?_
        exact as_retz rfl (by decide +kernel) d_X_parts_22 (h0 (by omega) _)
      · refine aw_iload_n rfl rfl d_X_isIn_5 ?_
        refine aw_iload_n rfl rfl d_X_isIn_6 ?_
        refine aw_icmp_gtI (tgt := 14) (z).toInt (((w1 - 1) : Nat) : Int) rfl (nI_toInt (by omega)) (by decide) d_X_isIn_7 (fun c4 => ?_) (fun c4 => ?_)
        · refine aw_iconst (v := nI 0) ci_0 d_X_isIn_14 ?_
          refine as_retz rfl (by decide +kernel) d_X_isIn_15 ?_
          refine (show As l b 14 y_X_parts KM RM K2 (I) 18 [.ref 0, .int (nI (w1)), .int (z)] [.int (nI 0)] from ?_)
          refine aw_if_neI (tgt := 23) (0) (by decide +kernel) (by decide) d_X_parts_18 (fun q => absurd q (by decide)) (fun _ => ?_)
          refine aw_iconst (v := nI 0) ci_0 d_X_parts_21 ?_
          exact as_retz rfl (by decide +kernel) d_X_parts_22 (h0 (by omega) _)
        · refine aw_iconst (v := nI 1) ci_1 d_X_isIn_10 ?_
          refine aw_goto (tgt := 15) (by decide) d_X_isIn_11 ?_
          refine as_retz rfl (by decide +kernel) d_X_isIn_15 ?_
          refine (show As l b 14 y_X_parts KM RM K2 (I) 18 [.ref 0, .int (nI (w1)), .int (z)] [.int (nI 1)] from ?_)
          refine aw_if_neI (tgt := 23) (1) (by decide +kernel) (by decide) d_X_parts_18 (fun _ => ?_) (fun q => absurd q (by decide))
          refine aw_aload_n rfl rfl d_X_parts_23 ?_
          refine aw_getr fl_X_7 km_0 (by decide) rfl rm_0_0 d_X_parts_24 ?_
          refine aw_bipush (v := nI 16) cb_16 d_X_parts_27 ?_
          refine aw_iload_n rfl rfl d_X_parts_29 ?_
          refine aw_iaddN d_X_parts_30 ?_
          refine aw_iload_n rfl rfl d_X_parts_31 ?_
          refine aw_iast (j := (16 + w1)) km_1 (vp_in_nI (by omega) (by decide)) (nI_clamp (by omega)) d_X_parts_32 ?_
          refine aw_iconst (v := nI 1) ci_1 d_X_parts_33 ?_
          exact as_retz rfl (by decide +kernel) d_X_parts_34 (h1 (by omega) _)
set_option maxRecDepth 20000 in
theorem ms_comer {K2 : K2T} {I : Nat → Nat → Int32} (hR : FRm I) {x z u v c : Int32} (h1 : 0 ≤ x.toInt ∧ x.toInt < 8 ∧ 1 ≤ z.toInt ∧ z.toInt ≤ 8 ∧ 1 ≤ u.toInt ∧ u.toInt ≤ z.toInt ∧ 0 ≤ v.toInt ∧ v.toInt ≤ 3 ∧ 0 ≤ c.toInt ∧ c.toInt ≤ 1000 → ∀ I', K2 (some (.int (nI 1))) I') (h0 : ¬ (0 ≤ x.toInt ∧ x.toInt < 8 ∧ 1 ≤ z.toInt ∧ z.toInt ≤ 8 ∧ 1 ≤ u.toInt ∧ u.toInt ≤ z.toInt ∧ 0 ≤ v.toInt ∧ v.toInt ≤ 3 ∧ 0 ≤ c.toInt ∧ c.toInt ≤ 1000) → ∀ I', K2 (some (.int (nI 0))) I') : Ss l b 14 y_X_comer KM RM [.ref 0, .int (x), .int (z), .int (u), .int (v), .int (c)] (I) K2 := by
  obtain ⟨hF, w0, w2, w3, w5, w6, w7, w73, w74, wh, w110, o3, o12, o19, o21, o22, o23, o35⟩ := hR
  have hF0 := hF
  obtain ⟨g0, g1, g2, g3, g4, g5, g6, g7, g8, g9, g10, g11, g12, gb⟩ := hF
  refine Ss.of (show As l b 14 y_X_comer KM RM K2 (I) 0 [.ref 0, .int (x), .int (z), .int (u), .int (v), .int (c)] [] from ?_)
  refine aw_iload_n rfl rfl d_X_comer_0 ?_
  refine aw_iconst (v := nI 0) ci_0 d_X_comer_1 ?_
  refine aw_bipush (v := nI 7) cb_7 d_X_comer_2 ?_
  refine as_callS (as := [.int (x), .int (nI 0), .int (nI 7)]) (d' := 13) mo_X_isIn lk_X_98 rfl ⟨by decide, by decide⟩ rfl rfl (by decide) d_X_comer_4 (Ss.of (show As l b 13 y_X_isIn KM RM _ (I) 0 [.int (x), .int (nI 0), .int (nI 7)] [] from ?_))
  refine aw_iload_n rfl rfl d_X_isIn_0 ?_
  refine aw_iload_n rfl rfl d_X_isIn_1 ?_
  refine aw_icmp_ltI (tgt := 14) (x).toInt (0) rfl (by decide +kernel) (by decide) d_X_isIn_2 (fun c1 => ?_) (fun c1 => ?_)
  · refine aw_iconst (v := nI 0) ci_0 d_X_isIn_14 ?_
    refine as_retz rfl (by decide +kernel) d_X_isIn_15 ?_
    refine (show As l b 14 y_X_comer KM RM K2 (I) 7 [.ref 0, .int (x), .int (z), .int (u), .int (v), .int (c)] [.int (nI 0)] from ?_)
    refine aw_if_eqI (tgt := 32) (0) (by decide +kernel) (by decide) d_X_comer_7 (fun _ => ?_) (fun q => absurd q (by decide))
    refine aw_iconst (v := nI 0) ci_0 d_X_comer_32 ?_
    exact as_retz rfl (by decide +kernel) d_X_comer_33 (h0 (by omega) _)
  · refine aw_iload_n rfl rfl d_X_isIn_5 ?_
    refine aw_iload_n rfl rfl d_X_isIn_6 ?_
    refine aw_icmp_gtI (tgt := 14) (x).toInt (7) rfl (by decide +kernel) (by decide) d_X_isIn_7 (fun c2 => ?_) (fun c2 => ?_)
    · refine aw_iconst (v := nI 0) ci_0 d_X_isIn_14 ?_
      refine as_retz rfl (by decide +kernel) d_X_isIn_15 ?_
      refine (show As l b 14 y_X_comer KM RM K2 (I) 7 [.ref 0, .int (x), .int (z), .int (u), .int (v), .int (c)] [.int (nI 0)] from ?_)
      refine aw_if_eqI (tgt := 32) (0) (by decide +kernel) (by decide) d_X_comer_7 (fun _ => ?_) (fun q => absurd q (by decide))
      refine aw_iconst (v := nI 0) ci_0 d_X_comer_32 ?_
      exact as_retz rfl (by decide +kernel) d_X_comer_33 (h0 (by omega) _)
    · refine aw_iconst (v := nI 1) ci_1 d_X_isIn_10 ?_
      refine aw_goto (tgt := 15) (by decide) d_X_isIn_11 ?_
      refine as_retz rfl (by decide +kernel) d_X_isIn_15 ?_
      refine (show As l b 14 y_X_comer KM RM K2 (I) 7 [.ref 0, .int (x), .int (z), .int (u), .int (v), .int (c)] [.int (nI 1)] from ?_)
      refine aw_if_eqI (tgt := 32) (1) (by decide +kernel) (by decide) d_X_comer_7 (fun q => absurd q (by decide)) (fun _ => ?_)
      refine aw_iload_n rfl rfl d_X_comer_10 ?_
      refine aw_iload_n rfl rfl d_X_comer_11 ?_
      refine aw_iload rfl d_X_comer_12 ?_
      refine as_callS (as := [.int (z), .int (u), .int (v)]) (d' := 13) mo_X_isGroup lk_X_109 rfl ⟨by decide, by decide⟩ rfl rfl (by decide) d_X_comer_14 (Ss.of (show As l b 13 y_X_isGroup KM RM _ (I) 0 [.int (z), .int (u), .int (v)] [] from ?_))
      refine aw_iload_n rfl rfl d_X_isGroup_0 ?_
      refine aw_iconst (v := nI 1) ci_1 d_X_isGroup_1 ?_
      refine aw_bipush (v := nI 8) cb_8 d_X_isGroup_2 ?_
      refine as_callS (as := [.int (z), .int (nI 1), .int (nI 8)]) (d' := 12) mo_X_isIn lk_X_98 rfl ⟨by decide, by decide⟩ rfl rfl (by decide) d_X_isGroup_4 (Ss.of (show As l b 12 y_X_isIn KM RM _ (I) 0 [.int (z), .int (nI 1), .int (nI 8)] [] from ?_))
      refine aw_iload_n rfl rfl d_X_isIn_0 ?_
      refine aw_iload_n rfl rfl d_X_isIn_1 ?_
      refine aw_icmp_ltI (tgt := 14) (z).toInt (1) rfl (by decide +kernel) (by decide) d_X_isIn_2 (fun c3 => ?_) (fun c3 => ?_)
      · refine aw_iconst (v := nI 0) ci_0 d_X_isIn_14 ?_
        refine as_retz rfl (by decide +kernel) d_X_isIn_15 ?_
        refine (show As l b 13 y_X_isGroup KM RM _ (I) 7 [.int (z), .int (u), .int (v)] [.int (nI 0)] from ?_)
        refine aw_if_eqI (tgt := 32) (0) (by decide +kernel) (by decide) d_X_isGroup_7 (fun _ => ?_) (fun q => absurd q (by decide))
        refine aw_iconst (v := nI 0) ci_0 d_X_isGroup_32 ?_
        refine as_retz rfl (by decide +kernel) d_X_isGroup_33 ?_
        refine (show As l b 14 y_X_comer KM RM K2 (I) 17 [.ref 0, .int (x), .int (z), .int (u), .int (v), .int (c)] [.int (nI 0)] from ?_)
        refine aw_if_eqI (tgt := 32) (0) (by decide +kernel) (by decide) d_X_comer_17 (fun _ => ?_) (fun q => absurd q (by decide))
        refine aw_iconst (v := nI 0) ci_0 d_X_comer_32 ?_
        exact as_retz rfl (by decide +kernel) d_X_comer_33 (h0 (by omega) _)
      · refine aw_iload_n rfl rfl d_X_isIn_5 ?_
        refine aw_iload_n rfl rfl d_X_isIn_6 ?_
        refine aw_icmp_gtI (tgt := 14) (z).toInt (8) rfl (by decide +kernel) (by decide) d_X_isIn_7 (fun c4 => ?_) (fun c4 => ?_)
        · refine aw_iconst (v := nI 0) ci_0 d_X_isIn_14 ?_
          refine as_retz rfl (by decide +kernel) d_X_isIn_15 ?_
          refine (show As l b 13 y_X_isGroup KM RM _ (I) 7 [.int (z), .int (u), .int (v)] [.int (nI 0)] from ?_)
          refine aw_if_eqI (tgt := 32) (0) (by decide +kernel) (by decide) d_X_isGroup_7 (fun _ => ?_) (fun q => absurd q (by decide))
          refine aw_iconst (v := nI 0) ci_0 d_X_isGroup_32 ?_
          refine as_retz rfl (by decide +kernel) d_X_isGroup_33 ?_
          refine (show As l b 14 y_X_comer KM RM K2 (I) 17 [.ref 0, .int (x), .int (z), .int (u), .int (v), .int (c)] [.int (nI 0)] from ?_)
          refine aw_if_eqI (tgt := 32) (0) (by decide +kernel) (by decide) d_X_comer_17 (fun _ => ?_) (fun q => absurd q (by decide))
          refine aw_iconst (v := nI 0) ci_0 d_X_comer_32 ?_
          exact as_retz rfl (by decide +kernel) d_X_comer_33 (h0 (by omega) _)
        · refine aw_iconst (v := nI 1) ci_1 d_X_isIn_10 ?_
          refine aw_goto (tgt := 15) (by decide) d_X_isIn_11 ?_
          refine as_retz rfl (by decide +kernel) d_X_isIn_15 ?_
          refine (show As l b 13 y_X_isGroup KM RM _ (I) 7 [.int (z), .int (u), .int (v)] [.int (nI 1)] from ?_)
          refine aw_if_eqI (tgt := 32) (1) (by decide +kernel) (by decide) d_X_isGroup_7 (fun q => absurd q (by decide)) (fun _ => ?_)
          refine aw_iload_n rfl rfl d_X_isGroup_10 ?_
          refine aw_iconst (v := nI 1) ci_1 d_X_isGroup_11 ?_
          refine aw_iload_n rfl rfl d_X_isGroup_12 ?_
          refine as_callS (as := [.int (u), .int (nI 1), .int (z)]) (d' := 12) mo_X_isIn lk_X_98 rfl ⟨by decide, by decide⟩ rfl rfl (by decide) d_X_isGroup_13 (Ss.of (show As l b 12 y_X_isIn KM RM _ (I) 0 [.int (u), .int (nI 1), .int (z)] [] from ?_))
          refine aw_iload_n rfl rfl d_X_isIn_0 ?_
          refine aw_iload_n rfl rfl d_X_isIn_1 ?_
          refine aw_icmp_ltI (tgt := 14) (u).toInt (1) rfl (by decide +kernel) (by decide) d_X_isIn_2 (fun c5 => ?_) (fun c5 => ?_)
          · refine aw_iconst (v := nI 0) ci_0 d_X_isIn_14 ?_
            refine as_retz rfl (by decide +kernel) d_X_isIn_15 ?_
            refine (show As l b 13 y_X_isGroup KM RM _ (I) 16 [.int (z), .int (u), .int (v)] [.int (nI 0)] from ?_)
            refine aw_if_eqI (tgt := 32) (0) (by decide +kernel) (by decide) d_X_isGroup_16 (fun _ => ?_) (fun q => absurd q (by decide))
            refine aw_iconst (v := nI 0) ci_0 d_X_isGroup_32 ?_
            refine as_retz rfl (by decide +kernel) d_X_isGroup_33 ?_
            refine (show As l b 14 y_X_comer KM RM K2 (I) 17 [.ref 0, .int (x), .int (z), .int (u), .int (v), .int (c)] [.int (nI 0)] from ?_)
            refine aw_if_eqI (tgt := 32) (0) (by decide +kernel) (by decide) d_X_comer_17 (fun _ => ?_) (fun q => absurd q (by decide))
            refine aw_iconst (v := nI 0) ci_0 d_X_comer_32 ?_
            exact as_retz rfl (by decide +kernel) d_X_comer_33 (h0 (by omega) _)
          · refine aw_iload_n rfl rfl d_X_isIn_5 ?_
            refine aw_iload_n rfl rfl d_X_isIn_6 ?_
            refine aw_icmp_gtI (tgt := 14) (u).toInt (z).toInt rfl rfl (by decide) d_X_isIn_7 (fun c6 => ?_) (fun c6 => ?_)
            · refine aw_iconst (v := nI 0) ci_0 d_X_isIn_14 ?_
              refine as_retz rfl (by decide +kernel) d_X_isIn_15 ?_
              refine (show As l b 13 y_X_isGroup KM RM _ (I) 16 [.int (z), .int (u), .int (v)] [.int (nI 0)] from ?_)
              refine aw_if_eqI (tgt := 32) (0) (by decide +kernel) (by decide) d_X_isGroup_16 (fun _ => ?_) (fun q => absurd q (by decide))
              refine aw_iconst (v := nI 0) ci_0 d_X_isGroup_32 ?_
              refine as_retz rfl (by decide +kernel) d_X_isGroup_33 ?_
              refine (show As l b 14 y_X_comer KM RM K2 (I) 17 [.ref 0, .int (x), .int (z), .int (u), .int (v), .int (c)] [.int (nI 0)] from ?_)
              refine aw_if_eqI (tgt := 32) (0) (by decide +kernel) (by decide) d_X_comer_17 (fun _ => ?_) (fun q => absurd q (by decide))
              refine aw_iconst (v := nI 0) ci_0 d_X_comer_32 ?_
              exact as_retz rfl (by decide +kernel) d_X_comer_33 (h0 (by omega) _)
            · refine aw_iconst (v := nI 1) ci_1 d_X_isIn_10 ?_
              refine aw_goto (tgt := 15) (by decide) d_X_isIn_11 ?_
              refine as_retz rfl (by decide +kernel) d_X_isIn_15 ?_
              refine (show As l b 13 y_X_isGroup KM RM _ (I) 16 [.int (z), .int (u), .int (v)] [.int (nI 1)] from ?_)
              refine aw_if_eqI (tgt := 32) (1) (by decide +kernel) (by decide) d_X_isGroup_16 (fun q => absurd q (by decide)) (fun _ => ?_)
              refine aw_iload_n rfl rfl d_X_isGroup_19 ?_
              refine aw_iconst (v := nI 0) ci_0 d_X_isGroup_20 ?_
              refine aw_iconst (v := nI 3) ci_3 d_X_isGroup_21 ?_
              refine as_callS (as := [.int (v), .int (nI 0), .int (nI 3)]) (d' := 12) mo_X_isIn lk_X_98 rfl ⟨by decide, by decide⟩ rfl rfl (by decide) d_X_isGroup_22 (Ss.of (show As l b 12 y_X_isIn KM RM _ (I) 0 [.int (v), .int (nI 0), .int (nI 3)] [] from ?_))
              refine aw_iload_n rfl rfl d_X_isIn_0 ?_
              refine aw_iload_n rfl rfl d_X_isIn_1 ?_
              refine aw_icmp_ltI (tgt := 14) (v).toInt (0) rfl (by decide +kernel) (by decide) d_X_isIn_2 (fun c7 => ?_) (fun c7 => ?_)
              · refine aw_iconst (v := nI 0) ci_0 d_X_isIn_14 ?_
                refine as_retz rfl (by decide +kernel) d_X_isIn_15 ?_
                refine (show As l b 13 y_X_isGroup KM RM _ (I) 25 [.int (z), .int (u), .int (v)] [.int (nI 0)] from ?_)
                refine aw_if_eqI (tgt := 32) (0) (by decide +kernel) (by decide) d_X_isGroup_25 (fun _ => ?_) (fun q => absurd q (by decide))
                refine aw_iconst (v := nI 0) ci_0 d_X_isGroup_32 ?_
                refine as_retz rfl (by decide +kernel) d_X_isGroup_33 ?_
                refine (show As l b 14 y_X_comer KM RM K2 (I) 17 [.ref 0, .int (x), .int (z), .int (u), .int (v), .int (c)] [.int (nI 0)] from ?_)
                refine aw_if_eqI (tgt := 32) (0) (by decide +kernel) (by decide) d_X_comer_17 (fun _ => ?_) (fun q => absurd q (by decide))
                refine aw_iconst (v := nI 0) ci_0 d_X_comer_32 ?_
                exact as_retz rfl (by decide +kernel) d_X_comer_33 (h0 (by omega) _)
              · refine aw_iload_n rfl rfl d_X_isIn_5 ?_
                refine aw_iload_n rfl rfl d_X_isIn_6 ?_
                refine aw_icmp_gtI (tgt := 14) (v).toInt (3) rfl (by decide +kernel) (by decide) d_X_isIn_7 (fun c8 => ?_) (fun c8 => ?_)
                · refine aw_iconst (v := nI 0) ci_0 d_X_isIn_14 ?_
                  refine as_retz rfl (by decide +kernel) d_X_isIn_15 ?_
                  refine (show As l b 13 y_X_isGroup KM RM _ (I) 25 [.int (z), .int (u), .int (v)] [.int (nI 0)] from ?_)
                  refine aw_if_eqI (tgt := 32) (0) (by decide +kernel) (by decide) d_X_isGroup_25 (fun _ => ?_) (fun q => absurd q (by decide))
                  refine aw_iconst (v := nI 0) ci_0 d_X_isGroup_32 ?_
                  refine as_retz rfl (by decide +kernel) d_X_isGroup_33 ?_
                  refine (show As l b 14 y_X_comer KM RM K2 (I) 17 [.ref 0, .int (x), .int (z), .int (u), .int (v), .int (c)] [.int (nI 0)] from ?_)
                  refine aw_if_eqI (tgt := 32) (0) (by decide +kernel) (by decide) d_X_comer_17 (fun _ => ?_) (fun q => absurd q (by decide))
                  refine aw_iconst (v := nI 0) ci_0 d_X_comer_32 ?_
                  exact as_retz rfl (by decide +kernel) d_X_comer_33 (h0 (by omega) _)
                · refine aw_iconst (v := nI 1) ci_1 d_X_isIn_10 ?_
                  refine aw_goto (tgt := 15) (by decide) d_X_isIn_11 ?_
                  refine as_retz rfl (by decide +kernel) d_X_isIn_15 ?_
                  refine (show As l b 13 y_X_isGroup KM RM _ (I) 25 [.int (z), .int (u), .int (v)] [.int (nI 1)] from ?_)
                  refine aw_if_eqI (tgt := 32) (1) (by decide +kernel) (by decide) d_X_isGroup_25 (fun q => absurd q (by decide)) (fun _ => ?_)
                  refine aw_iconst (v := nI 1) ci_1 d_X_isGroup_28 ?_
                  refine aw_goto (tgt := 33) (by decide) d_X_isGroup_29 ?_
                  refine as_retz rfl (by decide +kernel) d_X_isGroup_33 ?_
                  refine (show As l b 14 y_X_comer KM RM K2 (I) 17 [.ref 0, .int (x), .int (z), .int (u), .int (v), .int (c)] [.int (nI 1)] from ?_)
                  refine aw_if_eqI (tgt := 32) (1) (by decide +kernel) (by decide) d_X_comer_17 (fun q => absurd q (by decide)) (fun _ => ?_)
                  refine aw_iload rfl d_X_comer_20 ?_
                  refine aw_iconst (v := nI 0) ci_0 d_X_comer_22 ?_
                  refine aw_sipush (v := nI 1000) cs_1000 d_X_comer_23 ?_
                  refine as_callS (as := [.int (c), .int (nI 0), .int (nI 1000)]) (d' := 13) mo_X_isIn lk_X_98 rfl ⟨by decide, by decide⟩ rfl rfl (by decide) d_X_comer_26 (Ss.of (show As l b 13 y_X_isIn KM RM _ (I) 0 [.int (c), .int (nI 0), .int (nI 1000)] [] from ?_))
                  refine aw_iload_n rfl rfl d_X_isIn_0 ?_
                  refine aw_iload_n rfl rfl d_X_isIn_1 ?_
                  refine aw_icmp_ltI (tgt := 14) (c).toInt (0) rfl (by decide +kernel) (by decide) d_X_isIn_2 (fun c9 => ?_) (fun c9 => ?_)
                  · refine aw_iconst (v := nI 0) ci_0 d_X_isIn_14 ?_
                    refine as_retz rfl (by decide +kernel) d_X_isIn_15 ?_
                    refine (show As l b 14 y_X_comer KM RM K2 (I) 29 [.ref 0, .int (x), .int (z), .int (u), .int (v), .int (c)] [.int (nI 0)] from ?_)
                    refine aw_if_neI (tgt := 34) (0) (by decide +kernel) (by decide) d_X_comer_29 (fun q => absurd q (by decide)) (fun _ => ?_)
                    refine aw_iconst (v := nI 0) ci_0 d_X_comer_32 ?_
                    exact as_retz rfl (by decide +kernel) d_X_comer_33 (h0 (by omega) _)
                  · refine aw_iload_n rfl rfl d_X_isIn_5 ?_
                    refine aw_iload_n rfl rfl d_X_isIn_6 ?_
                    refine aw_icmp_gtI (tgt := 14) (c).toInt (1000) rfl (by decide +kernel) (by decide) d_X_isIn_7 (fun c10 => ?_) (fun c10 => ?_)
                    · refine aw_iconst (v := nI 0) ci_0 d_X_isIn_14 ?_
                      refine as_retz rfl (by decide +kernel) d_X_isIn_15 ?_
                      refine (show As l b 14 y_X_comer KM RM K2 (I) 29 [.ref 0, .int (x), .int (z), .int (u), .int (v), .int (c)] [.int (nI 0)] from ?_)
                      refine aw_if_neI (tgt := 34) (0) (by decide +kernel) (by decide) d_X_comer_29 (fun q => absurd q (by decide)) (fun _ => ?_)
                      refine aw_iconst (v := nI 0) ci_0 d_X_comer_32 ?_
                      exact as_retz rfl (by decide +kernel) d_X_comer_33 (h0 (by omega) _)
                    · refine aw_iconst (v := nI 1) ci_1 d_X_isIn_10 ?_
                      refine aw_goto (tgt := 15) (by decide) d_X_isIn_11 ?_
                      refine as_retz rfl (by decide +kernel) d_X_isIn_15 ?_
                      refine (show As l b 14 y_X_comer KM RM K2 (I) 29 [.ref 0, .int (x), .int (z), .int (u), .int (v), .int (c)] [.int (nI 1)] from ?_)
                      refine aw_if_neI (tgt := 34) (1) (by decide +kernel) (by decide) d_X_comer_29 (fun _ => ?_) (fun q => absurd q (by decide))
                      obtain ⟨w1, hw1, ew1, gw1⟩ := nI_of_range (x := x) (n := 8) (by omega) (by omega)
                      subst ew1
                      refine aw_aload_n rfl rfl d_X_comer_34 ?_
                      refine aw_getr fl_X_7 km_0 (by decide) rfl rm_0_0 d_X_comer_35 ?_
                      refine aw_bipush (v := nI 26) cb_26 d_X_comer_38 ?_
                      refine aw_iconst (v := nI 4) ci_4 d_X_comer_40 ?_
                      refine aw_iload_n rfl rfl d_X_comer_41 ?_
                      refine aw_imulN d_X_comer_42 ?_
                      refine aw_iaddN d_X_comer_43 ?_
                      refine aw_iload_n rfl rfl d_X_comer_44 ?_
                      refine aw_iast (j := (26 + (4 * w1))) km_1 (vp_in_nI (by omega) (by decide)) (nI_clamp (by omega)) d_X_comer_45 ?_
                      refine aw_aload_n rfl rfl d_X_comer_46 ?_
                      refine aw_getr fl_X_7 km_0 (by decide) rfl rm_0_0 d_X_comer_47 ?_
                      refine aw_bipush (v := nI 26) cb_26 d_X_comer_50 ?_
                      refine aw_iconst (v := nI 4) ci_4 d_X_comer_52 ?_
                      refine aw_iload_n rfl rfl d_X_comer_53 ?_
                      refine aw_imulN d_X_comer_54 ?_
                      refine aw_iaddN d_X_comer_55 ?_
                      refine aw_iconst (v := nI 1) ci_1 d_X_comer_56 ?_
                      refine aw_iaddN d_X_comer_57 ?_
                      refine aw_iload_n rfl rfl d_X_comer_58 ?_
                      refine aw_iast (j := ((26 + (4 * w1)) + 1)) km_1 (vp_in_nI (by omega) (by decide)) (nI_clamp (by omega)) d_X_comer_59 ?_
                      refine aw_aload_n rfl rfl d_X_comer_60 ?_
                      refine aw_getr fl_X_7 km_0 (by decide) rfl rm_0_0 d_X_comer_61 ?_
                      refine aw_bipush (v := nI 26) cb_26 d_X_comer_64 ?_
                      refine aw_iconst (v := nI 4) ci_4 d_X_comer_66 ?_
                      refine aw_iload_n rfl rfl d_X_comer_67 ?_
                      refine aw_imulN d_X_comer_68 ?_
                      refine aw_iaddN d_X_comer_69 ?_
                      refine aw_iconst (v := nI 2) ci_2 d_X_comer_70 ?_
                      refine aw_iaddN d_X_comer_71 ?_
                      refine aw_iload rfl d_X_comer_72 ?_
                      refine aw_iast (j := ((26 + (4 * w1)) + 2)) km_1 (vp_in_nI (by omega) (by decide)) (nI_clamp (by omega)) d_X_comer_74 ?_
                      refine aw_aload_n rfl rfl d_X_comer_75 ?_
                      refine aw_getr fl_X_7 km_0 (by decide) rfl rm_0_0 d_X_comer_76 ?_
                      refine aw_bipush (v := nI 26) cb_26 d_X_comer_79 ?_
                      refine aw_iconst (v := nI 4) ci_4 d_X_comer_81 ?_
                      refine aw_iload_n rfl rfl d_X_comer_82 ?_
                      refine aw_imulN d_X_comer_83 ?_
                      refine aw_iaddN d_X_comer_84 ?_
                      refine aw_iconst (v := nI 3) ci_3 d_X_comer_85 ?_
                      refine aw_iaddN d_X_comer_86 ?_
                      refine aw_iload rfl d_X_comer_87 ?_
                      refine aw_iast (j := ((26 + (4 * w1)) + 3)) km_1 (vp_in_nI (by omega) (by decide)) (nI_clamp (by omega)) d_X_comer_89 ?_
                      refine aw_iconst (v := nI 1) ci_1 d_X_comer_90 ?_
                      exact as_retz rfl (by decide +kernel) d_X_comer_91 (h1 (by omega) _)
set_option maxRecDepth 20000 in
theorem ms_feed {K2 : K2T} {I : Nat → Nat → Int32} (hR : FRm I) {x z u v c : Int32} (hK : ∀ I', K2 (some (.int (nI 20))) I') : Ss l b 14 y_X_feed KM RM [.ref 0, .int (x), .int (z), .int (u), .int (v), .int (c)] (I) K2 := by
  obtain ⟨hF, w0, w2, w3, w5, w6, w7, w73, w74, wh, w110, o3, o12, o19, o21, o22, o23, o35⟩ := hR
  have hF0 := hF
  obtain ⟨g0, g1, g2, g3, g4, g5, g6, g7, g8, g9, g10, g11, g12, gb⟩ := hF
  refine Ss.of (show As l b 14 y_X_feed KM RM K2 (I) 0 [.ref 0, .int (x), .int (z), .int (u), .int (v), .int (c), uu, uu] [] from ?_)
  refine aw_aload_n rfl rfl d_X_feed_0 ?_
  refine aw_geti fl_X_112 km_0 (by decide) rfl d_X_feed_1 ?_
  refine aw_top (x2 := nI 0) (o12) ?_
  refine aw_bipush (v := nI 20) cb_20 d_X_feed_4 ?_
  refine aw_iadd d_X_feed_6 ?_
  refine aw_top (x2 := nI 20) (by decide +kernel) ?_
  refine aw_sipush (v := nI 400) cs_400 d_X_feed_7 ?_
  refine aw_icmp_leI (tgt := 15) (20) (400) (by decide +kernel) (by decide +kernel) (by decide) d_X_feed_10 (fun _ => ?_) (fun q => absurd q (by decide))
  refine aw_iconst (v := nI 0) ci_0 d_X_feed_15 ?_
  refine aw_istore (lv2 := [.ref 0, .int (x), .int (z), .int (u), .int (v), .int (c), .int (nI 0), uu]) (by decide) rfl d_X_feed_16 ?_
  refine aw_iload rfl d_X_feed_18 ?_
  refine aw_bipush (v := nI 20) cb_20 d_X_feed_20 ?_
  refine aw_icmp_geI (tgt := 115) (0) (20) (by decide +kernel) (by decide +kernel) (by decide) d_X_feed_22 (fun q => absurd q (by decide)) (fun _ => ?_)
  refine aw_iload rfl d_X_feed_25 ?_
  refine aw_iconst (v := nI 4) ci_4 d_X_feed_27 ?_
  refine aw_icmp_geI (tgt := 35) (0) (4) (by decide +kernel) (by decide +kernel) (by decide) d_X_feed_28 (fun q => absurd q (by decide)) (fun _ => ?_)
  refine aw_iload_n rfl rfl d_X_feed_31 ?_
  refine aw_goto (tgt := 71) (by decide) d_X_feed_32 ?_
  refine aw_istore (lv2 := [.ref 0, .int (x), .int (z), .int (u), .int (v), .int (c), .int (nI 0), .int (x)]) (by decide) rfl d_X_feed_71 ?_
  refine aw_aload_n rfl rfl d_X_feed_73 ?_
  refine aw_getr fl_X_25 km_0 (by decide) rfl rm_0_6 d_X_feed_74 ?_
  refine aw_aload_n rfl rfl d_X_feed_77 ?_
  refine aw_geti fl_X_112 km_0 (by decide) rfl d_X_feed_78 ?_
  refine aw_top (x2 := nI 0) (o12) ?_
  refine aw_iload rfl d_X_feed_81 ?_
  refine aw_bipush (v := nI 24) cb_24 d_X_feed_83 ?_
  refine aw_bipush (v := nI 8) cb_8 d_X_feed_85 ?_
  refine aw_iload rfl d_X_feed_87 ?_
  refine aw_iconst (v := nI 4) ci_4 d_X_feed_89 ?_
  refine aw_iremN (by omega) (by omega) (by omega) d_X_feed_90 ?_
  refine aw_imulN d_X_feed_91 ?_
  refine aw_isubN (by omega) d_X_feed_92 ?_
  refine aw_ishr d_X_feed_93 ?_
  refine aw_sipush (v := nI 255) cs_255 d_X_feed_94 ?_
  refine aw_iand d_X_feed_97 ?_
  refine aw_iast (j := 0) km_6 (vp_in_nI (by decide) (by decide)) (nI_clamp (by decide)) d_X_feed_98 ?_
  refine aw_aload_n rfl rfl d_X_feed_99 ?_
  refine aw_dup rfl d_X_feed_100 ?_
  refine aw_geti fl_X_112 km_0 (by decide) rfl d_X_feed_101 ?_
  refine aw_top (x2 := nI 0) (Eq.trans (congrFun (upd2_ne (by decide)) (12)) (o12)) ?_
  refine aw_iconst (v := nI 1) ci_1 d_X_feed_104 ?_
  refine aw_iadd d_X_feed_105 ?_
  refine aw_top (x2 := nI 1) (by decide +kernel) ?_
  refine aw_puti fl_X_112 km_0 (by decide) rfl rfl rfl rfl d_X_feed_106 ?_
  refine aw_iinc (v := nI 1) (lv2 := [.ref 0, .int (x), .int (z), .int (u), .int (v), .int (c), .int (nI 1), .int (x)]) rfl (by decide +kernel) (by decide) rfl d_X_feed_109 ?_
  refine aw_goto (tgt := 18) (by decide) d_X_feed_112 ?_
  refine aw_iload rfl d_X_feed_18 ?_
  refine aw_bipush (v := nI 20) cb_20 d_X_feed_20 ?_
  refine aw_icmp_geI (tgt := 115) (1) (20) (by decide +kernel) (by decide +kernel) (by decide) d_X_feed_22 (fun q => absurd q (by decide)) (fun _ => ?_)
  refine aw_iload rfl d_X_feed_25 ?_
  refine aw_iconst (v := nI 4) ci_4 d_X_feed_27 ?_
  refine aw_icmp_geI (tgt := 35) (1) (4) (by decide +kernel) (by decide +kernel) (by decide) d_X_feed_28 (fun q => absurd q (by decide)) (fun _ => ?_)
  refine aw_iload_n rfl rfl d_X_feed_31 ?_
  refine aw_goto (tgt := 71) (by decide) d_X_feed_32 ?_
  refine aw_istore (lv2 := [.ref 0, .int (x), .int (z), .int (u), .int (v), .int (c), .int (nI 1), .int (x)]) (by decide) rfl d_X_feed_71 ?_
  refine aw_aload_n rfl rfl d_X_feed_73 ?_
  refine aw_getr fl_X_25 km_0 (by decide) rfl rm_0_6 d_X_feed_74 ?_
  refine aw_aload_n rfl rfl d_X_feed_77 ?_
  refine aw_geti fl_X_112 km_0 (by decide) rfl d_X_feed_78 ?_
  refine aw_top (x2 := nI 1) (upd2_eq) ?_
  refine aw_iload rfl d_X_feed_81 ?_
  refine aw_bipush (v := nI 24) cb_24 d_X_feed_83 ?_
  refine aw_bipush (v := nI 8) cb_8 d_X_feed_85 ?_
  refine aw_iload rfl d_X_feed_87 ?_
  refine aw_iconst (v := nI 4) ci_4 d_X_feed_89 ?_
  refine aw_iremN (by omega) (by omega) (by omega) d_X_feed_90 ?_
  refine aw_imulN d_X_feed_91 ?_
  refine aw_isubN (by omega) d_X_feed_92 ?_
  refine aw_ishr d_X_feed_93 ?_
  refine aw_sipush (v := nI 255) cs_255 d_X_feed_94 ?_
  refine aw_iand d_X_feed_97 ?_
  refine aw_iast (j := 1) km_6 (vp_in_nI (by decide) (by decide)) (nI_clamp (by decide)) d_X_feed_98 ?_
  refine aw_aload_n rfl rfl d_X_feed_99 ?_
  refine aw_dup rfl d_X_feed_100 ?_
  refine aw_geti fl_X_112 km_0 (by decide) rfl d_X_feed_101 ?_
  refine aw_top (x2 := nI 1) (Eq.trans (congrFun (upd2_ne (by decide)) (12)) (upd2_eq)) ?_
  refine aw_iconst (v := nI 1) ci_1 d_X_feed_104 ?_
  refine aw_iadd d_X_feed_105 ?_
  refine aw_top (x2 := nI 2) (by decide +kernel) ?_
  refine aw_puti fl_X_112 km_0 (by decide) rfl rfl rfl rfl d_X_feed_106 ?_
  refine aw_iinc (v := nI 2) (lv2 := [.ref 0, .int (x), .int (z), .int (u), .int (v), .int (c), .int (nI 2), .int (x)]) rfl (by decide +kernel) (by decide) rfl d_X_feed_109 ?_
  refine aw_goto (tgt := 18) (by decide) d_X_feed_112 ?_
  refine aw_iload rfl d_X_feed_18 ?_
  refine aw_bipush (v := nI 20) cb_20 d_X_feed_20 ?_
  refine aw_icmp_geI (tgt := 115) (2) (20) (by decide +kernel) (by decide +kernel) (by decide) d_X_feed_22 (fun q => absurd q (by decide)) (fun _ => ?_)
  refine aw_iload rfl d_X_feed_25 ?_
  refine aw_iconst (v := nI 4) ci_4 d_X_feed_27 ?_
  refine aw_icmp_geI (tgt := 35) (2) (4) (by decide +kernel) (by decide +kernel) (by decide) d_X_feed_28 (fun q => absurd q (by decide)) (fun _ => ?_)
  refine aw_iload_n rfl rfl d_X_feed_31 ?_
  refine aw_goto (tgt := 71) (by decide) d_X_feed_32 ?_
  refine aw_istore (lv2 := [.ref 0, .int (x), .int (z), .int (u), .int (v), .int (c), .int (nI 2), .int (x)]) (by decide) rfl d_X_feed_71 ?_
  refine aw_aload_n rfl rfl d_X_feed_73 ?_
  refine aw_getr fl_X_25 km_0 (by decide) rfl rm_0_6 d_X_feed_74 ?_
  refine aw_aload_n rfl rfl d_X_feed_77 ?_
  refine aw_geti fl_X_112 km_0 (by decide) rfl d_X_feed_78 ?_
  refine aw_top (x2 := nI 2) (upd2_eq) ?_
  refine aw_iload rfl d_X_feed_81 ?_
  refine aw_bipush (v := nI 24) cb_24 d_X_feed_83 ?_
  refine aw_bipush (v := nI 8) cb_8 d_X_feed_85 ?_
  refine aw_iload rfl d_X_feed_87 ?_
  refine aw_iconst (v := nI 4) ci_4 d_X_feed_89 ?_
  refine aw_iremN (by omega) (by omega) (by omega) d_X_feed_90 ?_
  refine aw_imulN d_X_feed_91 ?_
  refine aw_isubN (by omega) d_X_feed_92 ?_
  refine aw_ishr d_X_feed_93 ?_
  refine aw_sipush (v := nI 255) cs_255 d_X_feed_94 ?_
  refine aw_iand d_X_feed_97 ?_
  refine aw_iast (j := 2) km_6 (vp_in_nI (by decide) (by decide)) (nI_clamp (by decide)) d_X_feed_98 ?_
  refine aw_aload_n rfl rfl d_X_feed_99 ?_
  refine aw_dup rfl d_X_feed_100 ?_
  refine aw_geti fl_X_112 km_0 (by decide) rfl d_X_feed_101 ?_
  refine aw_top (x2 := nI 2) (Eq.trans (congrFun (upd2_ne (by decide)) (12)) (upd2_eq)) ?_
  refine aw_iconst (v := nI 1) ci_1 d_X_feed_104 ?_
  refine aw_iadd d_X_feed_105 ?_
  refine aw_top (x2 := nI 3) (by decide +kernel) ?_
  refine aw_puti fl_X_112 km_0 (by decide) rfl rfl rfl rfl d_X_feed_106 ?_
  refine aw_iinc (v := nI 3) (lv2 := [.ref 0, .int (x), .int (z), .int (u), .int (v), .int (c), .int (nI 3), .int (x)]) rfl (by decide +kernel) (by decide) rfl d_X_feed_109 ?_
  refine aw_goto (tgt := 18) (by decide) d_X_feed_112 ?_
  refine aw_iload rfl d_X_feed_18 ?_
  refine aw_bipush (v := nI 20) cb_20 d_X_feed_20 ?_
  refine aw_icmp_geI (tgt := 115) (3) (20) (by decide +kernel) (by decide +kernel) (by decide) d_X_feed_22 (fun q => absurd q (by decide)) (fun _ => ?_)
  refine aw_iload rfl d_X_feed_25 ?_
  refine aw_iconst (v := nI 4) ci_4 d_X_feed_27 ?_
  refine aw_icmp_geI (tgt := 35) (3) (4) (by decide +kernel) (by decide +kernel) (by decide) d_X_feed_28 (fun q => absurd q (by decide)) (fun _ => ?_)
  refine aw_iload_n rfl rfl d_X_feed_31 ?_
  refine aw_goto (tgt := 71) (by decide) d_X_feed_32 ?_
  refine aw_istore (lv2 := [.ref 0, .int (x), .int (z), .int (u), .int (v), .int (c), .int (nI 3), .int (x)]) (by decide) rfl d_X_feed_71 ?_
  refine aw_aload_n rfl rfl d_X_feed_73 ?_
  refine aw_getr fl_X_25 km_0 (by decide) rfl rm_0_6 d_X_feed_74 ?_
  refine aw_aload_n rfl rfl d_X_feed_77 ?_
  refine aw_geti fl_X_112 km_0 (by decide) rfl d_X_feed_78 ?_
  refine aw_top (x2 := nI 3) (upd2_eq) ?_
  refine aw_iload rfl d_X_feed_81 ?_
  refine aw_bipush (v := nI 24) cb_24 d_X_feed_83 ?_
  refine aw_bipush (v := nI 8) cb_8 d_X_feed_85 ?_
  refine aw_iload rfl d_X_feed_87 ?_
  refine aw_iconst (v := nI 4) ci_4 d_X_feed_89 ?_
  refine aw_iremN (by omega) (by omega) (by omega) d_X_feed_90 ?_
  refine aw_imulN d_X_feed_91 ?_
  refine aw_isubN (by omega) d_X_feed_92 ?_
  refine aw_ishr d_X_feed_93 ?_
  refine aw_sipush (v := nI 255) cs_255 d_X_feed_94 ?_
  refine aw_iand d_X_feed_97 ?_
  refine aw_iast (j := 3) km_6 (vp_in_nI (by decide) (by decide)) (nI_clamp (by decide)) d_X_feed_98 ?_
  refine aw_aload_n rfl rfl d_X_feed_99 ?_
  refine aw_dup rfl d_X_feed_100 ?_
  refine aw_geti fl_X_112 km_0 (by decide) rfl d_X_feed_101 ?_
  refine aw_top (x2 := nI 3) (Eq.trans (congrFun (upd2_ne (by decide)) (12)) (upd2_eq)) ?_
  refine aw_iconst (v := nI 1) ci_1 d_X_feed_104 ?_
  refine aw_iadd d_X_feed_105 ?_
  refine aw_top (x2 := nI 4) (by decide +kernel) ?_
  refine aw_puti fl_X_112 km_0 (by decide) rfl rfl rfl rfl d_X_feed_106 ?_
  refine aw_iinc (v := nI 4) (lv2 := [.ref 0, .int (x), .int (z), .int (u), .int (v), .int (c), .int (nI 4), .int (x)]) rfl (by decide +kernel) (by decide) rfl d_X_feed_109 ?_
  refine aw_goto (tgt := 18) (by decide) d_X_feed_112 ?_
  refine aw_iload rfl d_X_feed_18 ?_
  refine aw_bipush (v := nI 20) cb_20 d_X_feed_20 ?_
  refine aw_icmp_geI (tgt := 115) (4) (20) (by decide +kernel) (by decide +kernel) (by decide) d_X_feed_22 (fun q => absurd q (by decide)) (fun _ => ?_)
  refine aw_iload rfl d_X_feed_25 ?_
  refine aw_iconst (v := nI 4) ci_4 d_X_feed_27 ?_
  refine aw_icmp_geI (tgt := 35) (4) (4) (by decide +kernel) (by decide +kernel) (by decide) d_X_feed_28 (fun _ => ?_) (fun q => absurd q (by decide))
  refine aw_iload rfl d_X_feed_35 ?_
  refine aw_bipush (v := nI 8) cb_8 d_X_feed_37 ?_
  refine aw_icmp_geI (tgt := 46) (4) (8) (by decide +kernel) (by decide +kernel) (by decide) d_X_feed_39 (fun q => absurd q (by decide)) (fun _ => ?_)
  refine aw_iload_n rfl rfl d_X_feed_42 ?_
  refine aw_goto (tgt := 71) (by decide) d_X_feed_43 ?_
  refine aw_istore (lv2 := [.ref 0, .int (x), .int (z), .int (u), .int (v), .int (c), .int (nI 4), .int (z)]) (by decide) rfl d_X_feed_71 ?_
  refine aw_aload_n rfl rfl d_X_feed_73 ?_
  refine aw_getr fl_X_25 km_0 (by decide) rfl rm_0_6 d_X_feed_74 ?_
  refine aw_aload_n rfl rfl d_X_feed_77 ?_
  refine aw_geti fl_X_112 km_0 (by decide) rfl d_X_feed_78 ?_
  refine aw_top (x2 := nI 4) (upd2_eq) ?_
  refine aw_iload rfl d_X_feed_81 ?_
  refine aw_bipush (v := nI 24) cb_24 d_X_feed_83 ?_
  refine aw_bipush (v := nI 8) cb_8 d_X_feed_85 ?_
  refine aw_iload rfl d_X_feed_87 ?_
  refine aw_iconst (v := nI 4) ci_4 d_X_feed_89 ?_
  refine aw_iremN (by omega) (by omega) (by omega) d_X_feed_90 ?_
  refine aw_imulN d_X_feed_91 ?_
  refine aw_isubN (by omega) d_X_feed_92 ?_
  refine aw_ishr d_X_feed_93 ?_
  refine aw_sipush (v := nI 255) cs_255 d_X_feed_94 ?_
  refine aw_iand d_X_feed_97 ?_
  refine aw_iast (j := 4) km_6 (vp_in_nI (by decide) (by decide)) (nI_clamp (by decide)) d_X_feed_98 ?_
  refine aw_aload_n rfl rfl d_X_feed_99 ?_
  refine aw_dup rfl d_X_feed_100 ?_
  refine aw_geti fl_X_112 km_0 (by decide) rfl d_X_feed_101 ?_
  refine aw_top (x2 := nI 4) (Eq.trans (congrFun (upd2_ne (by decide)) (12)) (upd2_eq)) ?_
  refine aw_iconst (v := nI 1) ci_1 d_X_feed_104 ?_
  refine aw_iadd d_X_feed_105 ?_
  refine aw_top (x2 := nI 5) (by decide +kernel) ?_
  refine aw_puti fl_X_112 km_0 (by decide) rfl rfl rfl rfl d_X_feed_106 ?_
  refine aw_iinc (v := nI 5) (lv2 := [.ref 0, .int (x), .int (z), .int (u), .int (v), .int (c), .int (nI 5), .int (z)]) rfl (by decide +kernel) (by decide) rfl d_X_feed_109 ?_
  refine aw_goto (tgt := 18) (by decide) d_X_feed_112 ?_
  refine aw_iload rfl d_X_feed_18 ?_
  refine aw_bipush (v := nI 20) cb_20 d_X_feed_20 ?_
  refine aw_icmp_geI (tgt := 115) (5) (20) (by decide +kernel) (by decide +kernel) (by decide) d_X_feed_22 (fun q => absurd q (by decide)) (fun _ => ?_)
  refine aw_iload rfl d_X_feed_25 ?_
  refine aw_iconst (v := nI 4) ci_4 d_X_feed_27 ?_
  refine aw_icmp_geI (tgt := 35) (5) (4) (by decide +kernel) (by decide +kernel) (by decide) d_X_feed_28 (fun _ => ?_) (fun q => absurd q (by decide))
  refine aw_iload rfl d_X_feed_35 ?_
  refine aw_bipush (v := nI 8) cb_8 d_X_feed_37 ?_
  refine aw_icmp_geI (tgt := 46) (5) (8) (by decide +kernel) (by decide +kernel) (by decide) d_X_feed_39 (fun q => absurd q (by decide)) (fun _ => ?_)
  refine aw_iload_n rfl rfl d_X_feed_42 ?_
  refine aw_goto (tgt := 71) (by decide) d_X_feed_43 ?_
  refine aw_istore (lv2 := [.ref 0, .int (x), .int (z), .int (u), .int (v), .int (c), .int (nI 5), .int (z)]) (by decide) rfl d_X_feed_71 ?_
  refine aw_aload_n rfl rfl d_X_feed_73 ?_
  refine aw_getr fl_X_25 km_0 (by decide) rfl rm_0_6 d_X_feed_74 ?_
  refine aw_aload_n rfl rfl d_X_feed_77 ?_
  refine aw_geti fl_X_112 km_0 (by decide) rfl d_X_feed_78 ?_
  refine aw_top (x2 := nI 5) (upd2_eq) ?_
  refine aw_iload rfl d_X_feed_81 ?_
  refine aw_bipush (v := nI 24) cb_24 d_X_feed_83 ?_
  refine aw_bipush (v := nI 8) cb_8 d_X_feed_85 ?_
  refine aw_iload rfl d_X_feed_87 ?_
  refine aw_iconst (v := nI 4) ci_4 d_X_feed_89 ?_
  refine aw_iremN (by omega) (by omega) (by omega) d_X_feed_90 ?_
  refine aw_imulN d_X_feed_91 ?_
  refine aw_isubN (by omega) d_X_feed_92 ?_
  refine aw_ishr d_X_feed_93 ?_
  refine aw_sipush (v := nI 255) cs_255 d_X_feed_94 ?_
  refine aw_iand d_X_feed_97 ?_
  refine aw_iast (j := 5) km_6 (vp_in_nI (by decide) (by decide)) (nI_clamp (by decide)) d_X_feed_98 ?_
  refine aw_aload_n rfl rfl d_X_feed_99 ?_
  refine aw_dup rfl d_X_feed_100 ?_
  refine aw_geti fl_X_112 km_0 (by decide) rfl d_X_feed_101 ?_
  refine aw_top (x2 := nI 5) (Eq.trans (congrFun (upd2_ne (by decide)) (12)) (upd2_eq)) ?_
  refine aw_iconst (v := nI 1) ci_1 d_X_feed_104 ?_
  refine aw_iadd d_X_feed_105 ?_
  refine aw_top (x2 := nI 6) (by decide +kernel) ?_
  refine aw_puti fl_X_112 km_0 (by decide) rfl rfl rfl rfl d_X_feed_106 ?_
  refine aw_iinc (v := nI 6) (lv2 := [.ref 0, .int (x), .int (z), .int (u), .int (v), .int (c), .int (nI 6), .int (z)]) rfl (by decide +kernel) (by decide) rfl d_X_feed_109 ?_
  refine aw_goto (tgt := 18) (by decide) d_X_feed_112 ?_
  refine aw_iload rfl d_X_feed_18 ?_
  refine aw_bipush (v := nI 20) cb_20 d_X_feed_20 ?_
  refine aw_icmp_geI (tgt := 115) (6) (20) (by decide +kernel) (by decide +kernel) (by decide) d_X_feed_22 (fun q => absurd q (by decide)) (fun _ => ?_)
  refine aw_iload rfl d_X_feed_25 ?_
  refine aw_iconst (v := nI 4) ci_4 d_X_feed_27 ?_
  refine aw_icmp_geI (tgt := 35) (6) (4) (by decide +kernel) (by decide +kernel) (by decide) d_X_feed_28 (fun _ => ?_) (fun q => absurd q (by decide))
  refine aw_iload rfl d_X_feed_35 ?_
  refine aw_bipush (v := nI 8) cb_8 d_X_feed_37 ?_
  refine aw_icmp_geI (tgt := 46) (6) (8) (by decide +kernel) (by decide +kernel) (by decide) d_X_feed_39 (fun q => absurd q (by decide)) (fun _ => ?_)
  refine aw_iload_n rfl rfl d_X_feed_42 ?_
  refine aw_goto (tgt := 71) (by decide) d_X_feed_43 ?_
  refine aw_istore (lv2 := [.ref 0, .int (x), .int (z), .int (u), .int (v), .int (c), .int (nI 6), .int (z)]) (by decide) rfl d_X_feed_71 ?_
  refine aw_aload_n rfl rfl d_X_feed_73 ?_
  refine aw_getr fl_X_25 km_0 (by decide) rfl rm_0_6 d_X_feed_74 ?_
  refine aw_aload_n rfl rfl d_X_feed_77 ?_
  refine aw_geti fl_X_112 km_0 (by decide) rfl d_X_feed_78 ?_
  refine aw_top (x2 := nI 6) (upd2_eq) ?_
  refine aw_iload rfl d_X_feed_81 ?_
  refine aw_bipush (v := nI 24) cb_24 d_X_feed_83 ?_
  refine aw_bipush (v := nI 8) cb_8 d_X_feed_85 ?_
  refine aw_iload rfl d_X_feed_87 ?_
  refine aw_iconst (v := nI 4) ci_4 d_X_feed_89 ?_
  refine aw_iremN (by omega) (by omega) (by omega) d_X_feed_90 ?_
  refine aw_imulN d_X_feed_91 ?_
  refine aw_isubN (by omega) d_X_feed_92 ?_
  refine aw_ishr d_X_feed_93 ?_
  refine aw_sipush (v := nI 255) cs_255 d_X_feed_94 ?_
  refine aw_iand d_X_feed_97 ?_
  refine aw_iast (j := 6) km_6 (vp_in_nI (by decide) (by decide)) (nI_clamp (by decide)) d_X_feed_98 ?_
  refine aw_aload_n rfl rfl d_X_feed_99 ?_
  refine aw_dup rfl d_X_feed_100 ?_
  refine aw_geti fl_X_112 km_0 (by decide) rfl d_X_feed_101 ?_
  refine aw_top (x2 := nI 6) (Eq.trans (congrFun (upd2_ne (by decide)) (12)) (upd2_eq)) ?_
  refine aw_iconst (v := nI 1) ci_1 d_X_feed_104 ?_
  refine aw_iadd d_X_feed_105 ?_
  refine aw_top (x2 := nI 7) (by decide +kernel) ?_
  refine aw_puti fl_X_112 km_0 (by decide) rfl rfl rfl rfl d_X_feed_106 ?_
  refine aw_iinc (v := nI 7) (lv2 := [.ref 0, .int (x), .int (z), .int (u), .int (v), .int (c), .int (nI 7), .int (z)]) rfl (by decide +kernel) (by decide) rfl d_X_feed_109 ?_
  refine aw_goto (tgt := 18) (by decide) d_X_feed_112 ?_
  refine aw_iload rfl d_X_feed_18 ?_
  refine aw_bipush (v := nI 20) cb_20 d_X_feed_20 ?_
  refine aw_icmp_geI (tgt := 115) (7) (20) (by decide +kernel) (by decide +kernel) (by decide) d_X_feed_22 (fun q => absurd q (by decide)) (fun _ => ?_)
  refine aw_iload rfl d_X_feed_25 ?_
  refine aw_iconst (v := nI 4) ci_4 d_X_feed_27 ?_
  refine aw_icmp_geI (tgt := 35) (7) (4) (by decide +kernel) (by decide +kernel) (by decide) d_X_feed_28 (fun _ => ?_) (fun q => absurd q (by decide))
  refine aw_iload rfl d_X_feed_35 ?_
  refine aw_bipush (v := nI 8) cb_8 d_X_feed_37 ?_
  refine aw_icmp_geI (tgt := 46) (7) (8) (by decide +kernel) (by decide +kernel) (by decide) d_X_feed_39 (fun q => absurd q (by decide)) (fun _ => ?_)
  refine aw_iload_n rfl rfl d_X_feed_42 ?_
  refine aw_goto (tgt := 71) (by decide) d_X_feed_43 ?_
  refine aw_istore (lv2 := [.ref 0, .int (x), .int (z), .int (u), .int (v), .int (c), .int (nI 7), .int (z)]) (by decide) rfl d_X_feed_71 ?_
  refine aw_aload_n rfl rfl d_X_feed_73 ?_
  refine aw_getr fl_X_25 km_0 (by decide) rfl rm_0_6 d_X_feed_74 ?_
  refine aw_aload_n rfl rfl d_X_feed_77 ?_
  refine aw_geti fl_X_112 km_0 (by decide) rfl d_X_feed_78 ?_
  refine aw_top (x2 := nI 7) (upd2_eq) ?_
  refine aw_iload rfl d_X_feed_81 ?_
  refine aw_bipush (v := nI 24) cb_24 d_X_feed_83 ?_
  refine aw_bipush (v := nI 8) cb_8 d_X_feed_85 ?_
  refine aw_iload rfl d_X_feed_87 ?_
  refine aw_iconst (v := nI 4) ci_4 d_X_feed_89 ?_
  refine aw_iremN (by omega) (by omega) (by omega) d_X_feed_90 ?_
  refine aw_imulN d_X_feed_91 ?_
  refine aw_isubN (by omega) d_X_feed_92 ?_
  refine aw_ishr d_X_feed_93 ?_
  refine aw_sipush (v := nI 255) cs_255 d_X_feed_94 ?_
  refine aw_iand d_X_feed_97 ?_
  refine aw_iast (j := 7) km_6 (vp_in_nI (by decide) (by decide)) (nI_clamp (by decide)) d_X_feed_98 ?_
  refine aw_aload_n rfl rfl d_X_feed_99 ?_
  refine aw_dup rfl d_X_feed_100 ?_
  refine aw_geti fl_X_112 km_0 (by decide) rfl d_X_feed_101 ?_
  refine aw_top (x2 := nI 7) (Eq.trans (congrFun (upd2_ne (by decide)) (12)) (upd2_eq)) ?_
  refine aw_iconst (v := nI 1) ci_1 d_X_feed_104 ?_
  refine aw_iadd d_X_feed_105 ?_
  refine aw_top (x2 := nI 8) (by decide +kernel) ?_
  refine aw_puti fl_X_112 km_0 (by decide) rfl rfl rfl rfl d_X_feed_106 ?_
  refine aw_iinc (v := nI 8) (lv2 := [.ref 0, .int (x), .int (z), .int (u), .int (v), .int (c), .int (nI 8), .int (z)]) rfl (by decide +kernel) (by decide) rfl d_X_feed_109 ?_
  refine aw_goto (tgt := 18) (by decide) d_X_feed_112 ?_
  refine aw_iload rfl d_X_feed_18 ?_
  refine aw_bipush (v := nI 20) cb_20 d_X_feed_20 ?_
  refine aw_icmp_geI (tgt := 115) (8) (20) (by decide +kernel) (by decide +kernel) (by decide) d_X_feed_22 (fun q => absurd q (by decide)) (fun _ => ?_)
  refine aw_iload rfl d_X_feed_25 ?_
  refine aw_iconst (v := nI 4) ci_4 d_X_feed_27 ?_
  refine aw_icmp_geI (tgt := 35) (8) (4) (by decide +kernel) (by decide +kernel) (by decide) d_X_feed_28 (fun _ => ?_) (fun q => absurd q (by decide))
  refine aw_iload rfl d_X_feed_35 ?_
  refine aw_bipush (v := nI 8) cb_8 d_X_feed_37 ?_
  refine aw_icmp_geI (tgt := 46) (8) (8) (by decide +kernel) (by decide +kernel) (by decide) d_X_feed_39 (fun _ => ?_) (fun q => absurd q (by decide))
  refine aw_iload rfl d_X_feed_46 ?_
  refine aw_bipush (v := nI 12) cb_12 d_X_feed_48 ?_
  refine aw_icmp_geI (tgt := 57) (8) (12) (by decide +kernel) (by decide +kernel) (by decide) d_X_feed_50 (fun q => absurd q (by decide)) (fun _ => ?_)
  refine aw_iload_n rfl rfl d_X_feed_53 ?_
  refine aw_goto (tgt := 71) (by decide) d_X_feed_54 ?_
  refine aw_istore (lv2 := [.ref 0, .int (x), .int (z), .int (u), .int (v), .int (c), .int (nI 8), .int (u)]) (by decide) rfl d_X_feed_71 ?_
  refine aw_aload_n rfl rfl d_X_feed_73 ?_
  refine aw_getr fl_X_25 km_0 (by decide) rfl rm_0_6 d_X_feed_74 ?_
  refine aw_aload_n rfl rfl d_X_feed_77 ?_
  refine aw_geti fl_X_112 km_0 (by decide) rfl d_X_feed_78 ?_
  refine aw_top (x2 := nI 8) (upd2_eq) ?_
  refine aw_iload rfl d_X_feed_81 ?_
  refine aw_bipush (v := nI 24) cb_24 d_X_feed_83 ?_
  refine aw_bipush (v := nI 8) cb_8 d_X_feed_85 ?_
  refine aw_iload rfl d_X_feed_87 ?_
  refine aw_iconst (v := nI 4) ci_4 d_X_feed_89 ?_
  refine aw_iremN (by omega) (by omega) (by omega) d_X_feed_90 ?_
  refine aw_imulN d_X_feed_91 ?_
  refine aw_isubN (by omega) d_X_feed_92 ?_
  refine aw_ishr d_X_feed_93 ?_
  refine aw_sipush (v := nI 255) cs_255 d_X_feed_94 ?_
  refine aw_iand d_X_feed_97 ?_
  refine aw_iast (j := 8) km_6 (vp_in_nI (by decide) (by decide)) (nI_clamp (by decide)) d_X_feed_98 ?_
  refine aw_aload_n rfl rfl d_X_feed_99 ?_
  refine aw_dup rfl d_X_feed_100 ?_
  refine aw_geti fl_X_112 km_0 (by decide) rfl d_X_feed_101 ?_
  refine aw_top (x2 := nI 8) (Eq.trans (congrFun (upd2_ne (by decide)) (12)) (upd2_eq)) ?_
  refine aw_iconst (v := nI 1) ci_1 d_X_feed_104 ?_
  refine aw_iadd d_X_feed_105 ?_
  refine aw_top (x2 := nI 9) (by decide +kernel) ?_
  refine aw_puti fl_X_112 km_0 (by decide) rfl rfl rfl rfl d_X_feed_106 ?_
  refine aw_iinc (v := nI 9) (lv2 := [.ref 0, .int (x), .int (z), .int (u), .int (v), .int (c), .int (nI 9), .int (u)]) rfl (by decide +kernel) (by decide) rfl d_X_feed_109 ?_
  refine aw_goto (tgt := 18) (by decide) d_X_feed_112 ?_
  refine aw_iload rfl d_X_feed_18 ?_
  refine aw_bipush (v := nI 20) cb_20 d_X_feed_20 ?_
  refine aw_icmp_geI (tgt := 115) (9) (20) (by decide +kernel) (by decide +kernel) (by decide) d_X_feed_22 (fun q => absurd q (by decide)) (fun _ => ?_)
  refine aw_iload rfl d_X_feed_25 ?_
  refine aw_iconst (v := nI 4) ci_4 d_X_feed_27 ?_
  refine aw_icmp_geI (tgt := 35) (9) (4) (by decide +kernel) (by decide +kernel) (by decide) d_X_feed_28 (fun _ => ?_) (fun q => absurd q (by decide))
  refine aw_iload rfl d_X_feed_35 ?_
  refine aw_bipush (v := nI 8) cb_8 d_X_feed_37 ?_
  refine aw_icmp_geI (tgt := 46) (9) (8) (by decide +kernel) (by decide +kernel) (by decide) d_X_feed_39 (fun _ => ?_) (fun q => absurd q (by decide))
  refine aw_iload rfl d_X_feed_46 ?_
  refine aw_bipush (v := nI 12) cb_12 d_X_feed_48 ?_
  refine aw_icmp_geI (tgt := 57) (9) (12) (by decide +kernel) (by decide +kernel) (by decide) d_X_feed_50 (fun q => absurd q (by decide)) (fun _ => ?_)
  refine aw_iload_n rfl rfl d_X_feed_53 ?_
  refine aw_goto (tgt := 71) (by decide) d_X_feed_54 ?_
  refine aw_istore (lv2 := [.ref 0, .int (x), .int (z), .int (u), .int (v), .int (c), .int (nI 9), .int (u)]) (by decide) rfl d_X_feed_71 ?_
  refine aw_aload_n rfl rfl d_X_feed_73 ?_
  refine aw_getr fl_X_25 km_0 (by decide) rfl rm_0_6 d_X_feed_74 ?_
  refine aw_aload_n rfl rfl d_X_feed_77 ?_
  refine aw_geti fl_X_112 km_0 (by decide) rfl d_X_feed_78 ?_
  refine aw_top (x2 := nI 9) (upd2_eq) ?_
  refine aw_iload rfl d_X_feed_81 ?_
  refine aw_bipush (v := nI 24) cb_24 d_X_feed_83 ?_
  refine aw_bipush (v := nI 8) cb_8 d_X_feed_85 ?_
  refine aw_iload rfl d_X_feed_87 ?_
  refine aw_iconst (v := nI 4) ci_4 d_X_feed_89 ?_
  refine aw_iremN (by omega) (by omega) (by omega) d_X_feed_90 ?_
  refine aw_imulN d_X_feed_91 ?_
  refine aw_isubN (by omega) d_X_feed_92 ?_
  refine aw_ishr d_X_feed_93 ?_
  refine aw_sipush (v := nI 255) cs_255 d_X_feed_94 ?_
  refine aw_iand d_X_feed_97 ?_
  refine aw_iast (j := 9) km_6 (vp_in_nI (by decide) (by decide)) (nI_clamp (by decide)) d_X_feed_98 ?_
  refine aw_aload_n rfl rfl d_X_feed_99 ?_
  refine aw_dup rfl d_X_feed_100 ?_
  refine aw_geti fl_X_112 km_0 (by decide) rfl d_X_feed_101 ?_
  refine aw_top (x2 := nI 9) (Eq.trans (congrFun (upd2_ne (by decide)) (12)) (upd2_eq)) ?_
  refine aw_iconst (v := nI 1) ci_1 d_X_feed_104 ?_
  refine aw_iadd d_X_feed_105 ?_
  refine aw_top (x2 := nI 10) (by decide +kernel) ?_
  refine aw_puti fl_X_112 km_0 (by decide) rfl rfl rfl rfl d_X_feed_106 ?_
  refine aw_iinc (v := nI 10) (lv2 := [.ref 0, .int (x), .int (z), .int (u), .int (v), .int (c), .int (nI 10), .int (u)]) rfl (by decide +kernel) (by decide) rfl d_X_feed_109 ?_
  refine aw_goto (tgt := 18) (by decide) d_X_feed_112 ?_
  refine aw_iload rfl d_X_feed_18 ?_
  refine aw_bipush (v := nI 20) cb_20 d_X_feed_20 ?_
  refine aw_icmp_geI (tgt := 115) (10) (20) (by decide +kernel) (by decide +kernel) (by decide) d_X_feed_22 (fun q => absurd q (by decide)) (fun _ => ?_)
  refine aw_iload rfl d_X_feed_25 ?_
  refine aw_iconst (v := nI 4) ci_4 d_X_feed_27 ?_
  refine aw_icmp_geI (tgt := 35) (10) (4) (by decide +kernel) (by decide +kernel) (by decide) d_X_feed_28 (fun _ => ?_) (fun q => absurd q (by decide))
  refine aw_iload rfl d_X_feed_35 ?_
  refine aw_bipush (v := nI 8) cb_8 d_X_feed_37 ?_
  refine aw_icmp_geI (tgt := 46) (10) (8) (by decide +kernel) (by decide +kernel) (by decide) d_X_feed_39 (fun _ => ?_) (fun q => absurd q (by decide))
  refine aw_iload rfl d_X_feed_46 ?_
  refine aw_bipush (v := nI 12) cb_12 d_X_feed_48 ?_
  refine aw_icmp_geI (tgt := 57) (10) (12) (by decide +kernel) (by decide +kernel) (by decide) d_X_feed_50 (fun q => absurd q (by decide)) (fun _ => ?_)
  refine aw_iload_n rfl rfl d_X_feed_53 ?_
  refine aw_goto (tgt := 71) (by decide) d_X_feed_54 ?_
  refine aw_istore (lv2 := [.ref 0, .int (x), .int (z), .int (u), .int (v), .int (c), .int (nI 10), .int (u)]) (by decide) rfl d_X_feed_71 ?_
  refine aw_aload_n rfl rfl d_X_feed_73 ?_
  refine aw_getr fl_X_25 km_0 (by decide) rfl rm_0_6 d_X_feed_74 ?_
  refine aw_aload_n rfl rfl d_X_feed_77 ?_
  refine aw_geti fl_X_112 km_0 (by decide) rfl d_X_feed_78 ?_
  refine aw_top (x2 := nI 10) (upd2_eq) ?_
  refine aw_iload rfl d_X_feed_81 ?_
  refine aw_bipush (v := nI 24) cb_24 d_X_feed_83 ?_
  refine aw_bipush (v := nI 8) cb_8 d_X_feed_85 ?_
  refine aw_iload rfl d_X_feed_87 ?_
  refine aw_iconst (v := nI 4) ci_4 d_X_feed_89 ?_
  refine aw_iremN (by omega) (by omega) (by omega) d_X_feed_90 ?_
  refine aw_imulN d_X_feed_91 ?_
  refine aw_isubN (by omega) d_X_feed_92 ?_
  refine aw_ishr d_X_feed_93 ?_
  refine aw_sipush (v := nI 255) cs_255 d_X_feed_94 ?_
  refine aw_iand d_X_feed_97 ?_
  refine aw_iast (j := 10) km_6 (vp_in_nI (by decide) (by decide)) (nI_clamp (by decide)) d_X_feed_98 ?_
  refine aw_aload_n rfl rfl d_X_feed_99 ?_
  refine aw_dup rfl d_X_feed_100 ?_
  refine aw_geti fl_X_112 km_0 (by decide) rfl d_X_feed_101 ?_
  refine aw_top (x2 := nI 10) (Eq.trans (congrFun (upd2_ne (by decide)) (12)) (upd2_eq)) ?_
  refine aw_iconst (v := nI 1) ci_1 d_X_feed_104 ?_
  refine aw_iadd d_X_feed_105 ?_
  refine aw_top (x2 := nI 11) (by decide +kernel) ?_
  refine aw_puti fl_X_112 km_0 (by decide) rfl rfl rfl rfl d_X_feed_106 ?_
  refine aw_iinc (v := nI 11) (lv2 := [.ref 0, .int (x), .int (z), .int (u), .int (v), .int (c), .int (nI 11), .int (u)]) rfl (by decide +kernel) (by decide) rfl d_X_feed_109 ?_
  refine aw_goto (tgt := 18) (by decide) d_X_feed_112 ?_
  refine aw_iload rfl d_X_feed_18 ?_
  refine aw_bipush (v := nI 20) cb_20 d_X_feed_20 ?_
  refine aw_icmp_geI (tgt := 115) (11) (20) (by decide +kernel) (by decide +kernel) (by decide) d_X_feed_22 (fun q => absurd q (by decide)) (fun _ => ?_)
  refine aw_iload rfl d_X_feed_25 ?_
  refine aw_iconst (v := nI 4) ci_4 d_X_feed_27 ?_
  refine aw_icmp_geI (tgt := 35) (11) (4) (by decide +kernel) (by decide +kernel) (by decide) d_X_feed_28 (fun _ => ?_) (fun q => absurd q (by decide))
  refine aw_iload rfl d_X_feed_35 ?_
  refine aw_bipush (v := nI 8) cb_8 d_X_feed_37 ?_
  refine aw_icmp_geI (tgt := 46) (11) (8) (by decide +kernel) (by decide +kernel) (by decide) d_X_feed_39 (fun _ => ?_) (fun q => absurd q (by decide))
  refine aw_iload rfl d_X_feed_46 ?_
  refine aw_bipush (v := nI 12) cb_12 d_X_feed_48 ?_
  refine aw_icmp_geI (tgt := 57) (11) (12) (by decide +kernel) (by decide +kernel) (by decide) d_X_feed_50 (fun q => absurd q (by decide)) (fun _ => ?_)
  refine aw_iload_n rfl rfl d_X_feed_53 ?_
  refine aw_goto (tgt := 71) (by decide) d_X_feed_54 ?_
  refine aw_istore (lv2 := [.ref 0, .int (x), .int (z), .int (u), .int (v), .int (c), .int (nI 11), .int (u)]) (by decide) rfl d_X_feed_71 ?_
  refine aw_aload_n rfl rfl d_X_feed_73 ?_
  refine aw_getr fl_X_25 km_0 (by decide) rfl rm_0_6 d_X_feed_74 ?_
  refine aw_aload_n rfl rfl d_X_feed_77 ?_
  refine aw_geti fl_X_112 km_0 (by decide) rfl d_X_feed_78 ?_
  refine aw_top (x2 := nI 11) (upd2_eq) ?_
  refine aw_iload rfl d_X_feed_81 ?_
  refine aw_bipush (v := nI 24) cb_24 d_X_feed_83 ?_
  refine aw_bipush (v := nI 8) cb_8 d_X_feed_85 ?_
  refine aw_iload rfl d_X_feed_87 ?_
  refine aw_iconst (v := nI 4) ci_4 d_X_feed_89 ?_
  refine aw_iremN (by omega) (by omega) (by omega) d_X_feed_90 ?_
  refine aw_imulN d_X_feed_91 ?_
  refine aw_isubN (by omega) d_X_feed_92 ?_
  refine aw_ishr d_X_feed_93 ?_
  refine aw_sipush (v := nI 255) cs_255 d_X_feed_94 ?_
  refine aw_iand d_X_feed_97 ?_
  refine aw_iast (j := 11) km_6 (vp_in_nI (by decide) (by decide)) (nI_clamp (by decide)) d_X_feed_98 ?_
  refine aw_aload_n rfl rfl d_X_feed_99 ?_
  refine aw_dup rfl d_X_feed_100 ?_
  refine aw_geti fl_X_112 km_0 (by decide) rfl d_X_feed_101 ?_
  refine aw_top (x2 := nI 11) (Eq.trans (congrFun (upd2_ne (by decide)) (12)) (upd2_eq)) ?_
  refine aw_iconst (v := nI 1) ci_1 d_X_feed_104 ?_
  refine aw_iadd d_X_feed_105 ?_
  refine aw_top (x2 := nI 12) (by decide +kernel) ?_
  refine aw_puti fl_X_112 km_0 (by decide) rfl rfl rfl rfl d_X_feed_106 ?_
  refine aw_iinc (v := nI 12) (lv2 := [.ref 0, .int (x), .int (z), .int (u), .int (v), .int (c), .int (nI 12), .int (u)]) rfl (by decide +kernel) (by decide) rfl d_X_feed_109 ?_
  refine aw_goto (tgt := 18) (by decide) d_X_feed_112 ?_
  refine aw_iload rfl d_X_feed_18 ?_
  refine aw_bipush (v := nI 20) cb_20 d_X_feed_20 ?_
  refine aw_icmp_geI (tgt := 115) (12) (20) (by decide +kernel) (by decide +kernel) (by decide) d_X_feed_22 (fun q => absurd q (by decide)) (fun _ => ?_)
  refine aw_iload rfl d_X_feed_25 ?_
  refine aw_iconst (v := nI 4) ci_4 d_X_feed_27 ?_
  refine aw_icmp_geI (tgt := 35) (12) (4) (by decide +kernel) (by decide +kernel) (by decide) d_X_feed_28 (fun _ => ?_) (fun q => absurd q (by decide))
  refine aw_iload rfl d_X_feed_35 ?_
  refine aw_bipush (v := nI 8) cb_8 d_X_feed_37 ?_
  refine aw_icmp_geI (tgt := 46) (12) (8) (by decide +kernel) (by decide +kernel) (by decide) d_X_feed_39 (fun _ => ?_) (fun q => absurd q (by decide))
  refine aw_iload rfl d_X_feed_46 ?_
  refine aw_bipush (v := nI 12) cb_12 d_X_feed_48 ?_
  refine aw_icmp_geI (tgt := 57) (12) (12) (by decide +kernel) (by decide +kernel) (by decide) d_X_feed_50 (fun _ => ?_) (fun q => absurd q (by decide))
  refine aw_iload rfl d_X_feed_57 ?_
  refine aw_bipush (v := nI 16) cb_16 d_X_feed_59 ?_
  refine aw_icmp_geI (tgt := 69) (12) (16) (by decide +kernel) (by decide +kernel) (by decide) d_X_feed_61 (fun q => absurd q (by decide)) (fun _ => ?_)
  refine aw_iload rfl d_X_feed_64 ?_
  refine aw_goto (tgt := 71) (by decide) d_X_feed_66 ?_
  refine aw_istore (lv2 := [.ref 0, .int (x), .int (z), .int (u), .int (v), .int (c), .int (nI 12), .int (v)]) (by decide) rfl d_X_feed_71 ?_
  refine aw_aload_n rfl rfl d_X_feed_73 ?_
  refine aw_getr fl_X_25 km_0 (by decide) rfl rm_0_6 d_X_feed_74 ?_
  refine aw_aload_n rfl rfl d_X_feed_77 ?_
  refine aw_geti fl_X_112 km_0 (by decide) rfl d_X_feed_78 ?_
  refine aw_top (x2 := nI 12) (upd2_eq) ?_
  refine aw_iload rfl d_X_feed_81 ?_
  refine aw_bipush (v := nI 24) cb_24 d_X_feed_83 ?_
  refine aw_bipush (v := nI 8) cb_8 d_X_feed_85 ?_
  refine aw_iload rfl d_X_feed_87 ?_
  refine aw_iconst (v := nI 4) ci_4 d_X_feed_89 ?_
  refine aw_iremN (by omega) (by omega) (by omega) d_X_feed_90 ?_
  refine aw_imulN d_X_feed_91 ?_
  refine aw_isubN (by omega) d_X_feed_92 ?_
  refine aw_ishr d_X_feed_93 ?_
  refine aw_sipush (v := nI 255) cs_255 d_X_feed_94 ?_
  refine aw_iand d_X_feed_97 ?_
  refine aw_iast (j := 12) km_6 (vp_in_nI (by decide) (by decide)) (nI_clamp (by decide)) d_X_feed_98 ?_
  refine aw_aload_n rfl rfl d_X_feed_99 ?_
  refine aw_dup rfl d_X_feed_100 ?_
  refine aw_geti fl_X_112 km_0 (by decide) rfl d_X_feed_101 ?_
  refine aw_top (x2 := nI 12) (Eq.trans (congrFun (upd2_ne (by decide)) (12)) (upd2_eq)) ?_
  refine aw_iconst (v := nI 1) ci_1 d_X_feed_104 ?_
  refine aw_iadd d_X_feed_105 ?_
  refine aw_top (x2 := nI 13) (by decide +kernel) ?_
  refine aw_puti fl_X_112 km_0 (by decide) rfl rfl rfl rfl d_X_feed_106 ?_
  refine aw_iinc (v := nI 13) (lv2 := [.ref 0, .int (x), .int (z), .int (u), .int (v), .int (c), .int (nI 13), .int (v)]) rfl (by decide +kernel) (by decide) rfl d_X_feed_109 ?_
  refine aw_goto (tgt := 18) (by decide) d_X_feed_112 ?_
  refine aw_iload rfl d_X_feed_18 ?_
  refine aw_bipush (v := nI 20) cb_20 d_X_feed_20 ?_
  refine aw_icmp_geI (tgt := 115) (13) (20) (by decide +kernel) (by decide +kernel) (by decide) d_X_feed_22 (fun q => absurd q (by decide)) (fun _ => ?_)
  refine aw_iload rfl d_X_feed_25 ?_
  refine aw_iconst (v := nI 4) ci_4 d_X_feed_27 ?_
  refine aw_icmp_geI (tgt := 35) (13) (4) (by decide +kernel) (by decide +kernel) (by decide) d_X_feed_28 (fun _ => ?_) (fun q => absurd q (by decide))
  refine aw_iload rfl d_X_feed_35 ?_
  refine aw_bipush (v := nI 8) cb_8 d_X_feed_37 ?_
  refine aw_icmp_geI (tgt := 46) (13) (8) (by decide +kernel) (by decide +kernel) (by decide) d_X_feed_39 (fun _ => ?_) (fun q => absurd q (by decide))
  refine aw_iload rfl d_X_feed_46 ?_
  refine aw_bipush (v := nI 12) cb_12 d_X_feed_48 ?_
  refine aw_icmp_geI (tgt := 57) (13) (12) (by decide +kernel) (by decide +kernel) (by decide) d_X_feed_50 (fun _ => ?_) (fun q => absurd q (by decide))
  refine aw_iload rfl d_X_feed_57 ?_
  refine aw_bipush (v := nI 16) cb_16 d_X_feed_59 ?_
  refine aw_icmp_geI (tgt := 69) (13) (16) (by decide +kernel) (by decide +kernel) (by decide) d_X_feed_61 (fun q => absurd q (by decide)) (fun _ => ?_)
  refine aw_iload rfl d_X_feed_64 ?_
  refine aw_goto (tgt := 71) (by decide) d_X_feed_66 ?_
  refine aw_istore (lv2 := [.ref 0, .int (x), .int (z), .int (u), .int (v), .int (c), .int (nI 13), .int (v)]) (by decide) rfl d_X_feed_71 ?_
  refine aw_aload_n rfl rfl d_X_feed_73 ?_
  refine aw_getr fl_X_25 km_0 (by decide) rfl rm_0_6 d_X_feed_74 ?_
  refine aw_aload_n rfl rfl d_X_feed_77 ?_
  refine aw_geti fl_X_112 km_0 (by decide) rfl d_X_feed_78 ?_
  refine aw_top (x2 := nI 13) (upd2_eq) ?_
  refine aw_iload rfl d_X_feed_81 ?_
  refine aw_bipush (v := nI 24) cb_24 d_X_feed_83 ?_
  refine aw_bipush (v := nI 8) cb_8 d_X_feed_85 ?_
  refine aw_iload rfl d_X_feed_87 ?_
  refine aw_iconst (v := nI 4) ci_4 d_X_feed_89 ?_
  refine aw_iremN (by omega) (by omega) (by omega) d_X_feed_90 ?_
  refine aw_imulN d_X_feed_91 ?_
  refine aw_isubN (by omega) d_X_feed_92 ?_
  refine aw_ishr d_X_feed_93 ?_
  refine aw_sipush (v := nI 255) cs_255 d_X_feed_94 ?_
  refine aw_iand d_X_feed_97 ?_
  refine aw_iast (j := 13) km_6 (vp_in_nI (by decide) (by decide)) (nI_clamp (by decide)) d_X_feed_98 ?_
  refine aw_aload_n rfl rfl d_X_feed_99 ?_
  refine aw_dup rfl d_X_feed_100 ?_
  refine aw_geti fl_X_112 km_0 (by decide) rfl d_X_feed_101 ?_
  refine aw_top (x2 := nI 13) (Eq.trans (congrFun (upd2_ne (by decide)) (12)) (upd2_eq)) ?_
  refine aw_iconst (v := nI 1) ci_1 d_X_feed_104 ?_
  refine aw_iadd d_X_feed_105 ?_
  refine aw_top (x2 := nI 14) (by decide +kernel) ?_
  refine aw_puti fl_X_112 km_0 (by decide) rfl rfl rfl rfl d_X_feed_106 ?_
  refine aw_iinc (v := nI 14) (lv2 := [.ref 0, .int (x), .int (z), .int (u), .int (v), .int (c), .int (nI 14), .int (v)]) rfl (by decide +kernel) (by decide) rfl d_X_feed_109 ?_
  refine aw_goto (tgt := 18) (by decide) d_X_feed_112 ?_
  refine aw_iload rfl d_X_feed_18 ?_
  refine aw_bipush (v := nI 20) cb_20 d_X_feed_20 ?_
  refine aw_icmp_geI (tgt := 115) (14) (20) (by decide +kernel) (by decide +kernel) (by decide) d_X_feed_22 (fun q => absurd q (by decide)) (fun _ => ?_)
  refine aw_iload rfl d_X_feed_25 ?_
  refine aw_iconst (v := nI 4) ci_4 d_X_feed_27 ?_
  refine aw_icmp_geI (tgt := 35) (14) (4) (by decide +kernel) (by decide +kernel) (by decide) d_X_feed_28 (fun _ => ?_) (fun q => absurd q (by decide))
  refine aw_iload rfl d_X_feed_35 ?_
  refine aw_bipush (v := nI 8) cb_8 d_X_feed_37 ?_
  refine aw_icmp_geI (tgt := 46) (14) (8) (by decide +kernel) (by decide +kernel) (by decide) d_X_feed_39 (fun _ => ?_) (fun q => absurd q (by decide))
  refine aw_iload rfl d_X_feed_46 ?_
  refine aw_bipush (v := nI 12) cb_12 d_X_feed_48 ?_
  refine aw_icmp_geI (tgt := 57) (14) (12) (by decide +kernel) (by decide +kernel) (by decide) d_X_feed_50 (fun _ => ?_) (fun q => absurd q (by decide))
  refine aw_iload rfl d_X_feed_57 ?_
  refine aw_bipush (v := nI 16) cb_16 d_X_feed_59 ?_
  refine aw_icmp_geI (tgt := 69) (14) (16) (by decide +kernel) (by decide +kernel) (by decide) d_X_feed_61 (fun q => absurd q (by decide)) (fun _ => ?_)
  refine aw_iload rfl d_X_feed_64 ?_
  refine aw_goto (tgt := 71) (by decide) d_X_feed_66 ?_
  refine aw_istore (lv2 := [.ref 0, .int (x), .int (z), .int (u), .int (v), .int (c), .int (nI 14), .int (v)]) (by decide) rfl d_X_feed_71 ?_
  refine aw_aload_n rfl rfl d_X_feed_73 ?_
  refine aw_getr fl_X_25 km_0 (by decide) rfl rm_0_6 d_X_feed_74 ?_
  refine aw_aload_n rfl rfl d_X_feed_77 ?_
  refine aw_geti fl_X_112 km_0 (by decide) rfl d_X_feed_78 ?_
  refine aw_top (x2 := nI 14) (upd2_eq) ?_
  refine aw_iload rfl d_X_feed_81 ?_
  refine aw_bipush (v := nI 24) cb_24 d_X_feed_83 ?_
  refine aw_bipush (v := nI 8) cb_8 d_X_feed_85 ?_
  refine aw_iload rfl d_X_feed_87 ?_
  refine aw_iconst (v := nI 4) ci_4 d_X_feed_89 ?_
  refine aw_iremN (by omega) (by omega) (by omega) d_X_feed_90 ?_
  refine aw_imulN d_X_feed_91 ?_
  refine aw_isubN (by omega) d_X_feed_92 ?_
  refine aw_ishr d_X_feed_93 ?_
  refine aw_sipush (v := nI 255) cs_255 d_X_feed_94 ?_
  refine aw_iand d_X_feed_97 ?_
  refine aw_iast (j := 14) km_6 (vp_in_nI (by decide) (by decide)) (nI_clamp (by decide)) d_X_feed_98 ?_
  refine aw_aload_n rfl rfl d_X_feed_99 ?_
  refine aw_dup rfl d_X_feed_100 ?_
  refine aw_geti fl_X_112 km_0 (by decide) rfl d_X_feed_101 ?_
  refine aw_top (x2 := nI 14) (Eq.trans (congrFun (upd2_ne (by decide)) (12)) (upd2_eq)) ?_
  refine aw_iconst (v := nI 1) ci_1 d_X_feed_104 ?_
  refine aw_iadd d_X_feed_105 ?_
  refine aw_top (x2 := nI 15) (by decide +kernel) ?_
  refine aw_puti fl_X_112 km_0 (by decide) rfl rfl rfl rfl d_X_feed_106 ?_
  refine aw_iinc (v := nI 15) (lv2 := [.ref 0, .int (x), .int (z), .int (u), .int (v), .int (c), .int (nI 15), .int (v)]) rfl (by decide +kernel) (by decide) rfl d_X_feed_109 ?_
  refine aw_goto (tgt := 18) (by decide) d_X_feed_112 ?_
  refine aw_iload rfl d_X_feed_18 ?_
  refine aw_bipush (v := nI 20) cb_20 d_X_feed_20 ?_
  refine aw_icmp_geI (tgt := 115) (15) (20) (by decide +kernel) (by decide +kernel) (by decide) d_X_feed_22 (fun q => absurd q (by decide)) (fun _ => ?_)
  refine aw_iload rfl d_X_feed_25 ?_
  refine aw_iconst (v := nI 4) ci_4 d_X_feed_27 ?_
  refine aw_icmp_geI (tgt := 35) (15) (4) (by decide +kernel) (by decide +kernel) (by decide) d_X_feed_28 (fun _ => ?_) (fun q => absurd q (by decide))
  refine aw_iload rfl d_X_feed_35 ?_
  refine aw_bipush (v := nI 8) cb_8 d_X_feed_37 ?_
  refine aw_icmp_geI (tgt := 46) (15) (8) (by decide +kernel) (by decide +kernel) (by decide) d_X_feed_39 (fun _ => ?_) (fun q => absurd q (by decide))
  refine aw_iload rfl d_X_feed_46 ?_
  refine aw_bipush (v := nI 12) cb_12 d_X_feed_48 ?_
  refine aw_icmp_geI (tgt := 57) (15) (12) (by decide +kernel) (by decide +kernel) (by decide) d_X_feed_50 (fun _ => ?_) (fun q => absurd q (by decide))
  refine aw_iload rfl d_X_feed_57 ?_
  refine aw_bipush (v := nI 16) cb_16 d_X_feed_59 ?_
  refine aw_icmp_geI (tgt := 69) (15) (16) (by decide +kernel) (by decide +kernel) (by decide) d_X_feed_61 (fun q => absurd q (by decide)) (fun _ => ?_)
  refine aw_iload rfl d_X_feed_64 ?_
  refine aw_goto (tgt := 71) (by decide) d_X_feed_66 ?_
  refine aw_istore (lv2 := [.ref 0, .int (x), .int (z), .int (u), .int (v), .int (c), .int (nI 15), .int (v)]) (by decide) rfl d_X_feed_71 ?_
  refine aw_aload_n rfl rfl d_X_feed_73 ?_
  refine aw_getr fl_X_25 km_0 (by decide) rfl rm_0_6 d_X_feed_74 ?_
  refine aw_aload_n rfl rfl d_X_feed_77 ?_
  refine aw_geti fl_X_112 km_0 (by decide) rfl d_X_feed_78 ?_
  refine aw_top (x2 := nI 15) (upd2_eq) ?_
  refine aw_iload rfl d_X_feed_81 ?_
  refine aw_bipush (v := nI 24) cb_24 d_X_feed_83 ?_
  refine aw_bipush (v := nI 8) cb_8 d_X_feed_85 ?_
  refine aw_iload rfl d_X_feed_87 ?_
  refine aw_iconst (v := nI 4) ci_4 d_X_feed_89 ?_
  refine aw_iremN (by omega) (by omega) (by omega) d_X_feed_90 ?_
  refine aw_imulN d_X_feed_91 ?_
  refine aw_isubN (by omega) d_X_feed_92 ?_
  refine aw_ishr d_X_feed_93 ?_
  refine aw_sipush (v := nI 255) cs_255 d_X_feed_94 ?_
  refine aw_iand d_X_feed_97 ?_
  refine aw_iast (j := 15) km_6 (vp_in_nI (by decide) (by decide)) (nI_clamp (by decide)) d_X_feed_98 ?_
  refine aw_aload_n rfl rfl d_X_feed_99 ?_
  refine aw_dup rfl d_X_feed_100 ?_
  refine aw_geti fl_X_112 km_0 (by decide) rfl d_X_feed_101 ?_
  refine aw_top (x2 := nI 15) (Eq.trans (congrFun (upd2_ne (by decide)) (12)) (upd2_eq)) ?_
  refine aw_iconst (v := nI 1) ci_1 d_X_feed_104 ?_
  refine aw_iadd d_X_feed_105 ?_
  refine aw_top (x2 := nI 16) (by decide +kernel) ?_
  refine aw_puti fl_X_112 km_0 (by decide) rfl rfl rfl rfl d_X_feed_106 ?_
  refine aw_iinc (v := nI 16) (lv2 := [.ref 0, .int (x), .int (z), .int (u), .int (v), .int (c), .int (nI 16), .int (v)]) rfl (by decide +kernel) (by decide) rfl d_X_feed_109 ?_
  refine aw_goto (tgt := 18) (by decide) d_X_feed_112 ?_
  refine aw_iload rfl d_X_feed_18 ?_
  refine aw_bipush (v := nI 20) cb_20 d_X_feed_20 ?_
  refine aw_icmp_geI (tgt := 115) (16) (20) (by decide +kernel) (by decide +kernel) (by decide) d_X_feed_22 (fun q => absurd q (by decide)) (fun _ => ?_)
  refine aw_iload rfl d_X_feed_25 ?_
  refine aw_iconst (v := nI 4) ci_4 d_X_feed_27 ?_
  refine aw_icmp_geI (tgt := 35) (16) (4) (by decide +kernel) (by decide +kernel) (by decide) d_X_feed_28 (fun _ => ?_) (fun q => absurd q (by decide))
  refine aw_iload rfl d_X_feed_35 ?_
  refine aw_bipush (v := nI 8) cb_8 d_X_feed_37 ?_
  refine aw_icmp_geI (tgt := 46) (16) (8) (by decide +kernel) (by decide +kernel) (by decide) d_X_feed_39 (fun _ => ?_) (fun q => absurd q (by decide))
  refine aw_iload rfl d_X_feed_46 ?_
  refine aw_bipush (v := nI 12) cb_12 d_X_feed_48 ?_
  refine aw_icmp_geI (tgt := 57) (16) (12) (by decide +kernel) (by decide +kernel) (by decide) d_X_feed_50 (fun _ => ?_) (fun q => absurd q (by decide))
  refine aw_iload rfl d_X_feed_57 ?_
  refine aw_bipush (v := nI 16) cb_16 d_X_feed_59 ?_
  refine aw_icmp_geI (tgt := 69) (16) (16) (by decide +kernel) (by decide +kernel) (by decide) d_X_feed_61 (fun _ => ?_) (fun q => absurd q (by decide))
  refine aw_iload rfl d_X_feed_69 ?_
  refine aw_istore (lv2 := [.ref 0, .int (x), .int (z), .int (u), .int (v), .int (c), .int (nI 16), .int (c)]) (by decide) rfl d_X_feed_71 ?_
  refine aw_aload_n rfl rfl d_X_feed_73 ?_
  refine aw_getr fl_X_25 km_0 (by decide) rfl rm_0_6 d_X_feed_74 ?_
  refine aw_aload_n rfl rfl d_X_feed_77 ?_
  refine aw_geti fl_X_112 km_0 (by decide) rfl d_X_feed_78 ?_
  refine aw_top (x2 := nI 16) (upd2_eq) ?_
  refine aw_iload rfl d_X_feed_81 ?_
  refine aw_bipush (v := nI 24) cb_24 d_X_feed_83 ?_
  refine aw_bipush (v := nI 8) cb_8 d_X_feed_85 ?_
  refine aw_iload rfl d_X_feed_87 ?_
  refine aw_iconst (v := nI 4) ci_4 d_X_feed_89 ?_
  refine aw_iremN (by omega) (by omega) (by omega) d_X_feed_90 ?_
  refine aw_imulN d_X_feed_91 ?_
  refine aw_isubN (by omega) d_X_feed_92 ?_
  refine aw_ishr d_X_feed_93 ?_
  refine aw_sipush (v := nI 255) cs_255 d_X_feed_94 ?_
  refine aw_iand d_X_feed_97 ?_
  refine aw_iast (j := 16) km_6 (vp_in_nI (by decide) (by decide)) (nI_clamp (by decide)) d_X_feed_98 ?_
  refine aw_aload_n rfl rfl d_X_feed_99 ?_
  refine aw_dup rfl d_X_feed_100 ?_
  refine aw_geti fl_X_112 km_0 (by decide) rfl d_X_feed_101 ?_
  refine aw_top (x2 := nI 16) (Eq.trans (congrFun (upd2_ne (by decide)) (12)) (upd2_eq)) ?_
  refine aw_iconst (v := nI 1) ci_1 d_X_feed_104 ?_
  refine aw_iadd d_X_feed_105 ?_
  refine aw_top (x2 := nI 17) (by decide +kernel) ?_
  refine aw_puti fl_X_112 km_0 (by decide) rfl rfl rfl rfl d_X_feed_106 ?_
  refine aw_iinc (v := nI 17) (lv2 := [.ref 0, .int (x), .int (z), .int (u), .int (v), .int (c), .int (nI 17), .int (c)]) rfl (by decide +kernel) (by decide) rfl d_X_feed_109 ?_
  refine aw_goto (tgt := 18) (by decide) d_X_feed_112 ?_
  refine aw_iload rfl d_X_feed_18 ?_
  refine aw_bipush (v := nI 20) cb_20 d_X_feed_20 ?_
  refine aw_icmp_geI (tgt := 115) (17) (20) (by decide +kernel) (by decide +kernel) (by decide) d_X_feed_22 (fun q => absurd q (by decide)) (fun _ => ?_)
  refine aw_iload rfl d_X_feed_25 ?_
  refine aw_iconst (v := nI 4) ci_4 d_X_feed_27 ?_
  refine aw_icmp_geI (tgt := 35) (17) (4) (by decide +kernel) (by decide +kernel) (by decide) d_X_feed_28 (fun _ => ?_) (fun q => absurd q (by decide))
  refine aw_iload rfl d_X_feed_35 ?_
  refine aw_bipush (v := nI 8) cb_8 d_X_feed_37 ?_
  refine aw_icmp_geI (tgt := 46) (17) (8) (by decide +kernel) (by decide +kernel) (by decide) d_X_feed_39 (fun _ => ?_) (fun q => absurd q (by decide))
  refine aw_iload rfl d_X_feed_46 ?_
  refine aw_bipush (v := nI 12) cb_12 d_X_feed_48 ?_
  refine aw_icmp_geI (tgt := 57) (17) (12) (by decide +kernel) (by decide +kernel) (by decide) d_X_feed_50 (fun _ => ?_) (fun q => absurd q (by decide))
  refine aw_iload rfl d_X_feed_57 ?_
  refine aw_bipush (v := nI 16) cb_16 d_X_feed_59 ?_
  refine aw_icmp_geI (tgt := 69) (17) (16) (by decide +kernel) (by decide +kernel) (by decide) d_X_feed_61 (fun _ => ?_) (fun q => absurd q (by decide))
  refine aw_iload rfl d_X_feed_69 ?_
  refine aw_istore (lv2 := [.ref 0, .int (x), .int (z), .int (u), .int (v), .int (c), .int (nI 17), .int (c)]) (by decide) rfl d_X_feed_71 ?_
  refine aw_aload_n rfl rfl d_X_feed_73 ?_
  refine aw_getr fl_X_25 km_0 (by decide) rfl rm_0_6 d_X_feed_74 ?_
  refine aw_aload_n rfl rfl d_X_feed_77 ?_
  refine aw_geti fl_X_112 km_0 (by decide) rfl d_X_feed_78 ?_
  refine aw_top (x2 := nI 17) (upd2_eq) ?_
  refine aw_iload rfl d_X_feed_81 ?_
  refine aw_bipush (v := nI 24) cb_24 d_X_feed_83 ?_
  refine aw_bipush (v := nI 8) cb_8 d_X_feed_85 ?_
  refine aw_iload rfl d_X_feed_87 ?_
  refine aw_iconst (v := nI 4) ci_4 d_X_feed_89 ?_
  refine aw_iremN (by omega) (by omega) (by omega) d_X_feed_90 ?_
  refine aw_imulN d_X_feed_91 ?_
  refine aw_isubN (by omega) d_X_feed_92 ?_
  refine aw_ishr d_X_feed_93 ?_
  refine aw_sipush (v := nI 255) cs_255 d_X_feed_94 ?_
  refine aw_iand d_X_feed_97 ?_
  refine aw_iast (j := 17) km_6 (vp_in_nI (by decide) (by decide)) (nI_clamp (by decide)) d_X_feed_98 ?_
  refine aw_aload_n rfl rfl d_X_feed_99 ?_
  refine aw_dup rfl d_X_feed_100 ?_
  refine aw_geti fl_X_112 km_0 (by decide) rfl d_X_feed_101 ?_
  refine aw_top (x2 := nI 17) (Eq.trans (congrFun (upd2_ne (by decide)) (12)) (upd2_eq)) ?_
  refine aw_iconst (v := nI 1) ci_1 d_X_feed_104 ?_
  refine aw_iadd d_X_feed_105 ?_
  refine aw_top (x2 := nI 18) (by decide +kernel) ?_
  refine aw_puti fl_X_112 km_0 (by decide) rfl rfl rfl rfl d_X_feed_106 ?_
  refine aw_iinc (v := nI 18) (lv2 := [.ref 0, .int (x), .int (z), .int (u), .int (v), .int (c), .int (nI 18), .int (c)]) rfl (by decide +kernel) (by decide) rfl d_X_feed_109 ?_
  refine aw_goto (tgt := 18) (by decide) d_X_feed_112 ?_
  refine aw_iload rfl d_X_feed_18 ?_
  refine aw_bipush (v := nI 20) cb_20 d_X_feed_20 ?_
  refine aw_icmp_geI (tgt := 115) (18) (20) (by decide +kernel) (by decide +kernel) (by decide) d_X_feed_22 (fun q => absurd q (by decide)) (fun _ => ?_)
  refine aw_iload rfl d_X_feed_25 ?_
  refine aw_iconst (v := nI 4) ci_4 d_X_feed_27 ?_
  refine aw_icmp_geI (tgt := 35) (18) (4) (by decide +kernel) (by decide +kernel) (by decide) d_X_feed_28 (fun _ => ?_) (fun q => absurd q (by decide))
  refine aw_iload rfl d_X_feed_35 ?_
  refine aw_bipush (v := nI 8) cb_8 d_X_feed_37 ?_
  refine aw_icmp_geI (tgt := 46) (18) (8) (by decide +kernel) (by decide +kernel) (by decide) d_X_feed_39 (fun _ => ?_) (fun q => absurd q (by decide))
  refine aw_iload rfl d_X_feed_46 ?_
  refine aw_bipush (v := nI 12) cb_12 d_X_feed_48 ?_
  refine aw_icmp_geI (tgt := 57) (18) (12) (by decide +kernel) (by decide +kernel) (by decide) d_X_feed_50 (fun _ => ?_) (fun q => absurd q (by decide))
  refine aw_iload rfl d_X_feed_57 ?_
  refine aw_bipush (v := nI 16) cb_16 d_X_feed_59 ?_
  refine aw_icmp_geI (tgt := 69) (18) (16) (by decide +kernel) (by decide +kernel) (by decide) d_X_feed_61 (fun _ => ?_) (fun q => absurd q (by decide))
  refine aw_iload rfl d_X_feed_69 ?_
  refine aw_istore (lv2 := [.ref 0, .int (x), .int (z), .int (u), .int (v), .int (c), .int (nI 18), .int (c)]) (by decide) rfl d_X_feed_71 ?_
  refine aw_aload_n rfl rfl d_X_feed_73 ?_
  refine aw_getr fl_X_25 km_0 (by decide) rfl rm_0_6 d_X_feed_74 ?_
  refine aw_aload_n rfl rfl d_X_feed_77 ?_
  refine aw_geti fl_X_112 km_0 (by decide) rfl d_X_feed_78 ?_
  refine aw_top (x2 := nI 18) (upd2_eq) ?_
  refine aw_iload rfl d_X_feed_81 ?_
  refine aw_bipush (v := nI 24) cb_24 d_X_feed_83 ?_
  refine aw_bipush (v := nI 8) cb_8 d_X_feed_85 ?_
  refine aw_iload rfl d_X_feed_87 ?_
  refine aw_iconst (v := nI 4) ci_4 d_X_feed_89 ?_
  refine aw_iremN (by omega) (by omega) (by omega) d_X_feed_90 ?_
  refine aw_imulN d_X_feed_91 ?_
  refine aw_isubN (by omega) d_X_feed_92 ?_
  refine aw_ishr d_X_feed_93 ?_
  refine aw_sipush (v := nI 255) cs_255 d_X_feed_94 ?_
  refine aw_iand d_X_feed_97 ?_
  refine aw_iast (j := 18) km_6 (vp_in_nI (by decide) (by decide)) (nI_clamp (by decide)) d_X_feed_98 ?_
  refine aw_aload_n rfl rfl d_X_feed_99 ?_
  refine aw_dup rfl d_X_feed_100 ?_
  refine aw_geti fl_X_112 km_0 (by decide) rfl d_X_feed_101 ?_
  refine aw_top (x2 := nI 18) (Eq.trans (congrFun (upd2_ne (by decide)) (12)) (upd2_eq)) ?_
  refine aw_iconst (v := nI 1) ci_1 d_X_feed_104 ?_
  refine aw_iadd d_X_feed_105 ?_
  refine aw_top (x2 := nI 19) (by decide +kernel) ?_
  refine aw_puti fl_X_112 km_0 (by decide) rfl rfl rfl rfl d_X_feed_106 ?_
  refine aw_iinc (v := nI 19) (lv2 := [.ref 0, .int (x), .int (z), .int (u), .int (v), .int (c), .int (nI 19), .int (c)]) rfl (by decide +kernel) (by decide) rfl d_X_feed_109 ?_
  refine aw_goto (tgt := 18) (by decide) d_X_feed_112 ?_
  refine aw_iload rfl d_X_feed_18 ?_
  refine aw_bipush (v := nI 20) cb_20 d_X_feed_20 ?_
  refine aw_icmp_geI (tgt := 115) (19) (20) (by decide +kernel) (by decide +kernel) (by decide) d_X_feed_22 (fun q => absurd q (by decide)) (fun _ => ?_)
  refine aw_iload rfl d_X_feed_25 ?_
  refine aw_iconst (v := nI 4) ci_4 d_X_feed_27 ?_
  refine aw_icmp_geI (tgt := 35) (19) (4) (by decide +kernel) (by decide +kernel) (by decide) d_X_feed_28 (fun _ => ?_) (fun q => absurd q (by decide))
  refine aw_iload rfl d_X_feed_35 ?_
  refine aw_bipush (v := nI 8) cb_8 d_X_feed_37 ?_
  refine aw_icmp_geI (tgt := 46) (19) (8) (by decide +kernel) (by decide +kernel) (by decide) d_X_feed_39 (fun _ => ?_) (fun q => absurd q (by decide))
  refine aw_iload rfl d_X_feed_46 ?_
  refine aw_bipush (v := nI 12) cb_12 d_X_feed_48 ?_
  refine aw_icmp_geI (tgt := 57) (19) (12) (by decide +kernel) (by decide +kernel) (by decide) d_X_feed_50 (fun _ => ?_) (fun q => absurd q (by decide))
  refine aw_iload rfl d_X_feed_57 ?_
  refine aw_bipush (v := nI 16) cb_16 d_X_feed_59 ?_
  refine aw_icmp_geI (tgt := 69) (19) (16) (by decide +kernel) (by decide +kernel) (by decide) d_X_feed_61 (fun _ => ?_) (fun q => absurd q (by decide))
  refine aw_iload rfl d_X_feed_69 ?_
  refine aw_istore (lv2 := [.ref 0, .int (x), .int (z), .int (u), .int (v), .int (c), .int (nI 19), .int (c)]) (by decide) rfl d_X_feed_71 ?_
  refine aw_aload_n rfl rfl d_X_feed_73 ?_
  refine aw_getr fl_X_25 km_0 (by decide) rfl rm_0_6 d_X_feed_74 ?_
  refine aw_aload_n rfl rfl d_X_feed_77 ?_
  refine aw_geti fl_X_112 km_0 (by decide) rfl d_X_feed_78 ?_
  refine aw_top (x2 := nI 19) (upd2_eq) ?_
  refine aw_iload rfl d_X_feed_81 ?_
  refine aw_bipush (v := nI 24) cb_24 d_X_feed_83 ?_
  refine aw_bipush (v := nI 8) cb_8 d_X_feed_85 ?_
  refine aw_iload rfl d_X_feed_87 ?_
  refine aw_iconst (v := nI 4) ci_4 d_X_feed_89 ?_
  refine aw_iremN (by omega) (by omega) (by omega) d_X_feed_90 ?_
  refine aw_imulN d_X_feed_91 ?_
  refine aw_isubN (by omega) d_X_feed_92 ?_
  refine aw_ishr d_X_feed_93 ?_
  refine aw_sipush (v := nI 255) cs_255 d_X_feed_94 ?_
  refine aw_iand d_X_feed_97 ?_
  refine aw_iast (j := 19) km_6 (vp_in_nI (by decide) (by decide)) (nI_clamp (by decide)) d_X_feed_98 ?_
  refine aw_aload_n rfl rfl d_X_feed_99 ?_
  refine aw_dup rfl d_X_feed_100 ?_
  refine aw_geti fl_X_112 km_0 (by decide) rfl d_X_feed_101 ?_
  refine aw_top (x2 := nI 19) (Eq.trans (congrFun (upd2_ne (by decide)) (12)) (upd2_eq)) ?_
  refine aw_iconst (v := nI 1) ci_1 d_X_feed_104 ?_
  refine aw_iadd d_X_feed_105 ?_
  refine aw_top (x2 := nI 20) (by decide +kernel) ?_
  refine aw_puti fl_X_112 km_0 (by decide) rfl rfl rfl rfl d_X_feed_106 ?_
  refine aw_iinc (v := nI 20) (lv2 := [.ref 0, .int (x), .int (z), .int (u), .int (v), .int (c), .int (nI 20), .int (c)]) rfl (by decide +kernel) (by decide) rfl d_X_feed_109 ?_
  refine aw_goto (tgt := 18) (by decide) d_X_feed_112 ?_
  refine aw_iload rfl d_X_feed_18 ?_
  refine aw_bipush (v := nI 20) cb_20 d_X_feed_20 ?_
  refine aw_icmp_geI (tgt := 115) (20) (20) (by decide +kernel) (by decide +kernel) (by decide) d_X_feed_22 (fun _ => ?_) (fun q => absurd q (by decide))
  refine aw_aload_n rfl rfl d_X_feed_115 ?_
  refine aw_geti fl_X_112 km_0 (by decide) rfl d_X_feed_116 ?_
  refine aw_top (x2 := nI 20) (upd2_eq) ?_
  exact as_reti rfl d_X_feed_119 (hK _)
set_option maxRecDepth 20000 in
theorem ms_end {K2 : K2T} {I : Nat → Nat → Int32} (hR : FRm I) {x : Int32} (h1 : x.toInt = 0 → ∀ I', K2 (some (.int (nI 1))) I') (h0 : ¬ (x.toInt = 0) → ∀ I', K2 (some (.int (nI 0))) I') : Ss l b 14 y_X_end KM RM [.ref 0, .int (x)] (I) K2 := by
  obtain ⟨hF, w0, w2, w3, w5, w6, w7, w73, w74, wh, w110, o3, o12, o19, o21, o22, o23, o35⟩ := hR
  have hF0 := hF
  obtain ⟨g0, g1, g2, g3, g4, g5, g6, g7, g8, g9, g10, g11, g12, gb⟩ := hF
  refine Ss.of (show As l b 14 y_X_end KM RM K2 (I) 0 [.ref 0, .int (x)] [] from ?_)
  refine aw_iload_n rfl rfl d_X_end_0 ?_
  refine aw_iconst (v := nI 0) ci_0 d_X_end_1 ?_
  refine aw_aload_n rfl rfl d_X_end_2 ?_
  refine aw_geti fl_X_112 km_0 (by decide) rfl d_X_end_3 ?_
  refine aw_top (x2 := nI 0) (o12) ?_
  refine as_callS (as := [.int (x), .int (nI 0), .int (nI 0)]) (d' := 13) mo_X_isIn lk_X_98 rfl ⟨by decide, by decide⟩ rfl rfl (by decide) d_X_end_6 (Ss.of (show As l b 13 y_X_isIn KM RM _ (I) 0 [.int (x), .int (nI 0), .int (nI 0)] [] from ?_))
  refine aw_iload_n rfl rfl d_X_isIn_0 ?_
  refine aw_iload_n rfl rfl d_X_isIn_1 ?_
  refine aw_icmp_ltI (tgt := 14) (x).toInt (0) rfl (by decide +kernel) (by decide) d_X_isIn_2 (fun c1 => ?_) (fun c1 => ?_)
  · refine aw_iconst (v := nI 0) ci_0 d_X_isIn_14 ?_
    refine as_retz rfl (by decide +kernel) d_X_isIn_15 ?_
    refine (show As l b 14 y_X_end KM RM K2 (I) 9 [.ref 0, .int (x)] [.int (nI 0)] from ?_)
    refine aw_if_neI (tgt := 14) (0) (by decide +kernel) (by decide) d_X_end_9 (fun q => absurd q (by decide)) (fun _ => ?_)
    refine aw_iconst (v := nI 0) ci_0 d_X_end_12 ?_
    exact as_retz rfl (by decide +kernel) d_X_end_13 (h0 (by omega) _)
  · refine aw_iload_n rfl rfl d_X_isIn_5 ?_
    refine aw_iload_n rfl rfl d_X_isIn_6 ?_
    refine aw_icmp_gtI (tgt := 14) (x).toInt (0) rfl (by decide +kernel) (by decide) d_X_isIn_7 (fun c2 => ?_) (fun c2 => ?_)
    · refine aw_iconst (v := nI 0) ci_0 d_X_isIn_14 ?_
      refine as_retz rfl (by decide +kernel) d_X_isIn_15 ?_
      refine (show As l b 14 y_X_end KM RM K2 (I) 9 [.ref 0, .int (x)] [.int (nI 0)] from ?_)
      refine aw_if_neI (tgt := 14) (0) (by decide +kernel) (by decide) d_X_end_9 (fun q => absurd q (by decide)) (fun _ => ?_)
      refine aw_iconst (v := nI 0) ci_0 d_X_end_12 ?_
      exact as_retz rfl (by decide +kernel) d_X_end_13 (h0 (by omega) _)
    · refine aw_iconst (v := nI 1) ci_1 d_X_isIn_10 ?_
      refine aw_goto (tgt := 15) (by decide) d_X_isIn_11 ?_
      refine as_retz rfl (by decide +kernel) d_X_isIn_15 ?_
      refine (show As l b 14 y_X_end KM RM K2 (I) 9 [.ref 0, .int (x)] [.int (nI 1)] from ?_)
      refine aw_if_neI (tgt := 14) (1) (by decide +kernel) (by decide) d_X_end_9 (fun _ => ?_) (fun q => absurd q (by decide))
      refine aw_aload_n rfl rfl d_X_end_14 ?_
      refine aw_iload_n rfl rfl d_X_end_15 ?_
      refine aw_puti fl_X_112 km_0 (by decide) rfl rfl rfl rfl d_X_end_16 ?_
      refine aw_iconst (v := nI 1) ci_1 d_X_end_19 ?_
      exact as_retz rfl (by decide +kernel) d_X_end_20 (h1 (by omega) _)
set_option maxRecDepth 20000 in
theorem ms_text {K2 : K2T} {I : Nat → Nat → Int32} (hR : FRm I) {x : Int32} (hg : 0 ≤ x.toInt ∧ x.toInt ≤ 4 → ∀ I', K2 (some (.int (nI 0))) I') (hb : ¬ (0 ≤ x.toInt ∧ x.toInt ≤ 4) → ∀ I', K2 (some (.int (-1))) I') : Ss l b 14 y_X_text KM RM [.ref 0, .int (x)] (I) K2 := by
  obtain ⟨hF, w0, w2, w3, w5, w6, w7, w73, w74, wh, w110, o3, o12, o19, o21, o22, o23, o35⟩ := hR
  have hF0 := hF
  obtain ⟨g0, g1, g2, g3, g4, g5, g6, g7, g8, g9, g10, g11, g12, gb⟩ := hF
  refine Ss.of (show As l b 14 y_X_text KM RM K2 (I) 0 [.ref 0, .int (x), uu, uu] [] from ?_)
  refine aw_aload_n rfl rfl d_X_text_0 ?_
  refine aw_iconst (v := nI 0) ci_0 d_X_text_1 ?_
  refine aw_puti fl_X_193 km_0 (by decide) rfl rfl rfl rfl d_X_text_2 ?_
  refine aw_iload_n rfl rfl d_X_text_5 ?_
  refine aw_iconst (v := nI 0) ci_0 d_X_text_6 ?_
  refine aw_iconst (v := nI 4) ci_4 d_X_text_7 ?_
  refine as_callS (as := [.int (x), .int (nI 0), .int (nI 4)]) (d' := 13) mo_X_isIn lk_X_98 rfl ⟨by decide, by decide⟩ rfl rfl (by decide) d_X_text_8 (Ss.of (show As l b 13 y_X_isIn KM RM _ (upd2 I 0 17 (nI 0)) 0 [.int (x), .int (nI 0), .int (nI 4)] [] from ?_))
  refine aw_iload_n rfl rfl d_X_isIn_0 ?_
  refine aw_iload_n rfl rfl d_X_isIn_1 ?_
  refine aw_icmp_ltI (tgt := 14) (x).toInt (0) rfl (by decide +kernel) (by decide) d_X_isIn_2 (fun c1 => ?_) (fun c1 => ?_)
  · refine aw_iconst (v := nI 0) ci_0 d_X_isIn_14 ?_
    refine as_retz rfl (by decide +kernel) d_X_isIn_15 ?_
    refine (show As l b 14 y_X_text KM RM K2 (upd2 I 0 17 (nI 0)) 11 [.ref 0, .int (x), uu, uu] [.int (nI 0)] from ?_)
    refine aw_if_neI (tgt := 31) (0) (by decide +kernel) (by decide) d_X_text_11 (fun q => absurd q (by decide)) (fun _ => ?_)
    refine aw_aload_n rfl rfl d_X_text_14 ?_
    refine aw_iconst (v := nI 0) ci_0 d_X_text_15 ?_
    refine aw_puti fl_X_112 km_0 (by decide) rfl rfl rfl rfl d_X_text_16 ?_
    refine aw_aload_n rfl rfl d_X_text_19 ?_
    refine aw_iconst (v := nI 0) ci_0 d_X_text_20 ?_
    refine aw_puti fl_X_247 km_0 (by decide) rfl rfl rfl rfl d_X_text_21 ?_
    refine aw_aload_n rfl rfl d_X_text_24 ?_
    refine aw_iconst (v := (-1 : Int32)) rfl d_X_text_25 ?_
    refine aw_puti fl_X_34 km_0 (by decide) rfl rfl rfl rfl d_X_text_26 ?_
    refine aw_iconst (v := (-1 : Int32)) rfl d_X_text_29 ?_
    exact as_reti rfl d_X_text_30 (hb (by omega) _)
  · refine aw_iload_n rfl rfl d_X_isIn_5 ?_
    refine aw_iload_n rfl rfl d_X_isIn_6 ?_
    refine aw_icmp_gtI (tgt := 14) (x).toInt (4) rfl (by decide +kernel) (by decide) d_X_isIn_7 (fun c2 => ?_) (fun c2 => ?_)
    · refine aw_iconst (v := nI 0) ci_0 d_X_isIn_14 ?_
      refine as_retz rfl (by decide +kernel) d_X_isIn_15 ?_
      refine (show As l b 14 y_X_text KM RM K2 (upd2 I 0 17 (nI 0)) 11 [.ref 0, .int (x), uu, uu] [.int (nI 0)] from ?_)
      refine aw_if_neI (tgt := 31) (0) (by decide +kernel) (by decide) d_X_text_11 (fun q => absurd q (by decide)) (fun _ => ?_)
      refine aw_aload_n rfl rfl d_X_text_14 ?_
      refine aw_iconst (v := nI 0) ci_0 d_X_text_15 ?_
      refine aw_puti fl_X_112 km_0 (by decide) rfl rfl rfl rfl d_X_text_16 ?_
      refine aw_aload_n rfl rfl d_X_text_19 ?_
      refine aw_iconst (v := nI 0) ci_0 d_X_text_20 ?_
      refine aw_puti fl_X_247 km_0 (by decide) rfl rfl rfl rfl d_X_text_21 ?_
      refine aw_aload_n rfl rfl d_X_text_24 ?_
      refine aw_iconst (v := (-1 : Int32)) rfl d_X_text_25 ?_
      refine aw_puti fl_X_34 km_0 (by decide) rfl rfl rfl rfl d_X_text_26 ?_
      refine aw_iconst (v := (-1 : Int32)) rfl d_X_text_29 ?_
      exact as_reti rfl d_X_text_30 (hb (by omega) _)
    · refine aw_iconst (v := nI 1) ci_1 d_X_isIn_10 ?_
      refine aw_goto (tgt := 15) (by decide) d_X_isIn_11 ?_
      refine as_retz rfl (by decide +kernel) d_X_isIn_15 ?_
      refine (show As l b 14 y_X_text KM RM K2 (upd2 I 0 17 (nI 0)) 11 [.ref 0, .int (x), uu, uu] [.int (nI 1)] from ?_)
      refine aw_if_neI (tgt := 31) (1) (by decide +kernel) (by decide) d_X_text_11 (fun _ => ?_) (fun q => absurd q (by decide))
      obtain ⟨w1, hw1, ew1, gw1⟩ := nI_of_range (x := x) (n := 5) (by omega) (by omega)
      subst ew1
      rcases (show w1 = 0 ∨ w1 = 1 ∨ w1 = 2 ∨ w1 = 3 ∨ w1 = 4 by omega) with rfl | rfl | rfl | rfl | rfl
      · refine aw_aload_n rfl rfl d_X_text_31 ?_
        refine aw_iload_n rfl rfl d_X_text_32 ?_
        refine aw_puti fl_X_166 km_0 (by decide) rfl rfl rfl rfl d_X_text_33 ?_
        refine aw_aload_n rfl rfl d_X_text_36 ?_
        refine aw_iconst (v := nI 0) ci_0 d_X_text_37 ?_
        refine aw_puti fl_X_115 km_0 (by decide) rfl rfl rfl rfl d_X_text_38 ?_
        refine aw_aload_n rfl rfl d_X_text_41 ?_
        refine aw_iconst (v := nI 0) ci_0 d_X_text_42 ?_
        refine aw_puti fl_X_244 km_0 (by decide) rfl rfl rfl rfl d_X_text_43 ?_
        refine aw_aload_n rfl rfl d_X_text_46 ?_
        refine aw_iconst (v := nI 0) ci_0 d_X_text_47 ?_
        refine aw_puti fl_X_205 km_0 (by decide) rfl rfl rfl rfl d_X_text_48 ?_
        refine aw_aload_n rfl rfl d_X_text_51 ?_
        refine as_callV (as := []) (d' := 13) (q := ("SinglesUpModel", zT9, 51)) mo_X_next0 lk_X_202 km_0 rfl rfl rfl ⟨by decide, by decide⟩ rfl rfl (by decide) d_X_text_52 (Ss.of (show As l b 13 y_X_next0 KM RM _ (upd2 (upd2 (upd2 (upd2 (upd2 I 0 17 (nI 0)) 0 9 (nI 0)) 0 13 (nI 0)) 0 10 (nI 0)) 0 11 (nI 0)) 0 [.ref 0, uu, uu] [] from ?_))
        refine aw_aload_n rfl rfl d_X_next0_0 ?_
        refine aw_aload_n rfl rfl d_X_next0_1 ?_
        refine aw_geti fl_X_115 km_0 (by decide) rfl d_X_next0_2 ?_
        refine aw_top (x2 := nI 0) (Eq.trans (upd2_nx (by omega)) (Eq.trans (upd2_nx (by omega)) (upd2_eq))) ?_
        refine as_callV (as := [.int (nI 0)]) (d' := 12) (q := ("SinglesUpModel", zT9, 51)) mo_X_see lk_X_174 km_0 rfl rfl rfl ⟨by decide, by decide⟩ rfl rfl (by decide) d_X_next0_5 (Ss.of (show As l b 12 y_X_see KM RM _ (upd2 (upd2 (upd2 (upd2 (upd2 I 0 17 (nI 0)) 0 9 (nI 0)) 0 13 (nI 0)) 0 10 (nI 0)) 0 11 (nI 0)) 0 [.ref 0, .int (nI 0)] [] from ?_))
        refine aw_iload_n rfl rfl d_X_see_0 ?_
        refine aw_aload_n rfl rfl d_X_see_1 ?_
        refine aw_geti fl_X_112 km_0 (by decide) rfl d_X_see_2 ?_
        refine aw_top (x2 := nI 0) (Eq.trans (upd2_nx (by omega)) (Eq.trans (upd2_nx (by omega)) (Eq.trans (upd2_nx (by omega)) (Eq.trans (upd2_nx (by omega)) (Eq.trans (upd2_nx (by omega)) (o12)))))) ?_
        refine aw_icmp_geI (tgt := 17) (0) (0) (by decide +kernel) (by decide +kernel) (by decide) d_X_see_5 (fun _ => ?_) (fun q => absurd q (by decide))
        refine aw_iconst (v := (-1 : Int32)) rfl d_X_see_17 ?_
        refine as_reti rfl d_X_see_18 ?_
        refine (show As l b 13 y_X_next0 KM RM _ (upd2 (upd2 (upd2 (upd2 (upd2 I 0 17 (nI 0)) 0 9 (nI 0)) 0 13 (nI 0)) 0 10 (nI 0)) 0 11 (nI 0)) 8 [.ref 0, uu, uu] [.int ((-1 : Int32))] from ?_)
        refine aw_bipush (v := nI 32) cb_32 d_X_next0_8 ?_
        refine aw_icmp_eqI (tgt := 26) (-1) (32) (by decide +kernel) (by decide +kernel) (by decide) d_X_next0_10 (fun q => absurd q (by decide)) (fun _ => ?_)
        refine aw_aload_n rfl rfl d_X_next0_13 ?_
        refine aw_aload_n rfl rfl d_X_next0_14 ?_
        refine aw_geti fl_X_115 km_0 (by decide) rfl d_X_next0_15 ?_
        refine aw_top (x2 := nI 0) (Eq.trans (upd2_nx (by omega)) (Eq.trans (upd2_nx (by omega)) (upd2_eq))) ?_
        refine as_callV (as := [.int (nI 0)]) (d' := 12) (q := ("SinglesUpModel", zT9, 51)) mo_X_see lk_X_174 km_0 rfl rfl rfl ⟨by decide, by decide⟩ rfl rfl (by decide) d_X_next0_18 (Ss.of (show As l b 12 y_X_see KM RM _ (upd2 (upd2 (upd2 (upd2 (upd2 I 0 17 (nI 0)) 0 9 (nI 0)) 0 13 (nI 0)) 0 10 (nI 0)) 0 11 (nI 0)) 0 [.ref 0, .int (nI 0)] [] from ?_))
        refine aw_iload_n rfl rfl d_X_see_0 ?_
        refine aw_aload_n rfl rfl d_X_see_1 ?_
        refine aw_geti fl_X_112 km_0 (by decide) rfl d_X_see_2 ?_
        refine aw_top (x2 := nI 0) (Eq.trans (upd2_nx (by omega)) (Eq.trans (upd2_nx (by omega)) (Eq.trans (upd2_nx (by omega)) (Eq.trans (upd2_nx (by omega)) (Eq.trans (upd2_nx (by omega)) (o12)))))) ?_
        refine aw_icmp_geI (tgt := 17) (0) (0) (by decide +kernel) (by decide +kernel) (by decide) d_X_see_5 (fun _ => ?_) (fun q => absurd q (by decide))
        refine aw_iconst (v := (-1 : Int32)) rfl d_X_see_17 ?_
        refine as_reti rfl d_X_see_18 ?_
        refine (show As l b 13 y_X_next0 KM RM _ (upd2 (upd2 (upd2 (upd2 (upd2 I 0 17 (nI 0)) 0 9 (nI 0)) 0 13 (nI 0)) 0 10 (nI 0)) 0 11 (nI 0)) 21 [.ref 0, uu, uu] [.int ((-1 : Int32))] from ?_)
        refine aw_bipush (v := nI 10) cb_10 d_X_next0_21 ?_
        refine aw_icmp_neI (tgt := 39) (-1) (10) (by decide +kernel) (by decide +kernel) (by decide) d_X_next0_23 (fun _ => ?_) (fun q => absurd q (by decide))
        refine aw_aload_n rfl rfl d_X_next0_39 ?_
        refine aw_aload_n rfl rfl d_X_next0_40 ?_
        refine aw_geti fl_X_115 km_0 (by decide) rfl d_X_next0_41 ?_
        refine aw_top (x2 := nI 0) (Eq.trans (upd2_nx (by omega)) (Eq.trans (upd2_nx (by omega)) (upd2_eq))) ?_
        refine aw_puti fl_X_118 km_0 (by decide) rfl rfl rfl rfl d_X_next0_44 ?_
        refine aw_aload_n rfl rfl d_X_next0_47 ?_
        refine aw_aload_n rfl rfl d_X_next0_48 ?_
        refine aw_geti fl_X_115 km_0 (by decide) rfl d_X_next0_49 ?_
        refine aw_top (x2 := nI 0) (Eq.trans (upd2_nx (by omega)) (Eq.trans (upd2_nx (by omega)) (Eq.trans (upd2_nx (by omega)) (upd2_eq)))) ?_
        refine as_callV (as := [.int (nI 0)]) (d' := 12) (q := ("SinglesUpModel", zT9, 51)) mo_X_see lk_X_174 km_0 rfl rfl rfl ⟨by decide, by decide⟩ rfl rfl (by decide) d_X_next0_52 (Ss.of (show As l b 12 y_X_see KM RM _ (upd2 (upd2 (upd2 (upd2 (upd2 (upd2 I 0 17 (nI 0)) 0 9 (nI 0)) 0 13 (nI 0)) 0 10 (nI 0)) 0 11 (nI 0)) 0 15 (nI 0)) 0 [.ref 0, .int (nI 0)] [] from ?_))
        refine aw_iload_n rfl rfl d_X_see_0 ?_
        refine aw_aload_n rfl rfl d_X_see_1 ?_
        refine aw_geti fl_X_112 km_0 (by decide) rfl d_X_see_2 ?_
        refine aw_top (x2 := nI 0) (Eq.trans (upd2_nx (by omega)) (Eq.trans (upd2_nx (by omega)) (Eq.trans (upd2_nx (by omega)) (Eq.trans (upd2_nx (by omega)) (Eq.trans (upd2_nx (by omega)) (Eq.trans (upd2_nx (by omega)) (o12))))))) ?_
        refine aw_icmp_geI (tgt := 17) (0) (0) (by decide +kernel) (by decide +kernel) (by decide) d_X_see_5 (fun _ => ?_) (fun q => absurd q (by decide))
        refine aw_iconst (v := (-1 : Int32)) rfl d_X_see_17 ?_
        refine as_reti rfl d_X_see_18 ?_
        refine (show As l b 13 y_X_next0 KM RM _ (upd2 (upd2 (upd2 (upd2 (upd2 (upd2 I 0 17 (nI 0)) 0 9 (nI 0)) 0 13 (nI 0)) 0 10 (nI 0)) 0 11 (nI 0)) 0 15 (nI 0)) 55 [.ref 0, uu, uu] [.int ((-1 : Int32))] from ?_)
        refine aw_istore_n (lv2 := [.ref 0, .int ((-1 : Int32)), uu]) rfl (by decide) rfl d_X_next0_55 ?_
        refine aw_iload_n rfl rfl d_X_next0_56 ?_
        refine aw_iconst (v := (-1 : Int32)) rfl d_X_next0_57 ?_
        refine aw_icmp_neI (tgt := 69) (-1) (-1) (by decide +kernel) (by decide +kernel) (by decide) d_X_next0_58 (fun q => absurd q (by decide)) (fun _ => ?_)
        refine aw_aload_n rfl rfl d_X_next0_61 ?_
        refine aw_iconst (v := nI 0) ci_0 d_X_next0_62 ?_
        refine aw_puti fl_X_178 km_0 (by decide) rfl rfl rfl rfl d_X_next0_63 ?_
        refine aw_goto (tgt := 306) (by decide) d_X_next0_66 ?_
        refine as_retv rfl d_X_next0_306 ?_
        refine (show As l b 14 y_X_text KM RM K2 (upd2 (upd2 (upd2 (upd2 (upd2 (upd2 (upd2 I 0 17 (nI 0)) 0 9 (nI 0)) 0 13 (nI 0)) 0 10 (nI 0)) 0 11 (nI 0)) 0 15 (nI 0)) 0 14 (nI 0)) 55 [.ref 0, .int (nI 0), uu, uu] [] from ?_)
        refine aw_iconst (v := nI 1) ci_1 d_X_text_55 ?_
        refine aw_istore_n (lv2 := [.ref 0, .int (nI 0), .int (nI 1), uu]) rfl (by decide) rfl d_X_text_56 ?_
        refine aw_iload_n rfl rfl d_X_text_57 ?_
        refine aw_if_eqI (tgt := 94) (1) (by decide +kernel) (by decide) d_X_text_58 (fun q => absurd q (by decide)) (fun _ => ?_)
        refine aw_aload_n rfl rfl d_X_text_61 ?_
        refine aw_geti fl_X_178 km_0 (by decide) rfl d_X_text_62 ?_
        refine aw_top (x2 := nI 0) (upd2_eq) ?_
        refine aw_if_eqI (tgt := 94) (0) (by decide +kernel) (by decide) d_X_text_65 (fun _ => ?_) (fun q => absurd q (by decide))
        refine aw_aload_n rfl rfl d_X_text_94 ?_
        refine aw_iconst (v := nI 0) ci_0 d_X_text_95 ?_
        refine aw_puti fl_X_112 km_0 (by decide) rfl rfl rfl rfl d_X_text_96 ?_
        refine aw_aload_n rfl rfl d_X_text_99 ?_
        refine aw_aload_n rfl rfl d_X_text_100 ?_
        refine aw_geti fl_X_193 km_0 (by decide) rfl d_X_text_101 ?_
        refine aw_top (x2 := nI 0) (Eq.trans (upd2_nx (by omega)) (Eq.trans (upd2_nx (by omega)) (Eq.trans (upd2_nx (by omega)) (Eq.trans (upd2_nx (by omega)) (Eq.trans (upd2_nx (by omega)) (Eq.trans (upd2_nx (by omega)) (Eq.trans (upd2_nx (by omega)) (upd2_eq)))))))) ?_
        refine aw_puti fl_X_247 km_0 (by decide) rfl rfl rfl rfl d_X_text_104 ?_
        refine aw_aload_n rfl rfl d_X_text_107 ?_
        refine aw_iload_n rfl rfl d_X_text_108 ?_
        refine aw_if_eqI (tgt := 116) (1) (by decide +kernel) (by decide) d_X_text_109 (fun q => absurd q (by decide)) (fun _ => ?_)
        refine aw_iconst (v := (-1 : Int32)) rfl d_X_text_112 ?_
        refine aw_goto (tgt := 120) (by decide) d_X_text_113 ?_
        refine aw_puti fl_X_34 km_0 (by decide) rfl rfl rfl rfl d_X_text_120 ?_
        refine aw_iload_n rfl rfl d_X_text_123 ?_
        refine aw_if_neI (tgt := 129) (1) (by decide +kernel) (by decide) d_X_text_124 (fun _ => ?_) (fun q => absurd q (by decide))
        refine aw_aload_n rfl rfl d_X_text_129 ?_
        refine aw_getr fl_X_7 km_0 (by decide) rfl rm_0_0 d_X_text_130 ?_
        refine aw_sipush (v := nI 1580) cs_1580 d_X_text_133 ?_
        refine aw_iload_n rfl rfl d_X_text_136 ?_
        refine aw_iadd d_X_text_137 ?_
        refine aw_top (x2 := nI 1580) (by decide +kernel) ?_
        refine aw_aload_n rfl rfl d_X_text_138 ?_
        refine aw_geti fl_X_244 km_0 (by decide) rfl d_X_text_139 ?_
        refine aw_top (x2 := nI 0) (Eq.trans (upd2_nx (by omega)) (Eq.trans (upd2_nx (by omega)) (Eq.trans (upd2_nx (by omega)) (Eq.trans (upd2_nx (by omega)) (Eq.trans (upd2_nx (by omega)) (Eq.trans (upd2_nx (by omega)) (upd2_eq))))))) ?_
        refine aw_iast (j := 1580) km_1 (vp_in_nI (by decide) (by decide)) (nI_clamp (by decide)) d_X_text_142 ?_
        refine aw_iconst (v := nI 0) ci_0 d_X_text_143 ?_
        refine aw_istore_n (lv2 := [.ref 0, .int (nI 0), .int (nI 1), .int (nI 0)]) rfl (by decide) rfl d_X_text_144 ?_
        refine aw_iload_n rfl rfl d_X_text_145 ?_
        refine aw_aload_n rfl rfl d_X_text_146 ?_
        refine aw_geti fl_X_244 km_0 (by decide) rfl d_X_text_147 ?_
        refine aw_top (x2 := nI 0) (Eq.trans (congrFun (upd2_ne (by decide)) (10)) (Eq.trans (upd2_nx (by omega)) (Eq.trans (upd2_nx (by omega)) (Eq.trans (upd2_nx (by omega)) (Eq.trans (upd2_nx (by omega)) (Eq.trans (upd2_nx (by omega)) (Eq.trans (upd2_nx (by omega)) (upd2_eq)))))))) ?_
        refine aw_icmp_geI (tgt := 257) (0) (0) (by decide +kernel) (by decide +kernel) (by decide) d_X_text_150 (fun _ => ?_) (fun q => absurd q (by decide))
        refine aw_iconst (v := nI 0) ci_0 d_X_text_257 ?_
        refine aw_istore_n (lv2 := [.ref 0, .int (nI 0), .int (nI 1), .int (nI 0)]) rfl (by decide) rfl d_X_text_258 ?_
        refine aw_iload_n rfl rfl d_X_text_259 ?_
        refine aw_iconst (v := nI 2) ci_2 d_X_text_260 ?_
        refine aw_aload_n rfl rfl d_X_text_261 ?_
        refine aw_geti fl_X_205 km_0 (by decide) rfl d_X_text_262 ?_
        refine aw_top (x2 := nI 0) (Eq.trans (congrFun (upd2_ne (by decide)) (11)) (Eq.trans (upd2_nx (by omega)) (Eq.trans (upd2_nx (by omega)) (Eq.trans (upd2_nx (by omega)) (Eq.trans (upd2_nx (by omega)) (Eq.trans (upd2_nx (by omega)) (upd2_eq))))))) ?_
        refine aw_imul d_X_text_265 ?_
        refine aw_top (x2 := nI 0) (by decide +kernel) ?_
        refine aw_icmp_geI (tgt := 297) (0) (0) (by decide +kernel) (by decide +kernel) (by decide) d_X_text_266 (fun _ => ?_) (fun q => absurd q (by decide))
        refine aw_aload_n rfl rfl d_X_text_297 ?_
        refine aw_geti fl_X_244 km_0 (by decide) rfl d_X_text_298 ?_
        refine aw_top (x2 := nI 0) (Eq.trans (congrFun (upd2_ne (by decide)) (10)) (Eq.trans (upd2_nx (by omega)) (Eq.trans (upd2_nx (by omega)) (Eq.trans (upd2_nx (by omega)) (Eq.trans (upd2_nx (by omega)) (Eq.trans (upd2_nx (by omega)) (Eq.trans (upd2_nx (by omega)) (upd2_eq)))))))) ?_
        exact as_reti rfl d_X_text_301 (hg (by omega) _)
      · refine aw_aload_n rfl rfl d_X_text_31 ?_
        refine aw_iload_n rfl rfl d_X_text_32 ?_
        refine aw_puti fl_X_166 km_0 (by decide) rfl rfl rfl rfl d_X_text_33 ?_
        refine aw_aload_n rfl rfl d_X_text_36 ?_
        refine aw_iconst (v := nI 0) ci_0 d_X_text_37 ?_
        refine aw_puti fl_X_115 km_0 (by decide) rfl rfl rfl rfl d_X_text_38 ?_
        refine aw_aload_n rfl rfl d_X_text_41 ?_
        refine aw_iconst (v := nI 0) ci_0 d_X_text_42 ?_
        refine aw_puti fl_X_244 km_0 (by decide) rfl rfl rfl rfl d_X_text_43 ?_
        refine aw_aload_n rfl rfl d_X_text_46 ?_
        refine aw_iconst (v := nI 0) ci_0 d_X_text_47 ?_
        refine aw_puti fl_X_205 km_0 (by decide) rfl rfl rfl rfl d_X_text_48 ?_
        refine aw_aload_n rfl rfl d_X_text_51 ?_
        refine as_callV (as := []) (d' := 13) (q := ("SinglesUpModel", zT9, 51)) mo_X_next0 lk_X_202 km_0 rfl rfl rfl ⟨by decide, by decide⟩ rfl rfl (by decide) d_X_text_52 (Ss.of (show As l b 13 y_X_next0 KM RM _ (upd2 (upd2 (upd2 (upd2 (upd2 I 0 17 (nI 0)) 0 9 (nI 1)) 0 13 (nI 0)) 0 10 (nI 0)) 0 11 (nI 0)) 0 [.ref 0, uu, uu] [] from ?_))
        refine aw_aload_n rfl rfl d_X_next0_0 ?_
        refine aw_aload_n rfl rfl d_X_next0_1 ?_
        refine aw_geti fl_X_115 km_0 (by decide) rfl d_X_next0_2 ?_
        refine aw_top (x2 := nI 0) (Eq.trans (upd2_nx (by omega)) (Eq.trans (upd2_nx (by omega)) (upd2_eq))) ?_
        refine as_callV (as := [.int (nI 0)]) (d' := 12) (q := ("SinglesUpModel", zT9, 51)) mo_X_see lk_X_174 km_0 rfl rfl rfl ⟨by decide, by decide⟩ rfl rfl (by decide) d_X_next0_5 (Ss.of (show As l b 12 y_X_see KM RM _ (upd2 (upd2 (upd2 (upd2 (upd2 I 0 17 (nI 0)) 0 9 (nI 1)) 0 13 (nI 0)) 0 10 (nI 0)) 0 11 (nI 0)) 0 [.ref 0, .int (nI 0)] [] from ?_))
        refine aw_iload_n rfl rfl d_X_see_0 ?_
        refine aw_aload_n rfl rfl d_X_see_1 ?_
        refine aw_geti fl_X_112 km_0 (by decide) rfl d_X_see_2 ?_
        refine aw_top (x2 := nI 0) (Eq.trans (upd2_nx (by omega)) (Eq.trans (upd2_nx (by omega)) (Eq.trans (upd2_nx (by omega)) (Eq.trans (upd2_nx (by omega)) (Eq.trans (upd2_nx (by omega)) (o12)))))) ?_
        refine aw_icmp_geI (tgt := 17) (0) (0) (by decide +kernel) (by decide +kernel) (by decide) d_X_see_5 (fun _ => ?_) (fun q => absurd q (by decide))
        refine aw_iconst (v := (-1 : Int32)) rfl d_X_see_17 ?_
        refine as_reti rfl d_X_see_18 ?_
        refine (show As l b 13 y_X_next0 KM RM _ (upd2 (upd2 (upd2 (upd2 (upd2 I 0 17 (nI 0)) 0 9 (nI 1)) 0 13 (nI 0)) 0 10 (nI 0)) 0 11 (nI 0)) 8 [.ref 0, uu, uu] [.int ((-1 : Int32))] from ?_)
        refine aw_bipush (v := nI 32) cb_32 d_X_next0_8 ?_
        refine aw_icmp_eqI (tgt := 26) (-1) (32) (by decide +kernel) (by decide +kernel) (by decide) d_X_next0_10 (fun q => absurd q (by decide)) (fun _ => ?_)
        refine aw_aload_n rfl rfl d_X_next0_13 ?_
        refine aw_aload_n rfl rfl d_X_next0_14 ?_
        refine aw_geti fl_X_115 km_0 (by decide) rfl d_X_next0_15 ?_
        refine aw_top (x2 := nI 0) (Eq.trans (upd2_nx (by omega)) (Eq.trans (upd2_nx (by omega)) (upd2_eq))) ?_
        refine as_callV (as := [.int (nI 0)]) (d' := 12) (q := ("SinglesUpModel", zT9, 51)) mo_X_see lk_X_174 km_0 rfl rfl rfl ⟨by decide, by decide⟩ rfl rfl (by decide) d_X_next0_18 (Ss.of (show As l b 12 y_X_see KM RM _ (upd2 (upd2 (upd2 (upd2 (upd2 I 0 17 (nI 0)) 0 9 (nI 1)) 0 13 (nI 0)) 0 10 (nI 0)) 0 11 (nI 0)) 0 [.ref 0, .int (nI 0)] [] from ?_))
        refine aw_iload_n rfl rfl d_X_see_0 ?_
        refine aw_aload_n rfl rfl d_X_see_1 ?_
        refine aw_geti fl_X_112 km_0 (by decide) rfl d_X_see_2 ?_
        refine aw_top (x2 := nI 0) (Eq.trans (upd2_nx (by omega)) (Eq.trans (upd2_nx (by omega)) (Eq.trans (upd2_nx (by omega)) (Eq.trans (upd2_nx (by omega)) (Eq.trans (upd2_nx (by omega)) (o12)))))) ?_
        refine aw_icmp_geI (tgt := 17) (0) (0) (by decide +kernel) (by decide +kernel) (by decide) d_X_see_5 (fun _ => ?_) (fun q => absurd q (by decide))
        refine aw_iconst (v := (-1 : Int32)) rfl d_X_see_17 ?_
        refine as_reti rfl d_X_see_18 ?_
        refine (show As l b 13 y_X_next0 KM RM _ (upd2 (upd2 (upd2 (upd2 (upd2 I 0 17 (nI 0)) 0 9 (nI 1)) 0 13 (nI 0)) 0 10 (nI 0)) 0 11 (nI 0)) 21 [.ref 0, uu, uu] [.int ((-1 : Int32))] from ?_)
        refine aw_bipush (v := nI 10) cb_10 d_X_next0_21 ?_
        refine aw_icmp_neI (tgt := 39) (-1) (10) (by decide +kernel) (by decide +kernel) (by decide) d_X_next0_23 (fun _ => ?_) (fun q => absurd q (by decide))
        refine aw_aload_n rfl rfl d_X_next0_39 ?_
        refine aw_aload_n rfl rfl d_X_next0_40 ?_
        refine aw_geti fl_X_115 km_0 (by decide) rfl d_X_next0_41 ?_
        refine aw_top (x2 := nI 0) (Eq.trans (upd2_nx (by omega)) (Eq.trans (upd2_nx (by omega)) (upd2_eq))) ?_
        refine aw_puti fl_X_118 km_0 (by decide) rfl rfl rfl rfl d_X_next0_44 ?_
        refine aw_aload_n rfl rfl d_X_next0_47 ?_
        refine aw_aload_n rfl rfl d_X_next0_48 ?_
        refine aw_geti fl_X_115 km_0 (by decide) rfl d_X_next0_49 ?_
        refine aw_top (x2 := nI 0) (Eq.trans (upd2_nx (by omega)) (Eq.trans (upd2_nx (by omega)) (Eq.trans (upd2_nx (by omega)) (upd2_eq)))) ?_
        refine as_callV (as := [.int (nI 0)]) (d' := 12) (q := ("SinglesUpModel", zT9, 51)) mo_X_see lk_X_174 km_0 rfl rfl rfl ⟨by decide, by decide⟩ rfl rfl (by decide) d_X_next0_52 (Ss.of (show As l b 12 y_X_see KM RM _ (upd2 (upd2 (upd2 (upd2 (upd2 (upd2 I 0 17 (nI 0)) 0 9 (nI 1)) 0 13 (nI 0)) 0 10 (nI 0)) 0 11 (nI 0)) 0 15 (nI 0)) 0 [.ref 0, .int (nI 0)] [] from ?_))
        refine aw_iload_n rfl rfl d_X_see_0 ?_
        refine aw_aload_n rfl rfl d_X_see_1 ?_
        refine aw_geti fl_X_112 km_0 (by decide) rfl d_X_see_2 ?_
        refine aw_top (x2 := nI 0) (Eq.trans (upd2_nx (by omega)) (Eq.trans (upd2_nx (by omega)) (Eq.trans (upd2_nx (by omega)) (Eq.trans (upd2_nx (by omega)) (Eq.trans (upd2_nx (by omega)) (Eq.trans (upd2_nx (by omega)) (o12))))))) ?_
        refine aw_icmp_geI (tgt := 17) (0) (0) (by decide +kernel) (by decide +kernel) (by decide) d_X_see_5 (fun _ => ?_) (fun q => absurd q (by decide))
        refine aw_iconst (v := (-1 : Int32)) rfl d_X_see_17 ?_
        refine as_reti rfl d_X_see_18 ?_
        refine (show As l b 13 y_X_next0 KM RM _ (upd2 (upd2 (upd2 (upd2 (upd2 (upd2 I 0 17 (nI 0)) 0 9 (nI 1)) 0 13 (nI 0)) 0 10 (nI 0)) 0 11 (nI 0)) 0 15 (nI 0)) 55 [.ref 0, uu, uu] [.int ((-1 : Int32))] from ?_)
        refine aw_istore_n (lv2 := [.ref 0, .int ((-1 : Int32)), uu]) rfl (by decide) rfl d_X_next0_55 ?_
        refine aw_iload_n rfl rfl d_X_next0_56 ?_
        refine aw_iconst (v := (-1 : Int32)) rfl d_X_next0_57 ?_
        refine aw_icmp_neI (tgt := 69) (-1) (-1) (by decide +kernel) (by decide +kernel) (by decide) d_X_next0_58 (fun q => absurd q (by decide)) (fun _ => ?_)
        refine aw_aload_n rfl rfl d_X_next0_61 ?_
        refine aw_iconst (v := nI 0) ci_0 d_X_next0_62 ?_
        refine aw_puti fl_X_178 km_0 (by decide) rfl rfl rfl rfl d_X_next0_63 ?_
        refine aw_goto (tgt := 306) (by decide) d_X_next0_66 ?_
        refine as_retv rfl d_X_next0_306 ?_
        refine (show As l b 14 y_X_text KM RM K2 (upd2 (upd2 (upd2 (upd2 (upd2 (upd2 (upd2 I 0 17 (nI 0)) 0 9 (nI 1)) 0 13 (nI 0)) 0 10 (nI 0)) 0 11 (nI 0)) 0 15 (nI 0)) 0 14 (nI 0)) 55 [.ref 0, .int (nI 1), uu, uu] [] from ?_)
        refine aw_iconst (v := nI 1) ci_1 d_X_text_55 ?_
        refine aw_istore_n (lv2 := [.ref 0, .int (nI 1), .int (nI 1), uu]) rfl (by decide) rfl d_X_text_56 ?_
        refine aw_iload_n rfl rfl d_X_text_57 ?_
        refine aw_if_eqI (tgt := 94) (1) (by decide +kernel) (by decide) d_X_text_58 (fun q => absurd q (by decide)) (fun _ => ?_)
        refine aw_aload_n rfl rfl d_X_text_61 ?_
        refine aw_geti fl_X_178 km_0 (by decide) rfl d_X_text_62 ?_
        refine aw_top (x2 := nI 0) (upd2_eq) ?_
        refine aw_if_eqI (tgt := 94) (0) (by decide +kernel) (by decide) d_X_text_65 (fun _ => ?_) (fun q => absurd q (by decide))
        refine aw_aload_n rfl rfl d_X_text_94 ?_
        refine aw_iconst (v := nI 0) ci_0 d_X_text_95 ?_
        refine aw_puti fl_X_112 km_0 (by decide) rfl rfl rfl rfl d_X_text_96 ?_
        refine aw_aload_n rfl rfl d_X_text_99 ?_
        refine aw_aload_n rfl rfl d_X_text_100 ?_
        refine aw_geti fl_X_193 km_0 (by decide) rfl d_X_text_101 ?_
        refine aw_top (x2 := nI 0) (Eq.trans (upd2_nx (by omega)) (Eq.trans (upd2_nx (by omega)) (Eq.trans (upd2_nx (by omega)) (Eq.trans (upd2_nx (by omega)) (Eq.trans (upd2_nx (by omega)) (Eq.trans (upd2_nx (by omega)) (Eq.trans (upd2_nx (by omega)) (upd2_eq)))))))) ?_
        refine aw_puti fl_X_247 km_0 (by decide) rfl rfl rfl rfl d_X_text_104 ?_
        refine aw_aload_n rfl rfl d_X_text_107 ?_
        refine aw_iload_n rfl rfl d_X_text_108 ?_
        refine aw_if_eqI (tgt := 116) (1) (by decide +kernel) (by decide) d_X_text_109 (fun q => absurd q (by decide)) (fun _ => ?_)
        refine aw_iconst (v := (-1 : Int32)) rfl d_X_text_112 ?_
        refine aw_goto (tgt := 120) (by decide) d_X_text_113 ?_
        refine aw_puti fl_X_34 km_0 (by decide) rfl rfl rfl rfl d_X_text_120 ?_
        refine aw_iload_n rfl rfl d_X_text_123 ?_
        refine aw_if_neI (tgt := 129) (1) (by decide +kernel) (by decide) d_X_text_124 (fun _ => ?_) (fun q => absurd q (by decide))
        refine aw_aload_n rfl rfl d_X_text_129 ?_
        refine aw_getr fl_X_7 km_0 (by decide) rfl rm_0_0 d_X_text_130 ?_
        refine aw_sipush (v := nI 1580) cs_1580 d_X_text_133 ?_
        refine aw_iload_n rfl rfl d_X_text_136 ?_
        refine aw_iadd d_X_text_137 ?_
        refine aw_top (x2 := nI 1581) (by decide +kernel) ?_
        refine aw_aload_n rfl rfl d_X_text_138 ?_
        refine aw_geti fl_X_244 km_0 (by decide) rfl d_X_text_139 ?_
        refine aw_top (x2 := nI 0) (Eq.trans (upd2_nx (by omega)) (Eq.trans (upd2_nx (by omega)) (Eq.trans (upd2_nx (by omega)) (Eq.trans (upd2_nx (by omega)) (Eq.trans (upd2_nx (by omega)) (Eq.trans (upd2_nx (by omega)) (upd2_eq))))))) ?_
        refine aw_iast (j := 1581) km_1 (vp_in_nI (by decide) (by decide)) (nI_clamp (by decide)) d_X_text_142 ?_
        refine aw_iconst (v := nI 0) ci_0 d_X_text_143 ?_
        refine aw_istore_n (lv2 := [.ref 0, .int (nI 1), .int (nI 1), .int (nI 0)]) rfl (by decide) rfl d_X_text_144 ?_
        refine aw_iload_n rfl rfl d_X_text_145 ?_
        refine aw_aload_n rfl rfl d_X_text_146 ?_
        refine aw_geti fl_X_244 km_0 (by decide) rfl d_X_text_147 ?_
        refine aw_top (x2 := nI 0) (Eq.trans (congrFun (upd2_ne (by decide)) (10)) (Eq.trans (upd2_nx (by omega)) (Eq.trans (upd2_nx (by omega)) (Eq.trans (upd2_nx (by omega)) (Eq.trans (upd2_nx (by omega)) (Eq.trans (upd2_nx (by omega)) (Eq.trans (upd2_nx (by omega)) (upd2_eq)))))))) ?_
        refine aw_icmp_geI (tgt := 257) (0) (0) (by decide +kernel) (by decide +kernel) (by decide) d_X_text_150 (fun _ => ?_) (fun q => absurd q (by decide))
        refine aw_iconst (v := nI 0) ci_0 d_X_text_257 ?_
        refine aw_istore_n (lv2 := [.ref 0, .int (nI 1), .int (nI 1), .int (nI 0)]) rfl (by decide) rfl d_X_text_258 ?_
        refine aw_iload_n rfl rfl d_X_text_259 ?_
        refine aw_iconst (v := nI 2) ci_2 d_X_text_260 ?_
        refine aw_aload_n rfl rfl d_X_text_261 ?_
        refine aw_geti fl_X_205 km_0 (by decide) rfl d_X_text_262 ?_
        refine aw_top (x2 := nI 0) (Eq.trans (congrFun (upd2_ne (by decide)) (11)) (Eq.trans (upd2_nx (by omega)) (Eq.trans (upd2_nx (by omega)) (Eq.trans (upd2_nx (by omega)) (Eq.trans (upd2_nx (by omega)) (Eq.trans (upd2_nx (by omega)) (upd2_eq))))))) ?_
        refine aw_imul d_X_text_265 ?_
        refine aw_top (x2 := nI 0) (by decide +kernel) ?_
        refine aw_icmp_geI (tgt := 297) (0) (0) (by decide +kernel) (by decide +kernel) (by decide) d_X_text_266 (fun _ => ?_) (fun q => absurd q (by decide))
        refine aw_aload_n rfl rfl d_X_text_297 ?_
        refine aw_geti fl_X_244 km_0 (by decide) rfl d_X_text_298 ?_
        refine aw_top (x2 := nI 0) (Eq.trans (congrFun (upd2_ne (by decide)) (10)) (Eq.trans (upd2_nx (by omega)) (Eq.trans (upd2_nx (by omega)) (Eq.trans (upd2_nx (by omega)) (Eq.trans (upd2_nx (by omega)) (Eq.trans (upd2_nx (by omega)) (Eq.trans (upd2_nx (by omega)) (upd2_eq)))))))) ?_
        exact as_reti rfl d_X_text_301 (hg (by omega) _)
      · refine aw_aload_n rfl rfl d_X_text_31 ?_
        refine aw_iload_n rfl rfl d_X_text_32 ?_
        refine aw_puti fl_X_166 km_0 (by decide) rfl rfl rfl rfl d_X_text_33 ?_
        refine aw_aload_n rfl rfl d_X_text_36 ?_
        refine aw_iconst (v := nI 0) ci_0 d_X_text_37 ?_
        refine aw_puti fl_X_115 km_0 (by decide) rfl rfl rfl rfl d_X_text_38 ?_
        refine aw_aload_n rfl rfl d_X_text_41 ?_
        refine aw_iconst (v := nI 0) ci_0 d_X_text_42 ?_
        refine aw_puti fl_X_244 km_0 (by decide) rfl rfl rfl rfl d_X_text_43 ?_
        refine aw_aload_n rfl rfl d_X_text_46 ?_
        refine aw_iconst (v := nI 0) ci_0 d_X_text_47 ?_
        refine aw_puti fl_X_205 km_0 (by decide) rfl rfl rfl rfl d_X_text_48 ?_
        refine aw_aload_n rfl rfl d_X_text_51 ?_
        refine as_callV (as := []) (d' := 13) (q := ("SinglesUpModel", zT9, 51)) mo_X_next0 lk_X_202 km_0 rfl rfl rfl ⟨by decide, by decide⟩ rfl rfl (by decide) d_X_text_52 (Ss.of (show As l b 13 y_X_next0 KM RM _ (upd2 (upd2 (upd2 (upd2 (upd2 I 0 17 (nI 0)) 0 9 (nI 2)) 0 13 (nI 0)) 0 10 (nI 0)) 0 11 (nI 0)) 0 [.ref 0, uu, uu] [] from ?_))
        refine aw_aload_n rfl rfl d_X_next0_0 ?_
        refine aw_aload_n rfl rfl d_X_next0_1 ?_
        refine aw_geti fl_X_115 km_0 (by decide) rfl d_X_next0_2 ?_
        refine aw_top (x2 := nI 0) (Eq.trans (upd2_nx (by omega)) (Eq.trans (upd2_nx (by omega)) (upd2_eq))) ?_
        refine as_callV (as := [.int (nI 0)]) (d' := 12) (q := ("SinglesUpModel", zT9, 51)) mo_X_see lk_X_174 km_0 rfl rfl rfl ⟨by decide, by decide⟩ rfl rfl (by decide) d_X_next0_5 (Ss.of (show As l b 12 y_X_see KM RM _ (upd2 (upd2 (upd2 (upd2 (upd2 I 0 17 (nI 0)) 0 9 (nI 2)) 0 13 (nI 0)) 0 10 (nI 0)) 0 11 (nI 0)) 0 [.ref 0, .int (nI 0)] [] from ?_))
        refine aw_iload_n rfl rfl d_X_see_0 ?_
        refine aw_aload_n rfl rfl d_X_see_1 ?_
        refine aw_geti fl_X_112 km_0 (by decide) rfl d_X_see_2 ?_
        refine aw_top (x2 := nI 0) (Eq.trans (upd2_nx (by omega)) (Eq.trans (upd2_nx (by omega)) (Eq.trans (upd2_nx (by omega)) (Eq.trans (upd2_nx (by omega)) (Eq.trans (upd2_nx (by omega)) (o12)))))) ?_
        refine aw_icmp_geI (tgt := 17) (0) (0) (by decide +kernel) (by decide +kernel) (by decide) d_X_see_5 (fun _ => ?_) (fun q => absurd q (by decide))
        refine aw_iconst (v := (-1 : Int32)) rfl d_X_see_17 ?_
        refine as_reti rfl d_X_see_18 ?_
        refine (show As l b 13 y_X_next0 KM RM _ (upd2 (upd2 (upd2 (upd2 (upd2 I 0 17 (nI 0)) 0 9 (nI 2)) 0 13 (nI 0)) 0 10 (nI 0)) 0 11 (nI 0)) 8 [.ref 0, uu, uu] [.int ((-1 : Int32))] from ?_)
        refine aw_bipush (v := nI 32) cb_32 d_X_next0_8 ?_
        refine aw_icmp_eqI (tgt := 26) (-1) (32) (by decide +kernel) (by decide +kernel) (by decide) d_X_next0_10 (fun q => absurd q (by decide)) (fun _ => ?_)
        refine aw_aload_n rfl rfl d_X_next0_13 ?_
        refine aw_aload_n rfl rfl d_X_next0_14 ?_
        refine aw_geti fl_X_115 km_0 (by decide) rfl d_X_next0_15 ?_
        refine aw_top (x2 := nI 0) (Eq.trans (upd2_nx (by omega)) (Eq.trans (upd2_nx (by omega)) (upd2_eq))) ?_
        refine as_callV (as := [.int (nI 0)]) (d' := 12) (q := ("SinglesUpModel", zT9, 51)) mo_X_see lk_X_174 km_0 rfl rfl rfl ⟨by decide, by decide⟩ rfl rfl (by decide) d_X_next0_18 (Ss.of (show As l b 12 y_X_see KM RM _ (upd2 (upd2 (upd2 (upd2 (upd2 I 0 17 (nI 0)) 0 9 (nI 2)) 0 13 (nI 0)) 0 10 (nI 0)) 0 11 (nI 0)) 0 [.ref 0, .int (nI 0)] [] from ?_))
        refine aw_iload_n rfl rfl d_X_see_0 ?_
        refine aw_aload_n rfl rfl d_X_see_1 ?_
        refine aw_geti fl_X_112 km_0 (by decide) rfl d_X_see_2 ?_
        refine aw_top (x2 := nI 0) (Eq.trans (upd2_nx (by omega)) (Eq.trans (upd2_nx (by omega)) (Eq.trans (upd2_nx (by omega)) (Eq.trans (upd2_nx (by omega)) (Eq.trans (upd2_nx (by omega)) (o12)))))) ?_
        refine aw_icmp_geI (tgt := 17) (0) (0) (by decide +kernel) (by decide +kernel) (by decide) d_X_see_5 (fun _ => ?_) (fun q => absurd q (by decide))
        refine aw_iconst (v := (-1 : Int32)) rfl d_X_see_17 ?_
        refine as_reti rfl d_X_see_18 ?_
        refine (show As l b 13 y_X_next0 KM RM _ (upd2 (upd2 (upd2 (upd2 (upd2 I 0 17 (nI 0)) 0 9 (nI 2)) 0 13 (nI 0)) 0 10 (nI 0)) 0 11 (nI 0)) 21 [.ref 0, uu, uu] [.int ((-1 : Int32))] from ?_)
        refine aw_bipush (v := nI 10) cb_10 d_X_next0_21 ?_
        refine aw_icmp_neI (tgt := 39) (-1) (10) (by decide +kernel) (by decide +kernel) (by decide) d_X_next0_23 (fun _ => ?_) (fun q => absurd q (by decide))
        refine aw_aload_n rfl rfl d_X_next0_39 ?_
        refine aw_aload_n rfl rfl d_X_next0_40 ?_
        refine aw_geti fl_X_115 km_0 (by decide) rfl d_X_next0_41 ?_
        refine aw_top (x2 := nI 0) (Eq.trans (upd2_nx (by omega)) (Eq.trans (upd2_nx (by omega)) (upd2_eq))) ?_
        refine aw_puti fl_X_118 km_0 (by decide) rfl rfl rfl rfl d_X_next0_44 ?_
        refine aw_aload_n rfl rfl d_X_next0_47 ?_
        refine aw_aload_n rfl rfl d_X_next0_48 ?_
        refine aw_geti fl_X_115 km_0 (by decide) rfl d_X_next0_49 ?_
        refine aw_top (x2 := nI 0) (Eq.trans (upd2_nx (by omega)) (Eq.trans (upd2_nx (by omega)) (Eq.trans (upd2_nx (by omega)) (upd2_eq)))) ?_
        refine as_callV (as := [.int (nI 0)]) (d' := 12) (q := ("SinglesUpModel", zT9, 51)) mo_X_see lk_X_174 km_0 rfl rfl rfl ⟨by decide, by decide⟩ rfl rfl (by decide) d_X_next0_52 (Ss.of (show As l b 12 y_X_see KM RM _ (upd2 (upd2 (upd2 (upd2 (upd2 (upd2 I 0 17 (nI 0)) 0 9 (nI 2)) 0 13 (nI 0)) 0 10 (nI 0)) 0 11 (nI 0)) 0 15 (nI 0)) 0 [.ref 0, .int (nI 0)] [] from ?_))
        refine aw_iload_n rfl rfl d_X_see_0 ?_
        refine aw_aload_n rfl rfl d_X_see_1 ?_
        refine aw_geti fl_X_112 km_0 (by decide) rfl d_X_see_2 ?_
        refine aw_top (x2 := nI 0) (Eq.trans (upd2_nx (by omega)) (Eq.trans (upd2_nx (by omega)) (Eq.trans (upd2_nx (by omega)) (Eq.trans (upd2_nx (by omega)) (Eq.trans (upd2_nx (by omega)) (Eq.trans (upd2_nx (by omega)) (o12))))))) ?_
        refine aw_icmp_geI (tgt := 17) (0) (0) (by decide +kernel) (by decide +kernel) (by decide) d_X_see_5 (fun _ => ?_) (fun q => absurd q (by decide))
        refine aw_iconst (v := (-1 : Int32)) rfl d_X_see_17 ?_
        refine as_reti rfl d_X_see_18 ?_
        refine (show As l b 13 y_X_next0 KM RM _ (upd2 (upd2 (upd2 (upd2 (upd2 (upd2 I 0 17 (nI 0)) 0 9 (nI 2)) 0 13 (nI 0)) 0 10 (nI 0)) 0 11 (nI 0)) 0 15 (nI 0)) 55 [.ref 0, uu, uu] [.int ((-1 : Int32))] from ?_)
        refine aw_istore_n (lv2 := [.ref 0, .int ((-1 : Int32)), uu]) rfl (by decide) rfl d_X_next0_55 ?_
        refine aw_iload_n rfl rfl d_X_next0_56 ?_
        refine aw_iconst (v := (-1 : Int32)) rfl d_X_next0_57 ?_
        refine aw_icmp_neI (tgt := 69) (-1) (-1) (by decide +kernel) (by decide +kernel) (by decide) d_X_next0_58 (fun q => absurd q (by decide)) (fun _ => ?_)
        refine aw_aload_n rfl rfl d_X_next0_61 ?_
        refine aw_iconst (v := nI 0) ci_0 d_X_next0_62 ?_
        refine aw_puti fl_X_178 km_0 (by decide) rfl rfl rfl rfl d_X_next0_63 ?_
        refine aw_goto (tgt := 306) (by decide) d_X_next0_66 ?_
        refine as_retv rfl d_X_next0_306 ?_
        refine (show As l b 14 y_X_text KM RM K2 (upd2 (upd2 (upd2 (upd2 (upd2 (upd2 (upd2 I 0 17 (nI 0)) 0 9 (nI 2)) 0 13 (nI 0)) 0 10 (nI 0)) 0 11 (nI 0)) 0 15 (nI 0)) 0 14 (nI 0)) 55 [.ref 0, .int (nI 2), uu, uu] [] from ?_)
        refine aw_iconst (v := nI 1) ci_1 d_X_text_55 ?_
        refine aw_istore_n (lv2 := [.ref 0, .int (nI 2), .int (nI 1), uu]) rfl (by decide) rfl d_X_text_56 ?_
        refine aw_iload_n rfl rfl d_X_text_57 ?_
        refine aw_if_eqI (tgt := 94) (1) (by decide +kernel) (by decide) d_X_text_58 (fun q => absurd q (by decide)) (fun _ => ?_)
        refine aw_aload_n rfl rfl d_X_text_61 ?_
        refine aw_geti fl_X_178 km_0 (by decide) rfl d_X_text_62 ?_
        refine aw_top (x2 := nI 0) (upd2_eq) ?_
        refine aw_if_eqI (tgt := 94) (0) (by decide +kernel) (by decide) d_X_text_65 (fun _ => ?_) (fun q => absurd q (by decide))
        refine aw_aload_n rfl rfl d_X_text_94 ?_
        refine aw_iconst (v := nI 0) ci_0 d_X_text_95 ?_
        refine aw_puti fl_X_112 km_0 (by decide) rfl rfl rfl rfl d_X_text_96 ?_
        refine aw_aload_n rfl rfl d_X_text_99 ?_
        refine aw_aload_n rfl rfl d_X_text_100 ?_
        refine aw_geti fl_X_193 km_0 (by decide) rfl d_X_text_101 ?_
        refine aw_top (x2 := nI 0) (Eq.trans (upd2_nx (by omega)) (Eq.trans (upd2_nx (by omega)) (Eq.trans (upd2_nx (by omega)) (Eq.trans (upd2_nx (by omega)) (Eq.trans (upd2_nx (by omega)) (Eq.trans (upd2_nx (by omega)) (Eq.trans (upd2_nx (by omega)) (upd2_eq)))))))) ?_
        refine aw_puti fl_X_247 km_0 (by decide) rfl rfl rfl rfl d_X_text_104 ?_
        refine aw_aload_n rfl rfl d_X_text_107 ?_
        refine aw_iload_n rfl rfl d_X_text_108 ?_
        refine aw_if_eqI (tgt := 116) (1) (by decide +kernel) (by decide) d_X_text_109 (fun q => absurd q (by decide)) (fun _ => ?_)
        refine aw_iconst (v := (-1 : Int32)) rfl d_X_text_112 ?_
        refine aw_goto (tgt := 120) (by decide) d_X_text_113 ?_
        refine aw_puti fl_X_34 km_0 (by decide) rfl rfl rfl rfl d_X_text_120 ?_
        refine aw_iload_n rfl rfl d_X_text_123 ?_
        refine aw_if_neI (tgt := 129) (1) (by decide +kernel) (by decide) d_X_text_124 (fun _ => ?_) (fun q => absurd q (by decide))
        refine aw_aload_n rfl rfl d_X_text_129 ?_
        refine aw_getr fl_X_7 km_0 (by decide) rfl rm_0_0 d_X_text_130 ?_
        refine aw_sipush (v := nI 1580) cs_1580 d_X_text_133 ?_
        refine aw_iload_n rfl rfl d_X_text_136 ?_
        refine aw_iadd d_X_text_137 ?_
        refine aw_top (x2 := nI 1582) (by decide +kernel) ?_
        refine aw_aload_n rfl rfl d_X_text_138 ?_
        refine aw_geti fl_X_244 km_0 (by decide) rfl d_X_text_139 ?_
        refine aw_top (x2 := nI 0) (Eq.trans (upd2_nx (by omega)) (Eq.trans (upd2_nx (by omega)) (Eq.trans (upd2_nx (by omega)) (Eq.trans (upd2_nx (by omega)) (Eq.trans (upd2_nx (by omega)) (Eq.trans (upd2_nx (by omega)) (upd2_eq))))))) ?_
        refine aw_iast (j := 1582) km_1 (vp_in_nI (by decide) (by decide)) (nI_clamp (by decide)) d_X_text_142 ?_
        refine aw_iconst (v := nI 0) ci_0 d_X_text_143 ?_
        refine aw_istore_n (lv2 := [.ref 0, .int (nI 2), .int (nI 1), .int (nI 0)]) rfl (by decide) rfl d_X_text_144 ?_
        refine aw_iload_n rfl rfl d_X_text_145 ?_
        refine aw_aload_n rfl rfl d_X_text_146 ?_
        refine aw_geti fl_X_244 km_0 (by decide) rfl d_X_text_147 ?_
        refine aw_top (x2 := nI 0) (Eq.trans (congrFun (upd2_ne (by decide)) (10)) (Eq.trans (upd2_nx (by omega)) (Eq.trans (upd2_nx (by omega)) (Eq.trans (upd2_nx (by omega)) (Eq.trans (upd2_nx (by omega)) (Eq.trans (upd2_nx (by omega)) (Eq.trans (upd2_nx (by omega)) (upd2_eq)))))))) ?_
        refine aw_icmp_geI (tgt := 257) (0) (0) (by decide +kernel) (by decide +kernel) (by decide) d_X_text_150 (fun _ => ?_) (fun q => absurd q (by decide))
        refine aw_iconst (v := nI 0) ci_0 d_X_text_257 ?_
        refine aw_istore_n (lv2 := [.ref 0, .int (nI 2), .int (nI 1), .int (nI 0)]) rfl (by decide) rfl d_X_text_258 ?_
        refine aw_iload_n rfl rfl d_X_text_259 ?_
        refine aw_iconst (v := nI 2) ci_2 d_X_text_260 ?_
        refine aw_aload_n rfl rfl d_X_text_261 ?_
        refine aw_geti fl_X_205 km_0 (by decide) rfl d_X_text_262 ?_
        refine aw_top (x2 := nI 0) (Eq.trans (congrFun (upd2_ne (by decide)) (11)) (Eq.trans (upd2_nx (by omega)) (Eq.trans (upd2_nx (by omega)) (Eq.trans (upd2_nx (by omega)) (Eq.trans (upd2_nx (by omega)) (Eq.trans (upd2_nx (by omega)) (upd2_eq))))))) ?_
        refine aw_imul d_X_text_265 ?_
        refine aw_top (x2 := nI 0) (by decide +kernel) ?_
        refine aw_icmp_geI (tgt := 297) (0) (0) (by decide +kernel) (by decide +kernel) (by decide) d_X_text_266 (fun _ => ?_) (fun q => absurd q (by decide))
        refine aw_aload_n rfl rfl d_X_text_297 ?_
        refine aw_geti fl_X_244 km_0 (by decide) rfl d_X_text_298 ?_
        refine aw_top (x2 := nI 0) (Eq.trans (congrFun (upd2_ne (by decide)) (10)) (Eq.trans (upd2_nx (by omega)) (Eq.trans (upd2_nx (by omega)) (Eq.trans (upd2_nx (by omega)) (Eq.trans (upd2_nx (by omega)) (Eq.trans (upd2_nx (by omega)) (Eq.trans (upd2_nx (by omega)) (upd2_eq)))))))) ?_
        exact as_reti rfl d_X_text_301 (hg (by omega) _)
      · refine aw_aload_n rfl rfl d_X_text_31 ?_
        refine aw_iload_n rfl rfl d_X_text_32 ?_
        refine aw_puti fl_X_166 km_0 (by decide) rfl rfl rfl rfl d_X_text_33 ?_
        refine aw_aload_n rfl rfl d_X_text_36 ?_
        refine aw_iconst (v := nI 0) ci_0 d_X_text_37 ?_
        refine aw_puti fl_X_115 km_0 (by decide) rfl rfl rfl rfl d_X_text_38 ?_
        refine aw_aload_n rfl rfl d_X_text_41 ?_
        refine aw_iconst (v := nI 0) ci_0 d_X_text_42 ?_
        refine aw_puti fl_X_244 km_0 (by decide) rfl rfl rfl rfl d_X_text_43 ?_
        refine aw_aload_n rfl rfl d_X_text_46 ?_
        refine aw_iconst (v := nI 0) ci_0 d_X_text_47 ?_
        refine aw_puti fl_X_205 km_0 (by decide) rfl rfl rfl rfl d_X_text_48 ?_
        refine aw_aload_n rfl rfl d_X_text_51 ?_
        refine as_callV (as := []) (d' := 13) (q := ("SinglesUpModel", zT9, 51)) mo_X_next0 lk_X_202 km_0 rfl rfl rfl ⟨by decide, by decide⟩ rfl rfl (by decide) d_X_text_52 (Ss.of (show As l b 13 y_X_next0 KM RM _ (upd2 (upd2 (upd2 (upd2 (upd2 I 0 17 (nI 0)) 0 9 (nI 3)) 0 13 (nI 0)) 0 10 (nI 0)) 0 11 (nI 0)) 0 [.ref 0, uu, uu] [] from ?_))
        refine aw_aload_n rfl rfl d_X_next0_0 ?_
        refine aw_aload_n rfl rfl d_X_next0_1 ?_
        refine aw_geti fl_X_115 km_0 (by decide) rfl d_X_next0_2 ?_
        refine aw_top (x2 := nI 0) (Eq.trans (upd2_nx (by omega)) (Eq.trans (upd2_nx (by omega)) (upd2_eq))) ?_
        refine as_callV (as := [.int (nI 0)]) (d' := 12) (q := ("SinglesUpModel", zT9, 51)) mo_X_see lk_X_174 km_0 rfl rfl rfl ⟨by decide, by decide⟩ rfl rfl (by decide) d_X_next0_5 (Ss.of (show As l b 12 y_X_see KM RM _ (upd2 (upd2 (upd2 (upd2 (upd2 I 0 17 (nI 0)) 0 9 (nI 3)) 0 13 (nI 0)) 0 10 (nI 0)) 0 11 (nI 0)) 0 [.ref 0, .int (nI 0)] [] from ?_))
        refine aw_iload_n rfl rfl d_X_see_0 ?_
        refine aw_aload_n rfl rfl d_X_see_1 ?_
        refine aw_geti fl_X_112 km_0 (by decide) rfl d_X_see_2 ?_
        refine aw_top (x2 := nI 0) (Eq.trans (upd2_nx (by omega)) (Eq.trans (upd2_nx (by omega)) (Eq.trans (upd2_nx (by omega)) (Eq.trans (upd2_nx (by omega)) (Eq.trans (upd2_nx (by omega)) (o12)))))) ?_
        refine aw_icmp_geI (tgt := 17) (0) (0) (by decide +kernel) (by decide +kernel) (by decide) d_X_see_5 (fun _ => ?_) (fun q => absurd q (by decide))
        refine aw_iconst (v := (-1 : Int32)) rfl d_X_see_17 ?_
        refine as_reti rfl d_X_see_18 ?_
        refine (show As l b 13 y_X_next0 KM RM _ (upd2 (upd2 (upd2 (upd2 (upd2 I 0 17 (nI 0)) 0 9 (nI 3)) 0 13 (nI 0)) 0 10 (nI 0)) 0 11 (nI 0)) 8 [.ref 0, uu, uu] [.int ((-1 : Int32))] from ?_)
        refine aw_bipush (v := nI 32) cb_32 d_X_next0_8 ?_
        refine aw_icmp_eqI (tgt := 26) (-1) (32) (by decide +kernel) (by decide +kernel) (by decide) d_X_next0_10 (fun q => absurd q (by decide)) (fun _ => ?_)
        refine aw_aload_n rfl rfl d_X_next0_13 ?_
        refine aw_aload_n rfl rfl d_X_next0_14 ?_
        refine aw_geti fl_X_115 km_0 (by decide) rfl d_X_next0_15 ?_
        refine aw_top (x2 := nI 0) (Eq.trans (upd2_nx (by omega)) (Eq.trans (upd2_nx (by omega)) (upd2_eq))) ?_
        refine as_callV (as := [.int (nI 0)]) (d' := 12) (q := ("SinglesUpModel", zT9, 51)) mo_X_see lk_X_174 km_0 rfl rfl rfl ⟨by decide, by decide⟩ rfl rfl (by decide) d_X_next0_18 (Ss.of (show As l b 12 y_X_see KM RM _ (upd2 (upd2 (upd2 (upd2 (upd2 I 0 17 (nI 0)) 0 9 (nI 3)) 0 13 (nI 0)) 0 10 (nI 0)) 0 11 (nI 0)) 0 [.ref 0, .int (nI 0)] [] from ?_))
        refine aw_iload_n rfl rfl d_X_see_0 ?_
        refine aw_aload_n rfl rfl d_X_see_1 ?_
        refine aw_geti fl_X_112 km_0 (by decide) rfl d_X_see_2 ?_
        refine aw_top (x2 := nI 0) (Eq.trans (upd2_nx (by omega)) (Eq.trans (upd2_nx (by omega)) (Eq.trans (upd2_nx (by omega)) (Eq.trans (upd2_nx (by omega)) (Eq.trans (upd2_nx (by omega)) (o12)))))) ?_
        refine aw_icmp_geI (tgt := 17) (0) (0) (by decide +kernel) (by decide +kernel) (by decide) d_X_see_5 (fun _ => ?_) (fun q => absurd q (by decide))
        refine aw_iconst (v := (-1 : Int32)) rfl d_X_see_17 ?_
        refine as_reti rfl d_X_see_18 ?_
        refine (show As l b 13 y_X_next0 KM RM _ (upd2 (upd2 (upd2 (upd2 (upd2 I 0 17 (nI 0)) 0 9 (nI 3)) 0 13 (nI 0)) 0 10 (nI 0)) 0 11 (nI 0)) 21 [.ref 0, uu, uu] [.int ((-1 : Int32))] from ?_)
        refine aw_bipush (v := nI 10) cb_10 d_X_next0_21 ?_
        refine aw_icmp_neI (tgt := 39) (-1) (10) (by decide +kernel) (by decide +kernel) (by decide) d_X_next0_23 (fun _ => ?_) (fun q => absurd q (by decide))
        refine aw_aload_n rfl rfl d_X_next0_39 ?_
        refine aw_aload_n rfl rfl d_X_next0_40 ?_
        refine aw_geti fl_X_115 km_0 (by decide) rfl d_X_next0_41 ?_
        refine aw_top (x2 := nI 0) (Eq.trans (upd2_nx (by omega)) (Eq.trans (upd2_nx (by omega)) (upd2_eq))) ?_
        refine aw_puti fl_X_118 km_0 (by decide) rfl rfl rfl rfl d_X_next0_44 ?_
        refine aw_aload_n rfl rfl d_X_next0_47 ?_
        refine aw_aload_n rfl rfl d_X_next0_48 ?_
        refine aw_geti fl_X_115 km_0 (by decide) rfl d_X_next0_49 ?_
        refine aw_top (x2 := nI 0) (Eq.trans (upd2_nx (by omega)) (Eq.trans (upd2_nx (by omega)) (Eq.trans (upd2_nx (by omega)) (upd2_eq)))) ?_
        refine as_callV (as := [.int (nI 0)]) (d' := 12) (q := ("SinglesUpModel", zT9, 51)) mo_X_see lk_X_174 km_0 rfl rfl rfl ⟨by decide, by decide⟩ rfl rfl (by decide) d_X_next0_52 (Ss.of (show As l b 12 y_X_see KM RM _ (upd2 (upd2 (upd2 (upd2 (upd2 (upd2 I 0 17 (nI 0)) 0 9 (nI 3)) 0 13 (nI 0)) 0 10 (nI 0)) 0 11 (nI 0)) 0 15 (nI 0)) 0 [.ref 0, .int (nI 0)] [] from ?_))
        refine aw_iload_n rfl rfl d_X_see_0 ?_
        refine aw_aload_n rfl rfl d_X_see_1 ?_
        refine aw_geti fl_X_112 km_0 (by decide) rfl d_X_see_2 ?_
        refine aw_top (x2 := nI 0) (Eq.trans (upd2_nx (by omega)) (Eq.trans (upd2_nx (by omega)) (Eq.trans (upd2_nx (by omega)) (Eq.trans (upd2_nx (by omega)) (Eq.trans (upd2_nx (by omega)) (Eq.trans (upd2_nx (by omega)) (o12))))))) ?_
        refine aw_icmp_geI (tgt := 17) (0) (0) (by decide +kernel) (by decide +kernel) (by decide) d_X_see_5 (fun _ => ?_) (fun q => absurd q (by decide))
        refine aw_iconst (v := (-1 : Int32)) rfl d_X_see_17 ?_
        refine as_reti rfl d_X_see_18 ?_
        refine (show As l b 13 y_X_next0 KM RM _ (upd2 (upd2 (upd2 (upd2 (upd2 (upd2 I 0 17 (nI 0)) 0 9 (nI 3)) 0 13 (nI 0)) 0 10 (nI 0)) 0 11 (nI 0)) 0 15 (nI 0)) 55 [.ref 0, uu, uu] [.int ((-1 : Int32))] from ?_)
        refine aw_istore_n (lv2 := [.ref 0, .int ((-1 : Int32)), uu]) rfl (by decide) rfl d_X_next0_55 ?_
        refine aw_iload_n rfl rfl d_X_next0_56 ?_
        refine aw_iconst (v := (-1 : Int32)) rfl d_X_next0_57 ?_
        refine aw_icmp_neI (tgt := 69) (-1) (-1) (by decide +kernel) (by decide +kernel) (by decide) d_X_next0_58 (fun q => absurd q (by decide)) (fun _ => ?_)
        refine aw_aload_n rfl rfl d_X_next0_61 ?_
        refine aw_iconst (v := nI 0) ci_0 d_X_next0_62 ?_
        refine aw_puti fl_X_178 km_0 (by decide) rfl rfl rfl rfl d_X_next0_63 ?_
        refine aw_goto (tgt := 306) (by decide) d_X_next0_66 ?_
        refine as_retv rfl d_X_next0_306 ?_
        refine (show As l b 14 y_X_text KM RM K2 (upd2 (upd2 (upd2 (upd2 (upd2 (upd2 (upd2 I 0 17 (nI 0)) 0 9 (nI 3)) 0 13 (nI 0)) 0 10 (nI 0)) 0 11 (nI 0)) 0 15 (nI 0)) 0 14 (nI 0)) 55 [.ref 0, .int (nI 3), uu, uu] [] from ?_)
        refine aw_iconst (v := nI 1) ci_1 d_X_text_55 ?_
        refine aw_istore_n (lv2 := [.ref 0, .int (nI 3), .int (nI 1), uu]) rfl (by decide) rfl d_X_text_56 ?_
        refine aw_iload_n rfl rfl d_X_text_57 ?_
        refine aw_if_eqI (tgt := 94) (1) (by decide +kernel) (by decide) d_X_text_58 (fun q => absurd q (by decide)) (fun _ => ?_)
        refine aw_aload_n rfl rfl d_X_text_61 ?_
        refine aw_geti fl_X_178 km_0 (by decide) rfl d_X_text_62 ?_
        refine aw_top (x2 := nI 0) (upd2_eq) ?_
        refine aw_if_eqI (tgt := 94) (0) (by decide +kernel) (by decide) d_X_text_65 (fun _ => ?_) (fun q => absurd q (by decide))
        refine aw_aload_n rfl rfl d_X_text_94 ?_
        refine aw_iconst (v := nI 0) ci_0 d_X_text_95 ?_
        refine aw_puti fl_X_112 km_0 (by decide) rfl rfl rfl rfl d_X_text_96 ?_
        refine aw_aload_n rfl rfl d_X_text_99 ?_
        refine aw_aload_n rfl rfl d_X_text_100 ?_
        refine aw_geti fl_X_193 km_0 (by decide) rfl d_X_text_101 ?_
        refine aw_top (x2 := nI 0) (Eq.trans (upd2_nx (by omega)) (Eq.trans (upd2_nx (by omega)) (Eq.trans (upd2_nx (by omega)) (Eq.trans (upd2_nx (by omega)) (Eq.trans (upd2_nx (by omega)) (Eq.trans (upd2_nx (by omega)) (Eq.trans (upd2_nx (by omega)) (upd2_eq)))))))) ?_
        refine aw_puti fl_X_247 km_0 (by decide) rfl rfl rfl rfl d_X_text_104 ?_
        refine aw_aload_n rfl rfl d_X_text_107 ?_
        refine aw_iload_n rfl rfl d_X_text_108 ?_
        refine aw_if_eqI (tgt := 116) (1) (by decide +kernel) (by decide) d_X_text_109 (fun q => absurd q (by decide)) (fun _ => ?_)
        refine aw_iconst (v := (-1 : Int32)) rfl d_X_text_112 ?_
        refine aw_goto (tgt := 120) (by decide) d_X_text_113 ?_
        refine aw_puti fl_X_34 km_0 (by decide) rfl rfl rfl rfl d_X_text_120 ?_
        refine aw_iload_n rfl rfl d_X_text_123 ?_
        refine aw_if_neI (tgt := 129) (1) (by decide +kernel) (by decide) d_X_text_124 (fun _ => ?_) (fun q => absurd q (by decide))
        refine aw_aload_n rfl rfl d_X_text_129 ?_
        refine aw_getr fl_X_7 km_0 (by decide) rfl rm_0_0 d_X_text_130 ?_
        refine aw_sipush (v := nI 1580) cs_1580 d_X_text_133 ?_
        refine aw_iload_n rfl rfl d_X_text_136 ?_
        refine aw_iadd d_X_text_137 ?_
        refine aw_top (x2 := nI 1583) (by decide +kernel) ?_
        refine aw_aload_n rfl rfl d_X_text_138 ?_
        refine aw_geti fl_X_244 km_0 (by decide) rfl d_X_text_139 ?_
        refine aw_top (x2 := nI 0) (Eq.trans (upd2_nx (by omega)) (Eq.trans (upd2_nx (by omega)) (Eq.trans (upd2_nx (by omega)) (Eq.trans (upd2_nx (by omega)) (Eq.trans (upd2_nx (by omega)) (Eq.trans (upd2_nx (by omega)) (upd2_eq))))))) ?_
        refine aw_iast (j := 1583) km_1 (vp_in_nI (by decide) (by decide)) (nI_clamp (by decide)) d_X_text_142 ?_
        refine aw_iconst (v := nI 0) ci_0 d_X_text_143 ?_
        refine aw_istore_n (lv2 := [.ref 0, .int (nI 3), .int (nI 1), .int (nI 0)]) rfl (by decide) rfl d_X_text_144 ?_
        refine aw_iload_n rfl rfl d_X_text_145 ?_
        refine aw_aload_n rfl rfl d_X_text_146 ?_
        refine aw_geti fl_X_244 km_0 (by decide) rfl d_X_text_147 ?_
        refine aw_top (x2 := nI 0) (Eq.trans (congrFun (upd2_ne (by decide)) (10)) (Eq.trans (upd2_nx (by omega)) (Eq.trans (upd2_nx (by omega)) (Eq.trans (upd2_nx (by omega)) (Eq.trans (upd2_nx (by omega)) (Eq.trans (upd2_nx (by omega)) (Eq.trans (upd2_nx (by omega)) (upd2_eq)))))))) ?_
        refine aw_icmp_geI (tgt := 257) (0) (0) (by decide +kernel) (by decide +kernel) (by decide) d_X_text_150 (fun _ => ?_) (fun q => absurd q (by decide))
        refine aw_iconst (v := nI 0) ci_0 d_X_text_257 ?_
        refine aw_istore_n (lv2 := [.ref 0, .int (nI 3), .int (nI 1), .int (nI 0)]) rfl (by decide) rfl d_X_text_258 ?_
        refine aw_iload_n rfl rfl d_X_text_259 ?_
        refine aw_iconst (v := nI 2) ci_2 d_X_text_260 ?_
        refine aw_aload_n rfl rfl d_X_text_261 ?_
        refine aw_geti fl_X_205 km_0 (by decide) rfl d_X_text_262 ?_
        refine aw_top (x2 := nI 0) (Eq.trans (congrFun (upd2_ne (by decide)) (11)) (Eq.trans (upd2_nx (by omega)) (Eq.trans (upd2_nx (by omega)) (Eq.trans (upd2_nx (by omega)) (Eq.trans (upd2_nx (by omega)) (Eq.trans (upd2_nx (by omega)) (upd2_eq))))))) ?_
        refine aw_imul d_X_text_265 ?_
        refine aw_top (x2 := nI 0) (by decide +kernel) ?_
        refine aw_icmp_geI (tgt := 297) (0) (0) (by decide +kernel) (by decide +kernel) (by decide) d_X_text_266 (fun _ => ?_) (fun q => absurd q (by decide))
        refine aw_aload_n rfl rfl d_X_text_297 ?_
        refine aw_geti fl_X_244 km_0 (by decide) rfl d_X_text_298 ?_
        refine aw_top (x2 := nI 0) (Eq.trans (congrFun (upd2_ne (by decide)) (10)) (Eq.trans (upd2_nx (by omega)) (Eq.trans (upd2_nx (by omega)) (Eq.trans (upd2_nx (by omega)) (Eq.trans (upd2_nx (by omega)) (Eq.trans (upd2_nx (by omega)) (Eq.trans (upd2_nx (by omega)) (upd2_eq)))))))) ?_
        exact as_reti rfl d_X_text_301 (hg (by omega) _)
      · refine aw_aload_n rfl rfl d_X_text_31 ?_
        refine aw_iload_n rfl rfl d_X_text_32 ?_
        refine aw_puti fl_X_166 km_0 (by decide) rfl rfl rfl rfl d_X_text_33 ?_
        refine aw_aload_n rfl rfl d_X_text_36 ?_
        refine aw_iconst (v := nI 0) ci_0 d_X_text_37 ?_
        refine aw_puti fl_X_115 km_0 (by decide) rfl rfl rfl rfl d_X_text_38 ?_
        refine aw_aload_n rfl rfl d_X_text_41 ?_
        refine aw_iconst (v := nI 0) ci_0 d_X_text_42 ?_
        refine aw_puti fl_X_244 km_0 (by decide) rfl rfl rfl rfl d_X_text_43 ?_
        refine aw_aload_n rfl rfl d_X_text_46 ?_
        refine aw_iconst (v := nI 0) ci_0 d_X_text_47 ?_
        refine aw_puti fl_X_205 km_0 (by decide) rfl rfl rfl rfl d_X_text_48 ?_
        refine aw_aload_n rfl rfl d_X_text_51 ?_
        refine as_callV (as := []) (d' := 13) (q := ("SinglesUpModel", zT9, 51)) mo_X_next0 lk_X_202 km_0 rfl rfl rfl ⟨by decide, by decide⟩ rfl rfl (by decide) d_X_text_52 (Ss.of (show As l b 13 y_X_next0 KM RM _ (upd2 (upd2 (upd2 (upd2 (upd2 I 0 17 (nI 0)) 0 9 (nI 4)) 0 13 (nI 0)) 0 10 (nI 0)) 0 11 (nI 0)) 0 [.ref 0, uu, uu] [] from ?_))
        refine aw_aload_n rfl rfl d_X_next0_0 ?_
        refine aw_aload_n rfl rfl d_X_next0_1 ?_
        refine aw_geti fl_X_115 km_0 (by decide) rfl d_X_next0_2 ?_
        refine aw_top (x2 := nI 0) (Eq.trans (upd2_nx (by omega)) (Eq.trans (upd2_nx (by omega)) (upd2_eq))) ?_
        refine as_callV (as := [.int (nI 0)]) (d' := 12) (q := ("SinglesUpModel", zT9, 51)) mo_X_see lk_X_174 km_0 rfl rfl rfl ⟨by decide, by decide⟩ rfl rfl (by decide) d_X_next0_5 (Ss.of (show As l b 12 y_X_see KM RM _ (upd2 (upd2 (upd2 (upd2 (upd2 I 0 17 (nI 0)) 0 9 (nI 4)) 0 13 (nI 0)) 0 10 (nI 0)) 0 11 (nI 0)) 0 [.ref 0, .int (nI 0)] [] from ?_))
        refine aw_iload_n rfl rfl d_X_see_0 ?_
        refine aw_aload_n rfl rfl d_X_see_1 ?_
        refine aw_geti fl_X_112 km_0 (by decide) rfl d_X_see_2 ?_
        refine aw_top (x2 := nI 0) (Eq.trans (upd2_nx (by omega)) (Eq.trans (upd2_nx (by omega)) (Eq.trans (upd2_nx (by omega)) (Eq.trans (upd2_nx (by omega)) (Eq.trans (upd2_nx (by omega)) (o12)))))) ?_
        refine aw_icmp_geI (tgt := 17) (0) (0) (by decide +kernel) (by decide +kernel) (by decide) d_X_see_5 (fun _ => ?_) (fun q => absurd q (by decide))
        refine aw_iconst (v := (-1 : Int32)) rfl d_X_see_17 ?_
        refine as_reti rfl d_X_see_18 ?_
        refine (show As l b 13 y_X_next0 KM RM _ (upd2 (upd2 (upd2 (upd2 (upd2 I 0 17 (nI 0)) 0 9 (nI 4)) 0 13 (nI 0)) 0 10 (nI 0)) 0 11 (nI 0)) 8 [.ref 0, uu, uu] [.int ((-1 : Int32))] from ?_)
        refine aw_bipush (v := nI 32) cb_32 d_X_next0_8 ?_
        refine aw_icmp_eqI (tgt := 26) (-1) (32) (by decide +kernel) (by decide +kernel) (by decide) d_X_next0_10 (fun q => absurd q (by decide)) (fun _ => ?_)
        refine aw_aload_n rfl rfl d_X_next0_13 ?_
        refine aw_aload_n rfl rfl d_X_next0_14 ?_
        refine aw_geti fl_X_115 km_0 (by decide) rfl d_X_next0_15 ?_
        refine aw_top (x2 := nI 0) (Eq.trans (upd2_nx (by omega)) (Eq.trans (upd2_nx (by omega)) (upd2_eq))) ?_
        refine as_callV (as := [.int (nI 0)]) (d' := 12) (q := ("SinglesUpModel", zT9, 51)) mo_X_see lk_X_174 km_0 rfl rfl rfl ⟨by decide, by decide⟩ rfl rfl (by decide) d_X_next0_18 (Ss.of (show As l b 12 y_X_see KM RM _ (upd2 (upd2 (upd2 (upd2 (upd2 I 0 17 (nI 0)) 0 9 (nI 4)) 0 13 (nI 0)) 0 10 (nI 0)) 0 11 (nI 0)) 0 [.ref 0, .int (nI 0)] [] from ?_))
        refine aw_iload_n rfl rfl d_X_see_0 ?_
        refine aw_aload_n rfl rfl d_X_see_1 ?_
        refine aw_geti fl_X_112 km_0 (by decide) rfl d_X_see_2 ?_
        refine aw_top (x2 := nI 0) (Eq.trans (upd2_nx (by omega)) (Eq.trans (upd2_nx (by omega)) (Eq.trans (upd2_nx (by omega)) (Eq.trans (upd2_nx (by omega)) (Eq.trans (upd2_nx (by omega)) (o12)))))) ?_
        refine aw_icmp_geI (tgt := 17) (0) (0) (by decide +kernel) (by decide +kernel) (by decide) d_X_see_5 (fun _ => ?_) (fun q => absurd q (by decide))
        refine aw_iconst (v := (-1 : Int32)) rfl d_X_see_17 ?_
        refine as_reti rfl d_X_see_18 ?_
        refine (show As l b 13 y_X_next0 KM RM _ (upd2 (upd2 (upd2 (upd2 (upd2 I 0 17 (nI 0)) 0 9 (nI 4)) 0 13 (nI 0)) 0 10 (nI 0)) 0 11 (nI 0)) 21 [.ref 0, uu, uu] [.int ((-1 : Int32))] from ?_)
        refine aw_bipush (v := nI 10) cb_10 d_X_next0_21 ?_
        refine aw_icmp_neI (tgt := 39) (-1) (10) (by decide +kernel) (by decide +kernel) (by decide) d_X_next0_23 (fun _ => ?_) (fun q => absurd q (by decide))
        refine aw_aload_n rfl rfl d_X_next0_39 ?_
        refine aw_aload_n rfl rfl d_X_next0_40 ?_
        refine aw_geti fl_X_115 km_0 (by decide) rfl d_X_next0_41 ?_
        refine aw_top (x2 := nI 0) (Eq.trans (upd2_nx (by omega)) (Eq.trans (upd2_nx (by omega)) (upd2_eq))) ?_
        refine aw_puti fl_X_118 km_0 (by decide) rfl rfl rfl rfl d_X_next0_44 ?_
        refine aw_aload_n rfl rfl d_X_next0_47 ?_
        refine aw_aload_n rfl rfl d_X_next0_48 ?_
        refine aw_geti fl_X_115 km_0 (by decide) rfl d_X_next0_49 ?_
        refine aw_top (x2 := nI 0) (Eq.trans (upd2_nx (by omega)) (Eq.trans (upd2_nx (by omega)) (Eq.trans (upd2_nx (by omega)) (upd2_eq)))) ?_
        refine as_callV (as := [.int (nI 0)]) (d' := 12) (q := ("SinglesUpModel", zT9, 51)) mo_X_see lk_X_174 km_0 rfl rfl rfl ⟨by decide, by decide⟩ rfl rfl (by decide) d_X_next0_52 (Ss.of (show As l b 12 y_X_see KM RM _ (upd2 (upd2 (upd2 (upd2 (upd2 (upd2 I 0 17 (nI 0)) 0 9 (nI 4)) 0 13 (nI 0)) 0 10 (nI 0)) 0 11 (nI 0)) 0 15 (nI 0)) 0 [.ref 0, .int (nI 0)] [] from ?_))
        refine aw_iload_n rfl rfl d_X_see_0 ?_
        refine aw_aload_n rfl rfl d_X_see_1 ?_
        refine aw_geti fl_X_112 km_0 (by decide) rfl d_X_see_2 ?_
        refine aw_top (x2 := nI 0) (Eq.trans (upd2_nx (by omega)) (Eq.trans (upd2_nx (by omega)) (Eq.trans (upd2_nx (by omega)) (Eq.trans (upd2_nx (by omega)) (Eq.trans (upd2_nx (by omega)) (Eq.trans (upd2_nx (by omega)) (o12))))))) ?_
        refine aw_icmp_geI (tgt := 17) (0) (0) (by decide +kernel) (by decide +kernel) (by decide) d_X_see_5 (fun _ => ?_) (fun q => absurd q (by decide))
        refine aw_iconst (v := (-1 : Int32)) rfl d_X_see_17 ?_
        refine as_reti rfl d_X_see_18 ?_
        refine (show As l b 13 y_X_next0 KM RM _ (upd2 (upd2 (upd2 (upd2 (upd2 (upd2 I 0 17 (nI 0)) 0 9 (nI 4)) 0 13 (nI 0)) 0 10 (nI 0)) 0 11 (nI 0)) 0 15 (nI 0)) 55 [.ref 0, uu, uu] [.int ((-1 : Int32))] from ?_)
        refine aw_istore_n (lv2 := [.ref 0, .int ((-1 : Int32)), uu]) rfl (by decide) rfl d_X_next0_55 ?_
        refine aw_iload_n rfl rfl d_X_next0_56 ?_
        refine aw_iconst (v := (-1 : Int32)) rfl d_X_next0_57 ?_
        refine aw_icmp_neI (tgt := 69) (-1) (-1) (by decide +kernel) (by decide +kernel) (by decide) d_X_next0_58 (fun q => absurd q (by decide)) (fun _ => ?_)
        refine aw_aload_n rfl rfl d_X_next0_61 ?_
        refine aw_iconst (v := nI 0) ci_0 d_X_next0_62 ?_
        refine aw_puti fl_X_178 km_0 (by decide) rfl rfl rfl rfl d_X_next0_63 ?_
        refine aw_goto (tgt := 306) (by decide) d_X_next0_66 ?_
        refine as_retv rfl d_X_next0_306 ?_
        refine (show As l b 14 y_X_text KM RM K2 (upd2 (upd2 (upd2 (upd2 (upd2 (upd2 (upd2 I 0 17 (nI 0)) 0 9 (nI 4)) 0 13 (nI 0)) 0 10 (nI 0)) 0 11 (nI 0)) 0 15 (nI 0)) 0 14 (nI 0)) 55 [.ref 0, .int (nI 4), uu, uu] [] from ?_)
        refine aw_iconst (v := nI 1) ci_1 d_X_text_55 ?_
        refine aw_istore_n (lv2 := [.ref 0, .int (nI 4), .int (nI 1), uu]) rfl (by decide) rfl d_X_text_56 ?_
        refine aw_iload_n rfl rfl d_X_text_57 ?_
        refine aw_if_eqI (tgt := 94) (1) (by decide +kernel) (by decide) d_X_text_58 (fun q => absurd q (by decide)) (fun _ => ?_)
        refine aw_aload_n rfl rfl d_X_text_61 ?_
        refine aw_geti fl_X_178 km_0 (by decide) rfl d_X_text_62 ?_
        refine aw_top (x2 := nI 0) (upd2_eq) ?_
        refine aw_if_eqI (tgt := 94) (0) (by decide +kernel) (by decide) d_X_text_65 (fun _ => ?_) (fun q => absurd q (by decide))
        refine aw_aload_n rfl rfl d_X_text_94 ?_
        refine aw_iconst (v := nI 0) ci_0 d_X_text_95 ?_
        refine aw_puti fl_X_112 km_0 (by decide) rfl rfl rfl rfl d_X_text_96 ?_
        refine aw_aload_n rfl rfl d_X_text_99 ?_
        refine aw_aload_n rfl rfl d_X_text_100 ?_
        refine aw_geti fl_X_193 km_0 (by decide) rfl d_X_text_101 ?_
        refine aw_top (x2 := nI 0) (Eq.trans (upd2_nx (by omega)) (Eq.trans (upd2_nx (by omega)) (Eq.trans (upd2_nx (by omega)) (Eq.trans (upd2_nx (by omega)) (Eq.trans (upd2_nx (by omega)) (Eq.trans (upd2_nx (by omega)) (Eq.trans (upd2_nx (by omega)) (upd2_eq)))))))) ?_
        refine aw_puti fl_X_247 km_0 (by decide) rfl rfl rfl rfl d_X_text_104 ?_
        refine aw_aload_n rfl rfl d_X_text_107 ?_
        refine aw_iload_n rfl rfl d_X_text_108 ?_
        refine aw_if_eqI (tgt := 116) (1) (by decide +kernel) (by decide) d_X_text_109 (fun q => absurd q (by decide)) (fun _ => ?_)
        refine aw_iconst (v := (-1 : Int32)) rfl d_X_text_112 ?_
        refine aw_goto (tgt := 120) (by decide) d_X_text_113 ?_
        refine aw_puti fl_X_34 km_0 (by decide) rfl rfl rfl rfl d_X_text_120 ?_
        refine aw_iload_n rfl rfl d_X_text_123 ?_
        refine aw_if_neI (tgt := 129) (1) (by decide +kernel) (by decide) d_X_text_124 (fun _ => ?_) (fun q => absurd q (by decide))
        refine aw_aload_n rfl rfl d_X_text_129 ?_
        refine aw_getr fl_X_7 km_0 (by decide) rfl rm_0_0 d_X_text_130 ?_
        refine aw_sipush (v := nI 1580) cs_1580 d_X_text_133 ?_
        refine aw_iload_n rfl rfl d_X_text_136 ?_
        refine aw_iadd d_X_text_137 ?_
        refine aw_top (x2 := nI 1584) (by decide +kernel) ?_
        refine aw_aload_n rfl rfl d_X_text_138 ?_
        refine aw_geti fl_X_244 km_0 (by decide) rfl d_X_text_139 ?_
        refine aw_top (x2 := nI 0) (Eq.trans (upd2_nx (by omega)) (Eq.trans (upd2_nx (by omega)) (Eq.trans (upd2_nx (by omega)) (Eq.trans (upd2_nx (by omega)) (Eq.trans (upd2_nx (by omega)) (Eq.trans (upd2_nx (by omega)) (upd2_eq))))))) ?_
        refine aw_iast (j := 1584) km_1 (vp_in_nI (by decide) (by decide)) (nI_clamp (by decide)) d_X_text_142 ?_
        refine aw_iconst (v := nI 0) ci_0 d_X_text_143 ?_
        refine aw_istore_n (lv2 := [.ref 0, .int (nI 4), .int (nI 1), .int (nI 0)]) rfl (by decide) rfl d_X_text_144 ?_
        refine aw_iload_n rfl rfl d_X_text_145 ?_
        refine aw_aload_n rfl rfl d_X_text_146 ?_
        refine aw_geti fl_X_244 km_0 (by decide) rfl d_X_text_147 ?_
        refine aw_top (x2 := nI 0) (Eq.trans (congrFun (upd2_ne (by decide)) (10)) (Eq.trans (upd2_nx (by omega)) (Eq.trans (upd2_nx (by omega)) (Eq.trans (upd2_nx (by omega)) (Eq.trans (upd2_nx (by omega)) (Eq.trans (upd2_nx (by omega)) (Eq.trans (upd2_nx (by omega)) (upd2_eq)))))))) ?_
        refine aw_icmp_geI (tgt := 257) (0) (0) (by decide +kernel) (by decide +kernel) (by decide) d_X_text_150 (fun _ => ?_) (fun q => absurd q (by decide))
        refine aw_iconst (v := nI 0) ci_0 d_X_text_257 ?_
        refine aw_istore_n (lv2 := [.ref 0, .int (nI 4), .int (nI 1), .int (nI 0)]) rfl (by decide) rfl d_X_text_258 ?_
        refine aw_iload_n rfl rfl d_X_text_259 ?_
        refine aw_iconst (v := nI 2) ci_2 d_X_text_260 ?_
        refine aw_aload_n rfl rfl d_X_text_261 ?_
        refine aw_geti fl_X_205 km_0 (by decide) rfl d_X_text_262 ?_
        refine aw_top (x2 := nI 0) (Eq.trans (congrFun (upd2_ne (by decide)) (11)) (Eq.trans (upd2_nx (by omega)) (Eq.trans (upd2_nx (by omega)) (Eq.trans (upd2_nx (by omega)) (Eq.trans (upd2_nx (by omega)) (Eq.trans (upd2_nx (by omega)) (upd2_eq))))))) ?_
        refine aw_imul d_X_text_265 ?_
        refine aw_top (x2 := nI 0) (by decide +kernel) ?_
        refine aw_icmp_geI (tgt := 297) (0) (0) (by decide +kernel) (by decide +kernel) (by decide) d_X_text_266 (fun _ => ?_) (fun q => absurd q (by decide))
        refine aw_aload_n rfl rfl d_X_text_297 ?_
        refine aw_geti fl_X_244 km_0 (by decide) rfl d_X_text_298 ?_
        refine aw_top (x2 := nI 0) (Eq.trans (congrFun (upd2_ne (by decide)) (10)) (Eq.trans (upd2_nx (by omega)) (Eq.trans (upd2_nx (by omega)) (Eq.trans (upd2_nx (by omega)) (Eq.trans (upd2_nx (by omega)) (Eq.trans (upd2_nx (by omega)) (Eq.trans (upd2_nx (by omega)) (upd2_eq)))))))) ?_
        exact as_reti rfl d_X_text_301 (hg (by omega) _)
set_option maxRecDepth 20000 in
theorem ms_fault {K2 : K2T} {I : Nat → Nat → Int32} (hR : FRm I) {x : Int32} (hg : x.toInt = 0 → ∀ I', K2 (some (.int (nI 0))) I') (hb : ¬ (x.toInt = 0) → ∀ I', K2 (some (.int (-1))) I') : Ss l b 14 y_X_fault KM RM [.ref 0, .int (x)] (I) K2 := by
  obtain ⟨hF, w0, w2, w3, w5, w6, w7, w73, w74, wh, w110, o3, o12, o19, o21, o22, o23, o35⟩ := hR
  have hF0 := hF
  obtain ⟨g0, g1, g2, g3, g4, g5, g6, g7, g8, g9, g10, g11, g12, gb⟩ := hF
  refine Ss.of (show As l b 14 y_X_fault KM RM K2 (I) 0 [.ref 0, .int (x)] [] from ?_)
  refine aw_iload_n rfl rfl d_X_fault_0 ?_
  refine aw_if_neI (tgt := 11) (x).toInt rfl (by decide) d_X_fault_1 (fun c1 => ?_) (fun c1 => ?_)
  · refine aw_iload_n rfl rfl d_X_fault_11 ?_
    refine aw_iconst (v := nI 1) ci_1 d_X_fault_12 ?_
    refine aw_icmp_neI (tgt := 23) (x).toInt (1) rfl (by decide +kernel) (by decide) d_X_fault_13 (fun c2 => ?_) (fun c2 => ?_)
    · refine aw_iconst (v := (-1 : Int32)) rfl d_X_fault_23 ?_
      exact as_reti rfl d_X_fault_24 (hb (by omega) _)
    · refine aw_aload_n rfl rfl d_X_fault_16 ?_
      refine aw_geti fl_X_34 km_0 (by decide) rfl d_X_fault_17 ?_
      refine aw_top (x2 := (-1 : Int32)) (o21) ?_
      refine aw_goto (tgt := 24) (by decide) d_X_fault_20 ?_
      exact as_reti rfl d_X_fault_24 (hb (by omega) _)
  · refine aw_aload_n rfl rfl d_X_fault_4 ?_
    refine aw_geti fl_X_247 km_0 (by decide) rfl d_X_fault_5 ?_
    refine aw_top (x2 := nI 0) (o19) ?_
    refine aw_goto (tgt := 24) (by decide) d_X_fault_8 ?_
    exact as_reti rfl d_X_fault_24 (hg (by omega) _)
set_option maxRecDepth 20000 in
theorem ms_come {K2 : K2T} {I : Nat → Nat → Int32} (hR : FRm I) {x z u : Int32} (hg : 1 ≤ x.toInt ∧ x.toInt ≤ 8 ∧ 1 ≤ z.toInt ∧ z.toInt ≤ x.toInt ∧ 0 ≤ u.toInt ∧ u.toInt ≤ 3 → ∀ I', K2 (some (.int (nI 0))) I') (hb : ¬ (1 ≤ x.toInt ∧ x.toInt ≤ 8 ∧ 1 ≤ z.toInt ∧ z.toInt ≤ x.toInt ∧ 0 ≤ u.toInt ∧ u.toInt ≤ 3) → ∀ I', K2 (some (.int (-2))) I') : Ss l b 14 y_X_come KM RM [.ref 0, .int (x), .int (z), .int (u)] (I) K2 := by
  obtain ⟨hF, w0, w2, w3, w5, w6, w7, w73, w74, wh, w110, o3, o12, o19, o21, o22, o23, o35⟩ := hR
  have hF0 := hF
  obtain ⟨g0, g1, g2, g3, g4, g5, g6, g7, g8, g9, g10, g11, g12, gb⟩ := hF
  refine Ss.of (show As l b 14 y_X_come KM RM K2 (I) 0 [.ref 0, .int (x), .int (z), .int (u)] [] from ?_)
  refine aw_iload_n rfl rfl d_X_come_0 ?_
  refine aw_iload_n rfl rfl d_X_come_1 ?_
  refine aw_iload_n rfl rfl d_X_come_2 ?_
  refine as_callS (as := [.int (x), .int (z), .int (u)]) (d' := 13) mo_X_isGroup lk_X_109 rfl ⟨by decide, by decide⟩ rfl rfl (by decide) d_X_come_3 (Ss.of (show As l b 13 y_X_isGroup KM RM _ (I) 0 [.int (x), .int (z), .int (u)] [] from ?_))
  refine aw_iload_n rfl rfl d_X_isGroup_0 ?_
  refine aw_iconst (v := nI 1) ci_1 d_X_isGroup_1 ?_
  refine aw_bipush (v := nI 8) cb_8 d_X_isGroup_2 ?_
  refine as_callS (as := [.int (x), .int (nI 1), .int (nI 8)]) (d' := 12) mo_X_isIn lk_X_98 rfl ⟨by decide, by decide⟩ rfl rfl (by decide) d_X_isGroup_4 (Ss.of (show As l b 12 y_X_isIn KM RM _ (I) 0 [.int (x), .int (nI 1), .int (nI 8)] [] from ?_))
  refine aw_iload_n rfl rfl d_X_isIn_0 ?_
  refine aw_iload_n rfl rfl d_X_isIn_1 ?_
  refine aw_icmp_ltI (tgt := 14) (x).toInt (1) rfl (by decide +kernel) (by decide) d_X_isIn_2 (fun c1 => ?_) (fun c1 => ?_)
  · refine aw_iconst (v := nI 0) ci_0 d_X_isIn_14 ?_
    refine as_retz rfl (by decide +kernel) d_X_isIn_15 ?_
    refine (show As l b 13 y_X_isGroup KM RM _ (I) 7 [.int (x), .int (z), .int (u)] [.int (nI 0)] from ?_)
    refine aw_if_eqI (tgt := 32) (0) (by decide +kernel) (by decide) d_X_isGroup_7 (fun _ => ?_) (fun q => absurd q (by decide))
    refine aw_iconst (v := nI 0) ci_0 d_X_isGroup_32 ?_
    refine as_retz rfl (by decide +kernel) d_X_isGroup_33 ?_
    refine (show As l b 14 y_X_come KM RM K2 (I) 6 [.ref 0, .int (x), .int (z), .int (u)] [.int (nI 0)] from ?_)
    refine aw_if_eqI (tgt := 19) (0) (by decide +kernel) (by decide) d_X_come_6 (fun _ => ?_) (fun q => absurd q (by decide))
    refine aw_bipush (v := (-2 : Int32)) rfl d_X_come_19 ?_
    exact as_reti rfl d_X_come_21 (hb (by omega) _)
  · refine aw_iload_n rfl rfl d_X_isIn_5 ?_
    refine aw_iload_n rfl rfl d_X_isIn_6 ?_
    refine aw_icmp_gtI (tgt := 14) (x).toInt (8) rfl (by decide +kernel) (by decide) d_X_isIn_7 (fun c2 => ?_) (fun c2 => ?_)
    · refine aw_iconst (v := nI 0) ci_0 d_X_isIn_14 ?_
      refine as_retz rfl (by decide +kernel) d_X_isIn_15 ?_
      refine (show As l b 13 y_X_isGroup KM RM _ (I) 7 [.int (x), .int (z), .int (u)] [.int (nI 0)] from ?_)
      refine aw_if_eqI (tgt := 32) (0) (by decide +kernel) (by decide) d_X_isGroup_7 (fun _ => ?_) (fun q => absurd q (by decide))
      refine aw_iconst (v := nI 0) ci_0 d_X_isGroup_32 ?_
      refine as_retz rfl (by decide +kernel) d_X_isGroup_33 ?_
      refine (show As l b 14 y_X_come KM RM K2 (I) 6 [.ref 0, .int (x), .int (z), .int (u)] [.int (nI 0)] from ?_)
      refine aw_if_eqI (tgt := 19) (0) (by decide +kernel) (by decide) d_X_come_6 (fun _ => ?_) (fun q => absurd q (by decide))
      refine aw_bipush (v := (-2 : Int32)) rfl d_X_come_19 ?_
      exact as_reti rfl d_X_come_21 (hb (by omega) _)
    · refine aw_iconst (v := nI 1) ci_1 d_X_isIn_10 ?_
      refine aw_goto (tgt := 15) (by decide) d_X_isIn_11 ?_
      refine as_retz rfl (by decide +kernel) d_X_isIn_15 ?_
      refine (show As l b 13 y_X_isGroup KM RM _ (I) 7 [.int (x), .int (z), .int (u)] [.int (nI 1)] from ?_)
      refine aw_if_eqI (tgt := 32) (1) (by decide +kernel) (by decide) d_X_isGroup_7 (fun q => absurd q (by decide)) (fun _ => ?_)
      refine aw_iload_n rfl rfl d_X_isGroup_10 ?_
      refine aw_iconst (v := nI 1) ci_1 d_X_isGroup_11 ?_
      refine aw_iload_n rfl rfl d_X_isGroup_12 ?_
      refine as_callS (as := [.int (z), .int (nI 1), .int (x)]) (d' := 12) mo_X_isIn lk_X_98 rfl ⟨by decide, by decide⟩ rfl rfl (by decide) d_X_isGroup_13 (Ss.of (show As l b 12 y_X_isIn KM RM _ (I) 0 [.int (z), .int (nI 1), .int (x)] [] from ?_))
      refine aw_iload_n rfl rfl d_X_isIn_0 ?_
      refine aw_iload_n rfl rfl d_X_isIn_1 ?_
      refine aw_icmp_ltI (tgt := 14) (z).toInt (1) rfl (by decide +kernel) (by decide) d_X_isIn_2 (fun c3 => ?_) (fun c3 => ?_)
      · refine aw_iconst (v := nI 0) ci_0 d_X_isIn_14 ?_
        refine as_retz rfl (by decide +kernel) d_X_isIn_15 ?_
        refine (show As l b 13 y_X_isGroup KM RM _ (I) 16 [.int (x), .int (z), .int (u)] [.int (nI 0)] from ?_)
        refine aw_if_eqI (tgt := 32) (0) (by decide +kernel) (by decide) d_X_isGroup_16 (fun _ => ?_) (fun q => absurd q (by decide))
        refine aw_iconst (v := nI 0) ci_0 d_X_isGroup_32 ?_
        refine as_retz rfl (by decide +kernel) d_X_isGroup_33 ?_
        refine (show As l b 14 y_X_come KM RM K2 (I) 6 [.ref 0, .int (x), .int (z), .int (u)] [.int (nI 0)] from ?_)
        refine aw_if_eqI (tgt := 19) (0) (by decide +kernel) (by decide) d_X_come_6 (fun _ => ?_) (fun q => absurd q (by decide))
        refine aw_bipush (v := (-2 : Int32)) rfl d_X_come_19 ?_
        exact as_reti rfl d_X_come_21 (hb (by omega) _)
      · refine aw_iload_n rfl rfl d_X_isIn_5 ?_
        refine aw_iload_n rfl rfl d_X_isIn_6 ?_
        refine aw_icmp_gtI (tgt := 14) (z).toInt (x).toInt rfl rfl (by decide) d_X_isIn_7 (fun c4 => ?_) (fun c4 => ?_)
        · refine aw_iconst (v := nI 0) ci_0 d_X_isIn_14 ?_
          refine as_retz rfl (by decide +kernel) d_X_isIn_15 ?_
          refine (show As l b 13 y_X_isGroup KM RM _ (I) 16 [.int (x), .int (z), .int (u)] [.int (nI 0)] from ?_)
          refine aw_if_eqI (tgt := 32) (0) (by decide +kernel) (by decide) d_X_isGroup_16 (fun _ => ?_) (fun q => absurd q (by decide))
          refine aw_iconst (v := nI 0) ci_0 d_X_isGroup_32 ?_
          refine as_retz rfl (by decide +kernel) d_X_isGroup_33 ?_
          refine (show As l b 14 y_X_come KM RM K2 (I) 6 [.ref 0, .int (x), .int (z), .int (u)] [.int (nI 0)] from ?_)
          refine aw_if_eqI (tgt := 19) (0) (by decide +kernel) (by decide) d_X_come_6 (fun _ => ?_) (fun q => absurd q (by decide))
          refine aw_bipush (v := (-2 : Int32)) rfl d_X_come_19 ?_
          exact as_reti rfl d_X_come_21 (hb (by omega) _)
        · refine aw_iconst (v := nI 1) ci_1 d_X_isIn_10 ?_
          refine aw_goto (tgt := 15) (by decide) d_X_isIn_11 ?_
          refine as_retz rfl (by decide +kernel) d_X_isIn_15 ?_
          refine (show As l b 13 y_X_isGroup KM RM _ (I) 16 [.int (x), .int (z), .int (u)] [.int (nI 1)] from ?_)
          refine aw_if_eqI (tgt := 32) (1) (by decide +kernel) (by decide) d_X_isGroup_16 (fun q => absurd q (by decide)) (fun _ => ?_)
          refine aw_iload_n rfl rfl d_X_isGroup_19 ?_
          refine aw_iconst (v := nI 0) ci_0 d_X_isGroup_20 ?_
          refine aw_iconst (v := nI 3) ci_3 d_X_isGroup_21 ?_
          refine as_callS (as := [.int (u), .int (nI 0), .int (nI 3)]) (d' := 12) mo_X_isIn lk_X_98 rfl ⟨by decide, by decide⟩ rfl rfl (by decide) d_X_isGroup_22 (Ss.of (show As l b 12 y_X_isIn KM RM _ (I) 0 [.int (u), .int (nI 0), .int (nI 3)] [] from ?_))
          refine aw_iload_n rfl rfl d_X_isIn_0 ?_
          refine aw_iload_n rfl rfl d_X_isIn_1 ?_
          refine aw_icmp_ltI (tgt := 14) (u).toInt (0) rfl (by decide +kernel) (by decide) d_X_isIn_2 (fun c5 => ?_) (fun c5 => ?_)
          · refine aw_iconst (v := nI 0) ci_0 d_X_isIn_14 ?_
            refine as_retz rfl (by decide +kernel) d_X_isIn_15 ?_
            refine (show As l b 13 y_X_isGroup KM RM _ (I) 25 [.int (x), .int (z), .int (u)] [.int (nI 0)] from ?_)
            refine aw_if_eqI (tgt := 32) (0) (by decide +kernel) (by decide) d_X_isGroup_25 (fun _ => ?_) (fun q => absurd q (by decide))
            refine aw_iconst (v := nI 0) ci_0 d_X_isGroup_32 ?_
            refine as_retz rfl (by decide +kernel) d_X_isGroup_33 ?_
            refine (show As l b 14 y_X_come KM RM K2 (I) 6 [.ref 0, .int (x), .int (z), .int (u)] [.int (nI 0)] from ?_)
            refine aw_if_eqI (tgt := 19) (0) (by decide +kernel) (by decide) d_X_come_6 (fun _ => ?_) (fun q => absurd q (by decide))
            refine aw_bipush (v := (-2 : Int32)) rfl d_X_come_19 ?_
            exact as_reti rfl d_X_come_21 (hb (by omega) _)
          · refine aw_iload_n rfl rfl d_X_isIn_5 ?_
            refine aw_iload_n rfl rfl d_X_isIn_6 ?_
            refine aw_icmp_gtI (tgt := 14) (u).toInt (3) rfl (by decide +kernel) (by decide) d_X_isIn_7 (fun c6 => ?_) (fun c6 => ?_)
            · refine aw_iconst (v := nI 0) ci_0 d_X_isIn_14 ?_
              refine as_retz rfl (by decide +kernel) d_X_isIn_15 ?_
              refine (show As l b 13 y_X_isGroup KM RM _ (I) 25 [.int (x), .int (z), .int (u)] [.int (nI 0)] from ?_)
              refine aw_if_eqI (tgt := 32) (0) (by decide +kernel) (by decide) d_X_isGroup_25 (fun _ => ?_) (fun q => absurd q (by decide))
              refine aw_iconst (v := nI 0) ci_0 d_X_isGroup_32 ?_
              refine as_retz rfl (by decide +kernel) d_X_isGroup_33 ?_
              refine (show As l b 14 y_X_come KM RM K2 (I) 6 [.ref 0, .int (x), .int (z), .int (u)] [.int (nI 0)] from ?_)
              refine aw_if_eqI (tgt := 19) (0) (by decide +kernel) (by decide) d_X_come_6 (fun _ => ?_) (fun q => absurd q (by decide))
              refine aw_bipush (v := (-2 : Int32)) rfl d_X_come_19 ?_
              exact as_reti rfl d_X_come_21 (hb (by omega) _)
            · refine aw_iconst (v := nI 1) ci_1 d_X_isIn_10 ?_
              refine aw_goto (tgt := 15) (by decide) d_X_isIn_11 ?_
              refine as_retz rfl (by decide +kernel) d_X_isIn_15 ?_
              refine (show As l b 13 y_X_isGroup KM RM _ (I) 25 [.int (x), .int (z), .int (u)] [.int (nI 1)] from ?_)
              refine aw_if_eqI (tgt := 32) (1) (by decide +kernel) (by decide) d_X_isGroup_25 (fun q => absurd q (by decide)) (fun _ => ?_)
              refine aw_iconst (v := nI 1) ci_1 d_X_isGroup_28 ?_
              refine aw_goto (tgt := 33) (by decide) d_X_isGroup_29 ?_
              refine as_retz rfl (by decide +kernel) d_X_isGroup_33 ?_
              refine (show As l b 14 y_X_come KM RM K2 (I) 6 [.ref 0, .int (x), .int (z), .int (u)] [.int (nI 1)] from ?_)
              refine aw_if_eqI (tgt := 19) (1) (by decide +kernel) (by decide) d_X_come_6 (fun q => absurd q (by decide)) (fun _ => ?_)
              refine aw_aload_n rfl rfl d_X_come_9 ?_
              refine aw_iload_n rfl rfl d_X_come_10 ?_
              refine aw_iload_n rfl rfl d_X_come_11 ?_
              refine aw_iload_n rfl rfl d_X_come_12 ?_
              refine as_callV (as := [.int (x), .int (z), .int (u)]) (d' := 13) (q := ("SinglesUpModel", zT9, 51)) mo_X_comes lk_X_281 km_0 rfl rfl rfl ⟨by decide, by decide⟩ rfl rfl (by decide) d_X_come_13 (Ss.of (show As l b 13 y_X_comes KM RM _ (I) 0 [.ref 0, .int (x), .int (z), .int (u), uu] [] from ?_))
              refine aw_aload_n rfl rfl d_X_comes_0 ?_
              refine aw_iload_n rfl rfl d_X_comes_1 ?_
              refine aw_iload_n rfl rfl d_X_comes_2 ?_
              refine as_callV (as := [.int (z), .int (u)]) (d' := 12) (q := ("SinglesUpModel", zT9, 51)) mo_X_lineFor lk_X_274 km_0 rfl rfl rfl ⟨by decide, by decide⟩ rfl rfl (by decide) d_X_comes_3 (Ss.of (show As l b 12 y_X_lineFor KM RM _ (I) 0 [.ref 0, .int (z), .int (u), uu, uu] [] from ?_))
              refine aw_aload_n rfl rfl d_X_lineFor_0 ?_
              refine aw_geti fl_X_38 km_0 (by decide) rfl d_X_lineFor_1 ?_
              refine aw_top (x2 := (-1 : Int32)) (o22) ?_
              refine aw_iconst (v := (-1 : Int32)) rfl d_X_lineFor_4 ?_
              refine aw_icmp_eqI (tgt := 33) (-1) (-1) (by decide +kernel) (by decide +kernel) (by decide) d_X_lineFor_5 (fun _ => ?_) (fun q => absurd q (by decide))
              refine aw_iconst (v := nI 0) ci_0 d_X_lineFor_33 ?_
              refine aw_istore_n (lv2 := [.ref 0, .int (z), .int (u), .int (nI 0), uu]) rfl (by decide) rfl d_X_lineFor_34 ?_
              refine aw_iconst (v := nI 1) ci_1 d_X_lineFor_35 ?_
              refine aw_istore (lv2 := [.ref 0, .int (z), .int (u), .int (nI 0), .int (nI 1)]) (by decide) rfl d_X_lineFor_36 ?_
              refine aw_iload rfl d_X_lineFor_38 ?_
              refine aw_bipush (v := nI 6) cb_6 d_X_lineFor_40 ?_
              refine aw_icmp_geI (tgt := 82) (1) (6) (by decide +kernel) (by decide +kernel) (by decide) d_X_lineFor_42 (fun q => absurd q (by decide)) (fun _ => ?_)
              refine aw_aload_n rfl rfl d_X_lineFor_45 ?_
              refine aw_getr fl_X_7 km_0 (by decide) rfl rm_0_0 d_X_lineFor_46 ?_
              refine aw_sipush (v := nI 130) cs_130 d_X_lineFor_49 ?_
              refine aw_iload rfl d_X_lineFor_52 ?_
              refine aw_iadd d_X_lineFor_54 ?_
              refine aw_top (x2 := nI 131) (by decide +kernel) ?_
              refine aw_iald (j := 131) km_1 (vp_in_nI (by decide) (by decide)) (nI_clamp (by decide)) d_X_lineFor_55 ?_
              refine aw_top (x2 := nI 0) (g1 1 (by decide)) ?_
              refine aw_aload_n rfl rfl d_X_lineFor_56 ?_
              refine aw_getr fl_X_7 km_0 (by decide) rfl rm_0_0 d_X_lineFor_57 ?_
              refine aw_sipush (v := nI 130) cs_130 d_X_lineFor_60 ?_
              refine aw_iload_n rfl rfl d_X_lineFor_63 ?_
              refine aw_iadd d_X_lineFor_64 ?_
              refine aw_top (x2 := nI 130) (by decide +kernel) ?_
              refine aw_iald (j := 130) km_1 (vp_in_nI (by decide) (by decide)) (nI_clamp (by decide)) d_X_lineFor_65 ?_
              refine aw_top (x2 := nI 0) (g1 0 (by decide)) ?_
              refine aw_icmp_geI (tgt := 74) (0) (0) (by decide +kernel) (by decide +kernel) (by decide) d_X_lineFor_66 (fun _ => ?_) (fun q => absurd q (by decide))
              refine aw_iload_n rfl rfl d_X_lineFor_74 ?_
              refine aw_istore_n (lv2 := [.ref 0, .int (z), .int (u), .int (nI 0), .int (nI 1)]) rfl (by decide) rfl d_X_lineFor_75 ?_
              refine aw_iinc (v := nI 2) (lv2 := [.ref 0, .int (z), .int (u), .int (nI 0), .int (nI 2)]) rfl (by decide +kernel) (by decide) rfl d_X_lineFor_76 ?_
              refine aw_goto (tgt := 38) (by decide) d_X_lineFor_79 ?_
              refine aw_iload rfl d_X_lineFor_38 ?_
              refine aw_bipush (v := nI 6) cb_6 d_X_lineFor_40 ?_
              refine aw_icmp_geI (tgt := 82) (2) (6) (by decide +kernel) (by decide +kernel) (by decide) d_X_lineFor_42 (fun q => absurd q (by decide)) (fun _ => ?_)
              refine aw_aload_n rfl rfl d_X_lineFor_45 ?_
              refine aw_getr fl_X_7 km_0 (by decide) rfl rm_0_0 d_X_lineFor_46 ?_
              refine aw_sipush (v := nI 130) cs_130 d_X_lineFor_49 ?_
              refine aw_iload rfl d_X_lineFor_52 ?_
              refine aw_iadd d_X_lineFor_54 ?_
              refine aw_top (x2 := nI 132) (by decide +kernel) ?_
              refine aw_iald (j := 132) km_1 (vp_in_nI (by decide) (by decide)) (nI_clamp (by decide)) d_X_lineFor_55 ?_
              refine aw_top (x2 := nI 0) (g1 2 (by decide)) ?_
              refine aw_aload_n rfl rfl d_X_lineFor_56 ?_
              refine aw_getr fl_X_7 km_0 (by decide) rfl rm_0_0 d_X_lineFor_57 ?_
              refine aw_sipush (v := nI 130) cs_130 d_X_lineFor_60 ?_
              refine aw_iload_n rfl rfl d_X_lineFor_63 ?_
              refine aw_iadd d_X_lineFor_64 ?_
              refine aw_top (x2 := nI 130) (by decide +kernel) ?_
              refine aw_iald (j := 130) km_1 (vp_in_nI (by decide) (by decide)) (nI_clamp (by decide)) d_X_lineFor_65 ?_
              refine aw_top (x2 := nI 0) (g1 0 (by decide)) ?_
              refine aw_icmp_geI (tgt := 74) (0) (0) (by decide +kernel) (by decide +kernel) (by decide) d_X_lineFor_66 (fun _ => ?_) (fun q => absurd q (by decide))
              refine aw_iload_n rfl rfl d_X_lineFor_74 ?_
              refine aw_istore_n (lv2 := [.ref 0, .int (z), .int (u), .int (nI 0), .int (nI 2)]) rfl (by decide) rfl d_X_lineFor_75 ?_
              refine aw_iinc (v := nI 3) (lv2 := [.ref 0, .int (z), .int (u), .int (nI 0), .int (nI 3)]) rfl (by decide +kernel) (by decide) rfl d_X_lineFor_76 ?_
              refine aw_goto (tgt := 38) (by decide) d_X_lineFor_79 ?_
              refine aw_iload rfl d_X_lineFor_38 ?_
              refine aw_bipush (v := nI 6) cb_6 d_X_lineFor_40 ?_
              refine aw_icmp_geI (tgt := 82) (3) (6) (by decide +kernel) (by decide +kernel) (by decide) d_X_lineFor_42 (fun q => absurd q (by decide)) (fun _ => ?_)
              refine aw_aload_n rfl rfl d_X_lineFor_45 ?_
              refine aw_getr fl_X_7 km_0 (by decide) rfl rm_0_0 d_X_lineFor_46 ?_
              refine aw_sipush (v := nI 130) cs_130 d_X_lineFor_49 ?_
              refine aw_iload rfl d_X_lineFor_52 ?_
              refine aw_iadd d_X_lineFor_54 ?_
              refine aw_top (x2 := nI 133) (by decide +kernel) ?_
              refine aw_iald (j := 133) km_1 (vp_in_nI (by decide) (by decide)) (nI_clamp (by decide)) d_X_lineFor_55 ?_
              refine aw_top (x2 := nI 0) (g1 3 (by decide)) ?_
              refine aw_aload_n rfl rfl d_X_lineFor_56 ?_
              refine aw_getr fl_X_7 km_0 (by decide) rfl rm_0_0 d_X_lineFor_57 ?_
              refine aw_sipush (v := nI 130) cs_130 d_X_lineFor_60 ?_
              refine aw_iload_n rfl rfl d_X_lineFor_63 ?_
              refine aw_iadd d_X_lineFor_64 ?_
              refine aw_top (x2 := nI 130) (by decide +kernel) ?_
              refine aw_iald (j := 130) km_1 (vp_in_nI (by decide) (by decide)) (nI_clamp (by decide)) d_X_lineFor_65 ?_
              refine aw_top (x2 := nI 0) (g1 0 (by decide)) ?_
              refine aw_icmp_geI (tgt := 74) (0) (0) (by decide +kernel) (by decide +kernel) (by decide) d_X_lineFor_66 (fun _ => ?_) (fun q => absurd q (by decide))
              refine aw_iload_n rfl rfl d_X_lineFor_74 ?_
              refine aw_istore_n (lv2 := [.ref 0, .int (z), .int (u), .int (nI 0), .int (nI 3)]) rfl (by decide) rfl d_X_lineFor_75 ?_
              refine aw_iinc (v := nI 4) (lv2 := [.ref 0, .int (z), .int (u), .int (nI 0), .int (nI 4)]) rfl (by decide +kernel) (by decide) rfl d_X_lineFor_76 ?_
              refine aw_goto (tgt := 38) (by decide) d_X_lineFor_79 ?_
              refine aw_iload rfl d_X_lineFor_38 ?_
              refine aw_bipush (v := nI 6) cb_6 d_X_lineFor_40 ?_
              refine aw_icmp_geI (tgt := 82) (4) (6) (by decide +kernel) (by decide +kernel) (by decide) d_X_lineFor_42 (fun q => absurd q (by decide)) (fun _ => ?_)
              refine aw_aload_n rfl rfl d_X_lineFor_45 ?_
              refine aw_getr fl_X_7 km_0 (by decide) rfl rm_0_0 d_X_lineFor_46 ?_
              refine aw_sipush (v := nI 130) cs_130 d_X_lineFor_49 ?_
              refine aw_iload rfl d_X_lineFor_52 ?_
              refine aw_iadd d_X_lineFor_54 ?_
              refine aw_top (x2 := nI 134) (by decide +kernel) ?_
              refine aw_iald (j := 134) km_1 (vp_in_nI (by decide) (by decide)) (nI_clamp (by decide)) d_X_lineFor_55 ?_
              refine aw_top (x2 := nI 0) (g1 4 (by decide)) ?_
              refine aw_aload_n rfl rfl d_X_lineFor_56 ?_
              refine aw_getr fl_X_7 km_0 (by decide) rfl rm_0_0 d_X_lineFor_57 ?_
              refine aw_sipush (v := nI 130) cs_130 d_X_lineFor_60 ?_
              refine aw_iload_n rfl rfl d_X_lineFor_63 ?_
              refine aw_iadd d_X_lineFor_64 ?_
              refine aw_top (x2 := nI 130) (by decide +kernel) ?_
              refine aw_iald (j := 130) km_1 (vp_in_nI (by decide) (by decide)) (nI_clamp (by decide)) d_X_lineFor_65 ?_
              refine aw_top (x2 := nI 0) (g1 0 (by decide)) ?_
              refine aw_icmp_geI (tgt := 74) (0) (0) (by decide +kernel) (by decide +kernel) (by decide) d_X_lineFor_66 (fun _ => ?_) (fun q => absurd q (by decide))
              refine aw_iload_n rfl rfl d_X_lineFor_74 ?_
              refine aw_istore_n (lv2 := [.ref 0, .int (z), .int (u), .int (nI 0), .int (nI 4)]) rfl (by decide) rfl d_X_lineFor_75 ?_
              refine aw_iinc (v := nI 5) (lv2 := [.ref 0, .int (z), .int (u), .int (nI 0), .int (nI 5)]) rfl (by decide +kernel) (by decide) rfl d_X_lineFor_76 ?_
              refine aw_goto (tgt := 38) (by decide) d_X_lineFor_79 ?_
              refine aw_iload rfl d_X_lineFor_38 ?_
              refine aw_bipush (v := nI 6) cb_6 d_X_lineFor_40 ?_
              refine aw_icmp_geI (tgt := 82) (5) (6) (by decide +kernel) (by decide +kernel) (by decide) d_X_lineFor_42 (fun q => absurd q (by decide)) (fun _ => ?_)
              refine aw_aload_n rfl rfl d_X_lineFor_45 ?_
              refine aw_getr fl_X_7 km_0 (by decide) rfl rm_0_0 d_X_lineFor_46 ?_
              refine aw_sipush (v := nI 130) cs_130 d_X_lineFor_49 ?_
              refine aw_iload rfl d_X_lineFor_52 ?_
              refine aw_iadd d_X_lineFor_54 ?_
              refine aw_top (x2 := nI 135) (by decide +kernel) ?_
              refine aw_iald (j := 135) km_1 (vp_in_nI (by decide) (by decide)) (nI_clamp (by decide)) d_X_lineFor_55 ?_
              refine aw_top (x2 := nI 0) (g1 5 (by decide)) ?_
              refine aw_aload_n rfl rfl d_X_lineFor_56 ?_
              refine aw_getr fl_X_7 km_0 (by decide) rfl rm_0_0 d_X_lineFor_57 ?_
              refine aw_sipush (v := nI 130) cs_130 d_X_lineFor_60 ?_
              refine aw_iload_n rfl rfl d_X_lineFor_63 ?_
              refine aw_iadd d_X_lineFor_64 ?_
              refine aw_top (x2 := nI 130) (by decide +kernel) ?_
              refine aw_iald (j := 130) km_1 (vp_in_nI (by decide) (by decide)) (nI_clamp (by decide)) d_X_lineFor_65 ?_
              refine aw_top (x2 := nI 0) (g1 0 (by decide)) ?_
              refine aw_icmp_geI (tgt := 74) (0) (0) (by decide +kernel) (by decide +kernel) (by decide) d_X_lineFor_66 (fun _ => ?_) (fun q => absurd q (by decide))
              refine aw_iload_n rfl rfl d_X_lineFor_74 ?_
              refine aw_istore_n (lv2 := [.ref 0, .int (z), .int (u), .int (nI 0), .int (nI 5)]) rfl (by decide) rfl d_X_lineFor_75 ?_
              refine aw_iinc (v := nI 6) (lv2 := [.ref 0, .int (z), .int (u), .int (nI 0), .int (nI 6)]) rfl (by decide +kernel) (by decide) rfl d_X_lineFor_76 ?_
              refine aw_goto (tgt := 38) (by decide) d_X_lineFor_79 ?_
              refine aw_iload rfl d_X_lineFor_38 ?_
              refine aw_bipush (v := nI 6) cb_6 d_X_lineFor_40 ?_
              refine aw_icmp_geI (tgt := 82) (6) (6) (by decide +kernel) (by decide +kernel) (by decide) d_X_lineFor_42 (fun _ => ?_) (fun q => absurd q (by decide))
              refine aw_aload_n rfl rfl d_X_lineFor_82 ?_
              refine aw_getr fl_X_31 km_0 (by decide) rfl rm_0_8 d_X_lineFor_83 ?_
              refine aw_iconst (v := nI 1) ci_1 d_X_lineFor_86 ?_
              refine aw_iload_n rfl rfl d_X_lineFor_87 ?_
              refine aw_iast (j := 1) km_8 (vp_in_nI (by decide) (by decide)) (nI_clamp (by decide)) d_X_lineFor_88 ?_
              refine aw_aload_n rfl rfl d_X_lineFor_89 ?_
              refine aw_getr fl_X_31 km_0 (by decide) rfl rm_0_8 d_X_lineFor_90 ?_
              refine aw_bipush (v := nI 7) cb_7 d_X_lineFor_93 ?_
              refine aw_iload_n rfl rfl d_X_lineFor_95 ?_
              refine aw_iast (j := 7) km_8 (vp_in_nI (by decide) (by decide)) (nI_clamp (by decide)) d_X_lineFor_96 ?_
              refine aw_aload_n rfl rfl d_X_lineFor_97 ?_
              refine aw_getr fl_X_31 km_0 (by decide) rfl rm_0_8 d_X_lineFor_98 ?_
              refine aw_bipush (v := nI 10) cb_10 d_X_lineFor_101 ?_
              refine aw_iload_n rfl rfl d_X_lineFor_103 ?_
              refine aw_iast (j := 10) km_8 (vp_in_nI (by decide) (by decide)) (nI_clamp (by decide)) d_X_lineFor_104 ?_
              refine aw_aload_n rfl rfl d_X_lineFor_105 ?_
              refine aw_getr fl_X_31 km_0 (by decide) rfl rm_0_8 d_X_lineFor_106 ?_
              refine aw_bipush (v := nI 11) cb_11 d_X_lineFor_109 ?_
              refine aw_aload_n rfl rfl d_X_lineFor_111 ?_
              refine aw_getr fl_X_7 km_0 (by decide) rfl rm_0_0 d_X_lineFor_112 ?_
              refine aw_sipush (v := nI 130) cs_130 d_X_lineFor_115 ?_
              refine aw_iald (j := 130) km_1 (vp_in_nI (by decide) (by decide)) (nI_clamp (by decide)) d_X_lineFor_118 ?_
              refine aw_top (x2 := nI 0) (Eq.trans (congrFun (upd2_ne (by decide)) (130)) (Eq.trans (congrFun (upd2_ne (by decide)) (130)) (Eq.trans (congrFun (upd2_ne (by decide)) (130)) (g1 0 (by decide))))) ?_
              refine aw_iast (j := 11) km_8 (vp_in_nI (by decide) (by decide)) (nI_clamp (by decide)) d_X_lineFor_119 ?_
              refine aw_aload_n rfl rfl d_X_lineFor_120 ?_
              refine aw_iconst (v := nI 4) ci_4 d_X_lineFor_121 ?_
              refine as_callV (as := [.int (nI 4)]) (d' := 11) (q := ("SinglesUpModel", zT9, 51)) mo_X_firstLine lk_X_267 km_0 rfl rfl rfl ⟨by decide, by decide⟩ rfl rfl (by decide) d_X_lineFor_122 (Ss.of (show As l b 11 y_X_firstLine KM RM _ (upd2 (upd2 (upd2 (upd2 I 8 (1) (z)) 8 (7) (u)) 8 (10) (nI 0)) 8 (11) (nI 0)) 0 [.ref 0, .int (nI 4), uu, uu] [] from ?_))
              refine aw_iconst (v := nI 0) ci_0 d_X_firstLine_0 ?_
              refine aw_istore_n (lv2 := [.ref 0, .int (nI 4), .int (nI 0), uu]) rfl (by decide) rfl d_X_firstLine_1 ?_
              refine aw_iload_n rfl rfl d_X_firstLine_2 ?_
              refine aw_aload_n rfl rfl d_X_firstLine_3 ?_
              refine aw_getr fl_X_7 km_0 (by decide) rfl rm_0_0 d_X_firstLine_4 ?_
              refine aw_sipush (v := nI 1580) cs_1580 d_X_firstLine_7 ?_
              refine aw_iload_n rfl rfl d_X_firstLine_10 ?_
              refine aw_iadd d_X_firstLine_11 ?_
              refine aw_top (x2 := nI 1584) (by decide +kernel) ?_
              refine aw_iald (j := 1584) km_1 (vp_in_nI (by decide) (by decide)) (nI_clamp (by decide)) d_X_firstLine_12 ?_
              refine aw_top (x2 := nI 0) (Eq.trans (congrFun (upd2_ne (by decide)) (1584)) (Eq.trans (congrFun (upd2_ne (by decide)) (1584)) (Eq.trans (congrFun (upd2_ne (by decide)) (1584)) (Eq.trans (congrFun (upd2_ne (by decide)) (1584)) (g11 4 (by decide)))))) ?_
              refine aw_icmp_geI (tgt := 83) (0) (0) (by decide +kernel) (by decide +kernel) (by decide) d_X_firstLine_13 (fun _ => ?_) (fun q => absurd q (by decide))
              refine aw_iconst (v := (-1 : Int32)) rfl d_X_firstLine_83 ?_
              refine as_reti rfl d_X_firstLine_84 ?_
              refine (show As l b 12 y_X_lineFor KM RM _ (upd2 (upd2 (upd2 (upd2 I 8 (1) (z)) 8 (7) (u)) 8 (10) (nI 0)) 8 (11) (nI 0)) 125 [.ref 0, .int (z), .int (u), .int (nI 0), .int (nI 6)] [.int ((-1 : Int32))] from ?_)
              refine aw_istore (lv2 := [.ref 0, .int (z), .int (u), .int (nI 0), .int ((-1 : Int32))]) (by decide) rfl d_X_lineFor_125 ?_
              refine aw_iload rfl d_X_lineFor_127 ?_
              refine aw_iconst (v := (-1 : Int32)) rfl d_X_lineFor_129 ?_
              refine aw_icmp_neI (tgt := 137) (-1) (-1) (by decide +kernel) (by decide +kernel) (by decide) d_X_lineFor_130 (fun q => absurd q (by decide)) (fun _ => ?_)
              refine aw_iconst (v := nI 0) ci_0 d_X_lineFor_133 ?_
              refine aw_goto (tgt := 148) (by decide) d_X_lineFor_134 ?_
              refine as_reti rfl d_X_lineFor_148 ?_
              refine (show As l b 13 y_X_comes KM RM _ (upd2 (upd2 (upd2 (upd2 I 8 (1) (z)) 8 (7) (u)) 8 (10) (nI 0)) 8 (11) (nI 0)) 6 [.ref 0, .int (x), .int (z), .int (u), uu] [.int (nI 0)] from ?_)
              refine aw_istore (lv2 := [.ref 0, .int (x), .int (z), .int (u), .int (nI 0)]) (by decide) rfl d_X_comes_6 ?_
              refine aw_aload_n rfl rfl d_X_comes_8 ?_
              refine aw_getr fl_X_7 km_0 (by decide) rfl rm_0_0 d_X_comes_9 ?_
              refine aw_bipush (v := nI 7) cb_7 d_X_comes_12 ?_
              refine aw_dup2 rfl rfl d_X_comes_14 ?_
              refine aw_iald (j := 7) km_1 (vp_in_nI (by decide) (by decide)) (nI_clamp (by decide)) d_X_comes_15 ?_
              refine aw_top (x2 := nI 0) (Eq.trans (congrFun (upd2_ne (by decide)) (7)) (Eq.trans (congrFun (upd2_ne (by decide)) (7)) (Eq.trans (congrFun (upd2_ne (by decide)) (7)) (Eq.trans (congrFun (upd2_ne (by decide)) (7)) (w7))))) ?_
              refine aw_iconst (v := nI 1) ci_1 d_X_comes_16 ?_
              refine aw_iadd d_X_comes_17 ?_
              refine aw_top (x2 := nI 1) (by decide +kernel) ?_
              refine aw_iast (j := 7) km_1 (vp_in_nI (by decide) (by decide)) (nI_clamp (by decide)) d_X_comes_18 ?_
              refine aw_aload_n rfl rfl d_X_comes_19 ?_
              refine aw_iload rfl d_X_comes_20 ?_
              refine aw_aload_n rfl rfl d_X_comes_22 ?_
              refine aw_getr fl_X_7 km_0 (by decide) rfl rm_0_0 d_X_comes_23 ?_
              refine aw_bipush (v := nI 7) cb_7 d_X_comes_26 ?_
              refine aw_iald (j := 7) km_1 (vp_in_nI (by decide) (by decide)) (nI_clamp (by decide)) d_X_comes_28 ?_
              refine aw_top (x2 := nI 1) (upd2_eq) ?_
              refine aw_iconst (v := nI 1) ci_1 d_X_comes_29 ?_
              refine aw_isub d_X_comes_30 ?_
              refine aw_top (x2 := nI 0) (by decide +kernel) ?_
              refine aw_iload_n rfl rfl d_X_comes_31 ?_
              refine aw_iload_n rfl rfl d_X_comes_32 ?_
              refine aw_iload_n rfl rfl d_X_comes_33 ?_
              refine aw_iconst (v := nI 0) ci_0 d_X_comes_34 ?_
              refine aw_iconst (v := nI 0) ci_0 d_X_comes_35 ?_
              refine as_callV (as := [.int (nI 0), .int (nI 0), .int (x), .int (z), .int (u), .int (nI 0), .int (nI 0)]) (d' := 12) (q := ("SinglesUpModel", zT9, 51)) mo_X_stands lk_X_277 km_0 rfl rfl rfl ⟨by decide, by decide⟩ rfl rfl (by decide) d_X_comes_36 (Ss.of (show As l b 12 y_X_stands KM RM _ (upd2 (upd2 (upd2 (upd2 (upd2 I 8 (1) (z)) 8 (7) (u)) 8 (10) (nI 0)) 8 (11) (nI 0)) 1 (7) (nI 1)) 0 [.ref 0, .int (nI 0), .int (nI 0), .int (x), .int (z), .int (u), .int (nI 0), .int (nI 0), uu] [] from ?_))
              refine aw_aload_n rfl rfl d_X_stands_0 ?_
              refine aw_getr fl_X_7 km_0 (by decide) rfl rm_0_0 d_X_stands_1 ?_
              refine aw_sipush (v := nI 130) cs_130 d_X_stands_4 ?_
              refine aw_iload_n rfl rfl d_X_stands_7 ?_
              refine aw_iadd d_X_stands_8 ?_
              refine aw_top (x2 := nI 130) (by decide +kernel) ?_
              refine aw_iald (j := 130) km_1 (vp_in_nI (by decide) (by decide)) (nI_clamp (by decide)) d_X_stands_9 ?_
              refine aw_top (x2 := nI 0) (Eq.trans (upd2_nx (by omega)) (Eq.trans (congrFun (upd2_ne (by decide)) (130)) (Eq.trans (congrFun (upd2_ne (by decide)) (130)) (Eq.trans (congrFun (upd2_ne (by decide)) (130)) (Eq.trans (congrFun (upd2_ne (by decide)) (130)) (g1 0 (by decide))))))) ?_
              refine aw_bipush (v := nI 40) cb_40 d_X_stands_10 ?_
              refine aw_icmp_neI (tgt := 52) (0) (40) (by decide +kernel) (by decide +kernel) (by decide) d_X_stands_12 (fun _ => ?_) (fun q => absurd q (by decide))
              refine aw_iload_n rfl rfl d_X_stands_52 ?_
              refine aw_aload_n rfl rfl d_X_stands_53 ?_
              refine aw_getr fl_X_7 km_0 (by decide) rfl rm_0_0 d_X_stands_54 ?_
              refine aw_sipush (v := nI 130) cs_130 d_X_stands_57 ?_
              refine aw_iload_n rfl rfl d_X_stands_60 ?_
              refine aw_iadd d_X_stands_61 ?_
              refine aw_top (x2 := nI 130) (by decide +kernel) ?_
              refine aw_iald (j := 130) km_1 (vp_in_nI (by decide) (by decide)) (nI_clamp (by decide)) d_X_stands_62 ?_
              refine aw_top (x2 := nI 0) (Eq.trans (upd2_nx (by omega)) (Eq.trans (congrFun (upd2_ne (by decide)) (130)) (Eq.trans (congrFun (upd2_ne (by decide)) (130)) (Eq.trans (congrFun (upd2_ne (by decide)) (130)) (Eq.trans (congrFun (upd2_ne (by decide)) (130)) (g1 0 (by decide))))))) ?_
              refine as_callS (as := [.int (nI 0), .int (nI 0)]) (d' := 11) mo_X_cell lk_X_260 rfl ⟨by decide, by decide⟩ rfl rfl (by decide) d_X_stands_63 (Ss.of (show As l b 11 y_X_cell KM RM _ (upd2 (upd2 (upd2 (upd2 (upd2 I 8 (1) (z)) 8 (7) (u)) 8 (10) (nI 0)) 8 (11) (nI 0)) 1 (7) (nI 1)) 0 [.int (nI 0), .int (nI 0)] [] from ?_))
              refine aw_sipush (v := nI 140) cs_140 d_X_cell_0 ?_
              refine aw_bipush (v := nI 6) cb_6 d_X_cell_3 ?_
              refine aw_bipush (v := nI 40) cb_40 d_X_cell_5 ?_
              refine aw_iload_n rfl rfl d_X_cell_7 ?_
              refine aw_imul d_X_cell_8 ?_
              refine aw_top (x2 := nI 0) (by decide +kernel) ?_
              refine aw_iload_n rfl rfl d_X_cell_9 ?_
              refine aw_iadd d_X_cell_10 ?_
              refine aw_top (x2 := nI 0) (by decide +kernel) ?_
              refine aw_imul d_X_cell_11 ?_
              refine aw_top (x2 := nI 0) (by decide +kernel) ?_
              refine aw_iadd d_X_cell_12 ?_
              refine aw_top (x2 := nI 140) (by decide +kernel) ?_
              refine as_reti rfl d_X_cell_13 ?_
              refine (show As l b 12 y_X_stands KM RM _ (upd2 (upd2 (upd2 (upd2 (upd2 I 8 (1) (z)) 8 (7) (u)) 8 (10) (nI 0)) 8 (11) (nI 0)) 1 (7) (nI 1)) 66 [.ref 0, .int (nI 0), .int (nI 0), .int (x), .int (z), .int (u), .int (nI 0), .int (nI 0), uu] [.int (nI 140)] from ?_)
              refine aw_istore (lv2 := [.ref 0, .int (nI 0), .int (nI 0), .int (x), .int (z), .int (u), .int (nI 0), .int (nI 0), .int (nI 140)]) (by decide) rfl d_X_stands_66 ?_
              refine aw_aload_n rfl rfl d_X_stands_68 ?_
              refine aw_getr fl_X_7 km_0 (by decide) rfl rm_0_0 d_X_stands_69 ?_
              refine aw_iload rfl d_X_stands_72 ?_
              refine aw_iconst (v := nI 0) ci_0 d_X_stands_74 ?_
              refine aw_iadd d_X_stands_75 ?_
              refine aw_top (x2 := nI 140) (by decide +kernel) ?_
              refine aw_iload_n rfl rfl d_X_stands_76 ?_
              refine aw_iast (j := 140) km_1 (vp_in_nI (by decide) (by decide)) (nI_clamp (by decide)) d_X_stands_77 ?_
              refine aw_aload_n rfl rfl d_X_stands_78 ?_
              refine aw_getr fl_X_7 km_0 (by decide) rfl rm_0_0 d_X_stands_79 ?_
              refine aw_iload rfl d_X_stands_82 ?_
              refine aw_iconst (v := nI 1) ci_1 d_X_stands_84 ?_
              refine aw_iadd d_X_stands_85 ?_
              refine aw_top (x2 := nI 141) (by decide +kernel) ?_
              refine aw_iload_n rfl rfl d_X_stands_86 ?_
              refine aw_iast (j := 141) km_1 (vp_in_nI (by decide) (by decide)) (nI_clamp (by decide)) d_X_stands_87 ?_
              refine aw_aload_n rfl rfl d_X_stands_88 ?_
              refine aw_getr fl_X_7 km_0 (by decide) rfl rm_0_0 d_X_stands_89 ?_
              refine aw_iload rfl d_X_stands_92 ?_
              refine aw_iconst (v := nI 2) ci_2 d_X_stands_94 ?_
              refine aw_iadd d_X_stands_95 ?_
              refine aw_top (x2 := nI 142) (by decide +kernel) ?_
              refine aw_iload rfl d_X_stands_96 ?_
              refine aw_iast (j := 142) km_1 (vp_in_nI (by decide) (by decide)) (nI_clamp (by decide)) d_X_stands_98 ?_
              refine aw_aload_n rfl rfl d_X_stands_99 ?_
              refine aw_getr fl_X_7 km_0 (by decide) rfl rm_0_0 d_X_stands_100 ?_
              refine aw_iload rfl d_X_stands_103 ?_
              refine aw_iconst (v := nI 3) ci_3 d_X_stands_105 ?_
              refine aw_iadd d_X_stands_106 ?_
              refine aw_top (x2 := nI 143) (by decide +kernel) ?_
              refine aw_iload rfl d_X_stands_107 ?_
              refine aw_iast (j := 143) km_1 (vp_in_nI (by decide) (by decide)) (nI_clamp (by decide)) d_X_stands_109 ?_
              refine aw_aload_n rfl rfl d_X_stands_110 ?_
              refine aw_getr fl_X_7 km_0 (by decide) rfl rm_0_0 d_X_stands_111 ?_
              refine aw_iload rfl d_X_stands_114 ?_
              refine aw_iconst (v := nI 4) ci_4 d_X_stands_116 ?_
              refine aw_iadd d_X_stands_117 ?_
              refine aw_top (x2 := nI 144) (by decide +kernel) ?_
              refine aw_iload rfl d_X_stands_118 ?_
              refine aw_iast (j := 144) km_1 (vp_in_nI (by decide) (by decide)) (nI_clamp (by decide)) d_X_stands_120 ?_
              refine aw_aload_n rfl rfl d_X_stands_121 ?_
              refine aw_getr fl_X_7 km_0 (by decide) rfl rm_0_0 d_X_stands_122 ?_
              refine aw_iload rfl d_X_stands_125 ?_
              refine aw_iconst (v := nI 5) ci_5 d_X_stands_127 ?_
              refine aw_iadd d_X_stands_128 ?_
              refine aw_top (x2 := nI 145) (by decide +kernel) ?_
              refine aw_iload rfl d_X_stands_129 ?_
              refine aw_iast (j := 145) km_1 (vp_in_nI (by decide) (by decide)) (nI_clamp (by decide)) d_X_stands_131 ?_
              refine aw_aload_n rfl rfl d_X_stands_132 ?_
              refine aw_getr fl_X_7 km_0 (by decide) rfl rm_0_0 d_X_stands_133 ?_
              refine aw_sipush (v := nI 130) cs_130 d_X_stands_136 ?_
              refine aw_iload_n rfl rfl d_X_stands_139 ?_
              refine aw_iadd d_X_stands_140 ?_
              refine aw_top (x2 := nI 130) (by decide +kernel) ?_
              refine aw_dup2 rfl rfl d_X_stands_141 ?_
              refine aw_iald (j := 130) km_1 (vp_in_nI (by decide) (by decide)) (nI_clamp (by decide)) d_X_stands_142 ?_
              refine aw_top (x2 := nI 0) (Eq.trans (upd2_nx (by omega)) (Eq.trans (upd2_nx (by omega)) (Eq.trans (upd2_nx (by omega)) (Eq.trans (upd2_nx (by omega)) (Eq.trans (upd2_nx (by omega)) (Eq.trans (upd2_nx (by omega)) (Eq.trans (upd2_nx (by omega)) (Eq.trans (congrFun (upd2_ne (by decide)) (130)) (Eq.trans (congrFun (upd2_ne (by decide)) (130)) (Eq.trans (congrFun (upd2_ne (by decide)) (130)) (Eq.trans (congrFun (upd2_ne (by decide)) (130)) (g1 0 (by decide))))))))))))) ?_
              refine aw_iconst (v := nI 1) ci_1 d_X_stands_143 ?_
              refine aw_iadd d_X_stands_144 ?_
              refine aw_top (x2 := nI 1) (by decide +kernel) ?_
              refine aw_iast (j := 130) km_1 (vp_in_nI (by decide) (by decide)) (nI_clamp (by decide)) d_X_stands_145 ?_
              refine aw_iconst (v := nI 1) ci_1 d_X_stands_146 ?_
              refine as_retz rfl (by decide +kernel) d_X_stands_147 ?_
              refine (show As l b 13 y_X_comes KM RM _ (upd2 (upd2 (upd2 (upd2 (upd2 (upd2 (upd2 (upd2 (upd2 (upd2 (upd2 (upd2 I 8 (1) (z)) 8 (7) (u)) 8 (10) (nI 0)) 8 (11) (nI 0)) 1 (7) (nI 1)) 1 (140) (nI 0)) 1 (141) (x)) 1 (142) (z)) 1 (143) (u)) 1 (144) (nI 0)) 1 (145) (nI 0)) 1 (130) (nI 1)) 39 [.ref 0, .int (x), .int (z), .int (u), .int (nI 0)] [.int (nI 1)] from ?_)
              refine aw_if_eqI (tgt := 47) (1) (by decide +kernel) (by decide) d_X_comes_39 (fun q => absurd q (by decide)) (fun _ => ?_)
              refine aw_iload rfl d_X_comes_42 ?_
              refine aw_goto (tgt := 48) (by decide) d_X_comes_44 ?_
              refine as_reti rfl d_X_comes_48 ?_
              refine (show As l b 14 y_X_come KM RM K2 (upd2 (upd2 (upd2 (upd2 (upd2 (upd2 (upd2 (upd2 (upd2 (upd2 (upd2 (upd2 I 8 (1) (z)) 8 (7) (u)) 8 (10) (nI 0)) 8 (11) (nI 0)) 1 (7) (nI 1)) 1 (140) (nI 0)) 1 (141) (x)) 1 (142) (z)) 1 (143) (u)) 1 (144) (nI 0)) 1 (145) (nI 0)) 1 (130) (nI 1)) 16 [.ref 0, .int (x), .int (z), .int (u)] [.int (nI 0)] from ?_)
              refine aw_goto (tgt := 21) (by decide) d_X_come_16 ?_
              exact as_reti rfl d_X_come_21 (hg (by omega) _)
set_option maxRecDepth 20000 in
theorem ms_group {K2 : K2T} {I : Nat → Nat → Int32} (hR : FRm I) {x z u : Int32} (hg : 0 ≤ x.toInt ∧ x.toInt < 6 ∧ 0 ≤ z.toInt ∧ z.toInt < 40 ∧ 0 ≤ u.toInt ∧ u.toInt ≤ 6 → ∀ I', K2 (some (.int (-1))) I') (hb : ¬ (0 ≤ x.toInt ∧ x.toInt < 6 ∧ 0 ≤ z.toInt ∧ z.toInt < 40 ∧ 0 ≤ u.toInt ∧ u.toInt ≤ 6) → ∀ I', K2 (some (.int (-1000000))) I') : Ss l b 14 y_X_group KM RM [.ref 0, .int (x), .int (z), .int (u)] (I) K2 := by
  obtain ⟨hF, w0, w2, w3, w5, w6, w7, w73, w74, wh, w110, o3, o12, o19, o21, o22, o23, o35⟩ := hR
  have hF0 := hF
  obtain ⟨g0, g1, g2, g3, g4, g5, g6, g7, g8, g9, g10, g11, g12, gb⟩ := hF
  refine Ss.of (show As l b 14 y_X_group KM RM K2 (I) 0 [.ref 0, .int (x), .int (z), .int (u)] [] from ?_)
  refine aw_iload_n rfl rfl d_X_group_0 ?_
  refine as_callS (as := [.int (x)]) (d' := 13) mo_X_isLine lk_X_105 rfl ⟨by decide, by decide⟩ rfl rfl (by decide) d_X_group_1 (Ss.of (show As l b 13 y_X_isLine KM RM _ (I) 0 [.int (x)] [] from ?_))
  refine aw_iload_n rfl rfl d_X_isLine_0 ?_
  refine aw_iconst (v := nI 0) ci_0 d_X_isLine_1 ?_
  refine aw_iconst (v := nI 5) ci_5 d_X_isLine_2 ?_
  refine as_callS (as := [.int (x), .int (nI 0), .int (nI 5)]) (d' := 12) mo_X_isIn lk_X_98 rfl ⟨by decide, by decide⟩ rfl rfl (by decide) d_X_isLine_3 (Ss.of (show As l b 12 y_X_isIn KM RM _ (I) 0 [.int (x), .int (nI 0), .int (nI 5)] [] from ?_))
  refine aw_iload_n rfl rfl d_X_isIn_0 ?_
  refine aw_iload_n rfl rfl d_X_isIn_1 ?_
  refine aw_icmp_ltI (tgt := 14) (x).toInt (0) rfl (by decide +kernel) (by decide) d_X_isIn_2 (fun c1 => ?_) (fun c1 => ?_)
  · refine aw_iconst (v := nI 0) ci_0 d_X_isIn_14 ?_
    refine as_retz rfl (by decide +kernel) d_X_isIn_15 ?_
    refine (show As l b 13 y_X_isLine KM RM _ (I) 6 [.int (x)] [.int (nI 0)] from ?_)
    refine as_retz rfl (by decide +kernel) d_X_isLine_6 ?_
    refine (show As l b 14 y_X_group KM RM K2 (I) 4 [.ref 0, .int (x), .int (z), .int (u)] [.int (nI 0)] from ?_)
    refine aw_if_eqI (tgt := 27) (0) (by decide +kernel) (by decide) d_X_group_4 (fun _ => ?_) (fun q => absurd q (by decide))
    refine aw_ldc_w (v := -1000000) lc_X_284 d_X_group_27 ?_
    refine aw_top (x2 := (-1000000 : Int32)) (by decide +kernel) ?_
    exact as_reti rfl d_X_group_30 (hb (by omega) _)
  · refine aw_iload_n rfl rfl d_X_isIn_5 ?_
    refine aw_iload_n rfl rfl d_X_isIn_6 ?_
    refine aw_icmp_gtI (tgt := 14) (x).toInt (5) rfl (by decide +kernel) (by decide) d_X_isIn_7 (fun c2 => ?_) (fun c2 => ?_)
    · refine aw_iconst (v := nI 0) ci_0 d_X_isIn_14 ?_
      refine as_retz rfl (by decide +kernel) d_X_isIn_15 ?_
      refine (show As l b 13 y_X_isLine KM RM _ (I) 6 [.int (x)] [.int (nI 0)] from ?_)
      refine as_retz rfl (by decide +kernel) d_X_isLine_6 ?_
      refine (show As l b 14 y_X_group KM RM K2 (I) 4 [.ref 0, .int (x), .int (z), .int (u)] [.int (nI 0)] from ?_)
      refine aw_if_eqI (tgt := 27) (0) (by decide +kernel) (by decide) d_X_group_4 (fun _ => ?_) (fun q => absurd q (by decide))
      refine aw_ldc_w (v := -1000000) lc_X_284 d_X_group_27 ?_
      refine aw_top (x2 := (-1000000 : Int32)) (by decide +kernel) ?_
      exact as_reti rfl d_X_group_30 (hb (by omega) _)
    · refine aw_iconst (v := nI 1) ci_1 d_X_isIn_10 ?_
      refine aw_goto (tgt := 15) (by decide) d_X_isIn_11 ?_
      refine as_retz rfl (by decide +kernel) d_X_isIn_15 ?_
      refine (show As l b 13 y_X_isLine KM RM _ (I) 6 [.int (x)] [.int (nI 1)] from ?_)
      refine as_retz rfl (by decide +kernel) d_X_isLine_6 ?_
      refine (show As l b 14 y_X_group KM RM K2 (I) 4 [.ref 0, .int (x), .int (z), .int (u)] [.int (nI 1)] from ?_)
      refine aw_if_eqI (tgt := 27) (1) (by decide +kernel) (by decide) d_X_group_4 (fun q => absurd q (by decide)) (fun _ => ?_)
      refine aw_iload_n rfl rfl d_X_group_7 ?_
      refine aw_iconst (v := nI 0) ci_0 d_X_group_8 ?_
      refine aw_bipush (v := nI 39) cb_39 d_X_group_9 ?_
      refine as_callS (as := [.int (z), .int (nI 0), .int (nI 39)]) (d' := 13) mo_X_isIn lk_X_98 rfl ⟨by decide, by decide⟩ rfl rfl (by decide) d_X_group_11 (Ss.of (show As l b 13 y_X_isIn KM RM _ (I) 0 [.int (z), .int (nI 0), .int (nI 39)] [] from ?_))
      refine aw_iload_n rfl rfl d_X_isIn_0 ?_
      refine aw_iload_n rfl rfl d_X_isIn_1 ?_
      refine aw_icmp_ltI (tgt := 14) (z).toInt (0) rfl (by decide +kernel) (by decide) d_X_isIn_2 (fun c3 => ?_) (fun c3 => ?_)
      · refine aw_iconst (v := nI 0) ci_0 d_X_isIn_14 ?_
        refine as_retz rfl (by decide +kernel) d_X_isIn_15 ?_
        refine (show As l b 14 y_X_group KM RM K2 (I) 14 [.ref 0, .int (x), .int (z), .int (u)] [.int (nI 0)] from ?_)
        refine aw_if_eqI (tgt := 27) (0) (by decide +kernel) (by decide) d_X_group_14 (fun _ => ?_) (fun q => absurd q (by decide))
        refine aw_ldc_w (v := -1000000) lc_X_284 d_X_group_27 ?_
        refine aw_top (x2 := (-1000000 : Int32)) (by decide +kernel) ?_
        exact as_reti rfl d_X_group_30 (hb (by omega) _)
      · refine aw_iload_n rfl rfl d_X_isIn_5 ?_
        refine aw_iload_n rfl rfl d_X_isIn_6 ?_
        refine aw_icmp_gtI (tgt := 14) (z).toInt (39) rfl (by decide +kernel) (by decide) d_X_isIn_7 (fun c4 => ?_) (fun c4 => ?_)
        · refine aw_iconst (v := nI 0) ci_0 d_X_isIn_14 ?_
          refine as_retz rfl (by decide +kernel) d_X_isIn_15 ?_
          refine (show As l b 14 y_X_group KM RM K2 (I) 14 [.ref 0, .int (x), .int (z), .int (u)] [.int (nI 0)] from ?_)
          refine aw_if_eqI (tgt := 27) (0) (by decide +kernel) (by decide) d_X_group_14 (fun _ => ?_) (fun q => absurd q (by decide))
          refine aw_ldc_w (v := -1000000) lc_X_284 d_X_group_27 ?_
          refine aw_top (x2 := (-1000000 : Int32)) (by decide +kernel) ?_
          exact as_reti rfl d_X_group_30 (hb (by omega) _)
        · refine aw_iconst (v := nI 1) ci_1 d_X_isIn_10 ?_
          refine aw_goto (tgt := 15) (by decide) d_X_isIn_11 ?_
          refine as_retz rfl (by decide +kernel) d_X_isIn_15 ?_
          refine (show As l b 14 y_X_group KM RM K2 (I) 14 [.ref 0, .int (x), .int (z), .int (u)] [.int (nI 1)] from ?_)
          refine aw_if_eqI (tgt := 27) (1) (by decide +kernel) (by decide) d_X_group_14 (fun q => absurd q (by decide)) (fun _ => ?_)
          refine aw_iload_n rfl rfl d_X_group_17 ?_
          refine aw_iconst (v := nI 0) ci_0 d_X_group_18 ?_
          refine aw_bipush (v := nI 6) cb_6 d_X_group_19 ?_
          refine as_callS (as := [.int (u), .int (nI 0), .int (nI 6)]) (d' := 13) mo_X_isIn lk_X_98 rfl ⟨by decide, by decide⟩ rfl rfl (by decide) d_X_group_21 (Ss.of (show As l b 13 y_X_isIn KM RM _ (I) 0 [.int (u), .int (nI 0), .int (nI 6)] [] from ?_))
          refine aw_iload_n rfl rfl d_X_isIn_0 ?_
          refine aw_iload_n rfl rfl d_X_isIn_1 ?_
          refine aw_icmp_ltI (tgt := 14) (u).toInt (0) rfl (by decide +kernel) (by decide) d_X_isIn_2 (fun c5 => ?_) (fun c5 => ?_)
          · refine aw_iconst (v := nI 0) ci_0 d_X_isIn_14 ?_
            refine as_retz rfl (by decide +kernel) d_X_isIn_15 ?_
            refine (show As l b 14 y_X_group KM RM K2 (I) 24 [.ref 0, .int (x), .int (z), .int (u)] [.int (nI 0)] from ?_)
            refine aw_if_neI (tgt := 31) (0) (by decide +kernel) (by decide) d_X_group_24 (fun q => absurd q (by decide)) (fun _ => ?_)
            refine aw_ldc_w (v := -1000000) lc_X_284 d_X_group_27 ?_
            refine aw_top (x2 := (-1000000 : Int32)) (by decide +kernel) ?_
            exact as_reti rfl d_X_group_30 (hb (by omega) _)
          · refine aw_iload_n rfl rfl d_X_isIn_5 ?_
            refine aw_iload_n rfl rfl d_X_isIn_6 ?_
            refine aw_icmp_gtI (tgt := 14) (u).toInt (6) rfl (by decide +kernel) (by decide) d_X_isIn_7 (fun c6 => ?_) (fun c6 => ?_)
            · refine aw_iconst (v := nI 0) ci_0 d_X_isIn_14 ?_
              refine as_retz rfl (by decide +kernel) d_X_isIn_15 ?_
              refine (show As l b 14 y_X_group KM RM K2 (I) 24 [.ref 0, .int (x), .int (z), .int (u)] [.int (nI 0)] from ?_)
              refine aw_if_neI (tgt := 31) (0) (by decide +kernel) (by decide) d_X_group_24 (fun q => absurd q (by decide)) (fun _ => ?_)
              refine aw_ldc_w (v := -1000000) lc_X_284 d_X_group_27 ?_
              refine aw_top (x2 := (-1000000 : Int32)) (by decide +kernel) ?_
              exact as_reti rfl d_X_group_30 (hb (by omega) _)
            · refine aw_iconst (v := nI 1) ci_1 d_X_isIn_10 ?_
              refine aw_goto (tgt := 15) (by decide) d_X_isIn_11 ?_
              refine as_retz rfl (by decide +kernel) d_X_isIn_15 ?_
              refine (show As l b 14 y_X_group KM RM K2 (I) 24 [.ref 0, .int (x), .int (z), .int (u)] [.int (nI 1)] from ?_)
              refine aw_if_neI (tgt := 31) (1) (by decide +kernel) (by decide) d_X_group_24 (fun _ => ?_) (fun q => absurd q (by decide))
              obtain ⟨w1, hw1, ew1, gw1⟩ := nI_of_range (x := x) (n := 6) (by omega) (by omega)
              subst ew1
              refine aw_iload_n rfl rfl d_X_group_31 ?_
              refine aw_aload_n rfl rfl d_X_group_32 ?_
              refine aw_getr fl_X_7 km_0 (by decide) rfl rm_0_0 d_X_group_33 ?_
              refine aw_sipush (v := nI 130) cs_130 d_X_group_36 ?_
              refine aw_iload_n rfl rfl d_X_group_39 ?_
              refine aw_iaddN d_X_group_40 ?_
              refine aw_iald (j := (130 + w1)) km_1 (vp_in_nI (by omega) (by decide)) (nI_clamp (by omega)) d_X_group_41 ?_
              refine aw_top (x2 := nI 0) (g1 w1 (by omega)) ?_
              refine aw_icmp_ltI (tgt := 47) (z).toInt (0) rfl (by decide +kernel) (by decide) d_X_group_42 (fun q => absurd q (by omega)) (fun _ => ?_)
              refine aw_iconst (v := (-1 : Int32)) rfl d_X_group_45 ?_
              exact as_reti rfl d_X_group_46 (hg (by omega) _)
set_option maxRecDepth 20000 in
theorem ms_line {K2 : K2T} {I : Nat → Nat → Int32} (hR : FRm I) {x z : Int32} (hg : 0 ≤ x.toInt ∧ x.toInt < 6 ∧ 0 ≤ z.toInt ∧ z.toInt ≤ 1 → ∀ I', K2 (some (.int (nI 0))) I') (hb : ¬ (0 ≤ x.toInt ∧ x.toInt < 6 ∧ 0 ≤ z.toInt ∧ z.toInt ≤ 1) → ∀ I', K2 (some (.int (-1))) I') : Ss l b 14 y_X_line KM RM [.ref 0, .int (x), .int (z)] (I) K2 := by
  obtain ⟨hF, w0, w2, w3, w5, w6, w7, w73, w74, wh, w110, o3, o12, o19, o21, o22, o23, o35⟩ := hR
  have hF0 := hF
  obtain ⟨g0, g1, g2, g3, g4, g5, g6, g7, g8, g9, g10, g11, g12, gb⟩ := hF
  refine Ss.of (show As l b 14 y_X_line KM RM K2 (I) 0 [.ref 0, .int (x), .int (z), uu, uu] [] from ?_)
  refine aw_iload_n rfl rfl d_X_line_0 ?_
  refine as_callS (as := [.int (x)]) (d' := 13) mo_X_isLine lk_X_105 rfl ⟨by decide, by decide⟩ rfl rfl (by decide) d_X_line_1 (Ss.of (show As l b 13 y_X_isLine KM RM _ (I) 0 [.int (x)] [] from ?_))
  refine aw_iload_n rfl rfl d_X_isLine_0 ?_
  refine aw_iconst (v := nI 0) ci_0 d_X_isLine_1 ?_
  refine aw_iconst (v := nI 5) ci_5 d_X_isLine_2 ?_
  refine as_callS (as := [.int (x), .int (nI 0), .int (nI 5)]) (d' := 12) mo_X_isIn lk_X_98 rfl ⟨by decide, by decide⟩ rfl rfl (by decide) d_X_isLine_3 (Ss.of (show As l b 12 y_X_isIn KM RM _ (I) 0 [.int (x), .int (nI 0), .int (nI 5)] [] from ?_))
  refine aw_iload_n rfl rfl d_X_isIn_0 ?_
  refine aw_iload_n rfl rfl d_X_isIn_1 ?_
  refine aw_icmp_ltI (tgt := 14) (x).toInt (0) rfl (by decide +kernel) (by decide) d_X_isIn_2 (fun c1 => ?_) (fun c1 => ?_)
  · refine aw_iconst (v := nI 0) ci_0 d_X_isIn_14 ?_
    refine as_retz rfl (by decide +kernel) d_X_isIn_15 ?_
    refine (show As l b 13 y_X_isLine KM RM _ (I) 6 [.int (x)] [.int (nI 0)] from ?_)
    refine as_retz rfl (by decide +kernel) d_X_isLine_6 ?_
    refine (show As l b 14 y_X_line KM RM K2 (I) 4 [.ref 0, .int (x), .int (z), uu, uu] [.int (nI 0)] from ?_)
    refine aw_if_eqI (tgt := 16) (0) (by decide +kernel) (by decide) d_X_line_4 (fun _ => ?_) (fun q => absurd q (by decide))
    refine aw_iconst (v := (-1 : Int32)) rfl d_X_line_16 ?_
    exact as_reti rfl d_X_line_17 (hb (by omega) _)
  · refine aw_iload_n rfl rfl d_X_isIn_5 ?_
    refine aw_iload_n rfl rfl d_X_isIn_6 ?_
    refine aw_icmp_gtI (tgt := 14) (x).toInt (5) rfl (by decide +kernel) (by decide) d_X_isIn_7 (fun c2 => ?_) (fun c2 => ?_)
    · refine aw_iconst (v := nI 0) ci_0 d_X_isIn_14 ?_
      refine as_retz rfl (by decide +kernel) d_X_isIn_15 ?_
      refine (show As l b 13 y_X_isLine KM RM _ (I) 6 [.int (x)] [.int (nI 0)] from ?_)
      refine as_retz rfl (by decide +kernel) d_X_isLine_6 ?_
      refine (show As l b 14 y_X_line KM RM K2 (I) 4 [.ref 0, .int (x), .int (z), uu, uu] [.int (nI 0)] from ?_)
      refine aw_if_eqI (tgt := 16) (0) (by decide +kernel) (by decide) d_X_line_4 (fun _ => ?_) (fun q => absurd q (by decide))
      refine aw_iconst (v := (-1 : Int32)) rfl d_X_line_16 ?_
      exact as_reti rfl d_X_line_17 (hb (by omega) _)
    · refine aw_iconst (v := nI 1) ci_1 d_X_isIn_10 ?_
      refine aw_goto (tgt := 15) (by decide) d_X_isIn_11 ?_
      refine as_retz rfl (by decide +kernel) d_X_isIn_15 ?_
      refine (show As l b 13 y_X_isLine KM RM _ (I) 6 [.int (x)] [.int (nI 1)] from ?_)
      refine as_retz rfl (by decide +kernel) d_X_isLine_6 ?_
      refine (show As l b 14 y_X_line KM RM K2 (I) 4 [.ref 0, .int (x), .int (z), uu, uu] [.int (nI 1)] from ?_)
      refine aw_if_eqI (tgt := 16) (1) (by decide +kernel) (by decide) d_X_line_4 (fun q => absurd q (by decide)) (fun _ => ?_)
      refine aw_iload_n rfl rfl d_X_line_7 ?_
      refine aw_iconst (v := nI 0) ci_0 d_X_line_8 ?_
      refine aw_iconst (v := nI 1) ci_1 d_X_line_9 ?_
      refine as_callS (as := [.int (z), .int (nI 0), .int (nI 1)]) (d' := 13) mo_X_isIn lk_X_98 rfl ⟨by decide, by decide⟩ rfl rfl (by decide) d_X_line_10 (Ss.of (show As l b 13 y_X_isIn KM RM _ (I) 0 [.int (z), .int (nI 0), .int (nI 1)] [] from ?_))
      refine aw_iload_n rfl rfl d_X_isIn_0 ?_
      refine aw_iload_n rfl rfl d_X_isIn_1 ?_
      refine aw_icmp_ltI (tgt := 14) (z).toInt (0) rfl (by decide +kernel) (by decide) d_X_isIn_2 (fun c3 => ?_) (fun c3 => ?_)
      · refine aw_iconst (v := nI 0) ci_0 d_X_isIn_14 ?_
        refine as_retz rfl (by decide +kernel) d_X_isIn_15 ?_
        refine (show As l b 14 y_X_line KM RM K2 (I) 13 [.ref 0, .int (x), .int (z), uu, uu] [.int (nI 0)] from ?_)
        refine aw_if_neI (tgt := 18) (0) (by decide +kernel) (by decide) d_X_line_13 (fun q => absurd q (by decide)) (fun _ => ?_)
        refine aw_iconst (v := (-1 : Int32)) rfl d_X_line_16 ?_
        exact as_reti rfl d_X_line_17 (hb (by omega) _)
      · refine aw_iload_n rfl rfl d_X_isIn_5 ?_
        refine aw_iload_n rfl rfl d_X_isIn_6 ?_
        refine aw_icmp_gtI (tgt := 14) (z).toInt (1) rfl (by decide +kernel) (by decide) d_X_isIn_7 (fun c4 => ?_) (fun c4 => ?_)
        · refine aw_iconst (v := nI 0) ci_0 d_X_isIn_14 ?_
          refine as_retz rfl (by decide +kernel) d_X_isIn_15 ?_
          refine (show As l b 14 y_X_line KM RM K2 (I) 13 [.ref 0, .int (x), .int (z), uu, uu] [.int (nI 0)] from ?_)
          refine aw_if_neI (tgt := 18) (0) (by decide +kernel) (by decide) d_X_line_13 (fun q => absurd q (by decide)) (fun _ => ?_)
          refine aw_iconst (v := (-1 : Int32)) rfl d_X_line_16 ?_
          exact as_reti rfl d_X_line_17 (hb (by omega) _)
        · refine aw_iconst (v := nI 1) ci_1 d_X_isIn_10 ?_
          refine aw_goto (tgt := 15) (by decide) d_X_isIn_11 ?_
          refine as_retz rfl (by decide +kernel) d_X_isIn_15 ?_
          refine (show As l b 14 y_X_line KM RM K2 (I) 13 [.ref 0, .int (x), .int (z), uu, uu] [.int (nI 1)] from ?_)
          refine aw_if_neI (tgt := 18) (1) (by decide +kernel) (by decide) d_X_line_13 (fun _ => ?_) (fun q => absurd q (by decide))
          obtain ⟨w1, hw1, ew1, gw1⟩ := nI_of_range (x := x) (n := 6) (by omega) (by omega)
          subst ew1
          refine aw_iconst (v := nI 0) ci_0 d_X_line_18 ?_
          refine aw_istore_n (lv2 := [.ref 0, .int (nI (w1)), .int (z), .int (nI 0), uu]) rfl (by decide) rfl d_X_line_19 ?_
          refine aw_iconst (v := nI 0) ci_0 d_X_line_20 ?_
          refine aw_istore (lv2 := [.ref 0, .int (nI (w1)), .int (z), .int (nI 0), .int (nI 0)]) (by decide) rfl d_X_line_21 ?_
          refine aw_iload rfl d_X_line_23 ?_
          refine aw_aload_n rfl rfl d_X_line_25 ?_
          refine aw_getr fl_X_7 km_0 (by decide) rfl rm_0_0 d_X_line_26 ?_
          refine aw_sipush (v := nI 130) cs_130 d_X_line_29 ?_
          refine aw_iload_n rfl rfl d_X_line_32 ?_
          refine aw_iaddN d_X_line_33 ?_
          refine aw_iald (j := (130 + w1)) km_1 (vp_in_nI (by omega) (by decide)) (nI_clamp (by omega)) d_X_line_34 ?_
          refine aw_top (x2 := nI 0) (g1 w1 (by omega)) ?_
          refine aw_icmp_geI (tgt := 55) (0) (0) (by decide +kernel) (by decide +kernel) (by decide) d_X_line_35 (fun _ => ?_) (fun q => absurd q (by decide))
          refine aw_iload_n rfl rfl d_X_line_55 ?_
          refine aw_if_neI (tgt := 72) (z).toInt rfl (by decide) d_X_line_56 (fun c5 => ?_) (fun c5 => ?_)
          · refine aw_iload_n rfl rfl d_X_line_72 ?_
            exact as_reti rfl d_X_line_73 (hg (by omega) _)
          · refine aw_aload_n rfl rfl d_X_line_59 ?_
            refine aw_getr fl_X_7 km_0 (by decide) rfl rm_0_0 d_X_line_60 ?_
            refine aw_sipush (v := nI 130) cs_130 d_X_line_63 ?_
            refine aw_iload_n rfl rfl d_X_line_66 ?_
            refine aw_iaddN d_X_line_67 ?_
            refine aw_iald (j := (130 + w1)) km_1 (vp_in_nI (by omega) (by decide)) (nI_clamp (by omega)) d_X_line_68 ?_
            refine aw_top (x2 := nI 0) (g1 w1 (by omega)) ?_
            refine aw_goto (tgt := 73) (by decide) d_X_line_69 ?_
            exact as_reti rfl d_X_line_73 (hg (by omega) _)
set_option maxRecDepth 20000 in
theorem ms_pick {K2 : K2T} {I : Nat → Nat → Int32} (hR : FRm I) {x z : Int32} (hK : ∀ I', K2 (some (.int (nI 1))) I') : Ss l b 14 y_X_pick KM RM [.ref 0, .int (x), .int (z)] (I) K2 := by
  obtain ⟨hF, w0, w2, w3, w5, w6, w7, w73, w74, wh, w110, o3, o12, o19, o21, o22, o23, o35⟩ := hR
  have hF0 := hF
  obtain ⟨g0, g1, g2, g3, g4, g5, g6, g7, g8, g9, g10, g11, g12, gb⟩ := hF
  refine Ss.of (show As l b 14 y_X_pick KM RM K2 (I) 0 [.ref 0, .int (x), .int (z), uu, uu, uu, uu] [] from ?_)
  refine aw_iload_n rfl rfl d_X_pick_0 ?_
  refine as_callS (as := [.int (x)]) (d' := 13) mo_X_isLine lk_X_105 rfl ⟨by decide, by decide⟩ rfl rfl (by decide) d_X_pick_1 (Ss.of (show As l b 13 y_X_isLine KM RM _ (I) 0 [.int (x)] [] from ?_))
  refine aw_iload_n rfl rfl d_X_isLine_0 ?_
  refine aw_iconst (v := nI 0) ci_0 d_X_isLine_1 ?_
  refine aw_iconst (v := nI 5) ci_5 d_X_isLine_2 ?_
  refine as_callS (as := [.int (x), .int (nI 0), .int (nI 5)]) (d' := 12) mo_X_isIn lk_X_98 rfl ⟨by decide, by decide⟩ rfl rfl (by decide) d_X_isLine_3 (Ss.of (show As l b 12 y_X_isIn KM RM _ (I) 0 [.int (x), .int (nI 0), .int (nI 5)] [] from ?_))
  refine aw_iload_n rfl rfl d_X_isIn_0 ?_
  refine aw_iload_n rfl rfl d_X_isIn_1 ?_
  refine aw_icmp_ltI (tgt := 14) (x).toInt (0) rfl (by decide +kernel) (by decide) d_X_isIn_2 (fun c1 => ?_) (fun c1 => ?_)
  · refine aw_iconst (v := nI 0) ci_0 d_X_isIn_14 ?_
    refine as_retz rfl (by decide +kernel) d_X_isIn_15 ?_
    refine (show As l b 13 y_X_isLine KM RM _ (I) 6 [.int (x)] [.int (nI 0)] from ?_)
    refine as_retz rfl (by decide +kernel) d_X_isLine_6 ?_
    refine (show As l b 14 y_X_pick KM RM K2 (I) 4 [.ref 0, .int (x), .int (z), uu, uu, uu, uu] [.int (nI 0)] from ?_)
    refine aw_if_eqI (tgt := 41) (0) (by decide +kernel) (by decide) d_X_pick_4 (fun _ => ?_) (fun q => absurd q (by decide))
    refine aw_iconst (v := nI 1) ci_1 d_X_pick_41 ?_
    exact as_reti rfl d_X_pick_42 (hK _)
  · refine aw_iload_n rfl rfl d_X_isIn_5 ?_
    refine aw_iload_n rfl rfl d_X_isIn_6 ?_
    refine aw_icmp_gtI (tgt := 14) (x).toInt (5) rfl (by decide +kernel) (by decide) d_X_isIn_7 (fun c2 => ?_) (fun c2 => ?_)
    · refine aw_iconst (v := nI 0) ci_0 d_X_isIn_14 ?_
      refine as_retz rfl (by decide +kernel) d_X_isIn_15 ?_
      refine (show As l b 13 y_X_isLine KM RM _ (I) 6 [.int (x)] [.int (nI 0)] from ?_)
      refine as_retz rfl (by decide +kernel) d_X_isLine_6 ?_
      refine (show As l b 14 y_X_pick KM RM K2 (I) 4 [.ref 0, .int (x), .int (z), uu, uu, uu, uu] [.int (nI 0)] from ?_)
      refine aw_if_eqI (tgt := 41) (0) (by decide +kernel) (by decide) d_X_pick_4 (fun _ => ?_) (fun q => absurd q (by decide))
      refine aw_iconst (v := nI 1) ci_1 d_X_pick_41 ?_
      exact as_reti rfl d_X_pick_42 (hK _)
    · refine aw_iconst (v := nI 1) ci_1 d_X_isIn_10 ?_
      refine aw_goto (tgt := 15) (by decide) d_X_isIn_11 ?_
      refine as_retz rfl (by decide +kernel) d_X_isIn_15 ?_
      refine (show As l b 13 y_X_isLine KM RM _ (I) 6 [.int (x)] [.int (nI 1)] from ?_)
      refine as_retz rfl (by decide +kernel) d_X_isLine_6 ?_
      refine (show As l b 14 y_X_pick KM RM K2 (I) 4 [.ref 0, .int (x), .int (z), uu, uu, uu, uu] [.int (nI 1)] from ?_)
      refine aw_if_eqI (tgt := 41) (1) (by decide +kernel) (by decide) d_X_pick_4 (fun q => absurd q (by decide)) (fun _ => ?_)
      obtain ⟨w1, hw1, ew1, gw1⟩ := nI_of_range (x := x) (n := 6) (by omega) (by omega)
      subst ew1
      refine aw_iload_n rfl rfl d_X_pick_7 ?_
      refine aw_iconst (v := nI 0) ci_0 d_X_pick_8 ?_
      refine aw_aload_n rfl rfl d_X_pick_9 ?_
      refine aw_getr fl_X_7 km_0 (by decide) rfl rm_0_0 d_X_pick_10 ?_
      refine aw_sipush (v := nI 130) cs_130 d_X_pick_13 ?_
      refine aw_iload_n rfl rfl d_X_pick_16 ?_
      refine aw_iaddN d_X_pick_17 ?_
      refine aw_iald (j := (130 + w1)) km_1 (vp_in_nI (by omega) (by decide)) (nI_clamp (by omega)) d_X_pick_18 ?_
      refine aw_top (x2 := nI 0) (g1 w1 (by omega)) ?_
      refine aw_iconst (v := nI 1) ci_1 d_X_pick_19 ?_
      refine aw_isub d_X_pick_20 ?_
      refine aw_top (x2 := (-1 : Int32)) (by decide +kernel) ?_
      refine as_callS (as := [.int (z), .int (nI 0), .int ((-1 : Int32))]) (d' := 13) mo_X_isIn lk_X_98 rfl ⟨by decide, by decide⟩ rfl rfl (by decide) d_X_pick_21 (Ss.of (show As l b 13 y_X_isIn KM RM _ (I) 0 [.int (z), .int (nI 0), .int ((-1 : Int32))] [] from ?_))
      refine aw_iload_n rfl rfl d_X_isIn_0 ?_
      refine aw_iload_n rfl rfl d_X_isIn_1 ?_
      refine aw_icmp_ltI (tgt := 14) (z).toInt (0) rfl (by decide +kernel) (by decide) d_X_isIn_2 (fun c3 => ?_) (fun c3 => ?_)
      · refine aw_iconst (v := nI 0) ci_0 d_X_isIn_14 ?_
        refine as_retz rfl (by decide +kernel) d_X_isIn_15 ?_
        refine (show As l b 14 y_X_pick KM RM K2 (I) 24 [.ref 0, .int (nI (w1)), .int (z), uu, uu, uu, uu] [.int (nI 0)] from ?_)
        refine aw_if_eqI (tgt := 41) (0) (by decide +kernel) (by decide) d_X_pick_24 (fun _ => ?_) (fun q => absurd q (by decide))
        refine aw_iconst (v := nI 1) ci_1 d_X_pick_41 ?_
        exact as_reti rfl d_X_pick_42 (hK _)
      · refine aw_iload_n rfl rfl d_X_isIn_5 ?_
        refine aw_iload_n rfl rfl d_X_isIn_6 ?_
        refine aw_icmp_gtI (tgt := 14) (z).toInt (-1) rfl (by decide +kernel) (by decide) d_X_isIn_7 (fun _ => ?_) (fun q => absurd q (by omega))
        refine aw_iconst (v := nI 0) ci_0 d_X_isIn_14 ?_
        refine as_retz rfl (by decide +kernel) d_X_isIn_15 ?_
        refine (show As l b 14 y_X_pick KM RM K2 (I) 24 [.ref 0, .int (nI (w1)), .int (z), uu, uu, uu, uu] [.int (nI 0)] from ?_)
        refine aw_if_eqI (tgt := 41) (0) (by decide +kernel) (by decide) d_X_pick_24 (fun _ => ?_) (fun q => absurd q (by decide))
        refine aw_iconst (v := nI 1) ci_1 d_X_pick_41 ?_
        exact as_reti rfl d_X_pick_42 (hK _)
set_option maxRecDepth 20000 in
theorem ms_last {K2 : K2T} {I : Nat → Nat → Int32} (hR : FRm I) {x : Int32} (hK : ∀ I', K2 (some (.int (-1))) I') : Ss l b 14 y_X_last KM RM [.ref 0, .int (x)] (I) K2 := by
  obtain ⟨hF, w0, w2, w3, w5, w6, w7, w73, w74, wh, w110, o3, o12, o19, o21, o22, o23, o35⟩ := hR
  have hF0 := hF
  obtain ⟨g0, g1, g2, g3, g4, g5, g6, g7, g8, g9, g10, g11, g12, gb⟩ := hF
  refine Ss.of (show As l b 14 y_X_last KM RM K2 (I) 0 [.ref 0, .int (x), uu] [] from ?_)
  refine aw_aload_n rfl rfl d_X_last_0 ?_
  refine aw_getr fl_X_7 km_0 (by decide) rfl rm_0_0 d_X_last_1 ?_
  refine aw_bipush (v := nI 110) cb_110 d_X_last_4 ?_
  refine aw_iald (j := 110) km_1 (vp_in_nI (by decide) (by decide)) (nI_clamp (by decide)) d_X_last_6 ?_
  refine aw_top (x2 := (-1 : Int32)) (w110) ?_
  refine aw_istore_n (lv2 := [.ref 0, .int (x), .int ((-1 : Int32))]) rfl (by decide) rfl d_X_last_7 ?_
  refine aw_iload_n rfl rfl d_X_last_8 ?_
  refine aw_iconst (v := (-1 : Int32)) rfl d_X_last_9 ?_
  refine aw_icmp_neI (tgt := 15) (-1) (-1) (by decide +kernel) (by decide +kernel) (by decide) d_X_last_10 (fun q => absurd q (by decide)) (fun _ => ?_)
  refine aw_iconst (v := (-1 : Int32)) rfl d_X_last_13 ?_
  exact as_reti rfl d_X_last_14 (hK _)
set_option maxRecDepth 20000 in
theorem ms_count {K2 : K2T} {I : Nat → Nat → Int32} (hR : FRm I) {x : Int32} (hg : (0 ≤ x.toInt ∧ x.toInt ≤ 6) ∨ (11 ≤ x.toInt ∧ x.toInt ≤ 38 ∧ 1 ≤ x.toInt % 10 ∧ x.toInt % 10 ≤ 8) → ∀ I', K2 (some (.int (nI 0))) I') (hb : ¬ ((0 ≤ x.toInt ∧ x.toInt ≤ 6) ∨ (11 ≤ x.toInt ∧ x.toInt ≤ 38 ∧ 1 ≤ x.toInt % 10 ∧ x.toInt % 10 ≤ 8)) → ∀ I', K2 (some (.int (-1))) I') : Ss l b 14 y_X_count KM RM [.ref 0, .int (x)] (I) K2 := by
  obtain ⟨hF, w0, w2, w3, w5, w6, w7, w73, w74, wh, w110, o3, o12, o19, o21, o22, o23, o35⟩ := hR
  have hF0 := hF
  obtain ⟨g0, g1, g2, g3, g4, g5, g6, g7, g8, g9, g10, g11, g12, gb⟩ := hF
  refine Ss.of (show As l b 14 y_X_count KM RM K2 (I) 0 [.ref 0, .int (x), uu] [] from ?_)
  refine aw_iload_n rfl rfl d_X_count_0 ?_
  refine aw_iconst (v := nI 0) ci_0 d_X_count_1 ?_
  refine aw_bipush (v := nI 6) cb_6 d_X_count_2 ?_
  refine as_callS (as := [.int (x), .int (nI 0), .int (nI 6)]) (d' := 13) mo_X_isIn lk_X_98 rfl ⟨by decide, by decide⟩ rfl rfl (by decide) d_X_count_4 (Ss.of (show As l b 13 y_X_isIn KM RM _ (I) 0 [.int (x), .int (nI 0), .int (nI 6)] [] from ?_))
  refine aw_iload_n rfl rfl d_X_isIn_0 ?_
  refine aw_iload_n rfl rfl d_X_isIn_1 ?_
  refine aw_icmp_ltI (tgt := 14) (x).toInt (0) rfl (by decide +kernel) (by decide) d_X_isIn_2 (fun c1 => ?_) (fun c1 => ?_)
  · refine aw_iconst (v := nI 0) ci_0 d_X_isIn_14 ?_
    refine as_retz rfl (by decide +kernel) d_X_isIn_15 ?_
    refine (show As l b 14 y_X_count KM RM K2 (I) 7 [.ref 0, .int (x), uu] [.int (nI 0)] from ?_)
    refine aw_if_eqI (tgt := 20) (0) (by decide +kernel) (by decide) d_X_count_7 (fun _ => ?_) (fun q => absurd q (by decide))
    refine aw_iload_n rfl rfl d_X_count_20 ?_
    refine aw_bipush (v := nI 41) cb_41 d_X_count_21 ?_
    refine aw_bipush (v := nI 48) cb_48 d_X_count_23 ?_
    refine as_callS (as := [.int (x), .int (nI 41), .int (nI 48)]) (d' := 13) mo_X_isIn lk_X_98 rfl ⟨by decide, by decide⟩ rfl rfl (by decide) d_X_count_25 (Ss.of (show As l b 13 y_X_isIn KM RM _ (I) 0 [.int (x), .int (nI 41), .int (nI 48)] [] from ?_))
    refine aw_iload_n rfl rfl d_X_isIn_0 ?_
    refine aw_iload_n rfl rfl d_X_isIn_1 ?_
    refine aw_icmp_ltI (tgt := 14) (x).toInt (41) rfl (by decide +kernel) (by decide) d_X_isIn_2 (fun _ => ?_) (fun q => absurd q (by omega))
    refine aw_iconst (v := nI 0) ci_0 d_X_isIn_14 ?_
    refine as_retz rfl (by decide +kernel) d_X_isIn_15 ?_
    refine (show As l b 14 y_X_count KM RM K2 (I) 28 [.ref 0, .int (x), uu] [.int (nI 0)] from ?_)
    refine aw_if_eqI (tgt := 79) (0) (by decide +kernel) (by decide) d_X_count_28 (fun _ => ?_) (fun q => absurd q (by decide))
    have er : 0 ≤ x.toInt → (x - x / nI 10 * nI 10).toInt = x.toInt % 10 := irem10
    refine aw_iload_n rfl rfl d_X_count_79 ?_
    refine aw_bipush (v := nI 10) cb_10 d_X_count_80 ?_
    refine aw_irem (by decide +kernel) d_X_count_82 ?_
    refine aw_iconst (v := nI 1) ci_1 d_X_count_83 ?_
    refine aw_bipush (v := nI 8) cb_8 d_X_count_84 ?_
    refine as_callS (as := [.int ((x - x / nI 10 * nI 10)), .int (nI 1), .int (nI 8)]) (d' := 13) mo_X_isIn lk_X_98 rfl ⟨by decide, by decide⟩ rfl rfl (by decide) d_X_count_86 (Ss.of (show As l b 13 y_X_isIn KM RM _ (I) 0 [.int ((x - x / nI 10 * nI 10)), .int (nI 1), .int (nI 8)] [] from ?_))
    refine aw_iload_n rfl rfl d_X_isIn_0 ?_
    refine aw_iload_n rfl rfl d_X_isIn_1 ?_
    refine aw_icmp_ltI (tgt := 14) ((x - x / nI 10 * nI 10)).toInt (1) rfl (by decide +kernel) (by decide) d_X_isIn_2 (fun c2 => ?_) (fun c2 => ?_)
    · refine aw_iconst (v := nI 0) ci_0 d_X_isIn_14 ?_
      refine as_retz rfl (by decide +kernel) d_X_isIn_15 ?_
      refine (show As l b 14 y_X_count KM RM K2 (I) 89 [.ref 0, .int (x), uu] [.int (nI 0)] from ?_)
      refine aw_if_eqI (tgt := 107) (0) (by decide +kernel) (by decide) d_X_count_89 (fun _ => ?_) (fun q => absurd q (by decide))
      refine aw_iconst (v := nI 0) ci_0 d_X_count_107 ?_
      refine aw_istore_n (lv2 := [.ref 0, .int (x), .int (nI 0)]) rfl (by decide) rfl d_X_count_108 ?_
      refine aw_iload_n rfl rfl d_X_count_109 ?_
      refine aw_if_eqI (tgt := 128) (0) (by decide +kernel) (by decide) d_X_count_110 (fun _ => ?_) (fun q => absurd q (by decide))
      refine aw_iconst (v := (-1 : Int32)) rfl d_X_count_128 ?_
      exact as_reti rfl d_X_count_129 (hb (by omega) _)
    · refine aw_iload_n rfl rfl d_X_isIn_5 ?_
      refine aw_iload_n rfl rfl d_X_isIn_6 ?_
      refine aw_icmp_gtI (tgt := 14) ((x - x / nI 10 * nI 10)).toInt (8) rfl (by decide +kernel) (by decide) d_X_isIn_7 (fun c3 => ?_) (fun c3 => ?_)
      · refine aw_iconst (v := nI 0) ci_0 d_X_isIn_14 ?_
        refine as_retz rfl (by decide +kernel) d_X_isIn_15 ?_
        refine (show As l b 14 y_X_count KM RM K2 (I) 89 [.ref 0, .int (x), uu] [.int (nI 0)] from ?_)
        refine aw_if_eqI (tgt := 107) (0) (by decide +kernel) (by decide) d_X_count_89 (fun _ => ?_) (fun q => absurd q (by decide))
        refine aw_iconst (v := nI 0) ci_0 d_X_count_107 ?_
        refine aw_istore_n (lv2 := [.ref 0, .int (x), .int (nI 0)]) rfl (by decide) rfl d_X_count_108 ?_
        refine aw_iload_n rfl rfl d_X_count_109 ?_
        refine aw_if_eqI (tgt := 128) (0) (by decide +kernel) (by decide) d_X_count_110 (fun _ => ?_) (fun q => absurd q (by decide))
        refine aw_iconst (v := (-1 : Int32)) rfl d_X_count_128 ?_
        exact as_reti rfl d_X_count_129 (hb (by omega) _)
      · refine aw_iconst (v := nI 1) ci_1 d_X_isIn_10 ?_
        refine aw_goto (tgt := 15) (by decide) d_X_isIn_11 ?_
        refine as_retz rfl (by decide +kernel) d_X_isIn_15 ?_
        refine (show As l b 14 y_X_count KM RM K2 (I) 89 [.ref 0, .int (x), uu] [.int (nI 1)] from ?_)
        refine aw_if_eqI (tgt := 107) (1) (by decide +kernel) (by decide) d_X_count_89 (fun q => absurd q (by decide)) (fun _ => ?_)
        refine aw_iload_n rfl rfl d_X_count_92 ?_
        refine aw_bipush (v := nI 11) cb_11 d_X_count_93 ?_
        refine aw_bipush (v := nI 38) cb_38 d_X_count_95 ?_
        refine as_callS (as := [.int (x), .int (nI 11), .int (nI 38)]) (d' := 13) mo_X_isIn lk_X_98 rfl ⟨by decide, by decide⟩ rfl rfl (by decide) d_X_count_97 (Ss.of (show As l b 13 y_X_isIn KM RM _ (I) 0 [.int (x), .int (nI 11), .int (nI 38)] [] from ?_))
        refine aw_iload_n rfl rfl d_X_isIn_0 ?_
        refine aw_iload_n rfl rfl d_X_isIn_1 ?_
        refine aw_icmp_ltI (tgt := 14) (x).toInt (11) rfl (by decide +kernel) (by decide) d_X_isIn_2 (fun _ => ?_) (fun q => absurd q (by omega))
        refine aw_iconst (v := nI 0) ci_0 d_X_isIn_14 ?_
        refine as_retz rfl (by decide +kernel) d_X_isIn_15 ?_
        refine (show As l b 14 y_X_count KM RM K2 (I) 100 [.ref 0, .int (x), uu] [.int (nI 0)] from ?_)
        refine aw_if_eqI (tgt := 107) (0) (by decide +kernel) (by decide) d_X_count_100 (fun _ => ?_) (fun q => absurd q (by decide))
        refine aw_iconst (v := nI 0) ci_0 d_X_count_107 ?_
        refine aw_istore_n (lv2 := [.ref 0, .int (x), .int (nI 0)]) rfl (by decide) rfl d_X_count_108 ?_
        refine aw_iload_n rfl rfl d_X_count_109 ?_
        refine aw_if_eqI (tgt := 128) (0) (by decide +kernel) (by decide) d_X_count_110 (fun _ => ?_) (fun q => absurd q (by decide))
        refine aw_iconst (v := (-1 : Int32)) rfl d_X_count_128 ?_
        exact as_reti rfl d_X_count_129 (hb (by omega) _)
  · refine aw_iload_n rfl rfl d_X_isIn_5 ?_
    refine aw_iload_n rfl rfl d_X_isIn_6 ?_
    refine aw_icmp_gtI (tgt := 14) (x).toInt (6) rfl (by decide +kernel) (by decide) d_X_isIn_7 (fun c4 => ?_) (fun c4 => ?_)
    · refine aw_iconst (v := nI 0) ci_0 d_X_isIn_14 ?_
      refine as_retz rfl (by decide +kernel) d_X_isIn_15 ?_
      refine (show As l b 14 y_X_count KM RM K2 (I) 7 [.ref 0, .int (x), uu] [.int (nI 0)] from ?_)
      refine aw_if_eqI (tgt := 20) (0) (by decide +kernel) (by decide) d_X_count_7 (fun _ => ?_) (fun q => absurd q (by decide))
      refine aw_iload_n rfl rfl d_X_count_20 ?_
      refine aw_bipush (v := nI 41) cb_41 d_X_count_21 ?_
      refine aw_bipush (v := nI 48) cb_48 d_X_count_23 ?_
      refine as_callS (as := [.int (x), .int (nI 41), .int (nI 48)]) (d' := 13) mo_X_isIn lk_X_98 rfl ⟨by decide, by decide⟩ rfl rfl (by decide) d_X_count_25 (Ss.of (show As l b 13 y_X_isIn KM RM _ (I) 0 [.int (x), .int (nI 41), .int (nI 48)] [] from ?_))
      refine aw_iload_n rfl rfl d_X_isIn_0 ?_
      refine aw_iload_n rfl rfl d_X_isIn_1 ?_
      refine aw_icmp_ltI (tgt := 14) (x).toInt (41) rfl (by decide +kernel) (by decide) d_X_isIn_2 (fun c5 => ?_) (fun c5 => ?_)
      · refine aw_iconst (v := nI 0) ci_0 d_X_isIn_14 ?_
        refine as_retz rfl (by decide +kernel) d_X_isIn_15 ?_
        refine (show As l b 14 y_X_count KM RM K2 (I) 28 [.ref 0, .int (x), uu] [.int (nI 0)] from ?_)
        refine aw_if_eqI (tgt := 79) (0) (by decide +kernel) (by decide) d_X_count_28 (fun _ => ?_) (fun q => absurd q (by decide))
        have er : 0 ≤ x.toInt → (x - x / nI 10 * nI 10).toInt = x.toInt % 10 := irem10
        refine aw_iload_n rfl rfl d_X_count_79 ?_
        refine aw_bipush (v := nI 10) cb_10 d_X_count_80 ?_
        refine aw_irem (by decide +kernel) d_X_count_82 ?_
        refine aw_iconst (v := nI 1) ci_1 d_X_count_83 ?_
        refine aw_bipush (v := nI 8) cb_8 d_X_count_84 ?_
        refine as_callS (as := [.int ((x - x / nI 10 * nI 10)), .int (nI 1), .int (nI 8)]) (d' := 13) mo_X_isIn lk_X_98 rfl ⟨by decide, by decide⟩ rfl rfl (by decide) d_X_count_86 (Ss.of (show As l b 13 y_X_isIn KM RM _ (I) 0 [.int ((x - x / nI 10 * nI 10)), .int (nI 1), .int (nI 8)] [] from ?_))
        refine aw_iload_n rfl rfl d_X_isIn_0 ?_
        refine aw_iload_n rfl rfl d_X_isIn_1 ?_
        refine aw_icmp_ltI (tgt := 14) ((x - x / nI 10 * nI 10)).toInt (1) rfl (by decide +kernel) (by decide) d_X_isIn_2 (fun c6 => ?_) (fun c6 => ?_)
        · refine aw_iconst (v := nI 0) ci_0 d_X_isIn_14 ?_
          refine as_retz rfl (by decide +kernel) d_X_isIn_15 ?_
          refine (show As l b 14 y_X_count KM RM K2 (I) 89 [.ref 0, .int (x), uu] [.int (nI 0)] from ?_)
          refine aw_if_eqI (tgt := 107) (0) (by decide +kernel) (by decide) d_X_count_89 (fun _ => ?_) (fun q => absurd q (by decide))
          refine aw_iconst (v := nI 0) ci_0 d_X_count_107 ?_
          refine aw_istore_n (lv2 := [.ref 0, .int (x), .int (nI 0)]) rfl (by decide) rfl d_X_count_108 ?_
          refine aw_iload_n rfl rfl d_X_count_109 ?_
          refine aw_if_eqI (tgt := 128) (0) (by decide +kernel) (by decide) d_X_count_110 (fun _ => ?_) (fun q => absurd q (by decide))
          refine aw_iconst (v := (-1 : Int32)) rfl d_X_count_128 ?_
          exact as_reti rfl d_X_count_129 (hb (by omega) _)
        · refine aw_iload_n rfl rfl d_X_isIn_5 ?_
          refine aw_iload_n rfl rfl d_X_isIn_6 ?_
          refine aw_icmp_gtI (tgt := 14) ((x - x / nI 10 * nI 10)).toInt (8) rfl (by decide +kernel) (by decide) d_X_isIn_7 (fun c7 => ?_) (fun c7 => ?_)
          · refine aw_iconst (v := nI 0) ci_0 d_X_isIn_14 ?_
            refine as_retz rfl (by decide +kernel) d_X_isIn_15 ?_
            refine (show As l b 14 y_X_count KM RM K2 (I) 89 [.ref 0, .int (x), uu] [.int (nI 0)] from ?_)
            refine aw_if_eqI (tgt := 107) (0) (by decide +kernel) (by decide) d_X_count_89 (fun _ => ?_) (fun q => absurd q (by decide))
            refine aw_iconst (v := nI 0) ci_0 d_X_count_107 ?_
            refine aw_istore_n (lv2 := [.ref 0, .int (x), .int (nI 0)]) rfl (by decide) rfl d_X_count_108 ?_
            refine aw_iload_n rfl rfl d_X_count_109 ?_
            refine aw_if_eqI (tgt := 128) (0) (by decide +kernel) (by decide) d_X_count_110 (fun _ => ?_) (fun q => absurd q (by decide))
            refine aw_iconst (v := (-1 : Int32)) rfl d_X_count_128 ?_
            exact as_reti rfl d_X_count_129 (hb (by omega) _)
          · refine aw_iconst (v := nI 1) ci_1 d_X_isIn_10 ?_
            refine aw_goto (tgt := 15) (by decide) d_X_isIn_11 ?_
            refine as_retz rfl (by decide +kernel) d_X_isIn_15 ?_
            refine (show As l b 14 y_X_count KM RM K2 (I) 89 [.ref 0, .int (x), uu] [.int (nI 1)] from ?_)
            refine aw_if_eqI (tgt := 107) (1) (by decide +kernel) (by decide) d_X_count_89 (fun q => absurd q (by decide)) (fun _ => ?_)
            refine aw_iload_n rfl rfl d_X_count_92 ?_
            refine aw_bipush (v := nI 11) cb_11 d_X_count_93 ?_
            refine aw_bipush (v := nI 38) cb_38 d_X_count_95 ?_
            refine as_callS (as := [.int (x), .int (nI 11), .int (nI 38)]) (d' := 13) mo_X_isIn lk_X_98 rfl ⟨by decide, by decide⟩ rfl rfl (by decide) d_X_count_97 (Ss.of (show As l b 13 y_X_isIn KM RM _ (I) 0 [.int (x), .int (nI 11), .int (nI 38)] [] from ?_))
            refine aw_iload_n rfl rfl d_X_isIn_0 ?_
            refine aw_iload_n rfl rfl d_X_isIn_1 ?_
            refine aw_icmp_ltI (tgt := 14) (x).toInt (11) rfl (by decide +kernel) (by decide) d_X_isIn_2 (fun c8 => ?_) (fun c8 => ?_)
            · refine aw_iconst (v := nI 0) ci_0 d_X_isIn_14 ?_
              refine as_retz rfl (by decide +kernel) d_X_isIn_15 ?_
              refine (show As l b 14 y_X_count KM RM K2 (I) 100 [.ref 0, .int (x), uu] [.int (nI 0)] from ?_)
              refine aw_if_eqI (tgt := 107) (0) (by decide +kernel) (by decide) d_X_count_100 (fun _ => ?_) (fun q => absurd q (by decide))
              refine aw_iconst (v := nI 0) ci_0 d_X_count_107 ?_
              refine aw_istore_n (lv2 := [.ref 0, .int (x), .int (nI 0)]) rfl (by decide) rfl d_X_count_108 ?_
              refine aw_iload_n rfl rfl d_X_count_109 ?_
              refine aw_if_eqI (tgt := 128) (0) (by decide +kernel) (by decide) d_X_count_110 (fun _ => ?_) (fun q => absurd q (by decide))
              refine aw_iconst (v := (-1 : Int32)) rfl d_X_count_128 ?_
              exact as_reti rfl d_X_count_129 (hb (by omega) _)
            · refine aw_iload_n rfl rfl d_X_isIn_5 ?_
              refine aw_iload_n rfl rfl d_X_isIn_6 ?_
              refine aw_icmp_gtI (tgt := 14) (x).toInt (38) rfl (by decide +kernel) (by decide) d_X_isIn_7 (fun c9 => ?_) (fun c9 => ?_)
              · refine aw_iconst (v := nI 0) ci_0 d_X_isIn_14 ?_
                refine as_retz rfl (by decide +kernel) d_X_isIn_15 ?_
                refine (show As l b 14 y_X_count KM RM K2 (I) 100 [.ref 0, .int (x), uu] [.int (nI 0)] from ?_)
                refine aw_if_eqI (tgt := 107) (0) (by decide +kernel) (by decide) d_X_count_100 (fun _ => ?_) (fun q => absurd q (by decide))
                refine aw_iconst (v := nI 0) ci_0 d_X_count_107 ?_
                refine aw_istore_n (lv2 := [.ref 0, .int (x), .int (nI 0)]) rfl (by decide) rfl d_X_count_108 ?_
                refine aw_iload_n rfl rfl d_X_count_109 ?_
                refine aw_if_eqI (tgt := 128) (0) (by decide +kernel) (by decide) d_X_count_110 (fun _ => ?_) (fun q => absurd q (by decide))
                refine aw_iconst (v := (-1 : Int32)) rfl d_X_count_128 ?_
                exact as_reti rfl d_X_count_129 (hb (by omega) _)
              · refine aw_iconst (v := nI 1) ci_1 d_X_isIn_10 ?_
                refine aw_goto (tgt := 15) (by decide) d_X_isIn_11 ?_
                refine as_retz rfl (by decide +kernel) d_X_isIn_15 ?_
                refine (show As l b 14 y_X_count KM RM K2 (I) 100 [.ref 0, .int (x), uu] [.int (nI 1)] from ?_)
                refine aw_if_eqI (tgt := 107) (1) (by decide +kernel) (by decide) d_X_count_100 (fun q => absurd q (by decide)) (fun _ => ?_)
                refine aw_iconst (v := nI 1) ci_1 d_X_count_103 ?_
                refine aw_goto (tgt := 108) (by decide) d_X_count_104 ?_
                refine aw_istore_n (lv2 := [.ref 0, .int (x), .int (nI 1)]) rfl (by decide) rfl d_X_count_108 ?_
                refine aw_iload_n rfl rfl d_X_count_109 ?_
                refine aw_if_eqI (tgt := 128) (1) (by decide +kernel) (by decide) d_X_count_110 (fun q => absurd q (by decide)) (fun _ => ?_)
                obtain ⟨w3, hw3, ew3, gw3⟩ := nI_of_range (x := x) (n := 39) (by omega) (by omega)
                subst ew3
                rcases (show w3 = 11 ∨ w3 = 12 ∨ w3 = 13 ∨ w3 = 14 ∨ w3 = 15 ∨ w3 = 16 ∨ w3 = 17 ∨ w3 = 18 ∨ w3 = 19 ∨ w3 = 20 ∨ w3 = 21 ∨ w3 = 22 ∨ w3 = 23 ∨ w3 = 24 ∨ w3 = 25 ∨ w3 = 26 ∨ w3 = 27 ∨ w3 = 28 ∨ w3 = 29 ∨ w3 = 30 ∨ w3 = 31 ∨ w3 = 32 ∨ w3 = 33 ∨ w3 = 34 ∨ w3 = 35 ∨ w3 = 36 ∨ w3 = 37 ∨ w3 = 38 by omega) with rfl | rfl | rfl | rfl | rfl | rfl | rfl | rfl | rfl | rfl | rfl | rfl | rfl | rfl | rfl | rfl | rfl | rfl | rfl | rfl | rfl | rfl | rfl | rfl | rfl | rfl | rfl | rfl
                · refine aw_aload_n rfl rfl d_X_count_113 ?_
                  refine aw_getr fl_X_7 km_0 (by decide) rfl rm_0_0 d_X_count_114 ?_
                  refine aw_bipush (v := nI 80) cb_80 d_X_count_117 ?_
                  refine aw_iload_n rfl rfl d_X_count_119 ?_
                  refine aw_iadd d_X_count_120 ?_
                  refine aw_top (x2 := nI 91) (by decide +kernel) ?_
                  refine aw_bipush (v := nI 10) cb_10 d_X_count_121 ?_
                  refine aw_isub d_X_count_123 ?_
                  refine aw_top (x2 := nI 81) (by decide +kernel) ?_
                  refine aw_iald (j := 81) km_1 (vp_in_nI (by decide) (by decide)) (nI_clamp (by decide)) d_X_count_124 ?_
                  refine aw_top (x2 := nI 0) (g10 1 (by decide)) ?_
                  refine aw_goto (tgt := 129) (by decide) d_X_count_125 ?_
                  exact as_reti rfl d_X_count_129 (hg (by omega) _)
                · refine aw_aload_n rfl rfl d_X_count_113 ?_
                  refine aw_getr fl_X_7 km_0 (by decide) rfl rm_0_0 d_X_count_114 ?_
                  refine aw_bipush (v := nI 80) cb_80 d_X_count_117 ?_
                  refine aw_iload_n rfl rfl d_X_count_119 ?_
                  refine aw_iadd d_X_count_120 ?_
                  refine aw_top (x2 := nI 92) (by decide +kernel) ?_
                  refine aw_bipush (v := nI 10) cb_10 d_X_count_121 ?_
                  refine aw_isub d_X_count_123 ?_
                  refine aw_top (x2 := nI 82) (by decide +kernel) ?_
                  refine aw_iald (j := 82) km_1 (vp_in_nI (by decide) (by decide)) (nI_clamp (by decide)) d_X_count_124 ?_
                  refine aw_top (x2 := nI 0) (g10 2 (by decide)) ?_
                  refine aw_goto (tgt := 129) (by decide) d_X_count_125 ?_
                  exact as_reti rfl d_X_count_129 (hg (by omega) _)
                · refine aw_aload_n rfl rfl d_X_count_113 ?_
                  refine aw_getr fl_X_7 km_0 (by decide) rfl rm_0_0 d_X_count_114 ?_
                  refine aw_bipush (v := nI 80) cb_80 d_X_count_117 ?_
                  refine aw_iload_n rfl rfl d_X_count_119 ?_
                  refine aw_iadd d_X_count_120 ?_
                  refine aw_top (x2 := nI 93) (by decide +kernel) ?_
                  refine aw_bipush (v := nI 10) cb_10 d_X_count_121 ?_
                  refine aw_isub d_X_count_123 ?_
                  refine aw_top (x2 := nI 83) (by decide +kernel) ?_
                  refine aw_iald (j := 83) km_1 (vp_in_nI (by decide) (by decide)) (nI_clamp (by decide)) d_X_count_124 ?_
                  refine aw_top (x2 := nI 0) (g10 3 (by decide)) ?_
                  refine aw_goto (tgt := 129) (by decide) d_X_count_125 ?_
                  exact as_reti rfl d_X_count_129 (hg (by omega) _)
                · refine aw_aload_n rfl rfl d_X_count_113 ?_
                  refine aw_getr fl_X_7 km_0 (by decide) rfl rm_0_0 d_X_count_114 ?_
                  refine aw_bipush (v := nI 80) cb_80 d_X_count_117 ?_
                  refine aw_iload_n rfl rfl d_X_count_119 ?_
                  refine aw_iadd d_X_count_120 ?_
                  refine aw_top (x2 := nI 94) (by decide +kernel) ?_
                  refine aw_bipush (v := nI 10) cb_10 d_X_count_121 ?_
                  refine aw_isub d_X_count_123 ?_
                  refine aw_top (x2 := nI 84) (by decide +kernel) ?_
                  refine aw_iald (j := 84) km_1 (vp_in_nI (by decide) (by decide)) (nI_clamp (by decide)) d_X_count_124 ?_
                  refine aw_top (x2 := nI 0) (g10 4 (by decide)) ?_
                  refine aw_goto (tgt := 129) (by decide) d_X_count_125 ?_
                  exact as_reti rfl d_X_count_129 (hg (by omega) _)
                · refine aw_aload_n rfl rfl d_X_count_113 ?_
                  refine aw_getr fl_X_7 km_0 (by decide) rfl rm_0_0 d_X_count_114 ?_
                  refine aw_bipush (v := nI 80) cb_80 d_X_count_117 ?_
                  refine aw_iload_n rfl rfl d_X_count_119 ?_
                  refine aw_iadd d_X_count_120 ?_
                  refine aw_top (x2 := nI 95) (by decide +kernel) ?_
                  refine aw_bipush (v := nI 10) cb_10 d_X_count_121 ?_
                  refine aw_isub d_X_count_123 ?_
                  refine aw_top (x2 := nI 85) (by decide +kernel) ?_
                  refine aw_iald (j := 85) km_1 (vp_in_nI (by decide) (by decide)) (nI_clamp (by decide)) d_X_count_124 ?_
                  refine aw_top (x2 := nI 0) (g10 5 (by decide)) ?_
                  refine aw_goto (tgt := 129) (by decide) d_X_count_125 ?_
                  exact as_reti rfl d_X_count_129 (hg (by omega) _)
                · refine aw_aload_n rfl rfl d_X_count_113 ?_
                  refine aw_getr fl_X_7 km_0 (by decide) rfl rm_0_0 d_X_count_114 ?_
                  refine aw_bipush (v := nI 80) cb_80 d_X_count_117 ?_
                  refine aw_iload_n rfl rfl d_X_count_119 ?_
                  refine aw_iadd d_X_count_120 ?_
                  refine aw_top (x2 := nI 96) (by decide +kernel) ?_
                  refine aw_bipush (v := nI 10) cb_10 d_X_count_121 ?_
                  refine aw_isub d_X_count_123 ?_
                  refine aw_top (x2 := nI 86) (by decide +kernel) ?_
                  refine aw_iald (j := 86) km_1 (vp_in_nI (by decide) (by decide)) (nI_clamp (by decide)) d_X_count_124 ?_
                  refine aw_top (x2 := nI 0) (g10 6 (by decide)) ?_
                  refine aw_goto (tgt := 129) (by decide) d_X_count_125 ?_
                  exact as_reti rfl d_X_count_129 (hg (by omega) _)
                · refine aw_aload_n rfl rfl d_X_count_113 ?_
                  refine aw_getr fl_X_7 km_0 (by decide) rfl rm_0_0 d_X_count_114 ?_
                  refine aw_bipush (v := nI 80) cb_80 d_X_count_117 ?_
                  refine aw_iload_n rfl rfl d_X_count_119 ?_
                  refine aw_iadd d_X_count_120 ?_
                  refine aw_top (x2 := nI 97) (by decide +kernel) ?_
                  refine aw_bipush (v := nI 10) cb_10 d_X_count_121 ?_
                  refine aw_isub d_X_count_123 ?_
                  refine aw_top (x2 := nI 87) (by decide +kernel) ?_
                  refine aw_iald (j := 87) km_1 (vp_in_nI (by decide) (by decide)) (nI_clamp (by decide)) d_X_count_124 ?_
                  refine aw_top (x2 := nI 0) (g10 7 (by decide)) ?_
                  refine aw_goto (tgt := 129) (by decide) d_X_count_125 ?_
                  exact as_reti rfl d_X_count_129 (hg (by omega) _)
                · refine aw_aload_n rfl rfl d_X_count_113 ?_
                  refine aw_getr fl_X_7 km_0 (by decide) rfl rm_0_0 d_X_count_114 ?_
                  refine aw_bipush (v := nI 80) cb_80 d_X_count_117 ?_
                  refine aw_iload_n rfl rfl d_X_count_119 ?_
                  refine aw_iadd d_X_count_120 ?_
                  refine aw_top (x2 := nI 98) (by decide +kernel) ?_
                  refine aw_bipush (v := nI 10) cb_10 d_X_count_121 ?_
                  refine aw_isub d_X_count_123 ?_
                  refine aw_top (x2 := nI 88) (by decide +kernel) ?_
                  refine aw_iald (j := 88) km_1 (vp_in_nI (by decide) (by decide)) (nI_clamp (by decide)) d_X_count_124 ?_
                  refine aw_top (x2 := nI 0) (g10 8 (by decide)) ?_
                  refine aw_goto (tgt := 129) (by decide) d_X_count_125 ?_
                  exact as_reti rfl d_X_count_129 (hg (by omega) _)
                · refine aw_aload_n rfl rfl d_X_count_113 ?_
                  refine aw_getr fl_X_7 km_0 (by decide) rfl rm_0_0 d_X_count_114 ?_
                  refine aw_bipush (v := nI 80) cb_80 d_X_count_117 ?_
                  refine aw_iload_n rfl rfl d_X_count_119 ?_
                  refine aw_iadd d_X_count_120 ?_
                  refine aw_top (x2 := nI 99) (by decide +kernel) ?_
                  refine aw_bipush (v := nI 10) cb_10 d_X_count_121 ?_
                  refine aw_isub d_X_count_123 ?_
                  refine aw_top (x2 := nI 89) (by decide +kernel) ?_
                  refine aw_iald (j := 89) km_1 (vp_in_nI (by decide) (by decide)) (nI_clamp (by decide)) d_X_count_124 ?_
                  refine aw_top (x2 := nI 0) (g10 9 (by decide)) ?_
                  refine aw_goto (tgt := 129) (by decide) d_X_count_125 ?_
                  exact as_reti rfl d_X_count_129 (hg (by omega) _)
                · refine aw_aload_n rfl rfl d_X_count_113 ?_
                  refine aw_getr fl_X_7 km_0 (by decide) rfl rm_0_0 d_X_count_114 ?_
                  refine aw_bipush (v := nI 80) cb_80 d_X_count_117 ?_
                  refine aw_iload_n rfl rfl d_X_count_119 ?_
                  refine aw_iadd d_X_count_120 ?_
                  refine aw_top (x2 := nI 100) (by decide +kernel) ?_
                  refine aw_bipush (v := nI 10) cb_10 d_X_count_121 ?_
                  refine aw_isub d_X_count_123 ?_
                  refine aw_top (x2 := nI 90) (by decide +kernel) ?_
                  refine aw_iald (j := 90) km_1 (vp_in_nI (by decide) (by decide)) (nI_clamp (by decide)) d_X_count_124 ?_
                  refine aw_top (x2 := nI 0) (g10 10 (by decide)) ?_
                  refine aw_goto (tgt := 129) (by decide) d_X_count_125 ?_
                  exact as_reti rfl d_X_count_129 (hg (by omega) _)
                · refine aw_aload_n rfl rfl d_X_count_113 ?_
                  refine aw_getr fl_X_7 km_0 (by decide) rfl rm_0_0 d_X_count_114 ?_
                  refine aw_bipush (v := nI 80) cb_80 d_X_count_117 ?_
                  refine aw_iload_n rfl rfl d_X_count_119 ?_
                  refine aw_iadd d_X_count_120 ?_
                  refine aw_top (x2 := nI 101) (by decide +kernel) ?_
                  refine aw_bipush (v := nI 10) cb_10 d_X_count_121 ?_
                  refine aw_isub d_X_count_123 ?_
                  refine aw_top (x2 := nI 91) (by decide +kernel) ?_
                  refine aw_iald (j := 91) km_1 (vp_in_nI (by decide) (by decide)) (nI_clamp (by decide)) d_X_count_124 ?_
                  refine aw_top (x2 := nI 0) (g10 11 (by decide)) ?_
                  refine aw_goto (tgt := 129) (by decide) d_X_count_125 ?_
                  exact as_reti rfl d_X_count_129 (hg (by omega) _)
                · refine aw_aload_n rfl rfl d_X_count_113 ?_
                  refine aw_getr fl_X_7 km_0 (by decide) rfl rm_0_0 d_X_count_114 ?_
                  refine aw_bipush (v := nI 80) cb_80 d_X_count_117 ?_
                  refine aw_iload_n rfl rfl d_X_count_119 ?_
                  refine aw_iadd d_X_count_120 ?_
                  refine aw_top (x2 := nI 102) (by decide +kernel) ?_
                  refine aw_bipush (v := nI 10) cb_10 d_X_count_121 ?_
                  refine aw_isub d_X_count_123 ?_
                  refine aw_top (x2 := nI 92) (by decide +kernel) ?_
                  refine aw_iald (j := 92) km_1 (vp_in_nI (by decide) (by decide)) (nI_clamp (by decide)) d_X_count_124 ?_
                  refine aw_top (x2 := nI 0) (g10 12 (by decide)) ?_
                  refine aw_goto (tgt := 129) (by decide) d_X_count_125 ?_
                  exact as_reti rfl d_X_count_129 (hg (by omega) _)
                · refine aw_aload_n rfl rfl d_X_count_113 ?_
                  refine aw_getr fl_X_7 km_0 (by decide) rfl rm_0_0 d_X_count_114 ?_
                  refine aw_bipush (v := nI 80) cb_80 d_X_count_117 ?_
                  refine aw_iload_n rfl rfl d_X_count_119 ?_
                  refine aw_iadd d_X_count_120 ?_
                  refine aw_top (x2 := nI 103) (by decide +kernel) ?_
                  refine aw_bipush (v := nI 10) cb_10 d_X_count_121 ?_
                  refine aw_isub d_X_count_123 ?_
                  refine aw_top (x2 := nI 93) (by decide +kernel) ?_
                  refine aw_iald (j := 93) km_1 (vp_in_nI (by decide) (by decide)) (nI_clamp (by decide)) d_X_count_124 ?_
                  refine aw_top (x2 := nI 0) (g10 13 (by decide)) ?_
                  refine aw_goto (tgt := 129) (by decide) d_X_count_125 ?_
                  exact as_reti rfl d_X_count_129 (hg (by omega) _)
                · refine aw_aload_n rfl rfl d_X_count_113 ?_
                  refine aw_getr fl_X_7 km_0 (by decide) rfl rm_0_0 d_X_count_114 ?_
                  refine aw_bipush (v := nI 80) cb_80 d_X_count_117 ?_
                  refine aw_iload_n rfl rfl d_X_count_119 ?_
                  refine aw_iadd d_X_count_120 ?_
                  refine aw_top (x2 := nI 104) (by decide +kernel) ?_
                  refine aw_bipush (v := nI 10) cb_10 d_X_count_121 ?_
                  refine aw_isub d_X_count_123 ?_
                  refine aw_top (x2 := nI 94) (by decide +kernel) ?_
                  refine aw_iald (j := 94) km_1 (vp_in_nI (by decide) (by decide)) (nI_clamp (by decide)) d_X_count_124 ?_
                  refine aw_top (x2 := nI 0) (g10 14 (by decide)) ?_
                  refine aw_goto (tgt := 129) (by decide) d_X_count_125 ?_
                  exact as_reti rfl d_X_count_129 (hg (by omega) _)
                · refine aw_aload_n rfl rfl d_X_count_113 ?_
                  refine aw_getr fl_X_7 km_0 (by decide) rfl rm_0_0 d_X_count_114 ?_
                  refine aw_bipush (v := nI 80) cb_80 d_X_count_117 ?_
                  refine aw_iload_n rfl rfl d_X_count_119 ?_
                  refine aw_iadd d_X_count_120 ?_
                  refine aw_top (x2 := nI 105) (by decide +kernel) ?_
                  refine aw_bipush (v := nI 10) cb_10 d_X_count_121 ?_
                  refine aw_isub d_X_count_123 ?_
                  refine aw_top (x2 := nI 95) (by decide +kernel) ?_
                  refine aw_iald (j := 95) km_1 (vp_in_nI (by decide) (by decide)) (nI_clamp (by decide)) d_X_count_124 ?_
                  refine aw_top (x2 := nI 0) (g10 15 (by decide)) ?_
                  refine aw_goto (tgt := 129) (by decide) d_X_count_125 ?_
                  exact as_reti rfl d_X_count_129 (hg (by omega) _)
                · refine aw_aload_n rfl rfl d_X_count_113 ?_
                  refine aw_getr fl_X_7 km_0 (by decide) rfl rm_0_0 d_X_count_114 ?_
                  refine aw_bipush (v := nI 80) cb_80 d_X_count_117 ?_
                  refine aw_iload_n rfl rfl d_X_count_119 ?_
                  refine aw_iadd d_X_count_120 ?_
                  refine aw_top (x2 := nI 106) (by decide +kernel) ?_
                  refine aw_bipush (v := nI 10) cb_10 d_X_count_121 ?_
                  refine aw_isub d_X_count_123 ?_
                  refine aw_top (x2 := nI 96) (by decide +kernel) ?_
                  refine aw_iald (j := 96) km_1 (vp_in_nI (by decide) (by decide)) (nI_clamp (by decide)) d_X_count_124 ?_
                  refine aw_top (x2 := nI 0) (g10 16 (by decide)) ?_
                  refine aw_goto (tgt := 129) (by decide) d_X_count_125 ?_
                  exact as_reti rfl d_X_count_129 (hg (by omega) _)
                · refine aw_aload_n rfl rfl d_X_count_113 ?_
                  refine aw_getr fl_X_7 km_0 (by decide) rfl rm_0_0 d_X_count_114 ?_
                  refine aw_bipush (v := nI 80) cb_80 d_X_count_117 ?_
                  refine aw_iload_n rfl rfl d_X_count_119 ?_
                  refine aw_iadd d_X_count_120 ?_
                  refine aw_top (x2 := nI 107) (by decide +kernel) ?_
                  refine aw_bipush (v := nI 10) cb_10 d_X_count_121 ?_
                  refine aw_isub d_X_count_123 ?_
                  refine aw_top (x2 := nI 97) (by decide +kernel) ?_
                  refine aw_iald (j := 97) km_1 (vp_in_nI (by decide) (by decide)) (nI_clamp (by decide)) d_X_count_124 ?_
                  refine aw_top (x2 := nI 0) (g10 17 (by decide)) ?_
                  refine aw_goto (tgt := 129) (by decide) d_X_count_125 ?_
                  exact as_reti rfl d_X_count_129 (hg (by omega) _)
                · refine aw_aload_n rfl rfl d_X_count_113 ?_
                  refine aw_getr fl_X_7 km_0 (by decide) rfl rm_0_0 d_X_count_114 ?_
                  refine aw_bipush (v := nI 80) cb_80 d_X_count_117 ?_
                  refine aw_iload_n rfl rfl d_X_count_119 ?_
                  refine aw_iadd d_X_count_120 ?_
                  refine aw_top (x2 := nI 108) (by decide +kernel) ?_
                  refine aw_bipush (v := nI 10) cb_10 d_X_count_121 ?_
                  refine aw_isub d_X_count_123 ?_
                  refine aw_top (x2 := nI 98) (by decide +kernel) ?_
                  refine aw_iald (j := 98) km_1 (vp_in_nI (by decide) (by decide)) (nI_clamp (by decide)) d_X_count_124 ?_
                  refine aw_top (x2 := nI 0) (g10 18 (by decide)) ?_
                  refine aw_goto (tgt := 129) (by decide) d_X_count_125 ?_
                  exact as_reti rfl d_X_count_129 (hg (by omega) _)
                · refine aw_aload_n rfl rfl d_X_count_113 ?_
                  refine aw_getr fl_X_7 km_0 (by decide) rfl rm_0_0 d_X_count_114 ?_
                  refine aw_bipush (v := nI 80) cb_80 d_X_count_117 ?_
                  refine aw_iload_n rfl rfl d_X_count_119 ?_
                  refine aw_iadd d_X_count_120 ?_
                  refine aw_top (x2 := nI 109) (by decide +kernel) ?_
                  refine aw_bipush (v := nI 10) cb_10 d_X_count_121 ?_
                  refine aw_isub d_X_count_123 ?_
                  refine aw_top (x2 := nI 99) (by decide +kernel) ?_
                  refine aw_iald (j := 99) km_1 (vp_in_nI (by decide) (by decide)) (nI_clamp (by decide)) d_X_count_124 ?_
                  refine aw_top (x2 := nI 0) (g10 19 (by decide)) ?_
                  refine aw_goto (tgt := 129) (by decide) d_X_count_125 ?_
                  exact as_reti rfl d_X_count_129 (hg (by omega) _)
                · refine aw_aload_n rfl rfl d_X_count_113 ?_
                  refine aw_getr fl_X_7 km_0 (by decide) rfl rm_0_0 d_X_count_114 ?_
                  refine aw_bipush (v := nI 80) cb_80 d_X_count_117 ?_
                  refine aw_iload_n rfl rfl d_X_count_119 ?_
                  refine aw_iadd d_X_count_120 ?_
                  refine aw_top (x2 := nI 110) (by decide +kernel) ?_
                  refine aw_bipush (v := nI 10) cb_10 d_X_count_121 ?_
                  refine aw_isub d_X_count_123 ?_
                  refine aw_top (x2 := nI 100) (by decide +kernel) ?_
                  refine aw_iald (j := 100) km_1 (vp_in_nI (by decide) (by decide)) (nI_clamp (by decide)) d_X_count_124 ?_
                  refine aw_top (x2 := nI 0) (g10 20 (by decide)) ?_
                  refine aw_goto (tgt := 129) (by decide) d_X_count_125 ?_
                  exact as_reti rfl d_X_count_129 (hg (by omega) _)
                · refine aw_aload_n rfl rfl d_X_count_113 ?_
                  refine aw_getr fl_X_7 km_0 (by decide) rfl rm_0_0 d_X_count_114 ?_
                  refine aw_bipush (v := nI 80) cb_80 d_X_count_117 ?_
                  refine aw_iload_n rfl rfl d_X_count_119 ?_
                  refine aw_iadd d_X_count_120 ?_
                  refine aw_top (x2 := nI 111) (by decide +kernel) ?_
                  refine aw_bipush (v := nI 10) cb_10 d_X_count_121 ?_
                  refine aw_isub d_X_count_123 ?_
                  refine aw_top (x2 := nI 101) (by decide +kernel) ?_
                  refine aw_iald (j := 101) km_1 (vp_in_nI (by decide) (by decide)) (nI_clamp (by decide)) d_X_count_124 ?_
                  refine aw_top (x2 := nI 0) (g10 21 (by decide)) ?_
                  refine aw_goto (tgt := 129) (by decide) d_X_count_125 ?_
                  exact as_reti rfl d_X_count_129 (hg (by omega) _)
                · refine aw_aload_n rfl rfl d_X_count_113 ?_
                  refine aw_getr fl_X_7 km_0 (by decide) rfl rm_0_0 d_X_count_114 ?_
                  refine aw_bipush (v := nI 80) cb_80 d_X_count_117 ?_
                  refine aw_iload_n rfl rfl d_X_count_119 ?_
                  refine aw_iadd d_X_count_120 ?_
                  refine aw_top (x2 := nI 112) (by decide +kernel) ?_
                  refine aw_bipush (v := nI 10) cb_10 d_X_count_121 ?_
                  refine aw_isub d_X_count_123 ?_
                  refine aw_top (x2 := nI 102) (by decide +kernel) ?_
                  refine aw_iald (j := 102) km_1 (vp_in_nI (by decide) (by decide)) (nI_clamp (by decide)) d_X_count_124 ?_
                  refine aw_top (x2 := nI 0) (g10 22 (by decide)) ?_
                  refine aw_goto (tgt := 129) (by decide) d_X_count_125 ?_
                  exact as_reti rfl d_X_count_129 (hg (by omega) _)
                · refine aw_aload_n rfl rfl d_X_count_113 ?_
                  refine aw_getr fl_X_7 km_0 (by decide) rfl rm_0_0 d_X_count_114 ?_
                  refine aw_bipush (v := nI 80) cb_80 d_X_count_117 ?_
                  refine aw_iload_n rfl rfl d_X_count_119 ?_
                  refine aw_iadd d_X_count_120 ?_
                  refine aw_top (x2 := nI 113) (by decide +kernel) ?_
                  refine aw_bipush (v := nI 10) cb_10 d_X_count_121 ?_
                  refine aw_isub d_X_count_123 ?_
                  refine aw_top (x2 := nI 103) (by decide +kernel) ?_
                  refine aw_iald (j := 103) km_1 (vp_in_nI (by decide) (by decide)) (nI_clamp (by decide)) d_X_count_124 ?_
                  refine aw_top (x2 := nI 0) (g10 23 (by decide)) ?_
                  refine aw_goto (tgt := 129) (by decide) d_X_count_125 ?_
                  exact as_reti rfl d_X_count_129 (hg (by omega) _)
                · refine aw_aload_n rfl rfl d_X_count_113 ?_
                  refine aw_getr fl_X_7 km_0 (by decide) rfl rm_0_0 d_X_count_114 ?_
                  refine aw_bipush (v := nI 80) cb_80 d_X_count_117 ?_
                  refine aw_iload_n rfl rfl d_X_count_119 ?_
                  refine aw_iadd d_X_count_120 ?_
                  refine aw_top (x2 := nI 114) (by decide +kernel) ?_
                  refine aw_bipush (v := nI 10) cb_10 d_X_count_121 ?_
                  refine aw_isub d_X_count_123 ?_
                  refine aw_top (x2 := nI 104) (by decide +kernel) ?_
                  refine aw_iald (j := 104) km_1 (vp_in_nI (by decide) (by decide)) (nI_clamp (by decide)) d_X_count_124 ?_
                  refine aw_top (x2 := nI 0) (g10 24 (by decide)) ?_
                  refine aw_goto (tgt := 129) (by decide) d_X_count_125 ?_
                  exact as_reti rfl d_X_count_129 (hg (by omega) _)
                · refine aw_aload_n rfl rfl d_X_count_113 ?_
                  refine aw_getr fl_X_7 km_0 (by decide) rfl rm_0_0 d_X_count_114 ?_
                  refine aw_bipush (v := nI 80) cb_80 d_X_count_117 ?_
                  refine aw_iload_n rfl rfl d_X_count_119 ?_
                  refine aw_iadd d_X_count_120 ?_
                  refine aw_top (x2 := nI 115) (by decide +kernel) ?_
                  refine aw_bipush (v := nI 10) cb_10 d_X_count_121 ?_
                  refine aw_isub d_X_count_123 ?_
                  refine aw_top (x2 := nI 105) (by decide +kernel) ?_
                  refine aw_iald (j := 105) km_1 (vp_in_nI (by decide) (by decide)) (nI_clamp (by decide)) d_X_count_124 ?_
                  refine aw_top (x2 := nI 0) (g10 25 (by decide)) ?_
                  refine aw_goto (tgt := 129) (by decide) d_X_count_125 ?_
                  exact as_reti rfl d_X_count_129 (hg (by omega) _)
                · refine aw_aload_n rfl rfl d_X_count_113 ?_
                  refine aw_getr fl_X_7 km_0 (by decide) rfl rm_0_0 d_X_count_114 ?_
                  refine aw_bipush (v := nI 80) cb_80 d_X_count_117 ?_
                  refine aw_iload_n rfl rfl d_X_count_119 ?_
                  refine aw_iadd d_X_count_120 ?_
                  refine aw_top (x2 := nI 116) (by decide +kernel) ?_
                  refine aw_bipush (v := nI 10) cb_10 d_X_count_121 ?_
                  refine aw_isub d_X_count_123 ?_
                  refine aw_top (x2 := nI 106) (by decide +kernel) ?_
                  refine aw_iald (j := 106) km_1 (vp_in_nI (by decide) (by decide)) (nI_clamp (by decide)) d_X_count_124 ?_
                  refine aw_top (x2 := nI 0) (g10 26 (by decide)) ?_
                  refine aw_goto (tgt := 129) (by decide) d_X_count_125 ?_
                  exact as_reti rfl d_X_count_129 (hg (by omega) _)
                · refine aw_aload_n rfl rfl d_X_count_113 ?_
                  refine aw_getr fl_X_7 km_0 (by decide) rfl rm_0_0 d_X_count_114 ?_
                  refine aw_bipush (v := nI 80) cb_80 d_X_count_117 ?_
                  refine aw_iload_n rfl rfl d_X_count_119 ?_
                  refine aw_iadd d_X_count_120 ?_
                  refine aw_top (x2 := nI 117) (by decide +kernel) ?_
                  refine aw_bipush (v := nI 10) cb_10 d_X_count_121 ?_
                  refine aw_isub d_X_count_123 ?_
                  refine aw_top (x2 := nI 107) (by decide +kernel) ?_
                  refine aw_iald (j := 107) km_1 (vp_in_nI (by decide) (by decide)) (nI_clamp (by decide)) d_X_count_124 ?_
                  refine aw_top (x2 := nI 0) (g10 27 (by decide)) ?_
                  refine aw_goto (tgt := 129) (by decide) d_X_count_125 ?_
                  exact as_reti rfl d_X_count_129 (hg (by omega) _)
                · refine aw_aload_n rfl rfl d_X_count_113 ?_
                  refine aw_getr fl_X_7 km_0 (by decide) rfl rm_0_0 d_X_count_114 ?_
                  refine aw_bipush (v := nI 80) cb_80 d_X_count_117 ?_
                  refine aw_iload_n rfl rfl d_X_count_119 ?_
                  refine aw_iadd d_X_count_120 ?_
                  refine aw_top (x2 := nI 118) (by decide +kernel) ?_
                  refine aw_bipush (v := nI 10) cb_10 d_X_count_121 ?_
                  refine aw_isub d_X_count_123 ?_
                  refine aw_top (x2 := nI 108) (by decide +kernel) ?_
                  refine aw_iald (j := 108) km_1 (vp_in_nI (by decide) (by decide)) (nI_clamp (by decide)) d_X_count_124 ?_
                  refine aw_top (x2 := nI 0) (g10 28 (by decide)) ?_
                  refine aw_goto (tgt := 129) (by decide) d_X_count_125 ?_
                  exact as_reti rfl d_X_count_129 (hg (by omega) _)
      · refine aw_iload_n rfl rfl d_X_isIn_5 ?_
        refine aw_iload_n rfl rfl d_X_isIn_6 ?_
        refine aw_icmp_gtI (tgt := 14) (x).toInt (48) rfl (by decide +kernel) (by decide) d_X_isIn_7 (fun c10 => ?_) (fun c10 => ?_)
        · refine aw_iconst (v := nI 0) ci_0 d_X_isIn_14 ?_
          refine as_retz rfl (by decide +kernel) d_X_isIn_15 ?_
          refine (show As l b 14 y_X_count KM RM K2 (I) 28 [.ref 0, .int (x), uu] [.int (nI 0)] from ?_)
          refine aw_if_eqI (tgt := 79) (0) (by decide +kernel) (by decide) d_X_count_28 (fun _ => ?_) (fun q => absurd q (by decide))
          have er : 0 ≤ x.toInt → (x - x / nI 10 * nI 10).toInt = x.toInt % 10 := irem10
          refine aw_iload_n rfl rfl d_X_count_79 ?_
          refine aw_bipush (v := nI 10) cb_10 d_X_count_80 ?_
          refine aw_irem (by decide +kernel) d_X_count_82 ?_
          refine aw_iconst (v := nI 1) ci_1 d_X_count_83 ?_
          refine aw_bipush (v := nI 8) cb_8 d_X_count_84 ?_
          refine as_callS (as := [.int ((x - x / nI 10 * nI 10)), .int (nI 1), .int (nI 8)]) (d' := 13) mo_X_isIn lk_X_98 rfl ⟨by decide, by decide⟩ rfl rfl (by decide) d_X_count_86 (Ss.of (show As l b 13 y_X_isIn KM RM _ (I) 0 [.int ((x - x / nI 10 * nI 10)), .int (nI 1), .int (nI 8)] [] from ?_))
          refine aw_iload_n rfl rfl d_X_isIn_0 ?_
          refine aw_iload_n rfl rfl d_X_isIn_1 ?_
          refine aw_icmp_ltI (tgt := 14) ((x - x / nI 10 * nI 10)).toInt (1) rfl (by decide +kernel) (by decide) d_X_isIn_2 (fun c11 => ?_) (fun c11 => ?_)
          · refine aw_iconst (v := nI 0) ci_0 d_X_isIn_14 ?_
            refine as_retz rfl (by decide +kernel) d_X_isIn_15 ?_
            refine (show As l b 14 y_X_count KM RM K2 (I) 89 [.ref 0, .int (x), uu] [.int (nI 0)] from ?_)
            refine aw_if_eqI (tgt := 107) (0) (by decide +kernel) (by decide) d_X_count_89 (fun _ => ?_) (fun q => absurd q (by decide))
            refine aw_iconst (v := nI 0) ci_0 d_X_count_107 ?_
            refine aw_istore_n (lv2 := [.ref 0, .int (x), .int (nI 0)]) rfl (by decide) rfl d_X_count_108 ?_
            refine aw_iload_n rfl rfl d_X_count_109 ?_
            refine aw_if_eqI (tgt := 128) (0) (by decide +kernel) (by decide) d_X_count_110 (fun _ => ?_) (fun q => absurd q (by decide))
            refine aw_iconst (v := (-1 : Int32)) rfl d_X_count_128 ?_
            exact as_reti rfl d_X_count_129 (hb (by omega) _)
          · refine aw_iload_n rfl rfl d_X_isIn_5 ?_
            refine aw_iload_n rfl rfl d_X_isIn_6 ?_
            refine aw_icmp_gtI (tgt := 14) ((x - x / nI 10 * nI 10)).toInt (8) rfl (by decide +kernel) (by decide) d_X_isIn_7 (fun c12 => ?_) (fun c12 => ?_)
            · refine aw_iconst (v := nI 0) ci_0 d_X_isIn_14 ?_
              refine as_retz rfl (by decide +kernel) d_X_isIn_15 ?_
              refine (show As l b 14 y_X_count KM RM K2 (I) 89 [.ref 0, .int (x), uu] [.int (nI 0)] from ?_)
              refine aw_if_eqI (tgt := 107) (0) (by decide +kernel) (by decide) d_X_count_89 (fun _ => ?_) (fun q => absurd q (by decide))
              refine aw_iconst (v := nI 0) ci_0 d_X_count_107 ?_
              refine aw_istore_n (lv2 := [.ref 0, .int (x), .int (nI 0)]) rfl (by decide) rfl d_X_count_108 ?_
              refine aw_iload_n rfl rfl d_X_count_109 ?_
              refine aw_if_eqI (tgt := 128) (0) (by decide +kernel) (by decide) d_X_count_110 (fun _ => ?_) (fun q => absurd q (by decide))
              refine aw_iconst (v := (-1 : Int32)) rfl d_X_count_128 ?_
              exact as_reti rfl d_X_count_129 (hb (by omega) _)
            · refine aw_iconst (v := nI 1) ci_1 d_X_isIn_10 ?_
              refine aw_goto (tgt := 15) (by decide) d_X_isIn_11 ?_
              refine as_retz rfl (by decide +kernel) d_X_isIn_15 ?_
              refine (show As l b 14 y_X_count KM RM K2 (I) 89 [.ref 0, .int (x), uu] [.int (nI 1)] from ?_)
              refine aw_if_eqI (tgt := 107) (1) (by decide +kernel) (by decide) d_X_count_89 (fun q => absurd q (by decide)) (fun _ => ?_)
              refine aw_iload_n rfl rfl d_X_count_92 ?_
              refine aw_bipush (v := nI 11) cb_11 d_X_count_93 ?_
              refine aw_bipush (v := nI 38) cb_38 d_X_count_95 ?_
              refine as_callS (as := [.int (x), .int (nI 11), .int (nI 38)]) (d' := 13) mo_X_isIn lk_X_98 rfl ⟨by decide, by decide⟩ rfl rfl (by decide) d_X_count_97 (Ss.of (show As l b 13 y_X_isIn KM RM _ (I) 0 [.int (x), .int (nI 11), .int (nI 38)] [] from ?_))
              refine aw_iload_n rfl rfl d_X_isIn_0 ?_
              refine aw_iload_n rfl rfl d_X_isIn_1 ?_
              refine aw_icmp_ltI (tgt := 14) (x).toInt (11) rfl (by decide +kernel) (by decide) d_X_isIn_2 (fun q => absurd q (by omega)) (fun _ => ?_)
              refine aw_iload_n rfl rfl d_X_isIn_5 ?_
              refine aw_iload_n rfl rfl d_X_isIn_6 ?_
              refine aw_icmp_gtI (tgt := 14) (x).toInt (38) rfl (by decide +kernel) (by decide) d_X_isIn_7 (fun _ => ?_) (fun q => absurd q (by omega))
              refine aw_iconst (v := nI 0) ci_0 d_X_isIn_14 ?_
              refine as_retz rfl (by decide +kernel) d_X_isIn_15 ?_
              refine (show As l b 14 y_X_count KM RM K2 (I) 100 [.ref 0, .int (x), uu] [.int (nI 0)] from ?_)
              refine aw_if_eqI (tgt := 107) (0) (by decide +kernel) (by decide) d_X_count_100 (fun _ => ?_) (fun q => absurd q (by decide))
              refine aw_iconst (v := nI 0) ci_0 d_X_count_107 ?_
              refine aw_istore_n (lv2 := [.ref 0, .int (x), .int (nI 0)]) rfl (by decide) rfl d_X_count_108 ?_
              refine aw_iload_n rfl rfl d_X_count_109 ?_
              refine aw_if_eqI (tgt := 128) (0) (by decide +kernel) (by decide) d_X_count_110 (fun _ => ?_) (fun q => absurd q (by decide))
              refine aw_iconst (v := (-1 : Int32)) rfl d_X_count_128 ?_
              exact as_reti rfl d_X_count_129 (hb (by omega) _)
        · refine aw_iconst (v := nI 1) ci_1 d_X_isIn_10 ?_
          refine aw_goto (tgt := 15) (by decide) d_X_isIn_11 ?_
          refine as_retz rfl (by decide +kernel) d_X_isIn_15 ?_
          refine (show As l b 14 y_X_count KM RM K2 (I) 28 [.ref 0, .int (x), uu] [.int (nI 1)] from ?_)
          refine aw_if_eqI (tgt := 79) (1) (by decide +kernel) (by decide) d_X_count_28 (fun q => absurd q (by decide)) (fun _ => ?_)
          obtain ⟨w2, hw2, ew2, gw2⟩ := nI_of_range (x := x) (n := 49) (by omega) (by omega)
          subst ew2
          rcases (show w2 = 41 ∨ w2 = 42 ∨ w2 = 43 ∨ w2 = 44 ∨ w2 = 45 ∨ w2 = 46 ∨ w2 = 47 ∨ w2 = 48 by omega) with rfl | rfl | rfl | rfl | rfl | rfl | rfl | rfl
          · refine aw_aload_n rfl rfl d_X_count_31 ?_
            refine aw_getr fl_X_7 km_0 (by decide) rfl rm_0_0 d_X_count_32 ?_
            refine aw_bipush (v := nI 80) cb_80 d_X_count_35 ?_
            refine aw_iload_n rfl rfl d_X_count_37 ?_
            refine aw_iadd d_X_count_38 ?_
            refine aw_top (x2 := nI 121) (by decide +kernel) ?_
            refine aw_bipush (v := nI 40) cb_40 d_X_count_39 ?_
            refine aw_isub d_X_count_41 ?_
            refine aw_top (x2 := nI 81) (by decide +kernel) ?_
            refine aw_iald (j := 81) km_1 (vp_in_nI (by decide) (by decide)) (nI_clamp (by decide)) d_X_count_42 ?_
            refine aw_top (x2 := nI 0) (g10 1 (by decide)) ?_
            refine aw_if_neI (tgt := 50) (0) (by decide +kernel) (by decide) d_X_count_43 (fun q => absurd q (by decide)) (fun _ => ?_)
            refine aw_iconst (v := (-1 : Int32)) rfl d_X_count_46 ?_
            refine aw_goto (tgt := 78) (by decide) d_X_count_47 ?_
            exact as_reti rfl d_X_count_78 (hb (by omega) _)
          · refine aw_aload_n rfl rfl d_X_count_31 ?_
            refine aw_getr fl_X_7 km_0 (by decide) rfl rm_0_0 d_X_count_32 ?_
            refine aw_bipush (v := nI 80) cb_80 d_X_count_35 ?_
            refine aw_iload_n rfl rfl d_X_count_37 ?_
            refine aw_iadd d_X_count_38 ?_
            refine aw_top (x2 := nI 122) (by decide +kernel) ?_
            refine aw_bipush (v := nI 40) cb_40 d_X_count_39 ?_
            refine aw_isub d_X_count_41 ?_
            refine aw_top (x2 := nI 82) (by decide +kernel) ?_
            refine aw_iald (j := 82) km_1 (vp_in_nI (by decide) (by decide)) (nI_clamp (by decide)) d_X_count_42 ?_
            refine aw_top (x2 := nI 0) (g10 2 (by decide)) ?_
            refine aw_if_neI (tgt := 50) (0) (by decide +kernel) (by decide) d_X_count_43 (fun q => absurd q (by decide)) (fun _ => ?_)
            refine aw_iconst (v := (-1 : Int32)) rfl d_X_count_46 ?_
            refine aw_goto (tgt := 78) (by decide) d_X_count_47 ?_
            exact as_reti rfl d_X_count_78 (hb (by omega) _)
          · refine aw_aload_n rfl rfl d_X_count_31 ?_
            refine aw_getr fl_X_7 km_0 (by decide) rfl rm_0_0 d_X_count_32 ?_
            refine aw_bipush (v := nI 80) cb_80 d_X_count_35 ?_
            refine aw_iload_n rfl rfl d_X_count_37 ?_
            refine aw_iadd d_X_count_38 ?_
            refine aw_top (x2 := nI 123) (by decide +kernel) ?_
            refine aw_bipush (v := nI 40) cb_40 d_X_count_39 ?_
            refine aw_isub d_X_count_41 ?_
            refine aw_top (x2 := nI 83) (by decide +kernel) ?_
            refine aw_iald (j := 83) km_1 (vp_in_nI (by decide) (by decide)) (nI_clamp (by decide)) d_X_count_42 ?_
            refine aw_top (x2 := nI 0) (g10 3 (by decide)) ?_
            refine aw_if_neI (tgt := 50) (0) (by decide +kernel) (by decide) d_X_count_43 (fun q => absurd q (by decide)) (fun _ => ?_)
            refine aw_iconst (v := (-1 : Int32)) rfl d_X_count_46 ?_
            refine aw_goto (tgt := 78) (by decide) d_X_count_47 ?_
            exact as_reti rfl d_X_count_78 (hb (by omega) _)
          · refine aw_aload_n rfl rfl d_X_count_31 ?_
            refine aw_getr fl_X_7 km_0 (by decide) rfl rm_0_0 d_X_count_32 ?_
            refine aw_bipush (v := nI 80) cb_80 d_X_count_35 ?_
            refine aw_iload_n rfl rfl d_X_count_37 ?_
            refine aw_iadd d_X_count_38 ?_
            refine aw_top (x2 := nI 124) (by decide +kernel) ?_
            refine aw_bipush (v := nI 40) cb_40 d_X_count_39 ?_
            refine aw_isub d_X_count_41 ?_
            refine aw_top (x2 := nI 84) (by decide +kernel) ?_
            refine aw_iald (j := 84) km_1 (vp_in_nI (by decide) (by decide)) (nI_clamp (by decide)) d_X_count_42 ?_
            refine aw_top (x2 := nI 0) (g10 4 (by decide)) ?_
            refine aw_if_neI (tgt := 50) (0) (by decide +kernel) (by decide) d_X_count_43 (fun q => absurd q (by decide)) (fun _ => ?_)
            refine aw_iconst (v := (-1 : Int32)) rfl d_X_count_46 ?_
            refine aw_goto (tgt := 78) (by decide) d_X_count_47 ?_
            exact as_reti rfl d_X_count_78 (hb (by omega) _)
          · refine aw_aload_n rfl rfl d_X_count_31 ?_
            refine aw_getr fl_X_7 km_0 (by decide) rfl rm_0_0 d_X_count_32 ?_
            refine aw_bipush (v := nI 80) cb_80 d_X_count_35 ?_
            refine aw_iload_n rfl rfl d_X_count_37 ?_
            refine aw_iadd d_X_count_38 ?_
            refine aw_top (x2 := nI 125) (by decide +kernel) ?_
            refine aw_bipush (v := nI 40) cb_40 d_X_count_39 ?_
            refine aw_isub d_X_count_41 ?_
            refine aw_top (x2 := nI 85) (by decide +kernel) ?_
            refine aw_iald (j := 85) km_1 (vp_in_nI (by decide) (by decide)) (nI_clamp (by decide)) d_X_count_42 ?_
            refine aw_top (x2 := nI 0) (g10 5 (by decide)) ?_
            refine aw_if_neI (tgt := 50) (0) (by decide +kernel) (by decide) d_X_count_43 (fun q => absurd q (by decide)) (fun _ => ?_)
            refine aw_iconst (v := (-1 : Int32)) rfl d_X_count_46 ?_
            refine aw_goto (tgt := 78) (by decide) d_X_count_47 ?_
            exact as_reti rfl d_X_count_78 (hb (by omega) _)
          · refine aw_aload_n rfl rfl d_X_count_31 ?_
            refine aw_getr fl_X_7 km_0 (by decide) rfl rm_0_0 d_X_count_32 ?_
            refine aw_bipush (v := nI 80) cb_80 d_X_count_35 ?_
            refine aw_iload_n rfl rfl d_X_count_37 ?_
            refine aw_iadd d_X_count_38 ?_
            refine aw_top (x2 := nI 126) (by decide +kernel) ?_
            refine aw_bipush (v := nI 40) cb_40 d_X_count_39 ?_
            refine aw_isub d_X_count_41 ?_
            refine aw_top (x2 := nI 86) (by decide +kernel) ?_
            refine aw_iald (j := 86) km_1 (vp_in_nI (by decide) (by decide)) (nI_clamp (by decide)) d_X_count_42 ?_
            refine aw_top (x2 := nI 0) (g10 6 (by decide)) ?_
            refine aw_if_neI (tgt := 50) (0) (by decide +kernel) (by decide) d_X_count_43 (fun q => absurd q (by decide)) (fun _ => ?_)
            refine aw_iconst (v := (-1 : Int32)) rfl d_X_count_46 ?_
            refine aw_goto (tgt := 78) (by decide) d_X_count_47 ?_
            exact as_reti rfl d_X_count_78 (hb (by omega) _)
          · refine aw_aload_n rfl rfl d_X_count_31 ?_
            refine aw_getr fl_X_7 km_0 (by decide) rfl rm_0_0 d_X_count_32 ?_
            refine aw_bipush (v := nI 80) cb_80 d_X_count_35 ?_
            refine aw_iload_n rfl rfl d_X_count_37 ?_
            refine aw_iadd d_X_count_38 ?_
            refine aw_top (x2 := nI 127) (by decide +kernel) ?_
            refine aw_bipush (v := nI 40) cb_40 d_X_count_39 ?_
            refine aw_isub d_X_count_41 ?_
            refine aw_top (x2 := nI 87) (by decide +kernel) ?_
            refine aw_iald (j := 87) km_1 (vp_in_nI (by decide) (by decide)) (nI_clamp (by decide)) d_X_count_42 ?_
            refine aw_top (x2 := nI 0) (g10 7 (by decide)) ?_
            refine aw_if_neI (tgt := 50) (0) (by decide +kernel) (by decide) d_X_count_43 (fun q => absurd q (by decide)) (fun _ => ?_)
            refine aw_iconst (v := (-1 : Int32)) rfl d_X_count_46 ?_
            refine aw_goto (tgt := 78) (by decide) d_X_count_47 ?_
            exact as_reti rfl d_X_count_78 (hb (by omega) _)
          · refine aw_aload_n rfl rfl d_X_count_31 ?_
            refine aw_getr fl_X_7 km_0 (by decide) rfl rm_0_0 d_X_count_32 ?_
            refine aw_bipush (v := nI 80) cb_80 d_X_count_35 ?_
            refine aw_iload_n rfl rfl d_X_count_37 ?_
            refine aw_iadd d_X_count_38 ?_
            refine aw_top (x2 := nI 128) (by decide +kernel) ?_
            refine aw_bipush (v := nI 40) cb_40 d_X_count_39 ?_
            refine aw_isub d_X_count_41 ?_
            refine aw_top (x2 := nI 88) (by decide +kernel) ?_
            refine aw_iald (j := 88) km_1 (vp_in_nI (by decide) (by decide)) (nI_clamp (by decide)) d_X_count_42 ?_
            refine aw_top (x2 := nI 0) (g10 8 (by decide)) ?_
            refine aw_if_neI (tgt := 50) (0) (by decide +kernel) (by decide) d_X_count_43 (fun q => absurd q (by decide)) (fun _ => ?_)
            refine aw_iconst (v := (-1 : Int32)) rfl d_X_count_46 ?_
            refine aw_goto (tgt := 78) (by decide) d_X_count_47 ?_
            exact as_reti rfl d_X_count_78 (hb (by omega) _)
    · refine aw_iconst (v := nI 1) ci_1 d_X_isIn_10 ?_
      refine aw_goto (tgt := 15) (by decide) d_X_isIn_11 ?_
      refine as_retz rfl (by decide +kernel) d_X_isIn_15 ?_
      refine (show As l b 14 y_X_count KM RM K2 (I) 7 [.ref 0, .int (x), uu] [.int (nI 1)] from ?_)
      refine aw_if_eqI (tgt := 20) (1) (by decide +kernel) (by decide) d_X_count_7 (fun q => absurd q (by decide)) (fun _ => ?_)
      obtain ⟨w1, hw1, ew1, gw1⟩ := nI_of_range (x := x) (n := 7) (by omega) (by omega)
      subst ew1
      rcases (show w1 = 0 ∨ w1 = 1 ∨ w1 = 2 ∨ w1 = 3 ∨ w1 = 4 ∨ w1 = 5 ∨ w1 = 6 by omega) with rfl | rfl | rfl | rfl | rfl | rfl | rfl
      · refine aw_aload_n rfl rfl d_X_count_10 ?_
        refine aw_getr fl_X_7 km_0 (by decide) rfl rm_0_0 d_X_count_11 ?_
        refine aw_bipush (v := nI 70) cb_70 d_X_count_14 ?_
        refine aw_iload_n rfl rfl d_X_count_16 ?_
        refine aw_iadd d_X_count_17 ?_
        refine aw_top (x2 := nI 70) (by decide +kernel) ?_
        refine aw_iald (j := 70) km_1 (vp_in_nI (by decide) (by decide)) (nI_clamp (by decide)) d_X_count_18 ?_
        refine aw_top (x2 := nI 0) (g6) ?_
        exact as_reti rfl d_X_count_19 (hg (by omega) _)
      · refine aw_aload_n rfl rfl d_X_count_10 ?_
        refine aw_getr fl_X_7 km_0 (by decide) rfl rm_0_0 d_X_count_11 ?_
        refine aw_bipush (v := nI 70) cb_70 d_X_count_14 ?_
        refine aw_iload_n rfl rfl d_X_count_16 ?_
        refine aw_iadd d_X_count_17 ?_
        refine aw_top (x2 := nI 71) (by decide +kernel) ?_
        refine aw_iald (j := 71) km_1 (vp_in_nI (by decide) (by decide)) (nI_clamp (by decide)) d_X_count_18 ?_
        refine aw_top (x2 := nI 0) (g5) ?_
        exact as_reti rfl d_X_count_19 (hg (by omega) _)
      · refine aw_aload_n rfl rfl d_X_count_10 ?_
        refine aw_getr fl_X_7 km_0 (by decide) rfl rm_0_0 d_X_count_11 ?_
        refine aw_bipush (v := nI 70) cb_70 d_X_count_14 ?_
        refine aw_iload_n rfl rfl d_X_count_16 ?_
        refine aw_iadd d_X_count_17 ?_
        refine aw_top (x2 := nI 72) (by decide +kernel) ?_
        refine aw_iald (j := 72) km_1 (vp_in_nI (by decide) (by decide)) (nI_clamp (by decide)) d_X_count_18 ?_
        refine aw_top (x2 := nI 0) (g7) ?_
        exact as_reti rfl d_X_count_19 (hg (by omega) _)
      · refine aw_aload_n rfl rfl d_X_count_10 ?_
        refine aw_getr fl_X_7 km_0 (by decide) rfl rm_0_0 d_X_count_11 ?_
        refine aw_bipush (v := nI 70) cb_70 d_X_count_14 ?_
        refine aw_iload_n rfl rfl d_X_count_16 ?_
        refine aw_iadd d_X_count_17 ?_
        refine aw_top (x2 := nI 73) (by decide +kernel) ?_
        refine aw_iald (j := 73) km_1 (vp_in_nI (by decide) (by decide)) (nI_clamp (by decide)) d_X_count_18 ?_
        refine aw_top (x2 := nI 0) (w73) ?_
        exact as_reti rfl d_X_count_19 (hg (by omega) _)
      · refine aw_aload_n rfl rfl d_X_count_10 ?_
        refine aw_getr fl_X_7 km_0 (by decide) rfl rm_0_0 d_X_count_11 ?_
        refine aw_bipush (v := nI 70) cb_70 d_X_count_14 ?_
        refine aw_iload_n rfl rfl d_X_count_16 ?_
        refine aw_iadd d_X_count_17 ?_
        refine aw_top (x2 := nI 74) (by decide +kernel) ?_
        refine aw_iald (j := 74) km_1 (vp_in_nI (by decide) (by decide)) (nI_clamp (by decide)) d_X_count_18 ?_
        refine aw_top (x2 := nI 0) (w74) ?_
        exact as_reti rfl d_X_count_19 (hg (by omega) _)
      · refine aw_aload_n rfl rfl d_X_count_10 ?_
        refine aw_getr fl_X_7 km_0 (by decide) rfl rm_0_0 d_X_count_11 ?_
        refine aw_bipush (v := nI 70) cb_70 d_X_count_14 ?_
        refine aw_iload_n rfl rfl d_X_count_16 ?_
        refine aw_iadd d_X_count_17 ?_
        refine aw_top (x2 := nI 75) (by decide +kernel) ?_
        refine aw_iald (j := 75) km_1 (vp_in_nI (by decide) (by decide)) (nI_clamp (by decide)) d_X_count_18 ?_
        refine aw_top (x2 := nI 0) (g8) ?_
        exact as_reti rfl d_X_count_19 (hg (by omega) _)
      · refine aw_aload_n rfl rfl d_X_count_10 ?_
        refine aw_getr fl_X_7 km_0 (by decide) rfl rm_0_0 d_X_count_11 ?_
        refine aw_bipush (v := nI 70) cb_70 d_X_count_14 ?_
        refine aw_iload_n rfl rfl d_X_count_16 ?_
        refine aw_iadd d_X_count_17 ?_
        refine aw_top (x2 := nI 76) (by decide +kernel) ?_
        refine aw_iald (j := 76) km_1 (vp_in_nI (by decide) (by decide)) (nI_clamp (by decide)) d_X_count_18 ?_
        refine aw_top (x2 := nI 0) (g9) ?_
        exact as_reti rfl d_X_count_19 (hg (by omega) _)
set_option maxRecDepth 20000 in
theorem ms_heap {K2 : K2T} {I : Nat → Nat → Int32} (hR : FRm I) {x z : Int32} (h1 : 1 ≤ x.toInt ∧ x.toInt ≤ 8 ∧ 0 ≤ z.toInt ∧ z.toInt ≤ 9 → ∀ I', K2 (some (.int (nI 1))) I') (h0 : ¬ (1 ≤ x.toInt ∧ x.toInt ≤ 8 ∧ 0 ≤ z.toInt ∧ z.toInt ≤ 9) → ∀ I', K2 (some (.int (nI 0))) I') : Ss l b 14 y_X_heap KM RM [.ref 0, .int (x), .int (z)] (I) K2 := by
  obtain ⟨hF, w0, w2, w3, w5, w6, w7, w73, w74, wh, w110, o3, o12, o19, o21, o22, o23, o35⟩ := hR
  have hF0 := hF
  obtain ⟨g0, g1, g2, g3, g4, g5, g6, g7, g8, g9, g10, g11, g12, gb⟩ := hF
  refine Ss.of (show As l b 14 y_X_heap KM RM K2 (I) 0 [.ref 0, .int (x), .int (z), uu, uu] [] from ?_)
  refine aw_iload_n rfl rfl d_X_heap_0 ?_
  refine aw_iconst (v := nI 1) ci_1 d_X_heap_1 ?_
  refine aw_bipush (v := nI 8) cb_8 d_X_heap_2 ?_
  refine as_callS (as := [.int (x), .int (nI 1), .int (nI 8)]) (d' := 13) mo_X_isIn lk_X_98 rfl ⟨by decide, by decide⟩ rfl rfl (by decide) d_X_heap_4 (Ss.of (show As l b 13 y_X_isIn KM RM _ (I) 0 [.int (x), .int (nI 1), .int (nI 8)] [] from ?_))
  refine aw_iload_n rfl rfl d_X_isIn_0 ?_
  refine aw_iload_n rfl rfl d_X_isIn_1 ?_
  refine aw_icmp_ltI (tgt := 14) (x).toInt (1) rfl (by decide +kernel) (by decide) d_X_isIn_2 (fun c1 => ?_) (fun c1 => ?_)
  · refine aw_iconst (v := nI 0) ci_0 d_X_isIn_14 ?_
    refine as_retz rfl (by decide +kernel) d_X_isIn_15 ?_
    refine (show As l b 14 y_X_heap KM RM K2 (I) 7 [.ref 0, .int (x), .int (z), uu, uu] [.int (nI 0)] from ?_)
    refine aw_if_eqI (tgt := 20) (0) (by decide +kernel) (by decide) d_X_heap_7 (fun _ => ?_) (fun q => absurd q (by decide))
    refine aw_iconst (v := nI 0) ci_0 d_X_heap_20 ?_
    exact as_retz rfl (by decide +kernel) d_X_heap_21 (h0 (by omega) _)
  · refine aw_iload_n rfl rfl d_X_isIn_5 ?_
    refine aw_iload_n rfl rfl d_X_isIn_6 ?_
    refine aw_icmp_gtI (tgt := 14) (x).toInt (8) rfl (by decide +kernel) (by decide) d_X_isIn_7 (fun c2 => ?_) (fun c2 => ?_)
    · refine aw_iconst (v := nI 0) ci_0 d_X_isIn_14 ?_
      refine as_retz rfl (by decide +kernel) d_X_isIn_15 ?_
      refine (show As l b 14 y_X_heap KM RM K2 (I) 7 [.ref 0, .int (x), .int (z), uu, uu] [.int (nI 0)] from ?_)
      refine aw_if_eqI (tgt := 20) (0) (by decide +kernel) (by decide) d_X_heap_7 (fun _ => ?_) (fun q => absurd q (by decide))
      refine aw_iconst (v := nI 0) ci_0 d_X_heap_20 ?_
      exact as_retz rfl (by decide +kernel) d_X_heap_21 (h0 (by omega) _)
    · refine aw_iconst (v := nI 1) ci_1 d_X_isIn_10 ?_
      refine aw_goto (tgt := 15) (by decide) d_X_isIn_11 ?_
      refine as_retz rfl (by decide +kernel) d_X_isIn_15 ?_
      refine (show As l b 14 y_X_heap KM RM K2 (I) 7 [.ref 0, .int (x), .int (z), uu, uu] [.int (nI 1)] from ?_)
      refine aw_if_eqI (tgt := 20) (1) (by decide +kernel) (by decide) d_X_heap_7 (fun q => absurd q (by decide)) (fun _ => ?_)
      refine aw_iload_n rfl rfl d_X_heap_10 ?_
      refine aw_iconst (v := nI 0) ci_0 d_X_heap_11 ?_
      refine aw_bipush (v := nI 9) cb_9 d_X_heap_12 ?_
      refine as_callS (as := [.int (z), .int (nI 0), .int (nI 9)]) (d' := 13) mo_X_isIn lk_X_98 rfl ⟨by decide, by decide⟩ rfl rfl (by decide) d_X_heap_14 (Ss.of (show As l b 13 y_X_isIn KM RM _ (I) 0 [.int (z), .int (nI 0), .int (nI 9)] [] from ?_))
      refine aw_iload_n rfl rfl d_X_isIn_0 ?_
      refine aw_iload_n rfl rfl d_X_isIn_1 ?_
      refine aw_icmp_ltI (tgt := 14) (z).toInt (0) rfl (by decide +kernel) (by decide) d_X_isIn_2 (fun c3 => ?_) (fun c3 => ?_)
      · refine aw_iconst (v := nI 0) ci_0 d_X_isIn_14 ?_
        refine as_retz rfl (by decide +kernel) d_X_isIn_15 ?_
        refine (show As l b 14 y_X_heap KM RM K2 (I) 17 [.ref 0, .int (x), .int (z), uu, uu] [.int (nI 0)] from ?_)
        refine aw_if_neI (tgt := 22) (0) (by decide +kernel) (by decide) d_X_heap_17 (fun q => absurd q (by decide)) (fun _ => ?_)
        refine aw_iconst (v := nI 0) ci_0 d_X_heap_20 ?_
        exact as_retz rfl (by decide +kernel) d_X_heap_21 (h0 (by omega) _)
      · refine aw_iload_n rfl rfl d_X_isIn_5 ?_
        refine aw_iload_n rfl rfl d_X_isIn_6 ?_
        refine aw_icmp_gtI (tgt := 14) (z).toInt (9) rfl (by decide +kernel) (by decide) d_X_isIn_7 (fun c4 => ?_) (fun c4 => ?_)
        · refine aw_iconst (v := nI 0) ci_0 d_X_isIn_14 ?_
          refine as_retz rfl (by decide +kernel) d_X_isIn_15 ?_
          refine (show As l b 14 y_X_heap KM RM K2 (I) 17 [.ref 0, .int (x), .int (z), uu, uu] [.int (nI 0)] from ?_)
          refine aw_if_neI (tgt := 22) (0) (by decide +kernel) (by decide) d_X_heap_17 (fun q => absurd q (by decide)) (fun _ => ?_)
          refine aw_iconst (v := nI 0) ci_0 d_X_heap_20 ?_
          exact as_retz rfl (by decide +kernel) d_X_heap_21 (h0 (by omega) _)
        · refine aw_iconst (v := nI 1) ci_1 d_X_isIn_10 ?_
          refine aw_goto (tgt := 15) (by decide) d_X_isIn_11 ?_
          refine as_retz rfl (by decide +kernel) d_X_isIn_15 ?_
          refine (show As l b 14 y_X_heap KM RM K2 (I) 17 [.ref 0, .int (x), .int (z), uu, uu] [.int (nI 1)] from ?_)
          refine aw_if_neI (tgt := 22) (1) (by decide +kernel) (by decide) d_X_heap_17 (fun _ => ?_) (fun q => absurd q (by decide))
          obtain ⟨w1, hw1, ew1, gw1⟩ := nI_of_range (x := z) (n := 10) (by omega) (by omega)
          subst ew1
          refine aw_iload_n rfl rfl d_X_heap_22 ?_
          refine aw_istore_n (lv2 := [.ref 0, .int (x), .int (nI (w1)), .int (nI (w1)), uu]) rfl (by decide) rfl d_X_heap_23 ?_
          obtain ⟨w2, hw2, ew2, gw2⟩ := nI_of_range (x := x) (n := 9) (by omega) (by omega)
          subst ew2
          rcases (show w2 = 1 ∨ w2 = 2 ∨ w2 = 3 ∨ w2 = 4 ∨ w2 = 5 ∨ w2 = 6 ∨ w2 = 7 ∨ w2 = 8 by omega) with rfl | rfl | rfl | rfl | rfl | rfl | rfl | rfl
          · refine aw_iconst (v := nI 1) ci_1 d_X_heap_24 ?_
            refine aw_istore (lv2 := [.ref 0, .int (nI 1), .int (nI (w1)), .int (nI (w1)), .int (nI 1)]) (by decide) rfl d_X_heap_25 ?_
            refine aw_iload rfl d_X_heap_27 ?_
            refine aw_bipush (v := nI 8) cb_8 d_X_heap_29 ?_
            refine aw_icmp_gtI (tgt := 63) (1) (8) (by decide +kernel) (by decide +kernel) (by decide) d_X_heap_31 (fun q => absurd q (by decide)) (fun _ => ?_)
            refine aw_iload_n rfl rfl d_X_heap_34 ?_
            refine aw_iload rfl d_X_heap_35 ?_
            refine aw_iload_n rfl rfl d_X_heap_37 ?_
            refine aw_icmp_neI (tgt := 45) (1) (1) (by decide +kernel) (by decide +kernel) (by decide) d_X_heap_38 (fun q => absurd q (by decide)) (fun _ => ?_)
            refine aw_iconst (v := nI 0) ci_0 d_X_heap_41 ?_
            refine aw_goto (tgt := 55) (by decide) d_X_heap_42 ?_
            refine aw_iaddN d_X_heap_55 ?_
            refine aw_istore_n (lv2 := [.ref 0, .int (nI 1), .int (nI (w1)), .int (nI ((w1 + 0))), .int (nI 1)]) rfl (by decide) rfl d_X_heap_56 ?_
            refine aw_iinc (v := nI 2) (lv2 := [.ref 0, .int (nI 1), .int (nI (w1)), .int (nI ((w1 + 0))), .int (nI 2)]) rfl (by decide +kernel) (by decide) rfl d_X_heap_57 ?_
            refine aw_goto (tgt := 27) (by decide) d_X_heap_60 ?_
            refine aw_iload rfl d_X_heap_27 ?_
            refine aw_bipush (v := nI 8) cb_8 d_X_heap_29 ?_
            refine aw_icmp_gtI (tgt := 63) (2) (8) (by decide +kernel) (by decide +kernel) (by decide) d_X_heap_31 (fun q => absurd q (by decide)) (fun _ => ?_)
            refine aw_iload_n rfl rfl d_X_heap_34 ?_
            refine aw_iload rfl d_X_heap_35 ?_
            refine aw_iload_n rfl rfl d_X_heap_37 ?_
            refine aw_icmp_neI (tgt := 45) (2) (1) (by decide +kernel) (by decide +kernel) (by decide) d_X_heap_38 (fun _ => ?_) (fun q => absurd q (by decide))
            refine aw_aload_n rfl rfl d_X_heap_45 ?_
            refine aw_getr fl_X_7 km_0 (by decide) rfl rm_0_0 d_X_heap_46 ?_
            refine aw_bipush (v := nI 60) cb_60 d_X_heap_49 ?_
            refine aw_iload rfl d_X_heap_51 ?_
            refine aw_iadd d_X_heap_53 ?_
            refine aw_top (x2 := nI 62) (by decide +kernel) ?_
            refine aw_iald (j := 62) km_1 (vp_in_nI (by decide) (by decide)) (nI_clamp (by decide)) d_X_heap_54 ?_
            refine aw_top (x2 := nI 0) (wh 2 (by decide)) ?_
            refine aw_iaddN d_X_heap_55 ?_
            refine aw_istore_n (lv2 := [.ref 0, .int (nI 1), .int (nI (w1)), .int (nI (((w1 + 0) + 0))), .int (nI 2)]) rfl (by decide) rfl d_X_heap_56 ?_
            refine aw_iinc (v := nI 3) (lv2 := [.ref 0, .int (nI 1), .int (nI (w1)), .int (nI (((w1 + 0) + 0))), .int (nI 3)]) rfl (by decide +kernel) (by decide) rfl d_X_heap_57 ?_
            refine aw_goto (tgt := 27) (by decide) d_X_heap_60 ?_
            refine aw_iload rfl d_X_heap_27 ?_
            refine aw_bipush (v := nI 8) cb_8 d_X_heap_29 ?_
            refine aw_icmp_gtI (tgt := 63) (3) (8) (by decide +kernel) (by decide +kernel) (by decide) d_X_heap_31 (fun q => absurd q (by decide)) (fun _ => ?_)
            refine aw_iload_n rfl rfl d_X_heap_34 ?_
            refine aw_iload rfl d_X_heap_35 ?_
            refine aw_iload_n rfl rfl d_X_heap_37 ?_
            refine aw_icmp_neI (tgt := 45) (3) (1) (by decide +kernel) (by decide +kernel) (by decide) d_X_heap_38 (fun _ => ?_) (fun q => absurd q (by decide))
            refine aw_aload_n rfl rfl d_X_heap_45 ?_
            refine aw_getr fl_X_7 km_0 (by decide) rfl rm_0_0 d_X_heap_46 ?_
            refine aw_bipush (v := nI 60) cb_60 d_X_heap_49 ?_
            refine aw_iload rfl d_X_heap_51 ?_
            refine aw_iadd d_X_heap_53 ?_
            refine aw_top (x2 := nI 63) (by decide +kernel) ?_
            refine aw_iald (j := 63) km_1 (vp_in_nI (by decide) (by decide)) (nI_clamp (by decide)) d_X_heap_54 ?_
            refine aw_top (x2 := nI 0) (wh 3 (by decide)) ?_
            refine aw_iaddN d_X_heap_55 ?_
            refine aw_istore_n (lv2 := [.ref 0, .int (nI 1), .int (nI (w1)), .int (nI ((((w1 + 0) + 0) + 0))), .int (nI 3)]) rfl (by decide) rfl d_X_heap_56 ?_
            refine aw_iinc (v := nI 4) (lv2 := [.ref 0, .int (nI 1), .int (nI (w1)), .int (nI ((((w1 + 0) + 0) + 0))), .int (nI 4)]) rfl (by decide +kernel) (by decide) rfl d_X_heap_57 ?_
            refine aw_goto (tgt := 27) (by decide) d_X_heap_60 ?_
            refine aw_iload rfl d_X_heap_27 ?_
            refine aw_bipush (v := nI 8) cb_8 d_X_heap_29 ?_
            refine aw_icmp_gtI (tgt := 63) (4) (8) (by decide +kernel) (by decide +kernel) (by decide) d_X_heap_31 (fun q => absurd q (by decide)) (fun _ => ?_)
            refine aw_iload_n rfl rfl d_X_heap_34 ?_
            refine aw_iload rfl d_X_heap_35 ?_
            refine aw_iload_n rfl rfl d_X_heap_37 ?_
            refine aw_icmp_neI (tgt := 45) (4) (1) (by decide +kernel) (by decide +kernel) (by decide) d_X_heap_38 (fun _ => ?_) (fun q => absurd q (by decide))
            refine aw_aload_n rfl rfl d_X_heap_45 ?_
            refine aw_getr fl_X_7 km_0 (by decide) rfl rm_0_0 d_X_heap_46 ?_
            refine aw_bipush (v := nI 60) cb_60 d_X_heap_49 ?_
            refine aw_iload rfl d_X_heap_51 ?_
            refine aw_iadd d_X_heap_53 ?_
            refine aw_top (x2 := nI 64) (by decide +kernel) ?_
            refine aw_iald (j := 64) km_1 (vp_in_nI (by decide) (by decide)) (nI_clamp (by decide)) d_X_heap_54 ?_
            refine aw_top (x2 := nI 0) (wh 4 (by decide)) ?_
            refine aw_iaddN d_X_heap_55 ?_
            refine aw_istore_n (lv2 := [.ref 0, .int (nI 1), .int (nI (w1)), .int (nI (((((w1 + 0) + 0) + 0) + 0))), .int (nI 4)]) rfl (by decide) rfl d_X_heap_56 ?_
            refine aw_iinc (v := nI 5) (lv2 := [.ref 0, .int (nI 1), .int (nI (w1)), .int (nI (((((w1 + 0) + 0) + 0) + 0))), .int (nI 5)]) rfl (by decide +kernel) (by decide) rfl d_X_heap_57 ?_
            refine aw_goto (tgt := 27) (by decide) d_X_heap_60 ?_
            refine aw_iload rfl d_X_heap_27 ?_
            refine aw_bipush (v := nI 8) cb_8 d_X_heap_29 ?_
            refine aw_icmp_gtI (tgt := 63) (5) (8) (by decide +kernel) (by decide +kernel) (by decide) d_X_heap_31 (fun q => absurd q (by decide)) (fun _ => ?_)
            refine aw_iload_n rfl rfl d_X_heap_34 ?_
            refine aw_iload rfl d_X_heap_35 ?_
            refine aw_iload_n rfl rfl d_X_heap_37 ?_
            refine aw_icmp_neI (tgt := 45) (5) (1) (by decide +kernel) (by decide +kernel) (by decide) d_X_heap_38 (fun _ => ?_) (fun q => absurd q (by decide))
            refine aw_aload_n rfl rfl d_X_heap_45 ?_
            refine aw_getr fl_X_7 km_0 (by decide) rfl rm_0_0 d_X_heap_46 ?_
            refine aw_bipush (v := nI 60) cb_60 d_X_heap_49 ?_
            refine aw_iload rfl d_X_heap_51 ?_
            refine aw_iadd d_X_heap_53 ?_
            refine aw_top (x2 := nI 65) (by decide +kernel) ?_
            refine aw_iald (j := 65) km_1 (vp_in_nI (by decide) (by decide)) (nI_clamp (by decide)) d_X_heap_54 ?_
            refine aw_top (x2 := nI 0) (wh 5 (by decide)) ?_
            refine aw_iaddN d_X_heap_55 ?_
            refine aw_istore_n (lv2 := [.ref 0, .int (nI 1), .int (nI (w1)), .int (nI ((((((w1 + 0) + 0) + 0) + 0) + 0))), .int (nI 5)]) rfl (by decide) rfl d_X_heap_56 ?_
            refine aw_iinc (v := nI 6) (lv2 := [.ref 0, .int (nI 1), .int (nI (w1)), .int (nI ((((((w1 + 0) + 0) + 0) + 0) + 0))), .int (nI 6)]) rfl (by decide +kernel) (by decide) rfl d_X_heap_57 ?_
            refine aw_goto (tgt := 27) (by decide) d_X_heap_60 ?_
            refine aw_iload rfl d_X_heap_27 ?_
            refine aw_bipush (v := nI 8) cb_8 d_X_heap_29 ?_
            refine aw_icmp_gtI (tgt := 63) (6) (8) (by decide +kernel) (by decide +kernel) (by decide) d_X_heap_31 (fun q => absurd q (by decide)) (fun _ => ?_)
            refine aw_iload_n rfl rfl d_X_heap_34 ?_
            refine aw_iload rfl d_X_heap_35 ?_
            refine aw_iload_n rfl rfl d_X_heap_37 ?_
            refine aw_icmp_neI (tgt := 45) (6) (1) (by decide +kernel) (by decide +kernel) (by decide) d_X_heap_38 (fun _ => ?_) (fun q => absurd q (by decide))
            refine aw_aload_n rfl rfl d_X_heap_45 ?_
            refine aw_getr fl_X_7 km_0 (by decide) rfl rm_0_0 d_X_heap_46 ?_
            refine aw_bipush (v := nI 60) cb_60 d_X_heap_49 ?_
            refine aw_iload rfl d_X_heap_51 ?_
            refine aw_iadd d_X_heap_53 ?_
            refine aw_top (x2 := nI 66) (by decide +kernel) ?_
            refine aw_iald (j := 66) km_1 (vp_in_nI (by decide) (by decide)) (nI_clamp (by decide)) d_X_heap_54 ?_
            refine aw_top (x2 := nI 0) (wh 6 (by decide)) ?_
            refine aw_iaddN d_X_heap_55 ?_
            refine aw_istore_n (lv2 := [.ref 0, .int (nI 1), .int (nI (w1)), .int (nI (((((((w1 + 0) + 0) + 0) + 0) + 0) + 0))), .int (nI 6)]) rfl (by decide) rfl d_X_heap_56 ?_
            refine aw_iinc (v := nI 7) (lv2 := [.ref 0, .int (nI 1), .int (nI (w1)), .int (nI (((((((w1 + 0) + 0) + 0) + 0) + 0) + 0))), .int (nI 7)]) rfl (by decide +kernel) (by decide) rfl d_X_heap_57 ?_
            refine aw_goto (tgt := 27) (by decide) d_X_heap_60 ?_
            refine aw_iload rfl d_X_heap_27 ?_
            refine aw_bipush (v := nI 8) cb_8 d_X_heap_29 ?_
            refine aw_icmp_gtI (tgt := 63) (7) (8) (by decide +kernel) (by decide +kernel) (by decide) d_X_heap_31 (fun q => absurd q (by decide)) (fun _ => ?_)
            refine aw_iload_n rfl rfl d_X_heap_34 ?_
            refine aw_iload rfl d_X_heap_35 ?_
            refine aw_iload_n rfl rfl d_X_heap_37 ?_
            refine aw_icmp_neI (tgt := 45) (7) (1) (by decide +kernel) (by decide +kernel) (by decide) d_X_heap_38 (fun _ => ?_) (fun q => absurd q (by decide))
            refine aw_aload_n rfl rfl d_X_heap_45 ?_
            refine aw_getr fl_X_7 km_0 (by decide) rfl rm_0_0 d_X_heap_46 ?_
            refine aw_bipush (v := nI 60) cb_60 d_X_heap_49 ?_
            refine aw_iload rfl d_X_heap_51 ?_
            refine aw_iadd d_X_heap_53 ?_
            refine aw_top (x2 := nI 67) (by decide +kernel) ?_
            refine aw_iald (j := 67) km_1 (vp_in_nI (by decide) (by decide)) (nI_clamp (by decide)) d_X_heap_54 ?_
            refine aw_top (x2 := nI 0) (wh 7 (by decide)) ?_
            refine aw_iaddN d_X_heap_55 ?_
            refine aw_istore_n (lv2 := [.ref 0, .int (nI 1), .int (nI (w1)), .int (nI ((((((((w1 + 0) + 0) + 0) + 0) + 0) + 0) + 0))), .int (nI 7)]) rfl (by decide) rfl d_X_heap_56 ?_
            refine aw_iinc (v := nI 8) (lv2 := [.ref 0, .int (nI 1), .int (nI (w1)), .int (nI ((((((((w1 + 0) + 0) + 0) + 0) + 0) + 0) + 0))), .int (nI 8)]) rfl (by decide +kernel) (by decide) rfl d_X_heap_57 ?_
            refine aw_goto (tgt := 27) (by decide) d_X_heap_60 ?_
            refine aw_iload rfl d_X_heap_27 ?_
            refine aw_bipush (v := nI 8) cb_8 d_X_heap_29 ?_
            refine aw_icmp_gtI (tgt := 63) (8) (8) (by decide +kernel) (by decide +kernel) (by decide) d_X_heap_31 (fun q => absurd q (by decide)) (fun _ => ?_)
            refine aw_iload_n rfl rfl d_X_heap_34 ?_
            refine aw_iload rfl d_X_heap_35 ?_
            refine aw_iload_n rfl rfl d_X_heap_37 ?_
            refine aw_icmp_neI (tgt := 45) (8) (1) (by decide +kernel) (by decide +kernel) (by decide) d_X_heap_38 (fun _ => ?_) (fun q => absurd q (by decide))
            refine aw_aload_n rfl rfl d_X_heap_45 ?_
            refine aw_getr fl_X_7 km_0 (by decide) rfl rm_0_0 d_X_heap_46 ?_
            refine aw_bipush (v := nI 60) cb_60 d_X_heap_49 ?_
            refine aw_iload rfl d_X_heap_51 ?_
            refine aw_iadd d_X_heap_53 ?_
            refine aw_top (x2 := nI 68) (by decide +kernel) ?_
            refine aw_iald (j := 68) km_1 (vp_in_nI (by decide) (by decide)) (nI_clamp (by decide)) d_X_heap_54 ?_
            refine aw_top (x2 := nI 0) (wh 8 (by decide)) ?_
            refine aw_iaddN d_X_heap_55 ?_
            refine aw_istore_n (lv2 := [.ref 0, .int (nI 1), .int (nI (w1)), .int (nI (((((((((w1 + 0) + 0) + 0) + 0) + 0) + 0) + 0) + 0))), .int (nI 8)]) rfl (by decide) rfl d_X_heap_56 ?_
            refine aw_iinc (v := nI 9) (lv2 := [.ref 0, .int (nI 1), .int (nI (w1)), .int (nI (((((((((w1 + 0) + 0) + 0) + 0) + 0) + 0) + 0) + 0))), .int (nI 9)]) rfl (by decide +kernel) (by decide) rfl d_X_heap_57 ?_
            refine aw_goto (tgt := 27) (by decide) d_X_heap_60 ?_
            refine aw_iload rfl d_X_heap_27 ?_
            refine aw_bipush (v := nI 8) cb_8 d_X_heap_29 ?_
            refine aw_icmp_gtI (tgt := 63) (9) (8) (by decide +kernel) (by decide +kernel) (by decide) d_X_heap_31 (fun _ => ?_) (fun q => absurd q (by decide))
            refine aw_iload_n rfl rfl d_X_heap_63 ?_
            refine aw_bipush (v := nI 12) cb_12 d_X_heap_64 ?_
            refine aw_icmp_leI (tgt := 71) ((((((((((w1 + 0) + 0) + 0) + 0) + 0) + 0) + 0) + 0) : Nat) : Int) (12) (nI_toInt (by omega)) (by decide +kernel) (by decide) d_X_heap_66 (fun c5 => ?_) (fun c5 => ?_)
            · refine aw_aload_n rfl rfl d_X_heap_71 ?_
              refine aw_getr fl_X_7 km_0 (by decide) rfl rm_0_0 d_X_heap_72 ?_
              refine aw_bipush (v := nI 60) cb_60 d_X_heap_75 ?_
              refine aw_iload_n rfl rfl d_X_heap_77 ?_
              refine aw_iadd d_X_heap_78 ?_
              refine aw_top (x2 := nI 61) (by decide +kernel) ?_
              refine aw_iload_n rfl rfl d_X_heap_79 ?_
              refine aw_iast (j := 61) km_1 (vp_in_nI (by decide) (by decide)) (nI_clamp (by decide)) d_X_heap_80 ?_
              refine aw_iconst (v := nI 1) ci_1 d_X_heap_81 ?_
              exact as_retz rfl (by decide +kernel) d_X_heap_82 (h1 (by omega) _)
            · refine aw_iconst (v := nI 0) ci_0 d_X_heap_69 ?_
              exact as_retz rfl (by decide +kernel) d_X_heap_70 (h0 (by omega) _)
          · refine aw_iconst (v := nI 1) ci_1 d_X_heap_24 ?_
            refine aw_istore (lv2 := [.ref 0, .int (nI 2), .int (nI (w1)), .int (nI (w1)), .int (nI 1)]) (by decide) rfl d_X_heap_25 ?_
            refine aw_iload rfl d_X_heap_27 ?_
            refine aw_bipush (v := nI 8) cb_8 d_X_heap_29 ?_
            refine aw_icmp_gtI (tgt := 63) (1) (8) (by decide +kernel) (by decide +kernel) (by decide) d_X_heap_31 (fun q => absurd q (by decide)) (fun _ => ?_)
            refine aw_iload_n rfl rfl d_X_heap_34 ?_
            refine aw_iload rfl d_X_heap_35 ?_
            refine aw_iload_n rfl rfl d_X_heap_37 ?_
            refine aw_icmp_neI (tgt := 45) (1) (2) (by decide +kernel) (by decide +kernel) (by decide) d_X_heap_38 (fun _ => ?_) (fun q => absurd q (by decide))
            refine aw_aload_n rfl rfl d_X_heap_45 ?_
            refine aw_getr fl_X_7 km_0 (by decide) rfl rm_0_0 d_X_heap_46 ?_
            refine aw_bipush (v := nI 60) cb_60 d_X_heap_49 ?_
            refine aw_iload rfl d_X_heap_51 ?_
            refine aw_iadd d_X_heap_53 ?_
            refine aw_top (x2 := nI 61) (by decide +kernel) ?_
            refine aw_iald (j := 61) km_1 (vp_in_nI (by decide) (by decide)) (nI_clamp (by decide)) d_X_heap_54 ?_
            refine aw_top (x2 := nI 0) (wh 1 (by decide)) ?_
            refine aw_iaddN d_X_heap_55 ?_
            refine aw_istore_n (lv2 := [.ref 0, .int (nI 2), .int (nI (w1)), .int (nI ((w1 + 0))), .int (nI 1)]) rfl (by decide) rfl d_X_heap_56 ?_
            refine aw_iinc (v := nI 2) (lv2 := [.ref 0, .int (nI 2), .int (nI (w1)), .int (nI ((w1 + 0))), .int (nI 2)]) rfl (by decide +kernel) (by decide) rfl d_X_heap_57 ?_
            refine aw_goto (tgt := 27) (by decide) d_X_heap_60 ?_
            refine aw_iload rfl d_X_heap_27 ?_
            refine aw_bipush (v := nI 8) cb_8 d_X_heap_29 ?_
            refine aw_icmp_gtI (tgt := 63) (2) (8) (by decide +kernel) (by decide +kernel) (by decide) d_X_heap_31 (fun q => absurd q (by decide)) (fun _ => ?_)
            refine aw_iload_n rfl rfl d_X_heap_34 ?_
            refine aw_iload rfl d_X_heap_35 ?_
            refine aw_iload_n rfl rfl d_X_heap_37 ?_
            refine aw_icmp_neI (tgt := 45) (2) (2) (by decide +kernel) (by decide +kernel) (by decide) d_X_heap_38 (fun q => absurd q (by decide)) (fun _ => ?_)
            refine aw_iconst (v := nI 0) ci_0 d_X_heap_41 ?_
            refine aw_goto (tgt := 55) (by decide) d_X_heap_42 ?_
            refine aw_iaddN d_X_heap_55 ?_
            refine aw_istore_n (lv2 := [.ref 0, .int (nI 2), .int (nI (w1)), .int (nI (((w1 + 0) + 0))), .int (nI 2)]) rfl (by decide) rfl d_X_heap_56 ?_
            refine aw_iinc (v := nI 3) (lv2 := [.ref 0, .int (nI 2), .int (nI (w1)), .int (nI (((w1 + 0) + 0))), .int (nI 3)]) rfl (by decide +kernel) (by decide) rfl d_X_heap_57 ?_
            refine aw_goto (tgt := 27) (by decide) d_X_heap_60 ?_
            refine aw_iload rfl d_X_heap_27 ?_
            refine aw_bipush (v := nI 8) cb_8 d_X_heap_29 ?_
            refine aw_icmp_gtI (tgt := 63) (3) (8) (by decide +kernel) (by decide +kernel) (by decide) d_X_heap_31 (fun q => absurd q (by decide)) (fun _ => ?_)
            refine aw_iload_n rfl rfl d_X_heap_34 ?_
            refine aw_iload rfl d_X_heap_35 ?_
            refine aw_iload_n rfl rfl d_X_heap_37 ?_
            refine aw_icmp_neI (tgt := 45) (3) (2) (by decide +kernel) (by decide +kernel) (by decide) d_X_heap_38 (fun _ => ?_) (fun q => absurd q (by decide))
            refine aw_aload_n rfl rfl d_X_heap_45 ?_
            refine aw_getr fl_X_7 km_0 (by decide) rfl rm_0_0 d_X_heap_46 ?_
            refine aw_bipush (v := nI 60) cb_60 d_X_heap_49 ?_
            refine aw_iload rfl d_X_heap_51 ?_
            refine aw_iadd d_X_heap_53 ?_
            refine aw_top (x2 := nI 63) (by decide +kernel) ?_
            refine aw_iald (j := 63) km_1 (vp_in_nI (by decide) (by decide)) (nI_clamp (by decide)) d_X_heap_54 ?_
            refine aw_top (x2 := nI 0) (wh 3 (by decide)) ?_
            refine aw_iaddN d_X_heap_55 ?_
            refine aw_istore_n (lv2 := [.ref 0, .int (nI 2), .int (nI (w1)), .int (nI ((((w1 + 0) + 0) + 0))), .int (nI 3)]) rfl (by decide) rfl d_X_heap_56 ?_
            refine aw_iinc (v := nI 4) (lv2 := [.ref 0, .int (nI 2), .int (nI (w1)), .int (nI ((((w1 + 0) + 0) + 0))), .int (nI 4)]) rfl (by decide +kernel) (by decide) rfl d_X_heap_57 ?_
            refine aw_goto (tgt := 27) (by decide) d_X_heap_60 ?_
            refine aw_iload rfl d_X_heap_27 ?_
            refine aw_bipush (v := nI 8) cb_8 d_X_heap_29 ?_
            refine aw_icmp_gtI (tgt := 63) (4) (8) (by decide +kernel) (by decide +kernel) (by decide) d_X_heap_31 (fun q => absurd q (by decide)) (fun _ => ?_)
            refine aw_iload_n rfl rfl d_X_heap_34 ?_
            refine aw_iload rfl d_X_heap_35 ?_
            refine aw_iload_n rfl rfl d_X_heap_37 ?_
            refine aw_icmp_neI (tgt := 45) (4) (2) (by decide +kernel) (by decide +kernel) (by decide) d_X_heap_38 (fun _ => ?_) (fun q => absurd q (by decide))
            refine aw_aload_n rfl rfl d_X_heap_45 ?_
            refine aw_getr fl_X_7 km_0 (by decide) rfl rm_0_0 d_X_heap_46 ?_
            refine aw_bipush (v := nI 60) cb_60 d_X_heap_49 ?_
            refine aw_iload rfl d_X_heap_51 ?_
            refine aw_iadd d_X_heap_53 ?_
            refine aw_top (x2 := nI 64) (by decide +kernel) ?_
            refine aw_iald (j := 64) km_1 (vp_in_nI (by decide) (by decide)) (nI_clamp (by decide)) d_X_heap_54 ?_
            refine aw_top (x2 := nI 0) (wh 4 (by decide)) ?_
            refine aw_iaddN d_X_heap_55 ?_
            refine aw_istore_n (lv2 := [.ref 0, .int (nI 2), .int (nI (w1)), .int (nI (((((w1 + 0) + 0) + 0) + 0))), .int (nI 4)]) rfl (by decide) rfl d_X_heap_56 ?_
            refine aw_iinc (v := nI 5) (lv2 := [.ref 0, .int (nI 2), .int (nI (w1)), .int (nI (((((w1 + 0) + 0) + 0) + 0))), .int (nI 5)]) rfl (by decide +kernel) (by decide) rfl d_X_heap_57 ?_
            refine aw_goto (tgt := 27) (by decide) d_X_heap_60 ?_
            refine aw_iload rfl d_X_heap_27 ?_
            refine aw_bipush (v := nI 8) cb_8 d_X_heap_29 ?_
            refine aw_icmp_gtI (tgt := 63) (5) (8) (by decide +kernel) (by decide +kernel) (by decide) d_X_heap_31 (fun q => absurd q (by decide)) (fun _ => ?_)
            refine aw_iload_n rfl rfl d_X_heap_34 ?_
            refine aw_iload rfl d_X_heap_35 ?_
            refine aw_iload_n rfl rfl d_X_heap_37 ?_
            refine aw_icmp_neI (tgt := 45) (5) (2) (by decide +kernel) (by decide +kernel) (by decide) d_X_heap_38 (fun _ => ?_) (fun q => absurd q (by decide))
            refine aw_aload_n rfl rfl d_X_heap_45 ?_
            refine aw_getr fl_X_7 km_0 (by decide) rfl rm_0_0 d_X_heap_46 ?_
            refine aw_bipush (v := nI 60) cb_60 d_X_heap_49 ?_
            refine aw_iload rfl d_X_heap_51 ?_
            refine aw_iadd d_X_heap_53 ?_
            refine aw_top (x2 := nI 65) (by decide +kernel) ?_
            refine aw_iald (j := 65) km_1 (vp_in_nI (by decide) (by decide)) (nI_clamp (by decide)) d_X_heap_54 ?_
            refine aw_top (x2 := nI 0) (wh 5 (by decide)) ?_
            refine aw_iaddN d_X_heap_55 ?_
            refine aw_istore_n (lv2 := [.ref 0, .int (nI 2), .int (nI (w1)), .int (nI ((((((w1 + 0) + 0) + 0) + 0) + 0))), .int (nI 5)]) rfl (by decide) rfl d_X_heap_56 ?_
            refine aw_iinc (v := nI 6) (lv2 := [.ref 0, .int (nI 2), .int (nI (w1)), .int (nI ((((((w1 + 0) + 0) + 0) + 0) + 0))), .int (nI 6)]) rfl (by decide +kernel) (by decide) rfl d_X_heap_57 ?_
            refine aw_goto (tgt := 27) (by decide) d_X_heap_60 ?_
            refine aw_iload rfl d_X_heap_27 ?_
            refine aw_bipush (v := nI 8) cb_8 d_X_heap_29 ?_
            refine aw_icmp_gtI (tgt := 63) (6) (8) (by decide +kernel) (by decide +kernel) (by decide) d_X_heap_31 (fun q => absurd q (by decide)) (fun _ => ?_)
            refine aw_iload_n rfl rfl d_X_heap_34 ?_
            refine aw_iload rfl d_X_heap_35 ?_
            refine aw_iload_n rfl rfl d_X_heap_37 ?_
            refine aw_icmp_neI (tgt := 45) (6) (2) (by decide +kernel) (by decide +kernel) (by decide) d_X_heap_38 (fun _ => ?_) (fun q => absurd q (by decide))
            refine aw_aload_n rfl rfl d_X_heap_45 ?_
            refine aw_getr fl_X_7 km_0 (by decide) rfl rm_0_0 d_X_heap_46 ?_
            refine aw_bipush (v := nI 60) cb_60 d_X_heap_49 ?_
            refine aw_iload rfl d_X_heap_51 ?_
            refine aw_iadd d_X_heap_53 ?_
            refine aw_top (x2 := nI 66) (by decide +kernel) ?_
            refine aw_iald (j := 66) km_1 (vp_in_nI (by decide) (by decide)) (nI_clamp (by decide)) d_X_heap_54 ?_
            refine aw_top (x2 := nI 0) (wh 6 (by decide)) ?_
            refine aw_iaddN d_X_heap_55 ?_
            refine aw_istore_n (lv2 := [.ref 0, .int (nI 2), .int (nI (w1)), .int (nI (((((((w1 + 0) + 0) + 0) + 0) + 0) + 0))), .int (nI 6)]) rfl (by decide) rfl d_X_heap_56 ?_
            refine aw_iinc (v := nI 7) (lv2 := [.ref 0, .int (nI 2), .int (nI (w1)), .int (nI (((((((w1 + 0) + 0) + 0) + 0) + 0) + 0))), .int (nI 7)]) rfl (by decide +kernel) (by decide) rfl d_X_heap_57 ?_
            refine aw_goto (tgt := 27) (by decide) d_X_heap_60 ?_
            refine aw_iload rfl d_X_heap_27 ?_
            refine aw_bipush (v := nI 8) cb_8 d_X_heap_29 ?_
            refine aw_icmp_gtI (tgt := 63) (7) (8) (by decide +kernel) (by decide +kernel) (by decide) d_X_heap_31 (fun q => absurd q (by decide)) (fun _ => ?_)
            refine aw_iload_n rfl rfl d_X_heap_34 ?_
            refine aw_iload rfl d_X_heap_35 ?_
            refine aw_iload_n rfl rfl d_X_heap_37 ?_
            refine aw_icmp_neI (tgt := 45) (7) (2) (by decide +kernel) (by decide +kernel) (by decide) d_X_heap_38 (fun _ => ?_) (fun q => absurd q (by decide))
            refine aw_aload_n rfl rfl d_X_heap_45 ?_
            refine aw_getr fl_X_7 km_0 (by decide) rfl rm_0_0 d_X_heap_46 ?_
            refine aw_bipush (v := nI 60) cb_60 d_X_heap_49 ?_
            refine aw_iload rfl d_X_heap_51 ?_
            refine aw_iadd d_X_heap_53 ?_
            refine aw_top (x2 := nI 67) (by decide +kernel) ?_
            refine aw_iald (j := 67) km_1 (vp_in_nI (by decide) (by decide)) (nI_clamp (by decide)) d_X_heap_54 ?_
            refine aw_top (x2 := nI 0) (wh 7 (by decide)) ?_
            refine aw_iaddN d_X_heap_55 ?_
            refine aw_istore_n (lv2 := [.ref 0, .int (nI 2), .int (nI (w1)), .int (nI ((((((((w1 + 0) + 0) + 0) + 0) + 0) + 0) + 0))), .int (nI 7)]) rfl (by decide) rfl d_X_heap_56 ?_
            refine aw_iinc (v := nI 8) (lv2 := [.ref 0, .int (nI 2), .int (nI (w1)), .int (nI ((((((((w1 + 0) + 0) + 0) + 0) + 0) + 0) + 0))), .int (nI 8)]) rfl (by decide +kernel) (by decide) rfl d_X_heap_57 ?_
            refine aw_goto (tgt := 27) (by decide) d_X_heap_60 ?_
            refine aw_iload rfl d_X_heap_27 ?_
            refine aw_bipush (v := nI 8) cb_8 d_X_heap_29 ?_
            refine aw_icmp_gtI (tgt := 63) (8) (8) (by decide +kernel) (by decide +kernel) (by decide) d_X_heap_31 (fun q => absurd q (by decide)) (fun _ => ?_)
            refine aw_iload_n rfl rfl d_X_heap_34 ?_
            refine aw_iload rfl d_X_heap_35 ?_
            refine aw_iload_n rfl rfl d_X_heap_37 ?_
            refine aw_icmp_neI (tgt := 45) (8) (2) (by decide +kernel) (by decide +kernel) (by decide) d_X_heap_38 (fun _ => ?_) (fun q => absurd q (by decide))
            refine aw_aload_n rfl rfl d_X_heap_45 ?_
            refine aw_getr fl_X_7 km_0 (by decide) rfl rm_0_0 d_X_heap_46 ?_
            refine aw_bipush (v := nI 60) cb_60 d_X_heap_49 ?_
            refine aw_iload rfl d_X_heap_51 ?_
            refine aw_iadd d_X_heap_53 ?_
            refine aw_top (x2 := nI 68) (by decide +kernel) ?_
            refine aw_iald (j := 68) km_1 (vp_in_nI (by decide) (by decide)) (nI_clamp (by decide)) d_X_heap_54 ?_
            refine aw_top (x2 := nI 0) (wh 8 (by decide)) ?_
            refine aw_iaddN d_X_heap_55 ?_
            refine aw_istore_n (lv2 := [.ref 0, .int (nI 2), .int (nI (w1)), .int (nI (((((((((w1 + 0) + 0) + 0) + 0) + 0) + 0) + 0) + 0))), .int (nI 8)]) rfl (by decide) rfl d_X_heap_56 ?_
            refine aw_iinc (v := nI 9) (lv2 := [.ref 0, .int (nI 2), .int (nI (w1)), .int (nI (((((((((w1 + 0) + 0) + 0) + 0) + 0) + 0) + 0) + 0))), .int (nI 9)]) rfl (by decide +kernel) (by decide) rfl d_X_heap_57 ?_
            refine aw_goto (tgt := 27) (by decide) d_X_heap_60 ?_
            refine aw_iload rfl d_X_heap_27 ?_
            refine aw_bipush (v := nI 8) cb_8 d_X_heap_29 ?_
            refine aw_icmp_gtI (tgt := 63) (9) (8) (by decide +kernel) (by decide +kernel) (by decide) d_X_heap_31 (fun _ => ?_) (fun q => absurd q (by decide))
            refine aw_iload_n rfl rfl d_X_heap_63 ?_
            refine aw_bipush (v := nI 12) cb_12 d_X_heap_64 ?_
            refine aw_icmp_leI (tgt := 71) ((((((((((w1 + 0) + 0) + 0) + 0) + 0) + 0) + 0) + 0) : Nat) : Int) (12) (nI_toInt (by omega)) (by decide +kernel) (by decide) d_X_heap_66 (fun c6 => ?_) (fun c6 => ?_)
            · refine aw_aload_n rfl rfl d_X_heap_71 ?_
              refine aw_getr fl_X_7 km_0 (by decide) rfl rm_0_0 d_X_heap_72 ?_
              refine aw_bipush (v := nI 60) cb_60 d_X_heap_75 ?_
              refine aw_iload_n rfl rfl d_X_heap_77 ?_
              refine aw_iadd d_X_heap_78 ?_
              refine aw_top (x2 := nI 62) (by decide +kernel) ?_
              refine aw_iload_n rfl rfl d_X_heap_79 ?_
              refine aw_iast (j := 62) km_1 (vp_in_nI (by decide) (by decide)) (nI_clamp (by decide)) d_X_heap_80 ?_
              refine aw_iconst (v := nI 1) ci_1 d_X_heap_81 ?_
              exact as_retz rfl (by decide +kernel) d_X_heap_82 (h1 (by omega) _)
            · refine aw_iconst (v := nI 0) ci_0 d_X_heap_69 ?_
              exact as_retz rfl (by decide +kernel) d_X_heap_70 (h0 (by omega) _)
          · refine aw_iconst (v := nI 1) ci_1 d_X_heap_24 ?_
            refine aw_istore (lv2 := [.ref 0, .int (nI 3), .int (nI (w1)), .int (nI (w1)), .int (nI 1)]) (by decide) rfl d_X_heap_25 ?_
            refine aw_iload rfl d_X_heap_27 ?_
            refine aw_bipush (v := nI 8) cb_8 d_X_heap_29 ?_
            refine aw_icmp_gtI (tgt := 63) (1) (8) (by decide +kernel) (by decide +kernel) (by decide) d_X_heap_31 (fun q => absurd q (by decide)) (fun _ => ?_)
            refine aw_iload_n rfl rfl d_X_heap_34 ?_
            refine aw_iload rfl d_X_heap_35 ?_
            refine aw_iload_n rfl rfl d_X_heap_37 ?_
            refine aw_icmp_neI (tgt := 45) (1) (3) (by decide +kernel) (by decide +kernel) (by decide) d_X_heap_38 (fun _ => ?_) (fun q => absurd q (by decide))
            refine aw_aload_n rfl rfl d_X_heap_45 ?_
            refine aw_getr fl_X_7 km_0 (by decide) rfl rm_0_0 d_X_heap_46 ?_
            refine aw_bipush (v := nI 60) cb_60 d_X_heap_49 ?_
            refine aw_iload rfl d_X_heap_51 ?_
            refine aw_iadd d_X_heap_53 ?_
            refine aw_top (x2 := nI 61) (by decide +kernel) ?_
            refine aw_iald (j := 61) km_1 (vp_in_nI (by decide) (by decide)) (nI_clamp (by decide)) d_X_heap_54 ?_
            refine aw_top (x2 := nI 0) (wh 1 (by decide)) ?_
            refine aw_iaddN d_X_heap_55 ?_
            refine aw_istore_n (lv2 := [.ref 0, .int (nI 3), .int (nI (w1)), .int (nI ((w1 + 0))), .int (nI 1)]) rfl (by decide) rfl d_X_heap_56 ?_
            refine aw_iinc (v := nI 2) (lv2 := [.ref 0, .int (nI 3), .int (nI (w1)), .int (nI ((w1 + 0))), .int (nI 2)]) rfl (by decide +kernel) (by decide) rfl d_X_heap_57 ?_
            refine aw_goto (tgt := 27) (by decide) d_X_heap_60 ?_
            refine aw_iload rfl d_X_heap_27 ?_
            refine aw_bipush (v := nI 8) cb_8 d_X_heap_29 ?_
            refine aw_icmp_gtI (tgt := 63) (2) (8) (by decide +kernel) (by decide +kernel) (by decide) d_X_heap_31 (fun q => absurd q (by decide)) (fun _ => ?_)
            refine aw_iload_n rfl rfl d_X_heap_34 ?_
            refine aw_iload rfl d_X_heap_35 ?_
            refine aw_iload_n rfl rfl d_X_heap_37 ?_
            refine aw_icmp_neI (tgt := 45) (2) (3) (by decide +kernel) (by decide +kernel) (by decide) d_X_heap_38 (fun _ => ?_) (fun q => absurd q (by decide))
            refine aw_aload_n rfl rfl d_X_heap_45 ?_
            refine aw_getr fl_X_7 km_0 (by decide) rfl rm_0_0 d_X_heap_46 ?_
            refine aw_bipush (v := nI 60) cb_60 d_X_heap_49 ?_
            refine aw_iload rfl d_X_heap_51 ?_
            refine aw_iadd d_X_heap_53 ?_
            refine aw_top (x2 := nI 62) (by decide +kernel) ?_
            refine aw_iald (j := 62) km_1 (vp_in_nI (by decide) (by decide)) (nI_clamp (by decide)) d_X_heap_54 ?_
            refine aw_top (x2 := nI 0) (wh 2 (by decide)) ?_
            refine aw_iaddN d_X_heap_55 ?_
            refine aw_istore_n (lv2 := [.ref 0, .int (nI 3), .int (nI (w1)), .int (nI (((w1 + 0) + 0))), .int (nI 2)]) rfl (by decide) rfl d_X_heap_56 ?_
            refine aw_iinc (v := nI 3) (lv2 := [.ref 0, .int (nI 3), .int (nI (w1)), .int (nI (((w1 + 0) + 0))), .int (nI 3)]) rfl (by decide +kernel) (by decide) rfl d_X_heap_57 ?_
            refine aw_goto (tgt := 27) (by decide) d_X_heap_60 ?_
            refine aw_iload rfl d_X_heap_27 ?_
            refine aw_bipush (v := nI 8) cb_8 d_X_heap_29 ?_
            refine aw_icmp_gtI (tgt := 63) (3) (8) (by decide +kernel) (by decide +kernel) (by decide) d_X_heap_31 (fun q => absurd q (by decide)) (fun _ => ?_)
            refine aw_iload_n rfl rfl d_X_heap_34 ?_
            refine aw_iload rfl d_X_heap_35 ?_
            refine aw_iload_n rfl rfl d_X_heap_37 ?_
            refine aw_icmp_neI (tgt := 45) (3) (3) (by decide +kernel) (by decide +kernel) (by decide) d_X_heap_38 (fun q => absurd q (by decide)) (fun _ => ?_)
            refine aw_iconst (v := nI 0) ci_0 d_X_heap_41 ?_
            refine aw_goto (tgt := 55) (by decide) d_X_heap_42 ?_
            refine aw_iaddN d_X_heap_55 ?_
            refine aw_istore_n (lv2 := [.ref 0, .int (nI 3), .int (nI (w1)), .int (nI ((((w1 + 0) + 0) + 0))), .int (nI 3)]) rfl (by decide) rfl d_X_heap_56 ?_
            refine aw_iinc (v := nI 4) (lv2 := [.ref 0, .int (nI 3), .int (nI (w1)), .int (nI ((((w1 + 0) + 0) + 0))), .int (nI 4)]) rfl (by decide +kernel) (by decide) rfl d_X_heap_57 ?_
            refine aw_goto (tgt := 27) (by decide) d_X_heap_60 ?_
            refine aw_iload rfl d_X_heap_27 ?_
            refine aw_bipush (v := nI 8) cb_8 d_X_heap_29 ?_
            refine aw_icmp_gtI (tgt := 63) (4) (8) (by decide +kernel) (by decide +kernel) (by decide) d_X_heap_31 (fun q => absurd q (by decide)) (fun _ => ?_)
            refine aw_iload_n rfl rfl d_X_heap_34 ?_
            refine aw_iload rfl d_X_heap_35 ?_
            refine aw_iload_n rfl rfl d_X_heap_37 ?_
            refine aw_icmp_neI (tgt := 45) (4) (3) (by decide +kernel) (by decide +kernel) (by decide) d_X_heap_38 (fun _ => ?_) (fun q => absurd q (by decide))
            refine aw_aload_n rfl rfl d_X_heap_45 ?_
            refine aw_getr fl_X_7 km_0 (by decide) rfl rm_0_0 d_X_heap_46 ?_
            refine aw_bipush (v := nI 60) cb_60 d_X_heap_49 ?_
            refine aw_iload rfl d_X_heap_51 ?_
            refine aw_iadd d_X_heap_53 ?_
            refine aw_top (x2 := nI 64) (by decide +kernel) ?_
            refine aw_iald (j := 64) km_1 (vp_in_nI (by decide) (by decide)) (nI_clamp (by decide)) d_X_heap_54 ?_
            refine aw_top (x2 := nI 0) (wh 4 (by decide)) ?_
            refine aw_iaddN d_X_heap_55 ?_
            refine aw_istore_n (lv2 := [.ref 0, .int (nI 3), .int (nI (w1)), .int (nI (((((w1 + 0) + 0) + 0) + 0))), .int (nI 4)]) rfl (by decide) rfl d_X_heap_56 ?_
            refine aw_iinc (v := nI 5) (lv2 := [.ref 0, .int (nI 3), .int (nI (w1)), .int (nI (((((w1 + 0) + 0) + 0) + 0))), .int (nI 5)]) rfl (by decide +kernel) (by decide) rfl d_X_heap_57 ?_
            refine aw_goto (tgt := 27) (by decide) d_X_heap_60 ?_
            refine aw_iload rfl d_X_heap_27 ?_
            refine aw_bipush (v := nI 8) cb_8 d_X_heap_29 ?_
            refine aw_icmp_gtI (tgt := 63) (5) (8) (by decide +kernel) (by decide +kernel) (by decide) d_X_heap_31 (fun q => absurd q (by decide)) (fun _ => ?_)
            refine aw_iload_n rfl rfl d_X_heap_34 ?_
            refine aw_iload rfl d_X_heap_35 ?_
            refine aw_iload_n rfl rfl d_X_heap_37 ?_
            refine aw_icmp_neI (tgt := 45) (5) (3) (by decide +kernel) (by decide +kernel) (by decide) d_X_heap_38 (fun _ => ?_) (fun q => absurd q (by decide))
            refine aw_aload_n rfl rfl d_X_heap_45 ?_
            refine aw_getr fl_X_7 km_0 (by decide) rfl rm_0_0 d_X_heap_46 ?_
            refine aw_bipush (v := nI 60) cb_60 d_X_heap_49 ?_
            refine aw_iload rfl d_X_heap_51 ?_
            refine aw_iadd d_X_heap_53 ?_
            refine aw_top (x2 := nI 65) (by decide +kernel) ?_
            refine aw_iald (j := 65) km_1 (vp_in_nI (by decide) (by decide)) (nI_clamp (by decide)) d_X_heap_54 ?_
            refine aw_top (x2 := nI 0) (wh 5 (by decide)) ?_
            refine aw_iaddN d_X_heap_55 ?_
            refine aw_istore_n (lv2 := [.ref 0, .int (nI 3), .int (nI (w1)), .int (nI ((((((w1 + 0) + 0) + 0) + 0) + 0))), .int (nI 5)]) rfl (by decide) rfl d_X_heap_56 ?_
            refine aw_iinc (v := nI 6) (lv2 := [.ref 0, .int (nI 3), .int (nI (w1)), .int (nI ((((((w1 + 0) + 0) + 0) + 0) + 0))), .int (nI 6)]) rfl (by decide +kernel) (by decide) rfl d_X_heap_57 ?_
            refine aw_goto (tgt := 27) (by decide) d_X_heap_60 ?_
            refine aw_iload rfl d_X_heap_27 ?_
            refine aw_bipush (v := nI 8) cb_8 d_X_heap_29 ?_
            refine aw_icmp_gtI (tgt := 63) (6) (8) (by decide +kernel) (by decide +kernel) (by decide) d_X_heap_31 (fun q => absurd q (by decide)) (fun _ => ?_)
            refine aw_iload_n rfl rfl d_X_heap_34 ?_
            refine aw_iload rfl d_X_heap_35 ?_
            refine aw_iload_n rfl rfl d_X_heap_37 ?_
            refine aw_icmp_neI (tgt := 45) (6) (3) (by decide +kernel) (by decide +kernel) (by decide) d_X_heap_38 (fun _ => ?_) (fun q => absurd q (by decide))
            refine aw_aload_n rfl rfl d_X_heap_45 ?_
            refine aw_getr fl_X_7 km_0 (by decide) rfl rm_0_0 d_X_heap_46 ?_
            refine aw_bipush (v := nI 60) cb_60 d_X_heap_49 ?_
            refine aw_iload rfl d_X_heap_51 ?_
            refine aw_iadd d_X_heap_53 ?_
            refine aw_top (x2 := nI 66) (by decide +kernel) ?_
            refine aw_iald (j := 66) km_1 (vp_in_nI (by decide) (by decide)) (nI_clamp (by decide)) d_X_heap_54 ?_
            refine aw_top (x2 := nI 0) (wh 6 (by decide)) ?_
            refine aw_iaddN d_X_heap_55 ?_
            refine aw_istore_n (lv2 := [.ref 0, .int (nI 3), .int (nI (w1)), .int (nI (((((((w1 + 0) + 0) + 0) + 0) + 0) + 0))), .int (nI 6)]) rfl (by decide) rfl d_X_heap_56 ?_
            refine aw_iinc (v := nI 7) (lv2 := [.ref 0, .int (nI 3), .int (nI (w1)), .int (nI (((((((w1 + 0) + 0) + 0) + 0) + 0) + 0))), .int (nI 7)]) rfl (by decide +kernel) (by decide) rfl d_X_heap_57 ?_
            refine aw_goto (tgt := 27) (by decide) d_X_heap_60 ?_
            refine aw_iload rfl d_X_heap_27 ?_
            refine aw_bipush (v := nI 8) cb_8 d_X_heap_29 ?_
            refine aw_icmp_gtI (tgt := 63) (7) (8) (by decide +kernel) (by decide +kernel) (by decide) d_X_heap_31 (fun q => absurd q (by decide)) (fun _ => ?_)
            refine aw_iload_n rfl rfl d_X_heap_34 ?_
            refine aw_iload rfl d_X_heap_35 ?_
            refine aw_iload_n rfl rfl d_X_heap_37 ?_
            refine aw_icmp_neI (tgt := 45) (7) (3) (by decide +kernel) (by decide +kernel) (by decide) d_X_heap_38 (fun _ => ?_) (fun q => absurd q (by decide))
            refine aw_aload_n rfl rfl d_X_heap_45 ?_
            refine aw_getr fl_X_7 km_0 (by decide) rfl rm_0_0 d_X_heap_46 ?_
            refine aw_bipush (v := nI 60) cb_60 d_X_heap_49 ?_
            refine aw_iload rfl d_X_heap_51 ?_
            refine aw_iadd d_X_heap_53 ?_
            refine aw_top (x2 := nI 67) (by decide +kernel) ?_
            refine aw_iald (j := 67) km_1 (vp_in_nI (by decide) (by decide)) (nI_clamp (by decide)) d_X_heap_54 ?_
            refine aw_top (x2 := nI 0) (wh 7 (by decide)) ?_
            refine aw_iaddN d_X_heap_55 ?_
            refine aw_istore_n (lv2 := [.ref 0, .int (nI 3), .int (nI (w1)), .int (nI ((((((((w1 + 0) + 0) + 0) + 0) + 0) + 0) + 0))), .int (nI 7)]) rfl (by decide) rfl d_X_heap_56 ?_
            refine aw_iinc (v := nI 8) (lv2 := [.ref 0, .int (nI 3), .int (nI (w1)), .int (nI ((((((((w1 + 0) + 0) + 0) + 0) + 0) + 0) + 0))), .int (nI 8)]) rfl (by decide +kernel) (by decide) rfl d_X_heap_57 ?_
            refine aw_goto (tgt := 27) (by decide) d_X_heap_60 ?_
            refine aw_iload rfl d_X_heap_27 ?_
            refine aw_bipush (v := nI 8) cb_8 d_X_heap_29 ?_
            refine aw_icmp_gtI (tgt := 63) (8) (8) (by decide +kernel) (by decide +kernel) (by decide) d_X_heap_31 (fun q => absurd q (by decide)) (fun _ => ?_)
            refine aw_iload_n rfl rfl d_X_heap_34 ?_
            refine aw_iload rfl d_X_heap_35 ?_
            refine aw_iload_n rfl rfl d_X_heap_37 ?_
            refine aw_icmp_neI (tgt := 45) (8) (3) (by decide +kernel) (by decide +kernel) (by decide) d_X_heap_38 (fun _ => ?_) (fun q => absurd q (by decide))
            refine aw_aload_n rfl rfl d_X_heap_45 ?_
            refine aw_getr fl_X_7 km_0 (by decide) rfl rm_0_0 d_X_heap_46 ?_
            refine aw_bipush (v := nI 60) cb_60 d_X_heap_49 ?_
            refine aw_iload rfl d_X_heap_51 ?_
            refine aw_iadd d_X_heap_53 ?_
            refine aw_top (x2 := nI 68) (by decide +kernel) ?_
            refine aw_iald (j := 68) km_1 (vp_in_nI (by decide) (by decide)) (nI_clamp (by decide)) d_X_heap_54 ?_
            refine aw_top (x2 := nI 0) (wh 8 (by decide)) ?_
            refine aw_iaddN d_X_heap_55 ?_
            refine aw_istore_n (lv2 := [.ref 0, .int (nI 3), .int (nI (w1)), .int (nI (((((((((w1 + 0) + 0) + 0) + 0) + 0) + 0) + 0) + 0))), .int (nI 8)]) rfl (by decide) rfl d_X_heap_56 ?_
            refine aw_iinc (v := nI 9) (lv2 := [.ref 0, .int (nI 3), .int (nI (w1)), .int (nI (((((((((w1 + 0) + 0) + 0) + 0) + 0) + 0) + 0) + 0))), .int (nI 9)]) rfl (by decide +kernel) (by decide) rfl d_X_heap_57 ?_
            refine aw_goto (tgt := 27) (by decide) d_X_heap_60 ?_
            refine aw_iload rfl d_X_heap_27 ?_
            refine aw_bipush (v := nI 8) cb_8 d_X_heap_29 ?_
            refine aw_icmp_gtI (tgt := 63) (9) (8) (by decide +kernel) (by decide +kernel) (by decide) d_X_heap_31 (fun _ => ?_) (fun q => absurd q (by decide))
            refine aw_iload_n rfl rfl d_X_heap_63 ?_
            refine aw_bipush (v := nI 12) cb_12 d_X_heap_64 ?_
            refine aw_icmp_leI (tgt := 71) ((((((((((w1 + 0) + 0) + 0) + 0) + 0) + 0) + 0) + 0) : Nat) : Int) (12) (nI_toInt (by omega)) (by decide +kernel) (by decide) d_X_heap_66 (fun c7 => ?_) (fun c7 => ?_)
            · refine aw_aload_n rfl rfl d_X_heap_71 ?_
              refine aw_getr fl_X_7 km_0 (by decide) rfl rm_0_0 d_X_heap_72 ?_
              refine aw_bipush (v := nI 60) cb_60 d_X_heap_75 ?_
              refine aw_iload_n rfl rfl d_X_heap_77 ?_
              refine aw_iadd d_X_heap_78 ?_
              refine aw_top (x2 := nI 63) (by decide +kernel) ?_
              refine aw_iload_n rfl rfl d_X_heap_79 ?_
              refine aw_iast (j := 63) km_1 (vp_in_nI (by decide) (by decide)) (nI_clamp (by decide)) d_X_heap_80 ?_
              refine aw_iconst (v := nI 1) ci_1 d_X_heap_81 ?_
              exact as_retz rfl (by decide +kernel) d_X_heap_82 (h1 (by omega) _)
            · refine aw_iconst (v := nI 0) ci_0 d_X_heap_69 ?_
              exact as_retz rfl (by decide +kernel) d_X_heap_70 (h0 (by omega) _)
          · refine aw_iconst (v := nI 1) ci_1 d_X_heap_24 ?_
            refine aw_istore (lv2 := [.ref 0, .int (nI 4), .int (nI (w1)), .int (nI (w1)), .int (nI 1)]) (by decide) rfl d_X_heap_25 ?_
            refine aw_iload rfl d_X_heap_27 ?_
            refine aw_bipush (v := nI 8) cb_8 d_X_heap_29 ?_
            refine aw_icmp_gtI (tgt := 63) (1) (8) (by decide +kernel) (by decide +kernel) (by decide) d_X_heap_31 (fun q => absurd q (by decide)) (fun _ => ?_)
            refine aw_iload_n rfl rfl d_X_heap_34 ?_
            refine aw_iload rfl d_X_heap_35 ?_
            refine aw_iload_n rfl rfl d_X_heap_37 ?_
            refine aw_icmp_neI (tgt := 45) (1) (4) (by decide +kernel) (by decide +kernel) (by decide) d_X_heap_38 (fun _ => ?_) (fun q => absurd q (by decide))
            refine aw_aload_n rfl rfl d_X_heap_45 ?_
            refine aw_getr fl_X_7 km_0 (by decide) rfl rm_0_0 d_X_heap_46 ?_
            refine aw_bipush (v := nI 60) cb_60 d_X_heap_49 ?_
            refine aw_iload rfl d_X_heap_51 ?_
            refine aw_iadd d_X_heap_53 ?_
            refine aw_top (x2 := nI 61) (by decide +kernel) ?_
            refine aw_iald (j := 61) km_1 (vp_in_nI (by decide) (by decide)) (nI_clamp (by decide)) d_X_heap_54 ?_
            refine aw_top (x2 := nI 0) (wh 1 (by decide)) ?_
            refine aw_iaddN d_X_heap_55 ?_
            refine aw_istore_n (lv2 := [.ref 0, .int (nI 4), .int (nI (w1)), .int (nI ((w1 + 0))), .int (nI 1)]) rfl (by decide) rfl d_X_heap_56 ?_
            refine aw_iinc (v := nI 2) (lv2 := [.ref 0, .int (nI 4), .int (nI (w1)), .int (nI ((w1 + 0))), .int (nI 2)]) rfl (by decide +kernel) (by decide) rfl d_X_heap_57 ?_
            refine aw_goto (tgt := 27) (by decide) d_X_heap_60 ?_
            refine aw_iload rfl d_X_heap_27 ?_
            refine aw_bipush (v := nI 8) cb_8 d_X_heap_29 ?_
            refine aw_icmp_gtI (tgt := 63) (2) (8) (by decide +kernel) (by decide +kernel) (by decide) d_X_heap_31 (fun q => absurd q (by decide)) (fun _ => ?_)
            refine aw_iload_n rfl rfl d_X_heap_34 ?_
            refine aw_iload rfl d_X_heap_35 ?_
            refine aw_iload_n rfl rfl d_X_heap_37 ?_
            refine aw_icmp_neI (tgt := 45) (2) (4) (by decide +kernel) (by decide +kernel) (by decide) d_X_heap_38 (fun _ => ?_) (fun q => absurd q (by decide))
            refine aw_aload_n rfl rfl d_X_heap_45 ?_
            refine aw_getr fl_X_7 km_0 (by decide) rfl rm_0_0 d_X_heap_46 ?_
            refine aw_bipush (v := nI 60) cb_60 d_X_heap_49 ?_
            refine aw_iload rfl d_X_heap_51 ?_
            refine aw_iadd d_X_heap_53 ?_
            refine aw_top (x2 := nI 62) (by decide +kernel) ?_
            refine aw_iald (j := 62) km_1 (vp_in_nI (by decide) (by decide)) (nI_clamp (by decide)) d_X_heap_54 ?_
            refine aw_top (x2 := nI 0) (wh 2 (by decide)) ?_
            refine aw_iaddN d_X_heap_55 ?_
            refine aw_istore_n (lv2 := [.ref 0, .int (nI 4), .int (nI (w1)), .int (nI (((w1 + 0) + 0))), .int (nI 2)]) rfl (by decide) rfl d_X_heap_56 ?_
            refine aw_iinc (v := nI 3) (lv2 := [.ref 0, .int (nI 4), .int (nI (w1)), .int (nI (((w1 + 0) + 0))), .int (nI 3)]) rfl (by decide +kernel) (by decide) rfl d_X_heap_57 ?_
            refine aw_goto (tgt := 27) (by decide) d_X_heap_60 ?_
            refine aw_iload rfl d_X_heap_27 ?_
            refine aw_bipush (v := nI 8) cb_8 d_X_heap_29 ?_
            refine aw_icmp_gtI (tgt := 63) (3) (8) (by decide +kernel) (by decide +kernel) (by decide) d_X_heap_31 (fun q => absurd q (by decide)) (fun _ => ?_)
            refine aw_iload_n rfl rfl d_X_heap_34 ?_
            refine aw_iload rfl d_X_heap_35 ?_
            refine aw_iload_n rfl rfl d_X_heap_37 ?_
            refine aw_icmp_neI (tgt := 45) (3) (4) (by decide +kernel) (by decide +kernel) (by decide) d_X_heap_38 (fun _ => ?_) (fun q => absurd q (by decide))
            refine aw_aload_n rfl rfl d_X_heap_45 ?_
            refine aw_getr fl_X_7 km_0 (by decide) rfl rm_0_0 d_X_heap_46 ?_
            refine aw_bipush (v := nI 60) cb_60 d_X_heap_49 ?_
            refine aw_iload rfl d_X_heap_51 ?_
            refine aw_iadd d_X_heap_53 ?_
            refine aw_top (x2 := nI 63) (by decide +kernel) ?_
            refine aw_iald (j := 63) km_1 (vp_in_nI (by decide) (by decide)) (nI_clamp (by decide)) d_X_heap_54 ?_
            refine aw_top (x2 := nI 0) (wh 3 (by decide)) ?_
            refine aw_iaddN d_X_heap_55 ?_
            refine aw_istore_n (lv2 := [.ref 0, .int (nI 4), .int (nI (w1)), .int (nI ((((w1 + 0) + 0) + 0))), .int (nI 3)]) rfl (by decide) rfl d_X_heap_56 ?_
            refine aw_iinc (v := nI 4) (lv2 := [.ref 0, .int (nI 4), .int (nI (w1)), .int (nI ((((w1 + 0) + 0) + 0))), .int (nI 4)]) rfl (by decide +kernel) (by decide) rfl d_X_heap_57 ?_
            refine aw_goto (tgt := 27) (by decide) d_X_heap_60 ?_
            refine aw_iload rfl d_X_heap_27 ?_
            refine aw_bipush (v := nI 8) cb_8 d_X_heap_29 ?_
            refine aw_icmp_gtI (tgt := 63) (4) (8) (by decide +kernel) (by decide +kernel) (by decide) d_X_heap_31 (fun q => absurd q (by decide)) (fun _ => ?_)
            refine aw_iload_n rfl rfl d_X_heap_34 ?_
            refine aw_iload rfl d_X_heap_35 ?_
            refine aw_iload_n rfl rfl d_X_heap_37 ?_
            refine aw_icmp_neI (tgt := 45) (4) (4) (by decide +kernel) (by decide +kernel) (by decide) d_X_heap_38 (fun q => absurd q (by decide)) (fun _ => ?_)
            refine aw_iconst (v := nI 0) ci_0 d_X_heap_41 ?_
            refine aw_goto (tgt := 55) (by decide) d_X_heap_42 ?_
            refine aw_iaddN d_X_heap_55 ?_
            refine aw_istore_n (lv2 := [.ref 0, .int (nI 4), .int (nI (w1)), .int (nI (((((w1 + 0) + 0) + 0) + 0))), .int (nI 4)]) rfl (by decide) rfl d_X_heap_56 ?_
            refine aw_iinc (v := nI 5) (lv2 := [.ref 0, .int (nI 4), .int (nI (w1)), .int (nI (((((w1 + 0) + 0) + 0) + 0))), .int (nI 5)]) rfl (by decide +kernel) (by decide) rfl d_X_heap_57 ?_
            refine aw_goto (tgt := 27) (by decide) d_X_heap_60 ?_
            refine aw_iload rfl d_X_heap_27 ?_
            refine aw_bipush (v := nI 8) cb_8 d_X_heap_29 ?_
            refine aw_icmp_gtI (tgt := 63) (5) (8) (by decide +kernel) (by decide +kernel) (by decide) d_X_heap_31 (fun q => absurd q (by decide)) (fun _ => ?_)
            refine aw_iload_n rfl rfl d_X_heap_34 ?_
            refine aw_iload rfl d_X_heap_35 ?_
            refine aw_iload_n rfl rfl d_X_heap_37 ?_
            refine aw_icmp_neI (tgt := 45) (5) (4) (by decide +kernel) (by decide +kernel) (by decide) d_X_heap_38 (fun _ => ?_) (fun q => absurd q (by decide))
            refine aw_aload_n rfl rfl d_X_heap_45 ?_
            refine aw_getr fl_X_7 km_0 (by decide) rfl rm_0_0 d_X_heap_46 ?_
            refine aw_bipush (v := nI 60) cb_60 d_X_heap_49 ?_
            refine aw_iload rfl d_X_heap_51 ?_
            refine aw_iadd d_X_heap_53 ?_
            refine aw_top (x2 := nI 65) (by decide +kernel) ?_
            refine aw_iald (j := 65) km_1 (vp_in_nI (by decide) (by decide)) (nI_clamp (by decide)) d_X_heap_54 ?_
            refine aw_top (x2 := nI 0) (wh 5 (by decide)) ?_
            refine aw_iaddN d_X_heap_55 ?_
            refine aw_istore_n (lv2 := [.ref 0, .int (nI 4), .int (nI (w1)), .int (nI ((((((w1 + 0) + 0) + 0) + 0) + 0))), .int (nI 5)]) rfl (by decide) rfl d_X_heap_56 ?_
            refine aw_iinc (v := nI 6) (lv2 := [.ref 0, .int (nI 4), .int (nI (w1)), .int (nI ((((((w1 + 0) + 0) + 0) + 0) + 0))), .int (nI 6)]) rfl (by decide +kernel) (by decide) rfl d_X_heap_57 ?_
            refine aw_goto (tgt := 27) (by decide) d_X_heap_60 ?_
            refine aw_iload rfl d_X_heap_27 ?_
            refine aw_bipush (v := nI 8) cb_8 d_X_heap_29 ?_
            refine aw_icmp_gtI (tgt := 63) (6) (8) (by decide +kernel) (by decide +kernel) (by decide) d_X_heap_31 (fun q => absurd q (by decide)) (fun _ => ?_)
            refine aw_iload_n rfl rfl d_X_heap_34 ?_
            refine aw_iload rfl d_X_heap_35 ?_
            refine aw_iload_n rfl rfl d_X_heap_37 ?_
            refine aw_icmp_neI (tgt := 45) (6) (4) (by decide +kernel) (by decide +kernel) (by decide) d_X_heap_38 (fun _ => ?_) (fun q => absurd q (by decide))
            refine aw_aload_n rfl rfl d_X_heap_45 ?_
            refine aw_getr fl_X_7 km_0 (by decide) rfl rm_0_0 d_X_heap_46 ?_
            refine aw_bipush (v := nI 60) cb_60 d_X_heap_49 ?_
            refine aw_iload rfl d_X_heap_51 ?_
            refine aw_iadd d_X_heap_53 ?_
            refine aw_top (x2 := nI 66) (by decide +kernel) ?_
            refine aw_iald (j := 66) km_1 (vp_in_nI (by decide) (by decide)) (nI_clamp (by decide)) d_X_heap_54 ?_
            refine aw_top (x2 := nI 0) (wh 6 (by decide)) ?_
            refine aw_iaddN d_X_heap_55 ?_
            refine aw_istore_n (lv2 := [.ref 0, .int (nI 4), .int (nI (w1)), .int (nI (((((((w1 + 0) + 0) + 0) + 0) + 0) + 0))), .int (nI 6)]) rfl (by decide) rfl d_X_heap_56 ?_
            refine aw_iinc (v := nI 7) (lv2 := [.ref 0, .int (nI 4), .int (nI (w1)), .int (nI (((((((w1 + 0) + 0) + 0) + 0) + 0) + 0))), .int (nI 7)]) rfl (by decide +kernel) (by decide) rfl d_X_heap_57 ?_
            refine aw_goto (tgt := 27) (by decide) d_X_heap_60 ?_
            refine aw_iload rfl d_X_heap_27 ?_
            refine aw_bipush (v := nI 8) cb_8 d_X_heap_29 ?_
            refine aw_icmp_gtI (tgt := 63) (7) (8) (by decide +kernel) (by decide +kernel) (by decide) d_X_heap_31 (fun q => absurd q (by decide)) (fun _ => ?_)
            refine aw_iload_n rfl rfl d_X_heap_34 ?_
            refine aw_iload rfl d_X_heap_35 ?_
            refine aw_iload_n rfl rfl d_X_heap_37 ?_
            refine aw_icmp_neI (tgt := 45) (7) (4) (by decide +kernel) (by decide +kernel) (by decide) d_X_heap_38 (fun _ => ?_) (fun q => absurd q (by decide))
            refine aw_aload_n rfl rfl d_X_heap_45 ?_
            refine aw_getr fl_X_7 km_0 (by decide) rfl rm_0_0 d_X_heap_46 ?_
            refine aw_bipush (v := nI 60) cb_60 d_X_heap_49 ?_
            refine aw_iload rfl d_X_heap_51 ?_
            refine aw_iadd d_X_heap_53 ?_
            refine aw_top (x2 := nI 67) (by decide +kernel) ?_
            refine aw_iald (j := 67) km_1 (vp_in_nI (by decide) (by decide)) (nI_clamp (by decide)) d_X_heap_54 ?_
            refine aw_top (x2 := nI 0) (wh 7 (by decide)) ?_
            refine aw_iaddN d_X_heap_55 ?_
            refine aw_istore_n (lv2 := [.ref 0, .int (nI 4), .int (nI (w1)), .int (nI ((((((((w1 + 0) + 0) + 0) + 0) + 0) + 0) + 0))), .int (nI 7)]) rfl (by decide) rfl d_X_heap_56 ?_
            refine aw_iinc (v := nI 8) (lv2 := [.ref 0, .int (nI 4), .int (nI (w1)), .int (nI ((((((((w1 + 0) + 0) + 0) + 0) + 0) + 0) + 0))), .int (nI 8)]) rfl (by decide +kernel) (by decide) rfl d_X_heap_57 ?_
            refine aw_goto (tgt := 27) (by decide) d_X_heap_60 ?_
            refine aw_iload rfl d_X_heap_27 ?_
            refine aw_bipush (v := nI 8) cb_8 d_X_heap_29 ?_
            refine aw_icmp_gtI (tgt := 63) (8) (8) (by decide +kernel) (by decide +kernel) (by decide) d_X_heap_31 (fun q => absurd q (by decide)) (fun _ => ?_)
            refine aw_iload_n rfl rfl d_X_heap_34 ?_
            refine aw_iload rfl d_X_heap_35 ?_
            refine aw_iload_n rfl rfl d_X_heap_37 ?_
            refine aw_icmp_neI (tgt := 45) (8) (4) (by decide +kernel) (by decide +kernel) (by decide) d_X_heap_38 (fun _ => ?_) (fun q => absurd q (by decide))
            refine aw_aload_n rfl rfl d_X_heap_45 ?_
            refine aw_getr fl_X_7 km_0 (by decide) rfl rm_0_0 d_X_heap_46 ?_
            refine aw_bipush (v := nI 60) cb_60 d_X_heap_49 ?_
            refine aw_iload rfl d_X_heap_51 ?_
            refine aw_iadd d_X_heap_53 ?_
            refine aw_top (x2 := nI 68) (by decide +kernel) ?_
            refine aw_iald (j := 68) km_1 (vp_in_nI (by decide) (by decide)) (nI_clamp (by decide)) d_X_heap_54 ?_
            refine aw_top (x2 := nI 0) (wh 8 (by decide)) ?_
            refine aw_iaddN d_X_heap_55 ?_
            refine aw_istore_n (lv2 := [.ref 0, .int (nI 4), .int (nI (w1)), .int (nI (((((((((w1 + 0) + 0) + 0) + 0) + 0) + 0) + 0) + 0))), .int (nI 8)]) rfl (by decide) rfl d_X_heap_56 ?_
            refine aw_iinc (v := nI 9) (lv2 := [.ref 0, .int (nI 4), .int (nI (w1)), .int (nI (((((((((w1 + 0) + 0) + 0) + 0) + 0) + 0) + 0) + 0))), .int (nI 9)]) rfl (by decide +kernel) (by decide) rfl d_X_heap_57 ?_
            refine aw_goto (tgt := 27) (by decide) d_X_heap_60 ?_
            refine aw_iload rfl d_X_heap_27 ?_
            refine aw_bipush (v := nI 8) cb_8 d_X_heap_29 ?_
            refine aw_icmp_gtI (tgt := 63) (9) (8) (by decide +kernel) (by decide +kernel) (by decide) d_X_heap_31 (fun _ => ?_) (fun q => absurd q (by decide))
            refine aw_iload_n rfl rfl d_X_heap_63 ?_
            refine aw_bipush (v := nI 12) cb_12 d_X_heap_64 ?_
            refine aw_icmp_leI (tgt := 71) ((((((((((w1 + 0) + 0) + 0) + 0) + 0) + 0) + 0) + 0) : Nat) : Int) (12) (nI_toInt (by omega)) (by decide +kernel) (by decide) d_X_heap_66 (fun c8 => ?_) (fun c8 => ?_)
            · refine aw_aload_n rfl rfl d_X_heap_71 ?_
              refine aw_getr fl_X_7 km_0 (by decide) rfl rm_0_0 d_X_heap_72 ?_
              refine aw_bipush (v := nI 60) cb_60 d_X_heap_75 ?_
              refine aw_iload_n rfl rfl d_X_heap_77 ?_
              refine aw_iadd d_X_heap_78 ?_
              refine aw_top (x2 := nI 64) (by decide +kernel) ?_
              refine aw_iload_n rfl rfl d_X_heap_79 ?_
              refine aw_iast (j := 64) km_1 (vp_in_nI (by decide) (by decide)) (nI_clamp (by decide)) d_X_heap_80 ?_
              refine aw_iconst (v := nI 1) ci_1 d_X_heap_81 ?_
              exact as_retz rfl (by decide +kernel) d_X_heap_82 (h1 (by omega) _)
            · refine aw_iconst (v := nI 0) ci_0 d_X_heap_69 ?_
              exact as_retz rfl (by decide +kernel) d_X_heap_70 (h0 (by omega) _)
          · refine aw_iconst (v := nI 1) ci_1 d_X_heap_24 ?_
            refine aw_istore (lv2 := [.ref 0, .int (nI 5), .int (nI (w1)), .int (nI (w1)), .int (nI 1)]) (by decide) rfl d_X_heap_25 ?_
            refine aw_iload rfl d_X_heap_27 ?_
            refine aw_bipush (v := nI 8) cb_8 d_X_heap_29 ?_
            refine aw_icmp_gtI (tgt := 63) (1) (8) (by decide +kernel) (by decide +kernel) (by decide) d_X_heap_31 (fun q => absurd q (by decide)) (fun _ => ?_)
            refine aw_iload_n rfl rfl d_X_heap_34 ?_
            refine aw_iload rfl d_X_heap_35 ?_
            refine aw_iload_n rfl rfl d_X_heap_37 ?_
            refine aw_icmp_neI (tgt := 45) (1) (5) (by decide +kernel) (by decide +kernel) (by decide) d_X_heap_38 (fun _ => ?_) (fun q => absurd q (by decide))
            refine aw_aload_n rfl rfl d_X_heap_45 ?_
            refine aw_getr fl_X_7 km_0 (by decide) rfl rm_0_0 d_X_heap_46 ?_
            refine aw_bipush (v := nI 60) cb_60 d_X_heap_49 ?_
            refine aw_iload rfl d_X_heap_51 ?_
            refine aw_iadd d_X_heap_53 ?_
            refine aw_top (x2 := nI 61) (by decide +kernel) ?_
            refine aw_iald (j := 61) km_1 (vp_in_nI (by decide) (by decide)) (nI_clamp (by decide)) d_X_heap_54 ?_
            refine aw_top (x2 := nI 0) (wh 1 (by decide)) ?_
            refine aw_iaddN d_X_heap_55 ?_
            refine aw_istore_n (lv2 := [.ref 0, .int (nI 5), .int (nI (w1)), .int (nI ((w1 + 0))), .int (nI 1)]) rfl (by decide) rfl d_X_heap_56 ?_
            refine aw_iinc (v := nI 2) (lv2 := [.ref 0, .int (nI 5), .int (nI (w1)), .int (nI ((w1 + 0))), .int (nI 2)]) rfl (by decide +kernel) (by decide) rfl d_X_heap_57 ?_
            refine aw_goto (tgt := 27) (by decide) d_X_heap_60 ?_
            refine aw_iload rfl d_X_heap_27 ?_
            refine aw_bipush (v := nI 8) cb_8 d_X_heap_29 ?_
            refine aw_icmp_gtI (tgt := 63) (2) (8) (by decide +kernel) (by decide +kernel) (by decide) d_X_heap_31 (fun q => absurd q (by decide)) (fun _ => ?_)
            refine aw_iload_n rfl rfl d_X_heap_34 ?_
            refine aw_iload rfl d_X_heap_35 ?_
            refine aw_iload_n rfl rfl d_X_heap_37 ?_
            refine aw_icmp_neI (tgt := 45) (2) (5) (by decide +kernel) (by decide +kernel) (by decide) d_X_heap_38 (fun _ => ?_) (fun q => absurd q (by decide))
            refine aw_aload_n rfl rfl d_X_heap_45 ?_
            refine aw_getr fl_X_7 km_0 (by decide) rfl rm_0_0 d_X_heap_46 ?_
            refine aw_bipush (v := nI 60) cb_60 d_X_heap_49 ?_
            refine aw_iload rfl d_X_heap_51 ?_
            refine aw_iadd d_X_heap_53 ?_
            refine aw_top (x2 := nI 62) (by decide +kernel) ?_
            refine aw_iald (j := 62) km_1 (vp_in_nI (by decide) (by decide)) (nI_clamp (by decide)) d_X_heap_54 ?_
            refine aw_top (x2 := nI 0) (wh 2 (by decide)) ?_
            refine aw_iaddN d_X_heap_55 ?_
            refine aw_istore_n (lv2 := [.ref 0, .int (nI 5), .int (nI (w1)), .int (nI (((w1 + 0) + 0))), .int (nI 2)]) rfl (by decide) rfl d_X_heap_56 ?_
            refine aw_iinc (v := nI 3) (lv2 := [.ref 0, .int (nI 5), .int (nI (w1)), .int (nI (((w1 + 0) + 0))), .int (nI 3)]) rfl (by decide +kernel) (by decide) rfl d_X_heap_57 ?_
            refine aw_goto (tgt := 27) (by decide) d_X_heap_60 ?_
            refine aw_iload rfl d_X_heap_27 ?_
            refine aw_bipush (v := nI 8) cb_8 d_X_heap_29 ?_
            refine aw_icmp_gtI (tgt := 63) (3) (8) (by decide +kernel) (by decide +kernel) (by decide) d_X_heap_31 (fun q => absurd q (by decide)) (fun _ => ?_)
            refine aw_iload_n rfl rfl d_X_heap_34 ?_
            refine aw_iload rfl d_X_heap_35 ?_
            refine aw_iload_n rfl rfl d_X_heap_37 ?_
            refine aw_icmp_neI (tgt := 45) (3) (5) (by decide +kernel) (by decide +kernel) (by decide) d_X_heap_38 (fun _ => ?_) (fun q => absurd q (by decide))
            refine aw_aload_n rfl rfl d_X_heap_45 ?_
            refine aw_getr fl_X_7 km_0 (by decide) rfl rm_0_0 d_X_heap_46 ?_
            refine aw_bipush (v := nI 60) cb_60 d_X_heap_49 ?_
            refine aw_iload rfl d_X_heap_51 ?_
            refine aw_iadd d_X_heap_53 ?_
            refine aw_top (x2 := nI 63) (by decide +kernel) ?_
            refine aw_iald (j := 63) km_1 (vp_in_nI (by decide) (by decide)) (nI_clamp (by decide)) d_X_heap_54 ?_
            refine aw_top (x2 := nI 0) (wh 3 (by decide)) ?_
            refine aw_iaddN d_X_heap_55 ?_
            refine aw_istore_n (lv2 := [.ref 0, .int (nI 5), .int (nI (w1)), .int (nI ((((w1 + 0) + 0) + 0))), .int (nI 3)]) rfl (by decide) rfl d_X_heap_56 ?_
            refine aw_iinc (v := nI 4) (lv2 := [.ref 0, .int (nI 5), .int (nI (w1)), .int (nI ((((w1 + 0) + 0) + 0))), .int (nI 4)]) rfl (by decide +kernel) (by decide) rfl d_X_heap_57 ?_
            refine aw_goto (tgt := 27) (by decide) d_X_heap_60 ?_
            refine aw_iload rfl d_X_heap_27 ?_
            refine aw_bipush (v := nI 8) cb_8 d_X_heap_29 ?_
            refine aw_icmp_gtI (tgt := 63) (4) (8) (by decide +kernel) (by decide +kernel) (by decide) d_X_heap_31 (fun q => absurd q (by decide)) (fun _ => ?_)
            refine aw_iload_n rfl rfl d_X_heap_34 ?_
            refine aw_iload rfl d_X_heap_35 ?_
            refine aw_iload_n rfl rfl d_X_heap_37 ?_
            refine aw_icmp_neI (tgt := 45) (4) (5) (by decide +kernel) (by decide +kernel) (by decide) d_X_heap_38 (fun _ => ?_) (fun q => absurd q (by decide))
            refine aw_aload_n rfl rfl d_X_heap_45 ?_
            refine aw_getr fl_X_7 km_0 (by decide) rfl rm_0_0 d_X_heap_46 ?_
            refine aw_bipush (v := nI 60) cb_60 d_X_heap_49 ?_
            refine aw_iload rfl d_X_heap_51 ?_
            refine aw_iadd d_X_heap_53 ?_
            refine aw_top (x2 := nI 64) (by decide +kernel) ?_
            refine aw_iald (j := 64) km_1 (vp_in_nI (by decide) (by decide)) (nI_clamp (by decide)) d_X_heap_54 ?_
            refine aw_top (x2 := nI 0) (wh 4 (by decide)) ?_
            refine aw_iaddN d_X_heap_55 ?_
            refine aw_istore_n (lv2 := [.ref 0, .int (nI 5), .int (nI (w1)), .int (nI (((((w1 + 0) + 0) + 0) + 0))), .int (nI 4)]) rfl (by decide) rfl d_X_heap_56 ?_
            refine aw_iinc (v := nI 5) (lv2 := [.ref 0, .int (nI 5), .int (nI (w1)), .int (nI (((((w1 + 0) + 0) + 0) + 0))), .int (nI 5)]) rfl (by decide +kernel) (by decide) rfl d_X_heap_57 ?_
            refine aw_goto (tgt := 27) (by decide) d_X_heap_60 ?_
            refine aw_iload rfl d_X_heap_27 ?_
            refine aw_bipush (v := nI 8) cb_8 d_X_heap_29 ?_
            refine aw_icmp_gtI (tgt := 63) (5) (8) (by decide +kernel) (by decide +kernel) (by decide) d_X_heap_31 (fun q => absurd q (by decide)) (fun _ => ?_)
            refine aw_iload_n rfl rfl d_X_heap_34 ?_
            refine aw_iload rfl d_X_heap_35 ?_
            refine aw_iload_n rfl rfl d_X_heap_37 ?_
            refine aw_icmp_neI (tgt := 45) (5) (5) (by decide +kernel) (by decide +kernel) (by decide) d_X_heap_38 (fun q => absurd q (by decide)) (fun _ => ?_)
            refine aw_iconst (v := nI 0) ci_0 d_X_heap_41 ?_
            refine aw_goto (tgt := 55) (by decide) d_X_heap_42 ?_
            refine aw_iaddN d_X_heap_55 ?_
            refine aw_istore_n (lv2 := [.ref 0, .int (nI 5), .int (nI (w1)), .int (nI ((((((w1 + 0) + 0) + 0) + 0) + 0))), .int (nI 5)]) rfl (by decide) rfl d_X_heap_56 ?_
            refine aw_iinc (v := nI 6) (lv2 := [.ref 0, .int (nI 5), .int (nI (w1)), .int (nI ((((((w1 + 0) + 0) + 0) + 0) + 0))), .int (nI 6)]) rfl (by decide +kernel) (by decide) rfl d_X_heap_57 ?_
            refine aw_goto (tgt := 27) (by decide) d_X_heap_60 ?_
            refine aw_iload rfl d_X_heap_27 ?_
            refine aw_bipush (v := nI 8) cb_8 d_X_heap_29 ?_
            refine aw_icmp_gtI (tgt := 63) (6) (8) (by decide +kernel) (by decide +kernel) (by decide) d_X_heap_31 (fun q => absurd q (by decide)) (fun _ => ?_)
            refine aw_iload_n rfl rfl d_X_heap_34 ?_
            refine aw_iload rfl d_X_heap_35 ?_
            refine aw_iload_n rfl rfl d_X_heap_37 ?_
            refine aw_icmp_neI (tgt := 45) (6) (5) (by decide +kernel) (by decide +kernel) (by decide) d_X_heap_38 (fun _ => ?_) (fun q => absurd q (by decide))
            refine aw_aload_n rfl rfl d_X_heap_45 ?_
            refine aw_getr fl_X_7 km_0 (by decide) rfl rm_0_0 d_X_heap_46 ?_
            refine aw_bipush (v := nI 60) cb_60 d_X_heap_49 ?_
            refine aw_iload rfl d_X_heap_51 ?_
            refine aw_iadd d_X_heap_53 ?_
            refine aw_top (x2 := nI 66) (by decide +kernel) ?_
            refine aw_iald (j := 66) km_1 (vp_in_nI (by decide) (by decide)) (nI_clamp (by decide)) d_X_heap_54 ?_
            refine aw_top (x2 := nI 0) (wh 6 (by decide)) ?_
            refine aw_iaddN d_X_heap_55 ?_
            refine aw_istore_n (lv2 := [.ref 0, .int (nI 5), .int (nI (w1)), .int (nI (((((((w1 + 0) + 0) + 0) + 0) + 0) + 0))), .int (nI 6)]) rfl (by decide) rfl d_X_heap_56 ?_
            refine aw_iinc (v := nI 7) (lv2 := [.ref 0, .int (nI 5), .int (nI (w1)), .int (nI (((((((w1 + 0) + 0) + 0) + 0) + 0) + 0))), .int (nI 7)]) rfl (by decide +kernel) (by decide) rfl d_X_heap_57 ?_
            refine aw_goto (tgt := 27) (by decide) d_X_heap_60 ?_
            refine aw_iload rfl d_X_heap_27 ?_
            refine aw_bipush (v := nI 8) cb_8 d_X_heap_29 ?_
            refine aw_icmp_gtI (tgt := 63) (7) (8) (by decide +kernel) (by decide +kernel) (by decide) d_X_heap_31 (fun q => absurd q (by decide)) (fun _ => ?_)
            refine aw_iload_n rfl rfl d_X_heap_34 ?_
            refine aw_iload rfl d_X_heap_35 ?_
            refine aw_iload_n rfl rfl d_X_heap_37 ?_
            refine aw_icmp_neI (tgt := 45) (7) (5) (by decide +kernel) (by decide +kernel) (by decide) d_X_heap_38 (fun _ => ?_) (fun q => absurd q (by decide))
            refine aw_aload_n rfl rfl d_X_heap_45 ?_
            refine aw_getr fl_X_7 km_0 (by decide) rfl rm_0_0 d_X_heap_46 ?_
            refine aw_bipush (v := nI 60) cb_60 d_X_heap_49 ?_
            refine aw_iload rfl d_X_heap_51 ?_
            refine aw_iadd d_X_heap_53 ?_
            refine aw_top (x2 := nI 67) (by decide +kernel) ?_
            refine aw_iald (j := 67) km_1 (vp_in_nI (by decide) (by decide)) (nI_clamp (by decide)) d_X_heap_54 ?_
            refine aw_top (x2 := nI 0) (wh 7 (by decide)) ?_
            refine aw_iaddN d_X_heap_55 ?_
            refine aw_istore_n (lv2 := [.ref 0, .int (nI 5), .int (nI (w1)), .int (nI ((((((((w1 + 0) + 0) + 0) + 0) + 0) + 0) + 0))), .int (nI 7)]) rfl (by decide) rfl d_X_heap_56 ?_
            refine aw_iinc (v := nI 8) (lv2 := [.ref 0, .int (nI 5), .int (nI (w1)), .int (nI ((((((((w1 + 0) + 0) + 0) + 0) + 0) + 0) + 0))), .int (nI 8)]) rfl (by decide +kernel) (by decide) rfl d_X_heap_57 ?_
            refine aw_goto (tgt := 27) (by decide) d_X_heap_60 ?_
            refine aw_iload rfl d_X_heap_27 ?_
            refine aw_bipush (v := nI 8) cb_8 d_X_heap_29 ?_
            refine aw_icmp_gtI (tgt := 63) (8) (8) (by decide +kernel) (by decide +kernel) (by decide) d_X_heap_31 (fun q => absurd q (by decide)) (fun _ => ?_)
            refine aw_iload_n rfl rfl d_X_heap_34 ?_
            refine aw_iload rfl d_X_heap_35 ?_
            refine aw_iload_n rfl rfl d_X_heap_37 ?_
            refine aw_icmp_neI (tgt := 45) (8) (5) (by decide +kernel) (by decide +kernel) (by decide) d_X_heap_38 (fun _ => ?_) (fun q => absurd q (by decide))
            refine aw_aload_n rfl rfl d_X_heap_45 ?_
            refine aw_getr fl_X_7 km_0 (by decide) rfl rm_0_0 d_X_heap_46 ?_
            refine aw_bipush (v := nI 60) cb_60 d_X_heap_49 ?_
            refine aw_iload rfl d_X_heap_51 ?_
            refine aw_iadd d_X_heap_53 ?_
            refine aw_top (x2 := nI 68) (by decide +kernel) ?_
            refine aw_iald (j := 68) km_1 (vp_in_nI (by decide) (by decide)) (nI_clamp (by decide)) d_X_heap_54 ?_
            refine aw_top (x2 := nI 0) (wh 8 (by decide)) ?_
            refine aw_iaddN d_X_heap_55 ?_
            refine aw_istore_n (lv2 := [.ref 0, .int (nI 5), .int (nI (w1)), .int (nI (((((((((w1 + 0) + 0) + 0) + 0) + 0) + 0) + 0) + 0))), .int (nI 8)]) rfl (by decide) rfl d_X_heap_56 ?_
            refine aw_iinc (v := nI 9) (lv2 := [.ref 0, .int (nI 5), .int (nI (w1)), .int (nI (((((((((w1 + 0) + 0) + 0) + 0) + 0) + 0) + 0) + 0))), .int (nI 9)]) rfl (by decide +kernel) (by decide) rfl d_X_heap_57 ?_
            refine aw_goto (tgt := 27) (by decide) d_X_heap_60 ?_
            refine aw_iload rfl d_X_heap_27 ?_
            refine aw_bipush (v := nI 8) cb_8 d_X_heap_29 ?_
            refine aw_icmp_gtI (tgt := 63) (9) (8) (by decide +kernel) (by decide +kernel) (by decide) d_X_heap_31 (fun _ => ?_) (fun q => absurd q (by decide))
            refine aw_iload_n rfl rfl d_X_heap_63 ?_
            refine aw_bipush (v := nI 12) cb_12 d_X_heap_64 ?_
            refine aw_icmp_leI (tgt := 71) ((((((((((w1 + 0) + 0) + 0) + 0) + 0) + 0) + 0) + 0) : Nat) : Int) (12) (nI_toInt (by omega)) (by decide +kernel) (by decide) d_X_heap_66 (fun c9 => ?_) (fun c9 => ?_)
            · refine aw_aload_n rfl rfl d_X_heap_71 ?_
              refine aw_getr fl_X_7 km_0 (by decide) rfl rm_0_0 d_X_heap_72 ?_
              refine aw_bipush (v := nI 60) cb_60 d_X_heap_75 ?_
              refine aw_iload_n rfl rfl d_X_heap_77 ?_
              refine aw_iadd d_X_heap_78 ?_
              refine aw_top (x2 := nI 65) (by decide +kernel) ?_
              refine aw_iload_n rfl rfl d_X_heap_79 ?_
              refine aw_iast (j := 65) km_1 (vp_in_nI (by decide) (by decide)) (nI_clamp (by decide)) d_X_heap_80 ?_
              refine aw_iconst (v := nI 1) ci_1 d_X_heap_81 ?_
              exact as_retz rfl (by decide +kernel) d_X_heap_82 (h1 (by omega) _)
            · refine aw_iconst (v := nI 0) ci_0 d_X_heap_69 ?_
              exact as_retz rfl (by decide +kernel) d_X_heap_70 (h0 (by omega) _)
          · refine aw_iconst (v := nI 1) ci_1 d_X_heap_24 ?_
            refine aw_istore (lv2 := [.ref 0, .int (nI 6), .int (nI (w1)), .int (nI (w1)), .int (nI 1)]) (by decide) rfl d_X_heap_25 ?_
            refine aw_iload rfl d_X_heap_27 ?_
            refine aw_bipush (v := nI 8) cb_8 d_X_heap_29 ?_
            refine aw_icmp_gtI (tgt := 63) (1) (8) (by decide +kernel) (by decide +kernel) (by decide) d_X_heap_31 (fun q => absurd q (by decide)) (fun _ => ?_)
            refine aw_iload_n rfl rfl d_X_heap_34 ?_
            refine aw_iload rfl d_X_heap_35 ?_
            refine aw_iload_n rfl rfl d_X_heap_37 ?_
            refine aw_icmp_neI (tgt := 45) (1) (6) (by decide +kernel) (by decide +kernel) (by decide) d_X_heap_38 (fun _ => ?_) (fun q => absurd q (by decide))
            refine aw_aload_n rfl rfl d_X_heap_45 ?_
            refine aw_getr fl_X_7 km_0 (by decide) rfl rm_0_0 d_X_heap_46 ?_
            refine aw_bipush (v := nI 60) cb_60 d_X_heap_49 ?_
            refine aw_iload rfl d_X_heap_51 ?_
            refine aw_iadd d_X_heap_53 ?_
            refine aw_top (x2 := nI 61) (by decide +kernel) ?_
            refine aw_iald (j := 61) km_1 (vp_in_nI (by decide) (by decide)) (nI_clamp (by decide)) d_X_heap_54 ?_
            refine aw_top (x2 := nI 0) (wh 1 (by decide)) ?_
            refine aw_iaddN d_X_heap_55 ?_
            refine aw_istore_n (lv2 := [.ref 0, .int (nI 6), .int (nI (w1)), .int (nI ((w1 + 0))), .int (nI 1)]) rfl (by decide) rfl d_X_heap_56 ?_
            refine aw_iinc (v := nI 2) (lv2 := [.ref 0, .int (nI 6), .int (nI (w1)), .int (nI ((w1 + 0))), .int (nI 2)]) rfl (by decide +kernel) (by decide) rfl d_X_heap_57 ?_
            refine aw_goto (tgt := 27) (by decide) d_X_heap_60 ?_
            refine aw_iload rfl d_X_heap_27 ?_
            refine aw_bipush (v := nI 8) cb_8 d_X_heap_29 ?_
            refine aw_icmp_gtI (tgt := 63) (2) (8) (by decide +kernel) (by decide +kernel) (by decide) d_X_heap_31 (fun q => absurd q (by decide)) (fun _ => ?_)
            refine aw_iload_n rfl rfl d_X_heap_34 ?_
            refine aw_iload rfl d_X_heap_35 ?_
            refine aw_iload_n rfl rfl d_X_heap_37 ?_
            refine aw_icmp_neI (tgt := 45) (2) (6) (by decide +kernel) (by decide +kernel) (by decide) d_X_heap_38 (fun _ => ?_) (fun q => absurd q (by decide))
            refine aw_aload_n rfl rfl d_X_heap_45 ?_
            refine aw_getr fl_X_7 km_0 (by decide) rfl rm_0_0 d_X_heap_46 ?_
            refine aw_bipush (v := nI 60) cb_60 d_X_heap_49 ?_
            refine aw_iload rfl d_X_heap_51 ?_
            refine aw_iadd d_X_heap_53 ?_
            refine aw_top (x2 := nI 62) (by decide +kernel) ?_
            refine aw_iald (j := 62) km_1 (vp_in_nI (by decide) (by decide)) (nI_clamp (by decide)) d_X_heap_54 ?_
            refine aw_top (x2 := nI 0) (wh 2 (by decide)) ?_
            refine aw_iaddN d_X_heap_55 ?_
            refine aw_istore_n (lv2 := [.ref 0, .int (nI 6), .int (nI (w1)), .int (nI (((w1 + 0) + 0))), .int (nI 2)]) rfl (by decide) rfl d_X_heap_56 ?_
            refine aw_iinc (v := nI 3) (lv2 := [.ref 0, .int (nI 6), .int (nI (w1)), .int (nI (((w1 + 0) + 0))), .int (nI 3)]) rfl (by decide +kernel) (by decide) rfl d_X_heap_57 ?_
            refine aw_goto (tgt := 27) (by decide) d_X_heap_60 ?_
            refine aw_iload rfl d_X_heap_27 ?_
            refine aw_bipush (v := nI 8) cb_8 d_X_heap_29 ?_
            refine aw_icmp_gtI (tgt := 63) (3) (8) (by decide +kernel) (by decide +kernel) (by decide) d_X_heap_31 (fun q => absurd q (by decide)) (fun _ => ?_)
            refine aw_iload_n rfl rfl d_X_heap_34 ?_
            refine aw_iload rfl d_X_heap_35 ?_
            refine aw_iload_n rfl rfl d_X_heap_37 ?_
            refine aw_icmp_neI (tgt := 45) (3) (6) (by decide +kernel) (by decide +kernel) (by decide) d_X_heap_38 (fun _ => ?_) (fun q => absurd q (by decide))
            refine aw_aload_n rfl rfl d_X_heap_45 ?_
            refine aw_getr fl_X_7 km_0 (by decide) rfl rm_0_0 d_X_heap_46 ?_
            refine aw_bipush (v := nI 60) cb_60 d_X_heap_49 ?_
            refine aw_iload rfl d_X_heap_51 ?_
            refine aw_iadd d_X_heap_53 ?_
            refine aw_top (x2 := nI 63) (by decide +kernel) ?_
            refine aw_iald (j := 63) km_1 (vp_in_nI (by decide) (by decide)) (nI_clamp (by decide)) d_X_heap_54 ?_
            refine aw_top (x2 := nI 0) (wh 3 (by decide)) ?_
            refine aw_iaddN d_X_heap_55 ?_
            refine aw_istore_n (lv2 := [.ref 0, .int (nI 6), .int (nI (w1)), .int (nI ((((w1 + 0) + 0) + 0))), .int (nI 3)]) rfl (by decide) rfl d_X_heap_56 ?_
            refine aw_iinc (v := nI 4) (lv2 := [.ref 0, .int (nI 6), .int (nI (w1)), .int (nI ((((w1 + 0) + 0) + 0))), .int (nI 4)]) rfl (by decide +kernel) (by decide) rfl d_X_heap_57 ?_
            refine aw_goto (tgt := 27) (by decide) d_X_heap_60 ?_
            refine aw_iload rfl d_X_heap_27 ?_
            refine aw_bipush (v := nI 8) cb_8 d_X_heap_29 ?_
            refine aw_icmp_gtI (tgt := 63) (4) (8) (by decide +kernel) (by decide +kernel) (by decide) d_X_heap_31 (fun q => absurd q (by decide)) (fun _ => ?_)
            refine aw_iload_n rfl rfl d_X_heap_34 ?_
            refine aw_iload rfl d_X_heap_35 ?_
            refine aw_iload_n rfl rfl d_X_heap_37 ?_
            refine aw_icmp_neI (tgt := 45) (4) (6) (by decide +kernel) (by decide +kernel) (by decide) d_X_heap_38 (fun _ => ?_) (fun q => absurd q (by decide))
            refine aw_aload_n rfl rfl d_X_heap_45 ?_
            refine aw_getr fl_X_7 km_0 (by decide) rfl rm_0_0 d_X_heap_46 ?_
            refine aw_bipush (v := nI 60) cb_60 d_X_heap_49 ?_
            refine aw_iload rfl d_X_heap_51 ?_
            refine aw_iadd d_X_heap_53 ?_
            refine aw_top (x2 := nI 64) (by decide +kernel) ?_
            refine aw_iald (j := 64) km_1 (vp_in_nI (by decide) (by decide)) (nI_clamp (by decide)) d_X_heap_54 ?_
            refine aw_top (x2 := nI 0) (wh 4 (by decide)) ?_
            refine aw_iaddN d_X_heap_55 ?_
            refine aw_istore_n (lv2 := [.ref 0, .int (nI 6), .int (nI (w1)), .int (nI (((((w1 + 0) + 0) + 0) + 0))), .int (nI 4)]) rfl (by decide) rfl d_X_heap_56 ?_
            refine aw_iinc (v := nI 5) (lv2 := [.ref 0, .int (nI 6), .int (nI (w1)), .int (nI (((((w1 + 0) + 0) + 0) + 0))), .int (nI 5)]) rfl (by decide +kernel) (by decide) rfl d_X_heap_57 ?_
            refine aw_goto (tgt := 27) (by decide) d_X_heap_60 ?_
            refine aw_iload rfl d_X_heap_27 ?_
            refine aw_bipush (v := nI 8) cb_8 d_X_heap_29 ?_
            refine aw_icmp_gtI (tgt := 63) (5) (8) (by decide +kernel) (by decide +kernel) (by decide) d_X_heap_31 (fun q => absurd q (by decide)) (fun _ => ?_)
            refine aw_iload_n rfl rfl d_X_heap_34 ?_
            refine aw_iload rfl d_X_heap_35 ?_
            refine aw_iload_n rfl rfl d_X_heap_37 ?_
            refine aw_icmp_neI (tgt := 45) (5) (6) (by decide +kernel) (by decide +kernel) (by decide) d_X_heap_38 (fun _ => ?_) (fun q => absurd q (by decide))
            refine aw_aload_n rfl rfl d_X_heap_45 ?_
            refine aw_getr fl_X_7 km_0 (by decide) rfl rm_0_0 d_X_heap_46 ?_
            refine aw_bipush (v := nI 60) cb_60 d_X_heap_49 ?_
            refine aw_iload rfl d_X_heap_51 ?_
            refine aw_iadd d_X_heap_53 ?_
            refine aw_top (x2 := nI 65) (by decide +kernel) ?_
            refine aw_iald (j := 65) km_1 (vp_in_nI (by decide) (by decide)) (nI_clamp (by decide)) d_X_heap_54 ?_
            refine aw_top (x2 := nI 0) (wh 5 (by decide)) ?_
            refine aw_iaddN d_X_heap_55 ?_
            refine aw_istore_n (lv2 := [.ref 0, .int (nI 6), .int (nI (w1)), .int (nI ((((((w1 + 0) + 0) + 0) + 0) + 0))), .int (nI 5)]) rfl (by decide) rfl d_X_heap_56 ?_
            refine aw_iinc (v := nI 6) (lv2 := [.ref 0, .int (nI 6), .int (nI (w1)), .int (nI ((((((w1 + 0) + 0) + 0) + 0) + 0))), .int (nI 6)]) rfl (by decide +kernel) (by decide) rfl d_X_heap_57 ?_
            refine aw_goto (tgt := 27) (by decide) d_X_heap_60 ?_
            refine aw_iload rfl d_X_heap_27 ?_
            refine aw_bipush (v := nI 8) cb_8 d_X_heap_29 ?_
            refine aw_icmp_gtI (tgt := 63) (6) (8) (by decide +kernel) (by decide +kernel) (by decide) d_X_heap_31 (fun q => absurd q (by decide)) (fun _ => ?_)
            refine aw_iload_n rfl rfl d_X_heap_34 ?_
            refine aw_iload rfl d_X_heap_35 ?_
            refine aw_iload_n rfl rfl d_X_heap_37 ?_
            refine aw_icmp_neI (tgt := 45) (6) (6) (by decide +kernel) (by decide +kernel) (by decide) d_X_heap_38 (fun q => absurd q (by decide)) (fun _ => ?_)
            refine aw_iconst (v := nI 0) ci_0 d_X_heap_41 ?_
            refine aw_goto (tgt := 55) (by decide) d_X_heap_42 ?_
            refine aw_iaddN d_X_heap_55 ?_
            refine aw_istore_n (lv2 := [.ref 0, .int (nI 6), .int (nI (w1)), .int (nI (((((((w1 + 0) + 0) + 0) + 0) + 0) + 0))), .int (nI 6)]) rfl (by decide) rfl d_X_heap_56 ?_
            refine aw_iinc (v := nI 7) (lv2 := [.ref 0, .int (nI 6), .int (nI (w1)), .int (nI (((((((w1 + 0) + 0) + 0) + 0) + 0) + 0))), .int (nI 7)]) rfl (by decide +kernel) (by decide) rfl d_X_heap_57 ?_
            refine aw_goto (tgt := 27) (by decide) d_X_heap_60 ?_
            refine aw_iload rfl d_X_heap_27 ?_
            refine aw_bipush (v := nI 8) cb_8 d_X_heap_29 ?_
            refine aw_icmp_gtI (tgt := 63) (7) (8) (by decide +kernel) (by decide +kernel) (by decide) d_X_heap_31 (fun q => absurd q (by decide)) (fun _ => ?_)
            refine aw_iload_n rfl rfl d_X_heap_34 ?_
            refine aw_iload rfl d_X_heap_35 ?_
            refine aw_iload_n rfl rfl d_X_heap_37 ?_
            refine aw_icmp_neI (tgt := 45) (7) (6) (by decide +kernel) (by decide +kernel) (by decide) d_X_heap_38 (fun _ => ?_) (fun q => absurd q (by decide))
            refine aw_aload_n rfl rfl d_X_heap_45 ?_
            refine aw_getr fl_X_7 km_0 (by decide) rfl rm_0_0 d_X_heap_46 ?_
            refine aw_bipush (v := nI 60) cb_60 d_X_heap_49 ?_
            refine aw_iload rfl d_X_heap_51 ?_
            refine aw_iadd d_X_heap_53 ?_
            refine aw_top (x2 := nI 67) (by decide +kernel) ?_
            refine aw_iald (j := 67) km_1 (vp_in_nI (by decide) (by decide)) (nI_clamp (by decide)) d_X_heap_54 ?_
            refine aw_top (x2 := nI 0) (wh 7 (by decide)) ?_
            refine aw_iaddN d_X_heap_55 ?_
            refine aw_istore_n (lv2 := [.ref 0, .int (nI 6), .int (nI (w1)), .int (nI ((((((((w1 + 0) + 0) + 0) + 0) + 0) + 0) + 0))), .int (nI 7)]) rfl (by decide) rfl d_X_heap_56 ?_
            refine aw_iinc (v := nI 8) (lv2 := [.ref 0, .int (nI 6), .int (nI (w1)), .int (nI ((((((((w1 + 0) + 0) + 0) + 0) + 0) + 0) + 0))), .int (nI 8)]) rfl (by decide +kernel) (by decide) rfl d_X_heap_57 ?_
            refine aw_goto (tgt := 27) (by decide) d_X_heap_60 ?_
            refine aw_iload rfl d_X_heap_27 ?_
            refine aw_bipush (v := nI 8) cb_8 d_X_heap_29 ?_
            refine aw_icmp_gtI (tgt := 63) (8) (8) (by decide +kernel) (by decide +kernel) (by decide) d_X_heap_31 (fun q => absurd q (by decide)) (fun _ => ?_)
            refine aw_iload_n rfl rfl d_X_heap_34 ?_
            refine aw_iload rfl d_X_heap_35 ?_
            refine aw_iload_n rfl rfl d_X_heap_37 ?_
            refine aw_icmp_neI (tgt := 45) (8) (6) (by decide +kernel) (by decide +kernel) (by decide) d_X_heap_38 (fun _ => ?_) (fun q => absurd q (by decide))
            refine aw_aload_n rfl rfl d_X_heap_45 ?_
            refine aw_getr fl_X_7 km_0 (by decide) rfl rm_0_0 d_X_heap_46 ?_
            refine aw_bipush (v := nI 60) cb_60 d_X_heap_49 ?_
            refine aw_iload rfl d_X_heap_51 ?_
            refine aw_iadd d_X_heap_53 ?_
            refine aw_top (x2 := nI 68) (by decide +kernel) ?_
            refine aw_iald (j := 68) km_1 (vp_in_nI (by decide) (by decide)) (nI_clamp (by decide)) d_X_heap_54 ?_
            refine aw_top (x2 := nI 0) (wh 8 (by decide)) ?_
            refine aw_iaddN d_X_heap_55 ?_
            refine aw_istore_n (lv2 := [.ref 0, .int (nI 6), .int (nI (w1)), .int (nI (((((((((w1 + 0) + 0) + 0) + 0) + 0) + 0) + 0) + 0))), .int (nI 8)]) rfl (by decide) rfl d_X_heap_56 ?_
            refine aw_iinc (v := nI 9) (lv2 := [.ref 0, .int (nI 6), .int (nI (w1)), .int (nI (((((((((w1 + 0) + 0) + 0) + 0) + 0) + 0) + 0) + 0))), .int (nI 9)]) rfl (by decide +kernel) (by decide) rfl d_X_heap_57 ?_
            refine aw_goto (tgt := 27) (by decide) d_X_heap_60 ?_
            refine aw_iload rfl d_X_heap_27 ?_
            refine aw_bipush (v := nI 8) cb_8 d_X_heap_29 ?_
            refine aw_icmp_gtI (tgt := 63) (9) (8) (by decide +kernel) (by decide +kernel) (by decide) d_X_heap_31 (fun _ => ?_) (fun q => absurd q (by decide))
            refine aw_iload_n rfl rfl d_X_heap_63 ?_
            refine aw_bipush (v := nI 12) cb_12 d_X_heap_64 ?_
            refine aw_icmp_leI (tgt := 71) ((((((((((w1 + 0) + 0) + 0) + 0) + 0) + 0) + 0) + 0) : Nat) : Int) (12) (nI_toInt (by omega)) (by decide +kernel) (by decide) d_X_heap_66 (fun c10 => ?_) (fun c10 => ?_)
            · refine aw_aload_n rfl rfl d_X_heap_71 ?_
              refine aw_getr fl_X_7 km_0 (by decide) rfl rm_0_0 d_X_heap_72 ?_
              refine aw_bipush (v := nI 60) cb_60 d_X_heap_75 ?_
              refine aw_iload_n rfl rfl d_X_heap_77 ?_
              refine aw_iadd d_X_heap_78 ?_
              refine aw_top (x2 := nI 66) (by decide +kernel) ?_
              refine aw_iload_n rfl rfl d_X_heap_79 ?_
              refine aw_iast (j := 66) km_1 (vp_in_nI (by decide) (by decide)) (nI_clamp (by decide)) d_X_heap_80 ?_
              refine aw_iconst (v := nI 1) ci_1 d_X_heap_81 ?_
              exact as_retz rfl (by decide +kernel) d_X_heap_82 (h1 (by omega) _)
            · refine aw_iconst (v := nI 0) ci_0 d_X_heap_69 ?_
              exact as_retz rfl (by decide +kernel) d_X_heap_70 (h0 (by omega) _)
          · refine aw_iconst (v := nI 1) ci_1 d_X_heap_24 ?_
            refine aw_istore (lv2 := [.ref 0, .int (nI 7), .int (nI (w1)), .int (nI (w1)), .int (nI 1)]) (by decide) rfl d_X_heap_25 ?_
            refine aw_iload rfl d_X_heap_27 ?_
            refine aw_bipush (v := nI 8) cb_8 d_X_heap_29 ?_
            refine aw_icmp_gtI (tgt := 63) (1) (8) (by decide +kernel) (by decide +kernel) (by decide) d_X_heap_31 (fun q => absurd q (by decide)) (fun _ => ?_)
            refine aw_iload_n rfl rfl d_X_heap_34 ?_
            refine aw_iload rfl d_X_heap_35 ?_
            refine aw_iload_n rfl rfl d_X_heap_37 ?_
            refine aw_icmp_neI (tgt := 45) (1) (7) (by decide +kernel) (by decide +kernel) (by decide) d_X_heap_38 (fun _ => ?_) (fun q => absurd q (by decide))
            refine aw_aload_n rfl rfl d_X_heap_45 ?_
            refine aw_getr fl_X_7 km_0 (by decide) rfl rm_0_0 d_X_heap_46 ?_
            refine aw_bipush (v := nI 60) cb_60 d_X_heap_49 ?_
            refine aw_iload rfl d_X_heap_51 ?_
            refine aw_iadd d_X_heap_53 ?_
            refine aw_top (x2 := nI 61) (by decide +kernel) ?_
            refine aw_iald (j := 61) km_1 (vp_in_nI (by decide) (by decide)) (nI_clamp (by decide)) d_X_heap_54 ?_
            refine aw_top (x2 := nI 0) (wh 1 (by decide)) ?_
            refine aw_iaddN d_X_heap_55 ?_
            refine aw_istore_n (lv2 := [.ref 0, .int (nI 7), .int (nI (w1)), .int (nI ((w1 + 0))), .int (nI 1)]) rfl (by decide) rfl d_X_heap_56 ?_
            refine aw_iinc (v := nI 2) (lv2 := [.ref 0, .int (nI 7), .int (nI (w1)), .int (nI ((w1 + 0))), .int (nI 2)]) rfl (by decide +kernel) (by decide) rfl d_X_heap_57 ?_
            refine aw_goto (tgt := 27) (by decide) d_X_heap_60 ?_
            refine aw_iload rfl d_X_heap_27 ?_
            refine aw_bipush (v := nI 8) cb_8 d_X_heap_29 ?_
            refine aw_icmp_gtI (tgt := 63) (2) (8) (by decide +kernel) (by decide +kernel) (by decide) d_X_heap_31 (fun q => absurd q (by decide)) (fun _ => ?_)
            refine aw_iload_n rfl rfl d_X_heap_34 ?_
            refine aw_iload rfl d_X_heap_35 ?_
            refine aw_iload_n rfl rfl d_X_heap_37 ?_
            refine aw_icmp_neI (tgt := 45) (2) (7) (by decide +kernel) (by decide +kernel) (by decide) d_X_heap_38 (fun _ => ?_) (fun q => absurd q (by decide))
            refine aw_aload_n rfl rfl d_X_heap_45 ?_
            refine aw_getr fl_X_7 km_0 (by decide) rfl rm_0_0 d_X_heap_46 ?_
            refine aw_bipush (v := nI 60) cb_60 d_X_heap_49 ?_
            refine aw_iload rfl d_X_heap_51 ?_
            refine aw_iadd d_X_heap_53 ?_
            refine aw_top (x2 := nI 62) (by decide +kernel) ?_
            refine aw_iald (j := 62) km_1 (vp_in_nI (by decide) (by decide)) (nI_clamp (by decide)) d_X_heap_54 ?_
            refine aw_top (x2 := nI 0) (wh 2 (by decide)) ?_
            refine aw_iaddN d_X_heap_55 ?_
            refine aw_istore_n (lv2 := [.ref 0, .int (nI 7), .int (nI (w1)), .int (nI (((w1 + 0) + 0))), .int (nI 2)]) rfl (by decide) rfl d_X_heap_56 ?_
            refine aw_iinc (v := nI 3) (lv2 := [.ref 0, .int (nI 7), .int (nI (w1)), .int (nI (((w1 + 0) + 0))), .int (nI 3)]) rfl (by decide +kernel) (by decide) rfl d_X_heap_57 ?_
            refine aw_goto (tgt := 27) (by decide) d_X_heap_60 ?_
            refine aw_iload rfl d_X_heap_27 ?_
            refine aw_bipush (v := nI 8) cb_8 d_X_heap_29 ?_
            refine aw_icmp_gtI (tgt := 63) (3) (8) (by decide +kernel) (by decide +kernel) (by decide) d_X_heap_31 (fun q => absurd q (by decide)) (fun _ => ?_)
            refine aw_iload_n rfl rfl d_X_heap_34 ?_
            refine aw_iload rfl d_X_heap_35 ?_
            refine aw_iload_n rfl rfl d_X_heap_37 ?_
            refine aw_icmp_neI (tgt := 45) (3) (7) (by decide +kernel) (by decide +kernel) (by decide) d_X_heap_38 (fun _ => ?_) (fun q => absurd q (by decide))
            refine aw_aload_n rfl rfl d_X_heap_45 ?_
            refine aw_getr fl_X_7 km_0 (by decide) rfl rm_0_0 d_X_heap_46 ?_
            refine aw_bipush (v := nI 60) cb_60 d_X_heap_49 ?_
            refine aw_iload rfl d_X_heap_51 ?_
            refine aw_iadd d_X_heap_53 ?_
            refine aw_top (x2 := nI 63) (by decide +kernel) ?_
            refine aw_iald (j := 63) km_1 (vp_in_nI (by decide) (by decide)) (nI_clamp (by decide)) d_X_heap_54 ?_
            refine aw_top (x2 := nI 0) (wh 3 (by decide)) ?_
            refine aw_iaddN d_X_heap_55 ?_
            refine aw_istore_n (lv2 := [.ref 0, .int (nI 7), .int (nI (w1)), .int (nI ((((w1 + 0) + 0) + 0))), .int (nI 3)]) rfl (by decide) rfl d_X_heap_56 ?_
            refine aw_iinc (v := nI 4) (lv2 := [.ref 0, .int (nI 7), .int (nI (w1)), .int (nI ((((w1 + 0) + 0) + 0))), .int (nI 4)]) rfl (by decide +kernel) (by decide) rfl d_X_heap_57 ?_
            refine aw_goto (tgt := 27) (by decide) d_X_heap_60 ?_
            refine aw_iload rfl d_X_heap_27 ?_
            refine aw_bipush (v := nI 8) cb_8 d_X_heap_29 ?_
            refine aw_icmp_gtI (tgt := 63) (4) (8) (by decide +kernel) (by decide +kernel) (by decide) d_X_heap_31 (fun q => absurd q (by decide)) (fun _ => ?_)
            refine aw_iload_n rfl rfl d_X_heap_34 ?_
            refine aw_iload rfl d_X_heap_35 ?_
            refine aw_iload_n rfl rfl d_X_heap_37 ?_
            refine aw_icmp_neI (tgt := 45) (4) (7) (by decide +kernel) (by decide +kernel) (by decide) d_X_heap_38 (fun _ => ?_) (fun q => absurd q (by decide))
            refine aw_aload_n rfl rfl d_X_heap_45 ?_
            refine aw_getr fl_X_7 km_0 (by decide) rfl rm_0_0 d_X_heap_46 ?_
            refine aw_bipush (v := nI 60) cb_60 d_X_heap_49 ?_
            refine aw_iload rfl d_X_heap_51 ?_
            refine aw_iadd d_X_heap_53 ?_
            refine aw_top (x2 := nI 64) (by decide +kernel) ?_
            refine aw_iald (j := 64) km_1 (vp_in_nI (by decide) (by decide)) (nI_clamp (by decide)) d_X_heap_54 ?_
            refine aw_top (x2 := nI 0) (wh 4 (by decide)) ?_
            refine aw_iaddN d_X_heap_55 ?_
            refine aw_istore_n (lv2 := [.ref 0, .int (nI 7), .int (nI (w1)), .int (nI (((((w1 + 0) + 0) + 0) + 0))), .int (nI 4)]) rfl (by decide) rfl d_X_heap_56 ?_
            refine aw_iinc (v := nI 5) (lv2 := [.ref 0, .int (nI 7), .int (nI (w1)), .int (nI (((((w1 + 0) + 0) + 0) + 0))), .int (nI 5)]) rfl (by decide +kernel) (by decide) rfl d_X_heap_57 ?_
            refine aw_goto (tgt := 27) (by decide) d_X_heap_60 ?_
            refine aw_iload rfl d_X_heap_27 ?_
            refine aw_bipush (v := nI 8) cb_8 d_X_heap_29 ?_
            refine aw_icmp_gtI (tgt := 63) (5) (8) (by decide +kernel) (by decide +kernel) (by decide) d_X_heap_31 (fun q => absurd q (by decide)) (fun _ => ?_)
            refine aw_iload_n rfl rfl d_X_heap_34 ?_
            refine aw_iload rfl d_X_heap_35 ?_
            refine aw_iload_n rfl rfl d_X_heap_37 ?_
            refine aw_icmp_neI (tgt := 45) (5) (7) (by decide +kernel) (by decide +kernel) (by decide) d_X_heap_38 (fun _ => ?_) (fun q => absurd q (by decide))
            refine aw_aload_n rfl rfl d_X_heap_45 ?_
            refine aw_getr fl_X_7 km_0 (by decide) rfl rm_0_0 d_X_heap_46 ?_
            refine aw_bipush (v := nI 60) cb_60 d_X_heap_49 ?_
            refine aw_iload rfl d_X_heap_51 ?_
            refine aw_iadd d_X_heap_53 ?_
            refine aw_top (x2 := nI 65) (by decide +kernel) ?_
            refine aw_iald (j := 65) km_1 (vp_in_nI (by decide) (by decide)) (nI_clamp (by decide)) d_X_heap_54 ?_
            refine aw_top (x2 := nI 0) (wh 5 (by decide)) ?_
            refine aw_iaddN d_X_heap_55 ?_
            refine aw_istore_n (lv2 := [.ref 0, .int (nI 7), .int (nI (w1)), .int (nI ((((((w1 + 0) + 0) + 0) + 0) + 0))), .int (nI 5)]) rfl (by decide) rfl d_X_heap_56 ?_
            refine aw_iinc (v := nI 6) (lv2 := [.ref 0, .int (nI 7), .int (nI (w1)), .int (nI ((((((w1 + 0) + 0) + 0) + 0) + 0))), .int (nI 6)]) rfl (by decide +kernel) (by decide) rfl d_X_heap_57 ?_
            refine aw_goto (tgt := 27) (by decide) d_X_heap_60 ?_
            refine aw_iload rfl d_X_heap_27 ?_
            refine aw_bipush (v := nI 8) cb_8 d_X_heap_29 ?_
            refine aw_icmp_gtI (tgt := 63) (6) (8) (by decide +kernel) (by decide +kernel) (by decide) d_X_heap_31 (fun q => absurd q (by decide)) (fun _ => ?_)
            refine aw_iload_n rfl rfl d_X_heap_34 ?_
            refine aw_iload rfl d_X_heap_35 ?_
            refine aw_iload_n rfl rfl d_X_heap_37 ?_
            refine aw_icmp_neI (tgt := 45) (6) (7) (by decide +kernel) (by decide +kernel) (by decide) d_X_heap_38 (fun _ => ?_) (fun q => absurd q (by decide))
            refine aw_aload_n rfl rfl d_X_heap_45 ?_
            refine aw_getr fl_X_7 km_0 (by decide) rfl rm_0_0 d_X_heap_46 ?_
            refine aw_bipush (v := nI 60) cb_60 d_X_heap_49 ?_
            refine aw_iload rfl d_X_heap_51 ?_
            refine aw_iadd d_X_heap_53 ?_
            refine aw_top (x2 := nI 66) (by decide +kernel) ?_
            refine aw_iald (j := 66) km_1 (vp_in_nI (by decide) (by decide)) (nI_clamp (by decide)) d_X_heap_54 ?_
            refine aw_top (x2 := nI 0) (wh 6 (by decide)) ?_
            refine aw_iaddN d_X_heap_55 ?_
            refine aw_istore_n (lv2 := [.ref 0, .int (nI 7), .int (nI (w1)), .int (nI (((((((w1 + 0) + 0) + 0) + 0) + 0) + 0))), .int (nI 6)]) rfl (by decide) rfl d_X_heap_56 ?_
            refine aw_iinc (v := nI 7) (lv2 := [.ref 0, .int (nI 7), .int (nI (w1)), .int (nI (((((((w1 + 0) + 0) + 0) + 0) + 0) + 0))), .int (nI 7)]) rfl (by decide +kernel) (by decide) rfl d_X_heap_57 ?_
            refine aw_goto (tgt := 27) (by decide) d_X_heap_60 ?_
            refine aw_iload rfl d_X_heap_27 ?_
            refine aw_bipush (v := nI 8) cb_8 d_X_heap_29 ?_
            refine aw_icmp_gtI (tgt := 63) (7) (8) (by decide +kernel) (by decide +kernel) (by decide) d_X_heap_31 (fun q => absurd q (by decide)) (fun _ => ?_)
            refine aw_iload_n rfl rfl d_X_heap_34 ?_
            refine aw_iload rfl d_X_heap_35 ?_
            refine aw_iload_n rfl rfl d_X_heap_37 ?_
            refine aw_icmp_neI (tgt := 45) (7) (7) (by decide +kernel) (by decide +kernel) (by decide) d_X_heap_38 (fun q => absurd q (by decide)) (fun _ => ?_)
            refine aw_iconst (v := nI 0) ci_0 d_X_heap_41 ?_
            refine aw_goto (tgt := 55) (by decide) d_X_heap_42 ?_
            refine aw_iaddN d_X_heap_55 ?_
            refine aw_istore_n (lv2 := [.ref 0, .int (nI 7), .int (nI (w1)), .int (nI ((((((((w1 + 0) + 0) + 0) + 0) + 0) + 0) + 0))), .int (nI 7)]) rfl (by decide) rfl d_X_heap_56 ?_
            refine aw_iinc (v := nI 8) (lv2 := [.ref 0, .int (nI 7), .int (nI (w1)), .int (nI ((((((((w1 + 0) + 0) + 0) + 0) + 0) + 0) + 0))), .int (nI 8)]) rfl (by decide +kernel) (by decide) rfl d_X_heap_57 ?_
            refine aw_goto (tgt := 27) (by decide) d_X_heap_60 ?_
            refine aw_iload rfl d_X_heap_27 ?_
            refine aw_bipush (v := nI 8) cb_8 d_X_heap_29 ?_
            refine aw_icmp_gtI (tgt := 63) (8) (8) (by decide +kernel) (by decide +kernel) (by decide) d_X_heap_31 (fun q => absurd q (by decide)) (fun _ => ?_)
            refine aw_iload_n rfl rfl d_X_heap_34 ?_
            refine aw_iload rfl d_X_heap_35 ?_
            refine aw_iload_n rfl rfl d_X_heap_37 ?_
            refine aw_icmp_neI (tgt := 45) (8) (7) (by decide +kernel) (by decide +kernel) (by decide) d_X_heap_38 (fun _ => ?_) (fun q => absurd q (by decide))
            refine aw_aload_n rfl rfl d_X_heap_45 ?_
            refine aw_getr fl_X_7 km_0 (by decide) rfl rm_0_0 d_X_heap_46 ?_
            refine aw_bipush (v := nI 60) cb_60 d_X_heap_49 ?_
            refine aw_iload rfl d_X_heap_51 ?_
            refine aw_iadd d_X_heap_53 ?_
            refine aw_top (x2 := nI 68) (by decide +kernel) ?_
            refine aw_iald (j := 68) km_1 (vp_in_nI (by decide) (by decide)) (nI_clamp (by decide)) d_X_heap_54 ?_
            refine aw_top (x2 := nI 0) (wh 8 (by decide)) ?_
            refine aw_iaddN d_X_heap_55 ?_
            refine aw_istore_n (lv2 := [.ref 0, .int (nI 7), .int (nI (w1)), .int (nI (((((((((w1 + 0) + 0) + 0) + 0) + 0) + 0) + 0) + 0))), .int (nI 8)]) rfl (by decide) rfl d_X_heap_56 ?_
            refine aw_iinc (v := nI 9) (lv2 := [.ref 0, .int (nI 7), .int (nI (w1)), .int (nI (((((((((w1 + 0) + 0) + 0) + 0) + 0) + 0) + 0) + 0))), .int (nI 9)]) rfl (by decide +kernel) (by decide) rfl d_X_heap_57 ?_
            refine aw_goto (tgt := 27) (by decide) d_X_heap_60 ?_
            refine aw_iload rfl d_X_heap_27 ?_
            refine aw_bipush (v := nI 8) cb_8 d_X_heap_29 ?_
            refine aw_icmp_gtI (tgt := 63) (9) (8) (by decide +kernel) (by decide +kernel) (by decide) d_X_heap_31 (fun _ => ?_) (fun q => absurd q (by decide))
            refine aw_iload_n rfl rfl d_X_heap_63 ?_
            refine aw_bipush (v := nI 12) cb_12 d_X_heap_64 ?_
            refine aw_icmp_leI (tgt := 71) ((((((((((w1 + 0) + 0) + 0) + 0) + 0) + 0) + 0) + 0) : Nat) : Int) (12) (nI_toInt (by omega)) (by decide +kernel) (by decide) d_X_heap_66 (fun c11 => ?_) (fun c11 => ?_)
            · refine aw_aload_n rfl rfl d_X_heap_71 ?_
              refine aw_getr fl_X_7 km_0 (by decide) rfl rm_0_0 d_X_heap_72 ?_
              refine aw_bipush (v := nI 60) cb_60 d_X_heap_75 ?_
              refine aw_iload_n rfl rfl d_X_heap_77 ?_
              refine aw_iadd d_X_heap_78 ?_
              refine aw_top (x2 := nI 67) (by decide +kernel) ?_
              refine aw_iload_n rfl rfl d_X_heap_79 ?_
              refine aw_iast (j := 67) km_1 (vp_in_nI (by decide) (by decide)) (nI_clamp (by decide)) d_X_heap_80 ?_
              refine aw_iconst (v := nI 1) ci_1 d_X_heap_81 ?_
              exact as_retz rfl (by decide +kernel) d_X_heap_82 (h1 (by omega) _)
            · refine aw_iconst (v := nI 0) ci_0 d_X_heap_69 ?_
              exact as_retz rfl (by decide +kernel) d_X_heap_70 (h0 (by omega) _)
          · refine aw_iconst (v := nI 1) ci_1 d_X_heap_24 ?_
            refine aw_istore (lv2 := [.ref 0, .int (nI 8), .int (nI (w1)), .int (nI (w1)), .int (nI 1)]) (by decide) rfl d_X_heap_25 ?_
            refine aw_iload rfl d_X_heap_27 ?_
            refine aw_bipush (v := nI 8) cb_8 d_X_heap_29 ?_
            refine aw_icmp_gtI (tgt := 63) (1) (8) (by decide +kernel) (by decide +kernel) (by decide) d_X_heap_31 (fun q => absurd q (by decide)) (fun _ => ?_)
            refine aw_iload_n rfl rfl d_X_heap_34 ?_
            refine aw_iload rfl d_X_heap_35 ?_
            refine aw_iload_n rfl rfl d_X_heap_37 ?_
            refine aw_icmp_neI (tgt := 45) (1) (8) (by decide +kernel) (by decide +kernel) (by decide) d_X_heap_38 (fun _ => ?_) (fun q => absurd q (by decide))
            refine aw_aload_n rfl rfl d_X_heap_45 ?_
            refine aw_getr fl_X_7 km_0 (by decide) rfl rm_0_0 d_X_heap_46 ?_
            refine aw_bipush (v := nI 60) cb_60 d_X_heap_49 ?_
            refine aw_iload rfl d_X_heap_51 ?_
            refine aw_iadd d_X_heap_53 ?_
            refine aw_top (x2 := nI 61) (by decide +kernel) ?_
            refine aw_iald (j := 61) km_1 (vp_in_nI (by decide) (by decide)) (nI_clamp (by decide)) d_X_heap_54 ?_
            refine aw_top (x2 := nI 0) (wh 1 (by decide)) ?_
            refine aw_iaddN d_X_heap_55 ?_
            refine aw_istore_n (lv2 := [.ref 0, .int (nI 8), .int (nI (w1)), .int (nI ((w1 + 0))), .int (nI 1)]) rfl (by decide) rfl d_X_heap_56 ?_
            refine aw_iinc (v := nI 2) (lv2 := [.ref 0, .int (nI 8), .int (nI (w1)), .int (nI ((w1 + 0))), .int (nI 2)]) rfl (by decide +kernel) (by decide) rfl d_X_heap_57 ?_
            refine aw_goto (tgt := 27) (by decide) d_X_heap_60 ?_
            refine aw_iload rfl d_X_heap_27 ?_
            refine aw_bipush (v := nI 8) cb_8 d_X_heap_29 ?_
            refine aw_icmp_gtI (tgt := 63) (2) (8) (by decide +kernel) (by decide +kernel) (by decide) d_X_heap_31 (fun q => absurd q (by decide)) (fun _ => ?_)
            refine aw_iload_n rfl rfl d_X_heap_34 ?_
            refine aw_iload rfl d_X_heap_35 ?_
            refine aw_iload_n rfl rfl d_X_heap_37 ?_
            refine aw_icmp_neI (tgt := 45) (2) (8) (by decide +kernel) (by decide +kernel) (by decide) d_X_heap_38 (fun _ => ?_) (fun q => absurd q (by decide))
            refine aw_aload_n rfl rfl d_X_heap_45 ?_
            refine aw_getr fl_X_7 km_0 (by decide) rfl rm_0_0 d_X_heap_46 ?_
            refine aw_bipush (v := nI 60) cb_60 d_X_heap_49 ?_
            refine aw_iload rfl d_X_heap_51 ?_
            refine aw_iadd d_X_heap_53 ?_
            refine aw_top (x2 := nI 62) (by decide +kernel) ?_
            refine aw_iald (j := 62) km_1 (vp_in_nI (by decide) (by decide)) (nI_clamp (by decide)) d_X_heap_54 ?_
            refine aw_top (x2 := nI 0) (wh 2 (by decide)) ?_
            refine aw_iaddN d_X_heap_55 ?_
            refine aw_istore_n (lv2 := [.ref 0, .int (nI 8), .int (nI (w1)), .int (nI (((w1 + 0) + 0))), .int (nI 2)]) rfl (by decide) rfl d_X_heap_56 ?_
            refine aw_iinc (v := nI 3) (lv2 := [.ref 0, .int (nI 8), .int (nI (w1)), .int (nI (((w1 + 0) + 0))), .int (nI 3)]) rfl (by decide +kernel) (by decide) rfl d_X_heap_57 ?_
            refine aw_goto (tgt := 27) (by decide) d_X_heap_60 ?_
            refine aw_iload rfl d_X_heap_27 ?_
            refine aw_bipush (v := nI 8) cb_8 d_X_heap_29 ?_
            refine aw_icmp_gtI (tgt := 63) (3) (8) (by decide +kernel) (by decide +kernel) (by decide) d_X_heap_31 (fun q => absurd q (by decide)) (fun _ => ?_)
            refine aw_iload_n rfl rfl d_X_heap_34 ?_
            refine aw_iload rfl d_X_heap_35 ?_
            refine aw_iload_n rfl rfl d_X_heap_37 ?_
            refine aw_icmp_neI (tgt := 45) (3) (8) (by decide +kernel) (by decide +kernel) (by decide) d_X_heap_38 (fun _ => ?_) (fun q => absurd q (by decide))
            refine aw_aload_n rfl rfl d_X_heap_45 ?_
            refine aw_getr fl_X_7 km_0 (by decide) rfl rm_0_0 d_X_heap_46 ?_
            refine aw_bipush (v := nI 60) cb_60 d_X_heap_49 ?_
            refine aw_iload rfl d_X_heap_51 ?_
            refine aw_iadd d_X_heap_53 ?_
            refine aw_top (x2 := nI 63) (by decide +kernel) ?_
            refine aw_iald (j := 63) km_1 (vp_in_nI (by decide) (by decide)) (nI_clamp (by decide)) d_X_heap_54 ?_
            refine aw_top (x2 := nI 0) (wh 3 (by decide)) ?_
            refine aw_iaddN d_X_heap_55 ?_
            refine aw_istore_n (lv2 := [.ref 0, .int (nI 8), .int (nI (w1)), .int (nI ((((w1 + 0) + 0) + 0))), .int (nI 3)]) rfl (by decide) rfl d_X_heap_56 ?_
            refine aw_iinc (v := nI 4) (lv2 := [.ref 0, .int (nI 8), .int (nI (w1)), .int (nI ((((w1 + 0) + 0) + 0))), .int (nI 4)]) rfl (by decide +kernel) (by decide) rfl d_X_heap_57 ?_
            refine aw_goto (tgt := 27) (by decide) d_X_heap_60 ?_
            refine aw_iload rfl d_X_heap_27 ?_
            refine aw_bipush (v := nI 8) cb_8 d_X_heap_29 ?_
            refine aw_icmp_gtI (tgt := 63) (4) (8) (by decide +kernel) (by decide +kernel) (by decide) d_X_heap_31 (fun q => absurd q (by decide)) (fun _ => ?_)
            refine aw_iload_n rfl rfl d_X_heap_34 ?_
            refine aw_iload rfl d_X_heap_35 ?_
            refine aw_iload_n rfl rfl d_X_heap_37 ?_
            refine aw_icmp_neI (tgt := 45) (4) (8) (by decide +kernel) (by decide +kernel) (by decide) d_X_heap_38 (fun _ => ?_) (fun q => absurd q (by decide))
            refine aw_aload_n rfl rfl d_X_heap_45 ?_
            refine aw_getr fl_X_7 km_0 (by decide) rfl rm_0_0 d_X_heap_46 ?_
            refine aw_bipush (v := nI 60) cb_60 d_X_heap_49 ?_
            refine aw_iload rfl d_X_heap_51 ?_
            refine aw_iadd d_X_heap_53 ?_
            refine aw_top (x2 := nI 64) (by decide +kernel) ?_
            refine aw_iald (j := 64) km_1 (vp_in_nI (by decide) (by decide)) (nI_clamp (by decide)) d_X_heap_54 ?_
            refine aw_top (x2 := nI 0) (wh 4 (by decide)) ?_
            refine aw_iaddN d_X_heap_55 ?_
            refine aw_istore_n (lv2 := [.ref 0, .int (nI 8), .int (nI (w1)), .int (nI (((((w1 + 0) + 0) + 0) + 0))), .int (nI 4)]) rfl (by decide) rfl d_X_heap_56 ?_
            refine aw_iinc (v := nI 5) (lv2 := [.ref 0, .int (nI 8), .int (nI (w1)), .int (nI (((((w1 + 0) + 0) + 0) + 0))), .int (nI 5)]) rfl (by decide +kernel) (by decide) rfl d_X_heap_57 ?_
            refine aw_goto (tgt := 27) (by decide) d_X_heap_60 ?_
            refine aw_iload rfl d_X_heap_27 ?_
            refine aw_bipush (v := nI 8) cb_8 d_X_heap_29 ?_
            refine aw_icmp_gtI (tgt := 63) (5) (8) (by decide +kernel) (by decide +kernel) (by decide) d_X_heap_31 (fun q => absurd q (by decide)) (fun _ => ?_)
            refine aw_iload_n rfl rfl d_X_heap_34 ?_
            refine aw_iload rfl d_X_heap_35 ?_
            refine aw_iload_n rfl rfl d_X_heap_37 ?_
            refine aw_icmp_neI (tgt := 45) (5) (8) (by decide +kernel) (by decide +kernel) (by decide) d_X_heap_38 (fun _ => ?_) (fun q => absurd q (by decide))
            refine aw_aload_n rfl rfl d_X_heap_45 ?_
            refine aw_getr fl_X_7 km_0 (by decide) rfl rm_0_0 d_X_heap_46 ?_
            refine aw_bipush (v := nI 60) cb_60 d_X_heap_49 ?_
            refine aw_iload rfl d_X_heap_51 ?_
            refine aw_iadd d_X_heap_53 ?_
            refine aw_top (x2 := nI 65) (by decide +kernel) ?_
            refine aw_iald (j := 65) km_1 (vp_in_nI (by decide) (by decide)) (nI_clamp (by decide)) d_X_heap_54 ?_
            refine aw_top (x2 := nI 0) (wh 5 (by decide)) ?_
            refine aw_iaddN d_X_heap_55 ?_
            refine aw_istore_n (lv2 := [.ref 0, .int (nI 8), .int (nI (w1)), .int (nI ((((((w1 + 0) + 0) + 0) + 0) + 0))), .int (nI 5)]) rfl (by decide) rfl d_X_heap_56 ?_
            refine aw_iinc (v := nI 6) (lv2 := [.ref 0, .int (nI 8), .int (nI (w1)), .int (nI ((((((w1 + 0) + 0) + 0) + 0) + 0))), .int (nI 6)]) rfl (by decide +kernel) (by decide) rfl d_X_heap_57 ?_
            refine aw_goto (tgt := 27) (by decide) d_X_heap_60 ?_
            refine aw_iload rfl d_X_heap_27 ?_
            refine aw_bipush (v := nI 8) cb_8 d_X_heap_29 ?_
            refine aw_icmp_gtI (tgt := 63) (6) (8) (by decide +kernel) (by decide +kernel) (by decide) d_X_heap_31 (fun q => absurd q (by decide)) (fun _ => ?_)
            refine aw_iload_n rfl rfl d_X_heap_34 ?_
            refine aw_iload rfl d_X_heap_35 ?_
            refine aw_iload_n rfl rfl d_X_heap_37 ?_
            refine aw_icmp_neI (tgt := 45) (6) (8) (by decide +kernel) (by decide +kernel) (by decide) d_X_heap_38 (fun _ => ?_) (fun q => absurd q (by decide))
            refine aw_aload_n rfl rfl d_X_heap_45 ?_
            refine aw_getr fl_X_7 km_0 (by decide) rfl rm_0_0 d_X_heap_46 ?_
            refine aw_bipush (v := nI 60) cb_60 d_X_heap_49 ?_
            refine aw_iload rfl d_X_heap_51 ?_
            refine aw_iadd d_X_heap_53 ?_
            refine aw_top (x2 := nI 66) (by decide +kernel) ?_
            refine aw_iald (j := 66) km_1 (vp_in_nI (by decide) (by decide)) (nI_clamp (by decide)) d_X_heap_54 ?_
            refine aw_top (x2 := nI 0) (wh 6 (by decide)) ?_
            refine aw_iaddN d_X_heap_55 ?_
            refine aw_istore_n (lv2 := [.ref 0, .int (nI 8), .int (nI (w1)), .int (nI (((((((w1 + 0) + 0) + 0) + 0) + 0) + 0))), .int (nI 6)]) rfl (by decide) rfl d_X_heap_56 ?_
            refine aw_iinc (v := nI 7) (lv2 := [.ref 0, .int (nI 8), .int (nI (w1)), .int (nI (((((((w1 + 0) + 0) + 0) + 0) + 0) + 0))), .int (nI 7)]) rfl (by decide +kernel) (by decide) rfl d_X_heap_57 ?_
            refine aw_goto (tgt := 27) (by decide) d_X_heap_60 ?_
            refine aw_iload rfl d_X_heap_27 ?_
            refine aw_bipush (v := nI 8) cb_8 d_X_heap_29 ?_
            refine aw_icmp_gtI (tgt := 63) (7) (8) (by decide +kernel) (by decide +kernel) (by decide) d_X_heap_31 (fun q => absurd q (by decide)) (fun _ => ?_)
            refine aw_iload_n rfl rfl d_X_heap_34 ?_
            refine aw_iload rfl d_X_heap_35 ?_
            refine aw_iload_n rfl rfl d_X_heap_37 ?_
            refine aw_icmp_neI (tgt := 45) (7) (8) (by decide +kernel) (by decide +kernel) (by decide) d_X_heap_38 (fun _ => ?_) (fun q => absurd q (by decide))
            refine aw_aload_n rfl rfl d_X_heap_45 ?_
            refine aw_getr fl_X_7 km_0 (by decide) rfl rm_0_0 d_X_heap_46 ?_
            refine aw_bipush (v := nI 60) cb_60 d_X_heap_49 ?_
            refine aw_iload rfl d_X_heap_51 ?_
            refine aw_iadd d_X_heap_53 ?_
            refine aw_top (x2 := nI 67) (by decide +kernel) ?_
            refine aw_iald (j := 67) km_1 (vp_in_nI (by decide) (by decide)) (nI_clamp (by decide)) d_X_heap_54 ?_
            refine aw_top (x2 := nI 0) (wh 7 (by decide)) ?_
            refine aw_iaddN d_X_heap_55 ?_
            refine aw_istore_n (lv2 := [.ref 0, .int (nI 8), .int (nI (w1)), .int (nI ((((((((w1 + 0) + 0) + 0) + 0) + 0) + 0) + 0))), .int (nI 7)]) rfl (by decide) rfl d_X_heap_56 ?_
            refine aw_iinc (v := nI 8) (lv2 := [.ref 0, .int (nI 8), .int (nI (w1)), .int (nI ((((((((w1 + 0) + 0) + 0) + 0) + 0) + 0) + 0))), .int (nI 8)]) rfl (by decide +kernel) (by decide) rfl d_X_heap_57 ?_
            refine aw_goto (tgt := 27) (by decide) d_X_heap_60 ?_
            refine aw_iload rfl d_X_heap_27 ?_
            refine aw_bipush (v := nI 8) cb_8 d_X_heap_29 ?_
            refine aw_icmp_gtI (tgt := 63) (8) (8) (by decide +kernel) (by decide +kernel) (by decide) d_X_heap_31 (fun q => absurd q (by decide)) (fun _ => ?_)
            refine aw_iload_n rfl rfl d_X_heap_34 ?_
            refine aw_iload rfl d_X_heap_35 ?_
            refine aw_iload_n rfl rfl d_X_heap_37 ?_
            refine aw_icmp_neI (tgt := 45) (8) (8) (by decide +kernel) (by decide +kernel) (by decide) d_X_heap_38 (fun q => absurd q (by decide)) (fun _ => ?_)
            refine aw_iconst (v := nI 0) ci_0 d_X_heap_41 ?_
            refine aw_goto (tgt := 55) (by decide) d_X_heap_42 ?_
            refine aw_iaddN d_X_heap_55 ?_
            refine aw_istore_n (lv2 := [.ref 0, .int (nI 8), .int (nI (w1)), .int (nI (((((((((w1 + 0) + 0) + 0) + 0) + 0) + 0) + 0) + 0))), .int (nI 8)]) rfl (by decide) rfl d_X_heap_56 ?_
            refine aw_iinc (v := nI 9) (lv2 := [.ref 0, .int (nI 8), .int (nI (w1)), .int (nI (((((((((w1 + 0) + 0) + 0) + 0) + 0) + 0) + 0) + 0))), .int (nI 9)]) rfl (by decide +kernel) (by decide) rfl d_X_heap_57 ?_
            refine aw_goto (tgt := 27) (by decide) d_X_heap_60 ?_
            refine aw_iload rfl d_X_heap_27 ?_
            refine aw_bipush (v := nI 8) cb_8 d_X_heap_29 ?_
            refine aw_icmp_gtI (tgt := 63) (9) (8) (by decide +kernel) (by decide +kernel) (by decide) d_X_heap_31 (fun _ => ?_) (fun q => absurd q (by decide))
            refine aw_iload_n rfl rfl d_X_heap_63 ?_
            refine aw_bipush (v := nI 12) cb_12 d_X_heap_64 ?_
            refine aw_icmp_leI (tgt := 71) ((((((((((w1 + 0) + 0) + 0) + 0) + 0) + 0) + 0) + 0) : Nat) : Int) (12) (nI_toInt (by omega)) (by decide +kernel) (by decide) d_X_heap_66 (fun c12 => ?_) (fun c12 => ?_)
            · refine aw_aload_n rfl rfl d_X_heap_71 ?_
              refine aw_getr fl_X_7 km_0 (by decide) rfl rm_0_0 d_X_heap_72 ?_
              refine aw_bipush (v := nI 60) cb_60 d_X_heap_75 ?_
              refine aw_iload_n rfl rfl d_X_heap_77 ?_
              refine aw_iadd d_X_heap_78 ?_
              refine aw_top (x2 := nI 68) (by decide +kernel) ?_
              refine aw_iload_n rfl rfl d_X_heap_79 ?_
              refine aw_iast (j := 68) km_1 (vp_in_nI (by decide) (by decide)) (nI_clamp (by decide)) d_X_heap_80 ?_
              refine aw_iconst (v := nI 1) ci_1 d_X_heap_81 ?_
              exact as_retz rfl (by decide +kernel) d_X_heap_82 (h1 (by omega) _)
            · refine aw_iconst (v := nI 0) ci_0 d_X_heap_69 ?_
              exact as_retz rfl (by decide +kernel) d_X_heap_70 (h0 (by omega) _)
set_option maxRecDepth 20000 in
theorem ms_fewest {K2 : K2T} {I : Nat → Nat → Int32} (hR : FRm I) {x : Int32} (hg : 0 ≤ x.toInt ∧ x.toInt ≤ 8 → ∀ I', K2 (some (.int (nI 0))) I') (hb : ¬ (0 ≤ x.toInt ∧ x.toInt ≤ 8) → ∀ I', K2 (some (.int (-1))) I') : Ss l b 14 y_X_fewest KM RM [.ref 0, .int (x)] (I) K2 := by
  obtain ⟨hF, w0, w2, w3, w5, w6, w7, w73, w74, wh, w110, o3, o12, o19, o21, o22, o23, o35⟩ := hR
  have hF0 := hF
  obtain ⟨g0, g1, g2, g3, g4, g5, g6, g7, g8, g9, g10, g11, g12, gb⟩ := hF
  refine Ss.of (show As l b 14 y_X_fewest KM RM K2 (I) 0 [.ref 0, .int (x), uu, uu, uu, uu] [] from ?_)
  refine aw_iload_n rfl rfl d_X_fewest_0 ?_
  refine aw_iconst (v := nI 0) ci_0 d_X_fewest_1 ?_
  refine aw_bipush (v := nI 8) cb_8 d_X_fewest_2 ?_
  refine as_callS (as := [.int (x), .int (nI 0), .int (nI 8)]) (d' := 13) mo_X_isIn lk_X_98 rfl ⟨by decide, by decide⟩ rfl rfl (by decide) d_X_fewest_4 (Ss.of (show As l b 13 y_X_isIn KM RM _ (I) 0 [.int (x), .int (nI 0), .int (nI 8)] [] from ?_))
  refine aw_iload_n rfl rfl d_X_isIn_0 ?_
  refine aw_iload_n rfl rfl d_X_isIn_1 ?_
  refine aw_icmp_ltI (tgt := 14) (x).toInt (0) rfl (by decide +kernel) (by decide) d_X_isIn_2 (fun c1 => ?_) (fun c1 => ?_)
  · refine aw_iconst (v := nI 0) ci_0 d_X_isIn_14 ?_
    refine as_retz rfl (by decide +kernel) d_X_isIn_15 ?_
    refine (show As l b 14 y_X_fewest KM RM K2 (I) 7 [.ref 0, .int (x), uu, uu, uu, uu] [.int (nI 0)] from ?_)
    refine aw_if_neI (tgt := 12) (0) (by decide +kernel) (by decide) d_X_fewest_7 (fun q => absurd q (by decide)) (fun _ => ?_)
    refine aw_iconst (v := (-1 : Int32)) rfl d_X_fewest_10 ?_
    exact as_reti rfl d_X_fewest_11 (hb (by omega) _)
  · refine aw_iload_n rfl rfl d_X_isIn_5 ?_
    refine aw_iload_n rfl rfl d_X_isIn_6 ?_
    refine aw_icmp_gtI (tgt := 14) (x).toInt (8) rfl (by decide +kernel) (by decide) d_X_isIn_7 (fun c2 => ?_) (fun c2 => ?_)
    · refine aw_iconst (v := nI 0) ci_0 d_X_isIn_14 ?_
      refine as_retz rfl (by decide +kernel) d_X_isIn_15 ?_
      refine (show As l b 14 y_X_fewest KM RM K2 (I) 7 [.ref 0, .int (x), uu, uu, uu, uu] [.int (nI 0)] from ?_)
      refine aw_if_neI (tgt := 12) (0) (by decide +kernel) (by decide) d_X_fewest_7 (fun q => absurd q (by decide)) (fun _ => ?_)
      refine aw_iconst (v := (-1 : Int32)) rfl d_X_fewest_10 ?_
      exact as_reti rfl d_X_fewest_11 (hb (by omega) _)
    · refine aw_iconst (v := nI 1) ci_1 d_X_isIn_10 ?_
      refine aw_goto (tgt := 15) (by decide) d_X_isIn_11 ?_
      refine as_retz rfl (by decide +kernel) d_X_isIn_15 ?_
      refine (show As l b 14 y_X_fewest KM RM K2 (I) 7 [.ref 0, .int (x), uu, uu, uu, uu] [.int (nI 1)] from ?_)
      refine aw_if_neI (tgt := 12) (1) (by decide +kernel) (by decide) d_X_fewest_7 (fun _ => ?_) (fun q => absurd q (by decide))
      refine aw_iconst (v := nI 1) ci_1 d_X_fewest_12 ?_
      refine aw_istore_n (lv2 := [.ref 0, .int (x), .int (nI 1), uu, uu, uu]) rfl (by decide) rfl d_X_fewest_13 ?_
      refine aw_iconst (v := nI 1) ci_1 d_X_fewest_14 ?_
      refine aw_istore_n (lv2 := [.ref 0, .int (x), .int (nI 1), .int (nI 1), uu, uu]) rfl (by decide) rfl d_X_fewest_15 ?_
      refine aw_iload_n rfl rfl d_X_fewest_16 ?_
      refine aw_bipush (v := nI 8) cb_8 d_X_fewest_17 ?_
      refine aw_icmp_gtI (tgt := 89) (1) (8) (by decide +kernel) (by decide +kernel) (by decide) d_X_fewest_19 (fun q => absurd q (by decide)) (fun _ => ?_)
      refine aw_aload_n rfl rfl d_X_fewest_22 ?_
      refine aw_getr fl_X_75 km_0 (by decide) rfl rm_0_42 d_X_fewest_23 ?_
      refine aw_iload_n rfl rfl d_X_fewest_26 ?_
      refine aw_aload_n rfl rfl d_X_fewest_27 ?_
      refine aw_getr fl_X_7 km_0 (by decide) rfl rm_0_0 d_X_fewest_28 ?_
      refine aw_bipush (v := nI 60) cb_60 d_X_fewest_31 ?_
      refine aw_iload_n rfl rfl d_X_fewest_33 ?_
      refine aw_iadd d_X_fewest_34 ?_
      refine aw_top (x2 := nI 61) (by decide +kernel) ?_
      refine aw_iald (j := 61) km_1 (vp_in_nI (by decide) (by decide)) (nI_clamp (by decide)) d_X_fewest_35 ?_
      refine aw_top (x2 := nI 0) (wh 1 (by decide)) ?_
      refine aw_iast (j := 1) km_19 (vp_in_nI (by decide) (by decide)) (nI_clamp (by decide)) d_X_fewest_36 ?_
      refine aw_aload_n rfl rfl d_X_fewest_37 ?_
      refine aw_getr fl_X_81 km_0 (by decide) rfl rm_0_44 d_X_fewest_38 ?_
      refine aw_iload_n rfl rfl d_X_fewest_41 ?_
      refine aw_iconst (v := nI 0) ci_0 d_X_fewest_42 ?_
      refine aw_iast (j := 1) km_21 (vp_in_nI (by decide) (by decide)) (nI_clamp (by decide)) d_X_fewest_43 ?_
      refine aw_aload_n rfl rfl d_X_fewest_44 ?_
      refine aw_getr fl_X_78 km_0 (by decide) rfl rm_0_43 d_X_fewest_45 ?_
      refine aw_iload_n rfl rfl d_X_fewest_48 ?_
      refine aw_iload_n rfl rfl d_X_fewest_49 ?_
      refine aw_iast (j := 1) km_20 (vp_in_nI (by decide) (by decide)) (nI_clamp (by decide)) d_X_fewest_50 ?_
      refine aw_iload_n rfl rfl d_X_fewest_51 ?_
      refine aw_aload_n rfl rfl d_X_fewest_52 ?_
      refine aw_getr fl_X_75 km_0 (by decide) rfl rm_0_42 d_X_fewest_53 ?_
      refine aw_iload_n rfl rfl d_X_fewest_56 ?_
      refine aw_iald (j := 1) km_19 (vp_in_nI (by decide) (by decide)) (nI_clamp (by decide)) d_X_fewest_57 ?_
      refine aw_top (x2 := nI 0) (Eq.trans (congrFun (upd2_ne (by decide)) (1)) (Eq.trans (congrFun (upd2_ne (by decide)) (1)) (upd2_eq))) ?_
      refine aw_iconst (v := nI 1) ci_1 d_X_fewest_58 ?_
      refine aw_iadd d_X_fewest_59 ?_
      refine aw_top (x2 := nI 1) (by decide +kernel) ?_
      refine aw_imul d_X_fewest_60 ?_
      refine aw_top (x2 := nI 1) (by decide +kernel) ?_
      refine aw_istore_n (lv2 := [.ref 0, .int (x), .int (nI 1), .int (nI 1), uu, uu]) rfl (by decide) rfl d_X_fewest_61 ?_
      refine aw_aload_n rfl rfl d_X_fewest_62 ?_
      refine aw_getr fl_X_75 km_0 (by decide) rfl rm_0_42 d_X_fewest_63 ?_
      refine aw_iload_n rfl rfl d_X_fewest_66 ?_
      refine aw_iald (j := 1) km_19 (vp_in_nI (by decide) (by decide)) (nI_clamp (by decide)) d_X_fewest_67 ?_
      refine aw_top (x2 := nI 0) (Eq.trans (congrFun (upd2_ne (by decide)) (1)) (Eq.trans (congrFun (upd2_ne (by decide)) (1)) (upd2_eq))) ?_
      refine aw_if_leI (tgt := 83) (0) (by decide +kernel) (by decide) d_X_fewest_68 (fun _ => ?_) (fun q => absurd q (by decide))
      refine aw_iinc (v := nI 2) (lv2 := [.ref 0, .int (x), .int (nI 1), .int (nI 2), uu, uu]) rfl (by decide +kernel) (by decide) rfl d_X_fewest_83 ?_
      refine aw_goto (tgt := 16) (by decide) d_X_fewest_86 ?_
      refine aw_iload_n rfl rfl d_X_fewest_16 ?_
      refine aw_bipush (v := nI 8) cb_8 d_X_fewest_17 ?_
      refine aw_icmp_gtI (tgt := 89) (2) (8) (by decide +kernel) (by decide +kernel) (by decide) d_X_fewest_19 (fun q => absurd q (by decide)) (fun _ => ?_)
      refine aw_aload_n rfl rfl d_X_fewest_22 ?_
      refine aw_getr fl_X_75 km_0 (by decide) rfl rm_0_42 d_X_fewest_23 ?_
      refine aw_iload_n rfl rfl d_X_fewest_26 ?_
      refine aw_aload_n rfl rfl d_X_fewest_27 ?_
      refine aw_getr fl_X_7 km_0 (by decide) rfl rm_0_0 d_X_fewest_28 ?_
      refine aw_bipush (v := nI 60) cb_60 d_X_fewest_31 ?_
      refine aw_iload_n rfl rfl d_X_fewest_33 ?_
      refine aw_iadd d_X_fewest_34 ?_
      refine aw_top (x2 := nI 62) (by decide +kernel) ?_
      refine aw_iald (j := 62) km_1 (vp_in_nI (by decide) (by decide)) (nI_clamp (by decide)) d_X_fewest_35 ?_
      refine aw_top (x2 := nI 0) (Eq.trans (congrFun (upd2_ne (by decide)) (62)) (Eq.trans (congrFun (upd2_ne (by decide)) (62)) (Eq.trans (congrFun (upd2_ne (by decide)) (62)) (wh 2 (by decide))))) ?_
      refine aw_iast (j := 2) km_19 (vp_in_nI (by decide) (by decide)) (nI_clamp (by decide)) d_X_fewest_36 ?_
      refine aw_aload_n rfl rfl d_X_fewest_37 ?_
      refine aw_getr fl_X_81 km_0 (by decide) rfl rm_0_44 d_X_fewest_38 ?_
      refine aw_iload_n rfl rfl d_X_fewest_41 ?_
      refine aw_iconst (v := nI 0) ci_0 d_X_fewest_42 ?_
      refine aw_iast (j := 2) km_21 (vp_in_nI (by decide) (by decide)) (nI_clamp (by decide)) d_X_fewest_43 ?_
      refine aw_aload_n rfl rfl d_X_fewest_44 ?_
      refine aw_getr fl_X_78 km_0 (by decide) rfl rm_0_43 d_X_fewest_45 ?_
      refine aw_iload_n rfl rfl d_X_fewest_48 ?_
      refine aw_iload_n rfl rfl d_X_fewest_49 ?_
      refine aw_iast (j := 2) km_20 (vp_in_nI (by decide) (by decide)) (nI_clamp (by decide)) d_X_fewest_50 ?_
      refine aw_iload_n rfl rfl d_X_fewest_51 ?_
      refine aw_aload_n rfl rfl d_X_fewest_52 ?_
      refine aw_getr fl_X_75 km_0 (by decide) rfl rm_0_42 d_X_fewest_53 ?_
      refine aw_iload_n rfl rfl d_X_fewest_56 ?_
      refine aw_iald (j := 2) km_19 (vp_in_nI (by decide) (by decide)) (nI_clamp (by decide)) d_X_fewest_57 ?_
      refine aw_top (x2 := nI 0) (Eq.trans (congrFun (upd2_ne (by decide)) (2)) (Eq.trans (congrFun (upd2_ne (by decide)) (2)) (upd2_eq))) ?_
      refine aw_iconst (v := nI 1) ci_1 d_X_fewest_58 ?_
      refine aw_iadd d_X_fewest_59 ?_
      refine aw_top (x2 := nI 1) (by decide +kernel) ?_
      refine aw_imul d_X_fewest_60 ?_
      refine aw_top (x2 := nI 1) (by decide +kernel) ?_
      refine aw_istore_n (lv2 := [.ref 0, .int (x), .int (nI 1), .int (nI 2), uu, uu]) rfl (by decide) rfl d_X_fewest_61 ?_
      refine aw_aload_n rfl rfl d_X_fewest_62 ?_
      refine aw_getr fl_X_75 km_0 (by decide) rfl rm_0_42 d_X_fewest_63 ?_
      refine aw_iload_n rfl rfl d_X_fewest_66 ?_
      refine aw_iald (j := 2) km_19 (vp_in_nI (by decide) (by decide)) (nI_clamp (by decide)) d_X_fewest_67 ?_
      refine aw_top (x2 := nI 0) (Eq.trans (congrFun (upd2_ne (by decide)) (2)) (Eq.trans (congrFun (upd2_ne (by decide)) (2)) (upd2_eq))) ?_
      refine aw_if_leI (tgt := 83) (0) (by decide +kernel) (by decide) d_X_fewest_68 (fun _ => ?_) (fun q => absurd q (by decide))
      refine aw_iinc (v := nI 3) (lv2 := [.ref 0, .int (x), .int (nI 1), .int (nI 3), uu, uu]) rfl (by decide +kernel) (by decide) rfl d_X_fewest_83 ?_
      refine aw_goto (tgt := 16) (by decide) d_X_fewest_86 ?_
      refine aw_iload_n rfl rfl d_X_fewest_16 ?_
      refine aw_bipush (v := nI 8) cb_8 d_X_fewest_17 ?_
      refine aw_icmp_gtI (tgt := 89) (3) (8) (by decide +kernel) (by decide +kernel) (by decide) d_X_fewest_19 (fun q => absurd q (by decide)) (fun _ => ?_)
      refine aw_aload_n rfl rfl d_X_fewest_22 ?_
      refine aw_getr fl_X_75 km_0 (by decide) rfl rm_0_42 d_X_fewest_23 ?_
      refine aw_iload_n rfl rfl d_X_fewest_26 ?_
      refine aw_aload_n rfl rfl d_X_fewest_27 ?_
      refine aw_getr fl_X_7 km_0 (by decide) rfl rm_0_0 d_X_fewest_28 ?_
      refine aw_bipush (v := nI 60) cb_60 d_X_fewest_31 ?_
      refine aw_iload_n rfl rfl d_X_fewest_33 ?_
      refine aw_iadd d_X_fewest_34 ?_
      refine aw_top (x2 := nI 63) (by decide +kernel) ?_
      refine aw_iald (j := 63) km_1 (vp_in_nI (by decide) (by decide)) (nI_clamp (by decide)) d_X_fewest_35 ?_
      refine aw_top (x2 := nI 0) (Eq.trans (congrFun (upd2_ne (by decide)) (63)) (Eq.trans (congrFun (upd2_ne (by decide)) (63)) (Eq.trans (congrFun (upd2_ne (by decide)) (63)) (Eq.trans (congrFun (upd2_ne (by decide)) (63)) (Eq.trans (congrFun (upd2_ne (by decide)) (63)) (Eq.trans (congrFun (upd2_ne (by decide)) (63)) (wh 3 (by decide)))))))) ?_
      refine aw_iast (j := 3) km_19 (vp_in_nI (by decide) (by decide)) (nI_clamp (by decide)) d_X_fewest_36 ?_
      refine aw_aload_n rfl rfl d_X_fewest_37 ?_
      refine aw_getr fl_X_81 km_0 (by decide) rfl rm_0_44 d_X_fewest_38 ?_
      refine aw_iload_n rfl rfl d_X_fewest_41 ?_
      refine aw_iconst (v := nI 0) ci_0 d_X_fewest_42 ?_
      refine aw_iast (j := 3) km_21 (vp_in_nI (by decide) (by decide)) (nI_clamp (by decide)) d_X_fewest_43 ?_
      refine aw_aload_n rfl rfl d_X_fewest_44 ?_
      refine aw_getr fl_X_78 km_0 (by decide) rfl rm_0_43 d_X_fewest_45 ?_
      refine aw_iload_n rfl rfl d_X_fewest_48 ?_
      refine aw_iload_n rfl rfl d_X_fewest_49 ?_
      refine aw_iast (j := 3) km_20 (vp_in_nI (by decide) (by decide)) (nI_clamp (by decide)) d_X_fewest_50 ?_
      refine aw_iload_n rfl rfl d_X_fewest_51 ?_
      refine aw_aload_n rfl rfl d_X_fewest_52 ?_
      refine aw_getr fl_X_75 km_0 (by decide) rfl rm_0_42 d_X_fewest_53 ?_
      refine aw_iload_n rfl rfl d_X_fewest_56 ?_
      refine aw_iald (j := 3) km_19 (vp_in_nI (by decide) (by decide)) (nI_clamp (by decide)) d_X_fewest_57 ?_
      refine aw_top (x2 := nI 0) (Eq.trans (congrFun (upd2_ne (by decide)) (3)) (Eq.trans (congrFun (upd2_ne (by decide)) (3)) (upd2_eq))) ?_
      refine aw_iconst (v := nI 1) ci_1 d_X_fewest_58 ?_
      refine aw_iadd d_X_fewest_59 ?_
      refine aw_top (x2 := nI 1) (by decide +kernel) ?_
      refine aw_imul d_X_fewest_60 ?_
      refine aw_top (x2 := nI 1) (by decide +kernel) ?_
      refine aw_istore_n (lv2 := [.ref 0, .int (x), .int (nI 1), .int (nI 3), uu, uu]) rfl (by decide) rfl d_X_fewest_61 ?_
      refine aw_aload_n rfl rfl d_X_fewest_62 ?_
      refine aw_getr fl_X_75 km_0 (by decide) rfl rm_0_42 d_X_fewest_63 ?_
      refine aw_iload_n rfl rfl d_X_fewest_66 ?_
      refine aw_iald (j := 3) km_19 (vp_in_nI (by decide) (by decide)) (nI_clamp (by decide)) d_X_fewest_67 ?_
      refine aw_top (x2 := nI 0) (Eq.trans (congrFun (upd2_ne (by decide)) (3)) (Eq.trans (congrFun (upd2_ne (by decide)) (3)) (upd2_eq))) ?_
      refine aw_if_leI (tgt := 83) (0) (by decide +kernel) (by decide) d_X_fewest_68 (fun _ => ?_) (fun q => absurd q (by decide))
      refine aw_iinc (v := nI 4) (lv2 := [.ref 0, .int (x), .int (nI 1), .int (nI 4), uu, uu]) rfl (by decide +kernel) (by decide) rfl d_X_fewest_83 ?_
      refine aw_goto (tgt := 16) (by decide) d_X_fewest_86 ?_
      refine aw_iload_n rfl rfl d_X_fewest_16 ?_
      refine aw_bipush (v := nI 8) cb_8 d_X_fewest_17 ?_
      refine aw_icmp_gtI (tgt := 89) (4) (8) (by decide +kernel) (by decide +kernel) (by decide) d_X_fewest_19 (fun q => absurd q (by decide)) (fun _ => ?_)
      refine aw_aload_n rfl rfl d_X_fewest_22 ?_
      refine aw_getr fl_X_75 km_0 (by decide) rfl rm_0_42 d_X_fewest_23 ?_
      refine aw_iload_n rfl rfl d_X_fewest_26 ?_
      refine aw_aload_n rfl rfl d_X_fewest_27 ?_
      refine aw_getr fl_X_7 km_0 (by decide) rfl rm_0_0 d_X_fewest_28 ?_
      refine aw_bipush (v := nI 60) cb_60 d_X_fewest_31 ?_
      refine aw_iload_n rfl rfl d_X_fewest_33 ?_
      refine aw_iadd d_X_fewest_34 ?_
      refine aw_top (x2 := nI 64) (by decide +kernel) ?_
      refine aw_iald (j := 64) km_1 (vp_in_nI (by decide) (by decide)) (nI_clamp (by decide)) d_X_fewest_35 ?_
      refine aw_top (x2 := nI 0) (Eq.trans (congrFun (upd2_ne (by decide)) (64)) (Eq.trans (congrFun (upd2_ne (by decide)) (64)) (Eq.trans (congrFun (upd2_ne (by decide)) (64)) (Eq.trans (congrFun (upd2_ne (by decide)) (64)) (Eq.trans (congrFun (upd2_ne (by decide)) (64)) (Eq.trans (congrFun (upd2_ne (by decide)) (64)) (Eq.trans (congrFun (upd2_ne (by decide)) (64)) (Eq.trans (congrFun (upd2_ne (by decide)) (64)) (Eq.trans (congrFun (upd2_ne (by decide)) (64)) (wh 4 (by decide))))))))))) ?_
      refine aw_iast (j := 4) km_19 (vp_in_nI (by decide) (by decide)) (nI_clamp (by decide)) d_X_fewest_36 ?_
      refine aw_aload_n rfl rfl d_X_fewest_37 ?_
      refine aw_getr fl_X_81 km_0 (by decide) rfl rm_0_44 d_X_fewest_38 ?_
      refine aw_iload_n rfl rfl d_X_fewest_41 ?_
      refine aw_iconst (v := nI 0) ci_0 d_X_fewest_42 ?_
      refine aw_iast (j := 4) km_21 (vp_in_nI (by decide) (by decide)) (nI_clamp (by decide)) d_X_fewest_43 ?_
      refine aw_aload_n rfl rfl d_X_fewest_44 ?_
      refine aw_getr fl_X_78 km_0 (by decide) rfl rm_0_43 d_X_fewest_45 ?_
      refine aw_iload_n rfl rfl d_X_fewest_48 ?_
      refine aw_iload_n rfl rfl d_X_fewest_49 ?_
      refine aw_iast (j := 4) km_20 (vp_in_nI (by decide) (by decide)) (nI_clamp (by decide)) d_X_fewest_50 ?_
      refine aw_iload_n rfl rfl d_X_fewest_51 ?_
      refine aw_aload_n rfl rfl d_X_fewest_52 ?_
      refine aw_getr fl_X_75 km_0 (by decide) rfl rm_0_42 d_X_fewest_53 ?_
      refine aw_iload_n rfl rfl d_X_fewest_56 ?_
      refine aw_iald (j := 4) km_19 (vp_in_nI (by decide) (by decide)) (nI_clamp (by decide)) d_X_fewest_57 ?_
      refine aw_top (x2 := nI 0) (Eq.trans (congrFun (upd2_ne (by decide)) (4)) (Eq.trans (congrFun (upd2_ne (by decide)) (4)) (upd2_eq))) ?_
      refine aw_iconst (v := nI 1) ci_1 d_X_fewest_58 ?_
      refine aw_iadd d_X_fewest_59 ?_
      refine aw_top (x2 := nI 1) (by decide +kernel) ?_
      refine aw_imul d_X_fewest_60 ?_
      refine aw_top (x2 := nI 1) (by decide +kernel) ?_
      refine aw_istore_n (lv2 := [.ref 0, .int (x), .int (nI 1), .int (nI 4), uu, uu]) rfl (by decide) rfl d_X_fewest_61 ?_
      refine aw_aload_n rfl rfl d_X_fewest_62 ?_
      refine aw_getr fl_X_75 km_0 (by decide) rfl rm_0_42 d_X_fewest_63 ?_
      refine aw_iload_n rfl rfl d_X_fewest_66 ?_
      refine aw_iald (j := 4) km_19 (vp_in_nI (by decide) (by decide)) (nI_clamp (by decide)) d_X_fewest_67 ?_
      refine aw_top (x2 := nI 0) (Eq.trans (congrFun (upd2_ne (by decide)) (4)) (Eq.trans (congrFun (upd2_ne (by decide)) (4)) (upd2_eq))) ?_
      refine aw_if_leI (tgt := 83) (0) (by decide +kernel) (by decide) d_X_fewest_68 (fun _ => ?_) (fun q => absurd q (by decide))
      refine aw_iinc (v := nI 5) (lv2 := [.ref 0, .int (x), .int (nI 1), .int (nI 5), uu, uu]) rfl (by decide +kernel) (by decide) rfl d_X_fewest_83 ?_
      refine aw_goto (tgt := 16) (by decide) d_X_fewest_86 ?_
      refine aw_iload_n rfl rfl d_X_fewest_16 ?_
      refine aw_bipush (v := nI 8) cb_8 d_X_fewest_17 ?_
      refine aw_icmp_gtI (tgt := 89) (5) (8) (by decide +kernel) (by decide +kernel) (by decide) d_X_fewest_19 (fun q => absurd q (by decide)) (fun _ => ?_)
      refine aw_aload_n rfl rfl d_X_fewest_22 ?_
      refine aw_getr fl_X_75 km_0 (by decide) rfl rm_0_42 d_X_fewest_23 ?_
      refine aw_iload_n rfl rfl d_X_fewest_26 ?_
      refine aw_aload_n rfl rfl d_X_fewest_27 ?_
      refine aw_getr fl_X_7 km_0 (by decide) rfl rm_0_0 d_X_fewest_28 ?_
      refine aw_bipush (v := nI 60) cb_60 d_X_fewest_31 ?_
      refine aw_iload_n rfl rfl d_X_fewest_33 ?_
      refine aw_iadd d_X_fewest_34 ?_
      refine aw_top (x2 := nI 65) (by decide +kernel) ?_
      refine aw_iald (j := 65) km_1 (vp_in_nI (by decide) (by decide)) (nI_clamp (by decide)) d_X_fewest_35 ?_
      refine aw_top (x2 := nI 0) (Eq.trans (congrFun (upd2_ne (by decide)) (65)) (Eq.trans (congrFun (upd2_ne (by decide)) (65)) (Eq.trans (congrFun (upd2_ne (by decide)) (65)) (Eq.trans (congrFun (upd2_ne (by decide)) (65)) (Eq.trans (congrFun (upd2_ne (by decide)) (65)) (Eq.trans (congrFun (upd2_ne (by decide)) (65)) (Eq.trans (congrFun (upd2_ne (by decide)) (65)) (Eq.trans (congrFun (upd2_ne (by decide)) (65)) (Eq.trans (congrFun (upd2_ne (by decide)) (65)) (Eq.trans (congrFun (upd2_ne (by decide)) (65)) (Eq.trans (congrFun (upd2_ne (by decide)) (65)) (Eq.trans (congrFun (upd2_ne (by decide)) (65)) (wh 5 (by decide)))))))))))))) ?_
      refine aw_iast (j := 5) km_19 (vp_in_nI (by decide) (by decide)) (nI_clamp (by decide)) d_X_fewest_36 ?_
      refine aw_aload_n rfl rfl d_X_fewest_37 ?_
      refine aw_getr fl_X_81 km_0 (by decide) rfl rm_0_44 d_X_fewest_38 ?_
      refine aw_iload_n rfl rfl d_X_fewest_41 ?_
      refine aw_iconst (v := nI 0) ci_0 d_X_fewest_42 ?_
      refine aw_iast (j := 5) km_21 (vp_in_nI (by decide) (by decide)) (nI_clamp (by decide)) d_X_fewest_43 ?_
      refine aw_aload_n rfl rfl d_X_fewest_44 ?_
      refine aw_getr fl_X_78 km_0 (by decide) rfl rm_0_43 d_X_fewest_45 ?_
      refine aw_iload_n rfl rfl d_X_fewest_48 ?_
      refine aw_iload_n rfl rfl d_X_fewest_49 ?_
      refine aw_iast (j := 5) km_20 (vp_in_nI (by decide) (by decide)) (nI_clamp (by decide)) d_X_fewest_50 ?_
      refine aw_iload_n rfl rfl d_X_fewest_51 ?_
      refine aw_aload_n rfl rfl d_X_fewest_52 ?_
      refine aw_getr fl_X_75 km_0 (by decide) rfl rm_0_42 d_X_fewest_53 ?_
      refine aw_iload_n rfl rfl d_X_fewest_56 ?_
      refine aw_iald (j := 5) km_19 (vp_in_nI (by decide) (by decide)) (nI_clamp (by decide)) d_X_fewest_57 ?_
      refine aw_top (x2 := nI 0) (Eq.trans (congrFun (upd2_ne (by decide)) (5)) (Eq.trans (congrFun (upd2_ne (by decide)) (5)) (upd2_eq))) ?_
      refine aw_iconst (v := nI 1) ci_1 d_X_fewest_58 ?_
      refine aw_iadd d_X_fewest_59 ?_
      refine aw_top (x2 := nI 1) (by decide +kernel) ?_
      refine aw_imul d_X_fewest_60 ?_
      refine aw_top (x2 := nI 1) (by decide +kernel) ?_
      refine aw_istore_n (lv2 := [.ref 0, .int (x), .int (nI 1), .int (nI 5), uu, uu]) rfl (by decide) rfl d_X_fewest_61 ?_
      refine aw_aload_n rfl rfl d_X_fewest_62 ?_
      refine aw_getr fl_X_75 km_0 (by decide) rfl rm_0_42 d_X_fewest_63 ?_
      refine aw_iload_n rfl rfl d_X_fewest_66 ?_
      refine aw_iald (j := 5) km_19 (vp_in_nI (by decide) (by decide)) (nI_clamp (by decide)) d_X_fewest_67 ?_
      refine aw_top (x2 := nI 0) (Eq.trans (congrFun (upd2_ne (by decide)) (5)) (Eq.trans (congrFun (upd2_ne (by decide)) (5)) (upd2_eq))) ?_
      refine aw_if_leI (tgt := 83) (0) (by decide +kernel) (by decide) d_X_fewest_68 (fun _ => ?_) (fun q => absurd q (by decide))
      refine aw_iinc (v := nI 6) (lv2 := [.ref 0, .int (x), .int (nI 1), .int (nI 6), uu, uu]) rfl (by decide +kernel) (by decide) rfl d_X_fewest_83 ?_
      refine aw_goto (tgt := 16) (by decide) d_X_fewest_86 ?_
      refine aw_iload_n rfl rfl d_X_fewest_16 ?_
      refine aw_bipush (v := nI 8) cb_8 d_X_fewest_17 ?_
      refine aw_icmp_gtI (tgt := 89) (6) (8) (by decide +kernel) (by decide +kernel) (by decide) d_X_fewest_19 (fun q => absurd q (by decide)) (fun _ => ?_)
      refine aw_aload_n rfl rfl d_X_fewest_22 ?_
      refine aw_getr fl_X_75 km_0 (by decide) rfl rm_0_42 d_X_fewest_23 ?_
      refine aw_iload_n rfl rfl d_X_fewest_26 ?_
      refine aw_aload_n rfl rfl d_X_fewest_27 ?_
      refine aw_getr fl_X_7 km_0 (by decide) rfl rm_0_0 d_X_fewest_28 ?_
      refine aw_bipush (v := nI 60) cb_60 d_X_fewest_31 ?_
      refine aw_iload_n rfl rfl d_X_fewest_33 ?_
      refine aw_iadd d_X_fewest_34 ?_
      refine aw_top (x2 := nI 66) (by decide +kernel) ?_
      refine aw_iald (j := 66) km_1 (vp_in_nI (by decide) (by decide)) (nI_clamp (by decide)) d_X_fewest_35 ?_
      refine aw_top (x2 := nI 0) (Eq.trans (congrFun (upd2_ne (by decide)) (66)) (Eq.trans (congrFun (upd2_ne (by decide)) (66)) (Eq.trans (congrFun (upd2_ne (by decide)) (66)) (Eq.trans (congrFun (upd2_ne (by decide)) (66)) (Eq.trans (congrFun (upd2_ne (by decide)) (66)) (Eq.trans (congrFun (upd2_ne (by decide)) (66)) (Eq.trans (congrFun (upd2_ne (by decide)) (66)) (Eq.trans (congrFun (upd2_ne (by decide)) (66)) (Eq.trans (congrFun (upd2_ne (by decide)) (66)) (Eq.trans (congrFun (upd2_ne (by decide)) (66)) (Eq.trans (congrFun (upd2_ne (by decide)) (66)) (Eq.trans (congrFun (upd2_ne (by decide)) (66)) (Eq.trans (congrFun (upd2_ne (by decide)) (66)) (Eq.trans (congrFun (upd2_ne (by decide)) (66)) (Eq.trans (congrFun (upd2_ne (by decide)) (66)) (wh 6 (by decide))))))))))))))))) ?_
      refine aw_iast (j := 6) km_19 (vp_in_nI (by decide) (by decide)) (nI_clamp (by decide)) d_X_fewest_36 ?_
      refine aw_aload_n rfl rfl d_X_fewest_37 ?_
      refine aw_getr fl_X_81 km_0 (by decide) rfl rm_0_44 d_X_fewest_38 ?_
      refine aw_iload_n rfl rfl d_X_fewest_41 ?_
      refine aw_iconst (v := nI 0) ci_0 d_X_fewest_42 ?_
      refine aw_iast (j := 6) km_21 (vp_in_nI (by decide) (by decide)) (nI_clamp (by decide)) d_X_fewest_43 ?_
      refine aw_aload_n rfl rfl d_X_fewest_44 ?_
      refine aw_getr fl_X_78 km_0 (by decide) rfl rm_0_43 d_X_fewest_45 ?_
      refine aw_iload_n rfl rfl d_X_fewest_48 ?_
      refine aw_iload_n rfl rfl d_X_fewest_49 ?_
      refine aw_iast (j := 6) km_20 (vp_in_nI (by decide) (by decide)) (nI_clamp (by decide)) d_X_fewest_50 ?_
      refine aw_iload_n rfl rfl d_X_fewest_51 ?_
      refine aw_aload_n rfl rfl d_X_fewest_52 ?_
      refine aw_getr fl_X_75 km_0 (by decide) rfl rm_0_42 d_X_fewest_53 ?_
      refine aw_iload_n rfl rfl d_X_fewest_56 ?_
      refine aw_iald (j := 6) km_19 (vp_in_nI (by decide) (by decide)) (nI_clamp (by decide)) d_X_fewest_57 ?_
      refine aw_top (x2 := nI 0) (Eq.trans (congrFun (upd2_ne (by decide)) (6)) (Eq.trans (congrFun (upd2_ne (by decide)) (6)) (upd2_eq))) ?_
      refine aw_iconst (v := nI 1) ci_1 d_X_fewest_58 ?_
      refine aw_iadd d_X_fewest_59 ?_
      refine aw_top (x2 := nI 1) (by decide +kernel) ?_
      refine aw_imul d_X_fewest_60 ?_
      refine aw_top (x2 := nI 1) (by decide +kernel) ?_
      refine aw_istore_n (lv2 := [.ref 0, .int (x), .int (nI 1), .int (nI 6), uu, uu]) rfl (by decide) rfl d_X_fewest_61 ?_
      refine aw_aload_n rfl rfl d_X_fewest_62 ?_
      refine aw_getr fl_X_75 km_0 (by decide) rfl rm_0_42 d_X_fewest_63 ?_
      refine aw_iload_n rfl rfl d_X_fewest_66 ?_
      refine aw_iald (j := 6) km_19 (vp_in_nI (by decide) (by decide)) (nI_clamp (by decide)) d_X_fewest_67 ?_
      refine aw_top (x2 := nI 0) (Eq.trans (congrFun (upd2_ne (by decide)) (6)) (Eq.trans (congrFun (upd2_ne (by decide)) (6)) (upd2_eq))) ?_
      refine aw_if_leI (tgt := 83) (0) (by decide +kernel) (by decide) d_X_fewest_68 (fun _ => ?_) (fun q => absurd q (by decide))
      refine aw_iinc (v := nI 7) (lv2 := [.ref 0, .int (x), .int (nI 1), .int (nI 7), uu, uu]) rfl (by decide +kernel) (by decide) rfl d_X_fewest_83 ?_
      refine aw_goto (tgt := 16) (by decide) d_X_fewest_86 ?_
      refine aw_iload_n rfl rfl d_X_fewest_16 ?_
      refine aw_bipush (v := nI 8) cb_8 d_X_fewest_17 ?_
      refine aw_icmp_gtI (tgt := 89) (7) (8) (by decide +kernel) (by decide +kernel) (by decide) d_X_fewest_19 (fun q => absurd q (by decide)) (fun _ => ?_)
      refine aw_aload_n rfl rfl d_X_fewest_22 ?_
      refine aw_getr fl_X_75 km_0 (by decide) rfl rm_0_42 d_X_fewest_23 ?_
      refine aw_iload_n rfl rfl d_X_fewest_26 ?_
      refine aw_aload_n rfl rfl d_X_fewest_27 ?_
      refine aw_getr fl_X_7 km_0 (by decide) rfl rm_0_0 d_X_fewest_28 ?_
      refine aw_bipush (v := nI 60) cb_60 d_X_fewest_31 ?_
      refine aw_iload_n rfl rfl d_X_fewest_33 ?_
      refine aw_iadd d_X_fewest_34 ?_
      refine aw_top (x2 := nI 67) (by decide +kernel) ?_
      refine aw_iald (j := 67) km_1 (vp_in_nI (by decide) (by decide)) (nI_clamp (by decide)) d_X_fewest_35 ?_
      refine aw_top (x2 := nI 0) (Eq.trans (congrFun (upd2_ne (by decide)) (67)) (Eq.trans (congrFun (upd2_ne (by decide)) (67)) (Eq.trans (congrFun (upd2_ne (by decide)) (67)) (Eq.trans (congrFun (upd2_ne (by decide)) (67)) (Eq.trans (congrFun (upd2_ne (by decide)) (67)) (Eq.trans (congrFun (upd2_ne (by decide)) (67)) (Eq.trans (congrFun (upd2_ne (by decide)) (67)) (Eq.trans (congrFun (upd2_ne (by decide)) (67)) (Eq.trans (congrFun (upd2_ne (by decide)) (67)) (Eq.trans (congrFun (upd2_ne (by decide)) (67)) (Eq.trans (congrFun (upd2_ne (by decide)) (67)) (Eq.trans (congrFun (upd2_ne (by decide)) (67)) (Eq.trans (congrFun (upd2_ne (by decide)) (67)) (Eq.trans (congrFun (upd2_ne (by decide)) (67)) (Eq.trans (congrFun (upd2_ne (by decide)) (67)) (Eq.trans (congrFun (upd2_ne (by decide)) (67)) (Eq.trans (congrFun (upd2_ne (by decide)) (67)) (Eq.trans (congrFun (upd2_ne (by decide)) (67)) (wh 7 (by decide)))))))))))))))))))) ?_
      refine aw_iast (j := 7) km_19 (vp_in_nI (by decide) (by decide)) (nI_clamp (by decide)) d_X_fewest_36 ?_
      refine aw_aload_n rfl rfl d_X_fewest_37 ?_
      refine aw_getr fl_X_81 km_0 (by decide) rfl rm_0_44 d_X_fewest_38 ?_
      refine aw_iload_n rfl rfl d_X_fewest_41 ?_
      refine aw_iconst (v := nI 0) ci_0 d_X_fewest_42 ?_
      refine aw_iast (j := 7) km_21 (vp_in_nI (by decide) (by decide)) (nI_clamp (by decide)) d_X_fewest_43 ?_
      refine aw_aload_n rfl rfl d_X_fewest_44 ?_
      refine aw_getr fl_X_78 km_0 (by decide) rfl rm_0_43 d_X_fewest_45 ?_
      refine aw_iload_n rfl rfl d_X_fewest_48 ?_
      refine aw_iload_n rfl rfl d_X_fewest_49 ?_
      refine aw_iast (j := 7) km_20 (vp_in_nI (by decide) (by decide)) (nI_clamp (by decide)) d_X_fewest_50 ?_
      refine aw_iload_n rfl rfl d_X_fewest_51 ?_
      refine aw_aload_n rfl rfl d_X_fewest_52 ?_
      refine aw_getr fl_X_75 km_0 (by decide) rfl rm_0_42 d_X_fewest_53 ?_
      refine aw_iload_n rfl rfl d_X_fewest_56 ?_
      refine aw_iald (j := 7) km_19 (vp_in_nI (by decide) (by decide)) (nI_clamp (by decide)) d_X_fewest_57 ?_
      refine aw_top (x2 := nI 0) (Eq.trans (congrFun (upd2_ne (by decide)) (7)) (Eq.trans (congrFun (upd2_ne (by decide)) (7)) (upd2_eq))) ?_
      refine aw_iconst (v := nI 1) ci_1 d_X_fewest_58 ?_
      refine aw_iadd d_X_fewest_59 ?_
      refine aw_top (x2 := nI 1) (by decide +kernel) ?_
      refine aw_imul d_X_fewest_60 ?_
      refine aw_top (x2 := nI 1) (by decide +kernel) ?_
      refine aw_istore_n (lv2 := [.ref 0, .int (x), .int (nI 1), .int (nI 7), uu, uu]) rfl (by decide) rfl d_X_fewest_61 ?_
      refine aw_aload_n rfl rfl d_X_fewest_62 ?_
      refine aw_getr fl_X_75 km_0 (by decide) rfl rm_0_42 d_X_fewest_63 ?_
      refine aw_iload_n rfl rfl d_X_fewest_66 ?_
      refine aw_iald (j := 7) km_19 (vp_in_nI (by decide) (by decide)) (nI_clamp (by decide)) d_X_fewest_67 ?_
      refine aw_top (x2 := nI 0) (Eq.trans (congrFun (upd2_ne (by decide)) (7)) (Eq.trans (congrFun (upd2_ne (by decide)) (7)) (upd2_eq))) ?_
      refine aw_if_leI (tgt := 83) (0) (by decide +kernel) (by decide) d_X_fewest_68 (fun _ => ?_) (fun q => absurd q (by decide))
      refine aw_iinc (v := nI 8) (lv2 := [.ref 0, .int (x), .int (nI 1), .int (nI 8), uu, uu]) rfl (by decide +kernel) (by decide) rfl d_X_fewest_83 ?_
      refine aw_goto (tgt := 16) (by decide) d_X_fewest_86 ?_
      refine aw_iload_n rfl rfl d_X_fewest_16 ?_
      refine aw_bipush (v := nI 8) cb_8 d_X_fewest_17 ?_
      refine aw_icmp_gtI (tgt := 89) (8) (8) (by decide +kernel) (by decide +kernel) (by decide) d_X_fewest_19 (fun q => absurd q (by decide)) (fun _ => ?_)
      refine aw_aload_n rfl rfl d_X_fewest_22 ?_
      refine aw_getr fl_X_75 km_0 (by decide) rfl rm_0_42 d_X_fewest_23 ?_
      refine aw_iload_n rfl rfl d_X_fewest_26 ?_
      refine aw_aload_n rfl rfl d_X_fewest_27 ?_
      refine aw_getr fl_X_7 km_0 (by decide) rfl rm_0_0 d_X_fewest_28 ?_
      refine aw_bipush (v := nI 60) cb_60 d_X_fewest_31 ?_
      refine aw_iload_n rfl rfl d_X_fewest_33 ?_
      refine aw_iadd d_X_fewest_34 ?_
      refine aw_top (x2 := nI 68) (by decide +kernel) ?_
      refine aw_iald (j := 68) km_1 (vp_in_nI (by decide) (by decide)) (nI_clamp (by decide)) d_X_fewest_35 ?_
      refine aw_top (x2 := nI 0) (Eq.trans (congrFun (upd2_ne (by decide)) (68)) (Eq.trans (congrFun (upd2_ne (by decide)) (68)) (Eq.trans (congrFun (upd2_ne (by decide)) (68)) (Eq.trans (congrFun (upd2_ne (by decide)) (68)) (Eq.trans (congrFun (upd2_ne (by decide)) (68)) (Eq.trans (congrFun (upd2_ne (by decide)) (68)) (Eq.trans (congrFun (upd2_ne (by decide)) (68)) (Eq.trans (congrFun (upd2_ne (by decide)) (68)) (Eq.trans (congrFun (upd2_ne (by decide)) (68)) (Eq.trans (congrFun (upd2_ne (by decide)) (68)) (Eq.trans (congrFun (upd2_ne (by decide)) (68)) (Eq.trans (congrFun (upd2_ne (by decide)) (68)) (Eq.trans (congrFun (upd2_ne (by decide)) (68)) (Eq.trans (congrFun (upd2_ne (by decide)) (68)) (Eq.trans (congrFun (upd2_ne (by decide)) (68)) (Eq.trans (congrFun (upd2_ne (by decide)) (68)) (Eq.trans (congrFun (upd2_ne (by decide)) (68)) (Eq.trans (congrFun (upd2_ne (by decide)) (68)) (Eq.trans (congrFun (upd2_ne (by decide)) (68)) (Eq.trans (congrFun (upd2_ne (by decide)) (68)) (Eq.trans (congrFun (upd2_ne (by decide)) (68)) (wh 8 (by decide))))))))))))))))))))))) ?_
      refine aw_iast (j := 8) km_19 (vp_in_nI (by decide) (by decide)) (nI_clamp (by decide)) d_X_fewest_36 ?_
      refine aw_aload_n rfl rfl d_X_fewest_37 ?_
      refine aw_getr fl_X_81 km_0 (by decide) rfl rm_0_44 d_X_fewest_38 ?_
      refine aw_iload_n rfl rfl d_X_fewest_41 ?_
      refine aw_iconst (v := nI 0) ci_0 d_X_fewest_42 ?_
      refine aw_iast (j := 8) km_21 (vp_in_nI (by decide) (by decide)) (nI_clamp (by decide)) d_X_fewest_43 ?_
      refine aw_aload_n rfl rfl d_X_fewest_44 ?_
      refine aw_getr fl_X_78 km_0 (by decide) rfl rm_0_43 d_X_fewest_45 ?_
      refine aw_iload_n rfl rfl d_X_fewest_48 ?_
      refine aw_iload_n rfl rfl d_X_fewest_49 ?_
      refine aw_iast (j := 8) km_20 (vp_in_nI (by decide) (by decide)) (nI_clamp (by decide)) d_X_fewest_50 ?_
      refine aw_iload_n rfl rfl d_X_fewest_51 ?_
      refine aw_aload_n rfl rfl d_X_fewest_52 ?_
      refine aw_getr fl_X_75 km_0 (by decide) rfl rm_0_42 d_X_fewest_53 ?_
      refine aw_iload_n rfl rfl d_X_fewest_56 ?_
      refine aw_iald (j := 8) km_19 (vp_in_nI (by decide) (by decide)) (nI_clamp (by decide)) d_X_fewest_57 ?_
      refine aw_top (x2 := nI 0) (Eq.trans (congrFun (upd2_ne (by decide)) (8)) (Eq.trans (congrFun (upd2_ne (by decide)) (8)) (upd2_eq))) ?_
      refine aw_iconst (v := nI 1) ci_1 d_X_fewest_58 ?_
      refine aw_iadd d_X_fewest_59 ?_
      refine aw_top (x2 := nI 1) (by decide +kernel) ?_
      refine aw_imul d_X_fewest_60 ?_
      refine aw_top (x2 := nI 1) (by decide +kernel) ?_
      refine aw_istore_n (lv2 := [.ref 0, .int (x), .int (nI 1), .int (nI 8), uu, uu]) rfl (by decide) rfl d_X_fewest_61 ?_
      refine aw_aload_n rfl rfl d_X_fewest_62 ?_
      refine aw_getr fl_X_75 km_0 (by decide) rfl rm_0_42 d_X_fewest_63 ?_
      refine aw_iload_n rfl rfl d_X_fewest_66 ?_
      refine aw_iald (j := 8) km_19 (vp_in_nI (by decide) (by decide)) (nI_clamp (by decide)) d_X_fewest_67 ?_
      refine aw_top (x2 := nI 0) (Eq.trans (congrFun (upd2_ne (by decide)) (8)) (Eq.trans (congrFun (upd2_ne (by decide)) (8)) (upd2_eq))) ?_
      refine aw_if_leI (tgt := 83) (0) (by decide +kernel) (by decide) d_X_fewest_68 (fun _ => ?_) (fun q => absurd q (by decide))
      refine aw_iinc (v := nI 9) (lv2 := [.ref 0, .int (x), .int (nI 1), .int (nI 9), uu, uu]) rfl (by decide +kernel) (by decide) rfl d_X_fewest_83 ?_
      refine aw_goto (tgt := 16) (by decide) d_X_fewest_86 ?_
      refine aw_iload_n rfl rfl d_X_fewest_16 ?_
      refine aw_bipush (v := nI 8) cb_8 d_X_fewest_17 ?_
      refine aw_icmp_gtI (tgt := 89) (9) (8) (by decide +kernel) (by decide +kernel) (by decide) d_X_fewest_19 (fun _ => ?_) (fun q => absurd q (by decide))
      refine aw_iconst (v := nI 0) ci_0 d_X_fewest_89 ?_
      refine aw_istore_n (lv2 := [.ref 0, .int (x), .int (nI 1), .int (nI 0), uu, uu]) rfl (by decide) rfl d_X_fewest_90 ?_
      refine aw_iload_n rfl rfl d_X_fewest_91 ?_
      refine aw_iload_n rfl rfl d_X_fewest_92 ?_
      refine aw_icmp_geI (tgt := 109) (0) (1) (by decide +kernel) (by decide +kernel) (by decide) d_X_fewest_93 (fun q => absurd q (by decide)) (fun _ => ?_)
      refine aw_aload_n rfl rfl d_X_fewest_96 ?_
      refine aw_getr fl_X_72 km_0 (by decide) rfl rm_0_41 d_X_fewest_97 ?_
      refine aw_iload_n rfl rfl d_X_fewest_100 ?_
      refine aw_iconst (v := (-1 : Int32)) rfl d_X_fewest_101 ?_
      refine aw_iast (j := 0) km_18 (vp_in_nI (by decide) (by decide)) (nI_clamp (by decide)) d_X_fewest_102 ?_
      refine aw_iinc (v := nI 1) (lv2 := [.ref 0, .int (x), .int (nI 1), .int (nI 1), uu, uu]) rfl (by decide +kernel) (by decide) rfl d_X_fewest_103 ?_
      refine aw_goto (tgt := 91) (by decide) d_X_fewest_106 ?_
      refine aw_iload_n rfl rfl d_X_fewest_91 ?_
      refine aw_iload_n rfl rfl d_X_fewest_92 ?_
      refine aw_icmp_geI (tgt := 109) (1) (1) (by decide +kernel) (by decide +kernel) (by decide) d_X_fewest_93 (fun _ => ?_) (fun q => absurd q (by decide))
      refine aw_aload_n rfl rfl d_X_fewest_109 ?_
      refine as_callV (as := []) (d' := 13) (q := ("SinglesUpModel", zT9, 51)) mo_X_needs lk_X_377 km_0 rfl rfl rfl ⟨by decide, by decide⟩ rfl rfl (by decide) d_X_fewest_110 (Ss.of (show As l b 13 y_X_needs KM RM _ (upd2 (upd2 (upd2 (upd2 (upd2 (upd2 (upd2 (upd2 (upd2 (upd2 (upd2 (upd2 (upd2 (upd2 (upd2 (upd2 (upd2 (upd2 (upd2 (upd2 (upd2 (upd2 (upd2 (upd2 (upd2 I 19 (1) (nI 0)) 21 (1) (nI 0)) 20 (1) (nI 1)) 19 (2) (nI 0)) 21 (2) (nI 0)) 20 (2) (nI 1)) 19 (3) (nI 0)) 21 (3) (nI 0)) 20 (3) (nI 1)) 19 (4) (nI 0)) 21 (4) (nI 0)) 20 (4) (nI 1)) 19 (5) (nI 0)) 21 (5) (nI 0)) 20 (5) (nI 1)) 19 (6) (nI 0)) 21 (6) (nI 0)) 20 (6) (nI 1)) 19 (7) (nI 0)) 21 (7) (nI 0)) 20 (7) (nI 1)) 19 (8) (nI 0)) 21 (8) (nI 0)) 20 (8) (nI 1)) 18 (0) ((-1 : Int32))) 0 [.ref 0, uu, uu, uu] [] from ?_))
      refine aw_aload_n rfl rfl d_X_needs_0 ?_
      refine as_callV (as := []) (d' := 12) (q := ("SinglesUpModel", zT9, 51)) mo_X_greatest lk_X_368 km_0 rfl rfl rfl ⟨by decide, by decide⟩ rfl rfl (by decide) d_X_needs_1 (Ss.of (show As l b 12 y_X_greatest KM RM _ (upd2 (upd2 (upd2 (upd2 (upd2 (upd2 (upd2 (upd2 (upd2 (upd2 (upd2 (upd2 (upd2 (upd2 (upd2 (upd2 (upd2 (upd2 (upd2 (upd2 (upd2 (upd2 (upd2 (upd2 (upd2 I 19 (1) (nI 0)) 21 (1) (nI 0)) 20 (1) (nI 1)) 19 (2) (nI 0)) 21 (2) (nI 0)) 20 (2) (nI 1)) 19 (3) (nI 0)) 21 (3) (nI 0)) 20 (3) (nI 1)) 19 (4) (nI 0)) 21 (4) (nI 0)) 20 (4) (nI 1)) 19 (5) (nI 0)) 21 (5) (nI 0)) 20 (5) (nI 1)) 19 (6) (nI 0)) 21 (6) (nI 0)) 20 (6) (nI 1)) 19 (7) (nI 0)) 21 (7) (nI 0)) 20 (7) (nI 1)) 19 (8) (nI 0)) 21 (8) (nI 0)) 20 (8) (nI 1)) 18 (0) ((-1 : Int32))) 0 [.ref 0, uu] [] from ?_))
      refine aw_bipush (v := nI 8) cb_8 d_X_greatest_0 ?_
      refine aw_istore_n (lv2 := [.ref 0, .int (nI 8)]) rfl (by decide) rfl d_X_greatest_2 ?_
      refine aw_iload_n rfl rfl d_X_greatest_3 ?_
      refine aw_if_leI (tgt := 24) (8) (by decide +kernel) (by decide) d_X_greatest_4 (fun q => absurd q (by decide)) (fun _ => ?_)
      refine aw_aload_n rfl rfl d_X_greatest_7 ?_
      refine aw_getr fl_X_75 km_0 (by decide) rfl rm_0_42 d_X_greatest_8 ?_
      refine aw_iload_n rfl rfl d_X_greatest_11 ?_
      refine aw_iald (j := 8) km_19 (vp_in_nI (by decide) (by decide)) (nI_clamp (by decide)) d_X_greatest_12 ?_
      refine aw_top (x2 := nI 0) (Eq.trans (congrFun (upd2_ne (by decide)) (8)) (Eq.trans (congrFun (upd2_ne (by decide)) (8)) (Eq.trans (congrFun (upd2_ne (by decide)) (8)) (upd2_eq)))) ?_
      refine aw_if_leI (tgt := 18) (0) (by decide +kernel) (by decide) d_X_greatest_13 (fun _ => ?_) (fun q => absurd q (by decide))
      refine aw_iinc (v := nI 7) (lv2 := [.ref 0, .int (nI 7)]) rfl (by decide +kernel) (by decide) rfl d_X_greatest_18 ?_
      refine aw_goto (tgt := 3) (by decide) d_X_greatest_21 ?_
      refine aw_iload_n rfl rfl d_X_greatest_3 ?_
      refine aw_if_leI (tgt := 24) (7) (by decide +kernel) (by decide) d_X_greatest_4 (fun q => absurd q (by decide)) (fun _ => ?_)
      refine aw_aload_n rfl rfl d_X_greatest_7 ?_
      refine aw_getr fl_X_75 km_0 (by decide) rfl rm_0_42 d_X_greatest_8 ?_
      refine aw_iload_n rfl rfl d_X_greatest_11 ?_
      refine aw_iald (j := 7) km_19 (vp_in_nI (by decide) (by decide)) (nI_clamp (by decide)) d_X_greatest_12 ?_
      refine aw_top (x2 := nI 0) (Eq.trans (congrFun (upd2_ne (by decide)) (7)) (Eq.trans (congrFun (upd2_ne (by decide)) (7)) (Eq.trans (congrFun (upd2_ne (by decide)) (7)) (Eq.trans (upd2_nx (by omega)) (Eq.trans (congrFun (upd2_ne (by decide)) (7)) (Eq.trans (congrFun (upd2_ne (by decide)) (7)) (upd2_eq))))))) ?_
      refine aw_if_leI (tgt := 18) (0) (by decide +kernel) (by decide) d_X_greatest_13 (fun _ => ?_) (fun q => absurd q (by decide))
      refine aw_iinc (v := nI 6) (lv2 := [.ref 0, .int (nI 6)]) rfl (by decide +kernel) (by decide) rfl d_X_greatest_18 ?_
      refine aw_goto (tgt := 3) (by decide) d_X_greatest_21 ?_
      refine aw_iload_n rfl rfl d_X_greatest_3 ?_
      refine aw_if_leI (tgt := 24) (6) (by decide +kernel) (by decide) d_X_greatest_4 (fun q => absurd q (by decide)) (fun _ => ?_)
      refine aw_aload_n rfl rfl d_X_greatest_7 ?_
      refine aw_getr fl_X_75 km_0 (by decide) rfl rm_0_42 d_X_greatest_8 ?_
      refine aw_iload_n rfl rfl d_X_greatest_11 ?_
      refine aw_iald (j := 6) km_19 (vp_in_nI (by decide) (by decide)) (nI_clamp (by decide)) d_X_greatest_12 ?_
      refine aw_top (x2 := nI 0) (Eq.trans (congrFun (upd2_ne (by decide)) (6)) (Eq.trans (congrFun (upd2_ne (by decide)) (6)) (Eq.trans (congrFun (upd2_ne (by decide)) (6)) (Eq.trans (upd2_nx (by omega)) (Eq.trans (congrFun (upd2_ne (by decide)) (6)) (Eq.trans (congrFun (upd2_ne (by decide)) (6)) (Eq.trans (upd2_nx (by omega)) (Eq.trans (congrFun (upd2_ne (by decide)) (6)) (Eq.trans (congrFun (upd2_ne (by decide)) (6)) (upd2_eq)))))))))) ?_
      refine aw_if_leI (tgt := 18) (0) (by decide +kernel) (by decide) d_X_greatest_13 (fun _ => ?_) (fun q => absurd q (by decide))
      refine aw_iinc (v := nI 5) (lv2 := [.ref 0, .int (nI 5)]) rfl (by decide +kernel) (by decide) rfl d_X_greatest_18 ?_
      refine aw_goto (tgt := 3) (by decide) d_X_greatest_21 ?_
      refine aw_iload_n rfl rfl d_X_greatest_3 ?_
      refine aw_if_leI (tgt := 24) (5) (by decide +kernel) (by decide) d_X_greatest_4 (fun q => absurd q (by decide)) (fun _ => ?_)
      refine aw_aload_n rfl rfl d_X_greatest_7 ?_
      refine aw_getr fl_X_75 km_0 (by decide) rfl rm_0_42 d_X_greatest_8 ?_
      refine aw_iload_n rfl rfl d_X_greatest_11 ?_
      refine aw_iald (j := 5) km_19 (vp_in_nI (by decide) (by decide)) (nI_clamp (by decide)) d_X_greatest_12 ?_
      refine aw_top (x2 := nI 0) (Eq.trans (congrFun (upd2_ne (by decide)) (5)) (Eq.trans (congrFun (upd2_ne (by decide)) (5)) (Eq.trans (congrFun (upd2_ne (by decide)) (5)) (Eq.trans (upd2_nx (by omega)) (Eq.trans (congrFun (upd2_ne (by decide)) (5)) (Eq.trans (congrFun (upd2_ne (by decide)) (5)) (Eq.trans (upd2_nx (by omega)) (Eq.trans (congrFun (upd2_ne (by decide)) (5)) (Eq.trans (congrFun (upd2_ne (by decide)) (5)) (Eq.trans (upd2_nx (by omega)) (Eq.trans (congrFun (upd2_ne (by decide)) (5)) (Eq.trans (congrFun (upd2_ne (by decide)) (5)) (upd2_eq))))))))))))) ?_
      refine aw_if_leI (tgt := 18) (0) (by decide +kernel) (by decide) d_X_greatest_13 (fun _ => ?_) (fun q => absurd q (by decide))
      refine aw_iinc (v := nI 4) (lv2 := [.ref 0, .int (nI 4)]) rfl (by decide +kernel) (by decide) rfl d_X_greatest_18 ?_
      refine aw_goto (tgt := 3) (by decide) d_X_greatest_21 ?_
      refine aw_iload_n rfl rfl d_X_greatest_3 ?_
      refine aw_if_leI (tgt := 24) (4) (by decide +kernel) (by decide) d_X_greatest_4 (fun q => absurd q (by decide)) (fun _ => ?_)
      refine aw_aload_n rfl rfl d_X_greatest_7 ?_
      refine aw_getr fl_X_75 km_0 (by decide) rfl rm_0_42 d_X_greatest_8 ?_
      refine aw_iload_n rfl rfl d_X_greatest_11 ?_
      refine aw_iald (j := 4) km_19 (vp_in_nI (by decide) (by decide)) (nI_clamp (by decide)) d_X_greatest_12 ?_
      refine aw_top (x2 := nI 0) (Eq.trans (congrFun (upd2_ne (by decide)) (4)) (Eq.trans (congrFun (upd2_ne (by decide)) (4)) (Eq.trans (congrFun (upd2_ne (by decide)) (4)) (Eq.trans (upd2_nx (by omega)) (Eq.trans (congrFun (upd2_ne (by decide)) (4)) (Eq.trans (congrFun (upd2_ne (by decide)) (4)) (Eq.trans (upd2_nx (by omega)) (Eq.trans (congrFun (upd2_ne (by decide)) (4)) (Eq.trans (congrFun (upd2_ne (by decide)) (4)) (Eq.trans (upd2_nx (by omega)) (Eq.trans (congrFun (upd2_ne (by decide)) (4)) (Eq.trans (congrFun (upd2_ne (by decide)) (4)) (Eq.trans (upd2_nx (by omega)) (Eq.trans (congrFun (upd2_ne (by decide)) (4)) (Eq.trans (congrFun (upd2_ne (by decide)) (4)) (upd2_eq)))))))))))))))) ?_
      refine aw_if_leI (tgt := 18) (0) (by decide +kernel) (by decide) d_X_greatest_13 (fun _ => ?_) (fun q => absurd q (by decide))
      refine aw_iinc (v := nI 3) (lv2 := [.ref 0, .int (nI 3)]) rfl (by decide +kernel) (by decide) rfl d_X_greatest_18 ?_
      refine aw_goto (tgt := 3) (by decide) d_X_greatest_21 ?_
      refine aw_iload_n rfl rfl d_X_greatest_3 ?_
      refine aw_if_leI (tgt := 24) (3) (by decide +kernel) (by decide) d_X_greatest_4 (fun q => absurd q (by decide)) (fun _ => ?_)
      refine aw_aload_n rfl rfl d_X_greatest_7 ?_
      refine aw_getr fl_X_75 km_0 (by decide) rfl rm_0_42 d_X_greatest_8 ?_
      refine aw_iload_n rfl rfl d_X_greatest_11 ?_
      refine aw_iald (j := 3) km_19 (vp_in_nI (by decide) (by decide)) (nI_clamp (by decide)) d_X_greatest_12 ?_
      refine aw_top (x2 := nI 0) (Eq.trans (congrFun (upd2_ne (by decide)) (3)) (Eq.trans (congrFun (upd2_ne (by decide)) (3)) (Eq.trans (congrFun (upd2_ne (by decide)) (3)) (Eq.trans (upd2_nx (by omega)) (Eq.trans (congrFun (upd2_ne (by decide)) (3)) (Eq.trans (congrFun (upd2_ne (by decide)) (3)) (Eq.trans (upd2_nx (by omega)) (Eq.trans (congrFun (upd2_ne (by decide)) (3)) (Eq.trans (congrFun (upd2_ne (by decide)) (3)) (Eq.trans (upd2_nx (by omega)) (Eq.trans (congrFun (upd2_ne (by decide)) (3)) (Eq.trans (congrFun (upd2_ne (by decide)) (3)) (Eq.trans (upd2_nx (by omega)) (Eq.trans (congrFun (upd2_ne (by decide)) (3)) (Eq.trans (congrFun (upd2_ne (by decide)) (3)) (Eq.trans (upd2_nx (by omega)) (Eq.trans (congrFun (upd2_ne (by decide)) (3)) (Eq.trans (congrFun (upd2_ne (by decide)) (3)) (upd2_eq))))))))))))))))))) ?_
      refine aw_if_leI (tgt := 18) (0) (by decide +kernel) (by decide) d_X_greatest_13 (fun _ => ?_) (fun q => absurd q (by decide))
      refine aw_iinc (v := nI 2) (lv2 := [.ref 0, .int (nI 2)]) rfl (by decide +kernel) (by decide) rfl d_X_greatest_18 ?_
      refine aw_goto (tgt := 3) (by decide) d_X_greatest_21 ?_
      refine aw_iload_n rfl rfl d_X_greatest_3 ?_
      refine aw_if_leI (tgt := 24) (2) (by decide +kernel) (by decide) d_X_greatest_4 (fun q => absurd q (by decide)) (fun _ => ?_)
      refine aw_aload_n rfl rfl d_X_greatest_7 ?_
      refine aw_getr fl_X_75 km_0 (by decide) rfl rm_0_42 d_X_greatest_8 ?_
      refine aw_iload_n rfl rfl d_X_greatest_11 ?_
      refine aw_iald (j := 2) km_19 (vp_in_nI (by decide) (by decide)) (nI_clamp (by decide)) d_X_greatest_12 ?_
      refine aw_top (x2 := nI 0) (Eq.trans (congrFun (upd2_ne (by decide)) (2)) (Eq.trans (congrFun (upd2_ne (by decide)) (2)) (Eq.trans (congrFun (upd2_ne (by decide)) (2)) (Eq.trans (upd2_nx (by omega)) (Eq.trans (congrFun (upd2_ne (by decide)) (2)) (Eq.trans (congrFun (upd2_ne (by decide)) (2)) (Eq.trans (upd2_nx (by omega)) (Eq.trans (congrFun (upd2_ne (by decide)) (2)) (Eq.trans (congrFun (upd2_ne (by decide)) (2)) (Eq.trans (upd2_nx (by omega)) (Eq.trans (congrFun (upd2_ne (by decide)) (2)) (Eq.trans (congrFun (upd2_ne (by decide)) (2)) (Eq.trans (upd2_nx (by omega)) (Eq.trans (congrFun (upd2_ne (by decide)) (2)) (Eq.trans (congrFun (upd2_ne (by decide)) (2)) (Eq.trans (upd2_nx (by omega)) (Eq.trans (congrFun (upd2_ne (by decide)) (2)) (Eq.trans (congrFun (upd2_ne (by decide)) (2)) (Eq.trans (upd2_nx (by omega)) (Eq.trans (congrFun (upd2_ne (by decide)) (2)) (Eq.trans (congrFun (upd2_ne (by decide)) (2)) (upd2_eq)))))))))))))))))))))) ?_
      refine aw_if_leI (tgt := 18) (0) (by decide +kernel) (by decide) d_X_greatest_13 (fun _ => ?_) (fun q => absurd q (by decide))
      refine aw_iinc (v := nI 1) (lv2 := [.ref 0, .int (nI 1)]) rfl (by decide +kernel) (by decide) rfl d_X_greatest_18 ?_
      refine aw_goto (tgt := 3) (by decide) d_X_greatest_21 ?_
      refine aw_iload_n rfl rfl d_X_greatest_3 ?_
      refine aw_if_leI (tgt := 24) (1) (by decide +kernel) (by decide) d_X_greatest_4 (fun q => absurd q (by decide)) (fun _ => ?_)
      refine aw_aload_n rfl rfl d_X_greatest_7 ?_
      refine aw_getr fl_X_75 km_0 (by decide) rfl rm_0_42 d_X_greatest_8 ?_
      refine aw_iload_n rfl rfl d_X_greatest_11 ?_
      refine aw_iald (j := 1) km_19 (vp_in_nI (by decide) (by decide)) (nI_clamp (by decide)) d_X_greatest_12 ?_
      refine aw_top (x2 := nI 0) (Eq.trans (congrFun (upd2_ne (by decide)) (1)) (Eq.trans (congrFun (upd2_ne (by decide)) (1)) (Eq.trans (congrFun (upd2_ne (by decide)) (1)) (Eq.trans (upd2_nx (by omega)) (Eq.trans (congrFun (upd2_ne (by decide)) (1)) (Eq.trans (congrFun (upd2_ne (by decide)) (1)) (Eq.trans (upd2_nx (by omega)) (Eq.trans (congrFun (upd2_ne (by decide)) (1)) (Eq.trans (congrFun (upd2_ne (by decide)) (1)) (Eq.trans (upd2_nx (by omega)) (Eq.trans (congrFun (upd2_ne (by decide)) (1)) (Eq.trans (congrFun (upd2_ne (by decide)) (1)) (Eq.trans (upd2_nx (by omega)) (Eq.trans (congrFun (upd2_ne (by decide)) (1)) (Eq.trans (congrFun (upd2_ne (by decide)) (1)) (Eq.trans (upd2_nx (by omega)) (Eq.trans (congrFun (upd2_ne (by decide)) (1)) (Eq.trans (congrFun (upd2_ne (by decide)) (1)) (Eq.trans (upd2_nx (by omega)) (Eq.trans (congrFun (upd2_ne (by decide)) (1)) (Eq.trans (congrFun (upd2_ne (by decide)) (1)) (Eq.trans (upd2_nx (by omega)) (Eq.trans (congrFun (upd2_ne (by decide)) (1)) (Eq.trans (congrFun (upd2_ne (by decide)) (1)) (upd2_eq))))))))))))))))))))))))) ?_
      refine aw_if_leI (tgt := 18) (0) (by decide +kernel) (by decide) d_X_greatest_13 (fun _ => ?_) (fun q => absurd q (by decide))
      refine aw_iinc (v := nI 0) (lv2 := [.ref 0, .int (nI 0)]) rfl (by decide +kernel) (by decide) rfl d_X_greatest_18 ?_
      refine aw_goto (tgt := 3) (by decide) d_X_greatest_21 ?_
      refine aw_iload_n rfl rfl d_X_greatest_3 ?_
      refine aw_if_leI (tgt := 24) (0) (by decide +kernel) (by decide) d_X_greatest_4 (fun _ => ?_) (fun q => absurd q (by decide))
      refine aw_iconst (v := nI 0) ci_0 d_X_greatest_24 ?_
      refine as_reti rfl d_X_greatest_25 ?_
      refine (show As l b 13 y_X_needs KM RM _ (upd2 (upd2 (upd2 (upd2 (upd2 (upd2 (upd2 (upd2 (upd2 (upd2 (upd2 (upd2 (upd2 (upd2 (upd2 (upd2 (upd2 (upd2 (upd2 (upd2 (upd2 (upd2 (upd2 (upd2 (upd2 I 19 (1) (nI 0)) 21 (1) (nI 0)) 20 (1) (nI 1)) 19 (2) (nI 0)) 21 (2) (nI 0)) 20 (2) (nI 1)) 19 (3) (nI 0)) 21 (3) (nI 0)) 20 (3) (nI 1)) 19 (4) (nI 0)) 21 (4) (nI 0)) 20 (4) (nI 1)) 19 (5) (nI 0)) 21 (5) (nI 0)) 20 (5) (nI 1)) 19 (6) (nI 0)) 21 (6) (nI 0)) 20 (6) (nI 1)) 19 (7) (nI 0)) 21 (7) (nI 0)) 20 (7) (nI 1)) 19 (8) (nI 0)) 21 (8) (nI 0)) 20 (8) (nI 1)) 18 (0) ((-1 : Int32))) 4 [.ref 0, uu, uu, uu] [.int (nI 0)] from ?_)
      refine aw_istore_n (lv2 := [.ref 0, .int (nI 0), uu, uu]) rfl (by decide) rfl d_X_needs_4 ?_
      refine aw_iload_n rfl rfl d_X_needs_5 ?_
      refine aw_if_neI (tgt := 11) (0) (by decide +kernel) (by decide) d_X_needs_6 (fun q => absurd q (by decide)) (fun _ => ?_)
      refine aw_iconst (v := nI 0) ci_0 d_X_needs_9 ?_
      refine as_reti rfl d_X_needs_10 ?_
      refine (show As l b 14 y_X_fewest KM RM K2 (upd2 (upd2 (upd2 (upd2 (upd2 (upd2 (upd2 (upd2 (upd2 (upd2 (upd2 (upd2 (upd2 (upd2 (upd2 (upd2 (upd2 (upd2 (upd2 (upd2 (upd2 (upd2 (upd2 (upd2 (upd2 I 19 (1) (nI 0)) 21 (1) (nI 0)) 20 (1) (nI 1)) 19 (2) (nI 0)) 21 (2) (nI 0)) 20 (2) (nI 1)) 19 (3) (nI 0)) 21 (3) (nI 0)) 20 (3) (nI 1)) 19 (4) (nI 0)) 21 (4) (nI 0)) 20 (4) (nI 1)) 19 (5) (nI 0)) 21 (5) (nI 0)) 20 (5) (nI 1)) 19 (6) (nI 0)) 21 (6) (nI 0)) 20 (6) (nI 1)) 19 (7) (nI 0)) 21 (7) (nI 0)) 20 (7) (nI 1)) 19 (8) (nI 0)) 21 (8) (nI 0)) 20 (8) (nI 1)) 18 (0) ((-1 : Int32))) 113 [.ref 0, .int (x), .int (nI 1), .int (nI 1), uu, uu] [.int (nI 0)] from ?_)
      refine aw_istore_n (lv2 := [.ref 0, .int (x), .int (nI 1), .int (nI 0), uu, uu]) rfl (by decide) rfl d_X_fewest_113 ?_
      refine aw_iload_n rfl rfl d_X_fewest_114 ?_
      refine aw_if_eqI (tgt := 122) (x).toInt rfl (by decide) d_X_fewest_115 (fun c3 => ?_) (fun c3 => ?_)
      · refine aw_iload_n rfl rfl d_X_fewest_122 ?_
        exact as_reti rfl d_X_fewest_123 (hg (by omega) _)
      · refine aw_iload_n rfl rfl d_X_fewest_118 ?_
        refine aw_if_neI (tgt := 124) (0) (by decide +kernel) (by decide) d_X_fewest_119 (fun q => absurd q (by decide)) (fun _ => ?_)
        refine aw_iload_n rfl rfl d_X_fewest_122 ?_
        exact as_reti rfl d_X_fewest_123 (hg (by omega) _)
set_option maxRecDepth 20000 in
theorem ms_till {K2 : K2T} {I : Nat → Nat → Int32} (hR : FRm I) {x z : Int32} (hK : ∀ I', K2 (some (.int (-1))) I') : Ss l b 14 y_X_till KM RM [.ref 0, .int (x), .int (z)] (I) K2 := by
  obtain ⟨hF, w0, w2, w3, w5, w6, w7, w73, w74, wh, w110, o3, o12, o19, o21, o22, o23, o35⟩ := hR
  have hF0 := hF
  obtain ⟨g0, g1, g2, g3, g4, g5, g6, g7, g8, g9, g10, g11, g12, gb⟩ := hF
  refine Ss.of (show As l b 14 y_X_till KM RM K2 (I) 0 [.ref 0, .int (x), .int (z), uu, uu] [] from ?_)
  refine aw_aload_n rfl rfl d_X_till_0 ?_
  refine aw_iload_n rfl rfl d_X_till_1 ?_
  refine aw_iload_n rfl rfl d_X_till_2 ?_
  refine as_callV (as := [.int (x), .int (z)]) (d' := 13) (q := ("SinglesUpModel", zT9, 51)) mo_X_isThere lk_X_389 km_0 rfl rfl rfl ⟨by decide, by decide⟩ rfl rfl (by decide) d_X_till_3 (Ss.of (show As l b 13 y_X_isThere KM RM _ (I) 0 [.ref 0, .int (x), .int (z)] [] from ?_))
  refine aw_iload_n rfl rfl d_X_isThere_0 ?_
  refine as_callS (as := [.int (x)]) (d' := 12) mo_X_isLine lk_X_105 rfl ⟨by decide, by decide⟩ rfl rfl (by decide) d_X_isThere_1 (Ss.of (show As l b 12 y_X_isLine KM RM _ (I) 0 [.int (x)] [] from ?_))
  refine aw_iload_n rfl rfl d_X_isLine_0 ?_
  refine aw_iconst (v := nI 0) ci_0 d_X_isLine_1 ?_
  refine aw_iconst (v := nI 5) ci_5 d_X_isLine_2 ?_
  refine as_callS (as := [.int (x), .int (nI 0), .int (nI 5)]) (d' := 11) mo_X_isIn lk_X_98 rfl ⟨by decide, by decide⟩ rfl rfl (by decide) d_X_isLine_3 (Ss.of (show As l b 11 y_X_isIn KM RM _ (I) 0 [.int (x), .int (nI 0), .int (nI 5)] [] from ?_))
  refine aw_iload_n rfl rfl d_X_isIn_0 ?_
  refine aw_iload_n rfl rfl d_X_isIn_1 ?_
  refine aw_icmp_ltI (tgt := 14) (x).toInt (0) rfl (by decide +kernel) (by decide) d_X_isIn_2 (fun c1 => ?_) (fun c1 => ?_)
  · refine aw_iconst (v := nI 0) ci_0 d_X_isIn_14 ?_
    refine as_retz rfl (by decide +kernel) d_X_isIn_15 ?_
    refine (show As l b 12 y_X_isLine KM RM _ (I) 6 [.int (x)] [.int (nI 0)] from ?_)
    refine as_retz rfl (by decide +kernel) d_X_isLine_6 ?_
    refine (show As l b 13 y_X_isThere KM RM _ (I) 4 [.ref 0, .int (x), .int (z)] [.int (nI 0)] from ?_)
    refine aw_if_eqI (tgt := 31) (0) (by decide +kernel) (by decide) d_X_isThere_4 (fun _ => ?_) (fun q => absurd q (by decide))
    refine aw_iconst (v := nI 0) ci_0 d_X_isThere_31 ?_
    refine as_retz rfl (by decide +kernel) d_X_isThere_32 ?_
    refine (show As l b 14 y_X_till KM RM K2 (I) 6 [.ref 0, .int (x), .int (z), uu, uu] [.int (nI 0)] from ?_)
    refine aw_if_neI (tgt := 11) (0) (by decide +kernel) (by decide) d_X_till_6 (fun q => absurd q (by decide)) (fun _ => ?_)
    refine aw_iconst (v := (-1 : Int32)) rfl d_X_till_9 ?_
    exact as_reti rfl d_X_till_10 (hK _)
  · refine aw_iload_n rfl rfl d_X_isIn_5 ?_
    refine aw_iload_n rfl rfl d_X_isIn_6 ?_
    refine aw_icmp_gtI (tgt := 14) (x).toInt (5) rfl (by decide +kernel) (by decide) d_X_isIn_7 (fun c2 => ?_) (fun c2 => ?_)
    · refine aw_iconst (v := nI 0) ci_0 d_X_isIn_14 ?_
      refine as_retz rfl (by decide +kernel) d_X_isIn_15 ?_
      refine (show As l b 12 y_X_isLine KM RM _ (I) 6 [.int (x)] [.int (nI 0)] from ?_)
      refine as_retz rfl (by decide +kernel) d_X_isLine_6 ?_
      refine (show As l b 13 y_X_isThere KM RM _ (I) 4 [.ref 0, .int (x), .int (z)] [.int (nI 0)] from ?_)
      refine aw_if_eqI (tgt := 31) (0) (by decide +kernel) (by decide) d_X_isThere_4 (fun _ => ?_) (fun q => absurd q (by decide))
      refine aw_iconst (v := nI 0) ci_0 d_X_isThere_31 ?_
      refine as_retz rfl (by decide +kernel) d_X_isThere_32 ?_
      refine (show As l b 14 y_X_till KM RM K2 (I) 6 [.ref 0, .int (x), .int (z), uu, uu] [.int (nI 0)] from ?_)
      refine aw_if_neI (tgt := 11) (0) (by decide +kernel) (by decide) d_X_till_6 (fun q => absurd q (by decide)) (fun _ => ?_)
      refine aw_iconst (v := (-1 : Int32)) rfl d_X_till_9 ?_
      exact as_reti rfl d_X_till_10 (hK _)
    · refine aw_iconst (v := nI 1) ci_1 d_X_isIn_10 ?_
      refine aw_goto (tgt := 15) (by decide) d_X_isIn_11 ?_
      refine as_retz rfl (by decide +kernel) d_X_isIn_15 ?_
      refine (show As l b 12 y_X_isLine KM RM _ (I) 6 [.int (x)] [.int (nI 1)] from ?_)
      refine as_retz rfl (by decide +kernel) d_X_isLine_6 ?_
      refine (show As l b 13 y_X_isThere KM RM _ (I) 4 [.ref 0, .int (x), .int (z)] [.int (nI 1)] from ?_)
      refine aw_if_eqI (tgt := 31) (1) (by decide +kernel) (by decide) d_X_isThere_4 (fun q => absurd q (by decide)) (fun _ => ?_)
      obtain ⟨w1, hw1, ew1, gw1⟩ := nI_of_range (x := x) (n := 6) (by omega) (by omega)
      subst ew1
      refine aw_iload_n rfl rfl d_X_isThere_7 ?_
      refine aw_iconst (v := nI 0) ci_0 d_X_isThere_8 ?_
      refine aw_aload_n rfl rfl d_X_isThere_9 ?_
      refine aw_getr fl_X_7 km_0 (by decide) rfl rm_0_0 d_X_isThere_10 ?_
      refine aw_sipush (v := nI 130) cs_130 d_X_isThere_13 ?_
      refine aw_iload_n rfl rfl d_X_isThere_16 ?_
      refine aw_iaddN d_X_isThere_17 ?_
      refine aw_iald (j := (130 + w1)) km_1 (vp_in_nI (by omega) (by decide)) (nI_clamp (by omega)) d_X_isThere_18 ?_
      refine aw_top (x2 := nI 0) (g1 w1 (by omega)) ?_
      refine aw_iconst (v := nI 1) ci_1 d_X_isThere_19 ?_
      refine aw_isub d_X_isThere_20 ?_
      refine aw_top (x2 := (-1 : Int32)) (by decide +kernel) ?_
      refine as_callS (as := [.int (z), .int (nI 0), .int ((-1 : Int32))]) (d' := 12) mo_X_isIn lk_X_98 rfl ⟨by decide, by decide⟩ rfl rfl (by decide) d_X_isThere_21 (Ss.of (show As l b 12 y_X_isIn KM RM _ (I) 0 [.int (z), .int (nI 0), .int ((-1 : Int32))] [] from ?_))
      refine aw_iload_n rfl rfl d_X_isIn_0 ?_
      refine aw_iload_n rfl rfl d_X_isIn_1 ?_
      refine aw_icmp_ltI (tgt := 14) (z).toInt (0) rfl (by decide +kernel) (by decide) d_X_isIn_2 (fun c3 => ?_) (fun c3 => ?_)
      · refine aw_iconst (v := nI 0) ci_0 d_X_isIn_14 ?_
        refine as_retz rfl (by decide +kernel) d_X_isIn_15 ?_
        refine (show As l b 13 y_X_isThere KM RM _ (I) 24 [.ref 0, .int (nI (w1)), .int (z)] [.int (nI 0)] from ?_)
        refine aw_if_eqI (tgt := 31) (0) (by decide +kernel) (by decide) d_X_isThere_24 (fun _ => ?_) (fun q => absurd q (by decide))
        refine aw_iconst (v := nI 0) ci_0 d_X_isThere_31 ?_
        refine as_retz rfl (by decide +kernel) d_X_isThere_32 ?_
        refine (show As l b 14 y_X_till KM RM K2 (I) 6 [.ref 0, .int (nI (w1)), .int (z), uu, uu] [.int (nI 0)] from ?_)
        refine aw_if_neI (tgt := 11) (0) (by decide +kernel) (by decide) d_X_till_6 (fun q => absurd q (by decide)) (fun _ => ?_)
        refine aw_iconst (v := (-1 : Int32)) rfl d_X_till_9 ?_
        exact as_reti rfl d_X_till_10 (hK _)
      · refine aw_iload_n rfl rfl d_X_isIn_5 ?_
        refine aw_iload_n rfl rfl d_X_isIn_6 ?_
        refine aw_icmp_gtI (tgt := 14) (z).toInt (-1) rfl (by decide +kernel) (by decide) d_X_isIn_7 (fun _ => ?_) (fun q => absurd q (by omega))
        refine aw_iconst (v := nI 0) ci_0 d_X_isIn_14 ?_
        refine as_retz rfl (by decide +kernel) d_X_isIn_15 ?_
        refine (show As l b 13 y_X_isThere KM RM _ (I) 24 [.ref 0, .int (nI (w1)), .int (z)] [.int (nI 0)] from ?_)
        refine aw_if_eqI (tgt := 31) (0) (by decide +kernel) (by decide) d_X_isThere_24 (fun _ => ?_) (fun q => absurd q (by decide))
        refine aw_iconst (v := nI 0) ci_0 d_X_isThere_31 ?_
        refine as_retz rfl (by decide +kernel) d_X_isThere_32 ?_
        refine (show As l b 14 y_X_till KM RM K2 (I) 6 [.ref 0, .int (nI (w1)), .int (z), uu, uu] [.int (nI 0)] from ?_)
        refine aw_if_neI (tgt := 11) (0) (by decide +kernel) (by decide) d_X_till_6 (fun q => absurd q (by decide)) (fun _ => ?_)
        refine aw_iconst (v := (-1 : Int32)) rfl d_X_till_9 ?_
        exact as_reti rfl d_X_till_10 (hK _)
set_option maxRecDepth 20000 in
theorem ms_together {K2 : K2T} {I : Nat → Nat → Int32} (hR : FRm I) {x z u v c : Int32} (hK : ∀ I', K2 (some (.int (-2))) I') : Ss l b 14 y_X_together KM RM [.ref 0, .int (x), .int (z), .int (u), .int (v), .int (c)] (I) K2 := by
  obtain ⟨hF, w0, w2, w3, w5, w6, w7, w73, w74, wh, w110, o3, o12, o19, o21, o22, o23, o35⟩ := hR
  have hF0 := hF
  obtain ⟨g0, g1, g2, g3, g4, g5, g6, g7, g8, g9, g10, g11, g12, gb⟩ := hF
  refine Ss.of (show As l b 14 y_X_together KM RM K2 (I) 0 [.ref 0, .int (x), .int (z), .int (u), .int (v), .int (c), uu, uu, uu] [] from ?_)
  refine aw_aload_n rfl rfl d_X_together_0 ?_
  refine aw_iload_n rfl rfl d_X_together_1 ?_
  refine aw_iload_n rfl rfl d_X_together_2 ?_
  refine as_callV (as := [.int (x), .int (z)]) (d' := 13) (q := ("SinglesUpModel", zT9, 51)) mo_X_isPlain lk_X_401 km_0 rfl rfl rfl ⟨by decide, by decide⟩ rfl rfl (by decide) d_X_together_3 (Ss.of (show As l b 13 y_X_isPlain KM RM _ (I) 0 [.ref 0, .int (x), .int (z)] [] from ?_))
  refine aw_aload_n rfl rfl d_X_isPlain_0 ?_
  refine aw_iload_n rfl rfl d_X_isPlain_1 ?_
  refine aw_iload_n rfl rfl d_X_isPlain_2 ?_
  refine as_callV (as := [.int (x), .int (z)]) (d' := 12) (q := ("SinglesUpModel", zT9, 51)) mo_X_isThere lk_X_389 km_0 rfl rfl rfl ⟨by decide, by decide⟩ rfl rfl (by decide) d_X_isPlain_3 (Ss.of (show As l b 12 y_X_isThere KM RM _ (I) 0 [.ref 0, .int (x), .int (z)] [] from ?_))
  refine aw_iload_n rfl rfl d_X_isThere_0 ?_
  refine as_callS (as := [.int (x)]) (d' := 11) mo_X_isLine lk_X_105 rfl ⟨by decide, by decide⟩ rfl rfl (by decide) d_X_isThere_1 (Ss.of (show As l b 11 y_X_isLine KM RM _ (I) 0 [.int (x)] [] from ?_))
  refine aw_iload_n rfl rfl d_X_isLine_0 ?_
  refine aw_iconst (v := nI 0) ci_0 d_X_isLine_1 ?_
  refine aw_iconst (v := nI 5) ci_5 d_X_isLine_2 ?_
  refine as_callS (as := [.int (x), .int (nI 0), .int (nI 5)]) (d' := 10) mo_X_isIn lk_X_98 rfl ⟨by decide, by decide⟩ rfl rfl (by decide) d_X_isLine_3 (Ss.of (show As l b 10 y_X_isIn KM RM _ (I) 0 [.int (x), .int (nI 0), .int (nI 5)] [] from ?_))
  refine aw_iload_n rfl rfl d_X_isIn_0 ?_
  refine aw_iload_n rfl rfl d_X_isIn_1 ?_
  refine aw_icmp_ltI (tgt := 14) (x).toInt (0) rfl (by decide +kernel) (by decide) d_X_isIn_2 (fun c1 => ?_) (fun c1 => ?_)
  · refine aw_iconst (v := nI 0) ci_0 d_X_isIn_14 ?_
    refine as_retz rfl (by decide +kernel) d_X_isIn_15 ?_
    refine (show As l b 11 y_X_isLine KM RM _ (I) 6 [.int (x)] [.int (nI 0)] from ?_)
    refine as_retz rfl (by decide +kernel) d_X_isLine_6 ?_
    refine (show As l b 12 y_X_isThere KM RM _ (I) 4 [.ref 0, .int (x), .int (z)] [.int (nI 0)] from ?_)
    refine aw_if_eqI (tgt := 31) (0) (by decide +kernel) (by decide) d_X_isThere_4 (fun _ => ?_) (fun q => absurd q (by decide))
    refine aw_iconst (v := nI 0) ci_0 d_X_isThere_31 ?_
    refine as_retz rfl (by decide +kernel) d_X_isThere_32 ?_
    refine (show As l b 13 y_X_isPlain KM RM _ (I) 6 [.ref 0, .int (x), .int (z)] [.int (nI 0)] from ?_)
    refine aw_if_eqI (tgt := 40) (0) (by decide +kernel) (by decide) d_X_isPlain_6 (fun _ => ?_) (fun q => absurd q (by decide))
    refine aw_iconst (v := nI 0) ci_0 d_X_isPlain_40 ?_
    refine as_retz rfl (by decide +kernel) d_X_isPlain_41 ?_
    refine (show As l b 14 y_X_together KM RM K2 (I) 6 [.ref 0, .int (x), .int (z), .int (u), .int (v), .int (c), uu, uu, uu] [.int (nI 0)] from ?_)
    refine aw_if_eqI (tgt := 61) (0) (by decide +kernel) (by decide) d_X_together_6 (fun _ => ?_) (fun q => absurd q (by decide))
    refine aw_bipush (v := (-2 : Int32)) rfl d_X_together_61 ?_
    exact as_reti rfl d_X_together_63 (hK _)
  · refine aw_iload_n rfl rfl d_X_isIn_5 ?_
    refine aw_iload_n rfl rfl d_X_isIn_6 ?_
    refine aw_icmp_gtI (tgt := 14) (x).toInt (5) rfl (by decide +kernel) (by decide) d_X_isIn_7 (fun c2 => ?_) (fun c2 => ?_)
    · refine aw_iconst (v := nI 0) ci_0 d_X_isIn_14 ?_
      refine as_retz rfl (by decide +kernel) d_X_isIn_15 ?_
      refine (show As l b 11 y_X_isLine KM RM _ (I) 6 [.int (x)] [.int (nI 0)] from ?_)
      refine as_retz rfl (by decide +kernel) d_X_isLine_6 ?_
      refine (show As l b 12 y_X_isThere KM RM _ (I) 4 [.ref 0, .int (x), .int (z)] [.int (nI 0)] from ?_)
      refine aw_if_eqI (tgt := 31) (0) (by decide +kernel) (by decide) d_X_isThere_4 (fun _ => ?_) (fun q => absurd q (by decide))
      refine aw_iconst (v := nI 0) ci_0 d_X_isThere_31 ?_
      refine as_retz rfl (by decide +kernel) d_X_isThere_32 ?_
      refine (show As l b 13 y_X_isPlain KM RM _ (I) 6 [.ref 0, .int (x), .int (z)] [.int (nI 0)] from ?_)
      refine aw_if_eqI (tgt := 40) (0) (by decide +kernel) (by decide) d_X_isPlain_6 (fun _ => ?_) (fun q => absurd q (by decide))
      refine aw_iconst (v := nI 0) ci_0 d_X_isPlain_40 ?_
      refine as_retz rfl (by decide +kernel) d_X_isPlain_41 ?_
      refine (show As l b 14 y_X_together KM RM K2 (I) 6 [.ref 0, .int (x), .int (z), .int (u), .int (v), .int (c), uu, uu, uu] [.int (nI 0)] from ?_)
      refine aw_if_eqI (tgt := 61) (0) (by decide +kernel) (by decide) d_X_together_6 (fun _ => ?_) (fun q => absurd q (by decide))
      refine aw_bipush (v := (-2 : Int32)) rfl d_X_together_61 ?_
      exact as_reti rfl d_X_together_63 (hK _)
    · refine aw_iconst (v := nI 1) ci_1 d_X_isIn_10 ?_
      refine aw_goto (tgt := 15) (by decide) d_X_isIn_11 ?_
      refine as_retz rfl (by decide +kernel) d_X_isIn_15 ?_
      refine (show As l b 11 y_X_isLine KM RM _ (I) 6 [.int (x)] [.int (nI 1)] from ?_)
      refine as_retz rfl (by decide +kernel) d_X_isLine_6 ?_
      refine (show As l b 12 y_X_isThere KM RM _ (I) 4 [.ref 0, .int (x), .int (z)] [.int (nI 1)] from ?_)
      refine aw_if_eqI (tgt := 31) (1) (by decide +kernel) (by decide) d_X_isThere_4 (fun q => absurd q (by decide)) (fun _ => ?_)
      obtain ⟨w1, hw1, ew1, gw1⟩ := nI_of_range (x := x) (n := 6) (by omega) (by omega)
      subst ew1
      refine aw_iload_n rfl rfl d_X_isThere_7 ?_
      refine aw_iconst (v := nI 0) ci_0 d_X_isThere_8 ?_
      refine aw_aload_n rfl rfl d_X_isThere_9 ?_
      refine aw_getr fl_X_7 km_0 (by decide) rfl rm_0_0 d_X_isThere_10 ?_
      refine aw_sipush (v := nI 130) cs_130 d_X_isThere_13 ?_
      refine aw_iload_n rfl rfl d_X_isThere_16 ?_
      refine aw_iaddN d_X_isThere_17 ?_
      refine aw_iald (j := (130 + w1)) km_1 (vp_in_nI (by omega) (by decide)) (nI_clamp (by omega)) d_X_isThere_18 ?_
      refine aw_top (x2 := nI 0) (g1 w1 (by omega)) ?_
      refine aw_iconst (v := nI 1) ci_1 d_X_isThere_19 ?_
      refine aw_isub d_X_isThere_20 ?_
      refine aw_top (x2 := (-1 : Int32)) (by decide +kernel) ?_
      refine as_callS (as := [.int (z), .int (nI 0), .int ((-1 : Int32))]) (d' := 11) mo_X_isIn lk_X_98 rfl ⟨by decide, by decide⟩ rfl rfl (by decide) d_X_isThere_21 (Ss.of (show As l b 11 y_X_isIn KM RM _ (I) 0 [.int (z), .int (nI 0), .int ((-1 : Int32))] [] from ?_))
      refine aw_iload_n rfl rfl d_X_isIn_0 ?_
      refine aw_iload_n rfl rfl d_X_isIn_1 ?_
      refine aw_icmp_ltI (tgt := 14) (z).toInt (0) rfl (by decide +kernel) (by decide) d_X_isIn_2 (fun c3 => ?_) (fun c3 => ?_)
      · refine aw_iconst (v := nI 0) ci_0 d_X_isIn_14 ?_
        refine as_retz rfl (by decide +kernel) d_X_isIn_15 ?_
        refine (show As l b 12 y_X_isThere KM RM _ (I) 24 [.ref 0, .int (nI (w1)), .int (z)] [.int (nI 0)] from ?_)
        refine aw_if_eqI (tgt := 31) (0) (by decide +kernel) (by decide) d_X_isThere_24 (fun _ => ?_) (fun q => absurd q (by decide))
        refine aw_iconst (v := nI 0) ci_0 d_X_isThere_31 ?_
        refine as_retz rfl (by decide +kernel) d_X_isThere_32 ?_
        refine (show As l b 13 y_X_isPlain KM RM _ (I) 6 [.ref 0, .int (nI (w1)), .int (z)] [.int (nI 0)] from ?_)
        refine aw_if_eqI (tgt := 40) (0) (by decide +kernel) (by decide) d_X_isPlain_6 (fun _ => ?_) (fun q => absurd q (by decide))
        refine aw_iconst (v := nI 0) ci_0 d_X_isPlain_40 ?_
        refine as_retz rfl (by decide +kernel) d_X_isPlain_41 ?_
        refine (show As l b 14 y_X_together KM RM K2 (I) 6 [.ref 0, .int (nI (w1)), .int (z), .int (u), .int (v), .int (c), uu, uu, uu] [.int (nI 0)] from ?_)
        refine aw_if_eqI (tgt := 61) (0) (by decide +kernel) (by decide) d_X_together_6 (fun _ => ?_) (fun q => absurd q (by decide))
        refine aw_bipush (v := (-2 : Int32)) rfl d_X_together_61 ?_
        exact as_reti rfl d_X_together_63 (hK _)
      · refine aw_iload_n rfl rfl d_X_isIn_5 ?_
        refine aw_iload_n rfl rfl d_X_isIn_6 ?_
        refine aw_icmp_gtI (tgt := 14) (z).toInt (-1) rfl (by decide +kernel) (by decide) d_X_isIn_7 (fun _ => ?_) (fun q => absurd q (by omega))
        refine aw_iconst (v := nI 0) ci_0 d_X_isIn_14 ?_
        refine as_retz rfl (by decide +kernel) d_X_isIn_15 ?_
        refine (show As l b 12 y_X_isThere KM RM _ (I) 24 [.ref 0, .int (nI (w1)), .int (z)] [.int (nI 0)] from ?_)
        refine aw_if_eqI (tgt := 31) (0) (by decide +kernel) (by decide) d_X_isThere_24 (fun _ => ?_) (fun q => absurd q (by decide))
        refine aw_iconst (v := nI 0) ci_0 d_X_isThere_31 ?_
        refine as_retz rfl (by decide +kernel) d_X_isThere_32 ?_
        refine (show As l b 13 y_X_isPlain KM RM _ (I) 6 [.ref 0, .int (nI (w1)), .int (z)] [.int (nI 0)] from ?_)
        refine aw_if_eqI (tgt := 40) (0) (by decide +kernel) (by decide) d_X_isPlain_6 (fun _ => ?_) (fun q => absurd q (by decide))
        refine aw_iconst (v := nI 0) ci_0 d_X_isPlain_40 ?_
        refine as_retz rfl (by decide +kernel) d_X_isPlain_41 ?_
        refine (show As l b 14 y_X_together KM RM K2 (I) 6 [.ref 0, .int (nI (w1)), .int (z), .int (u), .int (v), .int (c), uu, uu, uu] [.int (nI 0)] from ?_)
        refine aw_if_eqI (tgt := 61) (0) (by decide +kernel) (by decide) d_X_together_6 (fun _ => ?_) (fun q => absurd q (by decide))
        refine aw_bipush (v := (-2 : Int32)) rfl d_X_together_61 ?_
        exact as_reti rfl d_X_together_63 (hK _)
set_option maxRecDepth 20000 in
theorem ms_past {K2 : K2T} {I : Nat → Nat → Int32} (hR : FRm I) {x z : Int32} (hK : ∀ I', K2 (some (.int (-1))) I') : Ss l b 14 y_X_past KM RM [.ref 0, .int (x), .int (z)] (I) K2 := by
  obtain ⟨hF, w0, w2, w3, w5, w6, w7, w73, w74, wh, w110, o3, o12, o19, o21, o22, o23, o35⟩ := hR
  have hF0 := hF
  obtain ⟨g0, g1, g2, g3, g4, g5, g6, g7, g8, g9, g10, g11, g12, gb⟩ := hF
  refine Ss.of (show As l b 14 y_X_past KM RM K2 (I) 0 [.ref 0, .int (x), .int (z)] [] from ?_)
  refine aw_iload_n rfl rfl d_X_past_0 ?_
  refine aw_iconst (v := nI 0) ci_0 d_X_past_1 ?_
  refine aw_bipush (v := nI 59) cb_59 d_X_past_2 ?_
  refine as_callS (as := [.int (x), .int (nI 0), .int (nI 59)]) (d' := 13) mo_X_isIn lk_X_98 rfl ⟨by decide, by decide⟩ rfl rfl (by decide) d_X_past_4 (Ss.of (show As l b 13 y_X_isIn KM RM _ (I) 0 [.int (x), .int (nI 0), .int (nI 59)] [] from ?_))
  refine aw_iload_n rfl rfl d_X_isIn_0 ?_
  refine aw_iload_n rfl rfl d_X_isIn_1 ?_
  refine aw_icmp_ltI (tgt := 14) (x).toInt (0) rfl (by decide +kernel) (by decide) d_X_isIn_2 (fun c1 => ?_) (fun c1 => ?_)
  · refine aw_iconst (v := nI 0) ci_0 d_X_isIn_14 ?_
    refine as_retz rfl (by decide +kernel) d_X_isIn_15 ?_
    refine (show As l b 14 y_X_past KM RM K2 (I) 7 [.ref 0, .int (x), .int (z)] [.int (nI 0)] from ?_)
    refine aw_if_eqI (tgt := 60) (0) (by decide +kernel) (by decide) d_X_past_7 (fun _ => ?_) (fun q => absurd q (by decide))
    refine aw_iconst (v := (-1 : Int32)) rfl d_X_past_60 ?_
    exact as_reti rfl d_X_past_61 (hK _)
  · refine aw_iload_n rfl rfl d_X_isIn_5 ?_
    refine aw_iload_n rfl rfl d_X_isIn_6 ?_
    refine aw_icmp_gtI (tgt := 14) (x).toInt (59) rfl (by decide +kernel) (by decide) d_X_isIn_7 (fun c2 => ?_) (fun c2 => ?_)
    · refine aw_iconst (v := nI 0) ci_0 d_X_isIn_14 ?_
      refine as_retz rfl (by decide +kernel) d_X_isIn_15 ?_
      refine (show As l b 14 y_X_past KM RM K2 (I) 7 [.ref 0, .int (x), .int (z)] [.int (nI 0)] from ?_)
      refine aw_if_eqI (tgt := 60) (0) (by decide +kernel) (by decide) d_X_past_7 (fun _ => ?_) (fun q => absurd q (by decide))
      refine aw_iconst (v := (-1 : Int32)) rfl d_X_past_60 ?_
      exact as_reti rfl d_X_past_61 (hK _)
    · refine aw_iconst (v := nI 1) ci_1 d_X_isIn_10 ?_
      refine aw_goto (tgt := 15) (by decide) d_X_isIn_11 ?_
      refine as_retz rfl (by decide +kernel) d_X_isIn_15 ?_
      refine (show As l b 14 y_X_past KM RM K2 (I) 7 [.ref 0, .int (x), .int (z)] [.int (nI 1)] from ?_)
      refine aw_if_eqI (tgt := 60) (1) (by decide +kernel) (by decide) d_X_past_7 (fun q => absurd q (by decide)) (fun _ => ?_)
      refine aw_iload_n rfl rfl d_X_past_10 ?_
      refine aw_aload_n rfl rfl d_X_past_11 ?_
      refine aw_getr fl_X_7 km_0 (by decide) rfl rm_0_0 d_X_past_12 ?_
      refine aw_bipush (v := nI 70) cb_70 d_X_past_15 ?_
      refine aw_iald (j := 70) km_1 (vp_in_nI (by decide) (by decide)) (nI_clamp (by decide)) d_X_past_17 ?_
      refine aw_top (x2 := nI 0) (g6) ?_
      refine aw_icmp_geI (tgt := 60) (x).toInt (0) rfl (by decide +kernel) (by decide) d_X_past_18 (fun _ => ?_) (fun q => absurd q (by omega))
      refine aw_iconst (v := (-1 : Int32)) rfl d_X_past_60 ?_
      exact as_reti rfl d_X_past_61 (hK _)
set_option maxRecDepth 20000 in
theorem ms_folded {K2 : K2T} {I : Nat → Nat → Int32} (hR : FRm I) {x z u : Int32} (hg : 0 ≤ x.toInt ∧ x.toInt < 6 ∧ 1 ≤ z.toInt ∧ z.toInt ≤ 40 ∧ u.toInt = -1 → ∀ I', K2 (some (.int (nI 0))) I') (hb : ¬ (0 ≤ x.toInt ∧ x.toInt < 6 ∧ 1 ≤ z.toInt ∧ z.toInt ≤ 40 ∧ u.toInt = -1) → ∀ I', K2 (some (.int (-1))) I') : Ss l b 14 y_X_folded KM RM [.ref 0, .int (x), .int (z), .int (u)] (I) K2 := by
  obtain ⟨hF, w0, w2, w3, w5, w6, w7, w73, w74, wh, w110, o3, o12, o19, o21, o22, o23, o35⟩ := hR
  have hF0 := hF
  obtain ⟨g0, g1, g2, g3, g4, g5, g6, g7, g8, g9, g10, g11, g12, gb⟩ := hF
  refine Ss.of (show As l b 14 y_X_folded KM RM K2 (I) 0 [.ref 0, .int (x), .int (z), .int (u), uu, uu, uu, uu, uu] [] from ?_)
  refine aw_iload_n rfl rfl d_X_folded_0 ?_
  refine as_callS (as := [.int (x)]) (d' := 13) mo_X_isLine lk_X_105 rfl ⟨by decide, by decide⟩ rfl rfl (by decide) d_X_folded_1 (Ss.of (show As l b 13 y_X_isLine KM RM _ (I) 0 [.int (x)] [] from ?_))
  refine aw_iload_n rfl rfl d_X_isLine_0 ?_
  refine aw_iconst (v := nI 0) ci_0 d_X_isLine_1 ?_
  refine aw_iconst (v := nI 5) ci_5 d_X_isLine_2 ?_
  refine as_callS (as := [.int (x), .int (nI 0), .int (nI 5)]) (d' := 12) mo_X_isIn lk_X_98 rfl ⟨by decide, by decide⟩ rfl rfl (by decide) d_X_isLine_3 (Ss.of (show As l b 12 y_X_isIn KM RM _ (I) 0 [.int (x), .int (nI 0), .int (nI 5)] [] from ?_))
  refine aw_iload_n rfl rfl d_X_isIn_0 ?_
  refine aw_iload_n rfl rfl d_X_isIn_1 ?_
  refine aw_icmp_ltI (tgt := 14) (x).toInt (0) rfl (by decide +kernel) (by decide) d_X_isIn_2 (fun c1 => ?_) (fun c1 => ?_)
  · refine aw_iconst (v := nI 0) ci_0 d_X_isIn_14 ?_
    refine as_retz rfl (by decide +kernel) d_X_isIn_15 ?_
    refine (show As l b 13 y_X_isLine KM RM _ (I) 6 [.int (x)] [.int (nI 0)] from ?_)
    refine as_retz rfl (by decide +kernel) d_X_isLine_6 ?_
    refine (show As l b 14 y_X_folded KM RM K2 (I) 4 [.ref 0, .int (x), .int (z), .int (u), uu, uu, uu, uu, uu] [.int (nI 0)] from ?_)
    refine aw_if_eqI (tgt := 37) (0) (by decide +kernel) (by decide) d_X_folded_4 (fun _ => ?_) (fun q => absurd q (by decide))
    refine aw_iconst (v := (-1 : Int32)) rfl d_X_folded_37 ?_
    exact as_reti rfl d_X_folded_38 (hb (by omega) _)
  · refine aw_iload_n rfl rfl d_X_isIn_5 ?_
    refine aw_iload_n rfl rfl d_X_isIn_6 ?_
    refine aw_icmp_gtI (tgt := 14) (x).toInt (5) rfl (by decide +kernel) (by decide) d_X_isIn_7 (fun c2 => ?_) (fun c2 => ?_)
    · refine aw_iconst (v := nI 0) ci_0 d_X_isIn_14 ?_
      refine as_retz rfl (by decide +kernel) d_X_isIn_15 ?_
      refine (show As l b 13 y_X_isLine KM RM _ (I) 6 [.int (x)] [.int (nI 0)] from ?_)
      refine as_retz rfl (by decide +kernel) d_X_isLine_6 ?_
      refine (show As l b 14 y_X_folded KM RM K2 (I) 4 [.ref 0, .int (x), .int (z), .int (u), uu, uu, uu, uu, uu] [.int (nI 0)] from ?_)
      refine aw_if_eqI (tgt := 37) (0) (by decide +kernel) (by decide) d_X_folded_4 (fun _ => ?_) (fun q => absurd q (by decide))
      refine aw_iconst (v := (-1 : Int32)) rfl d_X_folded_37 ?_
      exact as_reti rfl d_X_folded_38 (hb (by omega) _)
    · refine aw_iconst (v := nI 1) ci_1 d_X_isIn_10 ?_
      refine aw_goto (tgt := 15) (by decide) d_X_isIn_11 ?_
      refine as_retz rfl (by decide +kernel) d_X_isIn_15 ?_
      refine (show As l b 13 y_X_isLine KM RM _ (I) 6 [.int (x)] [.int (nI 1)] from ?_)
      refine as_retz rfl (by decide +kernel) d_X_isLine_6 ?_
      refine (show As l b 14 y_X_folded KM RM K2 (I) 4 [.ref 0, .int (x), .int (z), .int (u), uu, uu, uu, uu, uu] [.int (nI 1)] from ?_)
      refine aw_if_eqI (tgt := 37) (1) (by decide +kernel) (by decide) d_X_folded_4 (fun q => absurd q (by decide)) (fun _ => ?_)
      refine aw_iload_n rfl rfl d_X_folded_7 ?_
      refine aw_iconst (v := nI 1) ci_1 d_X_folded_8 ?_
      refine aw_bipush (v := nI 40) cb_40 d_X_folded_9 ?_
      refine as_callS (as := [.int (z), .int (nI 1), .int (nI 40)]) (d' := 13) mo_X_isIn lk_X_98 rfl ⟨by decide, by decide⟩ rfl rfl (by decide) d_X_folded_11 (Ss.of (show As l b 13 y_X_isIn KM RM _ (I) 0 [.int (z), .int (nI 1), .int (nI 40)] [] from ?_))
      refine aw_iload_n rfl rfl d_X_isIn_0 ?_
      refine aw_iload_n rfl rfl d_X_isIn_1 ?_
      refine aw_icmp_ltI (tgt := 14) (z).toInt (1) rfl (by decide +kernel) (by decide) d_X_isIn_2 (fun c3 => ?_) (fun c3 => ?_)
      · refine aw_iconst (v := nI 0) ci_0 d_X_isIn_14 ?_
        refine as_retz rfl (by decide +kernel) d_X_isIn_15 ?_
        refine (show As l b 14 y_X_folded KM RM K2 (I) 14 [.ref 0, .int (x), .int (z), .int (u), uu, uu, uu, uu, uu] [.int (nI 0)] from ?_)
        refine aw_if_eqI (tgt := 37) (0) (by decide +kernel) (by decide) d_X_folded_14 (fun _ => ?_) (fun q => absurd q (by decide))
        refine aw_iconst (v := (-1 : Int32)) rfl d_X_folded_37 ?_
        exact as_reti rfl d_X_folded_38 (hb (by omega) _)
      · refine aw_iload_n rfl rfl d_X_isIn_5 ?_
        refine aw_iload_n rfl rfl d_X_isIn_6 ?_
        refine aw_icmp_gtI (tgt := 14) (z).toInt (40) rfl (by decide +kernel) (by decide) d_X_isIn_7 (fun c4 => ?_) (fun c4 => ?_)
        · refine aw_iconst (v := nI 0) ci_0 d_X_isIn_14 ?_
          refine as_retz rfl (by decide +kernel) d_X_isIn_15 ?_
          refine (show As l b 14 y_X_folded KM RM K2 (I) 14 [.ref 0, .int (x), .int (z), .int (u), uu, uu, uu, uu, uu] [.int (nI 0)] from ?_)
          refine aw_if_eqI (tgt := 37) (0) (by decide +kernel) (by decide) d_X_folded_14 (fun _ => ?_) (fun q => absurd q (by decide))
          refine aw_iconst (v := (-1 : Int32)) rfl d_X_folded_37 ?_
          exact as_reti rfl d_X_folded_38 (hb (by omega) _)
        · refine aw_iconst (v := nI 1) ci_1 d_X_isIn_10 ?_
          refine aw_goto (tgt := 15) (by decide) d_X_isIn_11 ?_
          refine as_retz rfl (by decide +kernel) d_X_isIn_15 ?_
          refine (show As l b 14 y_X_folded KM RM K2 (I) 14 [.ref 0, .int (x), .int (z), .int (u), uu, uu, uu, uu, uu] [.int (nI 1)] from ?_)
          refine aw_if_eqI (tgt := 37) (1) (by decide +kernel) (by decide) d_X_folded_14 (fun q => absurd q (by decide)) (fun _ => ?_)
          obtain ⟨w1, hw1, ew1, gw1⟩ := nI_of_range (x := x) (n := 6) (by omega) (by omega)
          subst ew1
          refine aw_iload_n rfl rfl d_X_folded_17 ?_
          refine aw_iconst (v := (-1 : Int32)) rfl d_X_folded_18 ?_
          refine aw_aload_n rfl rfl d_X_folded_19 ?_
          refine aw_getr fl_X_7 km_0 (by decide) rfl rm_0_0 d_X_folded_20 ?_
          refine aw_sipush (v := nI 130) cs_130 d_X_folded_23 ?_
          refine aw_iload_n rfl rfl d_X_folded_26 ?_
          refine aw_iaddN d_X_folded_27 ?_
          refine aw_iald (j := (130 + w1)) km_1 (vp_in_nI (by omega) (by decide)) (nI_clamp (by omega)) d_X_folded_28 ?_
          refine aw_top (x2 := nI 0) (g1 w1 (by omega)) ?_
          refine aw_iconst (v := nI 1) ci_1 d_X_folded_29 ?_
          refine aw_isub d_X_folded_30 ?_
          refine aw_top (x2 := (-1 : Int32)) (by decide +kernel) ?_
          refine as_callS (as := [.int (u), .int ((-1 : Int32)), .int ((-1 : Int32))]) (d' := 13) mo_X_isIn lk_X_98 rfl ⟨by decide, by decide⟩ rfl rfl (by decide) d_X_folded_31 (Ss.of (show As l b 13 y_X_isIn KM RM _ (I) 0 [.int (u), .int ((-1 : Int32)), .int ((-1 : Int32))] [] from ?_))
          refine aw_iload_n rfl rfl d_X_isIn_0 ?_
          refine aw_iload_n rfl rfl d_X_isIn_1 ?_
          refine aw_icmp_ltI (tgt := 14) (u).toInt (-1) rfl (by decide +kernel) (by decide) d_X_isIn_2 (fun c5 => ?_) (fun c5 => ?_)
          · refine aw_iconst (v := nI 0) ci_0 d_X_isIn_14 ?_
            refine as_retz rfl (by decide +kernel) d_X_isIn_15 ?_
            refine (show As l b 14 y_X_folded KM RM K2 (I) 34 [.ref 0, .int (nI (w1)), .int (z), .int (u), uu, uu, uu, uu, uu] [.int (nI 0)] from ?_)
            refine aw_if_neI (tgt := 39) (0) (by decide +kernel) (by decide) d_X_folded_34 (fun q => absurd q (by decide)) (fun _ => ?_)
            refine aw_iconst (v := (-1 : Int32)) rfl d_X_folded_37 ?_
            exact as_reti rfl d_X_folded_38 (hb (by omega) _)
          · refine aw_iload_n rfl rfl d_X_isIn_5 ?_
            refine aw_iload_n rfl rfl d_X_isIn_6 ?_
            refine aw_icmp_gtI (tgt := 14) (u).toInt (-1) rfl (by decide +kernel) (by decide) d_X_isIn_7 (fun c6 => ?_) (fun c6 => ?_)
            · refine aw_iconst (v := nI 0) ci_0 d_X_isIn_14 ?_
              refine as_retz rfl (by decide +kernel) d_X_isIn_15 ?_
              refine (show As l b 14 y_X_folded KM RM K2 (I) 34 [.ref 0, .int (nI (w1)), .int (z), .int (u), uu, uu, uu, uu, uu] [.int (nI 0)] from ?_)
              refine aw_if_neI (tgt := 39) (0) (by decide +kernel) (by decide) d_X_folded_34 (fun q => absurd q (by decide)) (fun _ => ?_)
              refine aw_iconst (v := (-1 : Int32)) rfl d_X_folded_37 ?_
              exact as_reti rfl d_X_folded_38 (hb (by omega) _)
            · refine aw_iconst (v := nI 1) ci_1 d_X_isIn_10 ?_
              refine aw_goto (tgt := 15) (by decide) d_X_isIn_11 ?_
              refine as_retz rfl (by decide +kernel) d_X_isIn_15 ?_
              refine (show As l b 14 y_X_folded KM RM K2 (I) 34 [.ref 0, .int (nI (w1)), .int (z), .int (u), uu, uu, uu, uu, uu] [.int (nI 1)] from ?_)
              refine aw_if_neI (tgt := 39) (1) (by decide +kernel) (by decide) d_X_folded_34 (fun _ => ?_) (fun q => absurd q (by decide))
              refine aw_iconst (v := nI 0) ci_0 d_X_folded_39 ?_
              refine aw_istore (lv2 := [.ref 0, .int (nI (w1)), .int (z), .int (u), .int (nI 0), uu, uu, uu, uu]) (by decide) rfl d_X_folded_40 ?_
              refine aw_iload_n rfl rfl d_X_folded_42 ?_
              refine aw_istore (lv2 := [.ref 0, .int (nI (w1)), .int (z), .int (u), .int (nI 0), .int (z), uu, uu, uu]) (by decide) rfl d_X_folded_43 ?_
              refine aw_iconst (v := nI 0) ci_0 d_X_folded_45 ?_
              refine aw_istore (lv2 := [.ref 0, .int (nI (w1)), .int (z), .int (u), .int (nI 0), .int (z), .int (nI 0), uu, uu]) (by decide) rfl d_X_folded_46 ?_
              refine aw_iload rfl d_X_folded_48 ?_
              refine aw_aload_n rfl rfl d_X_folded_50 ?_
              refine aw_getr fl_X_7 km_0 (by decide) rfl rm_0_0 d_X_folded_51 ?_
              refine aw_sipush (v := nI 130) cs_130 d_X_folded_54 ?_
              refine aw_iload_n rfl rfl d_X_folded_57 ?_
              refine aw_iaddN d_X_folded_58 ?_
              refine aw_iald (j := (130 + w1)) km_1 (vp_in_nI (by omega) (by decide)) (nI_clamp (by omega)) d_X_folded_59 ?_
              refine aw_top (x2 := nI 0) (g1 w1 (by omega)) ?_
              refine aw_icmp_geI (tgt := 149) (0) (0) (by decide +kernel) (by decide +kernel) (by decide) d_X_folded_60 (fun _ => ?_) (fun q => absurd q (by decide))
              refine aw_iload rfl d_X_folded_149 ?_
              exact as_reti rfl d_X_folded_151 (hg (by omega) _)
set_option maxRecDepth 20000 in
theorem ms_told {K2 : K2T} {I : Nat → Nat → Int32} (hR : FRm I) {x : Int32} (t0 : x.toInt = 0 → ∀ I', K2 (some (.int (nI 4))) I') (t1' : x.toInt = 1 → ∀ I', K2 (some (.int (nI 6))) I') (t2' : x.toInt = 2 → ∀ I', K2 (some (.int (nI 40))) I') (tz : 3 ≤ x.toInt ∧ x.toInt ≤ 8 → ∀ I', K2 (some (.int (nI 0))) I') (tb : ¬ (0 ≤ x.toInt ∧ x.toInt ≤ 8) → ∀ I', K2 (some (.int (-1))) I') : Ss l b 14 y_X_told KM RM [.ref 0, .int (x)] (I) K2 := by
  obtain ⟨hF, w0, w2, w3, w5, w6, w7, w73, w74, wh, w110, o3, o12, o19, o21, o22, o23, o35⟩ := hR
  have hF0 := hF
  obtain ⟨g0, g1, g2, g3, g4, g5, g6, g7, g8, g9, g10, g11, g12, gb⟩ := hF
  refine Ss.of (show As l b 14 y_X_told KM RM K2 (I) 0 [.ref 0, .int (x)] [] from ?_)
  refine aw_iload_n rfl rfl d_X_told_0 ?_
  refine aw_iconst (v := nI 0) ci_0 d_X_told_1 ?_
  refine aw_iconst (v := nI 5) ci_5 d_X_told_2 ?_
  refine as_callS (as := [.int (x), .int (nI 0), .int (nI 5)]) (d' := 13) mo_X_isIn lk_X_98 rfl ⟨by decide, by decide⟩ rfl rfl (by decide) d_X_told_3 (Ss.of (show As l b 13 y_X_isIn KM RM _ (I) 0 [.int (x), .int (nI 0), .int (nI 5)] [] from ?_))
  refine aw_iload_n rfl rfl d_X_isIn_0 ?_
  refine aw_iload_n rfl rfl d_X_isIn_1 ?_
  refine aw_icmp_ltI (tgt := 14) (x).toInt (0) rfl (by decide +kernel) (by decide) d_X_isIn_2 (fun c1 => ?_) (fun c1 => ?_)
  · refine aw_iconst (v := nI 0) ci_0 d_X_isIn_14 ?_
    refine as_retz rfl (by decide +kernel) d_X_isIn_15 ?_
    refine (show As l b 14 y_X_told KM RM K2 (I) 6 [.ref 0, .int (x)] [.int (nI 0)] from ?_)
    refine aw_if_eqI (tgt := 20) (0) (by decide +kernel) (by decide) d_X_told_6 (fun _ => ?_) (fun q => absurd q (by decide))
    refine aw_iload_n rfl rfl d_X_told_20 ?_
    refine aw_bipush (v := nI 6) cb_6 d_X_told_21 ?_
    refine aw_icmp_neI (tgt := 33) (x).toInt (6) rfl (by decide +kernel) (by decide) d_X_told_23 (fun _ => ?_) (fun q => absurd q (by omega))
    refine aw_iload_n rfl rfl d_X_told_33 ?_
    refine aw_bipush (v := nI 7) cb_7 d_X_told_34 ?_
    refine aw_icmp_neI (tgt := 49) (x).toInt (7) rfl (by decide +kernel) (by decide) d_X_told_36 (fun _ => ?_) (fun q => absurd q (by omega))
    refine aw_iload_n rfl rfl d_X_told_49 ?_
    refine aw_bipush (v := nI 8) cb_8 d_X_told_50 ?_
    refine aw_icmp_neI (tgt := 64) (x).toInt (8) rfl (by decide +kernel) (by decide) d_X_told_52 (fun _ => ?_) (fun q => absurd q (by omega))
    refine aw_iconst (v := (-1 : Int32)) rfl d_X_told_64 ?_
    exact as_reti rfl d_X_told_65 (tb (by omega) _)
  · refine aw_iload_n rfl rfl d_X_isIn_5 ?_
    refine aw_iload_n rfl rfl d_X_isIn_6 ?_
    refine aw_icmp_gtI (tgt := 14) (x).toInt (5) rfl (by decide +kernel) (by decide) d_X_isIn_7 (fun c2 => ?_) (fun c2 => ?_)
    · refine aw_iconst (v := nI 0) ci_0 d_X_isIn_14 ?_
      refine as_retz rfl (by decide +kernel) d_X_isIn_15 ?_
      refine (show As l b 14 y_X_told KM RM K2 (I) 6 [.ref 0, .int (x)] [.int (nI 0)] from ?_)
      refine aw_if_eqI (tgt := 20) (0) (by decide +kernel) (by decide) d_X_told_6 (fun _ => ?_) (fun q => absurd q (by decide))
      refine aw_iload_n rfl rfl d_X_told_20 ?_
      refine aw_bipush (v := nI 6) cb_6 d_X_told_21 ?_
      refine aw_icmp_neI (tgt := 33) (x).toInt (6) rfl (by decide +kernel) (by decide) d_X_told_23 (fun c3 => ?_) (fun c3 => ?_)
      · refine aw_iload_n rfl rfl d_X_told_33 ?_
        refine aw_bipush (v := nI 7) cb_7 d_X_told_34 ?_
        refine aw_icmp_neI (tgt := 49) (x).toInt (7) rfl (by decide +kernel) (by decide) d_X_told_36 (fun c4 => ?_) (fun c4 => ?_)
        · refine aw_iload_n rfl rfl d_X_told_49 ?_
          refine aw_bipush (v := nI 8) cb_8 d_X_told_50 ?_
          refine aw_icmp_neI (tgt := 64) (x).toInt (8) rfl (by decide +kernel) (by decide) d_X_told_52 (fun c5 => ?_) (fun c5 => ?_)
          · refine aw_iconst (v := (-1 : Int32)) rfl d_X_told_64 ?_
            exact as_reti rfl d_X_told_65 (tb (by omega) _)
          · refine aw_aload_n rfl rfl d_X_told_55 ?_
            refine aw_getr fl_X_7 km_0 (by decide) rfl rm_0_0 d_X_told_56 ?_
            refine aw_iconst (v := nI 0) ci_0 d_X_told_59 ?_
            refine aw_iald (j := 0) km_1 (vp_in_nI (by decide) (by decide)) (nI_clamp (by decide)) d_X_told_60 ?_
            refine aw_top (x2 := nI 0) (w0) ?_
            refine aw_goto (tgt := 65) (by decide) d_X_told_61 ?_
            exact as_reti rfl d_X_told_65 (tz (by omega) _)
        · refine aw_aload_n rfl rfl d_X_told_39 ?_
          refine aw_getr fl_X_7 km_0 (by decide) rfl rm_0_0 d_X_told_40 ?_
          refine aw_bipush (v := nI 7) cb_7 d_X_told_43 ?_
          refine aw_iald (j := 7) km_1 (vp_in_nI (by decide) (by decide)) (nI_clamp (by decide)) d_X_told_45 ?_
          refine aw_top (x2 := nI 0) (w7) ?_
          refine aw_goto (tgt := 65) (by decide) d_X_told_46 ?_
          exact as_reti rfl d_X_told_65 (tz (by omega) _)
      · refine aw_aload_n rfl rfl d_X_told_26 ?_
        refine aw_geti fl_X_344 km_0 (by decide) rfl d_X_told_27 ?_
        refine aw_top (x2 := nI 0) (o35) ?_
        refine aw_goto (tgt := 65) (by decide) d_X_told_30 ?_
        exact as_reti rfl d_X_told_65 (tz (by omega) _)
    · refine aw_iconst (v := nI 1) ci_1 d_X_isIn_10 ?_
      refine aw_goto (tgt := 15) (by decide) d_X_isIn_11 ?_
      refine as_retz rfl (by decide +kernel) d_X_isIn_15 ?_
      refine (show As l b 14 y_X_told KM RM K2 (I) 6 [.ref 0, .int (x)] [.int (nI 1)] from ?_)
      refine aw_if_eqI (tgt := 20) (1) (by decide +kernel) (by decide) d_X_told_6 (fun q => absurd q (by decide)) (fun _ => ?_)
      obtain ⟨w1, hw1, ew1, gw1⟩ := nI_of_range (x := x) (n := 6) (by omega) (by omega)
      subst ew1
      rcases (show w1 = 0 ∨ w1 = 1 ∨ w1 = 2 ∨ w1 = 3 ∨ w1 = 4 ∨ w1 = 5 by omega) with rfl | rfl | rfl | rfl | rfl | rfl
      · refine aw_aload_n rfl rfl d_X_told_9 ?_
        refine aw_getr fl_X_7 km_0 (by decide) rfl rm_0_0 d_X_told_10 ?_
        refine aw_iconst (v := nI 1) ci_1 d_X_told_13 ?_
        refine aw_iload_n rfl rfl d_X_told_14 ?_
        refine aw_iadd d_X_told_15 ?_
        refine aw_top (x2 := nI 1) (by decide +kernel) ?_
        refine aw_iald (j := 1) km_1 (vp_in_nI (by decide) (by decide)) (nI_clamp (by decide)) d_X_told_16 ?_
        refine aw_top (x2 := nI 4) (g3) ?_
        refine aw_goto (tgt := 65) (by decide) d_X_told_17 ?_
        exact as_reti rfl d_X_told_65 (t0 (by omega) _)
      · refine aw_aload_n rfl rfl d_X_told_9 ?_
        refine aw_getr fl_X_7 km_0 (by decide) rfl rm_0_0 d_X_told_10 ?_
        refine aw_iconst (v := nI 1) ci_1 d_X_told_13 ?_
        refine aw_iload_n rfl rfl d_X_told_14 ?_
        refine aw_iadd d_X_told_15 ?_
        refine aw_top (x2 := nI 2) (by decide +kernel) ?_
        refine aw_iald (j := 2) km_1 (vp_in_nI (by decide) (by decide)) (nI_clamp (by decide)) d_X_told_16 ?_
        refine aw_top (x2 := nI 6) (w2) ?_
        refine aw_goto (tgt := 65) (by decide) d_X_told_17 ?_
        exact as_reti rfl d_X_told_65 (t1' (by omega) _)
      · refine aw_aload_n rfl rfl d_X_told_9 ?_
        refine aw_getr fl_X_7 km_0 (by decide) rfl rm_0_0 d_X_told_10 ?_
        refine aw_iconst (v := nI 1) ci_1 d_X_told_13 ?_
        refine aw_iload_n rfl rfl d_X_told_14 ?_
        refine aw_iadd d_X_told_15 ?_
        refine aw_top (x2 := nI 3) (by decide +kernel) ?_
        refine aw_iald (j := 3) km_1 (vp_in_nI (by decide) (by decide)) (nI_clamp (by decide)) d_X_told_16 ?_
        refine aw_top (x2 := nI 40) (w3) ?_
        refine aw_goto (tgt := 65) (by decide) d_X_told_17 ?_
        exact as_reti rfl d_X_told_65 (t2' (by omega) _)
      · refine aw_aload_n rfl rfl d_X_told_9 ?_
        refine aw_getr fl_X_7 km_0 (by decide) rfl rm_0_0 d_X_told_10 ?_
        refine aw_iconst (v := nI 1) ci_1 d_X_told_13 ?_
        refine aw_iload_n rfl rfl d_X_told_14 ?_
        refine aw_iadd d_X_told_15 ?_
        refine aw_top (x2 := nI 4) (by decide +kernel) ?_
        refine aw_iald (j := 4) km_1 (vp_in_nI (by decide) (by decide)) (nI_clamp (by decide)) d_X_told_16 ?_
        refine aw_top (x2 := nI 0) (g4) ?_
        refine aw_goto (tgt := 65) (by decide) d_X_told_17 ?_
        exact as_reti rfl d_X_told_65 (tz (by omega) _)
      · refine aw_aload_n rfl rfl d_X_told_9 ?_
        refine aw_getr fl_X_7 km_0 (by decide) rfl rm_0_0 d_X_told_10 ?_
        refine aw_iconst (v := nI 1) ci_1 d_X_told_13 ?_
        refine aw_iload_n rfl rfl d_X_told_14 ?_
        refine aw_iadd d_X_told_15 ?_
        refine aw_top (x2 := nI 5) (by decide +kernel) ?_
        refine aw_iald (j := 5) km_1 (vp_in_nI (by decide) (by decide)) (nI_clamp (by decide)) d_X_told_16 ?_
        refine aw_top (x2 := nI 0) (w5) ?_
        refine aw_goto (tgt := 65) (by decide) d_X_told_17 ?_
        exact as_reti rfl d_X_told_65 (tz (by omega) _)
      · refine aw_aload_n rfl rfl d_X_told_9 ?_
        refine aw_getr fl_X_7 km_0 (by decide) rfl rm_0_0 d_X_told_10 ?_
        refine aw_iconst (v := nI 1) ci_1 d_X_told_13 ?_
        refine aw_iload_n rfl rfl d_X_told_14 ?_
        refine aw_iadd d_X_told_15 ?_
        refine aw_top (x2 := nI 6) (by decide +kernel) ?_
        refine aw_iald (j := 6) km_1 (vp_in_nI (by decide) (by decide)) (nI_clamp (by decide)) d_X_told_16 ?_
        refine aw_top (x2 := nI 0) (w6) ?_
        refine aw_goto (tgt := 65) (by decide) d_X_told_17 ?_
        exact as_reti rfl d_X_told_65 (tz (by omega) _)
set_option maxRecDepth 20000 in
theorem ms_image_0 {K2 : K2T} {I : Nat → Nat → Int32} (hR : FRm I) (hK : ∀ I', K2 (some (.int (nI 0))) I') : Ss l b 14 y_X_image KM RM [.ref 0, .int (nI 0)] (I) K2 := by
  obtain ⟨hF, w0, w2, w3, w5, w6, w7, w73, w74, wh, w110, o3, o12, o19, o21, o22, o23, o35⟩ := hR
  have hF0 := hF
  obtain ⟨g0, g1, g2, g3, g4, g5, g6, g7, g8, g9, g10, g11, g12, gb⟩ := hF
  refine Ss.of (show As l b 14 y_X_image KM RM K2 (I) 0 [.ref 0, .int (nI 0), uu] [] from ?_)
  refine aw_iload_n rfl rfl d_X_image_0 ?_
  refine aw_if_neI (tgt := 13) (0) (by decide +kernel) (by decide) d_X_image_1 (fun q => absurd q (by decide)) (fun _ => ?_)
  refine aw_aload_n rfl rfl d_X_image_4 ?_
  refine aw_geti fl_X_420 km_0 (by decide) rfl d_X_image_5 ?_
  refine aw_top (x2 := nI 0) (o3) ?_
  refine aw_if_neI (tgt := 13) (0) (by decide +kernel) (by decide) d_X_image_8 (fun q => absurd q (by decide)) (fun _ => ?_)
  refine aw_iconst (v := nI 0) ci_0 d_X_image_11 ?_
  exact as_retz rfl (by decide +kernel) d_X_image_12 (hK _)
end
