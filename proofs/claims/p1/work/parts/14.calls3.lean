/-! calls on a fresh object: in thought -/
abbrev y_S_price : MI := (⟨"SinglesUp", "price", "(II)I"⟩, prog_1_method_25_code, 6, some .int)
theorem d_S_price_0 : decode y_S_price.2.1 0 = .ok (.iconst 4, 1) := by decide +kernel
theorem d_S_price_1 : decode y_S_price.2.1 1 = .ok (.iload_n 1, 1) := by decide +kernel
theorem d_S_price_2 : decode y_S_price.2.1 2 = .ok (.invokestatic 61, 3) := by decide +kernel
theorem d_S_price_5 : decode y_S_price.2.1 5 = .ok (.ifCond .eq 14, 3) := by decide +kernel
theorem d_S_price_19 : decode y_S_price.2.1 19 = .ok (.ldc 143, 2) := by decide +kernel
theorem d_S_price_21 : decode y_S_price.2.1 21 = .ok (.ireturn, 1) := by decide +kernel
theorem d_S_price_8 : decode y_S_price.2.1 8 = .ok (.iload_n 2, 1) := by decide +kernel
theorem d_S_price_9 : decode y_S_price.2.1 9 = .ok (.iconst 1, 1) := by decide +kernel
theorem d_S_price_10 : decode y_S_price.2.1 10 = .ok (.if_icmp .lt 9, 3) := by decide +kernel
theorem d_S_price_13 : decode y_S_price.2.1 13 = .ok (.iload_n 2, 1) := by decide +kernel
theorem d_S_price_14 : decode y_S_price.2.1 14 = .ok (.bipush 40, 2) := by decide +kernel
theorem d_S_price_16 : decode y_S_price.2.1 16 = .ok (.if_icmp .le 6, 3) := by decide +kernel
theorem d_S_price_22 : decode y_S_price.2.1 22 = .ok (.aload_n 0, 1) := by decide +kernel
theorem d_S_price_23 : decode y_S_price.2.1 23 = .ok (.getfield 12, 3) := by decide +kernel
theorem d_S_price_26 : decode y_S_price.2.1 26 = .ok (.getfield 65, 3) := by decide +kernel
theorem d_S_price_29 : decode y_S_price.2.1 29 = .ok (.iconst 5, 1) := by decide +kernel
theorem d_S_price_30 : decode y_S_price.2.1 30 = .ok (.iaload, 1) := by decide +kernel
theorem d_S_price_31 : decode y_S_price.2.1 31 = .ok (.istore_n 3, 1) := by decide +kernel
theorem d_S_price_32 : decode y_S_price.2.1 32 = .ok (.aload_n 0, 1) := by decide +kernel
theorem d_S_price_33 : decode y_S_price.2.1 33 = .ok (.getfield 12, 3) := by decide +kernel
theorem d_S_price_36 : decode y_S_price.2.1 36 = .ok (.getfield 65, 3) := by decide +kernel
theorem d_S_price_39 : decode y_S_price.2.1 39 = .ok (.iconst 0, 1) := by decide +kernel
theorem d_S_price_40 : decode y_S_price.2.1 40 = .ok (.iaload, 1) := by decide +kernel
theorem d_S_price_41 : decode y_S_price.2.1 41 = .ok (.istore 4, 2) := by decide +kernel
theorem d_S_price_43 : decode y_S_price.2.1 43 = .ok (.aload_n 0, 1) := by decide +kernel
theorem d_S_price_44 : decode y_S_price.2.1 44 = .ok (.getfield 22, 3) := by decide +kernel
theorem d_S_price_47 : decode y_S_price.2.1 47 = .ok (.aload_n 0, 1) := by decide +kernel
theorem d_S_price_48 : decode y_S_price.2.1 48 = .ok (.getfield 12, 3) := by decide +kernel
theorem d_S_price_51 : decode y_S_price.2.1 51 = .ok (.iload_n 3, 1) := by decide +kernel
theorem d_S_price_52 : decode y_S_price.2.1 52 = .ok (.iload_n 1, 1) := by decide +kernel
theorem d_S_price_53 : decode y_S_price.2.1 53 = .ok (.iload 4, 2) := by decide +kernel
theorem d_S_price_55 : decode y_S_price.2.1 55 = .ok (.iload_n 2, 1) := by decide +kernel
theorem d_S_price_56 : decode y_S_price.2.1 56 = .ok (.invokevirtual 219, 3) := by decide +kernel
theorem d_S_price_59 : decode y_S_price.2.1 59 = .ok (.aload_n 0, 1) := by decide +kernel
theorem d_S_price_60 : decode y_S_price.2.1 60 = .ok (.getfield 22, 3) := by decide +kernel
theorem d_S_price_63 : decode y_S_price.2.1 63 = .ok (.aload_n 0, 1) := by decide +kernel
theorem d_S_price_64 : decode y_S_price.2.1 64 = .ok (.getfield 12, 3) := by decide +kernel
theorem d_S_price_67 : decode y_S_price.2.1 67 = .ok (.iconst 0, 1) := by decide +kernel
theorem d_S_price_68 : decode y_S_price.2.1 68 = .ok (.invokevirtual 223, 3) := by decide +kernel
theorem d_S_price_71 : decode y_S_price.2.1 71 = .ok (.istore 5, 2) := by decide +kernel
theorem d_S_price_73 : decode y_S_price.2.1 73 = .ok (.aload_n 0, 1) := by decide +kernel
theorem d_S_price_74 : decode y_S_price.2.1 74 = .ok (.getfield 22, 3) := by decide +kernel
theorem d_S_price_77 : decode y_S_price.2.1 77 = .ok (.aload_n 0, 1) := by decide +kernel
theorem d_S_price_78 : decode y_S_price.2.1 78 = .ok (.getfield 12, 3) := by decide +kernel
theorem d_S_price_81 : decode y_S_price.2.1 81 = .ok (.iload_n 3, 1) := by decide +kernel
theorem d_S_price_82 : decode y_S_price.2.1 82 = .ok (.iconst 0, 1) := by decide +kernel
theorem d_S_price_83 : decode y_S_price.2.1 83 = .ok (.iload 4, 2) := by decide +kernel
theorem d_S_price_85 : decode y_S_price.2.1 85 = .ok (.iload_n 2, 1) := by decide +kernel
theorem d_S_price_86 : decode y_S_price.2.1 86 = .ok (.invokevirtual 219, 3) := by decide +kernel
theorem d_S_price_89 : decode y_S_price.2.1 89 = .ok (.iload 5, 2) := by decide +kernel
theorem d_S_price_91 : decode y_S_price.2.1 91 = .ok (.aload_n 0, 1) := by decide +kernel
theorem d_S_price_92 : decode y_S_price.2.1 92 = .ok (.getfield 22, 3) := by decide +kernel
theorem d_S_price_95 : decode y_S_price.2.1 95 = .ok (.aload_n 0, 1) := by decide +kernel
theorem d_S_price_96 : decode y_S_price.2.1 96 = .ok (.getfield 12, 3) := by decide +kernel
theorem d_S_price_99 : decode y_S_price.2.1 99 = .ok (.iconst 0, 1) := by decide +kernel
theorem d_S_price_100 : decode y_S_price.2.1 100 = .ok (.invokevirtual 223, 3) := by decide +kernel
theorem d_S_price_103 : decode y_S_price.2.1 103 = .ok (.isub, 1) := by decide +kernel
theorem d_S_price_104 : decode y_S_price.2.1 104 = .ok (.ireturn, 1) := by decide +kernel
abbrev y_M_emptyNeeded : MI := (⟨"SinglesUp$Mind", "emptyNeeded", "(LSinglesUp$Hill;I)I"⟩, prog_7_method_9_code, 6, some .int)
theorem d_M_emptyNeeded_13 : decode y_M_emptyNeeded.2.1 13 = .ok (.iload 4, 2) := by decide +kernel
theorem d_M_emptyNeeded_15 : decode y_M_emptyNeeded.2.1 15 = .ok (.iload_n 2, 1) := by decide +kernel
theorem d_M_emptyNeeded_16 : decode y_M_emptyNeeded.2.1 16 = .ok (.if_icmp .ge 49, 3) := by decide +kernel
theorem d_M_emptyNeeded_65 : decode y_M_emptyNeeded.2.1 65 = .ok (.iload_n 3, 1) := by decide +kernel
theorem d_M_emptyNeeded_66 : decode y_M_emptyNeeded.2.1 66 = .ok (.ireturn, 1) := by decide +kernel
theorem d_M_emptyNeeded_19 : decode y_M_emptyNeeded.2.1 19 = .ok (.aload_n 0, 1) := by decide +kernel
theorem d_M_emptyNeeded_20 : decode y_M_emptyNeeded.2.1 20 = .ok (.getfield 12, 3) := by decide +kernel
theorem d_M_emptyNeeded_23 : decode y_M_emptyNeeded.2.1 23 = .ok (.getfield 40, 3) := by decide +kernel
theorem d_M_emptyNeeded_26 : decode y_M_emptyNeeded.2.1 26 = .ok (.iconst 1, 1) := by decide +kernel
theorem d_M_emptyNeeded_27 : decode y_M_emptyNeeded.2.1 27 = .ok (.iaload, 1) := by decide +kernel
theorem d_M_emptyNeeded_28 : decode y_M_emptyNeeded.2.1 28 = .ok (.istore 5, 2) := by decide +kernel
theorem d_M_emptyNeeded_30 : decode y_M_emptyNeeded.2.1 30 = .ok (.aload_n 0, 1) := by decide +kernel
theorem d_M_emptyNeeded_31 : decode y_M_emptyNeeded.2.1 31 = .ok (.getfield 21, 3) := by decide +kernel
theorem d_M_emptyNeeded_34 : decode y_M_emptyNeeded.2.1 34 = .ok (.aload_n 0, 1) := by decide +kernel
theorem d_M_emptyNeeded_35 : decode y_M_emptyNeeded.2.1 35 = .ok (.getfield 12, 3) := by decide +kernel
theorem d_M_emptyNeeded_38 : decode y_M_emptyNeeded.2.1 38 = .ok (.invokevirtual 87, 3) := by decide +kernel
theorem lk_M_87 : LkV "SinglesUp$Mind" 87 y_C_ride := ⟨tw_in 875 (by decide +kernel) rfl, tw_in 876 (by decide +kernel) rfl, Or.inl (tw_in 1108 (by decide +kernel) rfl)⟩
theorem d_M_emptyNeeded_41 : decode y_M_emptyNeeded.2.1 41 = .ok (.ifCond .le 18, 3) := by decide +kernel
theorem d_M_emptyNeeded_59 : decode y_M_emptyNeeded.2.1 59 = .ok (.iinc 4 1, 3) := by decide +kernel
theorem d_M_emptyNeeded_62 : decode y_M_emptyNeeded.2.1 62 = .ok (.goto (-49), 3) := by decide +kernel
theorem d_M_emptyNeeded_0 : decode y_M_emptyNeeded.2.1 0 = .ok (.aload_n 0, 1) := by decide +kernel
theorem d_M_emptyNeeded_1 : decode y_M_emptyNeeded.2.1 1 = .ok (.getfield 12, 3) := by decide +kernel
theorem d_M_emptyNeeded_4 : decode y_M_emptyNeeded.2.1 4 = .ok (.aload_n 1, 1) := by decide +kernel
theorem d_M_emptyNeeded_5 : decode y_M_emptyNeeded.2.1 5 = .ok (.invokevirtual 29, 3) := by decide +kernel
theorem d_M_emptyNeeded_8 : decode y_M_emptyNeeded.2.1 8 = .ok (.iconst 0, 1) := by decide +kernel
theorem d_M_emptyNeeded_9 : decode y_M_emptyNeeded.2.1 9 = .ok (.istore_n 3, 1) := by decide +kernel
theorem d_M_emptyNeeded_10 : decode y_M_emptyNeeded.2.1 10 = .ok (.iconst 0, 1) := by decide +kernel
theorem d_M_emptyNeeded_11 : decode y_M_emptyNeeded.2.1 11 = .ok (.istore 4, 2) := by decide +kernel
abbrev y_S_needed : MI := (⟨"SinglesUp", "needed", "(I)I"⟩, prog_1_method_28_code, 2, some .int)
theorem d_S_needed_0 : decode y_S_needed.2.1 0 = .ok (.iload_n 1, 1) := by decide +kernel
theorem d_S_needed_1 : decode y_S_needed.2.1 1 = .ok (.iconst 1, 1) := by decide +kernel
theorem d_S_needed_2 : decode y_S_needed.2.1 2 = .ok (.if_icmp .lt 9, 3) := by decide +kernel
theorem d_S_needed_11 : decode y_S_needed.2.1 11 = .ok (.iconst (-1), 1) := by decide +kernel
theorem d_S_needed_12 : decode y_S_needed.2.1 12 = .ok (.goto 15, 3) := by decide +kernel
theorem d_S_needed_27 : decode y_S_needed.2.1 27 = .ok (.ireturn, 1) := by decide +kernel
theorem d_S_needed_5 : decode y_S_needed.2.1 5 = .ok (.iload_n 1, 1) := by decide +kernel
theorem d_S_needed_6 : decode y_S_needed.2.1 6 = .ok (.bipush 40, 2) := by decide +kernel
theorem d_S_needed_8 : decode y_S_needed.2.1 8 = .ok (.if_icmp .le 7, 3) := by decide +kernel
theorem d_S_needed_15 : decode y_S_needed.2.1 15 = .ok (.aload_n 0, 1) := by decide +kernel
theorem d_S_needed_16 : decode y_S_needed.2.1 16 = .ok (.getfield 22, 3) := by decide +kernel
theorem d_S_needed_19 : decode y_S_needed.2.1 19 = .ok (.aload_n 0, 1) := by decide +kernel
theorem d_S_needed_20 : decode y_S_needed.2.1 20 = .ok (.getfield 12, 3) := by decide +kernel
theorem d_S_needed_23 : decode y_S_needed.2.1 23 = .ok (.iload_n 1, 1) := by decide +kernel
theorem d_S_needed_24 : decode y_S_needed.2.1 24 = .ok (.invokevirtual 240, 3) := by decide +kernel
theorem lk_S_240 : LkV "SinglesUp" 240 y_M_emptyNeeded := ⟨tw_in 1105 (by decide +kernel) rfl, tw_in 1106 (by decide +kernel) rfl, Or.inl (tw_in 1104 (by decide +kernel) rfl)⟩
theorem mo_M_emptyNeeded : MOk y_M_emptyNeeded 2 := ⟨by decide +kernel, tw_in 1107 (by decide +kernel) rfl, tw_in 102 (by decide +kernel) rfl, by decide +kernel, by decide +kernel, by decide +kernel⟩
abbrev y_M_bestSet : MI := (⟨"SinglesUp$Mind", "bestSet", "(LSinglesUp$Hill;II)I"⟩, prog_7_method_10_code, 7, some .int)
theorem d_M_bestSet_3 : decode y_M_bestSet.2.1 3 = .ok (.iload 4, 2) := by decide +kernel
theorem d_M_bestSet_5 : decode y_M_bestSet.2.1 5 = .ok (.bipush 16, 2) := by decide +kernel
theorem d_M_bestSet_7 : decode y_M_bestSet.2.1 7 = .ok (.if_icmp .ge 117, 3) := by decide +kernel
theorem d_M_bestSet_124 : decode y_M_bestSet.2.1 124 = .ok (.iload_n 3, 1) := by decide +kernel
theorem d_M_bestSet_125 : decode y_M_bestSet.2.1 125 = .ok (.ifCond .lt 21, 3) := by decide +kernel
theorem d_M_bestSet_128 : decode y_M_bestSet.2.1 128 = .ok (.iload_n 3, 1) := by decide +kernel
theorem d_M_bestSet_129 : decode y_M_bestSet.2.1 129 = .ok (.aload_n 0, 1) := by decide +kernel
theorem d_M_bestSet_130 : decode y_M_bestSet.2.1 130 = .ok (.getfield 25, 3) := by decide +kernel
theorem fl_M_25 : FL "SinglesUp$Mind" 25 5 2 := ⟨"SinglesUp$Mind", zT5, 3, rfl, by decide, rfl, Or.inl (tw_in 298 (by decide +kernel) rfl)⟩
theorem rc_81_2 : RC 81 2 = some 129 := by decide +kernel
theorem d_M_bestSet_133 : decode y_M_bestSet.2.1 133 = .ok (.arraylength, 1) := by decide +kernel
theorem kc_129 : KC[129]? = some (0, 3) := by decide +kernel
theorem d_M_bestSet_134 : decode y_M_bestSet.2.1 134 = .ok (.if_icmp .ge 12, 3) := by decide +kernel
theorem d_M_bestSet_137 : decode y_M_bestSet.2.1 137 = .ok (.aload_n 0, 1) := by decide +kernel
theorem d_M_bestSet_138 : decode y_M_bestSet.2.1 138 = .ok (.getfield 25, 3) := by decide +kernel
theorem d_M_bestSet_141 : decode y_M_bestSet.2.1 141 = .ok (.iload_n 3, 1) := by decide +kernel
theorem d_M_bestSet_142 : decode y_M_bestSet.2.1 142 = .ok (.iaload, 1) := by decide +kernel
theorem d_M_bestSet_143 : decode y_M_bestSet.2.1 143 = .ok (.goto 4, 3) := by decide +kernel
theorem d_M_bestSet_147 : decode y_M_bestSet.2.1 147 = .ok (.ireturn, 1) := by decide +kernel
theorem d_M_bestSet_10 : decode y_M_bestSet.2.1 10 = .ok (.aload_n 0, 1) := by decide +kernel
theorem d_M_bestSet_11 : decode y_M_bestSet.2.1 11 = .ok (.getfield 12, 3) := by decide +kernel
theorem d_M_bestSet_14 : decode y_M_bestSet.2.1 14 = .ok (.aload_n 1, 1) := by decide +kernel
theorem d_M_bestSet_15 : decode y_M_bestSet.2.1 15 = .ok (.invokevirtual 29, 3) := by decide +kernel
theorem d_M_bestSet_18 : decode y_M_bestSet.2.1 18 = .ok (.aload_n 0, 1) := by decide +kernel
theorem d_M_bestSet_19 : decode y_M_bestSet.2.1 19 = .ok (.getfield 12, 3) := by decide +kernel
theorem d_M_bestSet_22 : decode y_M_bestSet.2.1 22 = .ok (.iload 4, 2) := by decide +kernel
theorem d_M_bestSet_24 : decode y_M_bestSet.2.1 24 = .ok (.putfield 90, 3) := by decide +kernel
theorem fl_M_90 : FL "SinglesUp$Mind" 90 2 11 := ⟨"SinglesUp$Hill", zT2, 14, rfl, by decide, rfl, Or.inr ⟨"SinglesUp", nw_in 114 (by decide +kernel) rfl⟩⟩
theorem d_M_bestSet_27 : decode y_M_bestSet.2.1 27 = .ok (.aload_n 0, 1) := by decide +kernel
theorem d_M_bestSet_28 : decode y_M_bestSet.2.1 28 = .ok (.getfield 21, 3) := by decide +kernel
theorem d_M_bestSet_31 : decode y_M_bestSet.2.1 31 = .ok (.aload_n 0, 1) := by decide +kernel
theorem d_M_bestSet_32 : decode y_M_bestSet.2.1 32 = .ok (.getfield 12, 3) := by decide +kernel
theorem d_M_bestSet_35 : decode y_M_bestSet.2.1 35 = .ok (.iload_n 2, 1) := by decide +kernel
theorem d_M_bestSet_36 : decode y_M_bestSet.2.1 36 = .ok (.invokevirtual 36, 3) := by decide +kernel
theorem d_M_bestSet_39 : decode y_M_bestSet.2.1 39 = .ok (.pop, 1) := by decide +kernel
theorem d_M_bestSet_40 : decode y_M_bestSet.2.1 40 = .ok (.aload_n 0, 1) := by decide +kernel
theorem d_M_bestSet_41 : decode y_M_bestSet.2.1 41 = .ok (.aload_n 1, 1) := by decide +kernel
theorem d_M_bestSet_42 : decode y_M_bestSet.2.1 42 = .ok (.iconst 0, 1) := by decide +kernel
theorem d_M_bestSet_43 : decode y_M_bestSet.2.1 43 = .ok (.invokevirtual 94, 3) := by decide +kernel
theorem lk_M_94 : LkV "SinglesUp$Mind" 94 y_M_gained := ⟨tw_in 1040 (by decide +kernel) rfl, tw_in 1041 (by decide +kernel) rfl, Or.inl (tw_in 1125 (by decide +kernel) rfl)⟩
theorem d_M_bestSet_46 : decode y_M_bestSet.2.1 46 = .ok (.istore 5, 2) := by decide +kernel
theorem d_M_bestSet_48 : decode y_M_bestSet.2.1 48 = .ok (.aload_n 0, 1) := by decide +kernel
theorem d_M_bestSet_49 : decode y_M_bestSet.2.1 49 = .ok (.aload_n 1, 1) := by decide +kernel
theorem d_M_bestSet_50 : decode y_M_bestSet.2.1 50 = .ok (.iconst 2, 1) := by decide +kernel
theorem d_M_bestSet_51 : decode y_M_bestSet.2.1 51 = .ok (.invokevirtual 94, 3) := by decide +kernel
theorem d_M_bestSet_54 : decode y_M_bestSet.2.1 54 = .ok (.istore 6, 2) := by decide +kernel
theorem d_M_bestSet_56 : decode y_M_bestSet.2.1 56 = .ok (.iload 4, 2) := by decide +kernel
theorem d_M_bestSet_58 : decode y_M_bestSet.2.1 58 = .ok (.ifCond .eq 36, 3) := by decide +kernel
theorem d_M_bestSet_61 : decode y_M_bestSet.2.1 61 = .ok (.iload 5, 2) := by decide +kernel
theorem d_M_bestSet_63 : decode y_M_bestSet.2.1 63 = .ok (.aload_n 0, 1) := by decide +kernel
theorem d_M_bestSet_64 : decode y_M_bestSet.2.1 64 = .ok (.getfield 25, 3) := by decide +kernel
theorem d_M_bestSet_67 : decode y_M_bestSet.2.1 67 = .ok (.iconst 1, 1) := by decide +kernel
theorem d_M_bestSet_68 : decode y_M_bestSet.2.1 68 = .ok (.iaload, 1) := by decide +kernel
theorem d_M_bestSet_69 : decode y_M_bestSet.2.1 69 = .ok (.if_icmp .lt 25, 3) := by decide +kernel
theorem d_M_bestSet_72 : decode y_M_bestSet.2.1 72 = .ok (.iload 5, 2) := by decide +kernel
theorem d_M_bestSet_74 : decode y_M_bestSet.2.1 74 = .ok (.aload_n 0, 1) := by decide +kernel
theorem d_M_bestSet_75 : decode y_M_bestSet.2.1 75 = .ok (.getfield 25, 3) := by decide +kernel
theorem d_M_bestSet_78 : decode y_M_bestSet.2.1 78 = .ok (.iconst 1, 1) := by decide +kernel
theorem d_M_bestSet_79 : decode y_M_bestSet.2.1 79 = .ok (.iaload, 1) := by decide +kernel
theorem d_M_bestSet_80 : decode y_M_bestSet.2.1 80 = .ok (.if_icmp .ne 38, 3) := by decide +kernel
theorem d_M_bestSet_83 : decode y_M_bestSet.2.1 83 = .ok (.iload 6, 2) := by decide +kernel
theorem d_M_bestSet_85 : decode y_M_bestSet.2.1 85 = .ok (.aload_n 0, 1) := by decide +kernel
theorem d_M_bestSet_86 : decode y_M_bestSet.2.1 86 = .ok (.getfield 25, 3) := by decide +kernel
theorem d_M_bestSet_89 : decode y_M_bestSet.2.1 89 = .ok (.iconst 2, 1) := by decide +kernel
theorem d_M_bestSet_90 : decode y_M_bestSet.2.1 90 = .ok (.iaload, 1) := by decide +kernel
theorem d_M_bestSet_91 : decode y_M_bestSet.2.1 91 = .ok (.if_icmp .ge 27, 3) := by decide +kernel
theorem d_M_bestSet_118 : decode y_M_bestSet.2.1 118 = .ok (.iinc 4 1, 3) := by decide +kernel
theorem d_M_bestSet_121 : decode y_M_bestSet.2.1 121 = .ok (.goto (-118), 3) := by decide +kernel
theorem d_M_bestSet_0 : decode y_M_bestSet.2.1 0 = .ok (.iconst 0, 1) := by decide +kernel
theorem d_M_bestSet_1 : decode y_M_bestSet.2.1 1 = .ok (.istore 4, 2) := by decide +kernel
theorem d_M_bestSet_94 : decode y_M_bestSet.2.1 94 = .ok (.aload_n 0, 1) := by decide +kernel
theorem d_M_bestSet_95 : decode y_M_bestSet.2.1 95 = .ok (.getfield 25, 3) := by decide +kernel
theorem d_M_bestSet_98 : decode y_M_bestSet.2.1 98 = .ok (.iconst 0, 1) := by decide +kernel
theorem d_M_bestSet_99 : decode y_M_bestSet.2.1 99 = .ok (.iload 4, 2) := by decide +kernel
theorem d_M_bestSet_101 : decode y_M_bestSet.2.1 101 = .ok (.iastore, 1) := by decide +kernel
theorem d_M_bestSet_102 : decode y_M_bestSet.2.1 102 = .ok (.aload_n 0, 1) := by decide +kernel
theorem d_M_bestSet_103 : decode y_M_bestSet.2.1 103 = .ok (.getfield 25, 3) := by decide +kernel
theorem d_M_bestSet_106 : decode y_M_bestSet.2.1 106 = .ok (.iconst 1, 1) := by decide +kernel
theorem d_M_bestSet_107 : decode y_M_bestSet.2.1 107 = .ok (.iload 5, 2) := by decide +kernel
theorem d_M_bestSet_109 : decode y_M_bestSet.2.1 109 = .ok (.iastore, 1) := by decide +kernel
theorem d_M_bestSet_110 : decode y_M_bestSet.2.1 110 = .ok (.aload_n 0, 1) := by decide +kernel
theorem d_M_bestSet_111 : decode y_M_bestSet.2.1 111 = .ok (.getfield 25, 3) := by decide +kernel
theorem d_M_bestSet_114 : decode y_M_bestSet.2.1 114 = .ok (.iconst 2, 1) := by decide +kernel
theorem d_M_bestSet_115 : decode y_M_bestSet.2.1 115 = .ok (.iload 6, 2) := by decide +kernel
theorem d_M_bestSet_117 : decode y_M_bestSet.2.1 117 = .ok (.iastore, 1) := by decide +kernel
abbrev y_S_which : MI := (⟨"SinglesUp", "which", "(II)I"⟩, prog_1_method_30_code, 3, some .int)
theorem d_S_which_0 : decode y_S_which.2.1 0 = .ok (.iload_n 1, 1) := by decide +kernel
theorem d_S_which_1 : decode y_S_which.2.1 1 = .ok (.iconst 1, 1) := by decide +kernel
theorem d_S_which_2 : decode y_S_which.2.1 2 = .ok (.if_icmp .lt 18, 3) := by decide +kernel
theorem d_S_which_20 : decode y_S_which.2.1 20 = .ok (.iconst (-1), 1) := by decide +kernel
theorem d_S_which_21 : decode y_S_which.2.1 21 = .ok (.goto 16, 3) := by decide +kernel
theorem d_S_which_37 : decode y_S_which.2.1 37 = .ok (.ireturn, 1) := by decide +kernel
theorem d_S_which_5 : decode y_S_which.2.1 5 = .ok (.iload_n 1, 1) := by decide +kernel
theorem d_S_which_6 : decode y_S_which.2.1 6 = .ok (.bipush 20, 2) := by decide +kernel
theorem d_S_which_8 : decode y_S_which.2.1 8 = .ok (.if_icmp .gt 12, 3) := by decide +kernel
theorem d_S_which_11 : decode y_S_which.2.1 11 = .ok (.iload_n 2, 1) := by decide +kernel
theorem d_S_which_12 : decode y_S_which.2.1 12 = .ok (.ifCond .lt 8, 3) := by decide +kernel
theorem d_S_which_15 : decode y_S_which.2.1 15 = .ok (.iload_n 2, 1) := by decide +kernel
theorem d_S_which_16 : decode y_S_which.2.1 16 = .ok (.iconst 2, 1) := by decide +kernel
theorem d_S_which_17 : decode y_S_which.2.1 17 = .ok (.if_icmp .le 7, 3) := by decide +kernel
theorem d_S_which_24 : decode y_S_which.2.1 24 = .ok (.aload_n 0, 1) := by decide +kernel
theorem d_S_which_25 : decode y_S_which.2.1 25 = .ok (.getfield 22, 3) := by decide +kernel
theorem d_S_which_28 : decode y_S_which.2.1 28 = .ok (.aload_n 0, 1) := by decide +kernel
theorem d_S_which_29 : decode y_S_which.2.1 29 = .ok (.getfield 12, 3) := by decide +kernel
theorem d_S_which_32 : decode y_S_which.2.1 32 = .ok (.iload_n 1, 1) := by decide +kernel
theorem d_S_which_33 : decode y_S_which.2.1 33 = .ok (.iload_n 2, 1) := by decide +kernel
theorem d_S_which_34 : decode y_S_which.2.1 34 = .ok (.invokevirtual 246, 3) := by decide +kernel
theorem lk_S_246 : LkV "SinglesUp" 246 y_M_bestSet := ⟨tw_in 1122 (by decide +kernel) rfl, tw_in 1123 (by decide +kernel) rfl, Or.inl (tw_in 1121 (by decide +kernel) rfl)⟩
theorem mo_M_bestSet : MOk y_M_bestSet 3 := ⟨by decide +kernel, tw_in 1124 (by decide +kernel) rfl, tw_in 102 (by decide +kernel) rfl, by decide +kernel, by decide +kernel, by decide +kernel⟩
section
variable {l : Launch} {b : PB}
set_option maxRecDepth 20000 in
theorem cs_price {K2 : K2T} {I : Nat → Nat → Int32} (hR : FRc I) {x z : Int32} (hg : 0 ≤ x.toInt ∧ x.toInt ≤ 99 ∧ 1 ≤ z.toInt ∧ z.toInt ≤ 40 → ∀ I', K2 (some (.int (nI 0))) I') (hb : ¬ (0 ≤ x.toInt ∧ x.toInt ≤ 99 ∧ 1 ≤ z.toInt ∧ z.toInt ≤ 40) → ∀ I', K2 (some (.int (-1000000))) I') : Ss l b 14 y_S_price KC RC [.ref 0, .int (x), .int (z)] (I) K2 := by
  obtain ⟨hF, r6, r7, r11, t1, t2, t4, hh, tm, h7, h8, h9, q1, q10, q11, im, p0⟩ := hR
  have hF0 := hF
  obtain ⟨f0, f1, f2, f3, f4, f5, f6, f7, f8, f9, f10, f11, f12, f13, fb⟩ := hF
  have f0 : ∀ j, j < 32 → I 5 j = nI 0 := f0
  have f1 : ∀ j, j < 6 → I 9 j = nI 0 := f1
  have f2 : ∀ j, j < 6 → I 10 j = nI 9 := f2
  have f3 : I 2 0 = nI (4) := f3
  have f4 : I 2 3 = nI 0 := f4
  have f5 : I 2 5 = nI (0) := f5
  have f6 : I 11 1 = nI (0) := f6
  have f7 : I 11 0 = nI (0) := f7
  have f8 : ∀ j, j < 40 → j ≠ 0 → j ≠ 1 → j ≠ 3 → I 11 j = nI 0 := f8
  have f9 : I 16 4 = nI 0 := f9
  have f10 : I 21 4 = nI 0 := f10
  have f11 : I 26 4 = nI 0 := f11
  have f12 : I 31 4 = nI 0 := f12
  have f13 : I 36 4 = nI 0 := f13
  refine Ss.of (show As l b 14 y_S_price KC RC K2 (I) 0 [.ref 0, .int (x), .int (z), uu, uu, uu] [] from ?_)
  refine aw_iconst (v := nI 4) ci_4 d_S_price_0 ?_
  refine aw_iload_n rfl rfl d_S_price_1 ?_
  refine as_callS (as := [.int (nI 4), .int (x)]) (d' := 13) mo_S_canTell lk_S_61 rfl ⟨by decide, by decide⟩ rfl rfl (by decide) d_S_price_2 (Ss.of (show As l b 13 y_S_canTell KC RC _ (I) 0 [.int (nI 4), .int (x)] [] from ?_))
  refine aw_iload_n rfl rfl d_S_canTell_0 ?_
  refine aw_if_ltI (tgt := 31) (4) (by decide +kernel) (by decide) d_S_canTell_1 (fun q => absurd q (by decide)) (fun _ => ?_)
  refine aw_iload_n rfl rfl d_S_canTell_4 ?_
  refine aw_iconst (v := nI 5) ci_5 d_S_canTell_5 ?_
  refine aw_icmp_gtI (tgt := 31) (4) (5) (by decide +kernel) (by decide +kernel) (by decide) d_S_canTell_6 (fun q => absurd q (by decide)) (fun _ => ?_)
  refine aw_iload_n rfl rfl d_S_canTell_9 ?_
  refine aw_getsL gs_S_265 d_S_canTell_10 ?_
  refine aw_iload_n rfl rfl d_S_canTell_13 ?_
  refine aw_ialdL (j := 4) (vp_in_nI (by omega) (by omega)) (nI_clamp (by omega)) d_S_canTell_14 ?_
  refine aw_top (x2 := nI 0) (by decide +kernel) ?_
  refine aw_icmp_ltI (tgt := 31) (x).toInt (0) rfl (by decide +kernel) (by decide) d_S_canTell_15 (fun c1 => ?_) (fun c1 => ?_)
  · refine aw_iconst (v := nI 0) ci_0 d_S_canTell_31 ?_
    refine as_retz rfl (by decide +kernel) d_S_canTell_32 ?_
    refine (show As l b 14 y_S_price KC RC K2 (I) 5 [.ref 0, .int (x), .int (z), uu, uu, uu] [.int (nI 0)] from ?_)
    refine aw_if_eqI (tgt := 19) (0) (by decide +kernel) (by decide) d_S_price_5 (fun _ => ?_) (fun q => absurd q (by decide))
    refine aw_ldc (v := -1000000) lc_S_143 d_S_price_19 ?_
    refine aw_top (x2 := (-1000000 : Int32)) (by decide +kernel) ?_
    exact as_reti rfl d_S_price_21 (hb (by omega) _)
  · refine aw_iload_n rfl rfl d_S_canTell_18 ?_
    refine aw_getsM gs_S_268 d_S_canTell_19 ?_
    refine aw_iload_n rfl rfl d_S_canTell_22 ?_
    refine aw_ialdM (j := 4) (vp_in_nI (by omega) (by omega)) (nI_clamp (by omega)) d_S_canTell_23 ?_
    refine aw_top (x2 := nI 99) (by decide +kernel) ?_
    refine aw_icmp_gtI (tgt := 31) (x).toInt (99) rfl (by decide +kernel) (by decide) d_S_canTell_24 (fun c2 => ?_) (fun c2 => ?_)
    · refine aw_iconst (v := nI 0) ci_0 d_S_canTell_31 ?_
      refine as_retz rfl (by decide +kernel) d_S_canTell_32 ?_
      refine (show As l b 14 y_S_price KC RC K2 (I) 5 [.ref 0, .int (x), .int (z), uu, uu, uu] [.int (nI 0)] from ?_)
      refine aw_if_eqI (tgt := 19) (0) (by decide +kernel) (by decide) d_S_price_5 (fun _ => ?_) (fun q => absurd q (by decide))
      refine aw_ldc (v := -1000000) lc_S_143 d_S_price_19 ?_
      refine aw_top (x2 := (-1000000 : Int32)) (by decide +kernel) ?_
      exact as_reti rfl d_S_price_21 (hb (by omega) _)
    · refine aw_iconst (v := nI 1) ci_1 d_S_canTell_27 ?_
      refine aw_goto (tgt := 32) (by decide) d_S_canTell_28 ?_
      refine as_retz rfl (by decide +kernel) d_S_canTell_32 ?_
      refine (show As l b 14 y_S_price KC RC K2 (I) 5 [.ref 0, .int (x), .int (z), uu, uu, uu] [.int (nI 1)] from ?_)
      refine aw_if_eqI (tgt := 19) (1) (by decide +kernel) (by decide) d_S_price_5 (fun q => absurd q (by decide)) (fun _ => ?_)
      refine aw_iload_n rfl rfl d_S_price_8 ?_
      refine aw_iconst (v := nI 1) ci_1 d_S_price_9 ?_
      refine aw_icmp_ltI (tgt := 19) (z).toInt (1) rfl (by decide +kernel) (by decide) d_S_price_10 (fun c3 => ?_) (fun c3 => ?_)
      · refine aw_ldc (v := -1000000) lc_S_143 d_S_price_19 ?_
        refine aw_top (x2 := (-1000000 : Int32)) (by decide +kernel) ?_
        exact as_reti rfl d_S_price_21 (hb (by omega) _)
      · refine aw_iload_n rfl rfl d_S_price_13 ?_
        refine aw_bipush (v := nI 40) cb_40 d_S_price_14 ?_
        refine aw_icmp_leI (tgt := 22) (z).toInt (40) rfl (by decide +kernel) (by decide) d_S_price_16 (fun c4 => ?_) (fun c4 => ?_)
        · refine aw_aload_n rfl rfl d_S_price_22 ?_
          refine aw_getr fl_S_12 kc_0 (by decide) rfl rc_0_0 d_S_price_23 ?_
          refine aw_getr fl_S_65 kc_1 (by decide) rfl rc_1_0 d_S_price_26 ?_
          refine aw_iconst (v := nI 5) ci_5 d_S_price_29 ?_
          refine aw_iald (j := 5) kc_2 (vp_in_nI (by decide) (by decide)) (nI_clamp (by decide)) d_S_price_30 ?_
          refine aw_top (x2 := nI 0) (f5) ?_
          refine aw_istore_n (lv2 := [.ref 0, .int (x), .int (z), .int (nI 0), uu, uu]) rfl (by decide) rfl d_S_price_31 ?_
          refine aw_aload_n rfl rfl d_S_price_32 ?_
          refine aw_getr fl_S_12 kc_0 (by decide) rfl rc_0_0 d_S_price_33 ?_
          refine aw_getr fl_S_65 kc_1 (by decide) rfl rc_1_0 d_S_price_36 ?_
          refine aw_iconst (v := nI 0) ci_0 d_S_price_39 ?_
          refine aw_iald (j := 0) kc_2 (vp_in_nI (by decide) (by decide)) (nI_clamp (by decide)) d_S_price_40 ?_
          refine aw_top (x2 := nI 4) (f3) ?_
          refine aw_istore (lv2 := [.ref 0, .int (x), .int (z), .int (nI 0), .int (nI 4), uu]) (by decide) rfl d_S_price_41 ?_
          refine aw_aload_n rfl rfl d_S_price_43 ?_
          refine aw_getr fl_S_22 kc_0 (by decide) rfl rc_0_2 d_S_price_44 ?_
          refine aw_aload_n rfl rfl d_S_price_47 ?_
          refine aw_getr fl_S_12 kc_0 (by decide) rfl rc_0_0 d_S_price_48 ?_
          refine aw_iload_n rfl rfl d_S_price_51 ?_
          refine aw_iload_n rfl rfl d_S_price_52 ?_
          refine aw_iload rfl d_S_price_53 ?_
          refine aw_iload_n rfl rfl d_S_price_55 ?_
          refine as_callV (as := [.ref 1, .int (nI 0), .int (x), .int (nI 4), .int (z)]) (d' := 13) (q := ("SinglesUp$Mind", zT5, 3)) mo_M_imagine lk_S_219 kc_81 rfl rfl rfl ⟨by decide, by decide⟩ rfl rfl (by decide) d_S_price_56 (Ss.of (show As l b 13 y_M_imagine KC RC _ (I) 0 [.ref 81, .ref 1, .int (nI 0), .int (x), .int (nI 4), .int (z)] [] from ?_))
          obtain ⟨w4, hw4, ew4, gw4⟩ := nI_of_range (x := z) (n := 41) (by omega) (by omega)
          subst ew4
          refine aw_aload_n rfl rfl d_M_imagine_0 ?_
          refine aw_getr fl_M_12 kc_81 (by decide) rfl rc_81_0 d_M_imagine_1 ?_
          refine aw_aload_n rfl rfl d_M_imagine_4 ?_
          refine as_callV (as := [.ref 1]) (d' := 12) (q := ("SinglesUp$Hill", zT2, 14)) mo_H_copyFrom lk_M_29 kc_82 rfl rfl rfl ⟨by decide, by decide⟩ rfl rfl (by decide) d_M_imagine_5 (Ss.of (show As l b 12 y_H_copyFrom KC RC _ (I) 0 [.ref 82, .ref 1, uu] [] from ?_))
          refine aw_iconst (v := nI 0) ci_0 d_H_copyFrom_0 ?_
          refine aw_istore_n (lv2 := [.ref 82, .ref 1, .int (nI 0)]) rfl (by decide) rfl d_H_copyFrom_1 ?_
          refine aw_iload_n rfl rfl d_H_copyFrom_2 ?_
          refine aw_aload_n rfl rfl d_H_copyFrom_3 ?_
          refine aw_getr fl_H_17 kc_82 (by decide) rfl rc_82_1 d_H_copyFrom_4 ?_
          refine aw_alen kc_84 (by decide) d_H_copyFrom_7 ?_
          refine aw_icmp_geI (tgt := 41) (0) (5) (by decide +kernel) (by decide +kernel) (by decide) d_H_copyFrom_8 (fun q => absurd q (by decide)) (fun _ => ?_)
          refine aw_iload_n rfl rfl d_H_copyFrom_11 ?_
          refine aw_aload_n rfl rfl d_H_copyFrom_12 ?_
          refine aw_getr fl_H_17 kc_1 (by decide) rfl rc_1_1 d_H_copyFrom_13 ?_
          refine aw_alen kc_3 (by decide) d_H_copyFrom_16 ?_
          refine aw_icmp_geI (tgt := 41) (0) (5) (by decide +kernel) (by decide +kernel) (by decide) d_H_copyFrom_17 (fun q => absurd q (by decide)) (fun _ => ?_)
          refine aw_aload_n rfl rfl d_H_copyFrom_20 ?_
          refine aw_getr fl_H_17 kc_82 (by decide) rfl rc_82_1 d_H_copyFrom_21 ?_
          refine aw_iload_n rfl rfl d_H_copyFrom_24 ?_
          refine aw_aald (j := 0) kc_84 (vp_in_nI (by decide) (by decide)) (nI_clamp (by decide)) rc_84_0 d_H_copyFrom_25 ?_
          refine aw_aload_n rfl rfl d_H_copyFrom_26 ?_
          refine aw_getr fl_H_17 kc_1 (by decide) rfl rc_1_1 d_H_copyFrom_27 ?_
          refine aw_iload_n rfl rfl d_H_copyFrom_30 ?_
          refine aw_aald (j := 0) kc_3 (vp_in_nI (by decide) (by decide)) (nI_clamp (by decide)) rc_3_0 d_H_copyFrom_31 ?_
          refine as_callV (as := [.ref 16]) (d' := 11) (q := ("SinglesUp$Law", zT3, 6)) mo_W_copyFrom lk_H_57 kc_97 rfl rfl rfl ⟨by decide, by decide⟩ rfl rfl (by decide) d_H_copyFrom_32 (Ss.of (show As l b 11 y_W_copyFrom KC RC _ (I) 0 [.ref 97, .ref 16] [] from ?_))
          refine aw_aload_n rfl rfl d_W_copyFrom_0 ?_
          refine aw_aload_n rfl rfl d_W_copyFrom_1 ?_
          refine aw_geti fl_W_22 kc_16 (by decide) rfl d_W_copyFrom_2 ?_
          refine aw_puti fl_W_22 kc_97 (by decide) rfl rfl rfl rfl d_W_copyFrom_5 ?_
          refine aw_aload_n rfl rfl d_W_copyFrom_8 ?_
          refine aw_aload_n rfl rfl d_W_copyFrom_9 ?_
          refine aw_geti fl_W_26 kc_16 (by decide) rfl d_W_copyFrom_10 ?_
          refine aw_top (x2 := nI 0) (Eq.trans (congrFun (upd2_ne (by decide)) (4)) (f9)) ?_
          refine aw_puti fl_W_26 kc_97 (by decide) rfl rfl rfl rfl d_W_copyFrom_13 ?_
          refine aw_aload_n rfl rfl d_W_copyFrom_16 ?_
          refine aw_getr fl_W_9 kc_16 (by decide) rfl rc_16_0 d_W_copyFrom_17 ?_
          refine aw_iconst (v := nI 0) ci_0 d_W_copyFrom_20 ?_
          refine aw_aload_n rfl rfl d_W_copyFrom_21 ?_
          refine aw_getr fl_W_9 kc_97 (by decide) rfl rc_97_0 d_W_copyFrom_22 ?_
          refine aw_iconst (v := nI 0) ci_0 d_W_copyFrom_25 ?_
          refine aw_sipush (v := nI 400) cs_400 d_W_copyFrom_26 ?_
          refine as_copy0 (n := 400) lka_W_29 ac_nat ac_sta ac_ini kc_17 kc_98 (by omega) (by omega) (by omega) (by decide) rfl d_W_copyFrom_29 (fun J5 e6 e7 e8 => ?_)
          refine aw_aload_n rfl rfl d_W_copyFrom_32 ?_
          refine aw_getr fl_W_13 kc_16 (by decide) rfl rc_16_2 d_W_copyFrom_33 ?_
          refine aw_iconst (v := nI 0) ci_0 d_W_copyFrom_36 ?_
          refine aw_aload_n rfl rfl d_W_copyFrom_37 ?_
          refine aw_getr fl_W_13 kc_97 (by decide) rfl rc_97_2 d_W_copyFrom_38 ?_
          refine aw_iconst (v := nI 0) ci_0 d_W_copyFrom_41 ?_
          refine aw_bipush (v := nI 17) cb_17 d_W_copyFrom_42 ?_
          refine as_copy0 (n := 17) lka_W_29 ac_nat ac_sta ac_ini kc_18 kc_99 (by omega) (by omega) (by omega) (by decide) rfl d_W_copyFrom_44 (fun J9 e10 e11 e12 => ?_)
          refine aw_aload_n rfl rfl d_W_copyFrom_47 ?_
          refine aw_getr fl_W_16 kc_16 (by decide) rfl rc_16_3 d_W_copyFrom_48 ?_
          refine aw_iconst (v := nI 0) ci_0 d_W_copyFrom_51 ?_
          refine aw_aload_n rfl rfl d_W_copyFrom_52 ?_
          refine aw_getr fl_W_16 kc_97 (by decide) rfl rc_97_3 d_W_copyFrom_53 ?_
          refine aw_iconst (v := nI 0) ci_0 d_W_copyFrom_56 ?_
          refine aw_bipush (v := nI 16) cb_16 d_W_copyFrom_57 ?_
          refine as_copy0 (n := 16) lka_W_29 ac_nat ac_sta ac_ini kc_19 kc_100 (by omega) (by omega) (by omega) (by decide) rfl d_W_copyFrom_59 (fun J13 e14 e15 e16 => ?_)
          refine as_retv rfl d_W_copyFrom_62 ?_
          refine (show As l b 12 y_H_copyFrom KC RC _ (J13) 35 [.ref 82, .ref 1, .int (nI 0)] [] from ?_)
          refine aw_iinc (v := nI 1) (lv2 := [.ref 82, .ref 1, .int (nI 1)]) rfl (by decide +kernel) (by decide) rfl d_H_copyFrom_35 ?_
          refine aw_goto (tgt := 2) (by decide) d_H_copyFrom_38 ?_
          refine aw_iload_n rfl rfl d_H_copyFrom_2 ?_
          refine aw_aload_n rfl rfl d_H_copyFrom_3 ?_
          refine aw_getr fl_H_17 kc_82 (by decide) rfl rc_82_1 d_H_copyFrom_4 ?_
          refine aw_alen kc_84 (by decide) d_H_copyFrom_7 ?_
          refine aw_icmp_geI (tgt := 41) (1) (5) (by decide +kernel) (by decide +kernel) (by decide) d_H_copyFrom_8 (fun q => absurd q (by decide)) (fun _ => ?_)
          refine aw_iload_n rfl rfl d_H_copyFrom_11 ?_
          refine aw_aload_n rfl rfl d_H_copyFrom_12 ?_
          refine aw_getr fl_H_17 kc_1 (by decide) rfl rc_1_1 d_H_copyFrom_13 ?_
          refine aw_alen kc_3 (by decide) d_H_copyFrom_16 ?_
          refine aw_icmp_geI (tgt := 41) (1) (5) (by decide +kernel) (by decide +kernel) (by decide) d_H_copyFrom_17 (fun q => absurd q (by decide)) (fun _ => ?_)
          refine aw_aload_n rfl rfl d_H_copyFrom_20 ?_
          refine aw_getr fl_H_17 kc_82 (by decide) rfl rc_82_1 d_H_copyFrom_21 ?_
          refine aw_iload_n rfl rfl d_H_copyFrom_24 ?_
          refine aw_aald (j := 1) kc_84 (vp_in_nI (by decide) (by decide)) (nI_clamp (by decide)) rc_84_1 d_H_copyFrom_25 ?_
          refine aw_aload_n rfl rfl d_H_copyFrom_26 ?_
          refine aw_getr fl_H_17 kc_1 (by decide) rfl rc_1_1 d_H_copyFrom_27 ?_
          refine aw_iload_n rfl rfl d_H_copyFrom_30 ?_
          refine aw_aald (j := 1) kc_3 (vp_in_nI (by decide) (by decide)) (nI_clamp (by decide)) rc_3_1 d_H_copyFrom_31 ?_
          refine as_callV (as := [.ref 21]) (d' := 11) (q := ("SinglesUp$Law", zT3, 6)) mo_W_copyFrom lk_H_57 kc_102 rfl rfl rfl ⟨by decide, by decide⟩ rfl rfl (by decide) d_H_copyFrom_32 (Ss.of (show As l b 11 y_W_copyFrom KC RC _ (J13) 0 [.ref 102, .ref 21] [] from ?_))
          refine aw_aload_n rfl rfl d_W_copyFrom_0 ?_
          refine aw_aload_n rfl rfl d_W_copyFrom_1 ?_
          refine aw_geti fl_W_22 kc_21 (by decide) rfl d_W_copyFrom_2 ?_
          refine aw_puti fl_W_22 kc_102 (by decide) rfl rfl rfl rfl d_W_copyFrom_5 ?_
          refine aw_aload_n rfl rfl d_W_copyFrom_8 ?_
          refine aw_aload_n rfl rfl d_W_copyFrom_9 ?_
          refine aw_geti fl_W_26 kc_21 (by decide) rfl d_W_copyFrom_10 ?_
          refine aw_top (x2 := nI 0) (Eq.trans (congrFun (upd2_ne (by decide)) (4)) (((congrFun (e14 21 (by decide)) (4)).trans (((congrFun (e10 21 (by decide)) (4)).trans (((congrFun (e6 21 (by decide)) (4)).trans (Eq.trans (congrFun (upd2_ne (by decide)) (4)) (Eq.trans (congrFun (upd2_ne (by decide)) (4)) (f10)))))))))) ?_
          refine aw_puti fl_W_26 kc_102 (by decide) rfl rfl rfl rfl d_W_copyFrom_13 ?_
          refine aw_aload_n rfl rfl d_W_copyFrom_16 ?_
          refine aw_getr fl_W_9 kc_21 (by decide) rfl rc_21_0 d_W_copyFrom_17 ?_
          refine aw_iconst (v := nI 0) ci_0 d_W_copyFrom_20 ?_
          refine aw_aload_n rfl rfl d_W_copyFrom_21 ?_
          refine aw_getr fl_W_9 kc_102 (by decide) rfl rc_102_0 d_W_copyFrom_22 ?_
          refine aw_iconst (v := nI 0) ci_0 d_W_copyFrom_25 ?_
          refine aw_sipush (v := nI 400) cs_400 d_W_copyFrom_26 ?_
          refine as_copy0 (n := 400) lka_W_29 ac_nat ac_sta ac_ini kc_22 kc_103 (by omega) (by omega) (by omega) (by decide) rfl d_W_copyFrom_29 (fun J17 e18 e19 e20 => ?_)
          refine aw_aload_n rfl rfl d_W_copyFrom_32 ?_
          refine aw_getr fl_W_13 kc_21 (by decide) rfl rc_21_2 d_W_copyFrom_33 ?_
          refine aw_iconst (v := nI 0) ci_0 d_W_copyFrom_36 ?_
          refine aw_aload_n rfl rfl d_W_copyFrom_37 ?_
          refine aw_getr fl_W_13 kc_102 (by decide) rfl rc_102_2 d_W_copyFrom_38 ?_
          refine aw_iconst (v := nI 0) ci_0 d_W_copyFrom_41 ?_
          refine aw_bipush (v := nI 17) cb_17 d_W_copyFrom_42 ?_
          refine as_copy0 (n := 17) lka_W_29 ac_nat ac_sta ac_ini kc_23 kc_104 (by omega) (by omega) (by omega) (by decide) rfl d_W_copyFrom_44 (fun J21 e22 e23 e24 => ?_)
          refine aw_aload_n rfl rfl d_W_copyFrom_47 ?_
          refine aw_getr fl_W_16 kc_21 (by decide) rfl rc_21_3 d_W_copyFrom_48 ?_
          refine aw_iconst (v := nI 0) ci_0 d_W_copyFrom_51 ?_
          refine aw_aload_n rfl rfl d_W_copyFrom_52 ?_
          refine aw_getr fl_W_16 kc_102 (by decide) rfl rc_102_3 d_W_copyFrom_53 ?_
          refine aw_iconst (v := nI 0) ci_0 d_W_copyFrom_56 ?_
          refine aw_bipush (v := nI 16) cb_16 d_W_copyFrom_57 ?_
          refine as_copy0 (n := 16) lka_W_29 ac_nat ac_sta ac_ini kc_24 kc_105 (by omega) (by omega) (by omega) (by decide) rfl d_W_copyFrom_59 (fun J25 e26 e27 e28 => ?_)
          refine as_retv rfl d_W_copyFrom_62 ?_
          refine (show As l b 12 y_H_copyFrom KC RC _ (J25) 35 [.ref 82, .ref 1, .int (nI 1)] [] from ?_)
          refine aw_iinc (v := nI 2) (lv2 := [.ref 82, .ref 1, .int (nI 2)]) rfl (by decide +kernel) (by decide) rfl d_H_copyFrom_35 ?_
          refine aw_goto (tgt := 2) (by decide) d_H_copyFrom_38 ?_
          refine aw_iload_n rfl rfl d_H_copyFrom_2 ?_
          refine aw_aload_n rfl rfl d_H_copyFrom_3 ?_
          refine aw_getr fl_H_17 kc_82 (by decide) rfl rc_82_1 d_H_copyFrom_4 ?_
          refine aw_alen kc_84 (by decide) d_H_copyFrom_7 ?_
          refine aw_icmp_geI (tgt := 41) (2) (5) (by decide +kernel) (by decide +kernel) (by decide) d_H_copyFrom_8 (fun q => absurd q (by decide)) (fun _ => ?_)
          refine aw_iload_n rfl rfl d_H_copyFrom_11 ?_
          refine aw_aload_n rfl rfl d_H_copyFrom_12 ?_
          refine aw_getr fl_H_17 kc_1 (by decide) rfl rc_1_1 d_H_copyFrom_13 ?_
          refine aw_alen kc_3 (by decide) d_H_copyFrom_16 ?_
          refine aw_icmp_geI (tgt := 41) (2) (5) (by decide +kernel) (by decide +kernel) (by decide) d_H_copyFrom_17 (fun q => absurd q (by decide)) (fun _ => ?_)
          refine aw_aload_n rfl rfl d_H_copyFrom_20 ?_
          refine aw_getr fl_H_17 kc_82 (by decide) rfl rc_82_1 d_H_copyFrom_21 ?_
          refine aw_iload_n rfl rfl d_H_copyFrom_24 ?_
          refine aw_aald (j := 2) kc_84 (vp_in_nI (by decide) (by decide)) (nI_clamp (by decide)) rc_84_2 d_H_copyFrom_25 ?_
          refine aw_aload_n rfl rfl d_H_copyFrom_26 ?_
          refine aw_getr fl_H_17 kc_1 (by decide) rfl rc_1_1 d_H_copyFrom_27 ?_
          refine aw_iload_n rfl rfl d_H_copyFrom_30 ?_
          refine aw_aald (j := 2) kc_3 (vp_in_nI (by decide) (by decide)) (nI_clamp (by decide)) rc_3_2 d_H_copyFrom_31 ?_
          refine as_callV (as := [.ref 26]) (d' := 11) (q := ("SinglesUp$Law", zT3, 6)) mo_W_copyFrom lk_H_57 kc_107 rfl rfl rfl ⟨by decide, by decide⟩ rfl rfl (by decide) d_H_copyFrom_32 (Ss.of (show As l b 11 y_W_copyFrom KC RC _ (J25) 0 [.ref 107, .ref 26] [] from ?_))
          refine aw_aload_n rfl rfl d_W_copyFrom_0 ?_
          refine aw_aload_n rfl rfl d_W_copyFrom_1 ?_
          refine aw_geti fl_W_22 kc_26 (by decide) rfl d_W_copyFrom_2 ?_
          refine aw_puti fl_W_22 kc_107 (by decide) rfl rfl rfl rfl d_W_copyFrom_5 ?_
          refine aw_aload_n rfl rfl d_W_copyFrom_8 ?_
          refine aw_aload_n rfl rfl d_W_copyFrom_9 ?_
          refine aw_geti fl_W_26 kc_26 (by decide) rfl d_W_copyFrom_10 ?_
          refine aw_top (x2 := nI 0) (Eq.trans (congrFun (upd2_ne (by decide)) (4)) (((congrFun (e26 26 (by decide)) (4)).trans (((congrFun (e22 26 (by decide)) (4)).trans (((congrFun (e18 26 (by decide)) (4)).trans (Eq.trans (congrFun (upd2_ne (by decide)) (4)) (Eq.trans (congrFun (upd2_ne (by decide)) (4)) (((congrFun (e14 26 (by decide)) (4)).trans (((congrFun (e10 26 (by decide)) (4)).trans (((congrFun (e6 26 (by decide)) (4)).trans (Eq.trans (congrFun (upd2_ne (by decide)) (4)) (Eq.trans (congrFun (upd2_ne (by decide)) (4)) (f11)))))))))))))))))) ?_
          refine aw_puti fl_W_26 kc_107 (by decide) rfl rfl rfl rfl d_W_copyFrom_13 ?_
          refine aw_aload_n rfl rfl d_W_copyFrom_16 ?_
          refine aw_getr fl_W_9 kc_26 (by decide) rfl rc_26_0 d_W_copyFrom_17 ?_
          refine aw_iconst (v := nI 0) ci_0 d_W_copyFrom_20 ?_
          refine aw_aload_n rfl rfl d_W_copyFrom_21 ?_
          refine aw_getr fl_W_9 kc_107 (by decide) rfl rc_107_0 d_W_copyFrom_22 ?_
          refine aw_iconst (v := nI 0) ci_0 d_W_copyFrom_25 ?_
          refine aw_sipush (v := nI 400) cs_400 d_W_copyFrom_26 ?_
          refine as_copy0 (n := 400) lka_W_29 ac_nat ac_sta ac_ini kc_27 kc_108 (by omega) (by omega) (by omega) (by decide) rfl d_W_copyFrom_29 (fun J29 e30 e31 e32 => ?_)
          refine aw_aload_n rfl rfl d_W_copyFrom_32 ?_
          refine aw_getr fl_W_13 kc_26 (by decide) rfl rc_26_2 d_W_copyFrom_33 ?_
          refine aw_iconst (v := nI 0) ci_0 d_W_copyFrom_36 ?_
          refine aw_aload_n rfl rfl d_W_copyFrom_37 ?_
          refine aw_getr fl_W_13 kc_107 (by decide) rfl rc_107_2 d_W_copyFrom_38 ?_
          refine aw_iconst (v := nI 0) ci_0 d_W_copyFrom_41 ?_
          refine aw_bipush (v := nI 17) cb_17 d_W_copyFrom_42 ?_
          refine as_copy0 (n := 17) lka_W_29 ac_nat ac_sta ac_ini kc_28 kc_109 (by omega) (by omega) (by omega) (by decide) rfl d_W_copyFrom_44 (fun J33 e34 e35 e36 => ?_)
          refine aw_aload_n rfl rfl d_W_copyFrom_47 ?_
          refine aw_getr fl_W_16 kc_26 (by decide) rfl rc_26_3 d_W_copyFrom_48 ?_
          refine aw_iconst (v := nI 0) ci_0 d_W_copyFrom_51 ?_
          refine aw_aload_n rfl rfl d_W_copyFrom_52 ?_
          refine aw_getr fl_W_16 kc_107 (by decide) rfl rc_107_3 d_W_copyFrom_53 ?_
          refine aw_iconst (v := nI 0) ci_0 d_W_copyFrom_56 ?_
          refine aw_bipush (v := nI 16) cb_16 d_W_copyFrom_57 ?_
          refine as_copy0 (n := 16) lka_W_29 ac_nat ac_sta ac_ini kc_29 kc_110 (by omega) (by omega) (by omega) (by decide) rfl d_W_copyFrom_59 (fun J37 e38 e39 e40 => ?_)
          refine as_retv rfl d_W_copyFrom_62 ?_
          refine (show As l b 12 y_H_copyFrom KC RC _ (J37) 35 [.ref 82, .ref 1, .int (nI 2)] [] from ?_)
          refine aw_iinc (v := nI 3) (lv2 := [.ref 82, .ref 1, .int (nI 3)]) rfl (by decide +kernel) (by decide) rfl d_H_copyFrom_35 ?_
          refine aw_goto (tgt := 2) (by decide) d_H_copyFrom_38 ?_
          refine aw_iload_n rfl rfl d_H_copyFrom_2 ?_
          refine aw_aload_n rfl rfl d_H_copyFrom_3 ?_
          refine aw_getr fl_H_17 kc_82 (by decide) rfl rc_82_1 d_H_copyFrom_4 ?_
          refine aw_alen kc_84 (by decide) d_H_copyFrom_7 ?_
          refine aw_icmp_geI (tgt := 41) (3) (5) (by decide +kernel) (by decide +kernel) (by decide) d_H_copyFrom_8 (fun q => absurd q (by decide)) (fun _ => ?_)
          refine aw_iload_n rfl rfl d_H_copyFrom_11 ?_
          refine aw_aload_n rfl rfl d_H_copyFrom_12 ?_
          refine aw_getr fl_H_17 kc_1 (by decide) rfl rc_1_1 d_H_copyFrom_13 ?_
          refine aw_alen kc_3 (by decide) d_H_copyFrom_16 ?_
          refine aw_icmp_geI (tgt := 41) (3) (5) (by decide +kernel) (by decide +kernel) (by decide) d_H_copyFrom_17 (fun q => absurd q (by decide)) (fun _ => ?_)
          refine aw_aload_n rfl rfl d_H_copyFrom_20 ?_
          refine aw_getr fl_H_17 kc_82 (by decide) rfl rc_82_1 d_H_copyFrom_21 ?_
          refine aw_iload_n rfl rfl d_H_copyFrom_24 ?_
          refine aw_aald (j := 3) kc_84 (vp_in_nI (by decide) (by decide)) (nI_clamp (by decide)) rc_84_3 d_H_copyFrom_25 ?_
          refine aw_aload_n rfl rfl d_H_copyFrom_26 ?_
          refine aw_getr fl_H_17 kc_1 (by decide) rfl rc_1_1 d_H_copyFrom_27 ?_
          refine aw_iload_n rfl rfl d_H_copyFrom_30 ?_
          refine aw_aald (j := 3) kc_3 (vp_in_nI (by decide) (by decide)) (nI_clamp (by decide)) rc_3_3 d_H_copyFrom_31 ?_
          refine as_callV (as := [.ref 31]) (d' := 11) (q := ("SinglesUp$Law", zT3, 6)) mo_W_copyFrom lk_H_57 kc_112 rfl rfl rfl ⟨by decide, by decide⟩ rfl rfl (by decide) d_H_copyFrom_32 (Ss.of (show As l b 11 y_W_copyFrom KC RC _ (J37) 0 [.ref 112, .ref 31] [] from ?_))
          refine aw_aload_n rfl rfl d_W_copyFrom_0 ?_
          refine aw_aload_n rfl rfl d_W_copyFrom_1 ?_
          refine aw_geti fl_W_22 kc_31 (by decide) rfl d_W_copyFrom_2 ?_
          refine aw_puti fl_W_22 kc_112 (by decide) rfl rfl rfl rfl d_W_copyFrom_5 ?_
          refine aw_aload_n rfl rfl d_W_copyFrom_8 ?_
          refine aw_aload_n rfl rfl d_W_copyFrom_9 ?_
          refine aw_geti fl_W_26 kc_31 (by decide) rfl d_W_copyFrom_10 ?_
          refine aw_top (x2 := nI 0) (Eq.trans (congrFun (upd2_ne (by decide)) (4)) (((congrFun (e38 31 (by decide)) (4)).trans (((congrFun (e34 31 (by decide)) (4)).trans (((congrFun (e30 31 (by decide)) (4)).trans (Eq.trans (congrFun (upd2_ne (by decide)) (4)) (Eq.trans (congrFun (upd2_ne (by decide)) (4)) (((congrFun (e26 31 (by decide)) (4)).trans (((congrFun (e22 31 (by decide)) (4)).trans (((congrFun (e18 31 (by decide)) (4)).trans (Eq.trans (congrFun (upd2_ne (by decide)) (4)) (Eq.trans (congrFun (upd2_ne (by decide)) (4)) (((congrFun (e14 31 (by decide)) (4)).trans (((congrFun (e10 31 (by decide)) (4)).trans (((congrFun (e6 31 (by decide)) (4)).trans (Eq.trans (congrFun (upd2_ne (by decide)) (4)) (Eq.trans (congrFun (upd2_ne (by decide)) (4)) (f12)))))))))))))))))))))))))) ?_
          refine aw_puti fl_W_26 kc_112 (by decide) rfl rfl rfl rfl d_W_copyFrom_13 ?_
          refine aw_aload_n rfl rfl d_W_copyFrom_16 ?_
          refine aw_getr fl_W_9 kc_31 (by decide) rfl rc_31_0 d_W_copyFrom_17 ?_
          refine aw_iconst (v := nI 0) ci_0 d_W_copyFrom_20 ?_
          refine aw_aload_n rfl rfl d_W_copyFrom_21 ?_
          refine aw_getr fl_W_9 kc_112 (by decide) rfl rc_112_0 d_W_copyFrom_22 ?_
          refine aw_iconst (v := nI 0) ci_0 d_W_copyFrom_25 ?_
          refine aw_sipush (v := nI 400) cs_400 d_W_copyFrom_26 ?_
          refine as_copy0 (n := 400) lka_W_29 ac_nat ac_sta ac_ini kc_32 kc_113 (by omega) (by omega) (by omega) (by decide) rfl d_W_copyFrom_29 (fun J41 e42 e43 e44 => ?_)
          refine aw_aload_n rfl rfl d_W_copyFrom_32 ?_
          refine aw_getr fl_W_13 kc_31 (by decide) rfl rc_31_2 d_W_copyFrom_33 ?_
          refine aw_iconst (v := nI 0) ci_0 d_W_copyFrom_36 ?_
          refine aw_aload_n rfl rfl d_W_copyFrom_37 ?_
          refine aw_getr fl_W_13 kc_112 (by decide) rfl rc_112_2 d_W_copyFrom_38 ?_
          refine aw_iconst (v := nI 0) ci_0 d_W_copyFrom_41 ?_
          refine aw_bipush (v := nI 17) cb_17 d_W_copyFrom_42 ?_
          refine as_copy0 (n := 17) lka_W_29 ac_nat ac_sta ac_ini kc_33 kc_114 (by omega) (by omega) (by omega) (by decide) rfl d_W_copyFrom_44 (fun J45 e46 e47 e48 => ?_)
          refine aw_aload_n rfl rfl d_W_copyFrom_47 ?_
          refine aw_getr fl_W_16 kc_31 (by decide) rfl rc_31_3 d_W_copyFrom_48 ?_
          refine aw_iconst (v := nI 0) ci_0 d_W_copyFrom_51 ?_
          refine aw_aload_n rfl rfl d_W_copyFrom_52 ?_
          refine aw_getr fl_W_16 kc_112 (by decide) rfl rc_112_3 d_W_copyFrom_53 ?_
          refine aw_iconst (v := nI 0) ci_0 d_W_copyFrom_56 ?_
          refine aw_bipush (v := nI 16) cb_16 d_W_copyFrom_57 ?_
          refine as_copy0 (n := 16) lka_W_29 ac_nat ac_sta ac_ini kc_34 kc_115 (by omega) (by omega) (by omega) (by decide) rfl d_W_copyFrom_59 (fun J49 e50 e51 e52 => ?_)
          refine as_retv rfl d_W_copyFrom_62 ?_
          refine (show As l b 12 y_H_copyFrom KC RC _ (J49) 35 [.ref 82, .ref 1, .int (nI 3)] [] from ?_)
          refine aw_iinc (v := nI 4) (lv2 := [.ref 82, .ref 1, .int (nI 4)]) rfl (by decide +kernel) (by decide) rfl d_H_copyFrom_35 ?_
          refine aw_goto (tgt := 2) (by decide) d_H_copyFrom_38 ?_
          refine aw_iload_n rfl rfl d_H_copyFrom_2 ?_
          refine aw_aload_n rfl rfl d_H_copyFrom_3 ?_
          refine aw_getr fl_H_17 kc_82 (by decide) rfl rc_82_1 d_H_copyFrom_4 ?_
          refine aw_alen kc_84 (by decide) d_H_copyFrom_7 ?_
          refine aw_icmp_geI (tgt := 41) (4) (5) (by decide +kernel) (by decide +kernel) (by decide) d_H_copyFrom_8 (fun q => absurd q (by decide)) (fun _ => ?_)
          refine aw_iload_n rfl rfl d_H_copyFrom_11 ?_
          refine aw_aload_n rfl rfl d_H_copyFrom_12 ?_
          refine aw_getr fl_H_17 kc_1 (by decide) rfl rc_1_1 d_H_copyFrom_13 ?_
          refine aw_alen kc_3 (by decide) d_H_copyFrom_16 ?_
          refine aw_icmp_geI (tgt := 41) (4) (5) (by decide +kernel) (by decide +kernel) (by decide) d_H_copyFrom_17 (fun q => absurd q (by decide)) (fun _ => ?_)
          refine aw_aload_n rfl rfl d_H_copyFrom_20 ?_
          refine aw_getr fl_H_17 kc_82 (by decide) rfl rc_82_1 d_H_copyFrom_21 ?_
          refine aw_iload_n rfl rfl d_H_copyFrom_24 ?_
          refine aw_aald (j := 4) kc_84 (vp_in_nI (by decide) (by decide)) (nI_clamp (by decide)) rc_84_4 d_H_copyFrom_25 ?_
          refine aw_aload_n rfl rfl d_H_copyFrom_26 ?_
          refine aw_getr fl_H_17 kc_1 (by decide) rfl rc_1_1 d_H_copyFrom_27 ?_
          refine aw_iload_n rfl rfl d_H_copyFrom_30 ?_
          refine aw_aald (j := 4) kc_3 (vp_in_nI (by decide) (by decide)) (nI_clamp (by decide)) rc_3_4 d_H_copyFrom_31 ?_
          refine as_callV (as := [.ref 36]) (d' := 11) (q := ("SinglesUp$Law", zT3, 6)) mo_W_copyFrom lk_H_57 kc_117 rfl rfl rfl ⟨by decide, by decide⟩ rfl rfl (by decide) d_H_copyFrom_32 (Ss.of (show As l b 11 y_W_copyFrom KC RC _ (J49) 0 [.ref 117, .ref 36] [] from ?_))
          refine aw_aload_n rfl rfl d_W_copyFrom_0 ?_
          refine aw_aload_n rfl rfl d_W_copyFrom_1 ?_
          refine aw_geti fl_W_22 kc_36 (by decide) rfl d_W_copyFrom_2 ?_
          refine aw_puti fl_W_22 kc_117 (by decide) rfl rfl rfl rfl d_W_copyFrom_5 ?_
          refine aw_aload_n rfl rfl d_W_copyFrom_8 ?_
          refine aw_aload_n rfl rfl d_W_copyFrom_9 ?_
          refine aw_geti fl_W_26 kc_36 (by decide) rfl d_W_copyFrom_10 ?_
          refine aw_top (x2 := nI 0) (Eq.trans (congrFun (upd2_ne (by decide)) (4)) (((congrFun (e50 36 (by decide)) (4)).trans (((congrFun (e46 36 (by decide)) (4)).trans (((congrFun (e42 36 (by decide)) (4)).trans (Eq.trans (congrFun (upd2_ne (by decide)) (4)) (Eq.trans (congrFun (upd2_ne (by decide)) (4)) (((congrFun (e38 36 (by decide)) (4)).trans (((congrFun (e34 36 (by decide)) (4)).trans (((congrFun (e30 36 (by decide)) (4)).trans (Eq.trans (congrFun (upd2_ne (by decide)) (4)) (Eq.trans (congrFun (upd2_ne (by decide)) (4)) (((congrFun (e26 36 (by decide)) (4)).trans (((congrFun (e22 36 (by decide)) (4)).trans (((congrFun (e18 36 (by decide)) (4)).trans (Eq.trans (congrFun (upd2_ne (by decide)) (4)) (Eq.trans (congrFun (upd2_ne (by decide)) (4)) (((congrFun (e14 36 (by decide)) (4)).trans (((congrFun (e10 36 (by decide)) (4)).trans (((congrFun (e6 36 (by decide)) (4)).trans (Eq.trans (congrFun (upd2_ne (by decide)) (4)) (Eq.trans (congrFun (upd2_ne (by decide)) (4)) (f13)))))))))))))))))))))))))))))))))) ?_
          refine aw_puti fl_W_26 kc_117 (by decide) rfl rfl rfl rfl d_W_copyFrom_13 ?_
          refine aw_aload_n rfl rfl d_W_copyFrom_16 ?_
          refine aw_getr fl_W_9 kc_36 (by decide) rfl rc_36_0 d_W_copyFrom_17 ?_
          refine aw_iconst (v := nI 0) ci_0 d_W_copyFrom_20 ?_
          refine aw_aload_n rfl rfl d_W_copyFrom_21 ?_
          refine aw_getr fl_W_9 kc_117 (by decide) rfl rc_117_0 d_W_copyFrom_22 ?_
          refine aw_iconst (v := nI 0) ci_0 d_W_copyFrom_25 ?_
          refine aw_sipush (v := nI 400) cs_400 d_W_copyFrom_26 ?_
          refine as_copy0 (n := 400) lka_W_29 ac_nat ac_sta ac_ini kc_37 kc_118 (by omega) (by omega) (by omega) (by decide) rfl d_W_copyFrom_29 (fun J53 e54 e55 e56 => ?_)
          refine aw_aload_n rfl rfl d_W_copyFrom_32 ?_
          refine aw_getr fl_W_13 kc_36 (by decide) rfl rc_36_2 d_W_copyFrom_33 ?_
          refine aw_iconst (v := nI 0) ci_0 d_W_copyFrom_36 ?_
          refine aw_aload_n rfl rfl d_W_copyFrom_37 ?_
          refine aw_getr fl_W_13 kc_117 (by decide) rfl rc_117_2 d_W_copyFrom_38 ?_
          refine aw_iconst (v := nI 0) ci_0 d_W_copyFrom_41 ?_
          refine aw_bipush (v := nI 17) cb_17 d_W_copyFrom_42 ?_
          refine as_copy0 (n := 17) lka_W_29 ac_nat ac_sta ac_ini kc_38 kc_119 (by omega) (by omega) (by omega) (by decide) rfl d_W_copyFrom_44 (fun J57 e58 e59 e60 => ?_)
          refine aw_aload_n rfl rfl d_W_copyFrom_47 ?_
          refine aw_getr fl_W_16 kc_36 (by decide) rfl rc_36_3 d_W_copyFrom_48 ?_
          refine aw_iconst (v := nI 0) ci_0 d_W_copyFrom_51 ?_
          refine aw_aload_n rfl rfl d_W_copyFrom_52 ?_
          refine aw_getr fl_W_16 kc_117 (by decide) rfl rc_117_3 d_W_copyFrom_53 ?_
          refine aw_iconst (v := nI 0) ci_0 d_W_copyFrom_56 ?_
          refine aw_bipush (v := nI 16) cb_16 d_W_copyFrom_57 ?_
          refine as_copy0 (n := 16) lka_W_29 ac_nat ac_sta ac_ini kc_39 kc_120 (by omega) (by omega) (by omega) (by decide) rfl d_W_copyFrom_59 (fun J61 e62 e63 e64 => ?_)
          refine as_retv rfl d_W_copyFrom_62 ?_
          refine (show As l b 12 y_H_copyFrom KC RC _ (J61) 35 [.ref 82, .ref 1, .int (nI 4)] [] from ?_)
          refine aw_iinc (v := nI 5) (lv2 := [.ref 82, .ref 1, .int (nI 5)]) rfl (by decide +kernel) (by decide) rfl d_H_copyFrom_35 ?_
          refine aw_goto (tgt := 2) (by decide) d_H_copyFrom_38 ?_
          refine aw_iload_n rfl rfl d_H_copyFrom_2 ?_
          refine aw_aload_n rfl rfl d_H_copyFrom_3 ?_
          refine aw_getr fl_H_17 kc_82 (by decide) rfl rc_82_1 d_H_copyFrom_4 ?_
          refine aw_alen kc_84 (by decide) d_H_copyFrom_7 ?_
          refine aw_icmp_geI (tgt := 41) (5) (5) (by decide +kernel) (by decide +kernel) (by decide) d_H_copyFrom_8 (fun _ => ?_) (fun q => absurd q (by decide))
          refine aw_aload_n rfl rfl d_H_copyFrom_41 ?_
          refine aw_getr fl_H_33 kc_82 (by decide) rfl rc_82_5 d_H_copyFrom_42 ?_
          refine aw_aload_n rfl rfl d_H_copyFrom_45 ?_
          refine aw_getr fl_H_33 kc_1 (by decide) rfl rc_1_5 d_H_copyFrom_46 ?_
          refine as_callV (as := [.ref 7]) (d' := 11) (q := ("SinglesUp$Lines", zT4, 3)) mo_L_copyFrom lk_H_61 kc_88 rfl rfl rfl ⟨by decide, by decide⟩ rfl rfl (by decide) d_H_copyFrom_49 (Ss.of (show As l b 11 y_L_copyFrom KC RC _ (J61) 0 [.ref 88, .ref 7] [] from ?_))
          refine aw_aload_n rfl rfl d_L_copyFrom_0 ?_
          refine aw_getr fl_L_9 kc_7 (by decide) rfl rc_7_0 d_L_copyFrom_1 ?_
          refine aw_iconst (v := nI 0) ci_0 d_L_copyFrom_4 ?_
          refine aw_aload_n rfl rfl d_L_copyFrom_5 ?_
          refine aw_getr fl_L_9 kc_88 (by decide) rfl rc_88_0 d_L_copyFrom_6 ?_
          refine aw_iconst (v := nI 0) ci_0 d_L_copyFrom_9 ?_
          refine aw_aload_n rfl rfl d_L_copyFrom_10 ?_
          refine aw_getr fl_L_9 kc_88 (by decide) rfl rc_88_0 d_L_copyFrom_11 ?_
          refine aw_alen kc_89 (by decide) d_L_copyFrom_14 ?_
          refine as_copy0 (n := 1440) lka_L_27 ac_nat ac_sta ac_ini kc_8 kc_89 (by omega) (by omega) (by omega) (by decide) rfl d_L_copyFrom_15 (fun J65 e66 e67 e68 => ?_)
          refine aw_aload_n rfl rfl d_L_copyFrom_18 ?_
          refine aw_getr fl_L_15 kc_7 (by decide) rfl rc_7_1 d_L_copyFrom_19 ?_
          refine aw_iconst (v := nI 0) ci_0 d_L_copyFrom_22 ?_
          refine aw_aload_n rfl rfl d_L_copyFrom_23 ?_
          refine aw_getr fl_L_15 kc_88 (by decide) rfl rc_88_1 d_L_copyFrom_24 ?_
          refine aw_iconst (v := nI 0) ci_0 d_L_copyFrom_27 ?_
          refine aw_bipush (v := nI 6) cb_6 d_L_copyFrom_28 ?_
          refine as_copy0 (n := 6) lka_L_27 ac_nat ac_sta ac_ini kc_9 kc_90 (by omega) (by omega) (by omega) (by decide) rfl d_L_copyFrom_30 (fun J69 e70 e71 e72 => ?_)
          refine aw_aload_n rfl rfl d_L_copyFrom_33 ?_
          refine aw_getr fl_L_18 kc_7 (by decide) rfl rc_7_2 d_L_copyFrom_34 ?_
          refine aw_iconst (v := nI 0) ci_0 d_L_copyFrom_37 ?_
          refine aw_aload_n rfl rfl d_L_copyFrom_38 ?_
          refine aw_getr fl_L_18 kc_88 (by decide) rfl rc_88_2 d_L_copyFrom_39 ?_
          refine aw_iconst (v := nI 0) ci_0 d_L_copyFrom_42 ?_
          refine aw_bipush (v := nI 6) cb_6 d_L_copyFrom_43 ?_
          refine as_copy0 (n := 6) lka_L_27 ac_nat ac_sta ac_ini kc_10 kc_91 (by omega) (by omega) (by omega) (by decide) rfl d_L_copyFrom_45 (fun J73 e74 e75 e76 => ?_)
          refine as_retv rfl d_L_copyFrom_48 ?_
          refine (show As l b 12 y_H_copyFrom KC RC _ (J73) 52 [.ref 82, .ref 1, .int (nI 5)] [] from ?_)
          refine aw_aload_n rfl rfl d_H_copyFrom_52 ?_
          refine aw_getr fl_H_9 kc_1 (by decide) rfl rc_1_0 d_H_copyFrom_53 ?_
          refine aw_iconst (v := nI 0) ci_0 d_H_copyFrom_56 ?_
          refine aw_aload_n rfl rfl d_H_copyFrom_57 ?_
          refine aw_getr fl_H_9 kc_82 (by decide) rfl rc_82_0 d_H_copyFrom_58 ?_
          refine aw_iconst (v := nI 0) ci_0 d_H_copyFrom_61 ?_
          refine aw_aload_n rfl rfl d_H_copyFrom_62 ?_
          refine aw_getr fl_H_9 kc_82 (by decide) rfl rc_82_0 d_H_copyFrom_63 ?_
          refine aw_alen kc_83 (by decide) d_H_copyFrom_66 ?_
          refine as_copy0 (n := 6) lka_H_64 ac_nat ac_sta ac_ini kc_2 kc_83 (by omega) (by omega) (by omega) (by decide) rfl d_H_copyFrom_67 (fun J77 e78 e79 e80 => ?_)
          refine aw_aload_n rfl rfl d_H_copyFrom_70 ?_
          refine aw_getr fl_H_21 kc_1 (by decide) rfl rc_1_2 d_H_copyFrom_71 ?_
          refine aw_iconst (v := nI 0) ci_0 d_H_copyFrom_74 ?_
          refine aw_aload_n rfl rfl d_H_copyFrom_75 ?_
          refine aw_getr fl_H_21 kc_82 (by decide) rfl rc_82_2 d_H_copyFrom_76 ?_
          refine aw_iconst (v := nI 0) ci_0 d_H_copyFrom_79 ?_
          refine aw_aload_n rfl rfl d_H_copyFrom_80 ?_
          refine aw_getr fl_H_21 kc_82 (by decide) rfl rc_82_2 d_H_copyFrom_81 ?_
          refine aw_alen kc_85 (by decide) d_H_copyFrom_84 ?_
          refine as_copy0 (n := 9) lka_H_64 ac_nat ac_sta ac_ini kc_4 kc_85 (by omega) (by omega) (by omega) (by decide) rfl d_H_copyFrom_85 (fun J81 e82 e83 e84 => ?_)
          refine aw_aload_n rfl rfl d_H_copyFrom_88 ?_
          refine aw_getr fl_H_24 kc_1 (by decide) rfl rc_1_3 d_H_copyFrom_89 ?_
          refine aw_iconst (v := nI 0) ci_0 d_H_copyFrom_92 ?_
          refine aw_aload_n rfl rfl d_H_copyFrom_93 ?_
          refine aw_getr fl_H_24 kc_82 (by decide) rfl rc_82_3 d_H_copyFrom_94 ?_
          refine aw_iconst (v := nI 0) ci_0 d_H_copyFrom_97 ?_
          refine aw_aload_n rfl rfl d_H_copyFrom_98 ?_
          refine aw_getr fl_H_24 kc_82 (by decide) rfl rc_82_3 d_H_copyFrom_99 ?_
          refine aw_alen kc_86 (by decide) d_H_copyFrom_102 ?_
          refine as_copy0 (n := 32) lka_H_64 ac_nat ac_sta ac_ini kc_5 kc_86 (by omega) (by omega) (by omega) (by decide) rfl d_H_copyFrom_103 (fun J85 e86 e87 e88 => ?_)
          refine aw_aload_n rfl rfl d_H_copyFrom_106 ?_
          refine aw_getr fl_H_27 kc_1 (by decide) rfl rc_1_4 d_H_copyFrom_107 ?_
          refine aw_iconst (v := nI 0) ci_0 d_H_copyFrom_110 ?_
          refine aw_aload_n rfl rfl d_H_copyFrom_111 ?_
          refine aw_getr fl_H_27 kc_82 (by decide) rfl rc_82_4 d_H_copyFrom_112 ?_
          refine aw_iconst (v := nI 0) ci_0 d_H_copyFrom_115 ?_
          refine aw_aload_n rfl rfl d_H_copyFrom_116 ?_
          refine aw_getr fl_H_27 kc_82 (by decide) rfl rc_82_4 d_H_copyFrom_117 ?_
          refine aw_alen kc_87 (by decide) d_H_copyFrom_120 ?_
          refine as_copy0 (n := 9) lka_H_64 ac_nat ac_sta ac_ini kc_6 kc_87 (by omega) (by omega) (by omega) (by decide) rfl d_H_copyFrom_121 (fun J89 e90 e91 e92 => ?_)
          refine aw_aload_n rfl rfl d_H_copyFrom_124 ?_
          refine aw_getr fl_H_37 kc_1 (by decide) rfl rc_1_8 d_H_copyFrom_125 ?_
          refine aw_iconst (v := nI 0) ci_0 d_H_copyFrom_128 ?_
          refine aw_aload_n rfl rfl d_H_copyFrom_129 ?_
          refine aw_getr fl_H_37 kc_82 (by decide) rfl rc_82_8 d_H_copyFrom_130 ?_
          refine aw_iconst (v := nI 0) ci_0 d_H_copyFrom_133 ?_
          refine aw_aload_n rfl rfl d_H_copyFrom_134 ?_
          refine aw_getr fl_H_37 kc_82 (by decide) rfl rc_82_8 d_H_copyFrom_135 ?_
          refine aw_alen kc_92 (by decide) d_H_copyFrom_138 ?_
          refine as_copy0 (n := 40) lka_H_64 ac_nat ac_sta ac_ini kc_11 kc_92 (by omega) (by omega) (by omega) (by decide) rfl d_H_copyFrom_139 (fun J93 e94 e95 e96 => ?_)
          refine aw_aload_n rfl rfl d_H_copyFrom_142 ?_
          refine aw_getr fl_H_40 kc_1 (by decide) rfl rc_1_9 d_H_copyFrom_143 ?_
          refine aw_iconst (v := nI 0) ci_0 d_H_copyFrom_146 ?_
          refine aw_aload_n rfl rfl d_H_copyFrom_147 ?_
          refine aw_getr fl_H_40 kc_82 (by decide) rfl rc_82_9 d_H_copyFrom_148 ?_
          refine aw_iconst (v := nI 0) ci_0 d_H_copyFrom_151 ?_
          refine aw_aload_n rfl rfl d_H_copyFrom_152 ?_
          refine aw_getr fl_H_40 kc_82 (by decide) rfl rc_82_9 d_H_copyFrom_153 ?_
          refine aw_alen kc_93 (by decide) d_H_copyFrom_156 ?_
          refine as_copy0 (n := 30) lka_H_64 ac_nat ac_sta ac_ini kc_12 kc_93 (by omega) (by omega) (by omega) (by decide) rfl d_H_copyFrom_157 (fun J97 e98 e99 e100 => ?_)
          refine aw_aload_n rfl rfl d_H_copyFrom_160 ?_
          refine aw_getr fl_H_43 kc_1 (by decide) rfl rc_1_10 d_H_copyFrom_161 ?_
          refine aw_iconst (v := nI 0) ci_0 d_H_copyFrom_164 ?_
          refine aw_aload_n rfl rfl d_H_copyFrom_165 ?_
          refine aw_getr fl_H_43 kc_82 (by decide) rfl rc_82_10 d_H_copyFrom_166 ?_
          refine aw_iconst (v := nI 0) ci_0 d_H_copyFrom_169 ?_
          refine aw_aload_n rfl rfl d_H_copyFrom_170 ?_
          refine aw_getr fl_H_43 kc_82 (by decide) rfl rc_82_10 d_H_copyFrom_171 ?_
          refine aw_alen kc_94 (by decide) d_H_copyFrom_174 ?_
          refine as_copy0 (n := 180) lka_H_64 ac_nat ac_sta ac_ini kc_13 kc_94 (by omega) (by omega) (by omega) (by decide) rfl d_H_copyFrom_175 (fun J101 e102 e103 e104 => ?_)
          refine aw_aload_n rfl rfl d_H_copyFrom_178 ?_
          refine aw_aload_n rfl rfl d_H_copyFrom_179 ?_
          refine aw_geti fl_H_70 kc_1 (by decide) rfl d_H_copyFrom_180 ?_
          refine aw_top (x2 := nI 0) (((congrFun (e102 1 (by decide)) (6)).trans (((congrFun (e98 1 (by decide)) (6)).trans (((congrFun (e94 1 (by decide)) (6)).trans (((congrFun (e90 1 (by decide)) (6)).trans (((congrFun (e86 1 (by decide)) (6)).trans (((congrFun (e82 1 (by decide)) (6)).trans (((congrFun (e78 1 (by decide)) (6)).trans (((congrFun (e74 1 (by decide)) (6)).trans (((congrFun (e70 1 (by decide)) (6)).trans (((congrFun (e66 1 (by decide)) (6)).trans (((congrFun (e62 1 (by decide)) (6)).trans (((congrFun (e58 1 (by decide)) (6)).trans (((congrFun (e54 1 (by decide)) (6)).trans (Eq.trans (congrFun (upd2_ne (by decide)) (6)) (Eq.trans (congrFun (upd2_ne (by decide)) (6)) (((congrFun (e50 1 (by decide)) (6)).trans (((congrFun (e46 1 (by decide)) (6)).trans (((congrFun (e42 1 (by decide)) (6)).trans (Eq.trans (congrFun (upd2_ne (by decide)) (6)) (Eq.trans (congrFun (upd2_ne (by decide)) (6)) (((congrFun (e38 1 (by decide)) (6)).trans (((congrFun (e34 1 (by decide)) (6)).trans (((congrFun (e30 1 (by decide)) (6)).trans (Eq.trans (congrFun (upd2_ne (by decide)) (6)) (Eq.trans (congrFun (upd2_ne (by decide)) (6)) (((congrFun (e26 1 (by decide)) (6)).trans (((congrFun (e22 1 (by decide)) (6)).trans (((congrFun (e18 1 (by decide)) (6)).trans (Eq.trans (congrFun (upd2_ne (by decide)) (6)) (Eq.trans (congrFun (upd2_ne (by decide)) (6)) (((congrFun (e14 1 (by decide)) (6)).trans (((congrFun (e10 1 (by decide)) (6)).trans (((congrFun (e6 1 (by decide)) (6)).trans (Eq.trans (congrFun (upd2_ne (by decide)) (6)) (Eq.trans (congrFun (upd2_ne (by decide)) (6)) (r6))))))))))))))))))))))))))))))))))))))))))))))))))))))))))))) ?_
          refine aw_puti fl_H_70 kc_82 (by decide) rfl rfl rfl rfl d_H_copyFrom_183 ?_
          refine aw_aload_n rfl rfl d_H_copyFrom_186 ?_
          refine aw_aload_n rfl rfl d_H_copyFrom_187 ?_
          refine aw_geti fl_H_73 kc_1 (by decide) rfl d_H_copyFrom_188 ?_
          refine aw_top (x2 := nI 0) (Eq.trans (congrFun (upd2_ne (by decide)) (7)) (((congrFun (e102 1 (by decide)) (7)).trans (((congrFun (e98 1 (by decide)) (7)).trans (((congrFun (e94 1 (by decide)) (7)).trans (((congrFun (e90 1 (by decide)) (7)).trans (((congrFun (e86 1 (by decide)) (7)).trans (((congrFun (e82 1 (by decide)) (7)).trans (((congrFun (e78 1 (by decide)) (7)).trans (((congrFun (e74 1 (by decide)) (7)).trans (((congrFun (e70 1 (by decide)) (7)).trans (((congrFun (e66 1 (by decide)) (7)).trans (((congrFun (e62 1 (by decide)) (7)).trans (((congrFun (e58 1 (by decide)) (7)).trans (((congrFun (e54 1 (by decide)) (7)).trans (Eq.trans (congrFun (upd2_ne (by decide)) (7)) (Eq.trans (congrFun (upd2_ne (by decide)) (7)) (((congrFun (e50 1 (by decide)) (7)).trans (((congrFun (e46 1 (by decide)) (7)).trans (((congrFun (e42 1 (by decide)) (7)).trans (Eq.trans (congrFun (upd2_ne (by decide)) (7)) (Eq.trans (congrFun (upd2_ne (by decide)) (7)) (((congrFun (e38 1 (by decide)) (7)).trans (((congrFun (e34 1 (by decide)) (7)).trans (((congrFun (e30 1 (by decide)) (7)).trans (Eq.trans (congrFun (upd2_ne (by decide)) (7)) (Eq.trans (congrFun (upd2_ne (by decide)) (7)) (((congrFun (e26 1 (by decide)) (7)).trans (((congrFun (e22 1 (by decide)) (7)).trans (((congrFun (e18 1 (by decide)) (7)).trans (Eq.trans (congrFun (upd2_ne (by decide)) (7)) (Eq.trans (congrFun (upd2_ne (by decide)) (7)) (((congrFun (e14 1 (by decide)) (7)).trans (((congrFun (e10 1 (by decide)) (7)).trans (((congrFun (e6 1 (by decide)) (7)).trans (Eq.trans (congrFun (upd2_ne (by decide)) (7)) (Eq.trans (congrFun (upd2_ne (by decide)) (7)) (r7)))))))))))))))))))))))))))))))))))))))))))))))))))))))))))))) ?_
          refine aw_puti fl_H_73 kc_82 (by decide) rfl rfl rfl rfl d_H_copyFrom_191 ?_
          refine aw_aload_n rfl rfl d_H_copyFrom_194 ?_
          refine aw_aload_n rfl rfl d_H_copyFrom_195 ?_
          refine aw_geti fl_H_46 kc_1 (by decide) rfl d_H_copyFrom_196 ?_
          refine aw_top (x2 := (-1 : Int32)) (Eq.trans (congrFun (upd2_ne (by decide)) (11)) (Eq.trans (congrFun (upd2_ne (by decide)) (11)) (((congrFun (e102 1 (by decide)) (11)).trans (((congrFun (e98 1 (by decide)) (11)).trans (((congrFun (e94 1 (by decide)) (11)).trans (((congrFun (e90 1 (by decide)) (11)).trans (((congrFun (e86 1 (by decide)) (11)).trans (((congrFun (e82 1 (by decide)) (11)).trans (((congrFun (e78 1 (by decide)) (11)).trans (((congrFun (e74 1 (by decide)) (11)).trans (((congrFun (e70 1 (by decide)) (11)).trans (((congrFun (e66 1 (by decide)) (11)).trans (((congrFun (e62 1 (by decide)) (11)).trans (((congrFun (e58 1 (by decide)) (11)).trans (((congrFun (e54 1 (by decide)) (11)).trans (Eq.trans (congrFun (upd2_ne (by decide)) (11)) (Eq.trans (congrFun (upd2_ne (by decide)) (11)) (((congrFun (e50 1 (by decide)) (11)).trans (((congrFun (e46 1 (by decide)) (11)).trans (((congrFun (e42 1 (by decide)) (11)).trans (Eq.trans (congrFun (upd2_ne (by decide)) (11)) (Eq.trans (congrFun (upd2_ne (by decide)) (11)) (((congrFun (e38 1 (by decide)) (11)).trans (((congrFun (e34 1 (by decide)) (11)).trans (((congrFun (e30 1 (by decide)) (11)).trans (Eq.trans (congrFun (upd2_ne (by decide)) (11)) (Eq.trans (congrFun (upd2_ne (by decide)) (11)) (((congrFun (e26 1 (by decide)) (11)).trans (((congrFun (e22 1 (by decide)) (11)).trans (((congrFun (e18 1 (by decide)) (11)).trans (Eq.trans (congrFun (upd2_ne (by decide)) (11)) (Eq.trans (congrFun (upd2_ne (by decide)) (11)) (((congrFun (e14 1 (by decide)) (11)).trans (((congrFun (e10 1 (by decide)) (11)).trans (((congrFun (e6 1 (by decide)) (11)).trans (Eq.trans (congrFun (upd2_ne (by decide)) (11)) (Eq.trans (congrFun (upd2_ne (by decide)) (11)) (r11))))))))))))))))))))))))))))))))))))))))))))))))))))))))))))))) ?_
          refine aw_puti fl_H_46 kc_82 (by decide) rfl rfl rfl rfl d_H_copyFrom_199 ?_
          refine as_retv rfl d_H_copyFrom_202 ?_
          refine (show As l b 13 y_M_imagine KC RC _ (upd2 (upd2 (upd2 J101 82 6 (nI 0)) 82 7 (nI 0)) 82 11 ((-1 : Int32))) 8 [.ref 81, .ref 1, .int (nI 0), .int (x), .int (nI 4), .int (nI (w4))] [] from ?_)
          refine aw_aload_n rfl rfl d_M_imagine_8 ?_
          refine aw_getr fl_M_12 kc_81 (by decide) rfl rc_81_0 d_M_imagine_9 ?_
          refine aw_getr fl_M_33 kc_82 (by decide) rfl rc_82_0 d_M_imagine_12 ?_
          refine aw_iconst (v := nI 5) ci_5 d_M_imagine_15 ?_
          refine aw_iload_n rfl rfl d_M_imagine_16 ?_
          refine aw_iast (j := 5) kc_83 (vp_in_nI (by decide) (by decide)) (nI_clamp (by decide)) d_M_imagine_17 ?_
          refine aw_aload_n rfl rfl d_M_imagine_18 ?_
          refine aw_getr fl_M_12 kc_81 (by decide) rfl rc_81_0 d_M_imagine_19 ?_
          refine aw_getr fl_M_33 kc_82 (by decide) rfl rc_82_0 d_M_imagine_22 ?_
          refine aw_iconst (v := nI 4) ci_4 d_M_imagine_25 ?_
          refine aw_iload_n rfl rfl d_M_imagine_26 ?_
          refine aw_iast (j := 4) kc_83 (vp_in_nI (by decide) (by decide)) (nI_clamp (by decide)) d_M_imagine_27 ?_
          refine aw_aload_n rfl rfl d_M_imagine_28 ?_
          refine aw_getr fl_M_12 kc_81 (by decide) rfl rc_81_0 d_M_imagine_29 ?_
          refine aw_getr fl_M_33 kc_82 (by decide) rfl rc_82_0 d_M_imagine_32 ?_
          refine aw_iconst (v := nI 0) ci_0 d_M_imagine_35 ?_
          refine aw_iload rfl d_M_imagine_36 ?_
          refine aw_iast (j := 0) kc_83 (vp_in_nI (by decide) (by decide)) (nI_clamp (by decide)) d_M_imagine_38 ?_
          refine aw_aload_n rfl rfl d_M_imagine_39 ?_
          refine aw_getr fl_M_21 kc_81 (by decide) rfl rc_81_1 d_M_imagine_40 ?_
          refine aw_aload_n rfl rfl d_M_imagine_43 ?_
          refine aw_getr fl_M_12 kc_81 (by decide) rfl rc_81_0 d_M_imagine_44 ?_
          refine aw_iload rfl d_M_imagine_47 ?_
          refine as_callV (as := [.ref 82, .int (nI (w4))]) (d' := 6) (q := ("SinglesUp$Chair", zT0, 12)) mo_C_turns lk_M_36 kc_122 rfl rfl rfl ⟨by decide, by decide⟩ rfl rfl (by decide) d_M_imagine_49 (sp_turns_122 (I := upd2 (upd2 (upd2 (upd2 (upd2 (upd2 J101 82 6 (nI 0)) 82 7 (nI 0)) 82 11 ((-1 : Int32))) 83 (5) (nI 0)) 83 (4) (x)) 83 (0) (nI 4)) (s := 4) (ru := 0) (e := 0) (k := 0) (n0 := w4) (show FH 82 (upd2 (upd2 (upd2 (upd2 (upd2 (upd2 J101 82 6 (nI 0)) 82 7 (nI 0)) 82 11 ((-1 : Int32))) 83 (5) (nI 0)) 83 (4) (x)) 83 (0) (nI 4)) (4) (0) (0) (0) from ⟨fun j hj => (Eq.trans (congrFun (upd2_ne (by decide)) (j)) (Eq.trans (congrFun (upd2_ne (by decide)) (j)) (Eq.trans (congrFun (upd2_ne (by decide)) (j)) (Eq.trans (congrFun (upd2_ne (by decide)) (j)) (Eq.trans (congrFun (upd2_ne (by decide)) (j)) (Eq.trans (congrFun (upd2_ne (by decide)) (j)) (((congrFun (e102 86 (by decide)) (j)).trans (((congrFun (e98 86 (by decide)) (j)).trans (((congrFun (e94 86 (by decide)) (j)).trans (((congrFun (e90 86 (by decide)) (j)).trans (((e87 (j) (by omega)).trans (((congrFun (e82 5 (by decide)) (j)).trans (((congrFun (e78 5 (by decide)) (j)).trans (((congrFun (e74 5 (by decide)) (j)).trans (((congrFun (e70 5 (by decide)) (j)).trans (((congrFun (e66 5 (by decide)) (j)).trans (((congrFun (e62 5 (by decide)) (j)).trans (((congrFun (e58 5 (by decide)) (j)).trans (((congrFun (e54 5 (by decide)) (j)).trans (Eq.trans (congrFun (upd2_ne (by decide)) (j)) (Eq.trans (congrFun (upd2_ne (by decide)) (j)) (((congrFun (e50 5 (by decide)) (j)).trans (((congrFun (e46 5 (by decide)) (j)).trans (((congrFun (e42 5 (by decide)) (j)).trans (Eq.trans (congrFun (upd2_ne (by decide)) (j)) (Eq.trans (congrFun (upd2_ne (by decide)) (j)) (((congrFun (e38 5 (by decide)) (j)).trans (((congrFun (e34 5 (by decide)) (j)).trans (((congrFun (e30 5 (by decide)) (j)).trans (Eq.trans (congrFun (upd2_ne (by decide)) (j)) (Eq.trans (congrFun (upd2_ne (by decide)) (j)) (((congrFun (e26 5 (by decide)) (j)).trans (((congrFun (e22 5 (by decide)) (j)).trans (((congrFun (e18 5 (by decide)) (j)).trans (Eq.trans (congrFun (upd2_ne (by decide)) (j)) (Eq.trans (congrFun (upd2_ne (by decide)) (j)) (((congrFun (e14 5 (by decide)) (j)).trans (((congrFun (e10 5 (by decide)) (j)).trans (((congrFun (e6 5 (by decide)) (j)).trans (Eq.trans (congrFun (upd2_ne (by decide)) (j)) (Eq.trans (congrFun (upd2_ne (by decide)) (j)) (f0 j (by omega)))))))))))))))))))))))))))))))))))))))))))))))))))))))))))))))))))), fun j hj => (Eq.trans (congrFun (upd2_ne (by decide)) (j)) (Eq.trans (congrFun (upd2_ne (by decide)) (j)) (Eq.trans (congrFun (upd2_ne (by decide)) (j)) (Eq.trans (congrFun (upd2_ne (by decide)) (j)) (Eq.trans (congrFun (upd2_ne (by decide)) (j)) (Eq.trans (congrFun (upd2_ne (by decide)) (j)) (((congrFun (e102 90 (by decide)) (j)).trans (((congrFun (e98 90 (by decide)) (j)).trans (((congrFun (e94 90 (by decide)) (j)).trans (((congrFun (e90 90 (by decide)) (j)).trans (((congrFun (e86 90 (by decide)) (j)).trans (((congrFun (e82 90 (by decide)) (j)).trans (((congrFun (e78 90 (by decide)) (j)).trans (((congrFun (e74 90 (by decide)) (j)).trans (((e71 (j) (by omega)).trans (((congrFun (e66 9 (by decide)) (j)).trans (((congrFun (e62 9 (by decide)) (j)).trans (((congrFun (e58 9 (by decide)) (j)).trans (((congrFun (e54 9 (by decide)) (j)).trans (Eq.trans (congrFun (upd2_ne (by decide)) (j)) (Eq.trans (congrFun (upd2_ne (by decide)) (j)) (((congrFun (e50 9 (by decide)) (j)).trans (((congrFun (e46 9 (by decide)) (j)).trans (((congrFun (e42 9 (by decide)) (j)).trans (Eq.trans (congrFun (upd2_ne (by decide)) (j)) (Eq.trans (congrFun (upd2_ne (by decide)) (j)) (((congrFun (e38 9 (by decide)) (j)).trans (((congrFun (e34 9 (by decide)) (j)).trans (((congrFun (e30 9 (by decide)) (j)).trans (Eq.trans (congrFun (upd2_ne (by decide)) (j)) (Eq.trans (congrFun (upd2_ne (by decide)) (j)) (((congrFun (e26 9 (by decide)) (j)).trans (((congrFun (e22 9 (by decide)) (j)).trans (((congrFun (e18 9 (by decide)) (j)).trans (Eq.trans (congrFun (upd2_ne (by decide)) (j)) (Eq.trans (congrFun (upd2_ne (by decide)) (j)) (((congrFun (e14 9 (by decide)) (j)).trans (((congrFun (e10 9 (by decide)) (j)).trans (((congrFun (e6 9 (by decide)) (j)).trans (Eq.trans (congrFun (upd2_ne (by decide)) (j)) (Eq.trans (congrFun (upd2_ne (by decide)) (j)) (f1 (j) (by omega)))))))))))))))))))))))))))))))))))))))))))))))))))))))))))))))))))), fun j hj => (Eq.trans (congrFun (upd2_ne (by decide)) (j)) (Eq.trans (congrFun (upd2_ne (by decide)) (j)) (Eq.trans (congrFun (upd2_ne (by decide)) (j)) (Eq.trans (congrFun (upd2_ne (by decide)) (j)) (Eq.trans (congrFun (upd2_ne (by decide)) (j)) (Eq.trans (congrFun (upd2_ne (by decide)) (j)) (((congrFun (e102 91 (by decide)) (j)).trans (((congrFun (e98 91 (by decide)) (j)).trans (((congrFun (e94 91 (by decide)) (j)).trans (((congrFun (e90 91 (by decide)) (j)).trans (((congrFun (e86 91 (by decide)) (j)).trans (((congrFun (e82 91 (by decide)) (j)).trans (((congrFun (e78 91 (by decide)) (j)).trans (((e75 (j) (by omega)).trans (((congrFun (e70 10 (by decide)) (j)).trans (((congrFun (e66 10 (by decide)) (j)).trans (((congrFun (e62 10 (by decide)) (j)).trans (((congrFun (e58 10 (by decide)) (j)).trans (((congrFun (e54 10 (by decide)) (j)).trans (Eq.trans (congrFun (upd2_ne (by decide)) (j)) (Eq.trans (congrFun (upd2_ne (by decide)) (j)) (((congrFun (e50 10 (by decide)) (j)).trans (((congrFun (e46 10 (by decide)) (j)).trans (((congrFun (e42 10 (by decide)) (j)).trans (Eq.trans (congrFun (upd2_ne (by decide)) (j)) (Eq.trans (congrFun (upd2_ne (by decide)) (j)) (((congrFun (e38 10 (by decide)) (j)).trans (((congrFun (e34 10 (by decide)) (j)).trans (((congrFun (e30 10 (by decide)) (j)).trans (Eq.trans (congrFun (upd2_ne (by decide)) (j)) (Eq.trans (congrFun (upd2_ne (by decide)) (j)) (((congrFun (e26 10 (by decide)) (j)).trans (((congrFun (e22 10 (by decide)) (j)).trans (((congrFun (e18 10 (by decide)) (j)).trans (Eq.trans (congrFun (upd2_ne (by decide)) (j)) (Eq.trans (congrFun (upd2_ne (by decide)) (j)) (((congrFun (e14 10 (by decide)) (j)).trans (((congrFun (e10 10 (by decide)) (j)).trans (((congrFun (e6 10 (by decide)) (j)).trans (Eq.trans (congrFun (upd2_ne (by decide)) (j)) (Eq.trans (congrFun (upd2_ne (by decide)) (j)) (f2 (j) (by omega)))))))))))))))))))))))))))))))))))))))))))))))))))))))))))))))))))), (upd2_eq), (Eq.trans (upd2_nx (by omega)) (Eq.trans (upd2_nx (by omega)) (Eq.trans (upd2_nx (by omega)) (Eq.trans (congrFun (upd2_ne (by decide)) (3)) (Eq.trans (congrFun (upd2_ne (by decide)) (3)) (Eq.trans (congrFun (upd2_ne (by decide)) (3)) (((congrFun (e102 83 (by decide)) (3)).trans (((congrFun (e98 83 (by decide)) (3)).trans (((congrFun (e94 83 (by decide)) (3)).trans (((congrFun (e90 83 (by decide)) (3)).trans (((congrFun (e86 83 (by decide)) (3)).trans (((congrFun (e82 83 (by decide)) (3)).trans (((e79 (3) (by omega)).trans (((congrFun (e74 2 (by decide)) (3)).trans (((congrFun (e70 2 (by decide)) (3)).trans (((congrFun (e66 2 (by decide)) (3)).trans (((congrFun (e62 2 (by decide)) (3)).trans (((congrFun (e58 2 (by decide)) (3)).trans (((congrFun (e54 2 (by decide)) (3)).trans (Eq.trans (congrFun (upd2_ne (by decide)) (3)) (Eq.trans (congrFun (upd2_ne (by decide)) (3)) (((congrFun (e50 2 (by decide)) (3)).trans (((congrFun (e46 2 (by decide)) (3)).trans (((congrFun (e42 2 (by decide)) (3)).trans (Eq.trans (congrFun (upd2_ne (by decide)) (3)) (Eq.trans (congrFun (upd2_ne (by decide)) (3)) (((congrFun (e38 2 (by decide)) (3)).trans (((congrFun (e34 2 (by decide)) (3)).trans (((congrFun (e30 2 (by decide)) (3)).trans (Eq.trans (congrFun (upd2_ne (by decide)) (3)) (Eq.trans (congrFun (upd2_ne (by decide)) (3)) (((congrFun (e26 2 (by decide)) (3)).trans (((congrFun (e22 2 (by decide)) (3)).trans (((congrFun (e18 2 (by decide)) (3)).trans (Eq.trans (congrFun (upd2_ne (by decide)) (3)) (Eq.trans (congrFun (upd2_ne (by decide)) (3)) (((congrFun (e14 2 (by decide)) (3)).trans (((congrFun (e10 2 (by decide)) (3)).trans (((congrFun (e6 2 (by decide)) (3)).trans (Eq.trans (congrFun (upd2_ne (by decide)) (3)) (Eq.trans (congrFun (upd2_ne (by decide)) (3)) (f4))))))))))))))))))))))))))))))))))))))))))))))))))))))))))))))))))), (Eq.trans (upd2_nx (by omega)) (Eq.trans (upd2_nx (by omega)) (upd2_eq))), (Eq.trans (congrFun (upd2_ne (by decide)) (1)) (Eq.trans (congrFun (upd2_ne (by decide)) (1)) (Eq.trans (congrFun (upd2_ne (by decide)) (1)) (Eq.trans (congrFun (upd2_ne (by decide)) (1)) (Eq.trans (congrFun (upd2_ne (by decide)) (1)) (Eq.trans (congrFun (upd2_ne (by decide)) (1)) (((congrFun (e102 92 (by decide)) (1)).trans (((congrFun (e98 92 (by decide)) (1)).trans (((e95 (1) (by omega)).trans (((congrFun (e90 11 (by decide)) (1)).trans (((congrFun (e86 11 (by decide)) (1)).trans (((congrFun (e82 11 (by decide)) (1)).trans (((congrFun (e78 11 (by decide)) (1)).trans (((congrFun (e74 11 (by decide)) (1)).trans (((congrFun (e70 11 (by decide)) (1)).trans (((congrFun (e66 11 (by decide)) (1)).trans (((congrFun (e62 11 (by decide)) (1)).trans (((congrFun (e58 11 (by decide)) (1)).trans (((congrFun (e54 11 (by decide)) (1)).trans (Eq.trans (congrFun (upd2_ne (by decide)) (1)) (Eq.trans (congrFun (upd2_ne (by decide)) (1)) (((congrFun (e50 11 (by decide)) (1)).trans (((congrFun (e46 11 (by decide)) (1)).trans (((congrFun (e42 11 (by decide)) (1)).trans (Eq.trans (congrFun (upd2_ne (by decide)) (1)) (Eq.trans (congrFun (upd2_ne (by decide)) (1)) (((congrFun (e38 11 (by decide)) (1)).trans (((congrFun (e34 11 (by decide)) (1)).trans (((congrFun (e30 11 (by decide)) (1)).trans (Eq.trans (congrFun (upd2_ne (by decide)) (1)) (Eq.trans (congrFun (upd2_ne (by decide)) (1)) (((congrFun (e26 11 (by decide)) (1)).trans (((congrFun (e22 11 (by decide)) (1)).trans (((congrFun (e18 11 (by decide)) (1)).trans (Eq.trans (congrFun (upd2_ne (by decide)) (1)) (Eq.trans (congrFun (upd2_ne (by decide)) (1)) (((congrFun (e14 11 (by decide)) (1)).trans (((congrFun (e10 11 (by decide)) (1)).trans (((congrFun (e6 11 (by decide)) (1)).trans (Eq.trans (congrFun (upd2_ne (by decide)) (1)) (Eq.trans (congrFun (upd2_ne (by decide)) (1)) (f6))))))))))))))))))))))))))))))))))))))))))))))))))))))))))))))))))), (Eq.trans (congrFun (upd2_ne (by decide)) (0)) (Eq.trans (congrFun (upd2_ne (by decide)) (0)) (Eq.trans (congrFun (upd2_ne (by decide)) (0)) (Eq.trans (congrFun (upd2_ne (by decide)) (0)) (Eq.trans (congrFun (upd2_ne (by decide)) (0)) (Eq.trans (congrFun (upd2_ne (by decide)) (0)) (((congrFun (e102 92 (by decide)) (0)).trans (((congrFun (e98 92 (by decide)) (0)).trans (((e95 (0) (by omega)).trans (((congrFun (e90 11 (by decide)) (0)).trans (((congrFun (e86 11 (by decide)) (0)).trans (((congrFun (e82 11 (by decide)) (0)).trans (((congrFun (e78 11 (by decide)) (0)).trans (((congrFun (e74 11 (by decide)) (0)).trans (((congrFun (e70 11 (by decide)) (0)).trans (((congrFun (e66 11 (by decide)) (0)).trans (((congrFun (e62 11 (by decide)) (0)).trans (((congrFun (e58 11 (by decide)) (0)).trans (((congrFun (e54 11 (by decide)) (0)).trans (Eq.trans (congrFun (upd2_ne (by decide)) (0)) (Eq.trans (congrFun (upd2_ne (by decide)) (0)) (((congrFun (e50 11 (by decide)) (0)).trans (((congrFun (e46 11 (by decide)) (0)).trans (((congrFun (e42 11 (by decide)) (0)).trans (Eq.trans (congrFun (upd2_ne (by decide)) (0)) (Eq.trans (congrFun (upd2_ne (by decide)) (0)) (((congrFun (e38 11 (by decide)) (0)).trans (((congrFun (e34 11 (by decide)) (0)).trans (((congrFun (e30 11 (by decide)) (0)).trans (Eq.trans (congrFun (upd2_ne (by decide)) (0)) (Eq.trans (congrFun (upd2_ne (by decide)) (0)) (((congrFun (e26 11 (by decide)) (0)).trans (((congrFun (e22 11 (by decide)) (0)).trans (((congrFun (e18 11 (by decide)) (0)).trans (Eq.trans (congrFun (upd2_ne (by decide)) (0)) (Eq.trans (congrFun (upd2_ne (by decide)) (0)) (((congrFun (e14 11 (by decide)) (0)).trans (((congrFun (e10 11 (by decide)) (0)).trans (((congrFun (e6 11 (by decide)) (0)).trans (Eq.trans (congrFun (upd2_ne (by decide)) (0)) (Eq.trans (congrFun (upd2_ne (by decide)) (0)) (f7))))))))))))))))))))))))))))))))))))))))))))))))))))))))))))))))))), fun j hj a1 a2 a3 => (Eq.trans (congrFun (upd2_ne (by decide)) (j)) (Eq.trans (congrFun (upd2_ne (by decide)) (j)) (Eq.trans (congrFun (upd2_ne (by decide)) (j)) (Eq.trans (congrFun (upd2_ne (by decide)) (j)) (Eq.trans (congrFun (upd2_ne (by decide)) (j)) (Eq.trans (congrFun (upd2_ne (by decide)) (j)) (((congrFun (e102 92 (by decide)) (j)).trans (((congrFun (e98 92 (by decide)) (j)).trans (((e95 (j) (by omega)).trans (((congrFun (e90 11 (by decide)) (j)).trans (((congrFun (e86 11 (by decide)) (j)).trans (((congrFun (e82 11 (by decide)) (j)).trans (((congrFun (e78 11 (by decide)) (j)).trans (((congrFun (e74 11 (by decide)) (j)).trans (((congrFun (e70 11 (by decide)) (j)).trans (((congrFun (e66 11 (by decide)) (j)).trans (((congrFun (e62 11 (by decide)) (j)).trans (((congrFun (e58 11 (by decide)) (j)).trans (((congrFun (e54 11 (by decide)) (j)).trans (Eq.trans (congrFun (upd2_ne (by decide)) (j)) (Eq.trans (congrFun (upd2_ne (by decide)) (j)) (((congrFun (e50 11 (by decide)) (j)).trans (((congrFun (e46 11 (by decide)) (j)).trans (((congrFun (e42 11 (by decide)) (j)).trans (Eq.trans (congrFun (upd2_ne (by decide)) (j)) (Eq.trans (congrFun (upd2_ne (by decide)) (j)) (((congrFun (e38 11 (by decide)) (j)).trans (((congrFun (e34 11 (by decide)) (j)).trans (((congrFun (e30 11 (by decide)) (j)).trans (Eq.trans (congrFun (upd2_ne (by decide)) (j)) (Eq.trans (congrFun (upd2_ne (by decide)) (j)) (((congrFun (e26 11 (by decide)) (j)).trans (((congrFun (e22 11 (by decide)) (j)).trans (((congrFun (e18 11 (by decide)) (j)).trans (Eq.trans (congrFun (upd2_ne (by decide)) (j)) (Eq.trans (congrFun (upd2_ne (by decide)) (j)) (((congrFun (e14 11 (by decide)) (j)).trans (((congrFun (e10 11 (by decide)) (j)).trans (((congrFun (e6 11 (by decide)) (j)).trans (Eq.trans (congrFun (upd2_ne (by decide)) (j)) (Eq.trans (congrFun (upd2_ne (by decide)) (j)) ((f8 (j) (by omega) (by omega) (by omega) (by omega))))))))))))))))))))))))))))))))))))))))))))))))))))))))))))))))))))), (Eq.trans (congrFun (upd2_ne (by decide)) (4)) (Eq.trans (congrFun (upd2_ne (by decide)) (4)) (Eq.trans (congrFun (upd2_ne (by decide)) (4)) (Eq.trans (congrFun (upd2_ne (by decide)) (4)) (Eq.trans (congrFun (upd2_ne (by decide)) (4)) (Eq.trans (congrFun (upd2_ne (by decide)) (4)) (((congrFun (e102 97 (by decide)) (4)).trans (((congrFun (e98 97 (by decide)) (4)).trans (((congrFun (e94 97 (by decide)) (4)).trans (((congrFun (e90 97 (by decide)) (4)).trans (((congrFun (e86 97 (by decide)) (4)).trans (((congrFun (e82 97 (by decide)) (4)).trans (((congrFun (e78 97 (by decide)) (4)).trans (((congrFun (e74 97 (by decide)) (4)).trans (((congrFun (e70 97 (by decide)) (4)).trans (((congrFun (e66 97 (by decide)) (4)).trans (((congrFun (e62 97 (by decide)) (4)).trans (((congrFun (e58 97 (by decide)) (4)).trans (((congrFun (e54 97 (by decide)) (4)).trans (Eq.trans (congrFun (upd2_ne (by decide)) (4)) (Eq.trans (congrFun (upd2_ne (by decide)) (4)) (((congrFun (e50 97 (by decide)) (4)).trans (((congrFun (e46 97 (by decide)) (4)).trans (((congrFun (e42 97 (by decide)) (4)).trans (Eq.trans (congrFun (upd2_ne (by decide)) (4)) (Eq.trans (congrFun (upd2_ne (by decide)) (4)) (((congrFun (e38 97 (by decide)) (4)).trans (((congrFun (e34 97 (by decide)) (4)).trans (((congrFun (e30 97 (by decide)) (4)).trans (Eq.trans (congrFun (upd2_ne (by decide)) (4)) (Eq.trans (congrFun (upd2_ne (by decide)) (4)) (((congrFun (e26 97 (by decide)) (4)).trans (((congrFun (e22 97 (by decide)) (4)).trans (((congrFun (e18 97 (by decide)) (4)).trans (Eq.trans (congrFun (upd2_ne (by decide)) (4)) (Eq.trans (congrFun (upd2_ne (by decide)) (4)) (((congrFun (e14 97 (by decide)) (4)).trans (((congrFun (e10 97 (by decide)) (4)).trans (((congrFun (e6 97 (by decide)) (4)).trans (upd2_eq))))))))))))))))))))))))))))))))))))))))))))))))))))))))))))))))), (Eq.trans (congrFun (upd2_ne (by decide)) (4)) (Eq.trans (congrFun (upd2_ne (by decide)) (4)) (Eq.trans (congrFun (upd2_ne (by decide)) (4)) (Eq.trans (congrFun (upd2_ne (by decide)) (4)) (Eq.trans (congrFun (upd2_ne (by decide)) (4)) (Eq.trans (congrFun (upd2_ne (by decide)) (4)) (((congrFun (e102 102 (by decide)) (4)).trans (((congrFun (e98 102 (by decide)) (4)).trans (((congrFun (e94 102 (by decide)) (4)).trans (((congrFun (e90 102 (by decide)) (4)).trans (((congrFun (e86 102 (by decide)) (4)).trans (((congrFun (e82 102 (by decide)) (4)).trans (((congrFun (e78 102 (by decide)) (4)).trans (((congrFun (e74 102 (by decide)) (4)).trans (((congrFun (e70 102 (by decide)) (4)).trans (((congrFun (e66 102 (by decide)) (4)).trans (((congrFun (e62 102 (by decide)) (4)).trans (((congrFun (e58 102 (by decide)) (4)).trans (((congrFun (e54 102 (by decide)) (4)).trans (Eq.trans (congrFun (upd2_ne (by decide)) (4)) (Eq.trans (congrFun (upd2_ne (by decide)) (4)) (((congrFun (e50 102 (by decide)) (4)).trans (((congrFun (e46 102 (by decide)) (4)).trans (((congrFun (e42 102 (by decide)) (4)).trans (Eq.trans (congrFun (upd2_ne (by decide)) (4)) (Eq.trans (congrFun (upd2_ne (by decide)) (4)) (((congrFun (e38 102 (by decide)) (4)).trans (((congrFun (e34 102 (by decide)) (4)).trans (((congrFun (e30 102 (by decide)) (4)).trans (Eq.trans (congrFun (upd2_ne (by decide)) (4)) (Eq.trans (congrFun (upd2_ne (by decide)) (4)) (((congrFun (e26 102 (by decide)) (4)).trans (((congrFun (e22 102 (by decide)) (4)).trans (((congrFun (e18 102 (by decide)) (4)).trans (upd2_eq))))))))))))))))))))))))))))))))))))))))))))))))))))))))), (Eq.trans (congrFun (upd2_ne (by decide)) (4)) (Eq.trans (congrFun (upd2_ne (by decide)) (4)) (Eq.trans (congrFun (upd2_ne (by decide)) (4)) (Eq.trans (congrFun (upd2_ne (by decide)) (4)) (Eq.trans (congrFun (upd2_ne (by decide)) (4)) (Eq.trans (congrFun (upd2_ne (by decide)) (4)) (((congrFun (e102 107 (by decide)) (4)).trans (((congrFun (e98 107 (by decide)) (4)).trans (((congrFun (e94 107 (by decide)) (4)).trans (((congrFun (e90 107 (by decide)) (4)).trans (((congrFun (e86 107 (by decide)) (4)).trans (((congrFun (e82 107 (by decide)) (4)).trans (((congrFun (e78 107 (by decide)) (4)).trans (((congrFun (e74 107 (by decide)) (4)).trans (((congrFun (e70 107 (by decide)) (4)).trans (((congrFun (e66 107 (by decide)) (4)).trans (((congrFun (e62 107 (by decide)) (4)).trans (((congrFun (e58 107 (by decide)) (4)).trans (((congrFun (e54 107 (by decide)) (4)).trans (Eq.trans (congrFun (upd2_ne (by decide)) (4)) (Eq.trans (congrFun (upd2_ne (by decide)) (4)) (((congrFun (e50 107 (by decide)) (4)).trans (((congrFun (e46 107 (by decide)) (4)).trans (((congrFun (e42 107 (by decide)) (4)).trans (Eq.trans (congrFun (upd2_ne (by decide)) (4)) (Eq.trans (congrFun (upd2_ne (by decide)) (4)) (((congrFun (e38 107 (by decide)) (4)).trans (((congrFun (e34 107 (by decide)) (4)).trans (((congrFun (e30 107 (by decide)) (4)).trans (upd2_eq))))))))))))))))))))))))))))))))))))))))))))))))), (Eq.trans (congrFun (upd2_ne (by decide)) (4)) (Eq.trans (congrFun (upd2_ne (by decide)) (4)) (Eq.trans (congrFun (upd2_ne (by decide)) (4)) (Eq.trans (congrFun (upd2_ne (by decide)) (4)) (Eq.trans (congrFun (upd2_ne (by decide)) (4)) (Eq.trans (congrFun (upd2_ne (by decide)) (4)) (((congrFun (e102 112 (by decide)) (4)).trans (((congrFun (e98 112 (by decide)) (4)).trans (((congrFun (e94 112 (by decide)) (4)).trans (((congrFun (e90 112 (by decide)) (4)).trans (((congrFun (e86 112 (by decide)) (4)).trans (((congrFun (e82 112 (by decide)) (4)).trans (((congrFun (e78 112 (by decide)) (4)).trans (((congrFun (e74 112 (by decide)) (4)).trans (((congrFun (e70 112 (by decide)) (4)).trans (((congrFun (e66 112 (by decide)) (4)).trans (((congrFun (e62 112 (by decide)) (4)).trans (((congrFun (e58 112 (by decide)) (4)).trans (((congrFun (e54 112 (by decide)) (4)).trans (Eq.trans (congrFun (upd2_ne (by decide)) (4)) (Eq.trans (congrFun (upd2_ne (by decide)) (4)) (((congrFun (e50 112 (by decide)) (4)).trans (((congrFun (e46 112 (by decide)) (4)).trans (((congrFun (e42 112 (by decide)) (4)).trans (upd2_eq))))))))))))))))))))))))))))))))))))))))), (Eq.trans (congrFun (upd2_ne (by decide)) (4)) (Eq.trans (congrFun (upd2_ne (by decide)) (4)) (Eq.trans (congrFun (upd2_ne (by decide)) (4)) (Eq.trans (congrFun (upd2_ne (by decide)) (4)) (Eq.trans (congrFun (upd2_ne (by decide)) (4)) (Eq.trans (congrFun (upd2_ne (by decide)) (4)) (((congrFun (e102 117 (by decide)) (4)).trans (((congrFun (e98 117 (by decide)) (4)).trans (((congrFun (e94 117 (by decide)) (4)).trans (((congrFun (e90 117 (by decide)) (4)).trans (((congrFun (e86 117 (by decide)) (4)).trans (((congrFun (e82 117 (by decide)) (4)).trans (((congrFun (e78 117 (by decide)) (4)).trans (((congrFun (e74 117 (by decide)) (4)).trans (((congrFun (e70 117 (by decide)) (4)).trans (((congrFun (e66 117 (by decide)) (4)).trans (((congrFun (e62 117 (by decide)) (4)).trans (((congrFun (e58 117 (by decide)) (4)).trans (((congrFun (e54 117 (by decide)) (4)).trans (upd2_eq))))))))))))))))))))))))))))))))), (by omega)⟩) (by omega) (by omega) (fun I105 hF106 fr107 => ?_))
          have hF := hF106
          obtain ⟨d0, d1, d2, d3, d4, d5, d6, d7, d8, d9, d10, d11, d12, d13, db⟩ := hF
          have d0 : ∀ j, j < 32 → I105 86 j = nI 0 := d0
          have d1 : ∀ j, j < 6 → I105 90 j = nI 0 := d1
          have d2 : ∀ j, j < 6 → I105 91 j = nI 9 := d2
          have d3 : I105 83 0 = nI (4) := d3
          have d4 : I105 83 3 = nI 0 := d4
          have d5 : I105 83 5 = nI (0) := d5
          have d6 : I105 92 1 = nI ((0 + w4 * 4)) := d6
          have d7 : I105 92 0 = nI ((0 + w4)) := d7
          have d8 : ∀ j, j < 40 → j ≠ 0 → j ≠ 1 → j ≠ 3 → I105 92 j = nI 0 := d8
          have d9 : I105 97 4 = nI 0 := d9
          have d10 : I105 102 4 = nI 0 := d10
          have d11 : I105 107 4 = nI 0 := d11
          have d12 : I105 112 4 = nI 0 := d12
          have d13 : I105 117 4 = nI 0 := d13
          refine (show As l b 13 y_M_imagine KC RC _ (I105) 52 [.ref 81, .ref 1, .int (nI 0), .int (x), .int (nI 4), .int (nI (w4))] [.int (nI 0)] from ?_)
          refine aw_pop rfl d_M_imagine_52 ?_
          refine as_retv rfl d_M_imagine_53 ?_
          refine (show As l b 14 y_S_price KC RC K2 (I105) 59 [.ref 0, .int (x), .int (nI (w4)), .int (nI 0), .int (nI 4), uu] [] from ?_)
          refine aw_aload_n rfl rfl d_S_price_59 ?_
          refine aw_getr fl_S_22 kc_0 (by decide) rfl rc_0_2 d_S_price_60 ?_
          refine aw_aload_n rfl rfl d_S_price_63 ?_
          refine aw_getr fl_S_12 kc_0 (by decide) rfl rc_0_0 d_S_price_64 ?_
          refine aw_iconst (v := nI 0) ci_0 d_S_price_67 ?_
          refine as_callV (as := [.ref 1, .int (nI 0)]) (d' := 13) (q := ("SinglesUp$Mind", zT5, 3)) mo_M_gained lk_S_223 kc_81 rfl rfl rfl ⟨by decide, by decide⟩ rfl rfl (by decide) d_S_price_68 (Ss.of (show As l b 13 y_M_gained KC RC _ (I105) 0 [.ref 81, .ref 1, .int (nI 0)] [] from ?_))
          refine aw_iload_n rfl rfl d_M_gained_0 ?_
          refine aw_tabInI 0 (by decide +kernel) (by decide) rfl (tgt := 36) (by decide) d_M_gained_1 ?_
          refine aw_aload_n rfl rfl d_M_gained_36 ?_
          refine aw_getr fl_M_12 kc_81 (by decide) rfl rc_81_0 d_M_gained_37 ?_
          refine aw_getr fl_M_40 kc_82 (by decide) rfl rc_82_8 d_M_gained_40 ?_
          refine aw_iconst (v := nI 1) ci_1 d_M_gained_43 ?_
          refine aw_iald (j := 1) kc_92 (vp_in_nI (by decide) (by decide)) (nI_clamp (by decide)) d_M_gained_44 ?_
          refine aw_top (x2 := nI ((0 + w4 * 4))) (d6) ?_
          refine aw_aload_n rfl rfl d_M_gained_45 ?_
          refine aw_getr fl_M_40 kc_1 (by decide) rfl rc_1_8 d_M_gained_46 ?_
          refine aw_iconst (v := nI 1) ci_1 d_M_gained_49 ?_
          refine aw_iald (j := 1) kc_11 (vp_in_nI (by decide) (by decide)) (nI_clamp (by decide)) d_M_gained_50 ?_
          refine aw_top (x2 := nI 0) (((congrFun (fr107 11 (by decide)) (1)).trans (Eq.trans (congrFun (upd2_ne (by decide)) (1)) (Eq.trans (congrFun (upd2_ne (by decide)) (1)) (Eq.trans (congrFun (upd2_ne (by decide)) (1)) (Eq.trans (congrFun (upd2_ne (by decide)) (1)) (Eq.trans (congrFun (upd2_ne (by decide)) (1)) (Eq.trans (congrFun (upd2_ne (by decide)) (1)) (((congrFun (e102 11 (by decide)) (1)).trans (((congrFun (e98 11 (by decide)) (1)).trans (((congrFun (e94 11 (by decide)) (1)).trans (((congrFun (e90 11 (by decide)) (1)).trans (((congrFun (e86 11 (by decide)) (1)).trans (((congrFun (e82 11 (by decide)) (1)).trans (((congrFun (e78 11 (by decide)) (1)).trans (((congrFun (e74 11 (by decide)) (1)).trans (((congrFun (e70 11 (by decide)) (1)).trans (((congrFun (e66 11 (by decide)) (1)).trans (((congrFun (e62 11 (by decide)) (1)).trans (((congrFun (e58 11 (by decide)) (1)).trans (((congrFun (e54 11 (by decide)) (1)).trans (Eq.trans (congrFun (upd2_ne (by decide)) (1)) (Eq.trans (congrFun (upd2_ne (by decide)) (1)) (((congrFun (e50 11 (by decide)) (1)).trans (((congrFun (e46 11 (by decide)) (1)).trans (((congrFun (e42 11 (by decide)) (1)).trans (Eq.trans (congrFun (upd2_ne (by decide)) (1)) (Eq.trans (congrFun (upd2_ne (by decide)) (1)) (((congrFun (e38 11 (by decide)) (1)).trans (((congrFun (e34 11 (by decide)) (1)).trans (((congrFun (e30 11 (by decide)) (1)).trans (Eq.trans (congrFun (upd2_ne (by decide)) (1)) (Eq.trans (congrFun (upd2_ne (by decide)) (1)) (((congrFun (e26 11 (by decide)) (1)).trans (((congrFun (e22 11 (by decide)) (1)).trans (((congrFun (e18 11 (by decide)) (1)).trans (Eq.trans (congrFun (upd2_ne (by decide)) (1)) (Eq.trans (congrFun (upd2_ne (by decide)) (1)) (((congrFun (e14 11 (by decide)) (1)).trans (((congrFun (e10 11 (by decide)) (1)).trans (((congrFun (e6 11 (by decide)) (1)).trans (Eq.trans (congrFun (upd2_ne (by decide)) (1)) (Eq.trans (congrFun (upd2_ne (by decide)) (1)) (f6))))))))))))))))))))))))))))))))))))))))))))))))))))))))))))))))))))) ?_
          refine aw_isubN (by omega) d_M_gained_51 ?_
          refine as_reti rfl d_M_gained_52 ?_
          refine (show As l b 14 y_S_price KC RC K2 (I105) 71 [.ref 0, .int (x), .int (nI (w4)), .int (nI 0), .int (nI 4), uu] [.int (nI (((0 + w4 * 4) - 0)))] from ?_)
          refine aw_istore (lv2 := [.ref 0, .int (x), .int (nI (w4)), .int (nI 0), .int (nI 4), .int (nI (((0 + w4 * 4) - 0)))]) (by decide) rfl d_S_price_71 ?_
          refine aw_aload_n rfl rfl d_S_price_73 ?_
          refine aw_getr fl_S_22 kc_0 (by decide) rfl rc_0_2 d_S_price_74 ?_
          refine aw_aload_n rfl rfl d_S_price_77 ?_
          refine aw_getr fl_S_12 kc_0 (by decide) rfl rc_0_0 d_S_price_78 ?_
          refine aw_iload_n rfl rfl d_S_price_81 ?_
          refine aw_iconst (v := nI 0) ci_0 d_S_price_82 ?_
          refine aw_iload rfl d_S_price_83 ?_
          refine aw_iload_n rfl rfl d_S_price_85 ?_
          refine as_callV (as := [.ref 1, .int (nI 0), .int (nI 0), .int (nI 4), .int (nI (w4))]) (d' := 13) (q := ("SinglesUp$Mind", zT5, 3)) mo_M_imagine lk_S_219 kc_81 rfl rfl rfl ⟨by decide, by decide⟩ rfl rfl (by decide) d_S_price_86 (Ss.of (show As l b 13 y_M_imagine KC RC _ (I105) 0 [.ref 81, .ref 1, .int (nI 0), .int (nI 0), .int (nI 4), .int (nI (w4))] [] from ?_))
          refine aw_aload_n rfl rfl d_M_imagine_0 ?_
          refine aw_getr fl_M_12 kc_81 (by decide) rfl rc_81_0 d_M_imagine_1 ?_
          refine aw_aload_n rfl rfl d_M_imagine_4 ?_
          refine as_callV (as := [.ref 1]) (d' := 12) (q := ("SinglesUp$Hill", zT2, 14)) mo_H_copyFrom lk_M_29 kc_82 rfl rfl rfl ⟨by decide, by decide⟩ rfl rfl (by decide) d_M_imagine_5 (Ss.of (show As l b 12 y_H_copyFrom KC RC _ (I105) 0 [.ref 82, .ref 1, uu] [] from ?_))
          refine aw_iconst (v := nI 0) ci_0 d_H_copyFrom_0 ?_
          refine aw_istore_n (lv2 := [.ref 82, .ref 1, .int (nI 0)]) rfl (by decide) rfl d_H_copyFrom_1 ?_
          refine aw_iload_n rfl rfl d_H_copyFrom_2 ?_
          refine aw_aload_n rfl rfl d_H_copyFrom_3 ?_
          refine aw_getr fl_H_17 kc_82 (by decide) rfl rc_82_1 d_H_copyFrom_4 ?_
          refine aw_alen kc_84 (by decide) d_H_copyFrom_7 ?_
          refine aw_icmp_geI (tgt := 41) (0) (5) (by decide +kernel) (by decide +kernel) (by decide) d_H_copyFrom_8 (fun q => absurd q (by decide)) (fun _ => ?_)
          refine aw_iload_n rfl rfl d_H_copyFrom_11 ?_
          refine aw_aload_n rfl rfl d_H_copyFrom_12 ?_
          refine aw_getr fl_H_17 kc_1 (by decide) rfl rc_1_1 d_H_copyFrom_13 ?_
          refine aw_alen kc_3 (by decide) d_H_copyFrom_16 ?_
          refine aw_icmp_geI (tgt := 41) (0) (5) (by decide +kernel) (by decide +kernel) (by decide) d_H_copyFrom_17 (fun q => absurd q (by decide)) (fun _ => ?_)
          refine aw_aload_n rfl rfl d_H_copyFrom_20 ?_
          refine aw_getr fl_H_17 kc_82 (by decide) rfl rc_82_1 d_H_copyFrom_21 ?_
          refine aw_iload_n rfl rfl d_H_copyFrom_24 ?_
          refine aw_aald (j := 0) kc_84 (vp_in_nI (by decide) (by decide)) (nI_clamp (by decide)) rc_84_0 d_H_copyFrom_25 ?_
          refine aw_aload_n rfl rfl d_H_copyFrom_26 ?_
          refine aw_getr fl_H_17 kc_1 (by decide) rfl rc_1_1 d_H_copyFrom_27 ?_
          refine aw_iload_n rfl rfl d_H_copyFrom_30 ?_
          refine aw_aald (j := 0) kc_3 (vp_in_nI (by decide) (by decide)) (nI_clamp (by decide)) rc_3_0 d_H_copyFrom_31 ?_
          refine as_callV (as := [.ref 16]) (d' := 11) (q := ("SinglesUp$Law", zT3, 6)) mo_W_copyFrom lk_H_57 kc_97 rfl rfl rfl ⟨by decide, by decide⟩ rfl rfl (by decide) d_H_copyFrom_32 (Ss.of (show As l b 11 y_W_copyFrom KC RC _ (I105) 0 [.ref 97, .ref 16] [] from ?_))
          refine aw_aload_n rfl rfl d_W_copyFrom_0 ?_
          refine aw_aload_n rfl rfl d_W_copyFrom_1 ?_
          refine aw_geti fl_W_22 kc_16 (by decide) rfl d_W_copyFrom_2 ?_
          refine aw_puti fl_W_22 kc_97 (by decide) rfl rfl rfl rfl d_W_copyFrom_5 ?_
          refine aw_aload_n rfl rfl d_W_copyFrom_8 ?_
          refine aw_aload_n rfl rfl d_W_copyFrom_9 ?_
          refine aw_geti fl_W_26 kc_16 (by decide) rfl d_W_copyFrom_10 ?_
          refine aw_top (x2 := nI 0) (Eq.trans (congrFun (upd2_ne (by decide)) (4)) (((congrFun (fr107 16 (by decide)) (4)).trans (Eq.trans (congrFun (upd2_ne (by decide)) (4)) (Eq.trans (congrFun (upd2_ne (by decide)) (4)) (Eq.trans (congrFun (upd2_ne (by decide)) (4)) (Eq.trans (congrFun (upd2_ne (by decide)) (4)) (Eq.trans (congrFun (upd2_ne (by decide)) (4)) (Eq.trans (congrFun (upd2_ne (by decide)) (4)) (((congrFun (e102 16 (by decide)) (4)).trans (((congrFun (e98 16 (by decide)) (4)).trans (((congrFun (e94 16 (by decide)) (4)).trans (((congrFun (e90 16 (by decide)) (4)).trans (((congrFun (e86 16 (by decide)) (4)).trans (((congrFun (e82 16 (by decide)) (4)).trans (((congrFun (e78 16 (by decide)) (4)).trans (((congrFun (e74 16 (by decide)) (4)).trans (((congrFun (e70 16 (by decide)) (4)).trans (((congrFun (e66 16 (by decide)) (4)).trans (((congrFun (e62 16 (by decide)) (4)).trans (((congrFun (e58 16 (by decide)) (4)).trans (((congrFun (e54 16 (by decide)) (4)).trans (Eq.trans (congrFun (upd2_ne (by decide)) (4)) (Eq.trans (congrFun (upd2_ne (by decide)) (4)) (((congrFun (e50 16 (by decide)) (4)).trans (((congrFun (e46 16 (by decide)) (4)).trans (((congrFun (e42 16 (by decide)) (4)).trans (Eq.trans (congrFun (upd2_ne (by decide)) (4)) (Eq.trans (congrFun (upd2_ne (by decide)) (4)) (((congrFun (e38 16 (by decide)) (4)).trans (((congrFun (e34 16 (by decide)) (4)).trans (((congrFun (e30 16 (by decide)) (4)).trans (Eq.trans (congrFun (upd2_ne (by decide)) (4)) (Eq.trans (congrFun (upd2_ne (by decide)) (4)) (((congrFun (e26 16 (by decide)) (4)).trans (((congrFun (e22 16 (by decide)) (4)).trans (((congrFun (e18 16 (by decide)) (4)).trans (Eq.trans (congrFun (upd2_ne (by decide)) (4)) (Eq.trans (congrFun (upd2_ne (by decide)) (4)) (((congrFun (e14 16 (by decide)) (4)).trans (((congrFun (e10 16 (by decide)) (4)).trans (((congrFun (e6 16 (by decide)) (4)).trans (Eq.trans (congrFun (upd2_ne (by decide)) (4)) (Eq.trans (congrFun (upd2_ne (by decide)) (4)) (f9)))))))))))))))))))))))))))))))))))))))))))))))))))))))))))))))))))))) ?_
          refine aw_puti fl_W_26 kc_97 (by decide) rfl rfl rfl rfl d_W_copyFrom_13 ?_
          refine aw_aload_n rfl rfl d_W_copyFrom_16 ?_
          refine aw_getr fl_W_9 kc_16 (by decide) rfl rc_16_0 d_W_copyFrom_17 ?_
          refine aw_iconst (v := nI 0) ci_0 d_W_copyFrom_20 ?_
          refine aw_aload_n rfl rfl d_W_copyFrom_21 ?_
          refine aw_getr fl_W_9 kc_97 (by decide) rfl rc_97_0 d_W_copyFrom_22 ?_
          refine aw_iconst (v := nI 0) ci_0 d_W_copyFrom_25 ?_
          refine aw_sipush (v := nI 400) cs_400 d_W_copyFrom_26 ?_
          refine as_copy0 (n := 400) lka_W_29 ac_nat ac_sta ac_ini kc_17 kc_98 (by omega) (by omega) (by omega) (by decide) rfl d_W_copyFrom_29 (fun J108 e109 e110 e111 => ?_)
          refine aw_aload_n rfl rfl d_W_copyFrom_32 ?_
          refine aw_getr fl_W_13 kc_16 (by decide) rfl rc_16_2 d_W_copyFrom_33 ?_
          refine aw_iconst (v := nI 0) ci_0 d_W_copyFrom_36 ?_
          refine aw_aload_n rfl rfl d_W_copyFrom_37 ?_
          refine aw_getr fl_W_13 kc_97 (by decide) rfl rc_97_2 d_W_copyFrom_38 ?_
          refine aw_iconst (v := nI 0) ci_0 d_W_copyFrom_41 ?_
          refine aw_bipush (v := nI 17) cb_17 d_W_copyFrom_42 ?_
          refine as_copy0 (n := 17) lka_W_29 ac_nat ac_sta ac_ini kc_18 kc_99 (by omega) (by omega) (by omega) (by decide) rfl d_W_copyFrom_44 (fun J112 e113 e114 e115 => ?_)
          refine aw_aload_n rfl rfl d_W_copyFrom_47 ?_
          refine aw_getr fl_W_16 kc_16 (by decide) rfl rc_16_3 d_W_copyFrom_48 ?_
          refine aw_iconst (v := nI 0) ci_0 d_W_copyFrom_51 ?_
          refine aw_aload_n rfl rfl d_W_copyFrom_52 ?_
          refine aw_getr fl_W_16 kc_97 (by decide) rfl rc_97_3 d_W_copyFrom_53 ?_
          refine aw_iconst (v := nI 0) ci_0 d_W_copyFrom_56 ?_
          refine aw_bipush (v := nI 16) cb_16 d_W_copyFrom_57 ?_
          refine as_copy0 (n := 16) lka_W_29 ac_nat ac_sta ac_ini kc_19 kc_100 (by omega) (by omega) (by omega) (by decide) rfl d_W_copyFrom_59 (fun J116 e117 e118 e119 => ?_)
          refine as_retv rfl d_W_copyFrom_62 ?_
          refine (show As l b 12 y_H_copyFrom KC RC _ (J116) 35 [.ref 82, .ref 1, .int (nI 0)] [] from ?_)
          refine aw_iinc (v := nI 1) (lv2 := [.ref 82, .ref 1, .int (nI 1)]) rfl (by decide +kernel) (by decide) rfl d_H_copyFrom_35 ?_
          refine aw_goto (tgt := 2) (by decide) d_H_copyFrom_38 ?_
          refine aw_iload_n rfl rfl d_H_copyFrom_2 ?_
          refine aw_aload_n rfl rfl d_H_copyFrom_3 ?_
          refine aw_getr fl_H_17 kc_82 (by decide) rfl rc_82_1 d_H_copyFrom_4 ?_
          refine aw_alen kc_84 (by decide) d_H_copyFrom_7 ?_
          refine aw_icmp_geI (tgt := 41) (1) (5) (by decide +kernel) (by decide +kernel) (by decide) d_H_copyFrom_8 (fun q => absurd q (by decide)) (fun _ => ?_)
          refine aw_iload_n rfl rfl d_H_copyFrom_11 ?_
          refine aw_aload_n rfl rfl d_H_copyFrom_12 ?_
          refine aw_getr fl_H_17 kc_1 (by decide) rfl rc_1_1 d_H_copyFrom_13 ?_
          refine aw_alen kc_3 (by decide) d_H_copyFrom_16 ?_
          refine aw_icmp_geI (tgt := 41) (1) (5) (by decide +kernel) (by decide +kernel) (by decide) d_H_copyFrom_17 (fun q => absurd q (by decide)) (fun _ => ?_)
          refine aw_aload_n rfl rfl d_H_copyFrom_20 ?_
          refine aw_getr fl_H_17 kc_82 (by decide) rfl rc_82_1 d_H_copyFrom_21 ?_
          refine aw_iload_n rfl rfl d_H_copyFrom_24 ?_
          refine aw_aald (j := 1) kc_84 (vp_in_nI (by decide) (by decide)) (nI_clamp (by decide)) rc_84_1 d_H_copyFrom_25 ?_
          refine aw_aload_n rfl rfl d_H_copyFrom_26 ?_
          refine aw_getr fl_H_17 kc_1 (by decide) rfl rc_1_1 d_H_copyFrom_27 ?_
          refine aw_iload_n rfl rfl d_H_copyFrom_30 ?_
          refine aw_aald (j := 1) kc_3 (vp_in_nI (by decide) (by decide)) (nI_clamp (by decide)) rc_3_1 d_H_copyFrom_31 ?_
          refine as_callV (as := [.ref 21]) (d' := 11) (q := ("SinglesUp$Law", zT3, 6)) mo_W_copyFrom lk_H_57 kc_102 rfl rfl rfl ⟨by decide, by decide⟩ rfl rfl (by decide) d_H_copyFrom_32 (Ss.of (show As l b 11 y_W_copyFrom KC RC _ (J116) 0 [.ref 102, .ref 21] [] from ?_))
          refine aw_aload_n rfl rfl d_W_copyFrom_0 ?_
          refine aw_aload_n rfl rfl d_W_copyFrom_1 ?_
          refine aw_geti fl_W_22 kc_21 (by decide) rfl d_W_copyFrom_2 ?_
          refine aw_puti fl_W_22 kc_102 (by decide) rfl rfl rfl rfl d_W_copyFrom_5 ?_
          refine aw_aload_n rfl rfl d_W_copyFrom_8 ?_
          refine aw_aload_n rfl rfl d_W_copyFrom_9 ?_
          refine aw_geti fl_W_26 kc_21 (by decide) rfl d_W_copyFrom_10 ?_
          refine aw_top (x2 := nI 0) (Eq.trans (congrFun (upd2_ne (by decide)) (4)) (((congrFun (e117 21 (by decide)) (4)).trans (((congrFun (e113 21 (by decide)) (4)).trans (((congrFun (e109 21 (by decide)) (4)).trans (Eq.trans (congrFun (upd2_ne (by decide)) (4)) (Eq.trans (congrFun (upd2_ne (by decide)) (4)) (((congrFun (fr107 21 (by decide)) (4)).trans (Eq.trans (congrFun (upd2_ne (by decide)) (4)) (Eq.trans (congrFun (upd2_ne (by decide)) (4)) (Eq.trans (congrFun (upd2_ne (by decide)) (4)) (Eq.trans (congrFun (upd2_ne (by decide)) (4)) (Eq.trans (congrFun (upd2_ne (by decide)) (4)) (Eq.trans (congrFun (upd2_ne (by decide)) (4)) (((congrFun (e102 21 (by decide)) (4)).trans (((congrFun (e98 21 (by decide)) (4)).trans (((congrFun (e94 21 (by decide)) (4)).trans (((congrFun (e90 21 (by decide)) (4)).trans (((congrFun (e86 21 (by decide)) (4)).trans (((congrFun (e82 21 (by decide)) (4)).trans (((congrFun (e78 21 (by decide)) (4)).trans (((congrFun (e74 21 (by decide)) (4)).trans (((congrFun (e70 21 (by decide)) (4)).trans (((congrFun (e66 21 (by decide)) (4)).trans (((congrFun (e62 21 (by decide)) (4)).trans (((congrFun (e58 21 (by decide)) (4)).trans (((congrFun (e54 21 (by decide)) (4)).trans (Eq.trans (congrFun (upd2_ne (by decide)) (4)) (Eq.trans (congrFun (upd2_ne (by decide)) (4)) (((congrFun (e50 21 (by decide)) (4)).trans (((congrFun (e46 21 (by decide)) (4)).trans (((congrFun (e42 21 (by decide)) (4)).trans (Eq.trans (congrFun (upd2_ne (by decide)) (4)) (Eq.trans (congrFun (upd2_ne (by decide)) (4)) (((congrFun (e38 21 (by decide)) (4)).trans (((congrFun (e34 21 (by decide)) (4)).trans (((congrFun (e30 21 (by decide)) (4)).trans (Eq.trans (congrFun (upd2_ne (by decide)) (4)) (Eq.trans (congrFun (upd2_ne (by decide)) (4)) (((congrFun (e26 21 (by decide)) (4)).trans (((congrFun (e22 21 (by decide)) (4)).trans (((congrFun (e18 21 (by decide)) (4)).trans (Eq.trans (congrFun (upd2_ne (by decide)) (4)) (Eq.trans (congrFun (upd2_ne (by decide)) (4)) (((congrFun (e14 21 (by decide)) (4)).trans (((congrFun (e10 21 (by decide)) (4)).trans (((congrFun (e6 21 (by decide)) (4)).trans (Eq.trans (congrFun (upd2_ne (by decide)) (4)) (Eq.trans (congrFun (upd2_ne (by decide)) (4)) (f10)))))))))))))))))))))))))))))))))))))))))))))))))))))))))))))))))))))))))))))) ?_
          refine aw_puti fl_W_26 kc_102 (by decide) rfl rfl rfl rfl d_W_copyFrom_13 ?_
          refine aw_aload_n rfl rfl d_W_copyFrom_16 ?_
          refine aw_getr fl_W_9 kc_21 (by decide) rfl rc_21_0 d_W_copyFrom_17 ?_
          refine aw_iconst (v := nI 0) ci_0 d_W_copyFrom_20 ?_
          refine aw_aload_n rfl rfl d_W_copyFrom_21 ?_
          refine aw_getr fl_W_9 kc_102 (by decide) rfl rc_102_0 d_W_copyFrom_22 ?_
          refine aw_iconst (v := nI 0) ci_0 d_W_copyFrom_25 ?_
          refine aw_sipush (v := nI 400) cs_400 d_W_copyFrom_26 ?_
          refine as_copy0 (n := 400) lka_W_29 ac_nat ac_sta ac_ini kc_22 kc_103 (by omega) (by omega) (by omega) (by decide) rfl d_W_copyFrom_29 (fun J120 e121 e122 e123 => ?_)
          refine aw_aload_n rfl rfl d_W_copyFrom_32 ?_
          refine aw_getr fl_W_13 kc_21 (by decide) rfl rc_21_2 d_W_copyFrom_33 ?_
          refine aw_iconst (v := nI 0) ci_0 d_W_copyFrom_36 ?_
          refine aw_aload_n rfl rfl d_W_copyFrom_37 ?_
          refine aw_getr fl_W_13 kc_102 (by decide) rfl rc_102_2 d_W_copyFrom_38 ?_
          refine aw_iconst (v := nI 0) ci_0 d_W_copyFrom_41 ?_
          refine aw_bipush (v := nI 17) cb_17 d_W_copyFrom_42 ?_
          refine as_copy0 (n := 17) lka_W_29 ac_nat ac_sta ac_ini kc_23 kc_104 (by omega) (by omega) (by omega) (by decide) rfl d_W_copyFrom_44 (fun J124 e125 e126 e127 => ?_)
          refine aw_aload_n rfl rfl d_W_copyFrom_47 ?_
          refine aw_getr fl_W_16 kc_21 (by decide) rfl rc_21_3 d_W_copyFrom_48 ?_
          refine aw_iconst (v := nI 0) ci_0 d_W_copyFrom_51 ?_
          refine aw_aload_n rfl rfl d_W_copyFrom_52 ?_
          refine aw_getr fl_W_16 kc_102 (by decide) rfl rc_102_3 d_W_copyFrom_53 ?_
          refine aw_iconst (v := nI 0) ci_0 d_W_copyFrom_56 ?_
          refine aw_bipush (v := nI 16) cb_16 d_W_copyFrom_57 ?_
          refine as_copy0 (n := 16) lka_W_29 ac_nat ac_sta ac_ini kc_24 kc_105 (by omega) (by omega) (by omega) (by decide) rfl d_W_copyFrom_59 (fun J128 e129 e130 e131 => ?_)
          refine as_retv rfl d_W_copyFrom_62 ?_
          refine (show As l b 12 y_H_copyFrom KC RC _ (J128) 35 [.ref 82, .ref 1, .int (nI 1)] [] from ?_)
          refine aw_iinc (v := nI 2) (lv2 := [.ref 82, .ref 1, .int (nI 2)]) rfl (by decide +kernel) (by decide) rfl d_H_copyFrom_35 ?_
          refine aw_goto (tgt := 2) (by decide) d_H_copyFrom_38 ?_
          refine aw_iload_n rfl rfl d_H_copyFrom_2 ?_
          refine aw_aload_n rfl rfl d_H_copyFrom_3 ?_
          refine aw_getr fl_H_17 kc_82 (by decide) rfl rc_82_1 d_H_copyFrom_4 ?_
          refine aw_alen kc_84 (by decide) d_H_copyFrom_7 ?_
          refine aw_icmp_geI (tgt := 41) (2) (5) (by decide +kernel) (by decide +kernel) (by decide) d_H_copyFrom_8 (fun q => absurd q (by decide)) (fun _ => ?_)
          refine aw_iload_n rfl rfl d_H_copyFrom_11 ?_
          refine aw_aload_n rfl rfl d_H_copyFrom_12 ?_
          refine aw_getr fl_H_17 kc_1 (by decide) rfl rc_1_1 d_H_copyFrom_13 ?_
          refine aw_alen kc_3 (by decide) d_H_copyFrom_16 ?_
          refine aw_icmp_geI (tgt := 41) (2) (5) (by decide +kernel) (by decide +kernel) (by decide) d_H_copyFrom_17 (fun q => absurd q (by decide)) (fun _ => ?_)
          refine aw_aload_n rfl rfl d_H_copyFrom_20 ?_
          refine aw_getr fl_H_17 kc_82 (by decide) rfl rc_82_1 d_H_copyFrom_21 ?_
          refine aw_iload_n rfl rfl d_H_copyFrom_24 ?_
          refine aw_aald (j := 2) kc_84 (vp_in_nI (by decide) (by decide)) (nI_clamp (by decide)) rc_84_2 d_H_copyFrom_25 ?_
          refine aw_aload_n rfl rfl d_H_copyFrom_26 ?_
          refine aw_getr fl_H_17 kc_1 (by decide) rfl rc_1_1 d_H_copyFrom_27 ?_
          refine aw_iload_n rfl rfl d_H_copyFrom_30 ?_
          refine aw_aald (j := 2) kc_3 (vp_in_nI (by decide) (by decide)) (nI_clamp (by decide)) rc_3_2 d_H_copyFrom_31 ?_
          refine as_callV (as := [.ref 26]) (d' := 11) (q := ("SinglesUp$Law", zT3, 6)) mo_W_copyFrom lk_H_57 kc_107 rfl rfl rfl ⟨by decide, by decide⟩ rfl rfl (by decide) d_H_copyFrom_32 (Ss.of (show As l b 11 y_W_copyFrom KC RC _ (J128) 0 [.ref 107, .ref 26] [] from ?_))
          refine aw_aload_n rfl rfl d_W_copyFrom_0 ?_
          refine aw_aload_n rfl rfl d_W_copyFrom_1 ?_
          refine aw_geti fl_W_22 kc_26 (by decide) rfl d_W_copyFrom_2 ?_
          refine aw_puti fl_W_22 kc_107 (by decide) rfl rfl rfl rfl d_W_copyFrom_5 ?_
          refine aw_aload_n rfl rfl d_W_copyFrom_8 ?_
          refine aw_aload_n rfl rfl d_W_copyFrom_9 ?_
          refine aw_geti fl_W_26 kc_26 (by decide) rfl d_W_copyFrom_10 ?_
          refine aw_top (x2 := nI 0) (Eq.trans (congrFun (upd2_ne (by decide)) (4)) (((congrFun (e129 26 (by decide)) (4)).trans (((congrFun (e125 26 (by decide)) (4)).trans (((congrFun (e121 26 (by decide)) (4)).trans (Eq.trans (congrFun (upd2_ne (by decide)) (4)) (Eq.trans (congrFun (upd2_ne (by decide)) (4)) (((congrFun (e117 26 (by decide)) (4)).trans (((congrFun (e113 26 (by decide)) (4)).trans (((congrFun (e109 26 (by decide)) (4)).trans (Eq.trans (congrFun (upd2_ne (by decide)) (4)) (Eq.trans (congrFun (upd2_ne (by decide)) (4)) (((congrFun (fr107 26 (by decide)) (4)).trans (Eq.trans (congrFun (upd2_ne (by decide)) (4)) (Eq.trans (congrFun (upd2_ne (by decide)) (4)) (Eq.trans (congrFun (upd2_ne (by decide)) (4)) (Eq.trans (congrFun (upd2_ne (by decide)) (4)) (Eq.trans (congrFun (upd2_ne (by decide)) (4)) (Eq.trans (congrFun (upd2_ne (by decide)) (4)) (((congrFun (e102 26 (by decide)) (4)).trans (((congrFun (e98 26 (by decide)) (4)).trans (((congrFun (e94 26 (by decide)) (4)).trans (((congrFun (e90 26 (by decide)) (4)).trans (((congrFun (e86 26 (by decide)) (4)).trans (((congrFun (e82 26 (by decide)) (4)).trans (((congrFun (e78 26 (by decide)) (4)).trans (((congrFun (e74 26 (by decide)) (4)).trans (((congrFun (e70 26 (by decide)) (4)).trans (((congrFun (e66 26 (by decide)) (4)).trans (((congrFun (e62 26 (by decide)) (4)).trans (((congrFun (e58 26 (by decide)) (4)).trans (((congrFun (e54 26 (by decide)) (4)).trans (Eq.trans (congrFun (upd2_ne (by decide)) (4)) (Eq.trans (congrFun (upd2_ne (by decide)) (4)) (((congrFun (e50 26 (by decide)) (4)).trans (((congrFun (e46 26 (by decide)) (4)).trans (((congrFun (e42 26 (by decide)) (4)).trans (Eq.trans (congrFun (upd2_ne (by decide)) (4)) (Eq.trans (congrFun (upd2_ne (by decide)) (4)) (((congrFun (e38 26 (by decide)) (4)).trans (((congrFun (e34 26 (by decide)) (4)).trans (((congrFun (e30 26 (by decide)) (4)).trans (Eq.trans (congrFun (upd2_ne (by decide)) (4)) (Eq.trans (congrFun (upd2_ne (by decide)) (4)) (((congrFun (e26 26 (by decide)) (4)).trans (((congrFun (e22 26 (by decide)) (4)).trans (((congrFun (e18 26 (by decide)) (4)).trans (Eq.trans (congrFun (upd2_ne (by decide)) (4)) (Eq.trans (congrFun (upd2_ne (by decide)) (4)) (((congrFun (e14 26 (by decide)) (4)).trans (((congrFun (e10 26 (by decide)) (4)).trans (((congrFun (e6 26 (by decide)) (4)).trans (Eq.trans (congrFun (upd2_ne (by decide)) (4)) (Eq.trans (congrFun (upd2_ne (by decide)) (4)) (f11)))))))))))))))))))))))))))))))))))))))))))))))))))))))))))))))))))))))))))))))))))))) ?_
          refine aw_puti fl_W_26 kc_107 (by decide) rfl rfl rfl rfl d_W_copyFrom_13 ?_
          refine aw_aload_n rfl rfl d_W_copyFrom_16 ?_
          refine aw_getr fl_W_9 kc_26 (by decide) rfl rc_26_0 d_W_copyFrom_17 ?_
          refine aw_iconst (v := nI 0) ci_0 d_W_copyFrom_20 ?_
          refine aw_aload_n rfl rfl d_W_copyFrom_21 ?_
          refine aw_getr fl_W_9 kc_107 (by decide) rfl rc_107_0 d_W_copyFrom_22 ?_
          refine aw_iconst (v := nI 0) ci_0 d_W_copyFrom_25 ?_
          refine aw_sipush (v := nI 400) cs_400 d_W_copyFrom_26 ?_
          refine as_copy0 (n := 400) lka_W_29 ac_nat ac_sta ac_ini kc_27 kc_108 (by omega) (by omega) (by omega) (by decide) rfl d_W_copyFrom_29 (fun J132 e133 e134 e135 => ?_)
          refine aw_aload_n rfl rfl d_W_copyFrom_32 ?_
          refine aw_getr fl_W_13 kc_26 (by decide) rfl rc_26_2 d_W_copyFrom_33 ?_
          refine aw_iconst (v := nI 0) ci_0 d_W_copyFrom_36 ?_
          refine aw_aload_n rfl rfl d_W_copyFrom_37 ?_
          refine aw_getr fl_W_13 kc_107 (by decide) rfl rc_107_2 d_W_copyFrom_38 ?_
          refine aw_iconst (v := nI 0) ci_0 d_W_copyFrom_41 ?_
          refine aw_bipush (v := nI 17) cb_17 d_W_copyFrom_42 ?_
          refine as_copy0 (n := 17) lka_W_29 ac_nat ac_sta ac_ini kc_28 kc_109 (by omega) (by omega) (by omega) (by decide) rfl d_W_copyFrom_44 (fun J136 e137 e138 e139 => ?_)
          refine aw_aload_n rfl rfl d_W_copyFrom_47 ?_
          refine aw_getr fl_W_16 kc_26 (by decide) rfl rc_26_3 d_W_copyFrom_48 ?_
          refine aw_iconst (v := nI 0) ci_0 d_W_copyFrom_51 ?_
          refine aw_aload_n rfl rfl d_W_copyFrom_52 ?_
          refine aw_getr fl_W_16 kc_107 (by decide) rfl rc_107_3 d_W_copyFrom_53 ?_
          refine aw_iconst (v := nI 0) ci_0 d_W_copyFrom_56 ?_
          refine aw_bipush (v := nI 16) cb_16 d_W_copyFrom_57 ?_
          refine as_copy0 (n := 16) lka_W_29 ac_nat ac_sta ac_ini kc_29 kc_110 (by omega) (by omega) (by omega) (by decide) rfl d_W_copyFrom_59 (fun J140 e141 e142 e143 => ?_)
          refine as_retv rfl d_W_copyFrom_62 ?_
          refine (show As l b 12 y_H_copyFrom KC RC _ (J140) 35 [.ref 82, .ref 1, .int (nI 2)] [] from ?_)
          refine aw_iinc (v := nI 3) (lv2 := [.ref 82, .ref 1, .int (nI 3)]) rfl (by decide +kernel) (by decide) rfl d_H_copyFrom_35 ?_
          refine aw_goto (tgt := 2) (by decide) d_H_copyFrom_38 ?_
          refine aw_iload_n rfl rfl d_H_copyFrom_2 ?_
          refine aw_aload_n rfl rfl d_H_copyFrom_3 ?_
          refine aw_getr fl_H_17 kc_82 (by decide) rfl rc_82_1 d_H_copyFrom_4 ?_
          refine aw_alen kc_84 (by decide) d_H_copyFrom_7 ?_
          refine aw_icmp_geI (tgt := 41) (3) (5) (by decide +kernel) (by decide +kernel) (by decide) d_H_copyFrom_8 (fun q => absurd q (by decide)) (fun _ => ?_)
          refine aw_iload_n rfl rfl d_H_copyFrom_11 ?_
          refine aw_aload_n rfl rfl d_H_copyFrom_12 ?_
          refine aw_getr fl_H_17 kc_1 (by decide) rfl rc_1_1 d_H_copyFrom_13 ?_
          refine aw_alen kc_3 (by decide) d_H_copyFrom_16 ?_
          refine aw_icmp_geI (tgt := 41) (3) (5) (by decide +kernel) (by decide +kernel) (by decide) d_H_copyFrom_17 (fun q => absurd q (by decide)) (fun _ => ?_)
          refine aw_aload_n rfl rfl d_H_copyFrom_20 ?_
          refine aw_getr fl_H_17 kc_82 (by decide) rfl rc_82_1 d_H_copyFrom_21 ?_
          refine aw_iload_n rfl rfl d_H_copyFrom_24 ?_
          refine aw_aald (j := 3) kc_84 (vp_in_nI (by decide) (by decide)) (nI_clamp (by decide)) rc_84_3 d_H_copyFrom_25 ?_
          refine aw_aload_n rfl rfl d_H_copyFrom_26 ?_
          refine aw_getr fl_H_17 kc_1 (by decide) rfl rc_1_1 d_H_copyFrom_27 ?_
          refine aw_iload_n rfl rfl d_H_copyFrom_30 ?_
          refine aw_aald (j := 3) kc_3 (vp_in_nI (by decide) (by decide)) (nI_clamp (by decide)) rc_3_3 d_H_copyFrom_31 ?_
          refine as_callV (as := [.ref 31]) (d' := 11) (q := ("SinglesUp$Law", zT3, 6)) mo_W_copyFrom lk_H_57 kc_112 rfl rfl rfl ⟨by decide, by decide⟩ rfl rfl (by decide) d_H_copyFrom_32 (Ss.of (show As l b 11 y_W_copyFrom KC RC _ (J140) 0 [.ref 112, .ref 31] [] from ?_))
          refine aw_aload_n rfl rfl d_W_copyFrom_0 ?_
          refine aw_aload_n rfl rfl d_W_copyFrom_1 ?_
          refine aw_geti fl_W_22 kc_31 (by decide) rfl d_W_copyFrom_2 ?_
          refine aw_puti fl_W_22 kc_112 (by decide) rfl rfl rfl rfl d_W_copyFrom_5 ?_
          refine aw_aload_n rfl rfl d_W_copyFrom_8 ?_
          refine aw_aload_n rfl rfl d_W_copyFrom_9 ?_
          refine aw_geti fl_W_26 kc_31 (by decide) rfl d_W_copyFrom_10 ?_
          refine aw_top (x2 := nI 0) (Eq.trans (congrFun (upd2_ne (by decide)) (4)) (((congrFun (e141 31 (by decide)) (4)).trans (((congrFun (e137 31 (by decide)) (4)).trans (((congrFun (e133 31 (by decide)) (4)).trans (Eq.trans (congrFun (upd2_ne (by decide)) (4)) (Eq.trans (congrFun (upd2_ne (by decide)) (4)) (((congrFun (e129 31 (by decide)) (4)).trans (((congrFun (e125 31 (by decide)) (4)).trans (((congrFun (e121 31 (by decide)) (4)).trans (Eq.trans (congrFun (upd2_ne (by decide)) (4)) (Eq.trans (congrFun (upd2_ne (by decide)) (4)) (((congrFun (e117 31 (by decide)) (4)).trans (((congrFun (e113 31 (by decide)) (4)).trans (((congrFun (e109 31 (by decide)) (4)).trans (Eq.trans (congrFun (upd2_ne (by decide)) (4)) (Eq.trans (congrFun (upd2_ne (by decide)) (4)) (((congrFun (fr107 31 (by decide)) (4)).trans (Eq.trans (congrFun (upd2_ne (by decide)) (4)) (Eq.trans (congrFun (upd2_ne (by decide)) (4)) (Eq.trans (congrFun (upd2_ne (by decide)) (4)) (Eq.trans (congrFun (upd2_ne (by decide)) (4)) (Eq.trans (congrFun (upd2_ne (by decide)) (4)) (Eq.trans (congrFun (upd2_ne (by decide)) (4)) (((congrFun (e102 31 (by decide)) (4)).trans (((congrFun (e98 31 (by decide)) (4)).trans (((congrFun (e94 31 (by decide)) (4)).trans (((congrFun (e90 31 (by decide)) (4)).trans (((congrFun (e86 31 (by decide)) (4)).trans (((congrFun (e82 31 (by decide)) (4)).trans (((congrFun (e78 31 (by decide)) (4)).trans (((congrFun (e74 31 (by decide)) (4)).trans (((congrFun (e70 31 (by decide)) (4)).trans (((congrFun (e66 31 (by decide)) (4)).trans (((congrFun (e62 31 (by decide)) (4)).trans (((congrFun (e58 31 (by decide)) (4)).trans (((congrFun (e54 31 (by decide)) (4)).trans (Eq.trans (congrFun (upd2_ne (by decide)) (4)) (Eq.trans (congrFun (upd2_ne (by decide)) (4)) (((congrFun (e50 31 (by decide)) (4)).trans (((congrFun (e46 31 (by decide)) (4)).trans (((congrFun (e42 31 (by decide)) (4)).trans (Eq.trans (congrFun (upd2_ne (by decide)) (4)) (Eq.trans (congrFun (upd2_ne (by decide)) (4)) (((congrFun (e38 31 (by decide)) (4)).trans (((congrFun (e34 31 (by decide)) (4)).trans (((congrFun (e30 31 (by decide)) (4)).trans (Eq.trans (congrFun (upd2_ne (by decide)) (4)) (Eq.trans (congrFun (upd2_ne (by decide)) (4)) (((congrFun (e26 31 (by decide)) (4)).trans (((congrFun (e22 31 (by decide)) (4)).trans (((congrFun (e18 31 (by decide)) (4)).trans (Eq.trans (congrFun (upd2_ne (by decide)) (4)) (Eq.trans (congrFun (upd2_ne (by decide)) (4)) (((congrFun (e14 31 (by decide)) (4)).trans (((congrFun (e10 31 (by decide)) (4)).trans (((congrFun (e6 31 (by decide)) (4)).trans (Eq.trans (congrFun (upd2_ne (by decide)) (4)) (Eq.trans (congrFun (upd2_ne (by decide)) (4)) (f12)))))))))))))))))))))))))))))))))))))))))))))))))))))))))))))))))))))))))))))))))))))))))))))) ?_
          refine aw_puti fl_W_26 kc_112 (by decide) rfl rfl rfl rfl d_W_copyFrom_13 ?_
          refine aw_aload_n rfl rfl d_W_copyFrom_16 ?_
          refine aw_getr fl_W_9 kc_31 (by decide) rfl rc_31_0 d_W_copyFrom_17 ?_
          refine aw_iconst (v := nI 0) ci_0 d_W_copyFrom_20 ?_
          refine aw_aload_n rfl rfl d_W_copyFrom_21 ?_
          refine aw_getr fl_W_9 kc_112 (by decide) rfl rc_112_0 d_W_copyFrom_22 ?_
          refine aw_iconst (v := nI 0) ci_0 d_W_copyFrom_25 ?_
          refine aw_sipush (v := nI 400) cs_400 d_W_copyFrom_26 ?_
          refine as_copy0 (n := 400) lka_W_29 ac_nat ac_sta ac_ini kc_32 kc_113 (by omega) (by omega) (by omega) (by decide) rfl d_W_copyFrom_29 (fun J144 e145 e146 e147 => ?_)
          refine aw_aload_n rfl rfl d_W_copyFrom_32 ?_
          refine aw_getr fl_W_13 kc_31 (by decide) rfl rc_31_2 d_W_copyFrom_33 ?_
          refine aw_iconst (v := nI 0) ci_0 d_W_copyFrom_36 ?_
          refine aw_aload_n rfl rfl d_W_copyFrom_37 ?_
          refine aw_getr fl_W_13 kc_112 (by decide) rfl rc_112_2 d_W_copyFrom_38 ?_
          refine aw_iconst (v := nI 0) ci_0 d_W_copyFrom_41 ?_
          refine aw_bipush (v := nI 17) cb_17 d_W_copyFrom_42 ?_
          refine as_copy0 (n := 17) lka_W_29 ac_nat ac_sta ac_ini kc_33 kc_114 (by omega) (by omega) (by omega) (by decide) rfl d_W_copyFrom_44 (fun J148 e149 e150 e151 => ?_)
          refine aw_aload_n rfl rfl d_W_copyFrom_47 ?_
          refine aw_getr fl_W_16 kc_31 (by decide) rfl rc_31_3 d_W_copyFrom_48 ?_
          refine aw_iconst (v := nI 0) ci_0 d_W_copyFrom_51 ?_
          refine aw_aload_n rfl rfl d_W_copyFrom_52 ?_
          refine aw_getr fl_W_16 kc_112 (by decide) rfl rc_112_3 d_W_copyFrom_53 ?_
          refine aw_iconst (v := nI 0) ci_0 d_W_copyFrom_56 ?_
          refine aw_bipush (v := nI 16) cb_16 d_W_copyFrom_57 ?_
          refine as_copy0 (n := 16) lka_W_29 ac_nat ac_sta ac_ini kc_34 kc_115 (by omega) (by omega) (by omega) (by decide) rfl d_W_copyFrom_59 (fun J152 e153 e154 e155 => ?_)
          refine as_retv rfl d_W_copyFrom_62 ?_
          refine (show As l b 12 y_H_copyFrom KC RC _ (J152) 35 [.ref 82, .ref 1, .int (nI 3)] [] from ?_)
          refine aw_iinc (v := nI 4) (lv2 := [.ref 82, .ref 1, .int (nI 4)]) rfl (by decide +kernel) (by decide) rfl d_H_copyFrom_35 ?_
          refine aw_goto (tgt := 2) (by decide) d_H_copyFrom_38 ?_
          refine aw_iload_n rfl rfl d_H_copyFrom_2 ?_
          refine aw_aload_n rfl rfl d_H_copyFrom_3 ?_
          refine aw_getr fl_H_17 kc_82 (by decide) rfl rc_82_1 d_H_copyFrom_4 ?_
          refine aw_alen kc_84 (by decide) d_H_copyFrom_7 ?_
          refine aw_icmp_geI (tgt := 41) (4) (5) (by decide +kernel) (by decide +kernel) (by decide) d_H_copyFrom_8 (fun q => absurd q (by decide)) (fun _ => ?_)
          refine aw_iload_n rfl rfl d_H_copyFrom_11 ?_
          refine aw_aload_n rfl rfl d_H_copyFrom_12 ?_
          refine aw_getr fl_H_17 kc_1 (by decide) rfl rc_1_1 d_H_copyFrom_13 ?_
          refine aw_alen kc_3 (by decide) d_H_copyFrom_16 ?_
          refine aw_icmp_geI (tgt := 41) (4) (5) (by decide +kernel) (by decide +kernel) (by decide) d_H_copyFrom_17 (fun q => absurd q (by decide)) (fun _ => ?_)
          refine aw_aload_n rfl rfl d_H_copyFrom_20 ?_
          refine aw_getr fl_H_17 kc_82 (by decide) rfl rc_82_1 d_H_copyFrom_21 ?_
          refine aw_iload_n rfl rfl d_H_copyFrom_24 ?_
          refine aw_aald (j := 4) kc_84 (vp_in_nI (by decide) (by decide)) (nI_clamp (by decide)) rc_84_4 d_H_copyFrom_25 ?_
          refine aw_aload_n rfl rfl d_H_copyFrom_26 ?_
          refine aw_getr fl_H_17 kc_1 (by decide) rfl rc_1_1 d_H_copyFrom_27 ?_
          refine aw_iload_n rfl rfl d_H_copyFrom_30 ?_
          refine aw_aald (j := 4) kc_3 (vp_in_nI (by decide) (by decide)) (nI_clamp (by decide)) rc_3_4 d_H_copyFrom_31 ?_
          refine as_callV (as := [.ref 36]) (d' := 11) (q := ("SinglesUp$Law", zT3, 6)) mo_W_copyFrom lk_H_57 kc_117 rfl rfl rfl ⟨by decide, by decide⟩ rfl rfl (by decide) d_H_copyFrom_32 (Ss.of (show As l b 11 y_W_copyFrom KC RC _ (J152) 0 [.ref 117, .ref 36] [] from ?_))
          refine aw_aload_n rfl rfl d_W_copyFrom_0 ?_
          refine aw_aload_n rfl rfl d_W_copyFrom_1 ?_
          refine aw_geti fl_W_22 kc_36 (by decide) rfl d_W_copyFrom_2 ?_
          refine aw_puti fl_W_22 kc_117 (by decide) rfl rfl rfl rfl d_W_copyFrom_5 ?_
          refine aw_aload_n rfl rfl d_W_copyFrom_8 ?_
          refine aw_aload_n rfl rfl d_W_copyFrom_9 ?_
          refine aw_geti fl_W_26 kc_36 (by decide) rfl d_W_copyFrom_10 ?_
          refine aw_top (x2 := nI 0) (Eq.trans (congrFun (upd2_ne (by decide)) (4)) (((congrFun (e153 36 (by decide)) (4)).trans (((congrFun (e149 36 (by decide)) (4)).trans (((congrFun (e145 36 (by decide)) (4)).trans (Eq.trans (congrFun (upd2_ne (by decide)) (4)) (Eq.trans (congrFun (upd2_ne (by decide)) (4)) (((congrFun (e141 36 (by decide)) (4)).trans (((congrFun (e137 36 (by decide)) (4)).trans (((congrFun (e133 36 (by decide)) (4)).trans (Eq.trans (congrFun (upd2_ne (by decide)) (4)) (Eq.trans (congrFun (upd2_ne (by decide)) (4)) (((congrFun (e129 36 (by decide)) (4)).trans (((congrFun (e125 36 (by decide)) (4)).trans (((congrFun (e121 36 (by decide)) (4)).trans (Eq.trans (congrFun (upd2_ne (by decide)) (4)) (Eq.trans (congrFun (upd2_ne (by decide)) (4)) (((congrFun (e117 36 (by decide)) (4)).trans (((congrFun (e113 36 (by decide)) (4)).trans (((congrFun (e109 36 (by decide)) (4)).trans (Eq.trans (congrFun (upd2_ne (by decide)) (4)) (Eq.trans (congrFun (upd2_ne (by decide)) (4)) (((congrFun (fr107 36 (by decide)) (4)).trans (Eq.trans (congrFun (upd2_ne (by decide)) (4)) (Eq.trans (congrFun (upd2_ne (by decide)) (4)) (Eq.trans (congrFun (upd2_ne (by decide)) (4)) (Eq.trans (congrFun (upd2_ne (by decide)) (4)) (Eq.trans (congrFun (upd2_ne (by decide)) (4)) (Eq.trans (congrFun (upd2_ne (by decide)) (4)) (((congrFun (e102 36 (by decide)) (4)).trans (((congrFun (e98 36 (by decide)) (4)).trans (((congrFun (e94 36 (by decide)) (4)).trans (((congrFun (e90 36 (by decide)) (4)).trans (((congrFun (e86 36 (by decide)) (4)).trans (((congrFun (e82 36 (by decide)) (4)).trans (((congrFun (e78 36 (by decide)) (4)).trans (((congrFun (e74 36 (by decide)) (4)).trans (((congrFun (e70 36 (by decide)) (4)).trans (((congrFun (e66 36 (by decide)) (4)).trans (((congrFun (e62 36 (by decide)) (4)).trans (((congrFun (e58 36 (by decide)) (4)).trans (((congrFun (e54 36 (by decide)) (4)).trans (Eq.trans (congrFun (upd2_ne (by decide)) (4)) (Eq.trans (congrFun (upd2_ne (by decide)) (4)) (((congrFun (e50 36 (by decide)) (4)).trans (((congrFun (e46 36 (by decide)) (4)).trans (((congrFun (e42 36 (by decide)) (4)).trans (Eq.trans (congrFun (upd2_ne (by decide)) (4)) (Eq.trans (congrFun (upd2_ne (by decide)) (4)) (((congrFun (e38 36 (by decide)) (4)).trans (((congrFun (e34 36 (by decide)) (4)).trans (((congrFun (e30 36 (by decide)) (4)).trans (Eq.trans (congrFun (upd2_ne (by decide)) (4)) (Eq.trans (congrFun (upd2_ne (by decide)) (4)) (((congrFun (e26 36 (by decide)) (4)).trans (((congrFun (e22 36 (by decide)) (4)).trans (((congrFun (e18 36 (by decide)) (4)).trans (Eq.trans (congrFun (upd2_ne (by decide)) (4)) (Eq.trans (congrFun (upd2_ne (by decide)) (4)) (((congrFun (e14 36 (by decide)) (4)).trans (((congrFun (e10 36 (by decide)) (4)).trans (((congrFun (e6 36 (by decide)) (4)).trans (Eq.trans (congrFun (upd2_ne (by decide)) (4)) (Eq.trans (congrFun (upd2_ne (by decide)) (4)) (f13)))))))))))))))))))))))))))))))))))))))))))))))))))))))))))))))))))))))))))))))))))))))))))))))))))))) ?_
          refine aw_puti fl_W_26 kc_117 (by decide) rfl rfl rfl rfl d_W_copyFrom_13 ?_
          refine aw_aload_n rfl rfl d_W_copyFrom_16 ?_
          refine aw_getr fl_W_9 kc_36 (by decide) rfl rc_36_0 d_W_copyFrom_17 ?_
          refine aw_iconst (v := nI 0) ci_0 d_W_copyFrom_20 ?_
          refine aw_aload_n rfl rfl d_W_copyFrom_21 ?_
          refine aw_getr fl_W_9 kc_117 (by decide) rfl rc_117_0 d_W_copyFrom_22 ?_
          refine aw_iconst (v := nI 0) ci_0 d_W_copyFrom_25 ?_
          refine aw_sipush (v := nI 400) cs_400 d_W_copyFrom_26 ?_
          refine as_copy0 (n := 400) lka_W_29 ac_nat ac_sta ac_ini kc_37 kc_118 (by omega) (by omega) (by omega) (by decide) rfl d_W_copyFrom_29 (fun J156 e157 e158 e159 => ?_)
          refine aw_aload_n rfl rfl d_W_copyFrom_32 ?_
          refine aw_getr fl_W_13 kc_36 (by decide) rfl rc_36_2 d_W_copyFrom_33 ?_
          refine aw_iconst (v := nI 0) ci_0 d_W_copyFrom_36 ?_
          refine aw_aload_n rfl rfl d_W_copyFrom_37 ?_
          refine aw_getr fl_W_13 kc_117 (by decide) rfl rc_117_2 d_W_copyFrom_38 ?_
          refine aw_iconst (v := nI 0) ci_0 d_W_copyFrom_41 ?_
          refine aw_bipush (v := nI 17) cb_17 d_W_copyFrom_42 ?_
          refine as_copy0 (n := 17) lka_W_29 ac_nat ac_sta ac_ini kc_38 kc_119 (by omega) (by omega) (by omega) (by decide) rfl d_W_copyFrom_44 (fun J160 e161 e162 e163 => ?_)
          refine aw_aload_n rfl rfl d_W_copyFrom_47 ?_
          refine aw_getr fl_W_16 kc_36 (by decide) rfl rc_36_3 d_W_copyFrom_48 ?_
          refine aw_iconst (v := nI 0) ci_0 d_W_copyFrom_51 ?_
          refine aw_aload_n rfl rfl d_W_copyFrom_52 ?_
          refine aw_getr fl_W_16 kc_117 (by decide) rfl rc_117_3 d_W_copyFrom_53 ?_
          refine aw_iconst (v := nI 0) ci_0 d_W_copyFrom_56 ?_
          refine aw_bipush (v := nI 16) cb_16 d_W_copyFrom_57 ?_
          refine as_copy0 (n := 16) lka_W_29 ac_nat ac_sta ac_ini kc_39 kc_120 (by omega) (by omega) (by omega) (by decide) rfl d_W_copyFrom_59 (fun J164 e165 e166 e167 => ?_)
          refine as_retv rfl d_W_copyFrom_62 ?_
          refine (show As l b 12 y_H_copyFrom KC RC _ (J164) 35 [.ref 82, .ref 1, .int (nI 4)] [] from ?_)
          refine aw_iinc (v := nI 5) (lv2 := [.ref 82, .ref 1, .int (nI 5)]) rfl (by decide +kernel) (by decide) rfl d_H_copyFrom_35 ?_
          refine aw_goto (tgt := 2) (by decide) d_H_copyFrom_38 ?_
          refine aw_iload_n rfl rfl d_H_copyFrom_2 ?_
          refine aw_aload_n rfl rfl d_H_copyFrom_3 ?_
          refine aw_getr fl_H_17 kc_82 (by decide) rfl rc_82_1 d_H_copyFrom_4 ?_
          refine aw_alen kc_84 (by decide) d_H_copyFrom_7 ?_
          refine aw_icmp_geI (tgt := 41) (5) (5) (by decide +kernel) (by decide +kernel) (by decide) d_H_copyFrom_8 (fun _ => ?_) (fun q => absurd q (by decide))
          refine aw_aload_n rfl rfl d_H_copyFrom_41 ?_
          refine aw_getr fl_H_33 kc_82 (by decide) rfl rc_82_5 d_H_copyFrom_42 ?_
          refine aw_aload_n rfl rfl d_H_copyFrom_45 ?_
          refine aw_getr fl_H_33 kc_1 (by decide) rfl rc_1_5 d_H_copyFrom_46 ?_
          refine as_callV (as := [.ref 7]) (d' := 11) (q := ("SinglesUp$Lines", zT4, 3)) mo_L_copyFrom lk_H_61 kc_88 rfl rfl rfl ⟨by decide, by decide⟩ rfl rfl (by decide) d_H_copyFrom_49 (Ss.of (show As l b 11 y_L_copyFrom KC RC _ (J164) 0 [.ref 88, .ref 7] [] from ?_))
          refine aw_aload_n rfl rfl d_L_copyFrom_0 ?_
          refine aw_getr fl_L_9 kc_7 (by decide) rfl rc_7_0 d_L_copyFrom_1 ?_
          refine aw_iconst (v := nI 0) ci_0 d_L_copyFrom_4 ?_
          refine aw_aload_n rfl rfl d_L_copyFrom_5 ?_
          refine aw_getr fl_L_9 kc_88 (by decide) rfl rc_88_0 d_L_copyFrom_6 ?_
          refine aw_iconst (v := nI 0) ci_0 d_L_copyFrom_9 ?_
          refine aw_aload_n rfl rfl d_L_copyFrom_10 ?_
          refine aw_getr fl_L_9 kc_88 (by decide) rfl rc_88_0 d_L_copyFrom_11 ?_
          refine aw_alen kc_89 (by decide) d_L_copyFrom_14 ?_
          refine as_copy0 (n := 1440) lka_L_27 ac_nat ac_sta ac_ini kc_8 kc_89 (by omega) (by omega) (by omega) (by decide) rfl d_L_copyFrom_15 (fun J168 e169 e170 e171 => ?_)
          refine aw_aload_n rfl rfl d_L_copyFrom_18 ?_
          refine aw_getr fl_L_15 kc_7 (by decide) rfl rc_7_1 d_L_copyFrom_19 ?_
          refine aw_iconst (v := nI 0) ci_0 d_L_copyFrom_22 ?_
          refine aw_aload_n rfl rfl d_L_copyFrom_23 ?_
          refine aw_getr fl_L_15 kc_88 (by decide) rfl rc_88_1 d_L_copyFrom_24 ?_
          refine aw_iconst (v := nI 0) ci_0 d_L_copyFrom_27 ?_
          refine aw_bipush (v := nI 6) cb_6 d_L_copyFrom_28 ?_
          refine as_copy0 (n := 6) lka_L_27 ac_nat ac_sta ac_ini kc_9 kc_90 (by omega) (by omega) (by omega) (by decide) rfl d_L_copyFrom_30 (fun J172 e173 e174 e175 => ?_)
          refine aw_aload_n rfl rfl d_L_copyFrom_33 ?_
          refine aw_getr fl_L_18 kc_7 (by decide) rfl rc_7_2 d_L_copyFrom_34 ?_
          refine aw_iconst (v := nI 0) ci_0 d_L_copyFrom_37 ?_
          refine aw_aload_n rfl rfl d_L_copyFrom_38 ?_
          refine aw_getr fl_L_18 kc_88 (by decide) rfl rc_88_2 d_L_copyFrom_39 ?_
          refine aw_iconst (v := nI 0) ci_0 d_L_copyFrom_42 ?_
          refine aw_bipush (v := nI 6) cb_6 d_L_copyFrom_43 ?_
          refine as_copy0 (n := 6) lka_L_27 ac_nat ac_sta ac_ini kc_10 kc_91 (by omega) (by omega) (by omega) (by decide) rfl d_L_copyFrom_45 (fun J176 e177 e178 e179 => ?_)
          refine as_retv rfl d_L_copyFrom_48 ?_
          refine (show As l b 12 y_H_copyFrom KC RC _ (J176) 52 [.ref 82, .ref 1, .int (nI 5)] [] from ?_)
          refine aw_aload_n rfl rfl d_H_copyFrom_52 ?_
          refine aw_getr fl_H_9 kc_1 (by decide) rfl rc_1_0 d_H_copyFrom_53 ?_
          refine aw_iconst (v := nI 0) ci_0 d_H_copyFrom_56 ?_
          refine aw_aload_n rfl rfl d_H_copyFrom_57 ?_
          refine aw_getr fl_H_9 kc_82 (by decide) rfl rc_82_0 d_H_copyFrom_58 ?_
          refine aw_iconst (v := nI 0) ci_0 d_H_copyFrom_61 ?_
          refine aw_aload_n rfl rfl d_H_copyFrom_62 ?_
          refine aw_getr fl_H_9 kc_82 (by decide) rfl rc_82_0 d_H_copyFrom_63 ?_
          refine aw_alen kc_83 (by decide) d_H_copyFrom_66 ?_
          refine as_copy0 (n := 6) lka_H_64 ac_nat ac_sta ac_ini kc_2 kc_83 (by omega) (by omega) (by omega) (by decide) rfl d_H_copyFrom_67 (fun J180 e181 e182 e183 => ?_)
          refine aw_aload_n rfl rfl d_H_copyFrom_70 ?_
          refine aw_getr fl_H_21 kc_1 (by decide) rfl rc_1_2 d_H_copyFrom_71 ?_
          refine aw_iconst (v := nI 0) ci_0 d_H_copyFrom_74 ?_
          refine aw_aload_n rfl rfl d_H_copyFrom_75 ?_
          refine aw_getr fl_H_21 kc_82 (by decide) rfl rc_82_2 d_H_copyFrom_76 ?_
          refine aw_iconst (v := nI 0) ci_0 d_H_copyFrom_79 ?_
          refine aw_aload_n rfl rfl d_H_copyFrom_80 ?_
          refine aw_getr fl_H_21 kc_82 (by decide) rfl rc_82_2 d_H_copyFrom_81 ?_
          refine aw_alen kc_85 (by decide) d_H_copyFrom_84 ?_
          refine as_copy0 (n := 9) lka_H_64 ac_nat ac_sta ac_ini kc_4 kc_85 (by omega) (by omega) (by omega) (by decide) rfl d_H_copyFrom_85 (fun J184 e185 e186 e187 => ?_)
          refine aw_aload_n rfl rfl d_H_copyFrom_88 ?_
          refine aw_getr fl_H_24 kc_1 (by decide) rfl rc_1_3 d_H_copyFrom_89 ?_
          refine aw_iconst (v := nI 0) ci_0 d_H_copyFrom_92 ?_
          refine aw_aload_n rfl rfl d_H_copyFrom_93 ?_
          refine aw_getr fl_H_24 kc_82 (by decide) rfl rc_82_3 d_H_copyFrom_94 ?_
          refine aw_iconst (v := nI 0) ci_0 d_H_copyFrom_97 ?_
          refine aw_aload_n rfl rfl d_H_copyFrom_98 ?_
          refine aw_getr fl_H_24 kc_82 (by decide) rfl rc_82_3 d_H_copyFrom_99 ?_
          refine aw_alen kc_86 (by decide) d_H_copyFrom_102 ?_
          refine as_copy0 (n := 32) lka_H_64 ac_nat ac_sta ac_ini kc_5 kc_86 (by omega) (by omega) (by omega) (by decide) rfl d_H_copyFrom_103 (fun J188 e189 e190 e191 => ?_)
          refine aw_aload_n rfl rfl d_H_copyFrom_106 ?_
          refine aw_getr fl_H_27 kc_1 (by decide) rfl rc_1_4 d_H_copyFrom_107 ?_
          refine aw_iconst (v := nI 0) ci_0 d_H_copyFrom_110 ?_
          refine aw_aload_n rfl rfl d_H_copyFrom_111 ?_
          refine aw_getr fl_H_27 kc_82 (by decide) rfl rc_82_4 d_H_copyFrom_112 ?_
          refine aw_iconst (v := nI 0) ci_0 d_H_copyFrom_115 ?_
          refine aw_aload_n rfl rfl d_H_copyFrom_116 ?_
          refine aw_getr fl_H_27 kc_82 (by decide) rfl rc_82_4 d_H_copyFrom_117 ?_
          refine aw_alen kc_87 (by decide) d_H_copyFrom_120 ?_
          refine as_copy0 (n := 9) lka_H_64 ac_nat ac_sta ac_ini kc_6 kc_87 (by omega) (by omega) (by omega) (by decide) rfl d_H_copyFrom_121 (fun J192 e193 e194 e195 => ?_)
          refine aw_aload_n rfl rfl d_H_copyFrom_124 ?_
          refine aw_getr fl_H_37 kc_1 (by decide) rfl rc_1_8 d_H_copyFrom_125 ?_
          refine aw_iconst (v := nI 0) ci_0 d_H_copyFrom_128 ?_
          refine aw_aload_n rfl rfl d_H_copyFrom_129 ?_
          refine aw_getr fl_H_37 kc_82 (by decide) rfl rc_82_8 d_H_copyFrom_130 ?_
          refine aw_iconst (v := nI 0) ci_0 d_H_copyFrom_133 ?_
          refine aw_aload_n rfl rfl d_H_copyFrom_134 ?_
          refine aw_getr fl_H_37 kc_82 (by decide) rfl rc_82_8 d_H_copyFrom_135 ?_
          refine aw_alen kc_92 (by decide) d_H_copyFrom_138 ?_
          refine as_copy0 (n := 40) lka_H_64 ac_nat ac_sta ac_ini kc_11 kc_92 (by omega) (by omega) (by omega) (by decide) rfl d_H_copyFrom_139 (fun J196 e197 e198 e199 => ?_)
          refine aw_aload_n rfl rfl d_H_copyFrom_142 ?_
          refine aw_getr fl_H_40 kc_1 (by decide) rfl rc_1_9 d_H_copyFrom_143 ?_
          refine aw_iconst (v := nI 0) ci_0 d_H_copyFrom_146 ?_
          refine aw_aload_n rfl rfl d_H_copyFrom_147 ?_
          refine aw_getr fl_H_40 kc_82 (by decide) rfl rc_82_9 d_H_copyFrom_148 ?_
          refine aw_iconst (v := nI 0) ci_0 d_H_copyFrom_151 ?_
          refine aw_aload_n rfl rfl d_H_copyFrom_152 ?_
          refine aw_getr fl_H_40 kc_82 (by decide) rfl rc_82_9 d_H_copyFrom_153 ?_
          refine aw_alen kc_93 (by decide) d_H_copyFrom_156 ?_
          refine as_copy0 (n := 30) lka_H_64 ac_nat ac_sta ac_ini kc_12 kc_93 (by omega) (by omega) (by omega) (by decide) rfl d_H_copyFrom_157 (fun J200 e201 e202 e203 => ?_)
          refine aw_aload_n rfl rfl d_H_copyFrom_160 ?_
          refine aw_getr fl_H_43 kc_1 (by decide) rfl rc_1_10 d_H_copyFrom_161 ?_
          refine aw_iconst (v := nI 0) ci_0 d_H_copyFrom_164 ?_
          refine aw_aload_n rfl rfl d_H_copyFrom_165 ?_
          refine aw_getr fl_H_43 kc_82 (by decide) rfl rc_82_10 d_H_copyFrom_166 ?_
          refine aw_iconst (v := nI 0) ci_0 d_H_copyFrom_169 ?_
          refine aw_aload_n rfl rfl d_H_copyFrom_170 ?_
          refine aw_getr fl_H_43 kc_82 (by decide) rfl rc_82_10 d_H_copyFrom_171 ?_
          refine aw_alen kc_94 (by decide) d_H_copyFrom_174 ?_
          refine as_copy0 (n := 180) lka_H_64 ac_nat ac_sta ac_ini kc_13 kc_94 (by omega) (by omega) (by omega) (by decide) rfl d_H_copyFrom_175 (fun J204 e205 e206 e207 => ?_)
          refine aw_aload_n rfl rfl d_H_copyFrom_178 ?_
          refine aw_aload_n rfl rfl d_H_copyFrom_179 ?_
          refine aw_geti fl_H_70 kc_1 (by decide) rfl d_H_copyFrom_180 ?_
          refine aw_top (x2 := nI 0) (((congrFun (e205 1 (by decide)) (6)).trans (((congrFun (e201 1 (by decide)) (6)).trans (((congrFun (e197 1 (by decide)) (6)).trans (((congrFun (e193 1 (by decide)) (6)).trans (((congrFun (e189 1 (by decide)) (6)).trans (((congrFun (e185 1 (by decide)) (6)).trans (((congrFun (e181 1 (by decide)) (6)).trans (((congrFun (e177 1 (by decide)) (6)).trans (((congrFun (e173 1 (by decide)) (6)).trans (((congrFun (e169 1 (by decide)) (6)).trans (((congrFun (e165 1 (by decide)) (6)).trans (((congrFun (e161 1 (by decide)) (6)).trans (((congrFun (e157 1 (by decide)) (6)).trans (Eq.trans (congrFun (upd2_ne (by decide)) (6)) (Eq.trans (congrFun (upd2_ne (by decide)) (6)) (((congrFun (e153 1 (by decide)) (6)).trans (((congrFun (e149 1 (by decide)) (6)).trans (((congrFun (e145 1 (by decide)) (6)).trans (Eq.trans (congrFun (upd2_ne (by decide)) (6)) (Eq.trans (congrFun (upd2_ne (by decide)) (6)) (((congrFun (e141 1 (by decide)) (6)).trans (((congrFun (e137 1 (by decide)) (6)).trans (((congrFun (e133 1 (by decide)) (6)).trans (Eq.trans (congrFun (upd2_ne (by decide)) (6)) (Eq.trans (congrFun (upd2_ne (by decide)) (6)) (((congrFun (e129 1 (by decide)) (6)).trans (((congrFun (e125 1 (by decide)) (6)).trans (((congrFun (e121 1 (by decide)) (6)).trans (Eq.trans (congrFun (upd2_ne (by decide)) (6)) (Eq.trans (congrFun (upd2_ne (by decide)) (6)) (((congrFun (e117 1 (by decide)) (6)).trans (((congrFun (e113 1 (by decide)) (6)).trans (((congrFun (e109 1 (by decide)) (6)).trans (Eq.trans (congrFun (upd2_ne (by decide)) (6)) (Eq.trans (congrFun (upd2_ne (by decide)) (6)) (((congrFun (fr107 1 (by decide)) (6)).trans (Eq.trans (congrFun (upd2_ne (by decide)) (6)) (Eq.trans (congrFun (upd2_ne (by decide)) (6)) (Eq.trans (congrFun (upd2_ne (by decide)) (6)) (Eq.trans (congrFun (upd2_ne (by decide)) (6)) (Eq.trans (congrFun (upd2_ne (by decide)) (6)) (Eq.trans (congrFun (upd2_ne (by decide)) (6)) (((congrFun (e102 1 (by decide)) (6)).trans (((congrFun (e98 1 (by decide)) (6)).trans (((congrFun (e94 1 (by decide)) (6)).trans (((congrFun (e90 1 (by decide)) (6)).trans (((congrFun (e86 1 (by decide)) (6)).trans (((congrFun (e82 1 (by decide)) (6)).trans (((congrFun (e78 1 (by decide)) (6)).trans (((congrFun (e74 1 (by decide)) (6)).trans (((congrFun (e70 1 (by decide)) (6)).trans (((congrFun (e66 1 (by decide)) (6)).trans (((congrFun (e62 1 (by decide)) (6)).trans (((congrFun (e58 1 (by decide)) (6)).trans (((congrFun (e54 1 (by decide)) (6)).trans (Eq.trans (congrFun (upd2_ne (by decide)) (6)) (Eq.trans (congrFun (upd2_ne (by decide)) (6)) (((congrFun (e50 1 (by decide)) (6)).trans (((congrFun (e46 1 (by decide)) (6)).trans (((congrFun (e42 1 (by decide)) (6)).trans (Eq.trans (congrFun (upd2_ne (by decide)) (6)) (Eq.trans (congrFun (upd2_ne (by decide)) (6)) (((congrFun (e38 1 (by decide)) (6)).trans (((congrFun (e34 1 (by decide)) (6)).trans (((congrFun (e30 1 (by decide)) (6)).trans (Eq.trans (congrFun (upd2_ne (by decide)) (6)) (Eq.trans (congrFun (upd2_ne (by decide)) (6)) (((congrFun (e26 1 (by decide)) (6)).trans (((congrFun (e22 1 (by decide)) (6)).trans (((congrFun (e18 1 (by decide)) (6)).trans (Eq.trans (congrFun (upd2_ne (by decide)) (6)) (Eq.trans (congrFun (upd2_ne (by decide)) (6)) (((congrFun (e14 1 (by decide)) (6)).trans (((congrFun (e10 1 (by decide)) (6)).trans (((congrFun (e6 1 (by decide)) (6)).trans (Eq.trans (congrFun (upd2_ne (by decide)) (6)) (Eq.trans (congrFun (upd2_ne (by decide)) (6)) (r6))))))))))))))))))))))))))))))))))))))))))))))))))))))))))))))))))))))))))))))))))))))))))))))))))))))))))))))))))))))))))))))))) ?_
          refine aw_puti fl_H_70 kc_82 (by decide) rfl rfl rfl rfl d_H_copyFrom_183 ?_
          refine aw_aload_n rfl rfl d_H_copyFrom_186 ?_
          refine aw_aload_n rfl rfl d_H_copyFrom_187 ?_
          refine aw_geti fl_H_73 kc_1 (by decide) rfl d_H_copyFrom_188 ?_
          refine aw_top (x2 := nI 0) (Eq.trans (congrFun (upd2_ne (by decide)) (7)) (((congrFun (e205 1 (by decide)) (7)).trans (((congrFun (e201 1 (by decide)) (7)).trans (((congrFun (e197 1 (by decide)) (7)).trans (((congrFun (e193 1 (by decide)) (7)).trans (((congrFun (e189 1 (by decide)) (7)).trans (((congrFun (e185 1 (by decide)) (7)).trans (((congrFun (e181 1 (by decide)) (7)).trans (((congrFun (e177 1 (by decide)) (7)).trans (((congrFun (e173 1 (by decide)) (7)).trans (((congrFun (e169 1 (by decide)) (7)).trans (((congrFun (e165 1 (by decide)) (7)).trans (((congrFun (e161 1 (by decide)) (7)).trans (((congrFun (e157 1 (by decide)) (7)).trans (Eq.trans (congrFun (upd2_ne (by decide)) (7)) (Eq.trans (congrFun (upd2_ne (by decide)) (7)) (((congrFun (e153 1 (by decide)) (7)).trans (((congrFun (e149 1 (by decide)) (7)).trans (((congrFun (e145 1 (by decide)) (7)).trans (Eq.trans (congrFun (upd2_ne (by decide)) (7)) (Eq.trans (congrFun (upd2_ne (by decide)) (7)) (((congrFun (e141 1 (by decide)) (7)).trans (((congrFun (e137 1 (by decide)) (7)).trans (((congrFun (e133 1 (by decide)) (7)).trans (Eq.trans (congrFun (upd2_ne (by decide)) (7)) (Eq.trans (congrFun (upd2_ne (by decide)) (7)) (((congrFun (e129 1 (by decide)) (7)).trans (((congrFun (e125 1 (by decide)) (7)).trans (((congrFun (e121 1 (by decide)) (7)).trans (Eq.trans (congrFun (upd2_ne (by decide)) (7)) (Eq.trans (congrFun (upd2_ne (by decide)) (7)) (((congrFun (e117 1 (by decide)) (7)).trans (((congrFun (e113 1 (by decide)) (7)).trans (((congrFun (e109 1 (by decide)) (7)).trans (Eq.trans (congrFun (upd2_ne (by decide)) (7)) (Eq.trans (congrFun (upd2_ne (by decide)) (7)) (((congrFun (fr107 1 (by decide)) (7)).trans (Eq.trans (congrFun (upd2_ne (by decide)) (7)) (Eq.trans (congrFun (upd2_ne (by decide)) (7)) (Eq.trans (congrFun (upd2_ne (by decide)) (7)) (Eq.trans (congrFun (upd2_ne (by decide)) (7)) (Eq.trans (congrFun (upd2_ne (by decide)) (7)) (Eq.trans (congrFun (upd2_ne (by decide)) (7)) (((congrFun (e102 1 (by decide)) (7)).trans (((congrFun (e98 1 (by decide)) (7)).trans (((congrFun (e94 1 (by decide)) (7)).trans (((congrFun (e90 1 (by decide)) (7)).trans (((congrFun (e86 1 (by decide)) (7)).trans (((congrFun (e82 1 (by decide)) (7)).trans (((congrFun (e78 1 (by decide)) (7)).trans (((congrFun (e74 1 (by decide)) (7)).trans (((congrFun (e70 1 (by decide)) (7)).trans (((congrFun (e66 1 (by decide)) (7)).trans (((congrFun (e62 1 (by decide)) (7)).trans (((congrFun (e58 1 (by decide)) (7)).trans (((congrFun (e54 1 (by decide)) (7)).trans (Eq.trans (congrFun (upd2_ne (by decide)) (7)) (Eq.trans (congrFun (upd2_ne (by decide)) (7)) (((congrFun (e50 1 (by decide)) (7)).trans (((congrFun (e46 1 (by decide)) (7)).trans (((congrFun (e42 1 (by decide)) (7)).trans (Eq.trans (congrFun (upd2_ne (by decide)) (7)) (Eq.trans (congrFun (upd2_ne (by decide)) (7)) (((congrFun (e38 1 (by decide)) (7)).trans (((congrFun (e34 1 (by decide)) (7)).trans (((congrFun (e30 1 (by decide)) (7)).trans (Eq.trans (congrFun (upd2_ne (by decide)) (7)) (Eq.trans (congrFun (upd2_ne (by decide)) (7)) (((congrFun (e26 1 (by decide)) (7)).trans (((congrFun (e22 1 (by decide)) (7)).trans (((congrFun (e18 1 (by decide)) (7)).trans (Eq.trans (congrFun (upd2_ne (by decide)) (7)) (Eq.trans (congrFun (upd2_ne (by decide)) (7)) (((congrFun (e14 1 (by decide)) (7)).trans (((congrFun (e10 1 (by decide)) (7)).trans (((congrFun (e6 1 (by decide)) (7)).trans (Eq.trans (congrFun (upd2_ne (by decide)) (7)) (Eq.trans (congrFun (upd2_ne (by decide)) (7)) (r7)))))))))))))))))))))))))))))))))))))))))))))))))))))))))))))))))))))))))))))))))))))))))))))))))))))))))))))))))))))))))))))))))) ?_
          refine aw_puti fl_H_73 kc_82 (by decide) rfl rfl rfl rfl d_H_copyFrom_191 ?_
          refine aw_aload_n rfl rfl d_H_copyFrom_194 ?_
          refine aw_aload_n rfl rfl d_H_copyFrom_195 ?_
          refine aw_geti fl_H_46 kc_1 (by decide) rfl d_H_copyFrom_196 ?_
          refine aw_top (x2 := (-1 : Int32)) (Eq.trans (congrFun (upd2_ne (by decide)) (11)) (Eq.trans (congrFun (upd2_ne (by decide)) (11)) (((congrFun (e205 1 (by decide)) (11)).trans (((congrFun (e201 1 (by decide)) (11)).trans (((congrFun (e197 1 (by decide)) (11)).trans (((congrFun (e193 1 (by decide)) (11)).trans (((congrFun (e189 1 (by decide)) (11)).trans (((congrFun (e185 1 (by decide)) (11)).trans (((congrFun (e181 1 (by decide)) (11)).trans (((congrFun (e177 1 (by decide)) (11)).trans (((congrFun (e173 1 (by decide)) (11)).trans (((congrFun (e169 1 (by decide)) (11)).trans (((congrFun (e165 1 (by decide)) (11)).trans (((congrFun (e161 1 (by decide)) (11)).trans (((congrFun (e157 1 (by decide)) (11)).trans (Eq.trans (congrFun (upd2_ne (by decide)) (11)) (Eq.trans (congrFun (upd2_ne (by decide)) (11)) (((congrFun (e153 1 (by decide)) (11)).trans (((congrFun (e149 1 (by decide)) (11)).trans (((congrFun (e145 1 (by decide)) (11)).trans (Eq.trans (congrFun (upd2_ne (by decide)) (11)) (Eq.trans (congrFun (upd2_ne (by decide)) (11)) (((congrFun (e141 1 (by decide)) (11)).trans (((congrFun (e137 1 (by decide)) (11)).trans (((congrFun (e133 1 (by decide)) (11)).trans (Eq.trans (congrFun (upd2_ne (by decide)) (11)) (Eq.trans (congrFun (upd2_ne (by decide)) (11)) (((congrFun (e129 1 (by decide)) (11)).trans (((congrFun (e125 1 (by decide)) (11)).trans (((congrFun (e121 1 (by decide)) (11)).trans (Eq.trans (congrFun (upd2_ne (by decide)) (11)) (Eq.trans (congrFun (upd2_ne (by decide)) (11)) (((congrFun (e117 1 (by decide)) (11)).trans (((congrFun (e113 1 (by decide)) (11)).trans (((congrFun (e109 1 (by decide)) (11)).trans (Eq.trans (congrFun (upd2_ne (by decide)) (11)) (Eq.trans (congrFun (upd2_ne (by decide)) (11)) (((congrFun (fr107 1 (by decide)) (11)).trans (Eq.trans (congrFun (upd2_ne (by decide)) (11)) (Eq.trans (congrFun (upd2_ne (by decide)) (11)) (Eq.trans (congrFun (upd2_ne (by decide)) (11)) (Eq.trans (congrFun (upd2_ne (by decide)) (11)) (Eq.trans (congrFun (upd2_ne (by decide)) (11)) (Eq.trans (congrFun (upd2_ne (by decide)) (11)) (((congrFun (e102 1 (by decide)) (11)).trans (((congrFun (e98 1 (by decide)) (11)).trans (((congrFun (e94 1 (by decide)) (11)).trans (((congrFun (e90 1 (by decide)) (11)).trans (((congrFun (e86 1 (by decide)) (11)).trans (((congrFun (e82 1 (by decide)) (11)).trans (((congrFun (e78 1 (by decide)) (11)).trans (((congrFun (e74 1 (by decide)) (11)).trans (((congrFun (e70 1 (by decide)) (11)).trans (((congrFun (e66 1 (by decide)) (11)).trans (((congrFun (e62 1 (by decide)) (11)).trans (((congrFun (e58 1 (by decide)) (11)).trans (((congrFun (e54 1 (by decide)) (11)).trans (Eq.trans (congrFun (upd2_ne (by decide)) (11)) (Eq.trans (congrFun (upd2_ne (by decide)) (11)) (((congrFun (e50 1 (by decide)) (11)).trans (((congrFun (e46 1 (by decide)) (11)).trans (((congrFun (e42 1 (by decide)) (11)).trans (Eq.trans (congrFun (upd2_ne (by decide)) (11)) (Eq.trans (congrFun (upd2_ne (by decide)) (11)) (((congrFun (e38 1 (by decide)) (11)).trans (((congrFun (e34 1 (by decide)) (11)).trans (((congrFun (e30 1 (by decide)) (11)).trans (Eq.trans (congrFun (upd2_ne (by decide)) (11)) (Eq.trans (congrFun (upd2_ne (by decide)) (11)) (((congrFun (e26 1 (by decide)) (11)).trans (((congrFun (e22 1 (by decide)) (11)).trans (((congrFun (e18 1 (by decide)) (11)).trans (Eq.trans (congrFun (upd2_ne (by decide)) (11)) (Eq.trans (congrFun (upd2_ne (by decide)) (11)) (((congrFun (e14 1 (by decide)) (11)).trans (((congrFun (e10 1 (by decide)) (11)).trans (((congrFun (e6 1 (by decide)) (11)).trans (Eq.trans (congrFun (upd2_ne (by decide)) (11)) (Eq.trans (congrFun (upd2_ne (by decide)) (11)) (r11))))))))))))))))))))))))))))))))))))))))))))))))))))))))))))))))))))))))))))))))))))))))))))))))))))))))))))))))))))))))))))))))))) ?_
          refine aw_puti fl_H_46 kc_82 (by decide) rfl rfl rfl rfl d_H_copyFrom_199 ?_
          refine as_retv rfl d_H_copyFrom_202 ?_
          refine (show As l b 13 y_M_imagine KC RC _ (upd2 (upd2 (upd2 J204 82 6 (nI 0)) 82 7 (nI 0)) 82 11 ((-1 : Int32))) 8 [.ref 81, .ref 1, .int (nI 0), .int (nI 0), .int (nI 4), .int (nI (w4))] [] from ?_)
          refine aw_aload_n rfl rfl d_M_imagine_8 ?_
          refine aw_getr fl_M_12 kc_81 (by decide) rfl rc_81_0 d_M_imagine_9 ?_
          refine aw_getr fl_M_33 kc_82 (by decide) rfl rc_82_0 d_M_imagine_12 ?_
          refine aw_iconst (v := nI 5) ci_5 d_M_imagine_15 ?_
          refine aw_iload_n rfl rfl d_M_imagine_16 ?_
          refine aw_iast (j := 5) kc_83 (vp_in_nI (by decide) (by decide)) (nI_clamp (by decide)) d_M_imagine_17 ?_
          refine aw_aload_n rfl rfl d_M_imagine_18 ?_
          refine aw_getr fl_M_12 kc_81 (by decide) rfl rc_81_0 d_M_imagine_19 ?_
          refine aw_getr fl_M_33 kc_82 (by decide) rfl rc_82_0 d_M_imagine_22 ?_
          refine aw_iconst (v := nI 4) ci_4 d_M_imagine_25 ?_
          refine aw_iload_n rfl rfl d_M_imagine_26 ?_
          refine aw_iast (j := 4) kc_83 (vp_in_nI (by decide) (by decide)) (nI_clamp (by decide)) d_M_imagine_27 ?_
          refine aw_aload_n rfl rfl d_M_imagine_28 ?_
          refine aw_getr fl_M_12 kc_81 (by decide) rfl rc_81_0 d_M_imagine_29 ?_
          refine aw_getr fl_M_33 kc_82 (by decide) rfl rc_82_0 d_M_imagine_32 ?_
          refine aw_iconst (v := nI 0) ci_0 d_M_imagine_35 ?_
          refine aw_iload rfl d_M_imagine_36 ?_
          refine aw_iast (j := 0) kc_83 (vp_in_nI (by decide) (by decide)) (nI_clamp (by decide)) d_M_imagine_38 ?_
          refine aw_aload_n rfl rfl d_M_imagine_39 ?_
          refine aw_getr fl_M_21 kc_81 (by decide) rfl rc_81_1 d_M_imagine_40 ?_
          refine aw_aload_n rfl rfl d_M_imagine_43 ?_
          refine aw_getr fl_M_12 kc_81 (by decide) rfl rc_81_0 d_M_imagine_44 ?_
          refine aw_iload rfl d_M_imagine_47 ?_
          refine as_callV (as := [.ref 82, .int (nI (w4))]) (d' := 6) (q := ("SinglesUp$Chair", zT0, 12)) mo_C_turns lk_M_36 kc_122 rfl rfl rfl ⟨by decide, by decide⟩ rfl rfl (by decide) d_M_imagine_49 (sp_turns_122 (I := upd2 (upd2 (upd2 (upd2 (upd2 (upd2 J204 82 6 (nI 0)) 82 7 (nI 0)) 82 11 ((-1 : Int32))) 83 (5) (nI 0)) 83 (4) (nI 0)) 83 (0) (nI 4)) (s := 4) (ru := 0) (e := 0) (k := 0) (n0 := w4) (show FH 82 (upd2 (upd2 (upd2 (upd2 (upd2 (upd2 J204 82 6 (nI 0)) 82 7 (nI 0)) 82 11 ((-1 : Int32))) 83 (5) (nI 0)) 83 (4) (nI 0)) 83 (0) (nI 4)) (4) (0) (0) (0) from ⟨fun j hj => (Eq.trans (congrFun (upd2_ne (by decide)) (j)) (Eq.trans (congrFun (upd2_ne (by decide)) (j)) (Eq.trans (congrFun (upd2_ne (by decide)) (j)) (Eq.trans (congrFun (upd2_ne (by decide)) (j)) (Eq.trans (congrFun (upd2_ne (by decide)) (j)) (Eq.trans (congrFun (upd2_ne (by decide)) (j)) (((congrFun (e205 86 (by decide)) (j)).trans (((congrFun (e201 86 (by decide)) (j)).trans (((congrFun (e197 86 (by decide)) (j)).trans (((congrFun (e193 86 (by decide)) (j)).trans (((e190 (j) (by omega)).trans (((congrFun (e185 5 (by decide)) (j)).trans (((congrFun (e181 5 (by decide)) (j)).trans (((congrFun (e177 5 (by decide)) (j)).trans (((congrFun (e173 5 (by decide)) (j)).trans (((congrFun (e169 5 (by decide)) (j)).trans (((congrFun (e165 5 (by decide)) (j)).trans (((congrFun (e161 5 (by decide)) (j)).trans (((congrFun (e157 5 (by decide)) (j)).trans (Eq.trans (congrFun (upd2_ne (by decide)) (j)) (Eq.trans (congrFun (upd2_ne (by decide)) (j)) (((congrFun (e153 5 (by decide)) (j)).trans (((congrFun (e149 5 (by decide)) (j)).trans (((congrFun (e145 5 (by decide)) (j)).trans (Eq.trans (congrFun (upd2_ne (by decide)) (j)) (Eq.trans (congrFun (upd2_ne (by decide)) (j)) (((congrFun (e141 5 (by decide)) (j)).trans (((congrFun (e137 5 (by decide)) (j)).trans (((congrFun (e133 5 (by decide)) (j)).trans (Eq.trans (congrFun (upd2_ne (by decide)) (j)) (Eq.trans (congrFun (upd2_ne (by decide)) (j)) (((congrFun (e129 5 (by decide)) (j)).trans (((congrFun (e125 5 (by decide)) (j)).trans (((congrFun (e121 5 (by decide)) (j)).trans (Eq.trans (congrFun (upd2_ne (by decide)) (j)) (Eq.trans (congrFun (upd2_ne (by decide)) (j)) (((congrFun (e117 5 (by decide)) (j)).trans (((congrFun (e113 5 (by decide)) (j)).trans (((congrFun (e109 5 (by decide)) (j)).trans (Eq.trans (congrFun (upd2_ne (by decide)) (j)) (Eq.trans (congrFun (upd2_ne (by decide)) (j)) (((congrFun (fr107 5 (by decide)) (j)).trans (Eq.trans (congrFun (upd2_ne (by decide)) (j)) (Eq.trans (congrFun (upd2_ne (by decide)) (j)) (Eq.trans (congrFun (upd2_ne (by decide)) (j)) (Eq.trans (congrFun (upd2_ne (by decide)) (j)) (Eq.trans (congrFun (upd2_ne (by decide)) (j)) (Eq.trans (congrFun (upd2_ne (by decide)) (j)) (((congrFun (e102 5 (by decide)) (j)).trans (((congrFun (e98 5 (by decide)) (j)).trans (((congrFun (e94 5 (by decide)) (j)).trans (((congrFun (e90 5 (by decide)) (j)).trans (((congrFun (e86 5 (by decide)) (j)).trans (((congrFun (e82 5 (by decide)) (j)).trans (((congrFun (e78 5 (by decide)) (j)).trans (((congrFun (e74 5 (by decide)) (j)).trans (((congrFun (e70 5 (by decide)) (j)).trans (((congrFun (e66 5 (by decide)) (j)).trans (((congrFun (e62 5 (by decide)) (j)).trans (((congrFun (e58 5 (by decide)) (j)).trans (((congrFun (e54 5 (by decide)) (j)).trans (Eq.trans (congrFun (upd2_ne (by decide)) (j)) (Eq.trans (congrFun (upd2_ne (by decide)) (j)) (((congrFun (e50 5 (by decide)) (j)).trans (((congrFun (e46 5 (by decide)) (j)).trans (((congrFun (e42 5 (by decide)) (j)).trans (Eq.trans (congrFun (upd2_ne (by decide)) (j)) (Eq.trans (congrFun (upd2_ne (by decide)) (j)) (((congrFun (e38 5 (by decide)) (j)).trans (((congrFun (e34 5 (by decide)) (j)).trans (((congrFun (e30 5 (by decide)) (j)).trans (Eq.trans (congrFun (upd2_ne (by decide)) (j)) (Eq.trans (congrFun (upd2_ne (by decide)) (j)) (((congrFun (e26 5 (by decide)) (j)).trans (((congrFun (e22 5 (by decide)) (j)).trans (((congrFun (e18 5 (by decide)) (j)).trans (Eq.trans (congrFun (upd2_ne (by decide)) (j)) (Eq.trans (congrFun (upd2_ne (by decide)) (j)) (((congrFun (e14 5 (by decide)) (j)).trans (((congrFun (e10 5 (by decide)) (j)).trans (((congrFun (e6 5 (by decide)) (j)).trans (Eq.trans (congrFun (upd2_ne (by decide)) (j)) (Eq.trans (congrFun (upd2_ne (by decide)) (j)) (f0 j (by omega)))))))))))))))))))))))))))))))))))))))))))))))))))))))))))))))))))))))))))))))))))))))))))))))))))))))))))))))))))))))))))))))))))))))), fun j hj => (Eq.trans (congrFun (upd2_ne (by decide)) (j)) (Eq.trans (congrFun (upd2_ne (by decide)) (j)) (Eq.trans (congrFun (upd2_ne (by decide)) (j)) (Eq.trans (congrFun (upd2_ne (by decide)) (j)) (Eq.trans (congrFun (upd2_ne (by decide)) (j)) (Eq.trans (congrFun (upd2_ne (by decide)) (j)) (((congrFun (e205 90 (by decide)) (j)).trans (((congrFun (e201 90 (by decide)) (j)).trans (((congrFun (e197 90 (by decide)) (j)).trans (((congrFun (e193 90 (by decide)) (j)).trans (((congrFun (e189 90 (by decide)) (j)).trans (((congrFun (e185 90 (by decide)) (j)).trans (((congrFun (e181 90 (by decide)) (j)).trans (((congrFun (e177 90 (by decide)) (j)).trans (((e174 (j) (by omega)).trans (((congrFun (e169 9 (by decide)) (j)).trans (((congrFun (e165 9 (by decide)) (j)).trans (((congrFun (e161 9 (by decide)) (j)).trans (((congrFun (e157 9 (by decide)) (j)).trans (Eq.trans (congrFun (upd2_ne (by decide)) (j)) (Eq.trans (congrFun (upd2_ne (by decide)) (j)) (((congrFun (e153 9 (by decide)) (j)).trans (((congrFun (e149 9 (by decide)) (j)).trans (((congrFun (e145 9 (by decide)) (j)).trans (Eq.trans (congrFun (upd2_ne (by decide)) (j)) (Eq.trans (congrFun (upd2_ne (by decide)) (j)) (((congrFun (e141 9 (by decide)) (j)).trans (((congrFun (e137 9 (by decide)) (j)).trans (((congrFun (e133 9 (by decide)) (j)).trans (Eq.trans (congrFun (upd2_ne (by decide)) (j)) (Eq.trans (congrFun (upd2_ne (by decide)) (j)) (((congrFun (e129 9 (by decide)) (j)).trans (((congrFun (e125 9 (by decide)) (j)).trans (((congrFun (e121 9 (by decide)) (j)).trans (Eq.trans (congrFun (upd2_ne (by decide)) (j)) (Eq.trans (congrFun (upd2_ne (by decide)) (j)) (((congrFun (e117 9 (by decide)) (j)).trans (((congrFun (e113 9 (by decide)) (j)).trans (((congrFun (e109 9 (by decide)) (j)).trans (Eq.trans (congrFun (upd2_ne (by decide)) (j)) (Eq.trans (congrFun (upd2_ne (by decide)) (j)) (((congrFun (fr107 9 (by decide)) (j)).trans (Eq.trans (congrFun (upd2_ne (by decide)) (j)) (Eq.trans (congrFun (upd2_ne (by decide)) (j)) (Eq.trans (congrFun (upd2_ne (by decide)) (j)) (Eq.trans (congrFun (upd2_ne (by decide)) (j)) (Eq.trans (congrFun (upd2_ne (by decide)) (j)) (Eq.trans (congrFun (upd2_ne (by decide)) (j)) (((congrFun (e102 9 (by decide)) (j)).trans (((congrFun (e98 9 (by decide)) (j)).trans (((congrFun (e94 9 (by decide)) (j)).trans (((congrFun (e90 9 (by decide)) (j)).trans (((congrFun (e86 9 (by decide)) (j)).trans (((congrFun (e82 9 (by decide)) (j)).trans (((congrFun (e78 9 (by decide)) (j)).trans (((congrFun (e74 9 (by decide)) (j)).trans (((congrFun (e70 9 (by decide)) (j)).trans (((congrFun (e66 9 (by decide)) (j)).trans (((congrFun (e62 9 (by decide)) (j)).trans (((congrFun (e58 9 (by decide)) (j)).trans (((congrFun (e54 9 (by decide)) (j)).trans (Eq.trans (congrFun (upd2_ne (by decide)) (j)) (Eq.trans (congrFun (upd2_ne (by decide)) (j)) (((congrFun (e50 9 (by decide)) (j)).trans (((congrFun (e46 9 (by decide)) (j)).trans (((congrFun (e42 9 (by decide)) (j)).trans (Eq.trans (congrFun (upd2_ne (by decide)) (j)) (Eq.trans (congrFun (upd2_ne (by decide)) (j)) (((congrFun (e38 9 (by decide)) (j)).trans (((congrFun (e34 9 (by decide)) (j)).trans (((congrFun (e30 9 (by decide)) (j)).trans (Eq.trans (congrFun (upd2_ne (by decide)) (j)) (Eq.trans (congrFun (upd2_ne (by decide)) (j)) (((congrFun (e26 9 (by decide)) (j)).trans (((congrFun (e22 9 (by decide)) (j)).trans (((congrFun (e18 9 (by decide)) (j)).trans (Eq.trans (congrFun (upd2_ne (by decide)) (j)) (Eq.trans (congrFun (upd2_ne (by decide)) (j)) (((congrFun (e14 9 (by decide)) (j)).trans (((congrFun (e10 9 (by decide)) (j)).trans (((congrFun (e6 9 (by decide)) (j)).trans (Eq.trans (congrFun (upd2_ne (by decide)) (j)) (Eq.trans (congrFun (upd2_ne (by decide)) (j)) (f1 (j) (by omega)))))))))))))))))))))))))))))))))))))))))))))))))))))))))))))))))))))))))))))))))))))))))))))))))))))))))))))))))))))))))))))))))))))))), fun j hj => (Eq.trans (congrFun (upd2_ne (by decide)) (j)) (Eq.trans (congrFun (upd2_ne (by decide)) (j)) (Eq.trans (congrFun (upd2_ne (by decide)) (j)) (Eq.trans (congrFun (upd2_ne (by decide)) (j)) (Eq.trans (congrFun (upd2_ne (by decide)) (j)) (Eq.trans (congrFun (upd2_ne (by decide)) (j)) (((congrFun (e205 91 (by decide)) (j)).trans (((congrFun (e201 91 (by decide)) (j)).trans (((congrFun (e197 91 (by decide)) (j)).trans (((congrFun (e193 91 (by decide)) (j)).trans (((congrFun (e189 91 (by decide)) (j)).trans (((congrFun (e185 91 (by decide)) (j)).trans (((congrFun (e181 91 (by decide)) (j)).trans (((e178 (j) (by omega)).trans (((congrFun (e173 10 (by decide)) (j)).trans (((congrFun (e169 10 (by decide)) (j)).trans (((congrFun (e165 10 (by decide)) (j)).trans (((congrFun (e161 10 (by decide)) (j)).trans (((congrFun (e157 10 (by decide)) (j)).trans (Eq.trans (congrFun (upd2_ne (by decide)) (j)) (Eq.trans (congrFun (upd2_ne (by decide)) (j)) (((congrFun (e153 10 (by decide)) (j)).trans (((congrFun (e149 10 (by decide)) (j)).trans (((congrFun (e145 10 (by decide)) (j)).trans (Eq.trans (congrFun (upd2_ne (by decide)) (j)) (Eq.trans (congrFun (upd2_ne (by decide)) (j)) (((congrFun (e141 10 (by decide)) (j)).trans (((congrFun (e137 10 (by decide)) (j)).trans (((congrFun (e133 10 (by decide)) (j)).trans (Eq.trans (congrFun (upd2_ne (by decide)) (j)) (Eq.trans (congrFun (upd2_ne (by decide)) (j)) (((congrFun (e129 10 (by decide)) (j)).trans (((congrFun (e125 10 (by decide)) (j)).trans (((congrFun (e121 10 (by decide)) (j)).trans (Eq.trans (congrFun (upd2_ne (by decide)) (j)) (Eq.trans (congrFun (upd2_ne (by decide)) (j)) (((congrFun (e117 10 (by decide)) (j)).trans (((congrFun (e113 10 (by decide)) (j)).trans (((congrFun (e109 10 (by decide)) (j)).trans (Eq.trans (congrFun (upd2_ne (by decide)) (j)) (Eq.trans (congrFun (upd2_ne (by decide)) (j)) (((congrFun (fr107 10 (by decide)) (j)).trans (Eq.trans (congrFun (upd2_ne (by decide)) (j)) (Eq.trans (congrFun (upd2_ne (by decide)) (j)) (Eq.trans (congrFun (upd2_ne (by decide)) (j)) (Eq.trans (congrFun (upd2_ne (by decide)) (j)) (Eq.trans (congrFun (upd2_ne (by decide)) (j)) (Eq.trans (congrFun (upd2_ne (by decide)) (j)) (((congrFun (e102 10 (by decide)) (j)).trans (((congrFun (e98 10 (by decide)) (j)).trans (((congrFun (e94 10 (by decide)) (j)).trans (((congrFun (e90 10 (by decide)) (j)).trans (((congrFun (e86 10 (by decide)) (j)).trans (((congrFun (e82 10 (by decide)) (j)).trans (((congrFun (e78 10 (by decide)) (j)).trans (((congrFun (e74 10 (by decide)) (j)).trans (((congrFun (e70 10 (by decide)) (j)).trans (((congrFun (e66 10 (by decide)) (j)).trans (((congrFun (e62 10 (by decide)) (j)).trans (((congrFun (e58 10 (by decide)) (j)).trans (((congrFun (e54 10 (by decide)) (j)).trans (Eq.trans (congrFun (upd2_ne (by decide)) (j)) (Eq.trans (congrFun (upd2_ne (by decide)) (j)) (((congrFun (e50 10 (by decide)) (j)).trans (((congrFun (e46 10 (by decide)) (j)).trans (((congrFun (e42 10 (by decide)) (j)).trans (Eq.trans (congrFun (upd2_ne (by decide)) (j)) (Eq.trans (congrFun (upd2_ne (by decide)) (j)) (((congrFun (e38 10 (by decide)) (j)).trans (((congrFun (e34 10 (by decide)) (j)).trans (((congrFun (e30 10 (by decide)) (j)).trans (Eq.trans (congrFun (upd2_ne (by decide)) (j)) (Eq.trans (congrFun (upd2_ne (by decide)) (j)) (((congrFun (e26 10 (by decide)) (j)).trans (((congrFun (e22 10 (by decide)) (j)).trans (((congrFun (e18 10 (by decide)) (j)).trans (Eq.trans (congrFun (upd2_ne (by decide)) (j)) (Eq.trans (congrFun (upd2_ne (by decide)) (j)) (((congrFun (e14 10 (by decide)) (j)).trans (((congrFun (e10 10 (by decide)) (j)).trans (((congrFun (e6 10 (by decide)) (j)).trans (Eq.trans (congrFun (upd2_ne (by decide)) (j)) (Eq.trans (congrFun (upd2_ne (by decide)) (j)) (f2 (j) (by omega)))))))))))))))))))))))))))))))))))))))))))))))))))))))))))))))))))))))))))))))))))))))))))))))))))))))))))))))))))))))))))))))))))))))), (upd2_eq), (Eq.trans (upd2_nx (by omega)) (Eq.trans (upd2_nx (by omega)) (Eq.trans (upd2_nx (by omega)) (Eq.trans (congrFun (upd2_ne (by decide)) (3)) (Eq.trans (congrFun (upd2_ne (by decide)) (3)) (Eq.trans (congrFun (upd2_ne (by decide)) (3)) (((congrFun (e205 83 (by decide)) (3)).trans (((congrFun (e201 83 (by decide)) (3)).trans (((congrFun (e197 83 (by decide)) (3)).trans (((congrFun (e193 83 (by decide)) (3)).trans (((congrFun (e189 83 (by decide)) (3)).trans (((congrFun (e185 83 (by decide)) (3)).trans (((e182 (3) (by omega)).trans (((congrFun (e177 2 (by decide)) (3)).trans (((congrFun (e173 2 (by decide)) (3)).trans (((congrFun (e169 2 (by decide)) (3)).trans (((congrFun (e165 2 (by decide)) (3)).trans (((congrFun (e161 2 (by decide)) (3)).trans (((congrFun (e157 2 (by decide)) (3)).trans (Eq.trans (congrFun (upd2_ne (by decide)) (3)) (Eq.trans (congrFun (upd2_ne (by decide)) (3)) (((congrFun (e153 2 (by decide)) (3)).trans (((congrFun (e149 2 (by decide)) (3)).trans (((congrFun (e145 2 (by decide)) (3)).trans (Eq.trans (congrFun (upd2_ne (by decide)) (3)) (Eq.trans (congrFun (upd2_ne (by decide)) (3)) (((congrFun (e141 2 (by decide)) (3)).trans (((congrFun (e137 2 (by decide)) (3)).trans (((congrFun (e133 2 (by decide)) (3)).trans (Eq.trans (congrFun (upd2_ne (by decide)) (3)) (Eq.trans (congrFun (upd2_ne (by decide)) (3)) (((congrFun (e129 2 (by decide)) (3)).trans (((congrFun (e125 2 (by decide)) (3)).trans (((congrFun (e121 2 (by decide)) (3)).trans (Eq.trans (congrFun (upd2_ne (by decide)) (3)) (Eq.trans (congrFun (upd2_ne (by decide)) (3)) (((congrFun (e117 2 (by decide)) (3)).trans (((congrFun (e113 2 (by decide)) (3)).trans (((congrFun (e109 2 (by decide)) (3)).trans (Eq.trans (congrFun (upd2_ne (by decide)) (3)) (Eq.trans (congrFun (upd2_ne (by decide)) (3)) (((congrFun (fr107 2 (by decide)) (3)).trans (Eq.trans (congrFun (upd2_ne (by decide)) (3)) (Eq.trans (congrFun (upd2_ne (by decide)) (3)) (Eq.trans (congrFun (upd2_ne (by decide)) (3)) (Eq.trans (congrFun (upd2_ne (by decide)) (3)) (Eq.trans (congrFun (upd2_ne (by decide)) (3)) (Eq.trans (congrFun (upd2_ne (by decide)) (3)) (((congrFun (e102 2 (by decide)) (3)).trans (((congrFun (e98 2 (by decide)) (3)).trans (((congrFun (e94 2 (by decide)) (3)).trans (((congrFun (e90 2 (by decide)) (3)).trans (((congrFun (e86 2 (by decide)) (3)).trans (((congrFun (e82 2 (by decide)) (3)).trans (((congrFun (e78 2 (by decide)) (3)).trans (((congrFun (e74 2 (by decide)) (3)).trans (((congrFun (e70 2 (by decide)) (3)).trans (((congrFun (e66 2 (by decide)) (3)).trans (((congrFun (e62 2 (by decide)) (3)).trans (((congrFun (e58 2 (by decide)) (3)).trans (((congrFun (e54 2 (by decide)) (3)).trans (Eq.trans (congrFun (upd2_ne (by decide)) (3)) (Eq.trans (congrFun (upd2_ne (by decide)) (3)) (((congrFun (e50 2 (by decide)) (3)).trans (((congrFun (e46 2 (by decide)) (3)).trans (((congrFun (e42 2 (by decide)) (3)).trans (Eq.trans (congrFun (upd2_ne (by decide)) (3)) (Eq.trans (congrFun (upd2_ne (by decide)) (3)) (((congrFun (e38 2 (by decide)) (3)).trans (((congrFun (e34 2 (by decide)) (3)).trans (((congrFun (e30 2 (by decide)) (3)).trans (Eq.trans (congrFun (upd2_ne (by decide)) (3)) (Eq.trans (congrFun (upd2_ne (by decide)) (3)) (((congrFun (e26 2 (by decide)) (3)).trans (((congrFun (e22 2 (by decide)) (3)).trans (((congrFun (e18 2 (by decide)) (3)).trans (Eq.trans (congrFun (upd2_ne (by decide)) (3)) (Eq.trans (congrFun (upd2_ne (by decide)) (3)) (((congrFun (e14 2 (by decide)) (3)).trans (((congrFun (e10 2 (by decide)) (3)).trans (((congrFun (e6 2 (by decide)) (3)).trans (Eq.trans (congrFun (upd2_ne (by decide)) (3)) (Eq.trans (congrFun (upd2_ne (by decide)) (3)) (f4))))))))))))))))))))))))))))))))))))))))))))))))))))))))))))))))))))))))))))))))))))))))))))))))))))))))))))))))))))))))))))))))))))))), (Eq.trans (upd2_nx (by omega)) (Eq.trans (upd2_nx (by omega)) (upd2_eq))), (Eq.trans (congrFun (upd2_ne (by decide)) (1)) (Eq.trans (congrFun (upd2_ne (by decide)) (1)) (Eq.trans (congrFun (upd2_ne (by decide)) (1)) (Eq.trans (congrFun (upd2_ne (by decide)) (1)) (Eq.trans (congrFun (upd2_ne (by decide)) (1)) (Eq.trans (congrFun (upd2_ne (by decide)) (1)) (((congrFun (e205 92 (by decide)) (1)).trans (((congrFun (e201 92 (by decide)) (1)).trans (((e198 (1) (by omega)).trans (((congrFun (e193 11 (by decide)) (1)).trans (((congrFun (e189 11 (by decide)) (1)).trans (((congrFun (e185 11 (by decide)) (1)).trans (((congrFun (e181 11 (by decide)) (1)).trans (((congrFun (e177 11 (by decide)) (1)).trans (((congrFun (e173 11 (by decide)) (1)).trans (((congrFun (e169 11 (by decide)) (1)).trans (((congrFun (e165 11 (by decide)) (1)).trans (((congrFun (e161 11 (by decide)) (1)).trans (((congrFun (e157 11 (by decide)) (1)).trans (Eq.trans (congrFun (upd2_ne (by decide)) (1)) (Eq.trans (congrFun (upd2_ne (by decide)) (1)) (((congrFun (e153 11 (by decide)) (1)).trans (((congrFun (e149 11 (by decide)) (1)).trans (((congrFun (e145 11 (by decide)) (1)).trans (Eq.trans (congrFun (upd2_ne (by decide)) (1)) (Eq.trans (congrFun (upd2_ne (by decide)) (1)) (((congrFun (e141 11 (by decide)) (1)).trans (((congrFun (e137 11 (by decide)) (1)).trans (((congrFun (e133 11 (by decide)) (1)).trans (Eq.trans (congrFun (upd2_ne (by decide)) (1)) (Eq.trans (congrFun (upd2_ne (by decide)) (1)) (((congrFun (e129 11 (by decide)) (1)).trans (((congrFun (e125 11 (by decide)) (1)).trans (((congrFun (e121 11 (by decide)) (1)).trans (Eq.trans (congrFun (upd2_ne (by decide)) (1)) (Eq.trans (congrFun (upd2_ne (by decide)) (1)) (((congrFun (e117 11 (by decide)) (1)).trans (((congrFun (e113 11 (by decide)) (1)).trans (((congrFun (e109 11 (by decide)) (1)).trans (Eq.trans (congrFun (upd2_ne (by decide)) (1)) (Eq.trans (congrFun (upd2_ne (by decide)) (1)) (((congrFun (fr107 11 (by decide)) (1)).trans (Eq.trans (congrFun (upd2_ne (by decide)) (1)) (Eq.trans (congrFun (upd2_ne (by decide)) (1)) (Eq.trans (congrFun (upd2_ne (by decide)) (1)) (Eq.trans (congrFun (upd2_ne (by decide)) (1)) (Eq.trans (congrFun (upd2_ne (by decide)) (1)) (Eq.trans (congrFun (upd2_ne (by decide)) (1)) (((congrFun (e102 11 (by decide)) (1)).trans (((congrFun (e98 11 (by decide)) (1)).trans (((congrFun (e94 11 (by decide)) (1)).trans (((congrFun (e90 11 (by decide)) (1)).trans (((congrFun (e86 11 (by decide)) (1)).trans (((congrFun (e82 11 (by decide)) (1)).trans (((congrFun (e78 11 (by decide)) (1)).trans (((congrFun (e74 11 (by decide)) (1)).trans (((congrFun (e70 11 (by decide)) (1)).trans (((congrFun (e66 11 (by decide)) (1)).trans (((congrFun (e62 11 (by decide)) (1)).trans (((congrFun (e58 11 (by decide)) (1)).trans (((congrFun (e54 11 (by decide)) (1)).trans (Eq.trans (congrFun (upd2_ne (by decide)) (1)) (Eq.trans (congrFun (upd2_ne (by decide)) (1)) (((congrFun (e50 11 (by decide)) (1)).trans (((congrFun (e46 11 (by decide)) (1)).trans (((congrFun (e42 11 (by decide)) (1)).trans (Eq.trans (congrFun (upd2_ne (by decide)) (1)) (Eq.trans (congrFun (upd2_ne (by decide)) (1)) (((congrFun (e38 11 (by decide)) (1)).trans (((congrFun (e34 11 (by decide)) (1)).trans (((congrFun (e30 11 (by decide)) (1)).trans (Eq.trans (congrFun (upd2_ne (by decide)) (1)) (Eq.trans (congrFun (upd2_ne (by decide)) (1)) (((congrFun (e26 11 (by decide)) (1)).trans (((congrFun (e22 11 (by decide)) (1)).trans (((congrFun (e18 11 (by decide)) (1)).trans (Eq.trans (congrFun (upd2_ne (by decide)) (1)) (Eq.trans (congrFun (upd2_ne (by decide)) (1)) (((congrFun (e14 11 (by decide)) (1)).trans (((congrFun (e10 11 (by decide)) (1)).trans (((congrFun (e6 11 (by decide)) (1)).trans (Eq.trans (congrFun (upd2_ne (by decide)) (1)) (Eq.trans (congrFun (upd2_ne (by decide)) (1)) (f6))))))))))))))))))))))))))))))))))))))))))))))))))))))))))))))))))))))))))))))))))))))))))))))))))))))))))))))))))))))))))))))))))))))), (Eq.trans (congrFun (upd2_ne (by decide)) (0)) (Eq.trans (congrFun (upd2_ne (by decide)) (0)) (Eq.trans (congrFun (upd2_ne (by decide)) (0)) (Eq.trans (congrFun (upd2_ne (by decide)) (0)) (Eq.trans (congrFun (upd2_ne (by decide)) (0)) (Eq.trans (congrFun (upd2_ne (by decide)) (0)) (((congrFun (e205 92 (by decide)) (0)).trans (((congrFun (e201 92 (by decide)) (0)).trans (((e198 (0) (by omega)).trans (((congrFun (e193 11 (by decide)) (0)).trans (((congrFun (e189 11 (by decide)) (0)).trans (((congrFun (e185 11 (by decide)) (0)).trans (((congrFun (e181 11 (by decide)) (0)).trans (((congrFun (e177 11 (by decide)) (0)).trans (((congrFun (e173 11 (by decide)) (0)).trans (((congrFun (e169 11 (by decide)) (0)).trans (((congrFun (e165 11 (by decide)) (0)).trans (((congrFun (e161 11 (by decide)) (0)).trans (((congrFun (e157 11 (by decide)) (0)).trans (Eq.trans (congrFun (upd2_ne (by decide)) (0)) (Eq.trans (congrFun (upd2_ne (by decide)) (0)) (((congrFun (e153 11 (by decide)) (0)).trans (((congrFun (e149 11 (by decide)) (0)).trans (((congrFun (e145 11 (by decide)) (0)).trans (Eq.trans (congrFun (upd2_ne (by decide)) (0)) (Eq.trans (congrFun (upd2_ne (by decide)) (0)) (((congrFun (e141 11 (by decide)) (0)).trans (((congrFun (e137 11 (by decide)) (0)).trans (((congrFun (e133 11 (by decide)) (0)).trans (Eq.trans (congrFun (upd2_ne (by decide)) (0)) (Eq.trans (congrFun (upd2_ne (by decide)) (0)) (((congrFun (e129 11 (by decide)) (0)).trans (((congrFun (e125 11 (by decide)) (0)).trans (((congrFun (e121 11 (by decide)) (0)).trans (Eq.trans (congrFun (upd2_ne (by decide)) (0)) (Eq.trans (congrFun (upd2_ne (by decide)) (0)) (((congrFun (e117 11 (by decide)) (0)).trans (((congrFun (e113 11 (by decide)) (0)).trans (((congrFun (e109 11 (by decide)) (0)).trans (Eq.trans (congrFun (upd2_ne (by decide)) (0)) (Eq.trans (congrFun (upd2_ne (by decide)) (0)) (((congrFun (fr107 11 (by decide)) (0)).trans (Eq.trans (congrFun (upd2_ne (by decide)) (0)) (Eq.trans (congrFun (upd2_ne (by decide)) (0)) (Eq.trans (congrFun (upd2_ne (by decide)) (0)) (Eq.trans (congrFun (upd2_ne (by decide)) (0)) (Eq.trans (congrFun (upd2_ne (by decide)) (0)) (Eq.trans (congrFun (upd2_ne (by decide)) (0)) (((congrFun (e102 11 (by decide)) (0)).trans (((congrFun (e98 11 (by decide)) (0)).trans (((congrFun (e94 11 (by decide)) (0)).trans (((congrFun (e90 11 (by decide)) (0)).trans (((congrFun (e86 11 (by decide)) (0)).trans (((congrFun (e82 11 (by decide)) (0)).trans (((congrFun (e78 11 (by decide)) (0)).trans (((congrFun (e74 11 (by decide)) (0)).trans (((congrFun (e70 11 (by decide)) (0)).trans (((congrFun (e66 11 (by decide)) (0)).trans (((congrFun (e62 11 (by decide)) (0)).trans (((congrFun (e58 11 (by decide)) (0)).trans (((congrFun (e54 11 (by decide)) (0)).trans (Eq.trans (congrFun (upd2_ne (by decide)) (0)) (Eq.trans (congrFun (upd2_ne (by decide)) (0)) (((congrFun (e50 11 (by decide)) (0)).trans (((congrFun (e46 11 (by decide)) (0)).trans (((congrFun (e42 11 (by decide)) (0)).trans (Eq.trans (congrFun (upd2_ne (by decide)) (0)) (Eq.trans (congrFun (upd2_ne (by decide)) (0)) (((congrFun (e38 11 (by decide)) (0)).trans (((congrFun (e34 11 (by decide)) (0)).trans (((congrFun (e30 11 (by decide)) (0)).trans (Eq.trans (congrFun (upd2_ne (by decide)) (0)) (Eq.trans (congrFun (upd2_ne (by decide)) (0)) (((congrFun (e26 11 (by decide)) (0)).trans (((congrFun (e22 11 (by decide)) (0)).trans (((congrFun (e18 11 (by decide)) (0)).trans (Eq.trans (congrFun (upd2_ne (by decide)) (0)) (Eq.trans (congrFun (upd2_ne (by decide)) (0)) (((congrFun (e14 11 (by decide)) (0)).trans (((congrFun (e10 11 (by decide)) (0)).trans (((congrFun (e6 11 (by decide)) (0)).trans (Eq.trans (congrFun (upd2_ne (by decide)) (0)) (Eq.trans (congrFun (upd2_ne (by decide)) (0)) (f7))))))))))))))))))))))))))))))))))))))))))))))))))))))))))))))))))))))))))))))))))))))))))))))))))))))))))))))))))))))))))))))))))))))), fun j hj a1 a2 a3 => (Eq.trans (congrFun (upd2_ne (by decide)) (j)) (Eq.trans (congrFun (upd2_ne (by decide)) (j)) (Eq.trans (congrFun (upd2_ne (by decide)) (j)) (Eq.trans (congrFun (upd2_ne (by decide)) (j)) (Eq.trans (congrFun (upd2_ne (by decide)) (j)) (Eq.trans (congrFun (upd2_ne (by decide)) (j)) (((congrFun (e205 92 (by decide)) (j)).trans (((congrFun (e201 92 (by decide)) (j)).trans (((e198 (j) (by omega)).trans (((congrFun (e193 11 (by decide)) (j)).trans (((congrFun (e189 11 (by decide)) (j)).trans (((congrFun (e185 11 (by decide)) (j)).trans (((congrFun (e181 11 (by decide)) (j)).trans (((congrFun (e177 11 (by decide)) (j)).trans (((congrFun (e173 11 (by decide)) (j)).trans (((congrFun (e169 11 (by decide)) (j)).trans (((congrFun (e165 11 (by decide)) (j)).trans (((congrFun (e161 11 (by decide)) (j)).trans (((congrFun (e157 11 (by decide)) (j)).trans (Eq.trans (congrFun (upd2_ne (by decide)) (j)) (Eq.trans (congrFun (upd2_ne (by decide)) (j)) (((congrFun (e153 11 (by decide)) (j)).trans (((congrFun (e149 11 (by decide)) (j)).trans (((congrFun (e145 11 (by decide)) (j)).trans (Eq.trans (congrFun (upd2_ne (by decide)) (j)) (Eq.trans (congrFun (upd2_ne (by decide)) (j)) (((congrFun (e141 11 (by decide)) (j)).trans (((congrFun (e137 11 (by decide)) (j)).trans (((congrFun (e133 11 (by decide)) (j)).trans (Eq.trans (congrFun (upd2_ne (by decide)) (j)) (Eq.trans (congrFun (upd2_ne (by decide)) (j)) (((congrFun (e129 11 (by decide)) (j)).trans (((congrFun (e125 11 (by decide)) (j)).trans (((congrFun (e121 11 (by decide)) (j)).trans (Eq.trans (congrFun (upd2_ne (by decide)) (j)) (Eq.trans (congrFun (upd2_ne (by decide)) (j)) (((congrFun (e117 11 (by decide)) (j)).trans (((congrFun (e113 11 (by decide)) (j)).trans (((congrFun (e109 11 (by decide)) (j)).trans (Eq.trans (congrFun (upd2_ne (by decide)) (j)) (Eq.trans (congrFun (upd2_ne (by decide)) (j)) (((congrFun (fr107 11 (by decide)) (j)).trans (Eq.trans (congrFun (upd2_ne (by decide)) (j)) (Eq.trans (congrFun (upd2_ne (by decide)) (j)) (Eq.trans (congrFun (upd2_ne (by decide)) (j)) (Eq.trans (congrFun (upd2_ne (by decide)) (j)) (Eq.trans (congrFun (upd2_ne (by decide)) (j)) (Eq.trans (congrFun (upd2_ne (by decide)) (j)) (((congrFun (e102 11 (by decide)) (j)).trans (((congrFun (e98 11 (by decide)) (j)).trans (((congrFun (e94 11 (by decide)) (j)).trans (((congrFun (e90 11 (by decide)) (j)).trans (((congrFun (e86 11 (by decide)) (j)).trans (((congrFun (e82 11 (by decide)) (j)).trans (((congrFun (e78 11 (by decide)) (j)).trans (((congrFun (e74 11 (by decide)) (j)).trans (((congrFun (e70 11 (by decide)) (j)).trans (((congrFun (e66 11 (by decide)) (j)).trans (((congrFun (e62 11 (by decide)) (j)).trans (((congrFun (e58 11 (by decide)) (j)).trans (((congrFun (e54 11 (by decide)) (j)).trans (Eq.trans (congrFun (upd2_ne (by decide)) (j)) (Eq.trans (congrFun (upd2_ne (by decide)) (j)) (((congrFun (e50 11 (by decide)) (j)).trans (((congrFun (e46 11 (by decide)) (j)).trans (((congrFun (e42 11 (by decide)) (j)).trans (Eq.trans (congrFun (upd2_ne (by decide)) (j)) (Eq.trans (congrFun (upd2_ne (by decide)) (j)) (((congrFun (e38 11 (by decide)) (j)).trans (((congrFun (e34 11 (by decide)) (j)).trans (((congrFun (e30 11 (by decide)) (j)).trans (Eq.trans (congrFun (upd2_ne (by decide)) (j)) (Eq.trans (congrFun (upd2_ne (by decide)) (j)) (((congrFun (e26 11 (by decide)) (j)).trans (((congrFun (e22 11 (by decide)) (j)).trans (((congrFun (e18 11 (by decide)) (j)).trans (Eq.trans (congrFun (upd2_ne (by decide)) (j)) (Eq.trans (congrFun (upd2_ne (by decide)) (j)) (((congrFun (e14 11 (by decide)) (j)).trans (((congrFun (e10 11 (by decide)) (j)).trans (((congrFun (e6 11 (by decide)) (j)).trans (Eq.trans (congrFun (upd2_ne (by decide)) (j)) (Eq.trans (congrFun (upd2_ne (by decide)) (j)) ((f8 (j) (by omega) (by omega) (by omega) (by omega))))))))))))))))))))))))))))))))))))))))))))))))))))))))))))))))))))))))))))))))))))))))))))))))))))))))))))))))))))))))))))))))))))))))), (Eq.trans (congrFun (upd2_ne (by decide)) (4)) (Eq.trans (congrFun (upd2_ne (by decide)) (4)) (Eq.trans (congrFun (upd2_ne (by decide)) (4)) (Eq.trans (congrFun (upd2_ne (by decide)) (4)) (Eq.trans (congrFun (upd2_ne (by decide)) (4)) (Eq.trans (congrFun (upd2_ne (by decide)) (4)) (((congrFun (e205 97 (by decide)) (4)).trans (((congrFun (e201 97 (by decide)) (4)).trans (((congrFun (e197 97 (by decide)) (4)).trans (((congrFun (e193 97 (by decide)) (4)).trans (((congrFun (e189 97 (by decide)) (4)).trans (((congrFun (e185 97 (by decide)) (4)).trans (((congrFun (e181 97 (by decide)) (4)).trans (((congrFun (e177 97 (by decide)) (4)).trans (((congrFun (e173 97 (by decide)) (4)).trans (((congrFun (e169 97 (by decide)) (4)).trans (((congrFun (e165 97 (by decide)) (4)).trans (((congrFun (e161 97 (by decide)) (4)).trans (((congrFun (e157 97 (by decide)) (4)).trans (Eq.trans (congrFun (upd2_ne (by decide)) (4)) (Eq.trans (congrFun (upd2_ne (by decide)) (4)) (((congrFun (e153 97 (by decide)) (4)).trans (((congrFun (e149 97 (by decide)) (4)).trans (((congrFun (e145 97 (by decide)) (4)).trans (Eq.trans (congrFun (upd2_ne (by decide)) (4)) (Eq.trans (congrFun (upd2_ne (by decide)) (4)) (((congrFun (e141 97 (by decide)) (4)).trans (((congrFun (e137 97 (by decide)) (4)).trans (((congrFun (e133 97 (by decide)) (4)).trans (Eq.trans (congrFun (upd2_ne (by decide)) (4)) (Eq.trans (congrFun (upd2_ne (by decide)) (4)) (((congrFun (e129 97 (by decide)) (4)).trans (((congrFun (e125 97 (by decide)) (4)).trans (((congrFun (e121 97 (by decide)) (4)).trans (Eq.trans (congrFun (upd2_ne (by decide)) (4)) (Eq.trans (congrFun (upd2_ne (by decide)) (4)) (((congrFun (e117 97 (by decide)) (4)).trans (((congrFun (e113 97 (by decide)) (4)).trans (((congrFun (e109 97 (by decide)) (4)).trans (upd2_eq))))))))))))))))))))))))))))))))))))))))))))))))))))))))))))))))), (Eq.trans (congrFun (upd2_ne (by decide)) (4)) (Eq.trans (congrFun (upd2_ne (by decide)) (4)) (Eq.trans (congrFun (upd2_ne (by decide)) (4)) (Eq.trans (congrFun (upd2_ne (by decide)) (4)) (Eq.trans (congrFun (upd2_ne (by decide)) (4)) (Eq.trans (congrFun (upd2_ne (by decide)) (4)) (((congrFun (e205 102 (by decide)) (4)).trans (((congrFun (e201 102 (by decide)) (4)).trans (((congrFun (e197 102 (by decide)) (4)).trans (((congrFun (e193 102 (by decide)) (4)).trans (((congrFun (e189 102 (by decide)) (4)).trans (((congrFun (e185 102 (by decide)) (4)).trans (((congrFun (e181 102 (by decide)) (4)).trans (((congrFun (e177 102 (by decide)) (4)).trans (((congrFun (e173 102 (by decide)) (4)).trans (((congrFun (e169 102 (by decide)) (4)).trans (((congrFun (e165 102 (by decide)) (4)).trans (((congrFun (e161 102 (by decide)) (4)).trans (((congrFun (e157 102 (by decide)) (4)).trans (Eq.trans (congrFun (upd2_ne (by decide)) (4)) (Eq.trans (congrFun (upd2_ne (by decide)) (4)) (((congrFun (e153 102 (by decide)) (4)).trans (((congrFun (e149 102 (by decide)) (4)).trans (((congrFun (e145 102 (by decide)) (4)).trans (Eq.trans (congrFun (upd2_ne (by decide)) (4)) (Eq.trans (congrFun (upd2_ne (by decide)) (4)) (((congrFun (e141 102 (by decide)) (4)).trans (((congrFun (e137 102 (by decide)) (4)).trans (((congrFun (e133 102 (by decide)) (4)).trans (Eq.trans (congrFun (upd2_ne (by decide)) (4)) (Eq.trans (congrFun (upd2_ne (by decide)) (4)) (((congrFun (e129 102 (by decide)) (4)).trans (((congrFun (e125 102 (by decide)) (4)).trans (((congrFun (e121 102 (by decide)) (4)).trans (upd2_eq))))))))))))))))))))))))))))))))))))))))))))))))))))))))), (Eq.trans (congrFun (upd2_ne (by decide)) (4)) (Eq.trans (congrFun (upd2_ne (by decide)) (4)) (Eq.trans (congrFun (upd2_ne (by decide)) (4)) (Eq.trans (congrFun (upd2_ne (by decide)) (4)) (Eq.trans (congrFun (upd2_ne (by decide)) (4)) (Eq.trans (congrFun (upd2_ne (by decide)) (4)) (((congrFun (e205 107 (by decide)) (4)).trans (((congrFun (e201 107 (by decide)) (4)).trans (((congrFun (e197 107 (by decide)) (4)).trans (((congrFun (e193 107 (by decide)) (4)).trans (((congrFun (e189 107 (by decide)) (4)).trans (((congrFun (e185 107 (by decide)) (4)).trans (((congrFun (e181 107 (by decide)) (4)).trans (((congrFun (e177 107 (by decide)) (4)).trans (((congrFun (e173 107 (by decide)) (4)).trans (((congrFun (e169 107 (by decide)) (4)).trans (((congrFun (e165 107 (by decide)) (4)).trans (((congrFun (e161 107 (by decide)) (4)).trans (((congrFun (e157 107 (by decide)) (4)).trans (Eq.trans (congrFun (upd2_ne (by decide)) (4)) (Eq.trans (congrFun (upd2_ne (by decide)) (4)) (((congrFun (e153 107 (by decide)) (4)).trans (((congrFun (e149 107 (by decide)) (4)).trans (((congrFun (e145 107 (by decide)) (4)).trans (Eq.trans (congrFun (upd2_ne (by decide)) (4)) (Eq.trans (congrFun (upd2_ne (by decide)) (4)) (((congrFun (e141 107 (by decide)) (4)).trans (((congrFun (e137 107 (by decide)) (4)).trans (((congrFun (e133 107 (by decide)) (4)).trans (upd2_eq))))))))))))))))))))))))))))))))))))))))))))))))), (Eq.trans (congrFun (upd2_ne (by decide)) (4)) (Eq.trans (congrFun (upd2_ne (by decide)) (4)) (Eq.trans (congrFun (upd2_ne (by decide)) (4)) (Eq.trans (congrFun (upd2_ne (by decide)) (4)) (Eq.trans (congrFun (upd2_ne (by decide)) (4)) (Eq.trans (congrFun (upd2_ne (by decide)) (4)) (((congrFun (e205 112 (by decide)) (4)).trans (((congrFun (e201 112 (by decide)) (4)).trans (((congrFun (e197 112 (by decide)) (4)).trans (((congrFun (e193 112 (by decide)) (4)).trans (((congrFun (e189 112 (by decide)) (4)).trans (((congrFun (e185 112 (by decide)) (4)).trans (((congrFun (e181 112 (by decide)) (4)).trans (((congrFun (e177 112 (by decide)) (4)).trans (((congrFun (e173 112 (by decide)) (4)).trans (((congrFun (e169 112 (by decide)) (4)).trans (((congrFun (e165 112 (by decide)) (4)).trans (((congrFun (e161 112 (by decide)) (4)).trans (((congrFun (e157 112 (by decide)) (4)).trans (Eq.trans (congrFun (upd2_ne (by decide)) (4)) (Eq.trans (congrFun (upd2_ne (by decide)) (4)) (((congrFun (e153 112 (by decide)) (4)).trans (((congrFun (e149 112 (by decide)) (4)).trans (((congrFun (e145 112 (by decide)) (4)).trans (upd2_eq))))))))))))))))))))))))))))))))))))))))), (Eq.trans (congrFun (upd2_ne (by decide)) (4)) (Eq.trans (congrFun (upd2_ne (by decide)) (4)) (Eq.trans (congrFun (upd2_ne (by decide)) (4)) (Eq.trans (congrFun (upd2_ne (by decide)) (4)) (Eq.trans (congrFun (upd2_ne (by decide)) (4)) (Eq.trans (congrFun (upd2_ne (by decide)) (4)) (((congrFun (e205 117 (by decide)) (4)).trans (((congrFun (e201 117 (by decide)) (4)).trans (((congrFun (e197 117 (by decide)) (4)).trans (((congrFun (e193 117 (by decide)) (4)).trans (((congrFun (e189 117 (by decide)) (4)).trans (((congrFun (e185 117 (by decide)) (4)).trans (((congrFun (e181 117 (by decide)) (4)).trans (((congrFun (e177 117 (by decide)) (4)).trans (((congrFun (e173 117 (by decide)) (4)).trans (((congrFun (e169 117 (by decide)) (4)).trans (((congrFun (e165 117 (by decide)) (4)).trans (((congrFun (e161 117 (by decide)) (4)).trans (((congrFun (e157 117 (by decide)) (4)).trans (upd2_eq))))))))))))))))))))))))))))))))), (by omega)⟩) (by omega) (by omega) (fun I208 hF209 fr210 => ?_))
          have hF := hF209
          obtain ⟨d0, d1, d2, d3, d4, d5, d6, d7, d8, d9, d10, d11, d12, d13, db⟩ := hF
          have d0 : ∀ j, j < 32 → I208 86 j = nI 0 := d0
          have d1 : ∀ j, j < 6 → I208 90 j = nI 0 := d1
          have d2 : ∀ j, j < 6 → I208 91 j = nI 9 := d2
          have d3 : I208 83 0 = nI (4) := d3
          have d4 : I208 83 3 = nI 0 := d4
          have d5 : I208 83 5 = nI (0) := d5
          have d6 : I208 92 1 = nI ((0 + w4 * 4)) := d6
          have d7 : I208 92 0 = nI ((0 + w4)) := d7
          have d8 : ∀ j, j < 40 → j ≠ 0 → j ≠ 1 → j ≠ 3 → I208 92 j = nI 0 := d8
          have d9 : I208 97 4 = nI 0 := d9
          have d10 : I208 102 4 = nI 0 := d10
          have d11 : I208 107 4 = nI 0 := d11
          have d12 : I208 112 4 = nI 0 := d12
          have d13 : I208 117 4 = nI 0 := d13
          refine (show As l b 13 y_M_imagine KC RC _ (I208) 52 [.ref 81, .ref 1, .int (nI 0), .int (nI 0), .int (nI 4), .int (nI (w4))] [.int (nI 0)] from ?_)
          refine aw_pop rfl d_M_imagine_52 ?_
          refine as_retv rfl d_M_imagine_53 ?_
          refine (show As l b 14 y_S_price KC RC K2 (I208) 89 [.ref 0, .int (x), .int (nI (w4)), .int (nI 0), .int (nI 4), .int (nI (((0 + w4 * 4) - 0)))] [] from ?_)
          refine aw_iload rfl d_S_price_89 ?_
          refine aw_aload_n rfl rfl d_S_price_91 ?_
          refine aw_getr fl_S_22 kc_0 (by decide) rfl rc_0_2 d_S_price_92 ?_
          refine aw_aload_n rfl rfl d_S_price_95 ?_
          refine aw_getr fl_S_12 kc_0 (by decide) rfl rc_0_0 d_S_price_96 ?_
          refine aw_iconst (v := nI 0) ci_0 d_S_price_99 ?_
          refine as_callV (as := [.ref 1, .int (nI 0)]) (d' := 13) (q := ("SinglesUp$Mind", zT5, 3)) mo_M_gained lk_S_223 kc_81 rfl rfl rfl ⟨by decide, by decide⟩ rfl rfl (by decide) d_S_price_100 (Ss.of (show As l b 13 y_M_gained KC RC _ (I208) 0 [.ref 81, .ref 1, .int (nI 0)] [] from ?_))
          refine aw_iload_n rfl rfl d_M_gained_0 ?_
          refine aw_tabInI 0 (by decide +kernel) (by decide) rfl (tgt := 36) (by decide) d_M_gained_1 ?_
          refine aw_aload_n rfl rfl d_M_gained_36 ?_
          refine aw_getr fl_M_12 kc_81 (by decide) rfl rc_81_0 d_M_gained_37 ?_
          refine aw_getr fl_M_40 kc_82 (by decide) rfl rc_82_8 d_M_gained_40 ?_
          refine aw_iconst (v := nI 1) ci_1 d_M_gained_43 ?_
          refine aw_iald (j := 1) kc_92 (vp_in_nI (by decide) (by decide)) (nI_clamp (by decide)) d_M_gained_44 ?_
          refine aw_top (x2 := nI ((0 + w4 * 4))) (d6) ?_
          refine aw_aload_n rfl rfl d_M_gained_45 ?_
          refine aw_getr fl_M_40 kc_1 (by decide) rfl rc_1_8 d_M_gained_46 ?_
          refine aw_iconst (v := nI 1) ci_1 d_M_gained_49 ?_
          refine aw_iald (j := 1) kc_11 (vp_in_nI (by decide) (by decide)) (nI_clamp (by decide)) d_M_gained_50 ?_
          refine aw_top (x2 := nI 0) (((congrFun (fr210 11 (by decide)) (1)).trans (Eq.trans (congrFun (upd2_ne (by decide)) (1)) (Eq.trans (congrFun (upd2_ne (by decide)) (1)) (Eq.trans (congrFun (upd2_ne (by decide)) (1)) (Eq.trans (congrFun (upd2_ne (by decide)) (1)) (Eq.trans (congrFun (upd2_ne (by decide)) (1)) (Eq.trans (congrFun (upd2_ne (by decide)) (1)) (((congrFun (e205 11 (by decide)) (1)).trans (((congrFun (e201 11 (by decide)) (1)).trans (((congrFun (e197 11 (by decide)) (1)).trans (((congrFun (e193 11 (by decide)) (1)).trans (((congrFun (e189 11 (by decide)) (1)).trans (((congrFun (e185 11 (by decide)) (1)).trans (((congrFun (e181 11 (by decide)) (1)).trans (((congrFun (e177 11 (by decide)) (1)).trans (((congrFun (e173 11 (by decide)) (1)).trans (((congrFun (e169 11 (by decide)) (1)).trans (((congrFun (e165 11 (by decide)) (1)).trans (((congrFun (e161 11 (by decide)) (1)).trans (((congrFun (e157 11 (by decide)) (1)).trans (Eq.trans (congrFun (upd2_ne (by decide)) (1)) (Eq.trans (congrFun (upd2_ne (by decide)) (1)) (((congrFun (e153 11 (by decide)) (1)).trans (((congrFun (e149 11 (by decide)) (1)).trans (((congrFun (e145 11 (by decide)) (1)).trans (Eq.trans (congrFun (upd2_ne (by decide)) (1)) (Eq.trans (congrFun (upd2_ne (by decide)) (1)) (((congrFun (e141 11 (by decide)) (1)).trans (((congrFun (e137 11 (by decide)) (1)).trans (((congrFun (e133 11 (by decide)) (1)).trans (Eq.trans (congrFun (upd2_ne (by decide)) (1)) (Eq.trans (congrFun (upd2_ne (by decide)) (1)) (((congrFun (e129 11 (by decide)) (1)).trans (((congrFun (e125 11 (by decide)) (1)).trans (((congrFun (e121 11 (by decide)) (1)).trans (Eq.trans (congrFun (upd2_ne (by decide)) (1)) (Eq.trans (congrFun (upd2_ne (by decide)) (1)) (((congrFun (e117 11 (by decide)) (1)).trans (((congrFun (e113 11 (by decide)) (1)).trans (((congrFun (e109 11 (by decide)) (1)).trans (Eq.trans (congrFun (upd2_ne (by decide)) (1)) (Eq.trans (congrFun (upd2_ne (by decide)) (1)) (((congrFun (fr107 11 (by decide)) (1)).trans (Eq.trans (congrFun (upd2_ne (by decide)) (1)) (Eq.trans (congrFun (upd2_ne (by decide)) (1)) (Eq.trans (congrFun (upd2_ne (by decide)) (1)) (Eq.trans (congrFun (upd2_ne (by decide)) (1)) (Eq.trans (congrFun (upd2_ne (by decide)) (1)) (Eq.trans (congrFun (upd2_ne (by decide)) (1)) (((congrFun (e102 11 (by decide)) (1)).trans (((congrFun (e98 11 (by decide)) (1)).trans (((congrFun (e94 11 (by decide)) (1)).trans (((congrFun (e90 11 (by decide)) (1)).trans (((congrFun (e86 11 (by decide)) (1)).trans (((congrFun (e82 11 (by decide)) (1)).trans (((congrFun (e78 11 (by decide)) (1)).trans (((congrFun (e74 11 (by decide)) (1)).trans (((congrFun (e70 11 (by decide)) (1)).trans (((congrFun (e66 11 (by decide)) (1)).trans (((congrFun (e62 11 (by decide)) (1)).trans (((congrFun (e58 11 (by decide)) (1)).trans (((congrFun (e54 11 (by decide)) (1)).trans (Eq.trans (congrFun (upd2_ne (by decide)) (1)) (Eq.trans (congrFun (upd2_ne (by decide)) (1)) (((congrFun (e50 11 (by decide)) (1)).trans (((congrFun (e46 11 (by decide)) (1)).trans (((congrFun (e42 11 (by decide)) (1)).trans (Eq.trans (congrFun (upd2_ne (by decide)) (1)) (Eq.trans (congrFun (upd2_ne (by decide)) (1)) (((congrFun (e38 11 (by decide)) (1)).trans (((congrFun (e34 11 (by decide)) (1)).trans (((congrFun (e30 11 (by decide)) (1)).trans (Eq.trans (congrFun (upd2_ne (by decide)) (1)) (Eq.trans (congrFun (upd2_ne (by decide)) (1)) (((congrFun (e26 11 (by decide)) (1)).trans (((congrFun (e22 11 (by decide)) (1)).trans (((congrFun (e18 11 (by decide)) (1)).trans (Eq.trans (congrFun (upd2_ne (by decide)) (1)) (Eq.trans (congrFun (upd2_ne (by decide)) (1)) (((congrFun (e14 11 (by decide)) (1)).trans (((congrFun (e10 11 (by decide)) (1)).trans (((congrFun (e6 11 (by decide)) (1)).trans (Eq.trans (congrFun (upd2_ne (by decide)) (1)) (Eq.trans (congrFun (upd2_ne (by decide)) (1)) (f6))))))))))))))))))))))))))))))))))))))))))))))))))))))))))))))))))))))))))))))))))))))))))))))))))))))))))))))))))))))))))))))))))))))))) ?_
          refine aw_isubN (by omega) d_M_gained_51 ?_
          refine as_reti rfl d_M_gained_52 ?_
          refine (show As l b 14 y_S_price KC RC K2 (I208) 103 [.ref 0, .int (x), .int (nI (w4)), .int (nI 0), .int (nI 4), .int (nI (((0 + w4 * 4) - 0)))] [.int (nI (((0 + w4 * 4) - 0))), .int (nI (((0 + w4 * 4) - 0)))] from ?_)
          refine aw_isubN (by omega) d_S_price_103 ?_
          exact as_reti rfl d_S_price_104 (by have h9 := hg (by omega) (I208); rw [show (((0 + w4 * 4) - 0) - ((0 + w4 * 4) - 0)) = 0 by omega]; exact h9)
        · refine aw_ldc (v := -1000000) lc_S_143 d_S_price_19 ?_
          refine aw_top (x2 := (-1000000 : Int32)) (by decide +kernel) ?_
          exact as_reti rfl d_S_price_21 (hb (by omega) _)
set_option maxRecDepth 20000 in
theorem lp_needed {K2 : K2T} {n0 : Nat} (hn0 : n0 ≤ 40) (hK : ∀ I', K2 (some (.int (nI 0))) I') : ∀ (n i : Nat) (I : Nat → Nat → Int32), i + n = n0 → FH 82 I 4 0 (0 + i * 4) (0 + i) → As l b 10 y_M_emptyNeeded KC RC K2 (I) 13 [.ref 81, .ref 1, .int (nI (n0)), .int (nI 0), .int (nI (i)), uu] [] := by
  intro n
  induction n with
  | zero =>
    intro i I hi hF
    have hF0 := hF
    obtain ⟨d0, d1, d2, d3, d4, d5, d6, d7, d8, d9, d10, d11, d12, d13, db⟩ := hF
    have d0 : ∀ j, j < 32 → I 86 j = nI 0 := d0
    have d1 : ∀ j, j < 6 → I 90 j = nI 0 := d1
    have d2 : ∀ j, j < 6 → I 91 j = nI 9 := d2
    have d3 : I 83 0 = nI (4) := d3
    have d4 : I 83 3 = nI 0 := d4
    have d5 : I 83 5 = nI (0) := d5
    have d6 : I 92 1 = nI ((0 + i * 4)) := d6
    have d7 : I 92 0 = nI ((0 + i)) := d7
    have d8 : ∀ j, j < 40 → j ≠ 0 → j ≠ 1 → j ≠ 3 → I 92 j = nI 0 := d8
    have d9 : I 97 4 = nI 0 := d9
    have d10 : I 102 4 = nI 0 := d10
    have d11 : I 107 4 = nI 0 := d11
    have d12 : I 112 4 = nI 0 := d12
    have d13 : I 117 4 = nI 0 := d13
    refine aw_iload rfl d_M_emptyNeeded_13 ?_
    refine aw_iload_n rfl rfl d_M_emptyNeeded_15 ?_
    refine aw_icmp_geI (tgt := 65) ((i : Nat) : Int) ((n0 : Nat) : Int) (nI_toInt (by omega)) (nI_toInt (by omega)) (by decide) d_M_emptyNeeded_16 (fun _ => ?_) (fun q => absurd q (by omega))
    refine aw_iload_n rfl rfl d_M_emptyNeeded_65 ?_
    exact as_reti rfl d_M_emptyNeeded_66 (hK _)
  | succ n ih =>
    intro i I hi hF
    have hF0 := hF
    obtain ⟨d0, d1, d2, d3, d4, d5, d6, d7, d8, d9, d10, d11, d12, d13, db⟩ := hF
    have d0 : ∀ j, j < 32 → I 86 j = nI 0 := d0
    have d1 : ∀ j, j < 6 → I 90 j = nI 0 := d1
    have d2 : ∀ j, j < 6 → I 91 j = nI 9 := d2
    have d3 : I 83 0 = nI (4) := d3
    have d4 : I 83 3 = nI 0 := d4
    have d5 : I 83 5 = nI (0) := d5
    have d6 : I 92 1 = nI ((0 + i * 4)) := d6
    have d7 : I 92 0 = nI ((0 + i)) := d7
    have d8 : ∀ j, j < 40 → j ≠ 0 → j ≠ 1 → j ≠ 3 → I 92 j = nI 0 := d8
    have d9 : I 97 4 = nI 0 := d9
    have d10 : I 102 4 = nI 0 := d10
    have d11 : I 107 4 = nI 0 := d11
    have d12 : I 112 4 = nI 0 := d12
    have d13 : I 117 4 = nI 0 := d13
    refine aw_iload rfl d_M_emptyNeeded_13 ?_
    refine aw_iload_n rfl rfl d_M_emptyNeeded_15 ?_
    refine aw_icmp_geI (tgt := 65) ((i : Nat) : Int) ((n0 : Nat) : Int) (nI_toInt (by omega)) (nI_toInt (by omega)) (by decide) d_M_emptyNeeded_16 (fun q => absurd q (by omega)) (fun _ => ?_)
    refine aw_aload_n rfl rfl d_M_emptyNeeded_19 ?_
    refine aw_getr fl_M_12 kc_81 (by decide) rfl rc_81_0 d_M_emptyNeeded_20 ?_
    refine aw_getr fl_M_40 kc_82 (by decide) rfl rc_82_8 d_M_emptyNeeded_23 ?_
    refine aw_iconst (v := nI 1) ci_1 d_M_emptyNeeded_26 ?_
    refine aw_iald (j := 1) kc_92 (vp_in_nI (by decide) (by decide)) (nI_clamp (by decide)) d_M_emptyNeeded_27 ?_
    refine aw_top (x2 := nI ((0 + i * 4))) (d6) ?_
    refine aw_istore (lv2 := [.ref 81, .ref 1, .int (nI (n0)), .int (nI 0), .int (nI (i)), .int (nI ((0 + i * 4)))]) (by decide) rfl d_M_emptyNeeded_28 ?_
    refine aw_aload_n rfl rfl d_M_emptyNeeded_30 ?_
    refine aw_getr fl_M_21 kc_81 (by decide) rfl rc_81_1 d_M_emptyNeeded_31 ?_
    refine aw_aload_n rfl rfl d_M_emptyNeeded_34 ?_
    refine aw_getr fl_M_12 kc_81 (by decide) rfl rc_81_0 d_M_emptyNeeded_35 ?_
    refine as_callV (as := [.ref 82]) (d' := 5) (q := ("SinglesUp$Chair", zT0, 12)) mo_C_ride lk_M_87 kc_122 rfl rfl rfl ⟨by decide, by decide⟩ rfl rfl (by decide) d_M_emptyNeeded_38 (sp_ride_122 (I := I) (s := 4) (ru := 0) (e := (0 + i * 4)) (k := (0 + i)) hF0 (by omega) (fun I1 hF2 fr3 => ?_))
    have hF := hF2
    obtain ⟨d0, d1, d2, d3, d4, d5, d6, d7, d8, d9, d10, d11, d12, d13, db⟩ := hF
    have d0 : ∀ j, j < 32 → I1 86 j = nI 0 := d0
    have d1 : ∀ j, j < 6 → I1 90 j = nI 0 := d1
    have d2 : ∀ j, j < 6 → I1 91 j = nI 9 := d2
    have d3 : I1 83 0 = nI (4) := d3
    have d4 : I1 83 3 = nI 0 := d4
    have d5 : I1 83 5 = nI (0) := d5
    have d6 : I1 92 1 = nI (((0 + i * 4) + 4)) := d6
    have d7 : I1 92 0 = nI (((0 + i) + 1)) := d7
    have d8 : ∀ j, j < 40 → j ≠ 0 → j ≠ 1 → j ≠ 3 → I1 92 j = nI 0 := d8
    have d9 : I1 97 4 = nI 0 := d9
    have d10 : I1 102 4 = nI 0 := d10
    have d11 : I1 107 4 = nI 0 := d11
    have d12 : I1 112 4 = nI 0 := d12
    have d13 : I1 117 4 = nI 0 := d13
    refine (show As l b 10 y_M_emptyNeeded KC RC K2 (I1) 41 [.ref 81, .ref 1, .int (nI (n0)), .int (nI 0), .int (nI (i)), .int (nI ((0 + i * 4)))] [.int (nI 0)] from ?_)
    refine aw_if_leI (tgt := 59) (0) (by decide +kernel) (by decide) d_M_emptyNeeded_41 (fun _ => ?_) (fun q => absurd q (by decide))
    refine aw_iinc (v := nI (i + 1)) (lv2 := [.ref 81, .ref 1, .int (nI (n0)), .int (nI 0), .int (nI (i + 1)), .int (nI ((0 + i * 4)))]) rfl (inc_1 _) (by decide) rfl d_M_emptyNeeded_59 ?_
    refine aw_goto (tgt := 13) (by decide) d_M_emptyNeeded_62 ?_
    refine aw_weak (lv2 := [.ref 81, .ref 1, .int (nI (n0)), .int (nI 0), .int (nI (i + 1)), uu]) rfl (fun i9 v9 h9 => by rcases i9 with _ | _ | _ | _ | _ | _ | i9 <;> first | exact Or.inr h9 | exact Or.inl (by cases h9; exact ⟨rfl, rfl⟩) | cases h9) ?_; exact ih (i + 1) _ (by omega) (by rw [show 0 + (i + 1) * 4 = (0 + i * 4) + 4 by omega, show 0 + (i + 1) = 0 + i + 1 by omega]; exact hF2)
set_option maxRecDepth 20000 in
theorem sp_emptyNeeded {K2 : K2T} {I : Nat → Nat → Int32} {n0 : Nat} (hn0 : n0 ≤ 40) (hF : FH 1 I 4 0 0 0) (hK : ∀ I', K2 (some (.int (nI 0))) I') : Ss l b 10 y_M_emptyNeeded KC RC [.ref 81, .ref 1, .int (nI (n0))] (I) K2 := by
  have hF0 := hF
  obtain ⟨f0, f1, f2, f3, f4, f5, f6, f7, f8, f9, f10, f11, f12, f13, fb⟩ := hF
  have f0 : ∀ j, j < 32 → I 5 j = nI 0 := f0
  have f1 : ∀ j, j < 6 → I 9 j = nI 0 := f1
  have f2 : ∀ j, j < 6 → I 10 j = nI 9 := f2
  have f3 : I 2 0 = nI (4) := f3
  have f4 : I 2 3 = nI 0 := f4
  have f5 : I 2 5 = nI (0) := f5
  have f6 : I 11 1 = nI (0) := f6
  have f7 : I 11 0 = nI (0) := f7
  have f8 : ∀ j, j < 40 → j ≠ 0 → j ≠ 1 → j ≠ 3 → I 11 j = nI 0 := f8
  have f9 : I 16 4 = nI 0 := f9
  have f10 : I 21 4 = nI 0 := f10
  have f11 : I 26 4 = nI 0 := f11
  have f12 : I 31 4 = nI 0 := f12
  have f13 : I 36 4 = nI 0 := f13
  refine Ss.of (show As l b 10 y_M_emptyNeeded KC RC K2 (I) 0 [.ref 81, .ref 1, .int (nI (n0)), uu, uu, uu] [] from ?_)
  refine aw_aload_n rfl rfl d_M_emptyNeeded_0 ?_
  refine aw_getr fl_M_12 kc_81 (by decide) rfl rc_81_0 d_M_emptyNeeded_1 ?_
  refine aw_aload_n rfl rfl d_M_emptyNeeded_4 ?_
  refine as_callV (as := [.ref 1]) (d' := 9) (q := ("SinglesUp$Hill", zT2, 14)) mo_H_copyFrom lk_M_29 kc_82 rfl rfl rfl ⟨by decide, by decide⟩ rfl rfl (by decide) d_M_emptyNeeded_5 (Ss.of (show As l b 9 y_H_copyFrom KC RC _ (I) 0 [.ref 82, .ref 1, uu] [] from ?_))
  refine aw_iconst (v := nI 0) ci_0 d_H_copyFrom_0 ?_
  refine aw_istore_n (lv2 := [.ref 82, .ref 1, .int (nI 0)]) rfl (by decide) rfl d_H_copyFrom_1 ?_
  refine aw_iload_n rfl rfl d_H_copyFrom_2 ?_
  refine aw_aload_n rfl rfl d_H_copyFrom_3 ?_
  refine aw_getr fl_H_17 kc_82 (by decide) rfl rc_82_1 d_H_copyFrom_4 ?_
  refine aw_alen kc_84 (by decide) d_H_copyFrom_7 ?_
  refine aw_icmp_geI (tgt := 41) (0) (5) (by decide +kernel) (by decide +kernel) (by decide) d_H_copyFrom_8 (fun q => absurd q (by decide)) (fun _ => ?_)
  refine aw_iload_n rfl rfl d_H_copyFrom_11 ?_
  refine aw_aload_n rfl rfl d_H_copyFrom_12 ?_
  refine aw_getr fl_H_17 kc_1 (by decide) rfl rc_1_1 d_H_copyFrom_13 ?_
  refine aw_alen kc_3 (by decide) d_H_copyFrom_16 ?_
  refine aw_icmp_geI (tgt := 41) (0) (5) (by decide +kernel) (by decide +kernel) (by decide) d_H_copyFrom_17 (fun q => absurd q (by decide)) (fun _ => ?_)
  refine aw_aload_n rfl rfl d_H_copyFrom_20 ?_
  refine aw_getr fl_H_17 kc_82 (by decide) rfl rc_82_1 d_H_copyFrom_21 ?_
  refine aw_iload_n rfl rfl d_H_copyFrom_24 ?_
  refine aw_aald (j := 0) kc_84 (vp_in_nI (by decide) (by decide)) (nI_clamp (by decide)) rc_84_0 d_H_copyFrom_25 ?_
  refine aw_aload_n rfl rfl d_H_copyFrom_26 ?_
  refine aw_getr fl_H_17 kc_1 (by decide) rfl rc_1_1 d_H_copyFrom_27 ?_
  refine aw_iload_n rfl rfl d_H_copyFrom_30 ?_
  refine aw_aald (j := 0) kc_3 (vp_in_nI (by decide) (by decide)) (nI_clamp (by decide)) rc_3_0 d_H_copyFrom_31 ?_
  refine as_callV (as := [.ref 16]) (d' := 8) (q := ("SinglesUp$Law", zT3, 6)) mo_W_copyFrom lk_H_57 kc_97 rfl rfl rfl ⟨by decide, by decide⟩ rfl rfl (by decide) d_H_copyFrom_32 (Ss.of (show As l b 8 y_W_copyFrom KC RC _ (I) 0 [.ref 97, .ref 16] [] from ?_))
  refine aw_aload_n rfl rfl d_W_copyFrom_0 ?_
  refine aw_aload_n rfl rfl d_W_copyFrom_1 ?_
  refine aw_geti fl_W_22 kc_16 (by decide) rfl d_W_copyFrom_2 ?_
  refine aw_puti fl_W_22 kc_97 (by decide) rfl rfl rfl rfl d_W_copyFrom_5 ?_
  refine aw_aload_n rfl rfl d_W_copyFrom_8 ?_
  refine aw_aload_n rfl rfl d_W_copyFrom_9 ?_
  refine aw_geti fl_W_26 kc_16 (by decide) rfl d_W_copyFrom_10 ?_
  refine aw_top (x2 := nI 0) (Eq.trans (congrFun (upd2_ne (by decide)) (4)) (f9)) ?_
  refine aw_puti fl_W_26 kc_97 (by decide) rfl rfl rfl rfl d_W_copyFrom_13 ?_
  refine aw_aload_n rfl rfl d_W_copyFrom_16 ?_
  refine aw_getr fl_W_9 kc_16 (by decide) rfl rc_16_0 d_W_copyFrom_17 ?_
  refine aw_iconst (v := nI 0) ci_0 d_W_copyFrom_20 ?_
  refine aw_aload_n rfl rfl d_W_copyFrom_21 ?_
  refine aw_getr fl_W_9 kc_97 (by decide) rfl rc_97_0 d_W_copyFrom_22 ?_
  refine aw_iconst (v := nI 0) ci_0 d_W_copyFrom_25 ?_
  refine aw_sipush (v := nI 400) cs_400 d_W_copyFrom_26 ?_
  refine as_copy0 (n := 400) lka_W_29 ac_nat ac_sta ac_ini kc_17 kc_98 (by omega) (by omega) (by omega) (by decide) rfl d_W_copyFrom_29 (fun J1 e2 e3 e4 => ?_)
  refine aw_aload_n rfl rfl d_W_copyFrom_32 ?_
  refine aw_getr fl_W_13 kc_16 (by decide) rfl rc_16_2 d_W_copyFrom_33 ?_
  refine aw_iconst (v := nI 0) ci_0 d_W_copyFrom_36 ?_
  refine aw_aload_n rfl rfl d_W_copyFrom_37 ?_
  refine aw_getr fl_W_13 kc_97 (by decide) rfl rc_97_2 d_W_copyFrom_38 ?_
  refine aw_iconst (v := nI 0) ci_0 d_W_copyFrom_41 ?_
  refine aw_bipush (v := nI 17) cb_17 d_W_copyFrom_42 ?_
  refine as_copy0 (n := 17) lka_W_29 ac_nat ac_sta ac_ini kc_18 kc_99 (by omega) (by omega) (by omega) (by decide) rfl d_W_copyFrom_44 (fun J5 e6 e7 e8 => ?_)
  refine aw_aload_n rfl rfl d_W_copyFrom_47 ?_
  refine aw_getr fl_W_16 kc_16 (by decide) rfl rc_16_3 d_W_copyFrom_48 ?_
  refine aw_iconst (v := nI 0) ci_0 d_W_copyFrom_51 ?_
  refine aw_aload_n rfl rfl d_W_copyFrom_52 ?_
  refine aw_getr fl_W_16 kc_97 (by decide) rfl rc_97_3 d_W_copyFrom_53 ?_
  refine aw_iconst (v := nI 0) ci_0 d_W_copyFrom_56 ?_
  refine aw_bipush (v := nI 16) cb_16 d_W_copyFrom_57 ?_
  refine as_copy0 (n := 16) lka_W_29 ac_nat ac_sta ac_ini kc_19 kc_100 (by omega) (by omega) (by omega) (by decide) rfl d_W_copyFrom_59 (fun J9 e10 e11 e12 => ?_)
  refine as_retv rfl d_W_copyFrom_62 ?_
  refine (show As l b 9 y_H_copyFrom KC RC _ (J9) 35 [.ref 82, .ref 1, .int (nI 0)] [] from ?_)
  refine aw_iinc (v := nI 1) (lv2 := [.ref 82, .ref 1, .int (nI 1)]) rfl (by decide +kernel) (by decide) rfl d_H_copyFrom_35 ?_
  refine aw_goto (tgt := 2) (by decide) d_H_copyFrom_38 ?_
  refine aw_iload_n rfl rfl d_H_copyFrom_2 ?_
  refine aw_aload_n rfl rfl d_H_copyFrom_3 ?_
  refine aw_getr fl_H_17 kc_82 (by decide) rfl rc_82_1 d_H_copyFrom_4 ?_
  refine aw_alen kc_84 (by decide) d_H_copyFrom_7 ?_
  refine aw_icmp_geI (tgt := 41) (1) (5) (by decide +kernel) (by decide +kernel) (by decide) d_H_copyFrom_8 (fun q => absurd q (by decide)) (fun _ => ?_)
  refine aw_iload_n rfl rfl d_H_copyFrom_11 ?_
  refine aw_aload_n rfl rfl d_H_copyFrom_12 ?_
  refine aw_getr fl_H_17 kc_1 (by decide) rfl rc_1_1 d_H_copyFrom_13 ?_
  refine aw_alen kc_3 (by decide) d_H_copyFrom_16 ?_
  refine aw_icmp_geI (tgt := 41) (1) (5) (by decide +kernel) (by decide +kernel) (by decide) d_H_copyFrom_17 (fun q => absurd q (by decide)) (fun _ => ?_)
  refine aw_aload_n rfl rfl d_H_copyFrom_20 ?_
  refine aw_getr fl_H_17 kc_82 (by decide) rfl rc_82_1 d_H_copyFrom_21 ?_
  refine aw_iload_n rfl rfl d_H_copyFrom_24 ?_
  refine aw_aald (j := 1) kc_84 (vp_in_nI (by decide) (by decide)) (nI_clamp (by decide)) rc_84_1 d_H_copyFrom_25 ?_
  refine aw_aload_n rfl rfl d_H_copyFrom_26 ?_
  refine aw_getr fl_H_17 kc_1 (by decide) rfl rc_1_1 d_H_copyFrom_27 ?_
  refine aw_iload_n rfl rfl d_H_copyFrom_30 ?_
  refine aw_aald (j := 1) kc_3 (vp_in_nI (by decide) (by decide)) (nI_clamp (by decide)) rc_3_1 d_H_copyFrom_31 ?_
  refine as_callV (as := [.ref 21]) (d' := 8) (q := ("SinglesUp$Law", zT3, 6)) mo_W_copyFrom lk_H_57 kc_102 rfl rfl rfl ⟨by decide, by decide⟩ rfl rfl (by decide) d_H_copyFrom_32 (Ss.of (show As l b 8 y_W_copyFrom KC RC _ (J9) 0 [.ref 102, .ref 21] [] from ?_))
  refine aw_aload_n rfl rfl d_W_copyFrom_0 ?_
  refine aw_aload_n rfl rfl d_W_copyFrom_1 ?_
  refine aw_geti fl_W_22 kc_21 (by decide) rfl d_W_copyFrom_2 ?_
  refine aw_puti fl_W_22 kc_102 (by decide) rfl rfl rfl rfl d_W_copyFrom_5 ?_
  refine aw_aload_n rfl rfl d_W_copyFrom_8 ?_
  refine aw_aload_n rfl rfl d_W_copyFrom_9 ?_
  refine aw_geti fl_W_26 kc_21 (by decide) rfl d_W_copyFrom_10 ?_
  refine aw_top (x2 := nI 0) (Eq.trans (congrFun (upd2_ne (by decide)) (4)) (((congrFun (e10 21 (by decide)) (4)).trans (((congrFun (e6 21 (by decide)) (4)).trans (((congrFun (e2 21 (by decide)) (4)).trans (Eq.trans (congrFun (upd2_ne (by decide)) (4)) (Eq.trans (congrFun (upd2_ne (by decide)) (4)) (f10)))))))))) ?_
  refine aw_puti fl_W_26 kc_102 (by decide) rfl rfl rfl rfl d_W_copyFrom_13 ?_
  refine aw_aload_n rfl rfl d_W_copyFrom_16 ?_
  refine aw_getr fl_W_9 kc_21 (by decide) rfl rc_21_0 d_W_copyFrom_17 ?_
  refine aw_iconst (v := nI 0) ci_0 d_W_copyFrom_20 ?_
  refine aw_aload_n rfl rfl d_W_copyFrom_21 ?_
  refine aw_getr fl_W_9 kc_102 (by decide) rfl rc_102_0 d_W_copyFrom_22 ?_
  refine aw_iconst (v := nI 0) ci_0 d_W_copyFrom_25 ?_
  refine aw_sipush (v := nI 400) cs_400 d_W_copyFrom_26 ?_
  refine as_copy0 (n := 400) lka_W_29 ac_nat ac_sta ac_ini kc_22 kc_103 (by omega) (by omega) (by omega) (by decide) rfl d_W_copyFrom_29 (fun J13 e14 e15 e16 => ?_)
  refine aw_aload_n rfl rfl d_W_copyFrom_32 ?_
  refine aw_getr fl_W_13 kc_21 (by decide) rfl rc_21_2 d_W_copyFrom_33 ?_
  refine aw_iconst (v := nI 0) ci_0 d_W_copyFrom_36 ?_
  refine aw_aload_n rfl rfl d_W_copyFrom_37 ?_
  refine aw_getr fl_W_13 kc_102 (by decide) rfl rc_102_2 d_W_copyFrom_38 ?_
  refine aw_iconst (v := nI 0) ci_0 d_W_copyFrom_41 ?_
  refine aw_bipush (v := nI 17) cb_17 d_W_copyFrom_42 ?_
  refine as_copy0 (n := 17) lka_W_29 ac_nat ac_sta ac_ini kc_23 kc_104 (by omega) (by omega) (by omega) (by decide) rfl d_W_copyFrom_44 (fun J17 e18 e19 e20 => ?_)
  refine aw_aload_n rfl rfl d_W_copyFrom_47 ?_
  refine aw_getr fl_W_16 kc_21 (by decide) rfl rc_21_3 d_W_copyFrom_48 ?_
  refine aw_iconst (v := nI 0) ci_0 d_W_copyFrom_51 ?_
  refine aw_aload_n rfl rfl d_W_copyFrom_52 ?_
  refine aw_getr fl_W_16 kc_102 (by decide) rfl rc_102_3 d_W_copyFrom_53 ?_
  refine aw_iconst (v := nI 0) ci_0 d_W_copyFrom_56 ?_
  refine aw_bipush (v := nI 16) cb_16 d_W_copyFrom_57 ?_
  refine as_copy0 (n := 16) lka_W_29 ac_nat ac_sta ac_ini kc_24 kc_105 (by omega) (by omega) (by omega) (by decide) rfl d_W_copyFrom_59 (fun J21 e22 e23 e24 => ?_)
  refine as_retv rfl d_W_copyFrom_62 ?_
  refine (show As l b 9 y_H_copyFrom KC RC _ (J21) 35 [.ref 82, .ref 1, .int (nI 1)] [] from ?_)
  refine aw_iinc (v := nI 2) (lv2 := [.ref 82, .ref 1, .int (nI 2)]) rfl (by decide +kernel) (by decide) rfl d_H_copyFrom_35 ?_
  refine aw_goto (tgt := 2) (by decide) d_H_copyFrom_38 ?_
  refine aw_iload_n rfl rfl d_H_copyFrom_2 ?_
  refine aw_aload_n rfl rfl d_H_copyFrom_3 ?_
  refine aw_getr fl_H_17 kc_82 (by decide) rfl rc_82_1 d_H_copyFrom_4 ?_
  refine aw_alen kc_84 (by decide) d_H_copyFrom_7 ?_
  refine aw_icmp_geI (tgt := 41) (2) (5) (by decide +kernel) (by decide +kernel) (by decide) d_H_copyFrom_8 (fun q => absurd q (by decide)) (fun _ => ?_)
  refine aw_iload_n rfl rfl d_H_copyFrom_11 ?_
  refine aw_aload_n rfl rfl d_H_copyFrom_12 ?_
  refine aw_getr fl_H_17 kc_1 (by decide) rfl rc_1_1 d_H_copyFrom_13 ?_
  refine aw_alen kc_3 (by decide) d_H_copyFrom_16 ?_
  refine aw_icmp_geI (tgt := 41) (2) (5) (by decide +kernel) (by decide +kernel) (by decide) d_H_copyFrom_17 (fun q => absurd q (by decide)) (fun _ => ?_)
  refine aw_aload_n rfl rfl d_H_copyFrom_20 ?_
  refine aw_getr fl_H_17 kc_82 (by decide) rfl rc_82_1 d_H_copyFrom_21 ?_
  refine aw_iload_n rfl rfl d_H_copyFrom_24 ?_
  refine aw_aald (j := 2) kc_84 (vp_in_nI (by decide) (by decide)) (nI_clamp (by decide)) rc_84_2 d_H_copyFrom_25 ?_
  refine aw_aload_n rfl rfl d_H_copyFrom_26 ?_
  refine aw_getr fl_H_17 kc_1 (by decide) rfl rc_1_1 d_H_copyFrom_27 ?_
  refine aw_iload_n rfl rfl d_H_copyFrom_30 ?_
  refine aw_aald (j := 2) kc_3 (vp_in_nI (by decide) (by decide)) (nI_clamp (by decide)) rc_3_2 d_H_copyFrom_31 ?_
  refine as_callV (as := [.ref 26]) (d' := 8) (q := ("SinglesUp$Law", zT3, 6)) mo_W_copyFrom lk_H_57 kc_107 rfl rfl rfl ⟨by decide, by decide⟩ rfl rfl (by decide) d_H_copyFrom_32 (Ss.of (show As l b 8 y_W_copyFrom KC RC _ (J21) 0 [.ref 107, .ref 26] [] from ?_))
  refine aw_aload_n rfl rfl d_W_copyFrom_0 ?_
  refine aw_aload_n rfl rfl d_W_copyFrom_1 ?_
  refine aw_geti fl_W_22 kc_26 (by decide) rfl d_W_copyFrom_2 ?_
  refine aw_puti fl_W_22 kc_107 (by decide) rfl rfl rfl rfl d_W_copyFrom_5 ?_
  refine aw_aload_n rfl rfl d_W_copyFrom_8 ?_
  refine aw_aload_n rfl rfl d_W_copyFrom_9 ?_
  refine aw_geti fl_W_26 kc_26 (by decide) rfl d_W_copyFrom_10 ?_
  refine aw_top (x2 := nI 0) (Eq.trans (congrFun (upd2_ne (by decide)) (4)) (((congrFun (e22 26 (by decide)) (4)).trans (((congrFun (e18 26 (by decide)) (4)).trans (((congrFun (e14 26 (by decide)) (4)).trans (Eq.trans (congrFun (upd2_ne (by decide)) (4)) (Eq.trans (congrFun (upd2_ne (by decide)) (4)) (((congrFun (e10 26 (by decide)) (4)).trans (((congrFun (e6 26 (by decide)) (4)).trans (((congrFun (e2 26 (by decide)) (4)).trans (Eq.trans (congrFun (upd2_ne (by decide)) (4)) (Eq.trans (congrFun (upd2_ne (by decide)) (4)) (f11)))))))))))))))))) ?_
  refine aw_puti fl_W_26 kc_107 (by decide) rfl rfl rfl rfl d_W_copyFrom_13 ?_
  refine aw_aload_n rfl rfl d_W_copyFrom_16 ?_
  refine aw_getr fl_W_9 kc_26 (by decide) rfl rc_26_0 d_W_copyFrom_17 ?_
  refine aw_iconst (v := nI 0) ci_0 d_W_copyFrom_20 ?_
  refine aw_aload_n rfl rfl d_W_copyFrom_21 ?_
  refine aw_getr fl_W_9 kc_107 (by decide) rfl rc_107_0 d_W_copyFrom_22 ?_
  refine aw_iconst (v := nI 0) ci_0 d_W_copyFrom_25 ?_
  refine aw_sipush (v := nI 400) cs_400 d_W_copyFrom_26 ?_
  refine as_copy0 (n := 400) lka_W_29 ac_nat ac_sta ac_ini kc_27 kc_108 (by omega) (by omega) (by omega) (by decide) rfl d_W_copyFrom_29 (fun J25 e26 e27 e28 => ?_)
  refine aw_aload_n rfl rfl d_W_copyFrom_32 ?_
  refine aw_getr fl_W_13 kc_26 (by decide) rfl rc_26_2 d_W_copyFrom_33 ?_
  refine aw_iconst (v := nI 0) ci_0 d_W_copyFrom_36 ?_
  refine aw_aload_n rfl rfl d_W_copyFrom_37 ?_
  refine aw_getr fl_W_13 kc_107 (by decide) rfl rc_107_2 d_W_copyFrom_38 ?_
  refine aw_iconst (v := nI 0) ci_0 d_W_copyFrom_41 ?_
  refine aw_bipush (v := nI 17) cb_17 d_W_copyFrom_42 ?_
  refine as_copy0 (n := 17) lka_W_29 ac_nat ac_sta ac_ini kc_28 kc_109 (by omega) (by omega) (by omega) (by decide) rfl d_W_copyFrom_44 (fun J29 e30 e31 e32 => ?_)
  refine aw_aload_n rfl rfl d_W_copyFrom_47 ?_
  refine aw_getr fl_W_16 kc_26 (by decide) rfl rc_26_3 d_W_copyFrom_48 ?_
  refine aw_iconst (v := nI 0) ci_0 d_W_copyFrom_51 ?_
  refine aw_aload_n rfl rfl d_W_copyFrom_52 ?_
  refine aw_getr fl_W_16 kc_107 (by decide) rfl rc_107_3 d_W_copyFrom_53 ?_
  refine aw_iconst (v := nI 0) ci_0 d_W_copyFrom_56 ?_
  refine aw_bipush (v := nI 16) cb_16 d_W_copyFrom_57 ?_
  refine as_copy0 (n := 16) lka_W_29 ac_nat ac_sta ac_ini kc_29 kc_110 (by omega) (by omega) (by omega) (by decide) rfl d_W_copyFrom_59 (fun J33 e34 e35 e36 => ?_)
  refine as_retv rfl d_W_copyFrom_62 ?_
  refine (show As l b 9 y_H_copyFrom KC RC _ (J33) 35 [.ref 82, .ref 1, .int (nI 2)] [] from ?_)
  refine aw_iinc (v := nI 3) (lv2 := [.ref 82, .ref 1, .int (nI 3)]) rfl (by decide +kernel) (by decide) rfl d_H_copyFrom_35 ?_
  refine aw_goto (tgt := 2) (by decide) d_H_copyFrom_38 ?_
  refine aw_iload_n rfl rfl d_H_copyFrom_2 ?_
  refine aw_aload_n rfl rfl d_H_copyFrom_3 ?_
  refine aw_getr fl_H_17 kc_82 (by decide) rfl rc_82_1 d_H_copyFrom_4 ?_
  refine aw_alen kc_84 (by decide) d_H_copyFrom_7 ?_
  refine aw_icmp_geI (tgt := 41) (3) (5) (by decide +kernel) (by decide +kernel) (by decide) d_H_copyFrom_8 (fun q => absurd q (by decide)) (fun _ => ?_)
  refine aw_iload_n rfl rfl d_H_copyFrom_11 ?_
  refine aw_aload_n rfl rfl d_H_copyFrom_12 ?_
  refine aw_getr fl_H_17 kc_1 (by decide) rfl rc_1_1 d_H_copyFrom_13 ?_
  refine aw_alen kc_3 (by decide) d_H_copyFrom_16 ?_
  refine aw_icmp_geI (tgt := 41) (3) (5) (by decide +kernel) (by decide +kernel) (by decide) d_H_copyFrom_17 (fun q => absurd q (by decide)) (fun _ => ?_)
  refine aw_aload_n rfl rfl d_H_copyFrom_20 ?_
  refine aw_getr fl_H_17 kc_82 (by decide) rfl rc_82_1 d_H_copyFrom_21 ?_
  refine aw_iload_n rfl rfl d_H_copyFrom_24 ?_
  refine aw_aald (j := 3) kc_84 (vp_in_nI (by decide) (by decide)) (nI_clamp (by decide)) rc_84_3 d_H_copyFrom_25 ?_
  refine aw_aload_n rfl rfl d_H_copyFrom_26 ?_
  refine aw_getr fl_H_17 kc_1 (by decide) rfl rc_1_1 d_H_copyFrom_27 ?_
  refine aw_iload_n rfl rfl d_H_copyFrom_30 ?_
  refine aw_aald (j := 3) kc_3 (vp_in_nI (by decide) (by decide)) (nI_clamp (by decide)) rc_3_3 d_H_copyFrom_31 ?_
  refine as_callV (as := [.ref 31]) (d' := 8) (q := ("SinglesUp$Law", zT3, 6)) mo_W_copyFrom lk_H_57 kc_112 rfl rfl rfl ⟨by decide, by decide⟩ rfl rfl (by decide) d_H_copyFrom_32 (Ss.of (show As l b 8 y_W_copyFrom KC RC _ (J33) 0 [.ref 112, .ref 31] [] from ?_))
  refine aw_aload_n rfl rfl d_W_copyFrom_0 ?_
  refine aw_aload_n rfl rfl d_W_copyFrom_1 ?_
  refine aw_geti fl_W_22 kc_31 (by decide) rfl d_W_copyFrom_2 ?_
  refine aw_puti fl_W_22 kc_112 (by decide) rfl rfl rfl rfl d_W_copyFrom_5 ?_
  refine aw_aload_n rfl rfl d_W_copyFrom_8 ?_
  refine aw_aload_n rfl rfl d_W_copyFrom_9 ?_
  refine aw_geti fl_W_26 kc_31 (by decide) rfl d_W_copyFrom_10 ?_
  refine aw_top (x2 := nI 0) (Eq.trans (congrFun (upd2_ne (by decide)) (4)) (((congrFun (e34 31 (by decide)) (4)).trans (((congrFun (e30 31 (by decide)) (4)).trans (((congrFun (e26 31 (by decide)) (4)).trans (Eq.trans (congrFun (upd2_ne (by decide)) (4)) (Eq.trans (congrFun (upd2_ne (by decide)) (4)) (((congrFun (e22 31 (by decide)) (4)).trans (((congrFun (e18 31 (by decide)) (4)).trans (((congrFun (e14 31 (by decide)) (4)).trans (Eq.trans (congrFun (upd2_ne (by decide)) (4)) (Eq.trans (congrFun (upd2_ne (by decide)) (4)) (((congrFun (e10 31 (by decide)) (4)).trans (((congrFun (e6 31 (by decide)) (4)).trans (((congrFun (e2 31 (by decide)) (4)).trans (Eq.trans (congrFun (upd2_ne (by decide)) (4)) (Eq.trans (congrFun (upd2_ne (by decide)) (4)) (f12)))))))))))))))))))))))))) ?_
  refine aw_puti fl_W_26 kc_112 (by decide) rfl rfl rfl rfl d_W_copyFrom_13 ?_
  refine aw_aload_n rfl rfl d_W_copyFrom_16 ?_
  refine aw_getr fl_W_9 kc_31 (by decide) rfl rc_31_0 d_W_copyFrom_17 ?_
  refine aw_iconst (v := nI 0) ci_0 d_W_copyFrom_20 ?_
  refine aw_aload_n rfl rfl d_W_copyFrom_21 ?_
  refine aw_getr fl_W_9 kc_112 (by decide) rfl rc_112_0 d_W_copyFrom_22 ?_
  refine aw_iconst (v := nI 0) ci_0 d_W_copyFrom_25 ?_
  refine aw_sipush (v := nI 400) cs_400 d_W_copyFrom_26 ?_
  refine as_copy0 (n := 400) lka_W_29 ac_nat ac_sta ac_ini kc_32 kc_113 (by omega) (by omega) (by omega) (by decide) rfl d_W_copyFrom_29 (fun J37 e38 e39 e40 => ?_)
  refine aw_aload_n rfl rfl d_W_copyFrom_32 ?_
  refine aw_getr fl_W_13 kc_31 (by decide) rfl rc_31_2 d_W_copyFrom_33 ?_
  refine aw_iconst (v := nI 0) ci_0 d_W_copyFrom_36 ?_
  refine aw_aload_n rfl rfl d_W_copyFrom_37 ?_
  refine aw_getr fl_W_13 kc_112 (by decide) rfl rc_112_2 d_W_copyFrom_38 ?_
  refine aw_iconst (v := nI 0) ci_0 d_W_copyFrom_41 ?_
  refine aw_bipush (v := nI 17) cb_17 d_W_copyFrom_42 ?_
  refine as_copy0 (n := 17) lka_W_29 ac_nat ac_sta ac_ini kc_33 kc_114 (by omega) (by omega) (by omega) (by decide) rfl d_W_copyFrom_44 (fun J41 e42 e43 e44 => ?_)
  refine aw_aload_n rfl rfl d_W_copyFrom_47 ?_
  refine aw_getr fl_W_16 kc_31 (by decide) rfl rc_31_3 d_W_copyFrom_48 ?_
  refine aw_iconst (v := nI 0) ci_0 d_W_copyFrom_51 ?_
  refine aw_aload_n rfl rfl d_W_copyFrom_52 ?_
  refine aw_getr fl_W_16 kc_112 (by decide) rfl rc_112_3 d_W_copyFrom_53 ?_
  refine aw_iconst (v := nI 0) ci_0 d_W_copyFrom_56 ?_
  refine aw_bipush (v := nI 16) cb_16 d_W_copyFrom_57 ?_
  refine as_copy0 (n := 16) lka_W_29 ac_nat ac_sta ac_ini kc_34 kc_115 (by omega) (by omega) (by omega) (by decide) rfl d_W_copyFrom_59 (fun J45 e46 e47 e48 => ?_)
  refine as_retv rfl d_W_copyFrom_62 ?_
  refine (show As l b 9 y_H_copyFrom KC RC _ (J45) 35 [.ref 82, .ref 1, .int (nI 3)] [] from ?_)
  refine aw_iinc (v := nI 4) (lv2 := [.ref 82, .ref 1, .int (nI 4)]) rfl (by decide +kernel) (by decide) rfl d_H_copyFrom_35 ?_
  refine aw_goto (tgt := 2) (by decide) d_H_copyFrom_38 ?_
  refine aw_iload_n rfl rfl d_H_copyFrom_2 ?_
  refine aw_aload_n rfl rfl d_H_copyFrom_3 ?_
  refine aw_getr fl_H_17 kc_82 (by decide) rfl rc_82_1 d_H_copyFrom_4 ?_
  refine aw_alen kc_84 (by decide) d_H_copyFrom_7 ?_
  refine aw_icmp_geI (tgt := 41) (4) (5) (by decide +kernel) (by decide +kernel) (by decide) d_H_copyFrom_8 (fun q => absurd q (by decide)) (fun _ => ?_)
  refine aw_iload_n rfl rfl d_H_copyFrom_11 ?_
  refine aw_aload_n rfl rfl d_H_copyFrom_12 ?_
  refine aw_getr fl_H_17 kc_1 (by decide) rfl rc_1_1 d_H_copyFrom_13 ?_
  refine aw_alen kc_3 (by decide) d_H_copyFrom_16 ?_
  refine aw_icmp_geI (tgt := 41) (4) (5) (by decide +kernel) (by decide +kernel) (by decide) d_H_copyFrom_17 (fun q => absurd q (by decide)) (fun _ => ?_)
  refine aw_aload_n rfl rfl d_H_copyFrom_20 ?_
  refine aw_getr fl_H_17 kc_82 (by decide) rfl rc_82_1 d_H_copyFrom_21 ?_
  refine aw_iload_n rfl rfl d_H_copyFrom_24 ?_
  refine aw_aald (j := 4) kc_84 (vp_in_nI (by decide) (by decide)) (nI_clamp (by decide)) rc_84_4 d_H_copyFrom_25 ?_
  refine aw_aload_n rfl rfl d_H_copyFrom_26 ?_
  refine aw_getr fl_H_17 kc_1 (by decide) rfl rc_1_1 d_H_copyFrom_27 ?_
  refine aw_iload_n rfl rfl d_H_copyFrom_30 ?_
  refine aw_aald (j := 4) kc_3 (vp_in_nI (by decide) (by decide)) (nI_clamp (by decide)) rc_3_4 d_H_copyFrom_31 ?_
  refine as_callV (as := [.ref 36]) (d' := 8) (q := ("SinglesUp$Law", zT3, 6)) mo_W_copyFrom lk_H_57 kc_117 rfl rfl rfl ⟨by decide, by decide⟩ rfl rfl (by decide) d_H_copyFrom_32 (Ss.of (show As l b 8 y_W_copyFrom KC RC _ (J45) 0 [.ref 117, .ref 36] [] from ?_))
  refine aw_aload_n rfl rfl d_W_copyFrom_0 ?_
  refine aw_aload_n rfl rfl d_W_copyFrom_1 ?_
  refine aw_geti fl_W_22 kc_36 (by decide) rfl d_W_copyFrom_2 ?_
  refine aw_puti fl_W_22 kc_117 (by decide) rfl rfl rfl rfl d_W_copyFrom_5 ?_
  refine aw_aload_n rfl rfl d_W_copyFrom_8 ?_
  refine aw_aload_n rfl rfl d_W_copyFrom_9 ?_
  refine aw_geti fl_W_26 kc_36 (by decide) rfl d_W_copyFrom_10 ?_
  refine aw_top (x2 := nI 0) (Eq.trans (congrFun (upd2_ne (by decide)) (4)) (((congrFun (e46 36 (by decide)) (4)).trans (((congrFun (e42 36 (by decide)) (4)).trans (((congrFun (e38 36 (by decide)) (4)).trans (Eq.trans (congrFun (upd2_ne (by decide)) (4)) (Eq.trans (congrFun (upd2_ne (by decide)) (4)) (((congrFun (e34 36 (by decide)) (4)).trans (((congrFun (e30 36 (by decide)) (4)).trans (((congrFun (e26 36 (by decide)) (4)).trans (Eq.trans (congrFun (upd2_ne (by decide)) (4)) (Eq.trans (congrFun (upd2_ne (by decide)) (4)) (((congrFun (e22 36 (by decide)) (4)).trans (((congrFun (e18 36 (by decide)) (4)).trans (((congrFun (e14 36 (by decide)) (4)).trans (Eq.trans (congrFun (upd2_ne (by decide)) (4)) (Eq.trans (congrFun (upd2_ne (by decide)) (4)) (((congrFun (e10 36 (by decide)) (4)).trans (((congrFun (e6 36 (by decide)) (4)).trans (((congrFun (e2 36 (by decide)) (4)).trans (Eq.trans (congrFun (upd2_ne (by decide)) (4)) (Eq.trans (congrFun (upd2_ne (by decide)) (4)) (f13)))))))))))))))))))))))))))))))))) ?_
  refine aw_puti fl_W_26 kc_117 (by decide) rfl rfl rfl rfl d_W_copyFrom_13 ?_
  refine aw_aload_n rfl rfl d_W_copyFrom_16 ?_
  refine aw_getr fl_W_9 kc_36 (by decide) rfl rc_36_0 d_W_copyFrom_17 ?_
  refine aw_iconst (v := nI 0) ci_0 d_W_copyFrom_20 ?_
  refine aw_aload_n rfl rfl d_W_copyFrom_21 ?_
  refine aw_getr fl_W_9 kc_117 (by decide) rfl rc_117_0 d_W_copyFrom_22 ?_
  refine aw_iconst (v := nI 0) ci_0 d_W_copyFrom_25 ?_
  refine aw_sipush (v := nI 400) cs_400 d_W_copyFrom_26 ?_
  refine as_copy0 (n := 400) lka_W_29 ac_nat ac_sta ac_ini kc_37 kc_118 (by omega) (by omega) (by omega) (by decide) rfl d_W_copyFrom_29 (fun J49 e50 e51 e52 => ?_)
  refine aw_aload_n rfl rfl d_W_copyFrom_32 ?_
  refine aw_getr fl_W_13 kc_36 (by decide) rfl rc_36_2 d_W_copyFrom_33 ?_
  refine aw_iconst (v := nI 0) ci_0 d_W_copyFrom_36 ?_
  refine aw_aload_n rfl rfl d_W_copyFrom_37 ?_
  refine aw_getr fl_W_13 kc_117 (by decide) rfl rc_117_2 d_W_copyFrom_38 ?_
  refine aw_iconst (v := nI 0) ci_0 d_W_copyFrom_41 ?_
  refine aw_bipush (v := nI 17) cb_17 d_W_copyFrom_42 ?_
  refine as_copy0 (n := 17) lka_W_29 ac_nat ac_sta ac_ini kc_38 kc_119 (by omega) (by omega) (by omega) (by decide) rfl d_W_copyFrom_44 (fun J53 e54 e55 e56 => ?_)
  refine aw_aload_n rfl rfl d_W_copyFrom_47 ?_
  refine aw_getr fl_W_16 kc_36 (by decide) rfl rc_36_3 d_W_copyFrom_48 ?_
  refine aw_iconst (v := nI 0) ci_0 d_W_copyFrom_51 ?_
  refine aw_aload_n rfl rfl d_W_copyFrom_52 ?_
  refine aw_getr fl_W_16 kc_117 (by decide) rfl rc_117_3 d_W_copyFrom_53 ?_
  refine aw_iconst (v := nI 0) ci_0 d_W_copyFrom_56 ?_
  refine aw_bipush (v := nI 16) cb_16 d_W_copyFrom_57 ?_
  refine as_copy0 (n := 16) lka_W_29 ac_nat ac_sta ac_ini kc_39 kc_120 (by omega) (by omega) (by omega) (by decide) rfl d_W_copyFrom_59 (fun J57 e58 e59 e60 => ?_)
  refine as_retv rfl d_W_copyFrom_62 ?_
  refine (show As l b 9 y_H_copyFrom KC RC _ (J57) 35 [.ref 82, .ref 1, .int (nI 4)] [] from ?_)
  refine aw_iinc (v := nI 5) (lv2 := [.ref 82, .ref 1, .int (nI 5)]) rfl (by decide +kernel) (by decide) rfl d_H_copyFrom_35 ?_
  refine aw_goto (tgt := 2) (by decide) d_H_copyFrom_38 ?_
  refine aw_iload_n rfl rfl d_H_copyFrom_2 ?_
  refine aw_aload_n rfl rfl d_H_copyFrom_3 ?_
  refine aw_getr fl_H_17 kc_82 (by decide) rfl rc_82_1 d_H_copyFrom_4 ?_
  refine aw_alen kc_84 (by decide) d_H_copyFrom_7 ?_
  refine aw_icmp_geI (tgt := 41) (5) (5) (by decide +kernel) (by decide +kernel) (by decide) d_H_copyFrom_8 (fun _ => ?_) (fun q => absurd q (by decide))
  refine aw_aload_n rfl rfl d_H_copyFrom_41 ?_
  refine aw_getr fl_H_33 kc_82 (by decide) rfl rc_82_5 d_H_copyFrom_42 ?_
  refine aw_aload_n rfl rfl d_H_copyFrom_45 ?_
  refine aw_getr fl_H_33 kc_1 (by decide) rfl rc_1_5 d_H_copyFrom_46 ?_
  refine as_callV (as := [.ref 7]) (d' := 8) (q := ("SinglesUp$Lines", zT4, 3)) mo_L_copyFrom lk_H_61 kc_88 rfl rfl rfl ⟨by decide, by decide⟩ rfl rfl (by decide) d_H_copyFrom_49 (Ss.of (show As l b 8 y_L_copyFrom KC RC _ (J57) 0 [.ref 88, .ref 7] [] from ?_))
  refine aw_aload_n rfl rfl d_L_copyFrom_0 ?_
  refine aw_getr fl_L_9 kc_7 (by decide) rfl rc_7_0 d_L_copyFrom_1 ?_
  refine aw_iconst (v := nI 0) ci_0 d_L_copyFrom_4 ?_
  refine aw_aload_n rfl rfl d_L_copyFrom_5 ?_
  refine aw_getr fl_L_9 kc_88 (by decide) rfl rc_88_0 d_L_copyFrom_6 ?_
  refine aw_iconst (v := nI 0) ci_0 d_L_copyFrom_9 ?_
  refine aw_aload_n rfl rfl d_L_copyFrom_10 ?_
  refine aw_getr fl_L_9 kc_88 (by decide) rfl rc_88_0 d_L_copyFrom_11 ?_
  refine aw_alen kc_89 (by decide) d_L_copyFrom_14 ?_
  refine as_copy0 (n := 1440) lka_L_27 ac_nat ac_sta ac_ini kc_8 kc_89 (by omega) (by omega) (by omega) (by decide) rfl d_L_copyFrom_15 (fun J61 e62 e63 e64 => ?_)
  refine aw_aload_n rfl rfl d_L_copyFrom_18 ?_
  refine aw_getr fl_L_15 kc_7 (by decide) rfl rc_7_1 d_L_copyFrom_19 ?_
  refine aw_iconst (v := nI 0) ci_0 d_L_copyFrom_22 ?_
  refine aw_aload_n rfl rfl d_L_copyFrom_23 ?_
  refine aw_getr fl_L_15 kc_88 (by decide) rfl rc_88_1 d_L_copyFrom_24 ?_
  refine aw_iconst (v := nI 0) ci_0 d_L_copyFrom_27 ?_
  refine aw_bipush (v := nI 6) cb_6 d_L_copyFrom_28 ?_
  refine as_copy0 (n := 6) lka_L_27 ac_nat ac_sta ac_ini kc_9 kc_90 (by omega) (by omega) (by omega) (by decide) rfl d_L_copyFrom_30 (fun J65 e66 e67 e68 => ?_)
  refine aw_aload_n rfl rfl d_L_copyFrom_33 ?_
  refine aw_getr fl_L_18 kc_7 (by decide) rfl rc_7_2 d_L_copyFrom_34 ?_
  refine aw_iconst (v := nI 0) ci_0 d_L_copyFrom_37 ?_
  refine aw_aload_n rfl rfl d_L_copyFrom_38 ?_
  refine aw_getr fl_L_18 kc_88 (by decide) rfl rc_88_2 d_L_copyFrom_39 ?_
  refine aw_iconst (v := nI 0) ci_0 d_L_copyFrom_42 ?_
  refine aw_bipush (v := nI 6) cb_6 d_L_copyFrom_43 ?_
  refine as_copy0 (n := 6) lka_L_27 ac_nat ac_sta ac_ini kc_10 kc_91 (by omega) (by omega) (by omega) (by decide) rfl d_L_copyFrom_45 (fun J69 e70 e71 e72 => ?_)
  refine as_retv rfl d_L_copyFrom_48 ?_
  refine (show As l b 9 y_H_copyFrom KC RC _ (J69) 52 [.ref 82, .ref 1, .int (nI 5)] [] from ?_)
  refine aw_aload_n rfl rfl d_H_copyFrom_52 ?_
  refine aw_getr fl_H_9 kc_1 (by decide) rfl rc_1_0 d_H_copyFrom_53 ?_
  refine aw_iconst (v := nI 0) ci_0 d_H_copyFrom_56 ?_
  refine aw_aload_n rfl rfl d_H_copyFrom_57 ?_
  refine aw_getr fl_H_9 kc_82 (by decide) rfl rc_82_0 d_H_copyFrom_58 ?_
  refine aw_iconst (v := nI 0) ci_0 d_H_copyFrom_61 ?_
  refine aw_aload_n rfl rfl d_H_copyFrom_62 ?_
  refine aw_getr fl_H_9 kc_82 (by decide) rfl rc_82_0 d_H_copyFrom_63 ?_
  refine aw_alen kc_83 (by decide) d_H_copyFrom_66 ?_
  refine as_copy0 (n := 6) lka_H_64 ac_nat ac_sta ac_ini kc_2 kc_83 (by omega) (by omega) (by omega) (by decide) rfl d_H_copyFrom_67 (fun J73 e74 e75 e76 => ?_)
  refine aw_aload_n rfl rfl d_H_copyFrom_70 ?_
  refine aw_getr fl_H_21 kc_1 (by decide) rfl rc_1_2 d_H_copyFrom_71 ?_
  refine aw_iconst (v := nI 0) ci_0 d_H_copyFrom_74 ?_
  refine aw_aload_n rfl rfl d_H_copyFrom_75 ?_
  refine aw_getr fl_H_21 kc_82 (by decide) rfl rc_82_2 d_H_copyFrom_76 ?_
  refine aw_iconst (v := nI 0) ci_0 d_H_copyFrom_79 ?_
  refine aw_aload_n rfl rfl d_H_copyFrom_80 ?_
  refine aw_getr fl_H_21 kc_82 (by decide) rfl rc_82_2 d_H_copyFrom_81 ?_
  refine aw_alen kc_85 (by decide) d_H_copyFrom_84 ?_
  refine as_copy0 (n := 9) lka_H_64 ac_nat ac_sta ac_ini kc_4 kc_85 (by omega) (by omega) (by omega) (by decide) rfl d_H_copyFrom_85 (fun J77 e78 e79 e80 => ?_)
  refine aw_aload_n rfl rfl d_H_copyFrom_88 ?_
  refine aw_getr fl_H_24 kc_1 (by decide) rfl rc_1_3 d_H_copyFrom_89 ?_
  refine aw_iconst (v := nI 0) ci_0 d_H_copyFrom_92 ?_
  refine aw_aload_n rfl rfl d_H_copyFrom_93 ?_
  refine aw_getr fl_H_24 kc_82 (by decide) rfl rc_82_3 d_H_copyFrom_94 ?_
  refine aw_iconst (v := nI 0) ci_0 d_H_copyFrom_97 ?_
  refine aw_aload_n rfl rfl d_H_copyFrom_98 ?_
  refine aw_getr fl_H_24 kc_82 (by decide) rfl rc_82_3 d_H_copyFrom_99 ?_
  refine aw_alen kc_86 (by decide) d_H_copyFrom_102 ?_
  refine as_copy0 (n := 32) lka_H_64 ac_nat ac_sta ac_ini kc_5 kc_86 (by omega) (by omega) (by omega) (by decide) rfl d_H_copyFrom_103 (fun J81 e82 e83 e84 => ?_)
  refine aw_aload_n rfl rfl d_H_copyFrom_106 ?_
  refine aw_getr fl_H_27 kc_1 (by decide) rfl rc_1_4 d_H_copyFrom_107 ?_
  refine aw_iconst (v := nI 0) ci_0 d_H_copyFrom_110 ?_
  refine aw_aload_n rfl rfl d_H_copyFrom_111 ?_
  refine aw_getr fl_H_27 kc_82 (by decide) rfl rc_82_4 d_H_copyFrom_112 ?_
  refine aw_iconst (v := nI 0) ci_0 d_H_copyFrom_115 ?_
  refine aw_aload_n rfl rfl d_H_copyFrom_116 ?_
  refine aw_getr fl_H_27 kc_82 (by decide) rfl rc_82_4 d_H_copyFrom_117 ?_
  refine aw_alen kc_87 (by decide) d_H_copyFrom_120 ?_
  refine as_copy0 (n := 9) lka_H_64 ac_nat ac_sta ac_ini kc_6 kc_87 (by omega) (by omega) (by omega) (by decide) rfl d_H_copyFrom_121 (fun J85 e86 e87 e88 => ?_)
  refine aw_aload_n rfl rfl d_H_copyFrom_124 ?_
  refine aw_getr fl_H_37 kc_1 (by decide) rfl rc_1_8 d_H_copyFrom_125 ?_
  refine aw_iconst (v := nI 0) ci_0 d_H_copyFrom_128 ?_
  refine aw_aload_n rfl rfl d_H_copyFrom_129 ?_
  refine aw_getr fl_H_37 kc_82 (by decide) rfl rc_82_8 d_H_copyFrom_130 ?_
  refine aw_iconst (v := nI 0) ci_0 d_H_copyFrom_133 ?_
  refine aw_aload_n rfl rfl d_H_copyFrom_134 ?_
  refine aw_getr fl_H_37 kc_82 (by decide) rfl rc_82_8 d_H_copyFrom_135 ?_
  refine aw_alen kc_92 (by decide) d_H_copyFrom_138 ?_
  refine as_copy0 (n := 40) lka_H_64 ac_nat ac_sta ac_ini kc_11 kc_92 (by omega) (by omega) (by omega) (by decide) rfl d_H_copyFrom_139 (fun J89 e90 e91 e92 => ?_)
  refine aw_aload_n rfl rfl d_H_copyFrom_142 ?_
  refine aw_getr fl_H_40 kc_1 (by decide) rfl rc_1_9 d_H_copyFrom_143 ?_
  refine aw_iconst (v := nI 0) ci_0 d_H_copyFrom_146 ?_
  refine aw_aload_n rfl rfl d_H_copyFrom_147 ?_
  refine aw_getr fl_H_40 kc_82 (by decide) rfl rc_82_9 d_H_copyFrom_148 ?_
  refine aw_iconst (v := nI 0) ci_0 d_H_copyFrom_151 ?_
  refine aw_aload_n rfl rfl d_H_copyFrom_152 ?_
  refine aw_getr fl_H_40 kc_82 (by decide) rfl rc_82_9 d_H_copyFrom_153 ?_
  refine aw_alen kc_93 (by decide) d_H_copyFrom_156 ?_
  refine as_copy0 (n := 30) lka_H_64 ac_nat ac_sta ac_ini kc_12 kc_93 (by omega) (by omega) (by omega) (by decide) rfl d_H_copyFrom_157 (fun J93 e94 e95 e96 => ?_)
  refine aw_aload_n rfl rfl d_H_copyFrom_160 ?_
  refine aw_getr fl_H_43 kc_1 (by decide) rfl rc_1_10 d_H_copyFrom_161 ?_
  refine aw_iconst (v := nI 0) ci_0 d_H_copyFrom_164 ?_
  refine aw_aload_n rfl rfl d_H_copyFrom_165 ?_
  refine aw_getr fl_H_43 kc_82 (by decide) rfl rc_82_10 d_H_copyFrom_166 ?_
  refine aw_iconst (v := nI 0) ci_0 d_H_copyFrom_169 ?_
  refine aw_aload_n rfl rfl d_H_copyFrom_170 ?_
  refine aw_getr fl_H_43 kc_82 (by decide) rfl rc_82_10 d_H_copyFrom_171 ?_
  refine aw_alen kc_94 (by decide) d_H_copyFrom_174 ?_
  refine as_copy0 (n := 180) lka_H_64 ac_nat ac_sta ac_ini kc_13 kc_94 (by omega) (by omega) (by omega) (by decide) rfl d_H_copyFrom_175 (fun J97 e98 e99 e100 => ?_)
  refine aw_aload_n rfl rfl d_H_copyFrom_178 ?_
  refine aw_aload_n rfl rfl d_H_copyFrom_179 ?_
  refine aw_geti fl_H_70 kc_1 (by decide) rfl d_H_copyFrom_180 ?_
  refine aw_puti fl_H_70 kc_82 (by decide) rfl rfl rfl rfl d_H_copyFrom_183 ?_
  refine aw_aload_n rfl rfl d_H_copyFrom_186 ?_
  refine aw_aload_n rfl rfl d_H_copyFrom_187 ?_
  refine aw_geti fl_H_73 kc_1 (by decide) rfl d_H_copyFrom_188 ?_
  refine aw_puti fl_H_73 kc_82 (by decide) rfl rfl rfl rfl d_H_copyFrom_191 ?_
  refine aw_aload_n rfl rfl d_H_copyFrom_194 ?_
  refine aw_aload_n rfl rfl d_H_copyFrom_195 ?_
  refine aw_geti fl_H_46 kc_1 (by decide) rfl d_H_copyFrom_196 ?_
  refine aw_puti fl_H_46 kc_82 (by decide) rfl rfl rfl rfl d_H_copyFrom_199 ?_
  refine as_retv rfl d_H_copyFrom_202 ?_
  refine (show As l b 10 y_M_emptyNeeded KC RC K2 (upd2 (upd2 (upd2 J97 82 6 ((J97) 1 6)) 82 7 ((upd2 J97 82 6 ((J97) 1 6)) 1 7)) 82 11 ((upd2 (upd2 J97 82 6 ((J97) 1 6)) 82 7 ((upd2 J97 82 6 ((J97) 1 6)) 1 7)) 1 11)) 8 [.ref 81, .ref 1, .int (nI (n0)), uu, uu, uu] [] from ?_)
  refine aw_iconst (v := nI 0) ci_0 d_M_emptyNeeded_8 ?_
  refine aw_istore_n (lv2 := [.ref 81, .ref 1, .int (nI (n0)), .int (nI 0), uu, uu]) rfl (by decide) rfl d_M_emptyNeeded_9 ?_
  refine aw_iconst (v := nI 0) ci_0 d_M_emptyNeeded_10 ?_
  refine aw_istore (lv2 := [.ref 81, .ref 1, .int (nI (n0)), .int (nI 0), .int (nI 0), uu]) (by decide) rfl d_M_emptyNeeded_11 ?_
  exact lp_needed (n0 := n0) hn0 hK n0 0 (upd2 (upd2 (upd2 J97 82 6 ((J97) 1 6)) 82 7 ((upd2 J97 82 6 ((J97) 1 6)) 1 7)) 82 11 ((upd2 (upd2 J97 82 6 ((J97) 1 6)) 82 7 ((upd2 J97 82 6 ((J97) 1 6)) 1 7)) 1 11)) (by omega) (show FH 82 (upd2 (upd2 (upd2 J97 82 6 ((J97) 1 6)) 82 7 ((upd2 J97 82 6 ((J97) 1 6)) 1 7)) 82 11 ((upd2 (upd2 J97 82 6 ((J97) 1 6)) 82 7 ((upd2 J97 82 6 ((J97) 1 6)) 1 7)) 1 11)) (4) (0) (0) (0) from ⟨fun j hj => (Eq.trans (congrFun (upd2_ne (by decide)) (j)) (Eq.trans (congrFun (upd2_ne (by decide)) (j)) (Eq.trans (congrFun (upd2_ne (by decide)) (j)) (((congrFun (e98 86 (by decide)) (j)).trans (((congrFun (e94 86 (by decide)) (j)).trans (((congrFun (e90 86 (by decide)) (j)).trans (((congrFun (e86 86 (by decide)) (j)).trans (((e83 (j) (by omega)).trans (((congrFun (e78 5 (by decide)) (j)).trans (((congrFun (e74 5 (by decide)) (j)).trans (((congrFun (e70 5 (by decide)) (j)).trans (((congrFun (e66 5 (by decide)) (j)).trans (((congrFun (e62 5 (by decide)) (j)).trans (((congrFun (e58 5 (by decide)) (j)).trans (((congrFun (e54 5 (by decide)) (j)).trans (((congrFun (e50 5 (by decide)) (j)).trans (Eq.trans (congrFun (upd2_ne (by decide)) (j)) (Eq.trans (congrFun (upd2_ne (by decide)) (j)) (((congrFun (e46 5 (by decide)) (j)).trans (((congrFun (e42 5 (by decide)) (j)).trans (((congrFun (e38 5 (by decide)) (j)).trans (Eq.trans (congrFun (upd2_ne (by decide)) (j)) (Eq.trans (congrFun (upd2_ne (by decide)) (j)) (((congrFun (e34 5 (by decide)) (j)).trans (((congrFun (e30 5 (by decide)) (j)).trans (((congrFun (e26 5 (by decide)) (j)).trans (Eq.trans (congrFun (upd2_ne (by decide)) (j)) (Eq.trans (congrFun (upd2_ne (by decide)) (j)) (((congrFun (e22 5 (by decide)) (j)).trans (((congrFun (e18 5 (by decide)) (j)).trans (((congrFun (e14 5 (by decide)) (j)).trans (Eq.trans (congrFun (upd2_ne (by decide)) (j)) (Eq.trans (congrFun (upd2_ne (by decide)) (j)) (((congrFun (e10 5 (by decide)) (j)).trans (((congrFun (e6 5 (by decide)) (j)).trans (((congrFun (e2 5 (by decide)) (j)).trans (Eq.trans (congrFun (upd2_ne (by decide)) (j)) (Eq.trans (congrFun (upd2_ne (by decide)) (j)) (f0 j (by omega))))))))))))))))))))))))))))))))))))))))))))))))))))))))))))))))), fun j hj => (Eq.trans (congrFun (upd2_ne (by decide)) (j)) (Eq.trans (congrFun (upd2_ne (by decide)) (j)) (Eq.trans (congrFun (upd2_ne (by decide)) (j)) (((congrFun (e98 90 (by decide)) (j)).trans (((congrFun (e94 90 (by decide)) (j)).trans (((congrFun (e90 90 (by decide)) (j)).trans (((congrFun (e86 90 (by decide)) (j)).trans (((congrFun (e82 90 (by decide)) (j)).trans (((congrFun (e78 90 (by decide)) (j)).trans (((congrFun (e74 90 (by decide)) (j)).trans (((congrFun (e70 90 (by decide)) (j)).trans (((e67 (j) (by omega)).trans (((congrFun (e62 9 (by decide)) (j)).trans (((congrFun (e58 9 (by decide)) (j)).trans (((congrFun (e54 9 (by decide)) (j)).trans (((congrFun (e50 9 (by decide)) (j)).trans (Eq.trans (congrFun (upd2_ne (by decide)) (j)) (Eq.trans (congrFun (upd2_ne (by decide)) (j)) (((congrFun (e46 9 (by decide)) (j)).trans (((congrFun (e42 9 (by decide)) (j)).trans (((congrFun (e38 9 (by decide)) (j)).trans (Eq.trans (congrFun (upd2_ne (by decide)) (j)) (Eq.trans (congrFun (upd2_ne (by decide)) (j)) (((congrFun (e34 9 (by decide)) (j)).trans (((congrFun (e30 9 (by decide)) (j)).trans (((congrFun (e26 9 (by decide)) (j)).trans (Eq.trans (congrFun (upd2_ne (by decide)) (j)) (Eq.trans (congrFun (upd2_ne (by decide)) (j)) (((congrFun (e22 9 (by decide)) (j)).trans (((congrFun (e18 9 (by decide)) (j)).trans (((congrFun (e14 9 (by decide)) (j)).trans (Eq.trans (congrFun (upd2_ne (by decide)) (j)) (Eq.trans (congrFun (upd2_ne (by decide)) (j)) (((congrFun (e10 9 (by decide)) (j)).trans (((congrFun (e6 9 (by decide)) (j)).trans (((congrFun (e2 9 (by decide)) (j)).trans (Eq.trans (congrFun (upd2_ne (by decide)) (j)) (Eq.trans (congrFun (upd2_ne (by decide)) (j)) (f1 (j) (by omega))))))))))))))))))))))))))))))))))))))))))))))))))))))))))))))))), fun j hj => (Eq.trans (congrFun (upd2_ne (by decide)) (j)) (Eq.trans (congrFun (upd2_ne (by decide)) (j)) (Eq.trans (congrFun (upd2_ne (by decide)) (j)) (((congrFun (e98 91 (by decide)) (j)).trans (((congrFun (e94 91 (by decide)) (j)).trans (((congrFun (e90 91 (by decide)) (j)).trans (((congrFun (e86 91 (by decide)) (j)).trans (((congrFun (e82 91 (by decide)) (j)).trans (((congrFun (e78 91 (by decide)) (j)).trans (((congrFun (e74 91 (by decide)) (j)).trans (((e71 (j) (by omega)).trans (((congrFun (e66 10 (by decide)) (j)).trans (((congrFun (e62 10 (by decide)) (j)).trans (((congrFun (e58 10 (by decide)) (j)).trans (((congrFun (e54 10 (by decide)) (j)).trans (((congrFun (e50 10 (by decide)) (j)).trans (Eq.trans (congrFun (upd2_ne (by decide)) (j)) (Eq.trans (congrFun (upd2_ne (by decide)) (j)) (((congrFun (e46 10 (by decide)) (j)).trans (((congrFun (e42 10 (by decide)) (j)).trans (((congrFun (e38 10 (by decide)) (j)).trans (Eq.trans (congrFun (upd2_ne (by decide)) (j)) (Eq.trans (congrFun (upd2_ne (by decide)) (j)) (((congrFun (e34 10 (by decide)) (j)).trans (((congrFun (e30 10 (by decide)) (j)).trans (((congrFun (e26 10 (by decide)) (j)).trans (Eq.trans (congrFun (upd2_ne (by decide)) (j)) (Eq.trans (congrFun (upd2_ne (by decide)) (j)) (((congrFun (e22 10 (by decide)) (j)).trans (((congrFun (e18 10 (by decide)) (j)).trans (((congrFun (e14 10 (by decide)) (j)).trans (Eq.trans (congrFun (upd2_ne (by decide)) (j)) (Eq.trans (congrFun (upd2_ne (by decide)) (j)) (((congrFun (e10 10 (by decide)) (j)).trans (((congrFun (e6 10 (by decide)) (j)).trans (((congrFun (e2 10 (by decide)) (j)).trans (Eq.trans (congrFun (upd2_ne (by decide)) (j)) (Eq.trans (congrFun (upd2_ne (by decide)) (j)) (f2 (j) (by omega))))))))))))))))))))))))))))))))))))))))))))))))))))))))))))))))), (Eq.trans (congrFun (upd2_ne (by decide)) (0)) (Eq.trans (congrFun (upd2_ne (by decide)) (0)) (Eq.trans (congrFun (upd2_ne (by decide)) (0)) (((congrFun (e98 83 (by decide)) (0)).trans (((congrFun (e94 83 (by decide)) (0)).trans (((congrFun (e90 83 (by decide)) (0)).trans (((congrFun (e86 83 (by decide)) (0)).trans (((congrFun (e82 83 (by decide)) (0)).trans (((congrFun (e78 83 (by decide)) (0)).trans (((e75 (0) (by omega)).trans (((congrFun (e70 2 (by decide)) (0)).trans (((congrFun (e66 2 (by decide)) (0)).trans (((congrFun (e62 2 (by decide)) (0)).trans (((congrFun (e58 2 (by decide)) (0)).trans (((congrFun (e54 2 (by decide)) (0)).trans (((congrFun (e50 2 (by decide)) (0)).trans (Eq.trans (congrFun (upd2_ne (by decide)) (0)) (Eq.trans (congrFun (upd2_ne (by decide)) (0)) (((congrFun (e46 2 (by decide)) (0)).trans (((congrFun (e42 2 (by decide)) (0)).trans (((congrFun (e38 2 (by decide)) (0)).trans (Eq.trans (congrFun (upd2_ne (by decide)) (0)) (Eq.trans (congrFun (upd2_ne (by decide)) (0)) (((congrFun (e34 2 (by decide)) (0)).trans (((congrFun (e30 2 (by decide)) (0)).trans (((congrFun (e26 2 (by decide)) (0)).trans (Eq.trans (congrFun (upd2_ne (by decide)) (0)) (Eq.trans (congrFun (upd2_ne (by decide)) (0)) (((congrFun (e22 2 (by decide)) (0)).trans (((congrFun (e18 2 (by decide)) (0)).trans (((congrFun (e14 2 (by decide)) (0)).trans (Eq.trans (congrFun (upd2_ne (by decide)) (0)) (Eq.trans (congrFun (upd2_ne (by decide)) (0)) (((congrFun (e10 2 (by decide)) (0)).trans (((congrFun (e6 2 (by decide)) (0)).trans (((congrFun (e2 2 (by decide)) (0)).trans (Eq.trans (congrFun (upd2_ne (by decide)) (0)) (Eq.trans (congrFun (upd2_ne (by decide)) (0)) (f3)))))))))))))))))))))))))))))))))))))))))))))))))))))))))))))))), (Eq.trans (congrFun (upd2_ne (by decide)) (3)) (Eq.trans (congrFun (upd2_ne (by decide)) (3)) (Eq.trans (congrFun (upd2_ne (by decide)) (3)) (((congrFun (e98 83 (by decide)) (3)).trans (((congrFun (e94 83 (by decide)) (3)).trans (((congrFun (e90 83 (by decide)) (3)).trans (((congrFun (e86 83 (by decide)) (3)).trans (((congrFun (e82 83 (by decide)) (3)).trans (((congrFun (e78 83 (by decide)) (3)).trans (((e75 (3) (by omega)).trans (((congrFun (e70 2 (by decide)) (3)).trans (((congrFun (e66 2 (by decide)) (3)).trans (((congrFun (e62 2 (by decide)) (3)).trans (((congrFun (e58 2 (by decide)) (3)).trans (((congrFun (e54 2 (by decide)) (3)).trans (((congrFun (e50 2 (by decide)) (3)).trans (Eq.trans (congrFun (upd2_ne (by decide)) (3)) (Eq.trans (congrFun (upd2_ne (by decide)) (3)) (((congrFun (e46 2 (by decide)) (3)).trans (((congrFun (e42 2 (by decide)) (3)).trans (((congrFun (e38 2 (by decide)) (3)).trans (Eq.trans (congrFun (upd2_ne (by decide)) (3)) (Eq.trans (congrFun (upd2_ne (by decide)) (3)) (((congrFun (e34 2 (by decide)) (3)).trans (((congrFun (e30 2 (by decide)) (3)).trans (((congrFun (e26 2 (by decide)) (3)).trans (Eq.trans (congrFun (upd2_ne (by decide)) (3)) (Eq.trans (congrFun (upd2_ne (by decide)) (3)) (((congrFun (e22 2 (by decide)) (3)).trans (((congrFun (e18 2 (by decide)) (3)).trans (((congrFun (e14 2 (by decide)) (3)).trans (Eq.trans (congrFun (upd2_ne (by decide)) (3)) (Eq.trans (congrFun (upd2_ne (by decide)) (3)) (((congrFun (e10 2 (by decide)) (3)).trans (((congrFun (e6 2 (by decide)) (3)).trans (((congrFun (e2 2 (by decide)) (3)).trans (Eq.trans (congrFun (upd2_ne (by decide)) (3)) (Eq.trans (congrFun (upd2_ne (by decide)) (3)) (f4)))))))))))))))))))))))))))))))))))))))))))))))))))))))))))))))), (Eq.trans (congrFun (upd2_ne (by decide)) (5)) (Eq.trans (congrFun (upd2_ne (by decide)) (5)) (Eq.trans (congrFun (upd2_ne (by decide)) (5)) (((congrFun (e98 83 (by decide)) (5)).trans (((congrFun (e94 83 (by decide)) (5)).trans (((congrFun (e90 83 (by decide)) (5)).trans (((congrFun (e86 83 (by decide)) (5)).trans (((congrFun (e82 83 (by decide)) (5)).trans (((congrFun (e78 83 (by decide)) (5)).trans (((e75 (5) (by omega)).trans (((congrFun (e70 2 (by decide)) (5)).trans (((congrFun (e66 2 (by decide)) (5)).trans (((congrFun (e62 2 (by decide)) (5)).trans (((congrFun (e58 2 (by decide)) (5)).trans (((congrFun (e54 2 (by decide)) (5)).trans (((congrFun (e50 2 (by decide)) (5)).trans (Eq.trans (congrFun (upd2_ne (by decide)) (5)) (Eq.trans (congrFun (upd2_ne (by decide)) (5)) (((congrFun (e46 2 (by decide)) (5)).trans (((congrFun (e42 2 (by decide)) (5)).trans (((congrFun (e38 2 (by decide)) (5)).trans (Eq.trans (congrFun (upd2_ne (by decide)) (5)) (Eq.trans (congrFun (upd2_ne (by decide)) (5)) (((congrFun (e34 2 (by decide)) (5)).trans (((congrFun (e30 2 (by decide)) (5)).trans (((congrFun (e26 2 (by decide)) (5)).trans (Eq.trans (congrFun (upd2_ne (by decide)) (5)) (Eq.trans (congrFun (upd2_ne (by decide)) (5)) (((congrFun (e22 2 (by decide)) (5)).trans (((congrFun (e18 2 (by decide)) (5)).trans (((congrFun (e14 2 (by decide)) (5)).trans (Eq.trans (congrFun (upd2_ne (by decide)) (5)) (Eq.trans (congrFun (upd2_ne (by decide)) (5)) (((congrFun (e10 2 (by decide)) (5)).trans (((congrFun (e6 2 (by decide)) (5)).trans (((congrFun (e2 2 (by decide)) (5)).trans (Eq.trans (congrFun (upd2_ne (by decide)) (5)) (Eq.trans (congrFun (upd2_ne (by decide)) (5)) (f5)))))))))))))))))))))))))))))))))))))))))))))))))))))))))))))))), (Eq.trans (congrFun (upd2_ne (by decide)) (1)) (Eq.trans (congrFun (upd2_ne (by decide)) (1)) (Eq.trans (congrFun (upd2_ne (by decide)) (1)) (((congrFun (e98 92 (by decide)) (1)).trans (((congrFun (e94 92 (by decide)) (1)).trans (((e91 (1) (by omega)).trans (((congrFun (e86 11 (by decide)) (1)).trans (((congrFun (e82 11 (by decide)) (1)).trans (((congrFun (e78 11 (by decide)) (1)).trans (((congrFun (e74 11 (by decide)) (1)).trans (((congrFun (e70 11 (by decide)) (1)).trans (((congrFun (e66 11 (by decide)) (1)).trans (((congrFun (e62 11 (by decide)) (1)).trans (((congrFun (e58 11 (by decide)) (1)).trans (((congrFun (e54 11 (by decide)) (1)).trans (((congrFun (e50 11 (by decide)) (1)).trans (Eq.trans (congrFun (upd2_ne (by decide)) (1)) (Eq.trans (congrFun (upd2_ne (by decide)) (1)) (((congrFun (e46 11 (by decide)) (1)).trans (((congrFun (e42 11 (by decide)) (1)).trans (((congrFun (e38 11 (by decide)) (1)).trans (Eq.trans (congrFun (upd2_ne (by decide)) (1)) (Eq.trans (congrFun (upd2_ne (by decide)) (1)) (((congrFun (e34 11 (by decide)) (1)).trans (((congrFun (e30 11 (by decide)) (1)).trans (((congrFun (e26 11 (by decide)) (1)).trans (Eq.trans (congrFun (upd2_ne (by decide)) (1)) (Eq.trans (congrFun (upd2_ne (by decide)) (1)) (((congrFun (e22 11 (by decide)) (1)).trans (((congrFun (e18 11 (by decide)) (1)).trans (((congrFun (e14 11 (by decide)) (1)).trans (Eq.trans (congrFun (upd2_ne (by decide)) (1)) (Eq.trans (congrFun (upd2_ne (by decide)) (1)) (((congrFun (e10 11 (by decide)) (1)).trans (((congrFun (e6 11 (by decide)) (1)).trans (((congrFun (e2 11 (by decide)) (1)).trans (Eq.trans (congrFun (upd2_ne (by decide)) (1)) (Eq.trans (congrFun (upd2_ne (by decide)) (1)) (f6)))))))))))))))))))))))))))))))))))))))))))))))))))))))))))))))), (Eq.trans (congrFun (upd2_ne (by decide)) (0)) (Eq.trans (congrFun (upd2_ne (by decide)) (0)) (Eq.trans (congrFun (upd2_ne (by decide)) (0)) (((congrFun (e98 92 (by decide)) (0)).trans (((congrFun (e94 92 (by decide)) (0)).trans (((e91 (0) (by omega)).trans (((congrFun (e86 11 (by decide)) (0)).trans (((congrFun (e82 11 (by decide)) (0)).trans (((congrFun (e78 11 (by decide)) (0)).trans (((congrFun (e74 11 (by decide)) (0)).trans (((congrFun (e70 11 (by decide)) (0)).trans (((congrFun (e66 11 (by decide)) (0)).trans (((congrFun (e62 11 (by decide)) (0)).trans (((congrFun (e58 11 (by decide)) (0)).trans (((congrFun (e54 11 (by decide)) (0)).trans (((congrFun (e50 11 (by decide)) (0)).trans (Eq.trans (congrFun (upd2_ne (by decide)) (0)) (Eq.trans (congrFun (upd2_ne (by decide)) (0)) (((congrFun (e46 11 (by decide)) (0)).trans (((congrFun (e42 11 (by decide)) (0)).trans (((congrFun (e38 11 (by decide)) (0)).trans (Eq.trans (congrFun (upd2_ne (by decide)) (0)) (Eq.trans (congrFun (upd2_ne (by decide)) (0)) (((congrFun (e34 11 (by decide)) (0)).trans (((congrFun (e30 11 (by decide)) (0)).trans (((congrFun (e26 11 (by decide)) (0)).trans (Eq.trans (congrFun (upd2_ne (by decide)) (0)) (Eq.trans (congrFun (upd2_ne (by decide)) (0)) (((congrFun (e22 11 (by decide)) (0)).trans (((congrFun (e18 11 (by decide)) (0)).trans (((congrFun (e14 11 (by decide)) (0)).trans (Eq.trans (congrFun (upd2_ne (by decide)) (0)) (Eq.trans (congrFun (upd2_ne (by decide)) (0)) (((congrFun (e10 11 (by decide)) (0)).trans (((congrFun (e6 11 (by decide)) (0)).trans (((congrFun (e2 11 (by decide)) (0)).trans (Eq.trans (congrFun (upd2_ne (by decide)) (0)) (Eq.trans (congrFun (upd2_ne (by decide)) (0)) (f7)))))))))))))))))))))))))))))))))))))))))))))))))))))))))))))))), fun j hj a1 a2 a3 => (Eq.trans (congrFun (upd2_ne (by decide)) (j)) (Eq.trans (congrFun (upd2_ne (by decide)) (j)) (Eq.trans (congrFun (upd2_ne (by decide)) (j)) (((congrFun (e98 92 (by decide)) (j)).trans (((congrFun (e94 92 (by decide)) (j)).trans (((e91 (j) (by omega)).trans (((congrFun (e86 11 (by decide)) (j)).trans (((congrFun (e82 11 (by decide)) (j)).trans (((congrFun (e78 11 (by decide)) (j)).trans (((congrFun (e74 11 (by decide)) (j)).trans (((congrFun (e70 11 (by decide)) (j)).trans (((congrFun (e66 11 (by decide)) (j)).trans (((congrFun (e62 11 (by decide)) (j)).trans (((congrFun (e58 11 (by decide)) (j)).trans (((congrFun (e54 11 (by decide)) (j)).trans (((congrFun (e50 11 (by decide)) (j)).trans (Eq.trans (congrFun (upd2_ne (by decide)) (j)) (Eq.trans (congrFun (upd2_ne (by decide)) (j)) (((congrFun (e46 11 (by decide)) (j)).trans (((congrFun (e42 11 (by decide)) (j)).trans (((congrFun (e38 11 (by decide)) (j)).trans (Eq.trans (congrFun (upd2_ne (by decide)) (j)) (Eq.trans (congrFun (upd2_ne (by decide)) (j)) (((congrFun (e34 11 (by decide)) (j)).trans (((congrFun (e30 11 (by decide)) (j)).trans (((congrFun (e26 11 (by decide)) (j)).trans (Eq.trans (congrFun (upd2_ne (by decide)) (j)) (Eq.trans (congrFun (upd2_ne (by decide)) (j)) (((congrFun (e22 11 (by decide)) (j)).trans (((congrFun (e18 11 (by decide)) (j)).trans (((congrFun (e14 11 (by decide)) (j)).trans (Eq.trans (congrFun (upd2_ne (by decide)) (j)) (Eq.trans (congrFun (upd2_ne (by decide)) (j)) (((congrFun (e10 11 (by decide)) (j)).trans (((congrFun (e6 11 (by decide)) (j)).trans (((congrFun (e2 11 (by decide)) (j)).trans (Eq.trans (congrFun (upd2_ne (by decide)) (j)) (Eq.trans (congrFun (upd2_ne (by decide)) (j)) ((f8 (j) (by omega) (by omega) (by omega) (by omega)))))))))))))))))))))))))))))))))))))))))))))))))))))))))))))))))), (Eq.trans (congrFun (upd2_ne (by decide)) (4)) (Eq.trans (congrFun (upd2_ne (by decide)) (4)) (Eq.trans (congrFun (upd2_ne (by decide)) (4)) (((congrFun (e98 97 (by decide)) (4)).trans (((congrFun (e94 97 (by decide)) (4)).trans (((congrFun (e90 97 (by decide)) (4)).trans (((congrFun (e86 97 (by decide)) (4)).trans (((congrFun (e82 97 (by decide)) (4)).trans (((congrFun (e78 97 (by decide)) (4)).trans (((congrFun (e74 97 (by decide)) (4)).trans (((congrFun (e70 97 (by decide)) (4)).trans (((congrFun (e66 97 (by decide)) (4)).trans (((congrFun (e62 97 (by decide)) (4)).trans (((congrFun (e58 97 (by decide)) (4)).trans (((congrFun (e54 97 (by decide)) (4)).trans (((congrFun (e50 97 (by decide)) (4)).trans (Eq.trans (congrFun (upd2_ne (by decide)) (4)) (Eq.trans (congrFun (upd2_ne (by decide)) (4)) (((congrFun (e46 97 (by decide)) (4)).trans (((congrFun (e42 97 (by decide)) (4)).trans (((congrFun (e38 97 (by decide)) (4)).trans (Eq.trans (congrFun (upd2_ne (by decide)) (4)) (Eq.trans (congrFun (upd2_ne (by decide)) (4)) (((congrFun (e34 97 (by decide)) (4)).trans (((congrFun (e30 97 (by decide)) (4)).trans (((congrFun (e26 97 (by decide)) (4)).trans (Eq.trans (congrFun (upd2_ne (by decide)) (4)) (Eq.trans (congrFun (upd2_ne (by decide)) (4)) (((congrFun (e22 97 (by decide)) (4)).trans (((congrFun (e18 97 (by decide)) (4)).trans (((congrFun (e14 97 (by decide)) (4)).trans (Eq.trans (congrFun (upd2_ne (by decide)) (4)) (Eq.trans (congrFun (upd2_ne (by decide)) (4)) (((congrFun (e10 97 (by decide)) (4)).trans (((congrFun (e6 97 (by decide)) (4)).trans (((congrFun (e2 97 (by decide)) (4)).trans (upd2_eq)))))))))))))))))))))))))))))))))))))))))))))))))))))))))))))), (Eq.trans (congrFun (upd2_ne (by decide)) (4)) (Eq.trans (congrFun (upd2_ne (by decide)) (4)) (Eq.trans (congrFun (upd2_ne (by decide)) (4)) (((congrFun (e98 102 (by decide)) (4)).trans (((congrFun (e94 102 (by decide)) (4)).trans (((congrFun (e90 102 (by decide)) (4)).trans (((congrFun (e86 102 (by decide)) (4)).trans (((congrFun (e82 102 (by decide)) (4)).trans (((congrFun (e78 102 (by decide)) (4)).trans (((congrFun (e74 102 (by decide)) (4)).trans (((congrFun (e70 102 (by decide)) (4)).trans (((congrFun (e66 102 (by decide)) (4)).trans (((congrFun (e62 102 (by decide)) (4)).trans (((congrFun (e58 102 (by decide)) (4)).trans (((congrFun (e54 102 (by decide)) (4)).trans (((congrFun (e50 102 (by decide)) (4)).trans (Eq.trans (congrFun (upd2_ne (by decide)) (4)) (Eq.trans (congrFun (upd2_ne (by decide)) (4)) (((congrFun (e46 102 (by decide)) (4)).trans (((congrFun (e42 102 (by decide)) (4)).trans (((congrFun (e38 102 (by decide)) (4)).trans (Eq.trans (congrFun (upd2_ne (by decide)) (4)) (Eq.trans (congrFun (upd2_ne (by decide)) (4)) (((congrFun (e34 102 (by decide)) (4)).trans (((congrFun (e30 102 (by decide)) (4)).trans (((congrFun (e26 102 (by decide)) (4)).trans (Eq.trans (congrFun (upd2_ne (by decide)) (4)) (Eq.trans (congrFun (upd2_ne (by decide)) (4)) (((congrFun (e22 102 (by decide)) (4)).trans (((congrFun (e18 102 (by decide)) (4)).trans (((congrFun (e14 102 (by decide)) (4)).trans (upd2_eq)))))))))))))))))))))))))))))))))))))))))))))))))))))), (Eq.trans (congrFun (upd2_ne (by decide)) (4)) (Eq.trans (congrFun (upd2_ne (by decide)) (4)) (Eq.trans (congrFun (upd2_ne (by decide)) (4)) (((congrFun (e98 107 (by decide)) (4)).trans (((congrFun (e94 107 (by decide)) (4)).trans (((congrFun (e90 107 (by decide)) (4)).trans (((congrFun (e86 107 (by decide)) (4)).trans (((congrFun (e82 107 (by decide)) (4)).trans (((congrFun (e78 107 (by decide)) (4)).trans (((congrFun (e74 107 (by decide)) (4)).trans (((congrFun (e70 107 (by decide)) (4)).trans (((congrFun (e66 107 (by decide)) (4)).trans (((congrFun (e62 107 (by decide)) (4)).trans (((congrFun (e58 107 (by decide)) (4)).trans (((congrFun (e54 107 (by decide)) (4)).trans (((congrFun (e50 107 (by decide)) (4)).trans (Eq.trans (congrFun (upd2_ne (by decide)) (4)) (Eq.trans (congrFun (upd2_ne (by decide)) (4)) (((congrFun (e46 107 (by decide)) (4)).trans (((congrFun (e42 107 (by decide)) (4)).trans (((congrFun (e38 107 (by decide)) (4)).trans (Eq.trans (congrFun (upd2_ne (by decide)) (4)) (Eq.trans (congrFun (upd2_ne (by decide)) (4)) (((congrFun (e34 107 (by decide)) (4)).trans (((congrFun (e30 107 (by decide)) (4)).trans (((congrFun (e26 107 (by decide)) (4)).trans (upd2_eq)))))))))))))))))))))))))))))))))))))))))))))), (Eq.trans (congrFun (upd2_ne (by decide)) (4)) (Eq.trans (congrFun (upd2_ne (by decide)) (4)) (Eq.trans (congrFun (upd2_ne (by decide)) (4)) (((congrFun (e98 112 (by decide)) (4)).trans (((congrFun (e94 112 (by decide)) (4)).trans (((congrFun (e90 112 (by decide)) (4)).trans (((congrFun (e86 112 (by decide)) (4)).trans (((congrFun (e82 112 (by decide)) (4)).trans (((congrFun (e78 112 (by decide)) (4)).trans (((congrFun (e74 112 (by decide)) (4)).trans (((congrFun (e70 112 (by decide)) (4)).trans (((congrFun (e66 112 (by decide)) (4)).trans (((congrFun (e62 112 (by decide)) (4)).trans (((congrFun (e58 112 (by decide)) (4)).trans (((congrFun (e54 112 (by decide)) (4)).trans (((congrFun (e50 112 (by decide)) (4)).trans (Eq.trans (congrFun (upd2_ne (by decide)) (4)) (Eq.trans (congrFun (upd2_ne (by decide)) (4)) (((congrFun (e46 112 (by decide)) (4)).trans (((congrFun (e42 112 (by decide)) (4)).trans (((congrFun (e38 112 (by decide)) (4)).trans (upd2_eq)))))))))))))))))))))))))))))))))))))), (Eq.trans (congrFun (upd2_ne (by decide)) (4)) (Eq.trans (congrFun (upd2_ne (by decide)) (4)) (Eq.trans (congrFun (upd2_ne (by decide)) (4)) (((congrFun (e98 117 (by decide)) (4)).trans (((congrFun (e94 117 (by decide)) (4)).trans (((congrFun (e90 117 (by decide)) (4)).trans (((congrFun (e86 117 (by decide)) (4)).trans (((congrFun (e82 117 (by decide)) (4)).trans (((congrFun (e78 117 (by decide)) (4)).trans (((congrFun (e74 117 (by decide)) (4)).trans (((congrFun (e70 117 (by decide)) (4)).trans (((congrFun (e66 117 (by decide)) (4)).trans (((congrFun (e62 117 (by decide)) (4)).trans (((congrFun (e58 117 (by decide)) (4)).trans (((congrFun (e54 117 (by decide)) (4)).trans (((congrFun (e50 117 (by decide)) (4)).trans (upd2_eq)))))))))))))))))))))))))))))), (by omega)⟩)
set_option maxRecDepth 20000 in
theorem cs_needed {K2 : K2T} {I : Nat → Nat → Int32} (hR : FRc I) {x : Int32} (hg : 1 ≤ x.toInt ∧ x.toInt ≤ 40 → ∀ I', K2 (some (.int (nI 0))) I') (hb : ¬ (1 ≤ x.toInt ∧ x.toInt ≤ 40) → ∀ I', K2 (some (.int (-1))) I') : Ss l b 14 y_S_needed KC RC [.ref 0, .int (x)] (I) K2 := by
  obtain ⟨hF, r6, r7, r11, t1, t2, t4, hh, tm, h7, h8, h9, q1, q10, q11, im, p0⟩ := hR
  have hF0 := hF
  obtain ⟨f0, f1, f2, f3, f4, f5, f6, f7, f8, f9, f10, f11, f12, f13, fb⟩ := hF
  have f0 : ∀ j, j < 32 → I 5 j = nI 0 := f0
  have f1 : ∀ j, j < 6 → I 9 j = nI 0 := f1
  have f2 : ∀ j, j < 6 → I 10 j = nI 9 := f2
  have f3 : I 2 0 = nI (4) := f3
  have f4 : I 2 3 = nI 0 := f4
  have f5 : I 2 5 = nI (0) := f5
  have f6 : I 11 1 = nI (0) := f6
  have f7 : I 11 0 = nI (0) := f7
  have f8 : ∀ j, j < 40 → j ≠ 0 → j ≠ 1 → j ≠ 3 → I 11 j = nI 0 := f8
  have f9 : I 16 4 = nI 0 := f9
  have f10 : I 21 4 = nI 0 := f10
  have f11 : I 26 4 = nI 0 := f11
  have f12 : I 31 4 = nI 0 := f12
  have f13 : I 36 4 = nI 0 := f13
  refine Ss.of (show As l b 14 y_S_needed KC RC K2 (I) 0 [.ref 0, .int (x)] [] from ?_)
  refine aw_iload_n rfl rfl d_S_needed_0 ?_
  refine aw_iconst (v := nI 1) ci_1 d_S_needed_1 ?_
  refine aw_icmp_ltI (tgt := 11) (x).toInt (1) rfl (by decide +kernel) (by decide) d_S_needed_2 (fun c1 => ?_) (fun c1 => ?_)
  · refine aw_iconst (v := (-1 : Int32)) rfl d_S_needed_11 ?_
    refine aw_goto (tgt := 27) (by decide) d_S_needed_12 ?_
    exact as_reti rfl d_S_needed_27 (hb (by omega) _)
  · refine aw_iload_n rfl rfl d_S_needed_5 ?_
    refine aw_bipush (v := nI 40) cb_40 d_S_needed_6 ?_
    refine aw_icmp_leI (tgt := 15) (x).toInt (40) rfl (by decide +kernel) (by decide) d_S_needed_8 (fun c2 => ?_) (fun c2 => ?_)
    · obtain ⟨w4, hw4, ew4, gw4⟩ := nI_of_range (x := x) (n := 41) (by omega) (by omega)
      subst ew4
      refine aw_aload_n rfl rfl d_S_needed_15 ?_
      refine aw_getr fl_S_22 kc_0 (by decide) rfl rc_0_2 d_S_needed_16 ?_
      refine aw_aload_n rfl rfl d_S_needed_19 ?_
      refine aw_getr fl_S_12 kc_0 (by decide) rfl rc_0_0 d_S_needed_20 ?_
      refine aw_iload_n rfl rfl d_S_needed_23 ?_
      refine as_callV (as := [.ref 1, .int (nI (w4))]) (d' := 10) (q := ("SinglesUp$Mind", zT5, 3)) mo_M_emptyNeeded lk_S_240 kc_81 rfl rfl rfl ⟨by decide, by decide⟩ rfl rfl (by decide) d_S_needed_24 (sp_emptyNeeded (I := I) (n0 := w4) (by omega) hF0 (fun I3 => ?_))
      refine (show As l b 14 y_S_needed KC RC K2 (I3) 27 [.ref 0, .int (nI (w4))] [.int (nI 0)] from ?_)
      exact as_reti rfl d_S_needed_27 (hg (by omega) _)
    · refine aw_iconst (v := (-1 : Int32)) rfl d_S_needed_11 ?_
      refine aw_goto (tgt := 27) (by decide) d_S_needed_12 ?_
      exact as_reti rfl d_S_needed_27 (hb (by omega) _)
set_option maxRecDepth 20000 in
theorem lp_which {K2 : K2T} {n0 : Nat} {what : Int32} (hn0 : n0 ≤ 20) (hw : 0 ≤ what.toInt ∧ what.toInt ≤ 2) (hg : ∀ I', (what.toInt = 0 → K2 (some (.int (nI 0))) I') ∧ (what.toInt = 1 → K2 (some (.int (nI (n0 * 4)))) I') ∧ (what.toInt = 2 → K2 (some (.int (nI 0))) I')) : ∀ (n i : Nat) (I : Nat → Nat → Int32) (x5 x6 : Int32), i + n = 16 → 1 ≤ i → FH 1 I 4 0 0 0 → I 129 0 = nI 0 → I 129 1 = nI (n0 * 4) → I 129 2 = nI 0 → As l b 10 y_M_bestSet KC RC K2 (I) 3 [.ref 81, .ref 1, .int (nI (n0)), .int (what), .int (nI (i)), .int (x5), .int (x6)] [] := by
  intro n
  induction n with
  | zero =>
    intro i I x5 x6 hi h1i hF g0 g1 g2
    have hF0 := hF
    obtain ⟨f0, f1, f2, f3, f4, f5, f6, f7, f8, f9, f10, f11, f12, f13, fb⟩ := hF
    have f0 : ∀ j, j < 32 → I 5 j = nI 0 := f0
    have f1 : ∀ j, j < 6 → I 9 j = nI 0 := f1
    have f2 : ∀ j, j < 6 → I 10 j = nI 9 := f2
    have f3 : I 2 0 = nI (4) := f3
    have f4 : I 2 3 = nI 0 := f4
    have f5 : I 2 5 = nI (0) := f5
    have f6 : I 11 1 = nI (0) := f6
    have f7 : I 11 0 = nI (0) := f7
    have f8 : ∀ j, j < 40 → j ≠ 0 → j ≠ 1 → j ≠ 3 → I 11 j = nI 0 := f8
    have f9 : I 16 4 = nI 0 := f9
    have f10 : I 21 4 = nI 0 := f10
    have f11 : I 26 4 = nI 0 := f11
    have f12 : I 31 4 = nI 0 := f12
    have f13 : I 36 4 = nI 0 := f13
    refine aw_iload rfl d_M_bestSet_3 ?_
    refine aw_bipush (v := nI 16) cb_16 d_M_bestSet_5 ?_
    refine aw_icmp_geI (tgt := 124) ((i : Nat) : Int) (16) (nI_toInt (by omega)) (by decide +kernel) (by decide) d_M_bestSet_7 (fun _ => ?_) (fun q => absurd q (by omega))
    obtain ⟨w2, hw2, ew2, gw2⟩ := nI_of_range (x := what) (n := 3) (by omega) (by omega)
    subst ew2
    rcases (show w2 = 0 ∨ w2 = 1 ∨ w2 = 2 by omega) with rfl | rfl | rfl
    · refine aw_iload_n rfl rfl d_M_bestSet_124 ?_
      refine aw_if_ltI (tgt := 146) (0) (by decide +kernel) (by decide) d_M_bestSet_125 (fun q => absurd q (by decide)) (fun _ => ?_)
      refine aw_iload_n rfl rfl d_M_bestSet_128 ?_
      refine aw_aload_n rfl rfl d_M_bestSet_129 ?_
      refine aw_getr fl_M_25 kc_81 (by decide) rfl rc_81_2 d_M_bestSet_130 ?_
      refine aw_alen kc_129 (by decide) d_M_bestSet_133 ?_
      refine aw_icmp_geI (tgt := 146) (0) (3) (by decide +kernel) (by decide +kernel) (by decide) d_M_bestSet_134 (fun q => absurd q (by decide)) (fun _ => ?_)
      refine aw_aload_n rfl rfl d_M_bestSet_137 ?_
      refine aw_getr fl_M_25 kc_81 (by decide) rfl rc_81_2 d_M_bestSet_138 ?_
      refine aw_iload_n rfl rfl d_M_bestSet_141 ?_
      refine aw_iald (j := 0) kc_129 (vp_in_nI (by decide) (by decide)) (nI_clamp (by decide)) d_M_bestSet_142 ?_
      refine aw_top (x2 := nI 0) (g0) ?_
      refine aw_goto (tgt := 147) (by decide) d_M_bestSet_143 ?_
      exact as_reti rfl d_M_bestSet_147 ((hg _).1 (by omega))
    · refine aw_iload_n rfl rfl d_M_bestSet_124 ?_
      refine aw_if_ltI (tgt := 146) (1) (by decide +kernel) (by decide) d_M_bestSet_125 (fun q => absurd q (by decide)) (fun _ => ?_)
      refine aw_iload_n rfl rfl d_M_bestSet_128 ?_
      refine aw_aload_n rfl rfl d_M_bestSet_129 ?_
      refine aw_getr fl_M_25 kc_81 (by decide) rfl rc_81_2 d_M_bestSet_130 ?_
      refine aw_alen kc_129 (by decide) d_M_bestSet_133 ?_
      refine aw_icmp_geI (tgt := 146) (1) (3) (by decide +kernel) (by decide +kernel) (by decide) d_M_bestSet_134 (fun q => absurd q (by decide)) (fun _ => ?_)
      refine aw_aload_n rfl rfl d_M_bestSet_137 ?_
      refine aw_getr fl_M_25 kc_81 (by decide) rfl rc_81_2 d_M_bestSet_138 ?_
      refine aw_iload_n rfl rfl d_M_bestSet_141 ?_
      refine aw_iald (j := 1) kc_129 (vp_in_nI (by decide) (by decide)) (nI_clamp (by decide)) d_M_bestSet_142 ?_
      refine aw_top (x2 := nI ((n0 * 4))) (g1) ?_
      refine aw_goto (tgt := 147) (by decide) d_M_bestSet_143 ?_
      exact as_reti rfl d_M_bestSet_147 ((hg _).2.1 (by omega))
    · refine aw_iload_n rfl rfl d_M_bestSet_124 ?_
      refine aw_if_ltI (tgt := 146) (2) (by decide +kernel) (by decide) d_M_bestSet_125 (fun q => absurd q (by decide)) (fun _ => ?_)
      refine aw_iload_n rfl rfl d_M_bestSet_128 ?_
      refine aw_aload_n rfl rfl d_M_bestSet_129 ?_
      refine aw_getr fl_M_25 kc_81 (by decide) rfl rc_81_2 d_M_bestSet_130 ?_
      refine aw_alen kc_129 (by decide) d_M_bestSet_133 ?_
      refine aw_icmp_geI (tgt := 146) (2) (3) (by decide +kernel) (by decide +kernel) (by decide) d_M_bestSet_134 (fun q => absurd q (by decide)) (fun _ => ?_)
      refine aw_aload_n rfl rfl d_M_bestSet_137 ?_
      refine aw_getr fl_M_25 kc_81 (by decide) rfl rc_81_2 d_M_bestSet_138 ?_
      refine aw_iload_n rfl rfl d_M_bestSet_141 ?_
      refine aw_iald (j := 2) kc_129 (vp_in_nI (by decide) (by decide)) (nI_clamp (by decide)) d_M_bestSet_142 ?_
      refine aw_top (x2 := nI 0) (g2) ?_
      refine aw_goto (tgt := 147) (by decide) d_M_bestSet_143 ?_
      exact as_reti rfl d_M_bestSet_147 ((hg _).2.2 (by omega))
  | succ n ih =>
    intro i I x5 x6 hi h1i hF g0 g1 g2
    have hF0 := hF
    obtain ⟨f0, f1, f2, f3, f4, f5, f6, f7, f8, f9, f10, f11, f12, f13, fb⟩ := hF
    have f0 : ∀ j, j < 32 → I 5 j = nI 0 := f0
    have f1 : ∀ j, j < 6 → I 9 j = nI 0 := f1
    have f2 : ∀ j, j < 6 → I 10 j = nI 9 := f2
    have f3 : I 2 0 = nI (4) := f3
    have f4 : I 2 3 = nI 0 := f4
    have f5 : I 2 5 = nI (0) := f5
    have f6 : I 11 1 = nI (0) := f6
    have f7 : I 11 0 = nI (0) := f7
    have f8 : ∀ j, j < 40 → j ≠ 0 → j ≠ 1 → j ≠ 3 → I 11 j = nI 0 := f8
    have f9 : I 16 4 = nI 0 := f9
    have f10 : I 21 4 = nI 0 := f10
    have f11 : I 26 4 = nI 0 := f11
    have f12 : I 31 4 = nI 0 := f12
    have f13 : I 36 4 = nI 0 := f13
    refine aw_iload rfl d_M_bestSet_3 ?_
    refine aw_bipush (v := nI 16) cb_16 d_M_bestSet_5 ?_
    refine aw_icmp_geI (tgt := 124) ((i : Nat) : Int) (16) (nI_toInt (by omega)) (by decide +kernel) (by decide) d_M_bestSet_7 (fun q => absurd q (by omega)) (fun _ => ?_)
    refine aw_aload_n rfl rfl d_M_bestSet_10 ?_
    refine aw_getr fl_M_12 kc_81 (by decide) rfl rc_81_0 d_M_bestSet_11 ?_
    refine aw_aload_n rfl rfl d_M_bestSet_14 ?_
    refine as_callV (as := [.ref 1]) (d' := 9) (q := ("SinglesUp$Hill", zT2, 14)) mo_H_copyFrom lk_M_29 kc_82 rfl rfl rfl ⟨by decide, by decide⟩ rfl rfl (by decide) d_M_bestSet_15 (Ss.of (show As l b 9 y_H_copyFrom KC RC _ (I) 0 [.ref 82, .ref 1, uu] [] from ?_))
    refine aw_iconst (v := nI 0) ci_0 d_H_copyFrom_0 ?_
    refine aw_istore_n (lv2 := [.ref 82, .ref 1, .int (nI 0)]) rfl (by decide) rfl d_H_copyFrom_1 ?_
    refine aw_iload_n rfl rfl d_H_copyFrom_2 ?_
    refine aw_aload_n rfl rfl d_H_copyFrom_3 ?_
    refine aw_getr fl_H_17 kc_82 (by decide) rfl rc_82_1 d_H_copyFrom_4 ?_
    refine aw_alen kc_84 (by decide) d_H_copyFrom_7 ?_
    refine aw_icmp_geI (tgt := 41) (0) (5) (by decide +kernel) (by decide +kernel) (by decide) d_H_copyFrom_8 (fun q => absurd q (by decide)) (fun _ => ?_)
    refine aw_iload_n rfl rfl d_H_copyFrom_11 ?_
    refine aw_aload_n rfl rfl d_H_copyFrom_12 ?_
    refine aw_getr fl_H_17 kc_1 (by decide) rfl rc_1_1 d_H_copyFrom_13 ?_
    refine aw_alen kc_3 (by decide) d_H_copyFrom_16 ?_
    refine aw_icmp_geI (tgt := 41) (0) (5) (by decide +kernel) (by decide +kernel) (by decide) d_H_copyFrom_17 (fun q => absurd q (by decide)) (fun _ => ?_)
    refine aw_aload_n rfl rfl d_H_copyFrom_20 ?_
    refine aw_getr fl_H_17 kc_82 (by decide) rfl rc_82_1 d_H_copyFrom_21 ?_
    refine aw_iload_n rfl rfl d_H_copyFrom_24 ?_
    refine aw_aald (j := 0) kc_84 (vp_in_nI (by decide) (by decide)) (nI_clamp (by decide)) rc_84_0 d_H_copyFrom_25 ?_
    refine aw_aload_n rfl rfl d_H_copyFrom_26 ?_
    refine aw_getr fl_H_17 kc_1 (by decide) rfl rc_1_1 d_H_copyFrom_27 ?_
    refine aw_iload_n rfl rfl d_H_copyFrom_30 ?_
    refine aw_aald (j := 0) kc_3 (vp_in_nI (by decide) (by decide)) (nI_clamp (by decide)) rc_3_0 d_H_copyFrom_31 ?_
    refine as_callV (as := [.ref 16]) (d' := 8) (q := ("SinglesUp$Law", zT3, 6)) mo_W_copyFrom lk_H_57 kc_97 rfl rfl rfl ⟨by decide, by decide⟩ rfl rfl (by decide) d_H_copyFrom_32 (Ss.of (show As l b 8 y_W_copyFrom KC RC _ (I) 0 [.ref 97, .ref 16] [] from ?_))
    refine aw_aload_n rfl rfl d_W_copyFrom_0 ?_
    refine aw_aload_n rfl rfl d_W_copyFrom_1 ?_
    refine aw_geti fl_W_22 kc_16 (by decide) rfl d_W_copyFrom_2 ?_
    refine aw_puti fl_W_22 kc_97 (by decide) rfl rfl rfl rfl d_W_copyFrom_5 ?_
    refine aw_aload_n rfl rfl d_W_copyFrom_8 ?_
    refine aw_aload_n rfl rfl d_W_copyFrom_9 ?_
    refine aw_geti fl_W_26 kc_16 (by decide) rfl d_W_copyFrom_10 ?_
    refine aw_top (x2 := nI 0) (Eq.trans (congrFun (upd2_ne (by decide)) (4)) (f9)) ?_
    refine aw_puti fl_W_26 kc_97 (by decide) rfl rfl rfl rfl d_W_copyFrom_13 ?_
    refine aw_aload_n rfl rfl d_W_copyFrom_16 ?_
    refine aw_getr fl_W_9 kc_16 (by decide) rfl rc_16_0 d_W_copyFrom_17 ?_
    refine aw_iconst (v := nI 0) ci_0 d_W_copyFrom_20 ?_
    refine aw_aload_n rfl rfl d_W_copyFrom_21 ?_
    refine aw_getr fl_W_9 kc_97 (by decide) rfl rc_97_0 d_W_copyFrom_22 ?_
    refine aw_iconst (v := nI 0) ci_0 d_W_copyFrom_25 ?_
    refine aw_sipush (v := nI 400) cs_400 d_W_copyFrom_26 ?_
    refine as_copy0 (n := 400) lka_W_29 ac_nat ac_sta ac_ini kc_17 kc_98 (by omega) (by omega) (by omega) (by decide) rfl d_W_copyFrom_29 (fun J1 e2 e3 e4 => ?_)
    refine aw_aload_n rfl rfl d_W_copyFrom_32 ?_
    refine aw_getr fl_W_13 kc_16 (by decide) rfl rc_16_2 d_W_copyFrom_33 ?_
    refine aw_iconst (v := nI 0) ci_0 d_W_copyFrom_36 ?_
    refine aw_aload_n rfl rfl d_W_copyFrom_37 ?_
    refine aw_getr fl_W_13 kc_97 (by decide) rfl rc_97_2 d_W_copyFrom_38 ?_
    refine aw_iconst (v := nI 0) ci_0 d_W_copyFrom_41 ?_
    refine aw_bipush (v := nI 17) cb_17 d_W_copyFrom_42 ?_
    refine as_copy0 (n := 17) lka_W_29 ac_nat ac_sta ac_ini kc_18 kc_99 (by omega) (by omega) (by omega) (by decide) rfl d_W_copyFrom_44 (fun J5 e6 e7 e8 => ?_)
    refine aw_aload_n rfl rfl d_W_copyFrom_47 ?_
    refine aw_getr fl_W_16 kc_16 (by decide) rfl rc_16_3 d_W_copyFrom_48 ?_
    refine aw_iconst (v := nI 0) ci_0 d_W_copyFrom_51 ?_
    refine aw_aload_n rfl rfl d_W_copyFrom_52 ?_
    refine aw_getr fl_W_16 kc_97 (by decide) rfl rc_97_3 d_W_copyFrom_53 ?_
    refine aw_iconst (v := nI 0) ci_0 d_W_copyFrom_56 ?_
    refine aw_bipush (v := nI 16) cb_16 d_W_copyFrom_57 ?_
    refine as_copy0 (n := 16) lka_W_29 ac_nat ac_sta ac_ini kc_19 kc_100 (by omega) (by omega) (by omega) (by decide) rfl d_W_copyFrom_59 (fun J9 e10 e11 e12 => ?_)
    refine as_retv rfl d_W_copyFrom_62 ?_
    refine (show As l b 9 y_H_copyFrom KC RC _ (J9) 35 [.ref 82, .ref 1, .int (nI 0)] [] from ?_)
    refine aw_iinc (v := nI 1) (lv2 := [.ref 82, .ref 1, .int (nI 1)]) rfl (by decide +kernel) (by decide) rfl d_H_copyFrom_35 ?_
    refine aw_goto (tgt := 2) (by decide) d_H_copyFrom_38 ?_
    refine aw_iload_n rfl rfl d_H_copyFrom_2 ?_
    refine aw_aload_n rfl rfl d_H_copyFrom_3 ?_
    refine aw_getr fl_H_17 kc_82 (by decide) rfl rc_82_1 d_H_copyFrom_4 ?_
    refine aw_alen kc_84 (by decide) d_H_copyFrom_7 ?_
    refine aw_icmp_geI (tgt := 41) (1) (5) (by decide +kernel) (by decide +kernel) (by decide) d_H_copyFrom_8 (fun q => absurd q (by decide)) (fun _ => ?_)
    refine aw_iload_n rfl rfl d_H_copyFrom_11 ?_
    refine aw_aload_n rfl rfl d_H_copyFrom_12 ?_
    refine aw_getr fl_H_17 kc_1 (by decide) rfl rc_1_1 d_H_copyFrom_13 ?_
    refine aw_alen kc_3 (by decide) d_H_copyFrom_16 ?_
    refine aw_icmp_geI (tgt := 41) (1) (5) (by decide +kernel) (by decide +kernel) (by decide) d_H_copyFrom_17 (fun q => absurd q (by decide)) (fun _ => ?_)
    refine aw_aload_n rfl rfl d_H_copyFrom_20 ?_
    refine aw_getr fl_H_17 kc_82 (by decide) rfl rc_82_1 d_H_copyFrom_21 ?_
    refine aw_iload_n rfl rfl d_H_copyFrom_24 ?_
    refine aw_aald (j := 1) kc_84 (vp_in_nI (by decide) (by decide)) (nI_clamp (by decide)) rc_84_1 d_H_copyFrom_25 ?_
    refine aw_aload_n rfl rfl d_H_copyFrom_26 ?_
    refine aw_getr fl_H_17 kc_1 (by decide) rfl rc_1_1 d_H_copyFrom_27 ?_
    refine aw_iload_n rfl rfl d_H_copyFrom_30 ?_
    refine aw_aald (j := 1) kc_3 (vp_in_nI (by decide) (by decide)) (nI_clamp (by decide)) rc_3_1 d_H_copyFrom_31 ?_
    refine as_callV (as := [.ref 21]) (d' := 8) (q := ("SinglesUp$Law", zT3, 6)) mo_W_copyFrom lk_H_57 kc_102 rfl rfl rfl ⟨by decide, by decide⟩ rfl rfl (by decide) d_H_copyFrom_32 (Ss.of (show As l b 8 y_W_copyFrom KC RC _ (J9) 0 [.ref 102, .ref 21] [] from ?_))
    refine aw_aload_n rfl rfl d_W_copyFrom_0 ?_
    refine aw_aload_n rfl rfl d_W_copyFrom_1 ?_
    refine aw_geti fl_W_22 kc_21 (by decide) rfl d_W_copyFrom_2 ?_
    refine aw_puti fl_W_22 kc_102 (by decide) rfl rfl rfl rfl d_W_copyFrom_5 ?_
    refine aw_aload_n rfl rfl d_W_copyFrom_8 ?_
    refine aw_aload_n rfl rfl d_W_copyFrom_9 ?_
    refine aw_geti fl_W_26 kc_21 (by decide) rfl d_W_copyFrom_10 ?_
    refine aw_top (x2 := nI 0) (Eq.trans (congrFun (upd2_ne (by decide)) (4)) (((congrFun (e10 21 (by decide)) (4)).trans (((congrFun (e6 21 (by decide)) (4)).trans (((congrFun (e2 21 (by decide)) (4)).trans (Eq.trans (congrFun (upd2_ne (by decide)) (4)) (Eq.trans (congrFun (upd2_ne (by decide)) (4)) (f10)))))))))) ?_
    refine aw_puti fl_W_26 kc_102 (by decide) rfl rfl rfl rfl d_W_copyFrom_13 ?_
    refine aw_aload_n rfl rfl d_W_copyFrom_16 ?_
    refine aw_getr fl_W_9 kc_21 (by decide) rfl rc_21_0 d_W_copyFrom_17 ?_
    refine aw_iconst (v := nI 0) ci_0 d_W_copyFrom_20 ?_
    refine aw_aload_n rfl rfl d_W_copyFrom_21 ?_
    refine aw_getr fl_W_9 kc_102 (by decide) rfl rc_102_0 d_W_copyFrom_22 ?_
    refine aw_iconst (v := nI 0) ci_0 d_W_copyFrom_25 ?_
    refine aw_sipush (v := nI 400) cs_400 d_W_copyFrom_26 ?_
    refine as_copy0 (n := 400) lka_W_29 ac_nat ac_sta ac_ini kc_22 kc_103 (by omega) (by omega) (by omega) (by decide) rfl d_W_copyFrom_29 (fun J13 e14 e15 e16 => ?_)
    refine aw_aload_n rfl rfl d_W_copyFrom_32 ?_
    refine aw_getr fl_W_13 kc_21 (by decide) rfl rc_21_2 d_W_copyFrom_33 ?_
    refine aw_iconst (v := nI 0) ci_0 d_W_copyFrom_36 ?_
    refine aw_aload_n rfl rfl d_W_copyFrom_37 ?_
    refine aw_getr fl_W_13 kc_102 (by decide) rfl rc_102_2 d_W_copyFrom_38 ?_
    refine aw_iconst (v := nI 0) ci_0 d_W_copyFrom_41 ?_
    refine aw_bipush (v := nI 17) cb_17 d_W_copyFrom_42 ?_
    refine as_copy0 (n := 17) lka_W_29 ac_nat ac_sta ac_ini kc_23 kc_104 (by omega) (by omega) (by omega) (by decide) rfl d_W_copyFrom_44 (fun J17 e18 e19 e20 => ?_)
    refine aw_aload_n rfl rfl d_W_copyFrom_47 ?_
    refine aw_getr fl_W_16 kc_21 (by decide) rfl rc_21_3 d_W_copyFrom_48 ?_
    refine aw_iconst (v := nI 0) ci_0 d_W_copyFrom_51 ?_
    refine aw_aload_n rfl rfl d_W_copyFrom_52 ?_
    refine aw_getr fl_W_16 kc_102 (by decide) rfl rc_102_3 d_W_copyFrom_53 ?_
    refine aw_iconst (v := nI 0) ci_0 d_W_copyFrom_56 ?_
    refine aw_bipush (v := nI 16) cb_16 d_W_copyFrom_57 ?_
    refine as_copy0 (n := 16) lka_W_29 ac_nat ac_sta ac_ini kc_24 kc_105 (by omega) (by omega) (by omega) (by decide) rfl d_W_copyFrom_59 (fun J21 e22 e23 e24 => ?_)
    refine as_retv rfl d_W_copyFrom_62 ?_
    refine (show As l b 9 y_H_copyFrom KC RC _ (J21) 35 [.ref 82, .ref 1, .int (nI 1)] [] from ?_)
    refine aw_iinc (v := nI 2) (lv2 := [.ref 82, .ref 1, .int (nI 2)]) rfl (by decide +kernel) (by decide) rfl d_H_copyFrom_35 ?_
    refine aw_goto (tgt := 2) (by decide) d_H_copyFrom_38 ?_
    refine aw_iload_n rfl rfl d_H_copyFrom_2 ?_
    refine aw_aload_n rfl rfl d_H_copyFrom_3 ?_
    refine aw_getr fl_H_17 kc_82 (by decide) rfl rc_82_1 d_H_copyFrom_4 ?_
    refine aw_alen kc_84 (by decide) d_H_copyFrom_7 ?_
    refine aw_icmp_geI (tgt := 41) (2) (5) (by decide +kernel) (by decide +kernel) (by decide) d_H_copyFrom_8 (fun q => absurd q (by decide)) (fun _ => ?_)
    refine aw_iload_n rfl rfl d_H_copyFrom_11 ?_
    refine aw_aload_n rfl rfl d_H_copyFrom_12 ?_
    refine aw_getr fl_H_17 kc_1 (by decide) rfl rc_1_1 d_H_copyFrom_13 ?_
    refine aw_alen kc_3 (by decide) d_H_copyFrom_16 ?_
    refine aw_icmp_geI (tgt := 41) (2) (5) (by decide +kernel) (by decide +kernel) (by decide) d_H_copyFrom_17 (fun q => absurd q (by decide)) (fun _ => ?_)
    refine aw_aload_n rfl rfl d_H_copyFrom_20 ?_
    refine aw_getr fl_H_17 kc_82 (by decide) rfl rc_82_1 d_H_copyFrom_21 ?_
    refine aw_iload_n rfl rfl d_H_copyFrom_24 ?_
    refine aw_aald (j := 2) kc_84 (vp_in_nI (by decide) (by decide)) (nI_clamp (by decide)) rc_84_2 d_H_copyFrom_25 ?_
    refine aw_aload_n rfl rfl d_H_copyFrom_26 ?_
    refine aw_getr fl_H_17 kc_1 (by decide) rfl rc_1_1 d_H_copyFrom_27 ?_
    refine aw_iload_n rfl rfl d_H_copyFrom_30 ?_
    refine aw_aald (j := 2) kc_3 (vp_in_nI (by decide) (by decide)) (nI_clamp (by decide)) rc_3_2 d_H_copyFrom_31 ?_
    refine as_callV (as := [.ref 26]) (d' := 8) (q := ("SinglesUp$Law", zT3, 6)) mo_W_copyFrom lk_H_57 kc_107 rfl rfl rfl ⟨by decide, by decide⟩ rfl rfl (by decide) d_H_copyFrom_32 (Ss.of (show As l b 8 y_W_copyFrom KC RC _ (J21) 0 [.ref 107, .ref 26] [] from ?_))
    refine aw_aload_n rfl rfl d_W_copyFrom_0 ?_
    refine aw_aload_n rfl rfl d_W_copyFrom_1 ?_
    refine aw_geti fl_W_22 kc_26 (by decide) rfl d_W_copyFrom_2 ?_
    refine aw_puti fl_W_22 kc_107 (by decide) rfl rfl rfl rfl d_W_copyFrom_5 ?_
    refine aw_aload_n rfl rfl d_W_copyFrom_8 ?_
    refine aw_aload_n rfl rfl d_W_copyFrom_9 ?_
    refine aw_geti fl_W_26 kc_26 (by decide) rfl d_W_copyFrom_10 ?_
    refine aw_top (x2 := nI 0) (Eq.trans (congrFun (upd2_ne (by decide)) (4)) (((congrFun (e22 26 (by decide)) (4)).trans (((congrFun (e18 26 (by decide)) (4)).trans (((congrFun (e14 26 (by decide)) (4)).trans (Eq.trans (congrFun (upd2_ne (by decide)) (4)) (Eq.trans (congrFun (upd2_ne (by decide)) (4)) (((congrFun (e10 26 (by decide)) (4)).trans (((congrFun (e6 26 (by decide)) (4)).trans (((congrFun (e2 26 (by decide)) (4)).trans (Eq.trans (congrFun (upd2_ne (by decide)) (4)) (Eq.trans (congrFun (upd2_ne (by decide)) (4)) (f11)))))))))))))))))) ?_
    refine aw_puti fl_W_26 kc_107 (by decide) rfl rfl rfl rfl d_W_copyFrom_13 ?_
    refine aw_aload_n rfl rfl d_W_copyFrom_16 ?_
    refine aw_getr fl_W_9 kc_26 (by decide) rfl rc_26_0 d_W_copyFrom_17 ?_
    refine aw_iconst (v := nI 0) ci_0 d_W_copyFrom_20 ?_
    refine aw_aload_n rfl rfl d_W_copyFrom_21 ?_
    refine aw_getr fl_W_9 kc_107 (by decide) rfl rc_107_0 d_W_copyFrom_22 ?_
    refine aw_iconst (v := nI 0) ci_0 d_W_copyFrom_25 ?_
    refine aw_sipush (v := nI 400) cs_400 d_W_copyFrom_26 ?_
    refine as_copy0 (n := 400) lka_W_29 ac_nat ac_sta ac_ini kc_27 kc_108 (by omega) (by omega) (by omega) (by decide) rfl d_W_copyFrom_29 (fun J25 e26 e27 e28 => ?_)
    refine aw_aload_n rfl rfl d_W_copyFrom_32 ?_
    refine aw_getr fl_W_13 kc_26 (by decide) rfl rc_26_2 d_W_copyFrom_33 ?_
    refine aw_iconst (v := nI 0) ci_0 d_W_copyFrom_36 ?_
    refine aw_aload_n rfl rfl d_W_copyFrom_37 ?_
    refine aw_getr fl_W_13 kc_107 (by decide) rfl rc_107_2 d_W_copyFrom_38 ?_
    refine aw_iconst (v := nI 0) ci_0 d_W_copyFrom_41 ?_
    refine aw_bipush (v := nI 17) cb_17 d_W_copyFrom_42 ?_
    refine as_copy0 (n := 17) lka_W_29 ac_nat ac_sta ac_ini kc_28 kc_109 (by omega) (by omega) (by omega) (by decide) rfl d_W_copyFrom_44 (fun J29 e30 e31 e32 => ?_)
    refine aw_aload_n rfl rfl d_W_copyFrom_47 ?_
    refine aw_getr fl_W_16 kc_26 (by decide) rfl rc_26_3 d_W_copyFrom_48 ?_
    refine aw_iconst (v := nI 0) ci_0 d_W_copyFrom_51 ?_
    refine aw_aload_n rfl rfl d_W_copyFrom_52 ?_
    refine aw_getr fl_W_16 kc_107 (by decide) rfl rc_107_3 d_W_copyFrom_53 ?_
    refine aw_iconst (v := nI 0) ci_0 d_W_copyFrom_56 ?_
    refine aw_bipush (v := nI 16) cb_16 d_W_copyFrom_57 ?_
    refine as_copy0 (n := 16) lka_W_29 ac_nat ac_sta ac_ini kc_29 kc_110 (by omega) (by omega) (by omega) (by decide) rfl d_W_copyFrom_59 (fun J33 e34 e35 e36 => ?_)
    refine as_retv rfl d_W_copyFrom_62 ?_
    refine (show As l b 9 y_H_copyFrom KC RC _ (J33) 35 [.ref 82, .ref 1, .int (nI 2)] [] from ?_)
    refine aw_iinc (v := nI 3) (lv2 := [.ref 82, .ref 1, .int (nI 3)]) rfl (by decide +kernel) (by decide) rfl d_H_copyFrom_35 ?_
    refine aw_goto (tgt := 2) (by decide) d_H_copyFrom_38 ?_
    refine aw_iload_n rfl rfl d_H_copyFrom_2 ?_
    refine aw_aload_n rfl rfl d_H_copyFrom_3 ?_
    refine aw_getr fl_H_17 kc_82 (by decide) rfl rc_82_1 d_H_copyFrom_4 ?_
    refine aw_alen kc_84 (by decide) d_H_copyFrom_7 ?_
    refine aw_icmp_geI (tgt := 41) (3) (5) (by decide +kernel) (by decide +kernel) (by decide) d_H_copyFrom_8 (fun q => absurd q (by decide)) (fun _ => ?_)
    refine aw_iload_n rfl rfl d_H_copyFrom_11 ?_
    refine aw_aload_n rfl rfl d_H_copyFrom_12 ?_
    refine aw_getr fl_H_17 kc_1 (by decide) rfl rc_1_1 d_H_copyFrom_13 ?_
    refine aw_alen kc_3 (by decide) d_H_copyFrom_16 ?_
    refine aw_icmp_geI (tgt := 41) (3) (5) (by decide +kernel) (by decide +kernel) (by decide) d_H_copyFrom_17 (fun q => absurd q (by decide)) (fun _ => ?_)
    refine aw_aload_n rfl rfl d_H_copyFrom_20 ?_
    refine aw_getr fl_H_17 kc_82 (by decide) rfl rc_82_1 d_H_copyFrom_21 ?_
    refine aw_iload_n rfl rfl d_H_copyFrom_24 ?_
    refine aw_aald (j := 3) kc_84 (vp_in_nI (by decide) (by decide)) (nI_clamp (by decide)) rc_84_3 d_H_copyFrom_25 ?_
    refine aw_aload_n rfl rfl d_H_copyFrom_26 ?_
    refine aw_getr fl_H_17 kc_1 (by decide) rfl rc_1_1 d_H_copyFrom_27 ?_
    refine aw_iload_n rfl rfl d_H_copyFrom_30 ?_
    refine aw_aald (j := 3) kc_3 (vp_in_nI (by decide) (by decide)) (nI_clamp (by decide)) rc_3_3 d_H_copyFrom_31 ?_
    refine as_callV (as := [.ref 31]) (d' := 8) (q := ("SinglesUp$Law", zT3, 6)) mo_W_copyFrom lk_H_57 kc_112 rfl rfl rfl ⟨by decide, by decide⟩ rfl rfl (by decide) d_H_copyFrom_32 (Ss.of (show As l b 8 y_W_copyFrom KC RC _ (J33) 0 [.ref 112, .ref 31] [] from ?_))
    refine aw_aload_n rfl rfl d_W_copyFrom_0 ?_
    refine aw_aload_n rfl rfl d_W_copyFrom_1 ?_
    refine aw_geti fl_W_22 kc_31 (by decide) rfl d_W_copyFrom_2 ?_
    refine aw_puti fl_W_22 kc_112 (by decide) rfl rfl rfl rfl d_W_copyFrom_5 ?_
    refine aw_aload_n rfl rfl d_W_copyFrom_8 ?_
    refine aw_aload_n rfl rfl d_W_copyFrom_9 ?_
    refine aw_geti fl_W_26 kc_31 (by decide) rfl d_W_copyFrom_10 ?_
    refine aw_top (x2 := nI 0) (Eq.trans (congrFun (upd2_ne (by decide)) (4)) (((congrFun (e34 31 (by decide)) (4)).trans (((congrFun (e30 31 (by decide)) (4)).trans (((congrFun (e26 31 (by decide)) (4)).trans (Eq.trans (congrFun (upd2_ne (by decide)) (4)) (Eq.trans (congrFun (upd2_ne (by decide)) (4)) (((congrFun (e22 31 (by decide)) (4)).trans (((congrFun (e18 31 (by decide)) (4)).trans (((congrFun (e14 31 (by decide)) (4)).trans (Eq.trans (congrFun (upd2_ne (by decide)) (4)) (Eq.trans (congrFun (upd2_ne (by decide)) (4)) (((congrFun (e10 31 (by decide)) (4)).trans (((congrFun (e6 31 (by decide)) (4)).trans (((congrFun (e2 31 (by decide)) (4)).trans (Eq.trans (congrFun (upd2_ne (by decide)) (4)) (Eq.trans (congrFun (upd2_ne (by decide)) (4)) (f12)))))))))))))))))))))))))) ?_
    refine aw_puti fl_W_26 kc_112 (by decide) rfl rfl rfl rfl d_W_copyFrom_13 ?_
    refine aw_aload_n rfl rfl d_W_copyFrom_16 ?_
    refine aw_getr fl_W_9 kc_31 (by decide) rfl rc_31_0 d_W_copyFrom_17 ?_
    refine aw_iconst (v := nI 0) ci_0 d_W_copyFrom_20 ?_
    refine aw_aload_n rfl rfl d_W_copyFrom_21 ?_
    refine aw_getr fl_W_9 kc_112 (by decide) rfl rc_112_0 d_W_copyFrom_22 ?_
    refine aw_iconst (v := nI 0) ci_0 d_W_copyFrom_25 ?_
    refine aw_sipush (v := nI 400) cs_400 d_W_copyFrom_26 ?_
    refine as_copy0 (n := 400) lka_W_29 ac_nat ac_sta ac_ini kc_32 kc_113 (by omega) (by omega) (by omega) (by decide) rfl d_W_copyFrom_29 (fun J37 e38 e39 e40 => ?_)
    refine aw_aload_n rfl rfl d_W_copyFrom_32 ?_
    refine aw_getr fl_W_13 kc_31 (by decide) rfl rc_31_2 d_W_copyFrom_33 ?_
    refine aw_iconst (v := nI 0) ci_0 d_W_copyFrom_36 ?_
    refine aw_aload_n rfl rfl d_W_copyFrom_37 ?_
    refine aw_getr fl_W_13 kc_112 (by decide) rfl rc_112_2 d_W_copyFrom_38 ?_
    refine aw_iconst (v := nI 0) ci_0 d_W_copyFrom_41 ?_
    refine aw_bipush (v := nI 17) cb_17 d_W_copyFrom_42 ?_
    refine as_copy0 (n := 17) lka_W_29 ac_nat ac_sta ac_ini kc_33 kc_114 (by omega) (by omega) (by omega) (by decide) rfl d_W_copyFrom_44 (fun J41 e42 e43 e44 => ?_)
    refine aw_aload_n rfl rfl d_W_copyFrom_47 ?_
    refine aw_getr fl_W_16 kc_31 (by decide) rfl rc_31_3 d_W_copyFrom_48 ?_
    refine aw_iconst (v := nI 0) ci_0 d_W_copyFrom_51 ?_
    refine aw_aload_n rfl rfl d_W_copyFrom_52 ?_
    refine aw_getr fl_W_16 kc_112 (by decide) rfl rc_112_3 d_W_copyFrom_53 ?_
    refine aw_iconst (v := nI 0) ci_0 d_W_copyFrom_56 ?_
    refine aw_bipush (v := nI 16) cb_16 d_W_copyFrom_57 ?_
    refine as_copy0 (n := 16) lka_W_29 ac_nat ac_sta ac_ini kc_34 kc_115 (by omega) (by omega) (by omega) (by decide) rfl d_W_copyFrom_59 (fun J45 e46 e47 e48 => ?_)
    refine as_retv rfl d_W_copyFrom_62 ?_
    refine (show As l b 9 y_H_copyFrom KC RC _ (J45) 35 [.ref 82, .ref 1, .int (nI 3)] [] from ?_)
    refine aw_iinc (v := nI 4) (lv2 := [.ref 82, .ref 1, .int (nI 4)]) rfl (by decide +kernel) (by decide) rfl d_H_copyFrom_35 ?_
    refine aw_goto (tgt := 2) (by decide) d_H_copyFrom_38 ?_
    refine aw_iload_n rfl rfl d_H_copyFrom_2 ?_
    refine aw_aload_n rfl rfl d_H_copyFrom_3 ?_
    refine aw_getr fl_H_17 kc_82 (by decide) rfl rc_82_1 d_H_copyFrom_4 ?_
    refine aw_alen kc_84 (by decide) d_H_copyFrom_7 ?_
    refine aw_icmp_geI (tgt := 41) (4) (5) (by decide +kernel) (by decide +kernel) (by decide) d_H_copyFrom_8 (fun q => absurd q (by decide)) (fun _ => ?_)
    refine aw_iload_n rfl rfl d_H_copyFrom_11 ?_
    refine aw_aload_n rfl rfl d_H_copyFrom_12 ?_
    refine aw_getr fl_H_17 kc_1 (by decide) rfl rc_1_1 d_H_copyFrom_13 ?_
    refine aw_alen kc_3 (by decide) d_H_copyFrom_16 ?_
    refine aw_icmp_geI (tgt := 41) (4) (5) (by decide +kernel) (by decide +kernel) (by decide) d_H_copyFrom_17 (fun q => absurd q (by decide)) (fun _ => ?_)
    refine aw_aload_n rfl rfl d_H_copyFrom_20 ?_
    refine aw_getr fl_H_17 kc_82 (by decide) rfl rc_82_1 d_H_copyFrom_21 ?_
    refine aw_iload_n rfl rfl d_H_copyFrom_24 ?_
    refine aw_aald (j := 4) kc_84 (vp_in_nI (by decide) (by decide)) (nI_clamp (by decide)) rc_84_4 d_H_copyFrom_25 ?_
    refine aw_aload_n rfl rfl d_H_copyFrom_26 ?_
    refine aw_getr fl_H_17 kc_1 (by decide) rfl rc_1_1 d_H_copyFrom_27 ?_
    refine aw_iload_n rfl rfl d_H_copyFrom_30 ?_
    refine aw_aald (j := 4) kc_3 (vp_in_nI (by decide) (by decide)) (nI_clamp (by decide)) rc_3_4 d_H_copyFrom_31 ?_
    refine as_callV (as := [.ref 36]) (d' := 8) (q := ("SinglesUp$Law", zT3, 6)) mo_W_copyFrom lk_H_57 kc_117 rfl rfl rfl ⟨by decide, by decide⟩ rfl rfl (by decide) d_H_copyFrom_32 (Ss.of (show As l b 8 y_W_copyFrom KC RC _ (J45) 0 [.ref 117, .ref 36] [] from ?_))
    refine aw_aload_n rfl rfl d_W_copyFrom_0 ?_
    refine aw_aload_n rfl rfl d_W_copyFrom_1 ?_
    refine aw_geti fl_W_22 kc_36 (by decide) rfl d_W_copyFrom_2 ?_
    refine aw_puti fl_W_22 kc_117 (by decide) rfl rfl rfl rfl d_W_copyFrom_5 ?_
    refine aw_aload_n rfl rfl d_W_copyFrom_8 ?_
    refine aw_aload_n rfl rfl d_W_copyFrom_9 ?_
    refine aw_geti fl_W_26 kc_36 (by decide) rfl d_W_copyFrom_10 ?_
    refine aw_top (x2 := nI 0) (Eq.trans (congrFun (upd2_ne (by decide)) (4)) (((congrFun (e46 36 (by decide)) (4)).trans (((congrFun (e42 36 (by decide)) (4)).trans (((congrFun (e38 36 (by decide)) (4)).trans (Eq.trans (congrFun (upd2_ne (by decide)) (4)) (Eq.trans (congrFun (upd2_ne (by decide)) (4)) (((congrFun (e34 36 (by decide)) (4)).trans (((congrFun (e30 36 (by decide)) (4)).trans (((congrFun (e26 36 (by decide)) (4)).trans (Eq.trans (congrFun (upd2_ne (by decide)) (4)) (Eq.trans (congrFun (upd2_ne (by decide)) (4)) (((congrFun (e22 36 (by decide)) (4)).trans (((congrFun (e18 36 (by decide)) (4)).trans (((congrFun (e14 36 (by decide)) (4)).trans (Eq.trans (congrFun (upd2_ne (by decide)) (4)) (Eq.trans (congrFun (upd2_ne (by decide)) (4)) (((congrFun (e10 36 (by decide)) (4)).trans (((congrFun (e6 36 (by decide)) (4)).trans (((congrFun (e2 36 (by decide)) (4)).trans (Eq.trans (congrFun (upd2_ne (by decide)) (4)) (Eq.trans (congrFun (upd2_ne (by decide)) (4)) (f13)))))))))))))))))))))))))))))))))) ?_
    refine aw_puti fl_W_26 kc_117 (by decide) rfl rfl rfl rfl d_W_copyFrom_13 ?_
    refine aw_aload_n rfl rfl d_W_copyFrom_16 ?_
    refine aw_getr fl_W_9 kc_36 (by decide) rfl rc_36_0 d_W_copyFrom_17 ?_
    refine aw_iconst (v := nI 0) ci_0 d_W_copyFrom_20 ?_
    refine aw_aload_n rfl rfl d_W_copyFrom_21 ?_
    refine aw_getr fl_W_9 kc_117 (by decide) rfl rc_117_0 d_W_copyFrom_22 ?_
    refine aw_iconst (v := nI 0) ci_0 d_W_copyFrom_25 ?_
    refine aw_sipush (v := nI 400) cs_400 d_W_copyFrom_26 ?_
    refine as_copy0 (n := 400) lka_W_29 ac_nat ac_sta ac_ini kc_37 kc_118 (by omega) (by omega) (by omega) (by decide) rfl d_W_copyFrom_29 (fun J49 e50 e51 e52 => ?_)
    refine aw_aload_n rfl rfl d_W_copyFrom_32 ?_
    refine aw_getr fl_W_13 kc_36 (by decide) rfl rc_36_2 d_W_copyFrom_33 ?_
    refine aw_iconst (v := nI 0) ci_0 d_W_copyFrom_36 ?_
    refine aw_aload_n rfl rfl d_W_copyFrom_37 ?_
    refine aw_getr fl_W_13 kc_117 (by decide) rfl rc_117_2 d_W_copyFrom_38 ?_
    refine aw_iconst (v := nI 0) ci_0 d_W_copyFrom_41 ?_
    refine aw_bipush (v := nI 17) cb_17 d_W_copyFrom_42 ?_
    refine as_copy0 (n := 17) lka_W_29 ac_nat ac_sta ac_ini kc_38 kc_119 (by omega) (by omega) (by omega) (by decide) rfl d_W_copyFrom_44 (fun J53 e54 e55 e56 => ?_)
    refine aw_aload_n rfl rfl d_W_copyFrom_47 ?_
    refine aw_getr fl_W_16 kc_36 (by decide) rfl rc_36_3 d_W_copyFrom_48 ?_
    refine aw_iconst (v := nI 0) ci_0 d_W_copyFrom_51 ?_
    refine aw_aload_n rfl rfl d_W_copyFrom_52 ?_
    refine aw_getr fl_W_16 kc_117 (by decide) rfl rc_117_3 d_W_copyFrom_53 ?_
    refine aw_iconst (v := nI 0) ci_0 d_W_copyFrom_56 ?_
    refine aw_bipush (v := nI 16) cb_16 d_W_copyFrom_57 ?_
    refine as_copy0 (n := 16) lka_W_29 ac_nat ac_sta ac_ini kc_39 kc_120 (by omega) (by omega) (by omega) (by decide) rfl d_W_copyFrom_59 (fun J57 e58 e59 e60 => ?_)
    refine as_retv rfl d_W_copyFrom_62 ?_
    refine (show As l b 9 y_H_copyFrom KC RC _ (J57) 35 [.ref 82, .ref 1, .int (nI 4)] [] from ?_)
    refine aw_iinc (v := nI 5) (lv2 := [.ref 82, .ref 1, .int (nI 5)]) rfl (by decide +kernel) (by decide) rfl d_H_copyFrom_35 ?_
    refine aw_goto (tgt := 2) (by decide) d_H_copyFrom_38 ?_
    refine aw_iload_n rfl rfl d_H_copyFrom_2 ?_
    refine aw_aload_n rfl rfl d_H_copyFrom_3 ?_
    refine aw_getr fl_H_17 kc_82 (by decide) rfl rc_82_1 d_H_copyFrom_4 ?_
    refine aw_alen kc_84 (by decide) d_H_copyFrom_7 ?_
    refine aw_icmp_geI (tgt := 41) (5) (5) (by decide +kernel) (by decide +kernel) (by decide) d_H_copyFrom_8 (fun _ => ?_) (fun q => absurd q (by decide))
    refine aw_aload_n rfl rfl d_H_copyFrom_41 ?_
    refine aw_getr fl_H_33 kc_82 (by decide) rfl rc_82_5 d_H_copyFrom_42 ?_
    refine aw_aload_n rfl rfl d_H_copyFrom_45 ?_
    refine aw_getr fl_H_33 kc_1 (by decide) rfl rc_1_5 d_H_copyFrom_46 ?_
    refine as_callV (as := [.ref 7]) (d' := 8) (q := ("SinglesUp$Lines", zT4, 3)) mo_L_copyFrom lk_H_61 kc_88 rfl rfl rfl ⟨by decide, by decide⟩ rfl rfl (by decide) d_H_copyFrom_49 (Ss.of (show As l b 8 y_L_copyFrom KC RC _ (J57) 0 [.ref 88, .ref 7] [] from ?_))
    refine aw_aload_n rfl rfl d_L_copyFrom_0 ?_
    refine aw_getr fl_L_9 kc_7 (by decide) rfl rc_7_0 d_L_copyFrom_1 ?_
    refine aw_iconst (v := nI 0) ci_0 d_L_copyFrom_4 ?_
    refine aw_aload_n rfl rfl d_L_copyFrom_5 ?_
    refine aw_getr fl_L_9 kc_88 (by decide) rfl rc_88_0 d_L_copyFrom_6 ?_
    refine aw_iconst (v := nI 0) ci_0 d_L_copyFrom_9 ?_
    refine aw_aload_n rfl rfl d_L_copyFrom_10 ?_
    refine aw_getr fl_L_9 kc_88 (by decide) rfl rc_88_0 d_L_copyFrom_11 ?_
    refine aw_alen kc_89 (by decide) d_L_copyFrom_14 ?_
    refine as_copy0 (n := 1440) lka_L_27 ac_nat ac_sta ac_ini kc_8 kc_89 (by omega) (by omega) (by omega) (by decide) rfl d_L_copyFrom_15 (fun J61 e62 e63 e64 => ?_)
    refine aw_aload_n rfl rfl d_L_copyFrom_18 ?_
    refine aw_getr fl_L_15 kc_7 (by decide) rfl rc_7_1 d_L_copyFrom_19 ?_
    refine aw_iconst (v := nI 0) ci_0 d_L_copyFrom_22 ?_
    refine aw_aload_n rfl rfl d_L_copyFrom_23 ?_
    refine aw_getr fl_L_15 kc_88 (by decide) rfl rc_88_1 d_L_copyFrom_24 ?_
    refine aw_iconst (v := nI 0) ci_0 d_L_copyFrom_27 ?_
    refine aw_bipush (v := nI 6) cb_6 d_L_copyFrom_28 ?_
    refine as_copy0 (n := 6) lka_L_27 ac_nat ac_sta ac_ini kc_9 kc_90 (by omega) (by omega) (by omega) (by decide) rfl d_L_copyFrom_30 (fun J65 e66 e67 e68 => ?_)
    refine aw_aload_n rfl rfl d_L_copyFrom_33 ?_
    refine aw_getr fl_L_18 kc_7 (by decide) rfl rc_7_2 d_L_copyFrom_34 ?_
    refine aw_iconst (v := nI 0) ci_0 d_L_copyFrom_37 ?_
    refine aw_aload_n rfl rfl d_L_copyFrom_38 ?_
    refine aw_getr fl_L_18 kc_88 (by decide) rfl rc_88_2 d_L_copyFrom_39 ?_
    refine aw_iconst (v := nI 0) ci_0 d_L_copyFrom_42 ?_
    refine aw_bipush (v := nI 6) cb_6 d_L_copyFrom_43 ?_
    refine as_copy0 (n := 6) lka_L_27 ac_nat ac_sta ac_ini kc_10 kc_91 (by omega) (by omega) (by omega) (by decide) rfl d_L_copyFrom_45 (fun J69 e70 e71 e72 => ?_)
    refine as_retv rfl d_L_copyFrom_48 ?_
    refine (show As l b 9 y_H_copyFrom KC RC _ (J69) 52 [.ref 82, .ref 1, .int (nI 5)] [] from ?_)
    refine aw_aload_n rfl rfl d_H_copyFrom_52 ?_
    refine aw_getr fl_H_9 kc_1 (by decide) rfl rc_1_0 d_H_copyFrom_53 ?_
    refine aw_iconst (v := nI 0) ci_0 d_H_copyFrom_56 ?_
    refine aw_aload_n rfl rfl d_H_copyFrom_57 ?_
    refine aw_getr fl_H_9 kc_82 (by decide) rfl rc_82_0 d_H_copyFrom_58 ?_
    refine aw_iconst (v := nI 0) ci_0 d_H_copyFrom_61 ?_
    refine aw_aload_n rfl rfl d_H_copyFrom_62 ?_
    refine aw_getr fl_H_9 kc_82 (by decide) rfl rc_82_0 d_H_copyFrom_63 ?_
    refine aw_alen kc_83 (by decide) d_H_copyFrom_66 ?_
    refine as_copy0 (n := 6) lka_H_64 ac_nat ac_sta ac_ini kc_2 kc_83 (by omega) (by omega) (by omega) (by decide) rfl d_H_copyFrom_67 (fun J73 e74 e75 e76 => ?_)
    refine aw_aload_n rfl rfl d_H_copyFrom_70 ?_
    refine aw_getr fl_H_21 kc_1 (by decide) rfl rc_1_2 d_H_copyFrom_71 ?_
    refine aw_iconst (v := nI 0) ci_0 d_H_copyFrom_74 ?_
    refine aw_aload_n rfl rfl d_H_copyFrom_75 ?_
    refine aw_getr fl_H_21 kc_82 (by decide) rfl rc_82_2 d_H_copyFrom_76 ?_
    refine aw_iconst (v := nI 0) ci_0 d_H_copyFrom_79 ?_
    refine aw_aload_n rfl rfl d_H_copyFrom_80 ?_
    refine aw_getr fl_H_21 kc_82 (by decide) rfl rc_82_2 d_H_copyFrom_81 ?_
    refine aw_alen kc_85 (by decide) d_H_copyFrom_84 ?_
    refine as_copy0 (n := 9) lka_H_64 ac_nat ac_sta ac_ini kc_4 kc_85 (by omega) (by omega) (by omega) (by decide) rfl d_H_copyFrom_85 (fun J77 e78 e79 e80 => ?_)
    refine aw_aload_n rfl rfl d_H_copyFrom_88 ?_
    refine aw_getr fl_H_24 kc_1 (by decide) rfl rc_1_3 d_H_copyFrom_89 ?_
    refine aw_iconst (v := nI 0) ci_0 d_H_copyFrom_92 ?_
    refine aw_aload_n rfl rfl d_H_copyFrom_93 ?_
    refine aw_getr fl_H_24 kc_82 (by decide) rfl rc_82_3 d_H_copyFrom_94 ?_
    refine aw_iconst (v := nI 0) ci_0 d_H_copyFrom_97 ?_
    refine aw_aload_n rfl rfl d_H_copyFrom_98 ?_
    refine aw_getr fl_H_24 kc_82 (by decide) rfl rc_82_3 d_H_copyFrom_99 ?_
    refine aw_alen kc_86 (by decide) d_H_copyFrom_102 ?_
    refine as_copy0 (n := 32) lka_H_64 ac_nat ac_sta ac_ini kc_5 kc_86 (by omega) (by omega) (by omega) (by decide) rfl d_H_copyFrom_103 (fun J81 e82 e83 e84 => ?_)
    refine aw_aload_n rfl rfl d_H_copyFrom_106 ?_
    refine aw_getr fl_H_27 kc_1 (by decide) rfl rc_1_4 d_H_copyFrom_107 ?_
    refine aw_iconst (v := nI 0) ci_0 d_H_copyFrom_110 ?_
    refine aw_aload_n rfl rfl d_H_copyFrom_111 ?_
    refine aw_getr fl_H_27 kc_82 (by decide) rfl rc_82_4 d_H_copyFrom_112 ?_
    refine aw_iconst (v := nI 0) ci_0 d_H_copyFrom_115 ?_
    refine aw_aload_n rfl rfl d_H_copyFrom_116 ?_
    refine aw_getr fl_H_27 kc_82 (by decide) rfl rc_82_4 d_H_copyFrom_117 ?_
    refine aw_alen kc_87 (by decide) d_H_copyFrom_120 ?_
    refine as_copy0 (n := 9) lka_H_64 ac_nat ac_sta ac_ini kc_6 kc_87 (by omega) (by omega) (by omega) (by decide) rfl d_H_copyFrom_121 (fun J85 e86 e87 e88 => ?_)
    refine aw_aload_n rfl rfl d_H_copyFrom_124 ?_
    refine aw_getr fl_H_37 kc_1 (by decide) rfl rc_1_8 d_H_copyFrom_125 ?_
    refine aw_iconst (v := nI 0) ci_0 d_H_copyFrom_128 ?_
    refine aw_aload_n rfl rfl d_H_copyFrom_129 ?_
    refine aw_getr fl_H_37 kc_82 (by decide) rfl rc_82_8 d_H_copyFrom_130 ?_
    refine aw_iconst (v := nI 0) ci_0 d_H_copyFrom_133 ?_
    refine aw_aload_n rfl rfl d_H_copyFrom_134 ?_
    refine aw_getr fl_H_37 kc_82 (by decide) rfl rc_82_8 d_H_copyFrom_135 ?_
    refine aw_alen kc_92 (by decide) d_H_copyFrom_138 ?_
    refine as_copy0 (n := 40) lka_H_64 ac_nat ac_sta ac_ini kc_11 kc_92 (by omega) (by omega) (by omega) (by decide) rfl d_H_copyFrom_139 (fun J89 e90 e91 e92 => ?_)
    refine aw_aload_n rfl rfl d_H_copyFrom_142 ?_
    refine aw_getr fl_H_40 kc_1 (by decide) rfl rc_1_9 d_H_copyFrom_143 ?_
    refine aw_iconst (v := nI 0) ci_0 d_H_copyFrom_146 ?_
    refine aw_aload_n rfl rfl d_H_copyFrom_147 ?_
    refine aw_getr fl_H_40 kc_82 (by decide) rfl rc_82_9 d_H_copyFrom_148 ?_
    refine aw_iconst (v := nI 0) ci_0 d_H_copyFrom_151 ?_
    refine aw_aload_n rfl rfl d_H_copyFrom_152 ?_
    refine aw_getr fl_H_40 kc_82 (by decide) rfl rc_82_9 d_H_copyFrom_153 ?_
    refine aw_alen kc_93 (by decide) d_H_copyFrom_156 ?_
    refine as_copy0 (n := 30) lka_H_64 ac_nat ac_sta ac_ini kc_12 kc_93 (by omega) (by omega) (by omega) (by decide) rfl d_H_copyFrom_157 (fun J93 e94 e95 e96 => ?_)
    refine aw_aload_n rfl rfl d_H_copyFrom_160 ?_
    refine aw_getr fl_H_43 kc_1 (by decide) rfl rc_1_10 d_H_copyFrom_161 ?_
    refine aw_iconst (v := nI 0) ci_0 d_H_copyFrom_164 ?_
    refine aw_aload_n rfl rfl d_H_copyFrom_165 ?_
    refine aw_getr fl_H_43 kc_82 (by decide) rfl rc_82_10 d_H_copyFrom_166 ?_
    refine aw_iconst (v := nI 0) ci_0 d_H_copyFrom_169 ?_
    refine aw_aload_n rfl rfl d_H_copyFrom_170 ?_
    refine aw_getr fl_H_43 kc_82 (by decide) rfl rc_82_10 d_H_copyFrom_171 ?_
    refine aw_alen kc_94 (by decide) d_H_copyFrom_174 ?_
    refine as_copy0 (n := 180) lka_H_64 ac_nat ac_sta ac_ini kc_13 kc_94 (by omega) (by omega) (by omega) (by decide) rfl d_H_copyFrom_175 (fun J97 e98 e99 e100 => ?_)
    refine aw_aload_n rfl rfl d_H_copyFrom_178 ?_
    refine aw_aload_n rfl rfl d_H_copyFrom_179 ?_
    refine aw_geti fl_H_70 kc_1 (by decide) rfl d_H_copyFrom_180 ?_
    refine aw_puti fl_H_70 kc_82 (by decide) rfl rfl rfl rfl d_H_copyFrom_183 ?_
    refine aw_aload_n rfl rfl d_H_copyFrom_186 ?_
    refine aw_aload_n rfl rfl d_H_copyFrom_187 ?_
    refine aw_geti fl_H_73 kc_1 (by decide) rfl d_H_copyFrom_188 ?_
    refine aw_puti fl_H_73 kc_82 (by decide) rfl rfl rfl rfl d_H_copyFrom_191 ?_
    refine aw_aload_n rfl rfl d_H_copyFrom_194 ?_
    refine aw_aload_n rfl rfl d_H_copyFrom_195 ?_
    refine aw_geti fl_H_46 kc_1 (by decide) rfl d_H_copyFrom_196 ?_
    refine aw_puti fl_H_46 kc_82 (by decide) rfl rfl rfl rfl d_H_copyFrom_199 ?_
    refine as_retv rfl d_H_copyFrom_202 ?_
    refine (show As l b 10 y_M_bestSet KC RC K2 (upd2 (upd2 (upd2 J97 82 6 ((J97) 1 6)) 82 7 ((upd2 J97 82 6 ((J97) 1 6)) 1 7)) 82 11 ((upd2 (upd2 J97 82 6 ((J97) 1 6)) 82 7 ((upd2 J97 82 6 ((J97) 1 6)) 1 7)) 1 11)) 18 [.ref 81, .ref 1, .int (nI (n0)), .int (what), .int (nI (i)), .int (x5), .int (x6)] [] from ?_)
    refine aw_aload_n rfl rfl d_M_bestSet_18 ?_
    refine aw_getr fl_M_12 kc_81 (by decide) rfl rc_81_0 d_M_bestSet_19 ?_
    refine aw_iload rfl d_M_bestSet_22 ?_
    refine aw_puti fl_M_90 kc_82 (by decide) rfl rfl rfl rfl d_M_bestSet_24 ?_
    refine aw_aload_n rfl rfl d_M_bestSet_27 ?_
    refine aw_getr fl_M_21 kc_81 (by decide) rfl rc_81_1 d_M_bestSet_28 ?_
    refine aw_aload_n rfl rfl d_M_bestSet_31 ?_
    refine aw_getr fl_M_12 kc_81 (by decide) rfl rc_81_0 d_M_bestSet_32 ?_
    refine aw_iload_n rfl rfl d_M_bestSet_35 ?_
    refine as_callV (as := [.ref 82, .int (nI (n0))]) (d' := 6) (q := ("SinglesUp$Chair", zT0, 12)) mo_C_turns lk_M_36 kc_122 rfl rfl rfl ⟨by decide, by decide⟩ rfl rfl (by decide) d_M_bestSet_36 (sp_turns_122 (I := upd2 (upd2 (upd2 (upd2 J97 82 6 ((J97) 1 6)) 82 7 ((upd2 J97 82 6 ((J97) 1 6)) 1 7)) 82 11 ((upd2 (upd2 J97 82 6 ((J97) 1 6)) 82 7 ((upd2 J97 82 6 ((J97) 1 6)) 1 7)) 1 11)) 82 11 (nI (i))) (s := 4) (ru := 0) (e := 0) (k := 0) (n0 := n0) (show FH 82 (upd2 (upd2 (upd2 (upd2 J97 82 6 ((J97) 1 6)) 82 7 ((upd2 J97 82 6 ((J97) 1 6)) 1 7)) 82 11 ((upd2 (upd2 J97 82 6 ((J97) 1 6)) 82 7 ((upd2 J97 82 6 ((J97) 1 6)) 1 7)) 1 11)) 82 11 (nI (i))) (4) (0) (0) (0) from ⟨fun j hj => (Eq.trans (congrFun (upd2_ne (by decide)) (j)) (Eq.trans (congrFun (upd2_ne (by decide)) (j)) (Eq.trans (congrFun (upd2_ne (by decide)) (j)) (Eq.trans (congrFun (upd2_ne (by decide)) (j)) (((congrFun (e98 86 (by decide)) (j)).trans (((congrFun (e94 86 (by decide)) (j)).trans (((congrFun (e90 86 (by decide)) (j)).trans (((congrFun (e86 86 (by decide)) (j)).trans (((e83 (j) (by omega)).trans (((congrFun (e78 5 (by decide)) (j)).trans (((congrFun (e74 5 (by decide)) (j)).trans (((congrFun (e70 5 (by decide)) (j)).trans (((congrFun (e66 5 (by decide)) (j)).trans (((congrFun (e62 5 (by decide)) (j)).trans (((congrFun (e58 5 (by decide)) (j)).trans (((congrFun (e54 5 (by decide)) (j)).trans (((congrFun (e50 5 (by decide)) (j)).trans (Eq.trans (congrFun (upd2_ne (by decide)) (j)) (Eq.trans (congrFun (upd2_ne (by decide)) (j)) (((congrFun (e46 5 (by decide)) (j)).trans (((congrFun (e42 5 (by decide)) (j)).trans (((congrFun (e38 5 (by decide)) (j)).trans (Eq.trans (congrFun (upd2_ne (by decide)) (j)) (Eq.trans (congrFun (upd2_ne (by decide)) (j)) (((congrFun (e34 5 (by decide)) (j)).trans (((congrFun (e30 5 (by decide)) (j)).trans (((congrFun (e26 5 (by decide)) (j)).trans (Eq.trans (congrFun (upd2_ne (by decide)) (j)) (Eq.trans (congrFun (upd2_ne (by decide)) (j)) (((congrFun (e22 5 (by decide)) (j)).trans (((congrFun (e18 5 (by decide)) (j)).trans (((congrFun (e14 5 (by decide)) (j)).trans (Eq.trans (congrFun (upd2_ne (by decide)) (j)) (Eq.trans (congrFun (upd2_ne (by decide)) (j)) (((congrFun (e10 5 (by decide)) (j)).trans (((congrFun (e6 5 (by decide)) (j)).trans (((congrFun (e2 5 (by decide)) (j)).trans (Eq.trans (congrFun (upd2_ne (by decide)) (j)) (Eq.trans (congrFun (upd2_ne (by decide)) (j)) (f0 j (by omega)))))))))))))))))))))))))))))))))))))))))))))))))))))))))))))))))), fun j hj => (Eq.trans (congrFun (upd2_ne (by decide)) (j)) (Eq.trans (congrFun (upd2_ne (by decide)) (j)) (Eq.trans (congrFun (upd2_ne (by decide)) (j)) (Eq.trans (congrFun (upd2_ne (by decide)) (j)) (((congrFun (e98 90 (by decide)) (j)).trans (((congrFun (e94 90 (by decide)) (j)).trans (((congrFun (e90 90 (by decide)) (j)).trans (((congrFun (e86 90 (by decide)) (j)).trans (((congrFun (e82 90 (by decide)) (j)).trans (((congrFun (e78 90 (by decide)) (j)).trans (((congrFun (e74 90 (by decide)) (j)).trans (((congrFun (e70 90 (by decide)) (j)).trans (((e67 (j) (by omega)).trans (((congrFun (e62 9 (by decide)) (j)).trans (((congrFun (e58 9 (by decide)) (j)).trans (((congrFun (e54 9 (by decide)) (j)).trans (((congrFun (e50 9 (by decide)) (j)).trans (Eq.trans (congrFun (upd2_ne (by decide)) (j)) (Eq.trans (congrFun (upd2_ne (by decide)) (j)) (((congrFun (e46 9 (by decide)) (j)).trans (((congrFun (e42 9 (by decide)) (j)).trans (((congrFun (e38 9 (by decide)) (j)).trans (Eq.trans (congrFun (upd2_ne (by decide)) (j)) (Eq.trans (congrFun (upd2_ne (by decide)) (j)) (((congrFun (e34 9 (by decide)) (j)).trans (((congrFun (e30 9 (by decide)) (j)).trans (((congrFun (e26 9 (by decide)) (j)).trans (Eq.trans (congrFun (upd2_ne (by decide)) (j)) (Eq.trans (congrFun (upd2_ne (by decide)) (j)) (((congrFun (e22 9 (by decide)) (j)).trans (((congrFun (e18 9 (by decide)) (j)).trans (((congrFun (e14 9 (by decide)) (j)).trans (Eq.trans (congrFun (upd2_ne (by decide)) (j)) (Eq.trans (congrFun (upd2_ne (by decide)) (j)) (((congrFun (e10 9 (by decide)) (j)).trans (((congrFun (e6 9 (by decide)) (j)).trans (((congrFun (e2 9 (by decide)) (j)).trans (Eq.trans (congrFun (upd2_ne (by decide)) (j)) (Eq.trans (congrFun (upd2_ne (by decide)) (j)) (f1 (j) (by omega)))))))))))))))))))))))))))))))))))))))))))))))))))))))))))))))))), fun j hj => (Eq.trans (congrFun (upd2_ne (by decide)) (j)) (Eq.trans (congrFun (upd2_ne (by decide)) (j)) (Eq.trans (congrFun (upd2_ne (by decide)) (j)) (Eq.trans (congrFun (upd2_ne (by decide)) (j)) (((congrFun (e98 91 (by decide)) (j)).trans (((congrFun (e94 91 (by decide)) (j)).trans (((congrFun (e90 91 (by decide)) (j)).trans (((congrFun (e86 91 (by decide)) (j)).trans (((congrFun (e82 91 (by decide)) (j)).trans (((congrFun (e78 91 (by decide)) (j)).trans (((congrFun (e74 91 (by decide)) (j)).trans (((e71 (j) (by omega)).trans (((congrFun (e66 10 (by decide)) (j)).trans (((congrFun (e62 10 (by decide)) (j)).trans (((congrFun (e58 10 (by decide)) (j)).trans (((congrFun (e54 10 (by decide)) (j)).trans (((congrFun (e50 10 (by decide)) (j)).trans (Eq.trans (congrFun (upd2_ne (by decide)) (j)) (Eq.trans (congrFun (upd2_ne (by decide)) (j)) (((congrFun (e46 10 (by decide)) (j)).trans (((congrFun (e42 10 (by decide)) (j)).trans (((congrFun (e38 10 (by decide)) (j)).trans (Eq.trans (congrFun (upd2_ne (by decide)) (j)) (Eq.trans (congrFun (upd2_ne (by decide)) (j)) (((congrFun (e34 10 (by decide)) (j)).trans (((congrFun (e30 10 (by decide)) (j)).trans (((congrFun (e26 10 (by decide)) (j)).trans (Eq.trans (congrFun (upd2_ne (by decide)) (j)) (Eq.trans (congrFun (upd2_ne (by decide)) (j)) (((congrFun (e22 10 (by decide)) (j)).trans (((congrFun (e18 10 (by decide)) (j)).trans (((congrFun (e14 10 (by decide)) (j)).trans (Eq.trans (congrFun (upd2_ne (by decide)) (j)) (Eq.trans (congrFun (upd2_ne (by decide)) (j)) (((congrFun (e10 10 (by decide)) (j)).trans (((congrFun (e6 10 (by decide)) (j)).trans (((congrFun (e2 10 (by decide)) (j)).trans (Eq.trans (congrFun (upd2_ne (by decide)) (j)) (Eq.trans (congrFun (upd2_ne (by decide)) (j)) (f2 (j) (by omega)))))))))))))))))))))))))))))))))))))))))))))))))))))))))))))))))), (Eq.trans (congrFun (upd2_ne (by decide)) (0)) (Eq.trans (congrFun (upd2_ne (by decide)) (0)) (Eq.trans (congrFun (upd2_ne (by decide)) (0)) (Eq.trans (congrFun (upd2_ne (by decide)) (0)) (((congrFun (e98 83 (by decide)) (0)).trans (((congrFun (e94 83 (by decide)) (0)).trans (((congrFun (e90 83 (by decide)) (0)).trans (((congrFun (e86 83 (by decide)) (0)).trans (((congrFun (e82 83 (by decide)) (0)).trans (((congrFun (e78 83 (by decide)) (0)).trans (((e75 (0) (by omega)).trans (((congrFun (e70 2 (by decide)) (0)).trans (((congrFun (e66 2 (by decide)) (0)).trans (((congrFun (e62 2 (by decide)) (0)).trans (((congrFun (e58 2 (by decide)) (0)).trans (((congrFun (e54 2 (by decide)) (0)).trans (((congrFun (e50 2 (by decide)) (0)).trans (Eq.trans (congrFun (upd2_ne (by decide)) (0)) (Eq.trans (congrFun (upd2_ne (by decide)) (0)) (((congrFun (e46 2 (by decide)) (0)).trans (((congrFun (e42 2 (by decide)) (0)).trans (((congrFun (e38 2 (by decide)) (0)).trans (Eq.trans (congrFun (upd2_ne (by decide)) (0)) (Eq.trans (congrFun (upd2_ne (by decide)) (0)) (((congrFun (e34 2 (by decide)) (0)).trans (((congrFun (e30 2 (by decide)) (0)).trans (((congrFun (e26 2 (by decide)) (0)).trans (Eq.trans (congrFun (upd2_ne (by decide)) (0)) (Eq.trans (congrFun (upd2_ne (by decide)) (0)) (((congrFun (e22 2 (by decide)) (0)).trans (((congrFun (e18 2 (by decide)) (0)).trans (((congrFun (e14 2 (by decide)) (0)).trans (Eq.trans (congrFun (upd2_ne (by decide)) (0)) (Eq.trans (congrFun (upd2_ne (by decide)) (0)) (((congrFun (e10 2 (by decide)) (0)).trans (((congrFun (e6 2 (by decide)) (0)).trans (((congrFun (e2 2 (by decide)) (0)).trans (Eq.trans (congrFun (upd2_ne (by decide)) (0)) (Eq.trans (congrFun (upd2_ne (by decide)) (0)) (f3))))))))))))))))))))))))))))))))))))))))))))))))))))))))))))))))), (Eq.trans (congrFun (upd2_ne (by decide)) (3)) (Eq.trans (congrFun (upd2_ne (by decide)) (3)) (Eq.trans (congrFun (upd2_ne (by decide)) (3)) (Eq.trans (congrFun (upd2_ne (by decide)) (3)) (((congrFun (e98 83 (by decide)) (3)).trans (((congrFun (e94 83 (by decide)) (3)).trans (((congrFun (e90 83 (by decide)) (3)).trans (((congrFun (e86 83 (by decide)) (3)).trans (((congrFun (e82 83 (by decide)) (3)).trans (((congrFun (e78 83 (by decide)) (3)).trans (((e75 (3) (by omega)).trans (((congrFun (e70 2 (by decide)) (3)).trans (((congrFun (e66 2 (by decide)) (3)).trans (((congrFun (e62 2 (by decide)) (3)).trans (((congrFun (e58 2 (by decide)) (3)).trans (((congrFun (e54 2 (by decide)) (3)).trans (((congrFun (e50 2 (by decide)) (3)).trans (Eq.trans (congrFun (upd2_ne (by decide)) (3)) (Eq.trans (congrFun (upd2_ne (by decide)) (3)) (((congrFun (e46 2 (by decide)) (3)).trans (((congrFun (e42 2 (by decide)) (3)).trans (((congrFun (e38 2 (by decide)) (3)).trans (Eq.trans (congrFun (upd2_ne (by decide)) (3)) (Eq.trans (congrFun (upd2_ne (by decide)) (3)) (((congrFun (e34 2 (by decide)) (3)).trans (((congrFun (e30 2 (by decide)) (3)).trans (((congrFun (e26 2 (by decide)) (3)).trans (Eq.trans (congrFun (upd2_ne (by decide)) (3)) (Eq.trans (congrFun (upd2_ne (by decide)) (3)) (((congrFun (e22 2 (by decide)) (3)).trans (((congrFun (e18 2 (by decide)) (3)).trans (((congrFun (e14 2 (by decide)) (3)).trans (Eq.trans (congrFun (upd2_ne (by decide)) (3)) (Eq.trans (congrFun (upd2_ne (by decide)) (3)) (((congrFun (e10 2 (by decide)) (3)).trans (((congrFun (e6 2 (by decide)) (3)).trans (((congrFun (e2 2 (by decide)) (3)).trans (Eq.trans (congrFun (upd2_ne (by decide)) (3)) (Eq.trans (congrFun (upd2_ne (by decide)) (3)) (f4))))))))))))))))))))))))))))))))))))))))))))))))))))))))))))))))), (Eq.trans (congrFun (upd2_ne (by decide)) (5)) (Eq.trans (congrFun (upd2_ne (by decide)) (5)) (Eq.trans (congrFun (upd2_ne (by decide)) (5)) (Eq.trans (congrFun (upd2_ne (by decide)) (5)) (((congrFun (e98 83 (by decide)) (5)).trans (((congrFun (e94 83 (by decide)) (5)).trans (((congrFun (e90 83 (by decide)) (5)).trans (((congrFun (e86 83 (by decide)) (5)).trans (((congrFun (e82 83 (by decide)) (5)).trans (((congrFun (e78 83 (by decide)) (5)).trans (((e75 (5) (by omega)).trans (((congrFun (e70 2 (by decide)) (5)).trans (((congrFun (e66 2 (by decide)) (5)).trans (((congrFun (e62 2 (by decide)) (5)).trans (((congrFun (e58 2 (by decide)) (5)).trans (((congrFun (e54 2 (by decide)) (5)).trans (((congrFun (e50 2 (by decide)) (5)).trans (Eq.trans (congrFun (upd2_ne (by decide)) (5)) (Eq.trans (congrFun (upd2_ne (by decide)) (5)) (((congrFun (e46 2 (by decide)) (5)).trans (((congrFun (e42 2 (by decide)) (5)).trans (((congrFun (e38 2 (by decide)) (5)).trans (Eq.trans (congrFun (upd2_ne (by decide)) (5)) (Eq.trans (congrFun (upd2_ne (by decide)) (5)) (((congrFun (e34 2 (by decide)) (5)).trans (((congrFun (e30 2 (by decide)) (5)).trans (((congrFun (e26 2 (by decide)) (5)).trans (Eq.trans (congrFun (upd2_ne (by decide)) (5)) (Eq.trans (congrFun (upd2_ne (by decide)) (5)) (((congrFun (e22 2 (by decide)) (5)).trans (((congrFun (e18 2 (by decide)) (5)).trans (((congrFun (e14 2 (by decide)) (5)).trans (Eq.trans (congrFun (upd2_ne (by decide)) (5)) (Eq.trans (congrFun (upd2_ne (by decide)) (5)) (((congrFun (e10 2 (by decide)) (5)).trans (((congrFun (e6 2 (by decide)) (5)).trans (((congrFun (e2 2 (by decide)) (5)).trans (Eq.trans (congrFun (upd2_ne (by decide)) (5)) (Eq.trans (congrFun (upd2_ne (by decide)) (5)) (f5))))))))))))))))))))))))))))))))))))))))))))))))))))))))))))))))), (Eq.trans (congrFun (upd2_ne (by decide)) (1)) (Eq.trans (congrFun (upd2_ne (by decide)) (1)) (Eq.trans (congrFun (upd2_ne (by decide)) (1)) (Eq.trans (congrFun (upd2_ne (by decide)) (1)) (((congrFun (e98 92 (by decide)) (1)).trans (((congrFun (e94 92 (by decide)) (1)).trans (((e91 (1) (by omega)).trans (((congrFun (e86 11 (by decide)) (1)).trans (((congrFun (e82 11 (by decide)) (1)).trans (((congrFun (e78 11 (by decide)) (1)).trans (((congrFun (e74 11 (by decide)) (1)).trans (((congrFun (e70 11 (by decide)) (1)).trans (((congrFun (e66 11 (by decide)) (1)).trans (((congrFun (e62 11 (by decide)) (1)).trans (((congrFun (e58 11 (by decide)) (1)).trans (((congrFun (e54 11 (by decide)) (1)).trans (((congrFun (e50 11 (by decide)) (1)).trans (Eq.trans (congrFun (upd2_ne (by decide)) (1)) (Eq.trans (congrFun (upd2_ne (by decide)) (1)) (((congrFun (e46 11 (by decide)) (1)).trans (((congrFun (e42 11 (by decide)) (1)).trans (((congrFun (e38 11 (by decide)) (1)).trans (Eq.trans (congrFun (upd2_ne (by decide)) (1)) (Eq.trans (congrFun (upd2_ne (by decide)) (1)) (((congrFun (e34 11 (by decide)) (1)).trans (((congrFun (e30 11 (by decide)) (1)).trans (((congrFun (e26 11 (by decide)) (1)).trans (Eq.trans (congrFun (upd2_ne (by decide)) (1)) (Eq.trans (congrFun (upd2_ne (by decide)) (1)) (((congrFun (e22 11 (by decide)) (1)).trans (((congrFun (e18 11 (by decide)) (1)).trans (((congrFun (e14 11 (by decide)) (1)).trans (Eq.trans (congrFun (upd2_ne (by decide)) (1)) (Eq.trans (congrFun (upd2_ne (by decide)) (1)) (((congrFun (e10 11 (by decide)) (1)).trans (((congrFun (e6 11 (by decide)) (1)).trans (((congrFun (e2 11 (by decide)) (1)).trans (Eq.trans (congrFun (upd2_ne (by decide)) (1)) (Eq.trans (congrFun (upd2_ne (by decide)) (1)) (f6))))))))))))))))))))))))))))))))))))))))))))))))))))))))))))))))), (Eq.trans (congrFun (upd2_ne (by decide)) (0)) (Eq.trans (congrFun (upd2_ne (by decide)) (0)) (Eq.trans (congrFun (upd2_ne (by decide)) (0)) (Eq.trans (congrFun (upd2_ne (by decide)) (0)) (((congrFun (e98 92 (by decide)) (0)).trans (((congrFun (e94 92 (by decide)) (0)).trans (((e91 (0) (by omega)).trans (((congrFun (e86 11 (by decide)) (0)).trans (((congrFun (e82 11 (by decide)) (0)).trans (((congrFun (e78 11 (by decide)) (0)).trans (((congrFun (e74 11 (by decide)) (0)).trans (((congrFun (e70 11 (by decide)) (0)).trans (((congrFun (e66 11 (by decide)) (0)).trans (((congrFun (e62 11 (by decide)) (0)).trans (((congrFun (e58 11 (by decide)) (0)).trans (((congrFun (e54 11 (by decide)) (0)).trans (((congrFun (e50 11 (by decide)) (0)).trans (Eq.trans (congrFun (upd2_ne (by decide)) (0)) (Eq.trans (congrFun (upd2_ne (by decide)) (0)) (((congrFun (e46 11 (by decide)) (0)).trans (((congrFun (e42 11 (by decide)) (0)).trans (((congrFun (e38 11 (by decide)) (0)).trans (Eq.trans (congrFun (upd2_ne (by decide)) (0)) (Eq.trans (congrFun (upd2_ne (by decide)) (0)) (((congrFun (e34 11 (by decide)) (0)).trans (((congrFun (e30 11 (by decide)) (0)).trans (((congrFun (e26 11 (by decide)) (0)).trans (Eq.trans (congrFun (upd2_ne (by decide)) (0)) (Eq.trans (congrFun (upd2_ne (by decide)) (0)) (((congrFun (e22 11 (by decide)) (0)).trans (((congrFun (e18 11 (by decide)) (0)).trans (((congrFun (e14 11 (by decide)) (0)).trans (Eq.trans (congrFun (upd2_ne (by decide)) (0)) (Eq.trans (congrFun (upd2_ne (by decide)) (0)) (((congrFun (e10 11 (by decide)) (0)).trans (((congrFun (e6 11 (by decide)) (0)).trans (((congrFun (e2 11 (by decide)) (0)).trans (Eq.trans (congrFun (upd2_ne (by decide)) (0)) (Eq.trans (congrFun (upd2_ne (by decide)) (0)) (f7))))))))))))))))))))))))))))))))))))))))))))))))))))))))))))))))), fun j hj a1 a2 a3 => (Eq.trans (congrFun (upd2_ne (by decide)) (j)) (Eq.trans (congrFun (upd2_ne (by decide)) (j)) (Eq.trans (congrFun (upd2_ne (by decide)) (j)) (Eq.trans (congrFun (upd2_ne (by decide)) (j)) (((congrFun (e98 92 (by decide)) (j)).trans (((congrFun (e94 92 (by decide)) (j)).trans (((e91 (j) (by omega)).trans (((congrFun (e86 11 (by decide)) (j)).trans (((congrFun (e82 11 (by decide)) (j)).trans (((congrFun (e78 11 (by decide)) (j)).trans (((congrFun (e74 11 (by decide)) (j)).trans (((congrFun (e70 11 (by decide)) (j)).trans (((congrFun (e66 11 (by decide)) (j)).trans (((congrFun (e62 11 (by decide)) (j)).trans (((congrFun (e58 11 (by decide)) (j)).trans (((congrFun (e54 11 (by decide)) (j)).trans (((congrFun (e50 11 (by decide)) (j)).trans (Eq.trans (congrFun (upd2_ne (by decide)) (j)) (Eq.trans (congrFun (upd2_ne (by decide)) (j)) (((congrFun (e46 11 (by decide)) (j)).trans (((congrFun (e42 11 (by decide)) (j)).trans (((congrFun (e38 11 (by decide)) (j)).trans (Eq.trans (congrFun (upd2_ne (by decide)) (j)) (Eq.trans (congrFun (upd2_ne (by decide)) (j)) (((congrFun (e34 11 (by decide)) (j)).trans (((congrFun (e30 11 (by decide)) (j)).trans (((congrFun (e26 11 (by decide)) (j)).trans (Eq.trans (congrFun (upd2_ne (by decide)) (j)) (Eq.trans (congrFun (upd2_ne (by decide)) (j)) (((congrFun (e22 11 (by decide)) (j)).trans (((congrFun (e18 11 (by decide)) (j)).trans (((congrFun (e14 11 (by decide)) (j)).trans (Eq.trans (congrFun (upd2_ne (by decide)) (j)) (Eq.trans (congrFun (upd2_ne (by decide)) (j)) (((congrFun (e10 11 (by decide)) (j)).trans (((congrFun (e6 11 (by decide)) (j)).trans (((congrFun (e2 11 (by decide)) (j)).trans (Eq.trans (congrFun (upd2_ne (by decide)) (j)) (Eq.trans (congrFun (upd2_ne (by decide)) (j)) ((f8 (j) (by omega) (by omega) (by omega) (by omega))))))))))))))))))))))))))))))))))))))))))))))))))))))))))))))))))), (Eq.trans (congrFun (upd2_ne (by decide)) (4)) (Eq.trans (congrFun (upd2_ne (by decide)) (4)) (Eq.trans (congrFun (upd2_ne (by decide)) (4)) (Eq.trans (congrFun (upd2_ne (by decide)) (4)) (((congrFun (e98 97 (by decide)) (4)).trans (((congrFun (e94 97 (by decide)) (4)).trans (((congrFun (e90 97 (by decide)) (4)).trans (((congrFun (e86 97 (by decide)) (4)).trans (((congrFun (e82 97 (by decide)) (4)).trans (((congrFun (e78 97 (by decide)) (4)).trans (((congrFun (e74 97 (by decide)) (4)).trans (((congrFun (e70 97 (by decide)) (4)).trans (((congrFun (e66 97 (by decide)) (4)).trans (((congrFun (e62 97 (by decide)) (4)).trans (((congrFun (e58 97 (by decide)) (4)).trans (((congrFun (e54 97 (by decide)) (4)).trans (((congrFun (e50 97 (by decide)) (4)).trans (Eq.trans (congrFun (upd2_ne (by decide)) (4)) (Eq.trans (congrFun (upd2_ne (by decide)) (4)) (((congrFun (e46 97 (by decide)) (4)).trans (((congrFun (e42 97 (by decide)) (4)).trans (((congrFun (e38 97 (by decide)) (4)).trans (Eq.trans (congrFun (upd2_ne (by decide)) (4)) (Eq.trans (congrFun (upd2_ne (by decide)) (4)) (((congrFun (e34 97 (by decide)) (4)).trans (((congrFun (e30 97 (by decide)) (4)).trans (((congrFun (e26 97 (by decide)) (4)).trans (Eq.trans (congrFun (upd2_ne (by decide)) (4)) (Eq.trans (congrFun (upd2_ne (by decide)) (4)) (((congrFun (e22 97 (by decide)) (4)).trans (((congrFun (e18 97 (by decide)) (4)).trans (((congrFun (e14 97 (by decide)) (4)).trans (Eq.trans (congrFun (upd2_ne (by decide)) (4)) (Eq.trans (congrFun (upd2_ne (by decide)) (4)) (((congrFun (e10 97 (by decide)) (4)).trans (((congrFun (e6 97 (by decide)) (4)).trans (((congrFun (e2 97 (by decide)) (4)).trans (upd2_eq))))))))))))))))))))))))))))))))))))))))))))))))))))))))))))))), (Eq.trans (congrFun (upd2_ne (by decide)) (4)) (Eq.trans (congrFun (upd2_ne (by decide)) (4)) (Eq.trans (congrFun (upd2_ne (by decide)) (4)) (Eq.trans (congrFun (upd2_ne (by decide)) (4)) (((congrFun (e98 102 (by decide)) (4)).trans (((congrFun (e94 102 (by decide)) (4)).trans (((congrFun (e90 102 (by decide)) (4)).trans (((congrFun (e86 102 (by decide)) (4)).trans (((congrFun (e82 102 (by decide)) (4)).trans (((congrFun (e78 102 (by decide)) (4)).trans (((congrFun (e74 102 (by decide)) (4)).trans (((congrFun (e70 102 (by decide)) (4)).trans (((congrFun (e66 102 (by decide)) (4)).trans (((congrFun (e62 102 (by decide)) (4)).trans (((congrFun (e58 102 (by decide)) (4)).trans (((congrFun (e54 102 (by decide)) (4)).trans (((congrFun (e50 102 (by decide)) (4)).trans (Eq.trans (congrFun (upd2_ne (by decide)) (4)) (Eq.trans (congrFun (upd2_ne (by decide)) (4)) (((congrFun (e46 102 (by decide)) (4)).trans (((congrFun (e42 102 (by decide)) (4)).trans (((congrFun (e38 102 (by decide)) (4)).trans (Eq.trans (congrFun (upd2_ne (by decide)) (4)) (Eq.trans (congrFun (upd2_ne (by decide)) (4)) (((congrFun (e34 102 (by decide)) (4)).trans (((congrFun (e30 102 (by decide)) (4)).trans (((congrFun (e26 102 (by decide)) (4)).trans (Eq.trans (congrFun (upd2_ne (by decide)) (4)) (Eq.trans (congrFun (upd2_ne (by decide)) (4)) (((congrFun (e22 102 (by decide)) (4)).trans (((congrFun (e18 102 (by decide)) (4)).trans (((congrFun (e14 102 (by decide)) (4)).trans (upd2_eq))))))))))))))))))))))))))))))))))))))))))))))))))))))), (Eq.trans (congrFun (upd2_ne (by decide)) (4)) (Eq.trans (congrFun (upd2_ne (by decide)) (4)) (Eq.trans (congrFun (upd2_ne (by decide)) (4)) (Eq.trans (congrFun (upd2_ne (by decide)) (4)) (((congrFun (e98 107 (by decide)) (4)).trans (((congrFun (e94 107 (by decide)) (4)).trans (((congrFun (e90 107 (by decide)) (4)).trans (((congrFun (e86 107 (by decide)) (4)).trans (((congrFun (e82 107 (by decide)) (4)).trans (((congrFun (e78 107 (by decide)) (4)).trans (((congrFun (e74 107 (by decide)) (4)).trans (((congrFun (e70 107 (by decide)) (4)).trans (((congrFun (e66 107 (by decide)) (4)).trans (((congrFun (e62 107 (by decide)) (4)).trans (((congrFun (e58 107 (by decide)) (4)).trans (((congrFun (e54 107 (by decide)) (4)).trans (((congrFun (e50 107 (by decide)) (4)).trans (Eq.trans (congrFun (upd2_ne (by decide)) (4)) (Eq.trans (congrFun (upd2_ne (by decide)) (4)) (((congrFun (e46 107 (by decide)) (4)).trans (((congrFun (e42 107 (by decide)) (4)).trans (((congrFun (e38 107 (by decide)) (4)).trans (Eq.trans (congrFun (upd2_ne (by decide)) (4)) (Eq.trans (congrFun (upd2_ne (by decide)) (4)) (((congrFun (e34 107 (by decide)) (4)).trans (((congrFun (e30 107 (by decide)) (4)).trans (((congrFun (e26 107 (by decide)) (4)).trans (upd2_eq))))))))))))))))))))))))))))))))))))))))))))))), (Eq.trans (congrFun (upd2_ne (by decide)) (4)) (Eq.trans (congrFun (upd2_ne (by decide)) (4)) (Eq.trans (congrFun (upd2_ne (by decide)) (4)) (Eq.trans (congrFun (upd2_ne (by decide)) (4)) (((congrFun (e98 112 (by decide)) (4)).trans (((congrFun (e94 112 (by decide)) (4)).trans (((congrFun (e90 112 (by decide)) (4)).trans (((congrFun (e86 112 (by decide)) (4)).trans (((congrFun (e82 112 (by decide)) (4)).trans (((congrFun (e78 112 (by decide)) (4)).trans (((congrFun (e74 112 (by decide)) (4)).trans (((congrFun (e70 112 (by decide)) (4)).trans (((congrFun (e66 112 (by decide)) (4)).trans (((congrFun (e62 112 (by decide)) (4)).trans (((congrFun (e58 112 (by decide)) (4)).trans (((congrFun (e54 112 (by decide)) (4)).trans (((congrFun (e50 112 (by decide)) (4)).trans (Eq.trans (congrFun (upd2_ne (by decide)) (4)) (Eq.trans (congrFun (upd2_ne (by decide)) (4)) (((congrFun (e46 112 (by decide)) (4)).trans (((congrFun (e42 112 (by decide)) (4)).trans (((congrFun (e38 112 (by decide)) (4)).trans (upd2_eq))))))))))))))))))))))))))))))))))))))), (Eq.trans (congrFun (upd2_ne (by decide)) (4)) (Eq.trans (congrFun (upd2_ne (by decide)) (4)) (Eq.trans (congrFun (upd2_ne (by decide)) (4)) (Eq.trans (congrFun (upd2_ne (by decide)) (4)) (((congrFun (e98 117 (by decide)) (4)).trans (((congrFun (e94 117 (by decide)) (4)).trans (((congrFun (e90 117 (by decide)) (4)).trans (((congrFun (e86 117 (by decide)) (4)).trans (((congrFun (e82 117 (by decide)) (4)).trans (((congrFun (e78 117 (by decide)) (4)).trans (((congrFun (e74 117 (by decide)) (4)).trans (((congrFun (e70 117 (by decide)) (4)).trans (((congrFun (e66 117 (by decide)) (4)).trans (((congrFun (e62 117 (by decide)) (4)).trans (((congrFun (e58 117 (by decide)) (4)).trans (((congrFun (e54 117 (by decide)) (4)).trans (((congrFun (e50 117 (by decide)) (4)).trans (upd2_eq))))))))))))))))))))))))))))))), (by omega)⟩) (by omega) (by omega) (fun I101 hF102 fr103 => ?_))
    have hF := hF102
    obtain ⟨d0, d1, d2, d3, d4, d5, d6, d7, d8, d9, d10, d11, d12, d13, db⟩ := hF
    have d0 : ∀ j, j < 32 → I101 86 j = nI 0 := d0
    have d1 : ∀ j, j < 6 → I101 90 j = nI 0 := d1
    have d2 : ∀ j, j < 6 → I101 91 j = nI 9 := d2
    have d3 : I101 83 0 = nI (4) := d3
    have d4 : I101 83 3 = nI 0 := d4
    have d5 : I101 83 5 = nI (0) := d5
    have d6 : I101 92 1 = nI ((0 + n0 * 4)) := d6
    have d7 : I101 92 0 = nI ((0 + n0)) := d7
    have d8 : ∀ j, j < 40 → j ≠ 0 → j ≠ 1 → j ≠ 3 → I101 92 j = nI 0 := d8
    have d9 : I101 97 4 = nI 0 := d9
    have d10 : I101 102 4 = nI 0 := d10
    have d11 : I101 107 4 = nI 0 := d11
    have d12 : I101 112 4 = nI 0 := d12
    have d13 : I101 117 4 = nI 0 := d13
    refine (show As l b 10 y_M_bestSet KC RC K2 (I101) 39 [.ref 81, .ref 1, .int (nI (n0)), .int (what), .int (nI (i)), .int (x5), .int (x6)] [.int (nI 0)] from ?_)
    refine aw_pop rfl d_M_bestSet_39 ?_
    refine aw_aload_n rfl rfl d_M_bestSet_40 ?_
    refine aw_aload_n rfl rfl d_M_bestSet_41 ?_
    refine aw_iconst (v := nI 0) ci_0 d_M_bestSet_42 ?_
    refine as_callV (as := [.ref 1, .int (nI 0)]) (d' := 9) (q := ("SinglesUp$Mind", zT5, 3)) mo_M_gained lk_M_94 kc_81 rfl rfl rfl ⟨by decide, by decide⟩ rfl rfl (by decide) d_M_bestSet_43 (Ss.of (show As l b 9 y_M_gained KC RC _ (I101) 0 [.ref 81, .ref 1, .int (nI 0)] [] from ?_))
    refine aw_iload_n rfl rfl d_M_gained_0 ?_
    refine aw_tabInI 0 (by decide +kernel) (by decide) rfl (tgt := 36) (by decide) d_M_gained_1 ?_
    refine aw_aload_n rfl rfl d_M_gained_36 ?_
    refine aw_getr fl_M_12 kc_81 (by decide) rfl rc_81_0 d_M_gained_37 ?_
    refine aw_getr fl_M_40 kc_82 (by decide) rfl rc_82_8 d_M_gained_40 ?_
    refine aw_iconst (v := nI 1) ci_1 d_M_gained_43 ?_
    refine aw_iald (j := 1) kc_92 (vp_in_nI (by decide) (by decide)) (nI_clamp (by decide)) d_M_gained_44 ?_
    refine aw_top (x2 := nI ((0 + n0 * 4))) (d6) ?_
    refine aw_aload_n rfl rfl d_M_gained_45 ?_
    refine aw_getr fl_M_40 kc_1 (by decide) rfl rc_1_8 d_M_gained_46 ?_
    refine aw_iconst (v := nI 1) ci_1 d_M_gained_49 ?_
    refine aw_iald (j := 1) kc_11 (vp_in_nI (by decide) (by decide)) (nI_clamp (by decide)) d_M_gained_50 ?_
    refine aw_top (x2 := nI 0) (((congrFun (fr103 11 (by decide)) (1)).trans (Eq.trans (congrFun (upd2_ne (by decide)) (1)) (Eq.trans (congrFun (upd2_ne (by decide)) (1)) (Eq.trans (congrFun (upd2_ne (by decide)) (1)) (Eq.trans (congrFun (upd2_ne (by decide)) (1)) (((congrFun (e98 11 (by decide)) (1)).trans (((congrFun (e94 11 (by decide)) (1)).trans (((congrFun (e90 11 (by decide)) (1)).trans (((congrFun (e86 11 (by decide)) (1)).trans (((congrFun (e82 11 (by decide)) (1)).trans (((congrFun (e78 11 (by decide)) (1)).trans (((congrFun (e74 11 (by decide)) (1)).trans (((congrFun (e70 11 (by decide)) (1)).trans (((congrFun (e66 11 (by decide)) (1)).trans (((congrFun (e62 11 (by decide)) (1)).trans (((congrFun (e58 11 (by decide)) (1)).trans (((congrFun (e54 11 (by decide)) (1)).trans (((congrFun (e50 11 (by decide)) (1)).trans (Eq.trans (congrFun (upd2_ne (by decide)) (1)) (Eq.trans (congrFun (upd2_ne (by decide)) (1)) (((congrFun (e46 11 (by decide)) (1)).trans (((congrFun (e42 11 (by decide)) (1)).trans (((congrFun (e38 11 (by decide)) (1)).trans (Eq.trans (congrFun (upd2_ne (by decide)) (1)) (Eq.trans (congrFun (upd2_ne (by decide)) (1)) (((congrFun (e34 11 (by decide)) (1)).trans (((congrFun (e30 11 (by decide)) (1)).trans (((congrFun (e26 11 (by decide)) (1)).trans (Eq.trans (congrFun (upd2_ne (by decide)) (1)) (Eq.trans (congrFun (upd2_ne (by decide)) (1)) (((congrFun (e22 11 (by decide)) (1)).trans (((congrFun (e18 11 (by decide)) (1)).trans (((congrFun (e14 11 (by decide)) (1)).trans (Eq.trans (congrFun (upd2_ne (by decide)) (1)) (Eq.trans (congrFun (upd2_ne (by decide)) (1)) (((congrFun (e10 11 (by decide)) (1)).trans (((congrFun (e6 11 (by decide)) (1)).trans (((congrFun (e2 11 (by decide)) (1)).trans (Eq.trans (congrFun (upd2_ne (by decide)) (1)) (Eq.trans (congrFun (upd2_ne (by decide)) (1)) (f6))))))))))))))))))))))))))))))))))))))))))))))))))))))))))))))))))) ?_
    refine aw_isubN (by omega) d_M_gained_51 ?_
    refine as_reti rfl d_M_gained_52 ?_
    refine (show As l b 10 y_M_bestSet KC RC K2 (I101) 46 [.ref 81, .ref 1, .int (nI (n0)), .int (what), .int (nI (i)), .int (x5), .int (x6)] [.int (nI (((0 + n0 * 4) - 0)))] from ?_)
    refine aw_istore (lv2 := [.ref 81, .ref 1, .int (nI (n0)), .int (what), .int (nI (i)), .int (nI (((0 + n0 * 4) - 0))), .int (x6)]) (by decide) rfl d_M_bestSet_46 ?_
    refine aw_aload_n rfl rfl d_M_bestSet_48 ?_
    refine aw_aload_n rfl rfl d_M_bestSet_49 ?_
    refine aw_iconst (v := nI 2) ci_2 d_M_bestSet_50 ?_
    refine as_callV (as := [.ref 1, .int (nI 2)]) (d' := 9) (q := ("SinglesUp$Mind", zT5, 3)) mo_M_gained lk_M_94 kc_81 rfl rfl rfl ⟨by decide, by decide⟩ rfl rfl (by decide) d_M_bestSet_51 (Ss.of (show As l b 9 y_M_gained KC RC _ (I101) 0 [.ref 81, .ref 1, .int (nI 2)] [] from ?_))
    refine aw_iload_n rfl rfl d_M_gained_0 ?_
    refine aw_tabInI 2 (by decide +kernel) (by decide) rfl (tgt := 70) (by decide) d_M_gained_1 ?_
    refine aw_aload_n rfl rfl d_M_gained_70 ?_
    refine aw_getr fl_M_12 kc_81 (by decide) rfl rc_81_0 d_M_gained_71 ?_
    refine as_callS (as := [.ref 82]) (d' := 8) mo_M_allWait lk_M_43 rfl ⟨by decide, by decide⟩ rfl rfl (by decide) d_M_gained_74 (Ss.of (show As l b 8 y_M_allWait KC RC _ (I101) 0 [.ref 82, uu, uu] [] from ?_))
    refine aw_iconst (v := nI 0) ci_0 d_M_allWait_0 ?_
    refine aw_istore_n (lv2 := [.ref 82, .int (nI 0), uu]) rfl (by decide) rfl d_M_allWait_1 ?_
    refine aw_iconst (v := nI 1) ci_1 d_M_allWait_2 ?_
    refine aw_istore_n (lv2 := [.ref 82, .int (nI 0), .int (nI 1)]) rfl (by decide) rfl d_M_allWait_3 ?_
    refine aw_iload_n rfl rfl d_M_allWait_4 ?_
    refine aw_bipush (v := nI 8) cb_8 d_M_allWait_5 ?_
    refine aw_icmp_gtI (tgt := 28) (1) (8) (by decide +kernel) (by decide +kernel) (by decide) d_M_allWait_7 (fun q => absurd q (by decide)) (fun _ => ?_)
    refine aw_iload_n rfl rfl d_M_allWait_10 ?_
    refine aw_aload_n rfl rfl d_M_allWait_11 ?_
    refine aw_getr fl_M_40 kc_82 (by decide) rfl rc_82_8 d_M_allWait_12 ?_
    refine aw_bipush (v := nI 20) cb_20 d_M_allWait_15 ?_
    refine aw_iload_n rfl rfl d_M_allWait_17 ?_
    refine aw_iadd d_M_allWait_18 ?_
    refine aw_top (x2 := nI 21) (by decide +kernel) ?_
    refine aw_iald (j := 21) kc_92 (vp_in_nI (by decide) (by decide)) (nI_clamp (by decide)) d_M_allWait_19 ?_
    refine aw_top (x2 := nI 0) (d8 21 (by decide) (by decide) (by decide) (by decide)) ?_
    refine aw_iadd d_M_allWait_20 ?_
    refine aw_top (x2 := nI 0) (by decide +kernel) ?_
    refine aw_istore_n (lv2 := [.ref 82, .int (nI 0), .int (nI 1)]) rfl (by decide) rfl d_M_allWait_21 ?_
    refine aw_iinc (v := nI 2) (lv2 := [.ref 82, .int (nI 0), .int (nI 2)]) rfl (by decide +kernel) (by decide) rfl d_M_allWait_22 ?_
    refine aw_goto (tgt := 4) (by decide) d_M_allWait_25 ?_
    refine aw_iload_n rfl rfl d_M_allWait_4 ?_
    refine aw_bipush (v := nI 8) cb_8 d_M_allWait_5 ?_
    refine aw_icmp_gtI (tgt := 28) (2) (8) (by decide +kernel) (by decide +kernel) (by decide) d_M_allWait_7 (fun q => absurd q (by decide)) (fun _ => ?_)
    refine aw_iload_n rfl rfl d_M_allWait_10 ?_
    refine aw_aload_n rfl rfl d_M_allWait_11 ?_
    refine aw_getr fl_M_40 kc_82 (by decide) rfl rc_82_8 d_M_allWait_12 ?_
    refine aw_bipush (v := nI 20) cb_20 d_M_allWait_15 ?_
    refine aw_iload_n rfl rfl d_M_allWait_17 ?_
    refine aw_iadd d_M_allWait_18 ?_
    refine aw_top (x2 := nI 22) (by decide +kernel) ?_
    refine aw_iald (j := 22) kc_92 (vp_in_nI (by decide) (by decide)) (nI_clamp (by decide)) d_M_allWait_19 ?_
    refine aw_top (x2 := nI 0) (d8 22 (by decide) (by decide) (by decide) (by decide)) ?_
    refine aw_iadd d_M_allWait_20 ?_
    refine aw_top (x2 := nI 0) (by decide +kernel) ?_
    refine aw_istore_n (lv2 := [.ref 82, .int (nI 0), .int (nI 2)]) rfl (by decide) rfl d_M_allWait_21 ?_
    refine aw_iinc (v := nI 3) (lv2 := [.ref 82, .int (nI 0), .int (nI 3)]) rfl (by decide +kernel) (by decide) rfl d_M_allWait_22 ?_
    refine aw_goto (tgt := 4) (by decide) d_M_allWait_25 ?_
    refine aw_iload_n rfl rfl d_M_allWait_4 ?_
    refine aw_bipush (v := nI 8) cb_8 d_M_allWait_5 ?_
    refine aw_icmp_gtI (tgt := 28) (3) (8) (by decide +kernel) (by decide +kernel) (by decide) d_M_allWait_7 (fun q => absurd q (by decide)) (fun _ => ?_)
    refine aw_iload_n rfl rfl d_M_allWait_10 ?_
    refine aw_aload_n rfl rfl d_M_allWait_11 ?_
    refine aw_getr fl_M_40 kc_82 (by decide) rfl rc_82_8 d_M_allWait_12 ?_
    refine aw_bipush (v := nI 20) cb_20 d_M_allWait_15 ?_
    refine aw_iload_n rfl rfl d_M_allWait_17 ?_
    refine aw_iadd d_M_allWait_18 ?_
    refine aw_top (x2 := nI 23) (by decide +kernel) ?_
    refine aw_iald (j := 23) kc_92 (vp_in_nI (by decide) (by decide)) (nI_clamp (by decide)) d_M_allWait_19 ?_
    refine aw_top (x2 := nI 0) (d8 23 (by decide) (by decide) (by decide) (by decide)) ?_
    refine aw_iadd d_M_allWait_20 ?_
    refine aw_top (x2 := nI 0) (by decide +kernel) ?_
    refine aw_istore_n (lv2 := [.ref 82, .int (nI 0), .int (nI 3)]) rfl (by decide) rfl d_M_allWait_21 ?_
    refine aw_iinc (v := nI 4) (lv2 := [.ref 82, .int (nI 0), .int (nI 4)]) rfl (by decide +kernel) (by decide) rfl d_M_allWait_22 ?_
    refine aw_goto (tgt := 4) (by decide) d_M_allWait_25 ?_
    refine aw_iload_n rfl rfl d_M_allWait_4 ?_
    refine aw_bipush (v := nI 8) cb_8 d_M_allWait_5 ?_
    refine aw_icmp_gtI (tgt := 28) (4) (8) (by decide +kernel) (by decide +kernel) (by decide) d_M_allWait_7 (fun q => absurd q (by decide)) (fun _ => ?_)
    refine aw_iload_n rfl rfl d_M_allWait_10 ?_
    refine aw_aload_n rfl rfl d_M_allWait_11 ?_
    refine aw_getr fl_M_40 kc_82 (by decide) rfl rc_82_8 d_M_allWait_12 ?_
    refine aw_bipush (v := nI 20) cb_20 d_M_allWait_15 ?_
    refine aw_iload_n rfl rfl d_M_allWait_17 ?_
    refine aw_iadd d_M_allWait_18 ?_
    refine aw_top (x2 := nI 24) (by decide +kernel) ?_
    refine aw_iald (j := 24) kc_92 (vp_in_nI (by decide) (by decide)) (nI_clamp (by decide)) d_M_allWait_19 ?_
    refine aw_top (x2 := nI 0) (d8 24 (by decide) (by decide) (by decide) (by decide)) ?_
    refine aw_iadd d_M_allWait_20 ?_
    refine aw_top (x2 := nI 0) (by decide +kernel) ?_
    refine aw_istore_n (lv2 := [.ref 82, .int (nI 0), .int (nI 4)]) rfl (by decide) rfl d_M_allWait_21 ?_
    refine aw_iinc (v := nI 5) (lv2 := [.ref 82, .int (nI 0), .int (nI 5)]) rfl (by decide +kernel) (by decide) rfl d_M_allWait_22 ?_
    refine aw_goto (tgt := 4) (by decide) d_M_allWait_25 ?_
    refine aw_iload_n rfl rfl d_M_allWait_4 ?_
    refine aw_bipush (v := nI 8) cb_8 d_M_allWait_5 ?_
    refine aw_icmp_gtI (tgt := 28) (5) (8) (by decide +kernel) (by decide +kernel) (by decide) d_M_allWait_7 (fun q => absurd q (by decide)) (fun _ => ?_)
    refine aw_iload_n rfl rfl d_M_allWait_10 ?_
    refine aw_aload_n rfl rfl d_M_allWait_11 ?_
    refine aw_getr fl_M_40 kc_82 (by decide) rfl rc_82_8 d_M_allWait_12 ?_
    refine aw_bipush (v := nI 20) cb_20 d_M_allWait_15 ?_
    refine aw_iload_n rfl rfl d_M_allWait_17 ?_
    refine aw_iadd d_M_allWait_18 ?_
    refine aw_top (x2 := nI 25) (by decide +kernel) ?_
    refine aw_iald (j := 25) kc_92 (vp_in_nI (by decide) (by decide)) (nI_clamp (by decide)) d_M_allWait_19 ?_
    refine aw_top (x2 := nI 0) (d8 25 (by decide) (by decide) (by decide) (by decide)) ?_
    refine aw_iadd d_M_allWait_20 ?_
    refine aw_top (x2 := nI 0) (by decide +kernel) ?_
    refine aw_istore_n (lv2 := [.ref 82, .int (nI 0), .int (nI 5)]) rfl (by decide) rfl d_M_allWait_21 ?_
    refine aw_iinc (v := nI 6) (lv2 := [.ref 82, .int (nI 0), .int (nI 6)]) rfl (by decide +kernel) (by decide) rfl d_M_allWait_22 ?_
    refine aw_goto (tgt := 4) (by decide) d_M_allWait_25 ?_
    refine aw_iload_n rfl rfl d_M_allWait_4 ?_
    refine aw_bipush (v := nI 8) cb_8 d_M_allWait_5 ?_
    refine aw_icmp_gtI (tgt := 28) (6) (8) (by decide +kernel) (by decide +kernel) (by decide) d_M_allWait_7 (fun q => absurd q (by decide)) (fun _ => ?_)
    refine aw_iload_n rfl rfl d_M_allWait_10 ?_
    refine aw_aload_n rfl rfl d_M_allWait_11 ?_
    refine aw_getr fl_M_40 kc_82 (by decide) rfl rc_82_8 d_M_allWait_12 ?_
    refine aw_bipush (v := nI 20) cb_20 d_M_allWait_15 ?_
    refine aw_iload_n rfl rfl d_M_allWait_17 ?_
    refine aw_iadd d_M_allWait_18 ?_
    refine aw_top (x2 := nI 26) (by decide +kernel) ?_
    refine aw_iald (j := 26) kc_92 (vp_in_nI (by decide) (by decide)) (nI_clamp (by decide)) d_M_allWait_19 ?_
    refine aw_top (x2 := nI 0) (d8 26 (by decide) (by decide) (by decide) (by decide)) ?_
    refine aw_iadd d_M_allWait_20 ?_
    refine aw_top (x2 := nI 0) (by decide +kernel) ?_
    refine aw_istore_n (lv2 := [.ref 82, .int (nI 0), .int (nI 6)]) rfl (by decide) rfl d_M_allWait_21 ?_
    refine aw_iinc (v := nI 7) (lv2 := [.ref 82, .int (nI 0), .int (nI 7)]) rfl (by decide +kernel) (by decide) rfl d_M_allWait_22 ?_
    refine aw_goto (tgt := 4) (by decide) d_M_allWait_25 ?_
    refine aw_iload_n rfl rfl d_M_allWait_4 ?_
    refine aw_bipush (v := nI 8) cb_8 d_M_allWait_5 ?_
    refine aw_icmp_gtI (tgt := 28) (7) (8) (by decide +kernel) (by decide +kernel) (by decide) d_M_allWait_7 (fun q => absurd q (by decide)) (fun _ => ?_)
    refine aw_iload_n rfl rfl d_M_allWait_10 ?_
    refine aw_aload_n rfl rfl d_M_allWait_11 ?_
    refine aw_getr fl_M_40 kc_82 (by decide) rfl rc_82_8 d_M_allWait_12 ?_
    refine aw_bipush (v := nI 20) cb_20 d_M_allWait_15 ?_
    refine aw_iload_n rfl rfl d_M_allWait_17 ?_
    refine aw_iadd d_M_allWait_18 ?_
    refine aw_top (x2 := nI 27) (by decide +kernel) ?_
    refine aw_iald (j := 27) kc_92 (vp_in_nI (by decide) (by decide)) (nI_clamp (by decide)) d_M_allWait_19 ?_
    refine aw_top (x2 := nI 0) (d8 27 (by decide) (by decide) (by decide) (by decide)) ?_
    refine aw_iadd d_M_allWait_20 ?_
    refine aw_top (x2 := nI 0) (by decide +kernel) ?_
    refine aw_istore_n (lv2 := [.ref 82, .int (nI 0), .int (nI 7)]) rfl (by decide) rfl d_M_allWait_21 ?_
    refine aw_iinc (v := nI 8) (lv2 := [.ref 82, .int (nI 0), .int (nI 8)]) rfl (by decide +kernel) (by decide) rfl d_M_allWait_22 ?_
    refine aw_goto (tgt := 4) (by decide) d_M_allWait_25 ?_
    refine aw_iload_n rfl rfl d_M_allWait_4 ?_
    refine aw_bipush (v := nI 8) cb_8 d_M_allWait_5 ?_
    refine aw_icmp_gtI (tgt := 28) (8) (8) (by decide +kernel) (by decide +kernel) (by decide) d_M_allWait_7 (fun q => absurd q (by decide)) (fun _ => ?_)
    refine aw_iload_n rfl rfl d_M_allWait_10 ?_
    refine aw_aload_n rfl rfl d_M_allWait_11 ?_
    refine aw_getr fl_M_40 kc_82 (by decide) rfl rc_82_8 d_M_allWait_12 ?_
    refine aw_bipush (v := nI 20) cb_20 d_M_allWait_15 ?_
    refine aw_iload_n rfl rfl d_M_allWait_17 ?_
    refine aw_iadd d_M_allWait_18 ?_
    refine aw_top (x2 := nI 28) (by decide +kernel) ?_
    refine aw_iald (j := 28) kc_92 (vp_in_nI (by decide) (by decide)) (nI_clamp (by decide)) d_M_allWait_19 ?_
    refine aw_top (x2 := nI 0) (d8 28 (by decide) (by decide) (by decide) (by decide)) ?_
    refine aw_iadd d_M_allWait_20 ?_
    refine aw_top (x2 := nI 0) (by decide +kernel) ?_
    refine aw_istore_n (lv2 := [.ref 82, .int (nI 0), .int (nI 8)]) rfl (by decide) rfl d_M_allWait_21 ?_
    refine aw_iinc (v := nI 9) (lv2 := [.ref 82, .int (nI 0), .int (nI 9)]) rfl (by decide +kernel) (by decide) rfl d_M_allWait_22 ?_
    refine aw_goto (tgt := 4) (by decide) d_M_allWait_25 ?_
    refine aw_iload_n rfl rfl d_M_allWait_4 ?_
    refine aw_bipush (v := nI 8) cb_8 d_M_allWait_5 ?_
    refine aw_icmp_gtI (tgt := 28) (9) (8) (by decide +kernel) (by decide +kernel) (by decide) d_M_allWait_7 (fun _ => ?_) (fun q => absurd q (by decide))
    refine aw_iload_n rfl rfl d_M_allWait_28 ?_
    refine as_reti rfl d_M_allWait_29 ?_
    refine (show As l b 9 y_M_gained KC RC _ (I101) 77 [.ref 81, .ref 1, .int (nI 2)] [.int (nI 0)] from ?_)
    refine aw_aload_n rfl rfl d_M_gained_77 ?_
    refine as_callS (as := [.ref 1]) (d' := 8) mo_M_allWait lk_M_43 rfl ⟨by decide, by decide⟩ rfl rfl (by decide) d_M_gained_78 (Ss.of (show As l b 8 y_M_allWait KC RC _ (I101) 0 [.ref 1, uu, uu] [] from ?_))
    refine aw_iconst (v := nI 0) ci_0 d_M_allWait_0 ?_
    refine aw_istore_n (lv2 := [.ref 1, .int (nI 0), uu]) rfl (by decide) rfl d_M_allWait_1 ?_
    refine aw_iconst (v := nI 1) ci_1 d_M_allWait_2 ?_
    refine aw_istore_n (lv2 := [.ref 1, .int (nI 0), .int (nI 1)]) rfl (by decide) rfl d_M_allWait_3 ?_
    refine aw_iload_n rfl rfl d_M_allWait_4 ?_
    refine aw_bipush (v := nI 8) cb_8 d_M_allWait_5 ?_
    refine aw_icmp_gtI (tgt := 28) (1) (8) (by decide +kernel) (by decide +kernel) (by decide) d_M_allWait_7 (fun q => absurd q (by decide)) (fun _ => ?_)
    refine aw_iload_n rfl rfl d_M_allWait_10 ?_
    refine aw_aload_n rfl rfl d_M_allWait_11 ?_
    refine aw_getr fl_M_40 kc_1 (by decide) rfl rc_1_8 d_M_allWait_12 ?_
    refine aw_bipush (v := nI 20) cb_20 d_M_allWait_15 ?_
    refine aw_iload_n rfl rfl d_M_allWait_17 ?_
    refine aw_iadd d_M_allWait_18 ?_
    refine aw_top (x2 := nI 21) (by decide +kernel) ?_
    refine aw_iald (j := 21) kc_11 (vp_in_nI (by decide) (by decide)) (nI_clamp (by decide)) d_M_allWait_19 ?_
    refine aw_top (x2 := nI 0) (((congrFun (fr103 11 (by decide)) (21)).trans (Eq.trans (congrFun (upd2_ne (by decide)) (21)) (Eq.trans (congrFun (upd2_ne (by decide)) (21)) (Eq.trans (congrFun (upd2_ne (by decide)) (21)) (Eq.trans (congrFun (upd2_ne (by decide)) (21)) (((congrFun (e98 11 (by decide)) (21)).trans (((congrFun (e94 11 (by decide)) (21)).trans (((congrFun (e90 11 (by decide)) (21)).trans (((congrFun (e86 11 (by decide)) (21)).trans (((congrFun (e82 11 (by decide)) (21)).trans (((congrFun (e78 11 (by decide)) (21)).trans (((congrFun (e74 11 (by decide)) (21)).trans (((congrFun (e70 11 (by decide)) (21)).trans (((congrFun (e66 11 (by decide)) (21)).trans (((congrFun (e62 11 (by decide)) (21)).trans (((congrFun (e58 11 (by decide)) (21)).trans (((congrFun (e54 11 (by decide)) (21)).trans (((congrFun (e50 11 (by decide)) (21)).trans (Eq.trans (congrFun (upd2_ne (by decide)) (21)) (Eq.trans (congrFun (upd2_ne (by decide)) (21)) (((congrFun (e46 11 (by decide)) (21)).trans (((congrFun (e42 11 (by decide)) (21)).trans (((congrFun (e38 11 (by decide)) (21)).trans (Eq.trans (congrFun (upd2_ne (by decide)) (21)) (Eq.trans (congrFun (upd2_ne (by decide)) (21)) (((congrFun (e34 11 (by decide)) (21)).trans (((congrFun (e30 11 (by decide)) (21)).trans (((congrFun (e26 11 (by decide)) (21)).trans (Eq.trans (congrFun (upd2_ne (by decide)) (21)) (Eq.trans (congrFun (upd2_ne (by decide)) (21)) (((congrFun (e22 11 (by decide)) (21)).trans (((congrFun (e18 11 (by decide)) (21)).trans (((congrFun (e14 11 (by decide)) (21)).trans (Eq.trans (congrFun (upd2_ne (by decide)) (21)) (Eq.trans (congrFun (upd2_ne (by decide)) (21)) (((congrFun (e10 11 (by decide)) (21)).trans (((congrFun (e6 11 (by decide)) (21)).trans (((congrFun (e2 11 (by decide)) (21)).trans (Eq.trans (congrFun (upd2_ne (by decide)) (21)) (Eq.trans (congrFun (upd2_ne (by decide)) (21)) (f8 21 (by decide) (by decide) (by decide) (by decide)))))))))))))))))))))))))))))))))))))))))))))))))))))))))))))))))))) ?_
    refine aw_iadd d_M_allWait_20 ?_
    refine aw_top (x2 := nI 0) (by decide +kernel) ?_
    refine aw_istore_n (lv2 := [.ref 1, .int (nI 0), .int (nI 1)]) rfl (by decide) rfl d_M_allWait_21 ?_
    refine aw_iinc (v := nI 2) (lv2 := [.ref 1, .int (nI 0), .int (nI 2)]) rfl (by decide +kernel) (by decide) rfl d_M_allWait_22 ?_
    refine aw_goto (tgt := 4) (by decide) d_M_allWait_25 ?_
    refine aw_iload_n rfl rfl d_M_allWait_4 ?_
    refine aw_bipush (v := nI 8) cb_8 d_M_allWait_5 ?_
    refine aw_icmp_gtI (tgt := 28) (2) (8) (by decide +kernel) (by decide +kernel) (by decide) d_M_allWait_7 (fun q => absurd q (by decide)) (fun _ => ?_)
    refine aw_iload_n rfl rfl d_M_allWait_10 ?_
    refine aw_aload_n rfl rfl d_M_allWait_11 ?_
    refine aw_getr fl_M_40 kc_1 (by decide) rfl rc_1_8 d_M_allWait_12 ?_
    refine aw_bipush (v := nI 20) cb_20 d_M_allWait_15 ?_
    refine aw_iload_n rfl rfl d_M_allWait_17 ?_
    refine aw_iadd d_M_allWait_18 ?_
    refine aw_top (x2 := nI 22) (by decide +kernel) ?_
    refine aw_iald (j := 22) kc_11 (vp_in_nI (by decide) (by decide)) (nI_clamp (by decide)) d_M_allWait_19 ?_
    refine aw_top (x2 := nI 0) (((congrFun (fr103 11 (by decide)) (22)).trans (Eq.trans (congrFun (upd2_ne (by decide)) (22)) (Eq.trans (congrFun (upd2_ne (by decide)) (22)) (Eq.trans (congrFun (upd2_ne (by decide)) (22)) (Eq.trans (congrFun (upd2_ne (by decide)) (22)) (((congrFun (e98 11 (by decide)) (22)).trans (((congrFun (e94 11 (by decide)) (22)).trans (((congrFun (e90 11 (by decide)) (22)).trans (((congrFun (e86 11 (by decide)) (22)).trans (((congrFun (e82 11 (by decide)) (22)).trans (((congrFun (e78 11 (by decide)) (22)).trans (((congrFun (e74 11 (by decide)) (22)).trans (((congrFun (e70 11 (by decide)) (22)).trans (((congrFun (e66 11 (by decide)) (22)).trans (((congrFun (e62 11 (by decide)) (22)).trans (((congrFun (e58 11 (by decide)) (22)).trans (((congrFun (e54 11 (by decide)) (22)).trans (((congrFun (e50 11 (by decide)) (22)).trans (Eq.trans (congrFun (upd2_ne (by decide)) (22)) (Eq.trans (congrFun (upd2_ne (by decide)) (22)) (((congrFun (e46 11 (by decide)) (22)).trans (((congrFun (e42 11 (by decide)) (22)).trans (((congrFun (e38 11 (by decide)) (22)).trans (Eq.trans (congrFun (upd2_ne (by decide)) (22)) (Eq.trans (congrFun (upd2_ne (by decide)) (22)) (((congrFun (e34 11 (by decide)) (22)).trans (((congrFun (e30 11 (by decide)) (22)).trans (((congrFun (e26 11 (by decide)) (22)).trans (Eq.trans (congrFun (upd2_ne (by decide)) (22)) (Eq.trans (congrFun (upd2_ne (by decide)) (22)) (((congrFun (e22 11 (by decide)) (22)).trans (((congrFun (e18 11 (by decide)) (22)).trans (((congrFun (e14 11 (by decide)) (22)).trans (Eq.trans (congrFun (upd2_ne (by decide)) (22)) (Eq.trans (congrFun (upd2_ne (by decide)) (22)) (((congrFun (e10 11 (by decide)) (22)).trans (((congrFun (e6 11 (by decide)) (22)).trans (((congrFun (e2 11 (by decide)) (22)).trans (Eq.trans (congrFun (upd2_ne (by decide)) (22)) (Eq.trans (congrFun (upd2_ne (by decide)) (22)) (f8 22 (by decide) (by decide) (by decide) (by decide)))))))))))))))))))))))))))))))))))))))))))))))))))))))))))))))))))) ?_
    refine aw_iadd d_M_allWait_20 ?_
    refine aw_top (x2 := nI 0) (by decide +kernel) ?_
    refine aw_istore_n (lv2 := [.ref 1, .int (nI 0), .int (nI 2)]) rfl (by decide) rfl d_M_allWait_21 ?_
    refine aw_iinc (v := nI 3) (lv2 := [.ref 1, .int (nI 0), .int (nI 3)]) rfl (by decide +kernel) (by decide) rfl d_M_allWait_22 ?_
    refine aw_goto (tgt := 4) (by decide) d_M_allWait_25 ?_
    refine aw_iload_n rfl rfl d_M_allWait_4 ?_
    refine aw_bipush (v := nI 8) cb_8 d_M_allWait_5 ?_
    refine aw_icmp_gtI (tgt := 28) (3) (8) (by decide +kernel) (by decide +kernel) (by decide) d_M_allWait_7 (fun q => absurd q (by decide)) (fun _ => ?_)
    refine aw_iload_n rfl rfl d_M_allWait_10 ?_
    refine aw_aload_n rfl rfl d_M_allWait_11 ?_
    refine aw_getr fl_M_40 kc_1 (by decide) rfl rc_1_8 d_M_allWait_12 ?_
    refine aw_bipush (v := nI 20) cb_20 d_M_allWait_15 ?_
    refine aw_iload_n rfl rfl d_M_allWait_17 ?_
    refine aw_iadd d_M_allWait_18 ?_
    refine aw_top (x2 := nI 23) (by decide +kernel) ?_
    refine aw_iald (j := 23) kc_11 (vp_in_nI (by decide) (by decide)) (nI_clamp (by decide)) d_M_allWait_19 ?_
    refine aw_top (x2 := nI 0) (((congrFun (fr103 11 (by decide)) (23)).trans (Eq.trans (congrFun (upd2_ne (by decide)) (23)) (Eq.trans (congrFun (upd2_ne (by decide)) (23)) (Eq.trans (congrFun (upd2_ne (by decide)) (23)) (Eq.trans (congrFun (upd2_ne (by decide)) (23)) (((congrFun (e98 11 (by decide)) (23)).trans (((congrFun (e94 11 (by decide)) (23)).trans (((congrFun (e90 11 (by decide)) (23)).trans (((congrFun (e86 11 (by decide)) (23)).trans (((congrFun (e82 11 (by decide)) (23)).trans (((congrFun (e78 11 (by decide)) (23)).trans (((congrFun (e74 11 (by decide)) (23)).trans (((congrFun (e70 11 (by decide)) (23)).trans (((congrFun (e66 11 (by decide)) (23)).trans (((congrFun (e62 11 (by decide)) (23)).trans (((congrFun (e58 11 (by decide)) (23)).trans (((congrFun (e54 11 (by decide)) (23)).trans (((congrFun (e50 11 (by decide)) (23)).trans (Eq.trans (congrFun (upd2_ne (by decide)) (23)) (Eq.trans (congrFun (upd2_ne (by decide)) (23)) (((congrFun (e46 11 (by decide)) (23)).trans (((congrFun (e42 11 (by decide)) (23)).trans (((congrFun (e38 11 (by decide)) (23)).trans (Eq.trans (congrFun (upd2_ne (by decide)) (23)) (Eq.trans (congrFun (upd2_ne (by decide)) (23)) (((congrFun (e34 11 (by decide)) (23)).trans (((congrFun (e30 11 (by decide)) (23)).trans (((congrFun (e26 11 (by decide)) (23)).trans (Eq.trans (congrFun (upd2_ne (by decide)) (23)) (Eq.trans (congrFun (upd2_ne (by decide)) (23)) (((congrFun (e22 11 (by decide)) (23)).trans (((congrFun (e18 11 (by decide)) (23)).trans (((congrFun (e14 11 (by decide)) (23)).trans (Eq.trans (congrFun (upd2_ne (by decide)) (23)) (Eq.trans (congrFun (upd2_ne (by decide)) (23)) (((congrFun (e10 11 (by decide)) (23)).trans (((congrFun (e6 11 (by decide)) (23)).trans (((congrFun (e2 11 (by decide)) (23)).trans (Eq.trans (congrFun (upd2_ne (by decide)) (23)) (Eq.trans (congrFun (upd2_ne (by decide)) (23)) (f8 23 (by decide) (by decide) (by decide) (by decide)))))))))))))))))))))))))))))))))))))))))))))))))))))))))))))))))))) ?_
    refine aw_iadd d_M_allWait_20 ?_
    refine aw_top (x2 := nI 0) (by decide +kernel) ?_
    refine aw_istore_n (lv2 := [.ref 1, .int (nI 0), .int (nI 3)]) rfl (by decide) rfl d_M_allWait_21 ?_
    refine aw_iinc (v := nI 4) (lv2 := [.ref 1, .int (nI 0), .int (nI 4)]) rfl (by decide +kernel) (by decide) rfl d_M_allWait_22 ?_
    refine aw_goto (tgt := 4) (by decide) d_M_allWait_25 ?_
    refine aw_iload_n rfl rfl d_M_allWait_4 ?_
    refine aw_bipush (v := nI 8) cb_8 d_M_allWait_5 ?_
    refine aw_icmp_gtI (tgt := 28) (4) (8) (by decide +kernel) (by decide +kernel) (by decide) d_M_allWait_7 (fun q => absurd q (by decide)) (fun _ => ?_)
    refine aw_iload_n rfl rfl d_M_allWait_10 ?_
    refine aw_aload_n rfl rfl d_M_allWait_11 ?_
    refine aw_getr fl_M_40 kc_1 (by decide) rfl rc_1_8 d_M_allWait_12 ?_
    refine aw_bipush (v := nI 20) cb_20 d_M_allWait_15 ?_
    refine aw_iload_n rfl rfl d_M_allWait_17 ?_
    refine aw_iadd d_M_allWait_18 ?_
    refine aw_top (x2 := nI 24) (by decide +kernel) ?_
    refine aw_iald (j := 24) kc_11 (vp_in_nI (by decide) (by decide)) (nI_clamp (by decide)) d_M_allWait_19 ?_
    refine aw_top (x2 := nI 0) (((congrFun (fr103 11 (by decide)) (24)).trans (Eq.trans (congrFun (upd2_ne (by decide)) (24)) (Eq.trans (congrFun (upd2_ne (by decide)) (24)) (Eq.trans (congrFun (upd2_ne (by decide)) (24)) (Eq.trans (congrFun (upd2_ne (by decide)) (24)) (((congrFun (e98 11 (by decide)) (24)).trans (((congrFun (e94 11 (by decide)) (24)).trans (((congrFun (e90 11 (by decide)) (24)).trans (((congrFun (e86 11 (by decide)) (24)).trans (((congrFun (e82 11 (by decide)) (24)).trans (((congrFun (e78 11 (by decide)) (24)).trans (((congrFun (e74 11 (by decide)) (24)).trans (((congrFun (e70 11 (by decide)) (24)).trans (((congrFun (e66 11 (by decide)) (24)).trans (((congrFun (e62 11 (by decide)) (24)).trans (((congrFun (e58 11 (by decide)) (24)).trans (((congrFun (e54 11 (by decide)) (24)).trans (((congrFun (e50 11 (by decide)) (24)).trans (Eq.trans (congrFun (upd2_ne (by decide)) (24)) (Eq.trans (congrFun (upd2_ne (by decide)) (24)) (((congrFun (e46 11 (by decide)) (24)).trans (((congrFun (e42 11 (by decide)) (24)).trans (((congrFun (e38 11 (by decide)) (24)).trans (Eq.trans (congrFun (upd2_ne (by decide)) (24)) (Eq.trans (congrFun (upd2_ne (by decide)) (24)) (((congrFun (e34 11 (by decide)) (24)).trans (((congrFun (e30 11 (by decide)) (24)).trans (((congrFun (e26 11 (by decide)) (24)).trans (Eq.trans (congrFun (upd2_ne (by decide)) (24)) (Eq.trans (congrFun (upd2_ne (by decide)) (24)) (((congrFun (e22 11 (by decide)) (24)).trans (((congrFun (e18 11 (by decide)) (24)).trans (((congrFun (e14 11 (by decide)) (24)).trans (Eq.trans (congrFun (upd2_ne (by decide)) (24)) (Eq.trans (congrFun (upd2_ne (by decide)) (24)) (((congrFun (e10 11 (by decide)) (24)).trans (((congrFun (e6 11 (by decide)) (24)).trans (((congrFun (e2 11 (by decide)) (24)).trans (Eq.trans (congrFun (upd2_ne (by decide)) (24)) (Eq.trans (congrFun (upd2_ne (by decide)) (24)) (f8 24 (by decide) (by decide) (by decide) (by decide)))))))))))))))))))))))))))))))))))))))))))))))))))))))))))))))))))) ?_
    refine aw_iadd d_M_allWait_20 ?_
    refine aw_top (x2 := nI 0) (by decide +kernel) ?_
    refine aw_istore_n (lv2 := [.ref 1, .int (nI 0), .int (nI 4)]) rfl (by decide) rfl d_M_allWait_21 ?_
    refine aw_iinc (v := nI 5) (lv2 := [.ref 1, .int (nI 0), .int (nI 5)]) rfl (by decide +kernel) (by decide) rfl d_M_allWait_22 ?_
    refine aw_goto (tgt := 4) (by decide) d_M_allWait_25 ?_
    refine aw_iload_n rfl rfl d_M_allWait_4 ?_
    refine aw_bipush (v := nI 8) cb_8 d_M_allWait_5 ?_
    refine aw_icmp_gtI (tgt := 28) (5) (8) (by decide +kernel) (by decide +kernel) (by decide) d_M_allWait_7 (fun q => absurd q (by decide)) (fun _ => ?_)
    refine aw_iload_n rfl rfl d_M_allWait_10 ?_
    refine aw_aload_n rfl rfl d_M_allWait_11 ?_
    refine aw_getr fl_M_40 kc_1 (by decide) rfl rc_1_8 d_M_allWait_12 ?_
    refine aw_bipush (v := nI 20) cb_20 d_M_allWait_15 ?_
    refine aw_iload_n rfl rfl d_M_allWait_17 ?_
    refine aw_iadd d_M_allWait_18 ?_
    refine aw_top (x2 := nI 25) (by decide +kernel) ?_
    refine aw_iald (j := 25) kc_11 (vp_in_nI (by decide) (by decide)) (nI_clamp (by decide)) d_M_allWait_19 ?_
    refine aw_top (x2 := nI 0) (((congrFun (fr103 11 (by decide)) (25)).trans (Eq.trans (congrFun (upd2_ne (by decide)) (25)) (Eq.trans (congrFun (upd2_ne (by decide)) (25)) (Eq.trans (congrFun (upd2_ne (by decide)) (25)) (Eq.trans (congrFun (upd2_ne (by decide)) (25)) (((congrFun (e98 11 (by decide)) (25)).trans (((congrFun (e94 11 (by decide)) (25)).trans (((congrFun (e90 11 (by decide)) (25)).trans (((congrFun (e86 11 (by decide)) (25)).trans (((congrFun (e82 11 (by decide)) (25)).trans (((congrFun (e78 11 (by decide)) (25)).trans (((congrFun (e74 11 (by decide)) (25)).trans (((congrFun (e70 11 (by decide)) (25)).trans (((congrFun (e66 11 (by decide)) (25)).trans (((congrFun (e62 11 (by decide)) (25)).trans (((congrFun (e58 11 (by decide)) (25)).trans (((congrFun (e54 11 (by decide)) (25)).trans (((congrFun (e50 11 (by decide)) (25)).trans (Eq.trans (congrFun (upd2_ne (by decide)) (25)) (Eq.trans (congrFun (upd2_ne (by decide)) (25)) (((congrFun (e46 11 (by decide)) (25)).trans (((congrFun (e42 11 (by decide)) (25)).trans (((congrFun (e38 11 (by decide)) (25)).trans (Eq.trans (congrFun (upd2_ne (by decide)) (25)) (Eq.trans (congrFun (upd2_ne (by decide)) (25)) (((congrFun (e34 11 (by decide)) (25)).trans (((congrFun (e30 11 (by decide)) (25)).trans (((congrFun (e26 11 (by decide)) (25)).trans (Eq.trans (congrFun (upd2_ne (by decide)) (25)) (Eq.trans (congrFun (upd2_ne (by decide)) (25)) (((congrFun (e22 11 (by decide)) (25)).trans (((congrFun (e18 11 (by decide)) (25)).trans (((congrFun (e14 11 (by decide)) (25)).trans (Eq.trans (congrFun (upd2_ne (by decide)) (25)) (Eq.trans (congrFun (upd2_ne (by decide)) (25)) (((congrFun (e10 11 (by decide)) (25)).trans (((congrFun (e6 11 (by decide)) (25)).trans (((congrFun (e2 11 (by decide)) (25)).trans (Eq.trans (congrFun (upd2_ne (by decide)) (25)) (Eq.trans (congrFun (upd2_ne (by decide)) (25)) (f8 25 (by decide) (by decide) (by decide) (by decide)))))))))))))))))))))))))))))))))))))))))))))))))))))))))))))))))))) ?_
    refine aw_iadd d_M_allWait_20 ?_
    refine aw_top (x2 := nI 0) (by decide +kernel) ?_
    refine aw_istore_n (lv2 := [.ref 1, .int (nI 0), .int (nI 5)]) rfl (by decide) rfl d_M_allWait_21 ?_
    refine aw_iinc (v := nI 6) (lv2 := [.ref 1, .int (nI 0), .int (nI 6)]) rfl (by decide +kernel) (by decide) rfl d_M_allWait_22 ?_
    refine aw_goto (tgt := 4) (by decide) d_M_allWait_25 ?_
    refine aw_iload_n rfl rfl d_M_allWait_4 ?_
    refine aw_bipush (v := nI 8) cb_8 d_M_allWait_5 ?_
    refine aw_icmp_gtI (tgt := 28) (6) (8) (by decide +kernel) (by decide +kernel) (by decide) d_M_allWait_7 (fun q => absurd q (by decide)) (fun _ => ?_)
    refine aw_iload_n rfl rfl d_M_allWait_10 ?_
    refine aw_aload_n rfl rfl d_M_allWait_11 ?_
    refine aw_getr fl_M_40 kc_1 (by decide) rfl rc_1_8 d_M_allWait_12 ?_
    refine aw_bipush (v := nI 20) cb_20 d_M_allWait_15 ?_
    refine aw_iload_n rfl rfl d_M_allWait_17 ?_
    refine aw_iadd d_M_allWait_18 ?_
    refine aw_top (x2 := nI 26) (by decide +kernel) ?_
    refine aw_iald (j := 26) kc_11 (vp_in_nI (by decide) (by decide)) (nI_clamp (by decide)) d_M_allWait_19 ?_
    refine aw_top (x2 := nI 0) (((congrFun (fr103 11 (by decide)) (26)).trans (Eq.trans (congrFun (upd2_ne (by decide)) (26)) (Eq.trans (congrFun (upd2_ne (by decide)) (26)) (Eq.trans (congrFun (upd2_ne (by decide)) (26)) (Eq.trans (congrFun (upd2_ne (by decide)) (26)) (((congrFun (e98 11 (by decide)) (26)).trans (((congrFun (e94 11 (by decide)) (26)).trans (((congrFun (e90 11 (by decide)) (26)).trans (((congrFun (e86 11 (by decide)) (26)).trans (((congrFun (e82 11 (by decide)) (26)).trans (((congrFun (e78 11 (by decide)) (26)).trans (((congrFun (e74 11 (by decide)) (26)).trans (((congrFun (e70 11 (by decide)) (26)).trans (((congrFun (e66 11 (by decide)) (26)).trans (((congrFun (e62 11 (by decide)) (26)).trans (((congrFun (e58 11 (by decide)) (26)).trans (((congrFun (e54 11 (by decide)) (26)).trans (((congrFun (e50 11 (by decide)) (26)).trans (Eq.trans (congrFun (upd2_ne (by decide)) (26)) (Eq.trans (congrFun (upd2_ne (by decide)) (26)) (((congrFun (e46 11 (by decide)) (26)).trans (((congrFun (e42 11 (by decide)) (26)).trans (((congrFun (e38 11 (by decide)) (26)).trans (Eq.trans (congrFun (upd2_ne (by decide)) (26)) (Eq.trans (congrFun (upd2_ne (by decide)) (26)) (((congrFun (e34 11 (by decide)) (26)).trans (((congrFun (e30 11 (by decide)) (26)).trans (((congrFun (e26 11 (by decide)) (26)).trans (Eq.trans (congrFun (upd2_ne (by decide)) (26)) (Eq.trans (congrFun (upd2_ne (by decide)) (26)) (((congrFun (e22 11 (by decide)) (26)).trans (((congrFun (e18 11 (by decide)) (26)).trans (((congrFun (e14 11 (by decide)) (26)).trans (Eq.trans (congrFun (upd2_ne (by decide)) (26)) (Eq.trans (congrFun (upd2_ne (by decide)) (26)) (((congrFun (e10 11 (by decide)) (26)).trans (((congrFun (e6 11 (by decide)) (26)).trans (((congrFun (e2 11 (by decide)) (26)).trans (Eq.trans (congrFun (upd2_ne (by decide)) (26)) (Eq.trans (congrFun (upd2_ne (by decide)) (26)) (f8 26 (by decide) (by decide) (by decide) (by decide)))))))))))))))))))))))))))))))))))))))))))))))))))))))))))))))))))) ?_
    refine aw_iadd d_M_allWait_20 ?_
    refine aw_top (x2 := nI 0) (by decide +kernel) ?_
    refine aw_istore_n (lv2 := [.ref 1, .int (nI 0), .int (nI 6)]) rfl (by decide) rfl d_M_allWait_21 ?_
    refine aw_iinc (v := nI 7) (lv2 := [.ref 1, .int (nI 0), .int (nI 7)]) rfl (by decide +kernel) (by decide) rfl d_M_allWait_22 ?_
    refine aw_goto (tgt := 4) (by decide) d_M_allWait_25 ?_
    refine aw_iload_n rfl rfl d_M_allWait_4 ?_
    refine aw_bipush (v := nI 8) cb_8 d_M_allWait_5 ?_
    refine aw_icmp_gtI (tgt := 28) (7) (8) (by decide +kernel) (by decide +kernel) (by decide) d_M_allWait_7 (fun q => absurd q (by decide)) (fun _ => ?_)
    refine aw_iload_n rfl rfl d_M_allWait_10 ?_
    refine aw_aload_n rfl rfl d_M_allWait_11 ?_
    refine aw_getr fl_M_40 kc_1 (by decide) rfl rc_1_8 d_M_allWait_12 ?_
    refine aw_bipush (v := nI 20) cb_20 d_M_allWait_15 ?_
    refine aw_iload_n rfl rfl d_M_allWait_17 ?_
    refine aw_iadd d_M_allWait_18 ?_
    refine aw_top (x2 := nI 27) (by decide +kernel) ?_
    refine aw_iald (j := 27) kc_11 (vp_in_nI (by decide) (by decide)) (nI_clamp (by decide)) d_M_allWait_19 ?_
    refine aw_top (x2 := nI 0) (((congrFun (fr103 11 (by decide)) (27)).trans (Eq.trans (congrFun (upd2_ne (by decide)) (27)) (Eq.trans (congrFun (upd2_ne (by decide)) (27)) (Eq.trans (congrFun (upd2_ne (by decide)) (27)) (Eq.trans (congrFun (upd2_ne (by decide)) (27)) (((congrFun (e98 11 (by decide)) (27)).trans (((congrFun (e94 11 (by decide)) (27)).trans (((congrFun (e90 11 (by decide)) (27)).trans (((congrFun (e86 11 (by decide)) (27)).trans (((congrFun (e82 11 (by decide)) (27)).trans (((congrFun (e78 11 (by decide)) (27)).trans (((congrFun (e74 11 (by decide)) (27)).trans (((congrFun (e70 11 (by decide)) (27)).trans (((congrFun (e66 11 (by decide)) (27)).trans (((congrFun (e62 11 (by decide)) (27)).trans (((congrFun (e58 11 (by decide)) (27)).trans (((congrFun (e54 11 (by decide)) (27)).trans (((congrFun (e50 11 (by decide)) (27)).trans (Eq.trans (congrFun (upd2_ne (by decide)) (27)) (Eq.trans (congrFun (upd2_ne (by decide)) (27)) (((congrFun (e46 11 (by decide)) (27)).trans (((congrFun (e42 11 (by decide)) (27)).trans (((congrFun (e38 11 (by decide)) (27)).trans (Eq.trans (congrFun (upd2_ne (by decide)) (27)) (Eq.trans (congrFun (upd2_ne (by decide)) (27)) (((congrFun (e34 11 (by decide)) (27)).trans (((congrFun (e30 11 (by decide)) (27)).trans (((congrFun (e26 11 (by decide)) (27)).trans (Eq.trans (congrFun (upd2_ne (by decide)) (27)) (Eq.trans (congrFun (upd2_ne (by decide)) (27)) (((congrFun (e22 11 (by decide)) (27)).trans (((congrFun (e18 11 (by decide)) (27)).trans (((congrFun (e14 11 (by decide)) (27)).trans (Eq.trans (congrFun (upd2_ne (by decide)) (27)) (Eq.trans (congrFun (upd2_ne (by decide)) (27)) (((congrFun (e10 11 (by decide)) (27)).trans (((congrFun (e6 11 (by decide)) (27)).trans (((congrFun (e2 11 (by decide)) (27)).trans (Eq.trans (congrFun (upd2_ne (by decide)) (27)) (Eq.trans (congrFun (upd2_ne (by decide)) (27)) (f8 27 (by decide) (by decide) (by decide) (by decide)))))))))))))))))))))))))))))))))))))))))))))))))))))))))))))))))))) ?_
    refine aw_iadd d_M_allWait_20 ?_
    refine aw_top (x2 := nI 0) (by decide +kernel) ?_
    refine aw_istore_n (lv2 := [.ref 1, .int (nI 0), .int (nI 7)]) rfl (by decide) rfl d_M_allWait_21 ?_
    refine aw_iinc (v := nI 8) (lv2 := [.ref 1, .int (nI 0), .int (nI 8)]) rfl (by decide +kernel) (by decide) rfl d_M_allWait_22 ?_
    refine aw_goto (tgt := 4) (by decide) d_M_allWait_25 ?_
    refine aw_iload_n rfl rfl d_M_allWait_4 ?_
    refine aw_bipush (v := nI 8) cb_8 d_M_allWait_5 ?_
    refine aw_icmp_gtI (tgt := 28) (8) (8) (by decide +kernel) (by decide +kernel) (by decide) d_M_allWait_7 (fun q => absurd q (by decide)) (fun _ => ?_)
    refine aw_iload_n rfl rfl d_M_allWait_10 ?_
    refine aw_aload_n rfl rfl d_M_allWait_11 ?_
    refine aw_getr fl_M_40 kc_1 (by decide) rfl rc_1_8 d_M_allWait_12 ?_
    refine aw_bipush (v := nI 20) cb_20 d_M_allWait_15 ?_
    refine aw_iload_n rfl rfl d_M_allWait_17 ?_
    refine aw_iadd d_M_allWait_18 ?_
    refine aw_top (x2 := nI 28) (by decide +kernel) ?_
    refine aw_iald (j := 28) kc_11 (vp_in_nI (by decide) (by decide)) (nI_clamp (by decide)) d_M_allWait_19 ?_
    refine aw_top (x2 := nI 0) (((congrFun (fr103 11 (by decide)) (28)).trans (Eq.trans (congrFun (upd2_ne (by decide)) (28)) (Eq.trans (congrFun (upd2_ne (by decide)) (28)) (Eq.trans (congrFun (upd2_ne (by decide)) (28)) (Eq.trans (congrFun (upd2_ne (by decide)) (28)) (((congrFun (e98 11 (by decide)) (28)).trans (((congrFun (e94 11 (by decide)) (28)).trans (((congrFun (e90 11 (by decide)) (28)).trans (((congrFun (e86 11 (by decide)) (28)).trans (((congrFun (e82 11 (by decide)) (28)).trans (((congrFun (e78 11 (by decide)) (28)).trans (((congrFun (e74 11 (by decide)) (28)).trans (((congrFun (e70 11 (by decide)) (28)).trans (((congrFun (e66 11 (by decide)) (28)).trans (((congrFun (e62 11 (by decide)) (28)).trans (((congrFun (e58 11 (by decide)) (28)).trans (((congrFun (e54 11 (by decide)) (28)).trans (((congrFun (e50 11 (by decide)) (28)).trans (Eq.trans (congrFun (upd2_ne (by decide)) (28)) (Eq.trans (congrFun (upd2_ne (by decide)) (28)) (((congrFun (e46 11 (by decide)) (28)).trans (((congrFun (e42 11 (by decide)) (28)).trans (((congrFun (e38 11 (by decide)) (28)).trans (Eq.trans (congrFun (upd2_ne (by decide)) (28)) (Eq.trans (congrFun (upd2_ne (by decide)) (28)) (((congrFun (e34 11 (by decide)) (28)).trans (((congrFun (e30 11 (by decide)) (28)).trans (((congrFun (e26 11 (by decide)) (28)).trans (Eq.trans (congrFun (upd2_ne (by decide)) (28)) (Eq.trans (congrFun (upd2_ne (by decide)) (28)) (((congrFun (e22 11 (by decide)) (28)).trans (((congrFun (e18 11 (by decide)) (28)).trans (((congrFun (e14 11 (by decide)) (28)).trans (Eq.trans (congrFun (upd2_ne (by decide)) (28)) (Eq.trans (congrFun (upd2_ne (by decide)) (28)) (((congrFun (e10 11 (by decide)) (28)).trans (((congrFun (e6 11 (by decide)) (28)).trans (((congrFun (e2 11 (by decide)) (28)).trans (Eq.trans (congrFun (upd2_ne (by decide)) (28)) (Eq.trans (congrFun (upd2_ne (by decide)) (28)) (f8 28 (by decide) (by decide) (by decide) (by decide)))))))))))))))))))))))))))))))))))))))))))))))))))))))))))))))))))) ?_
    refine aw_iadd d_M_allWait_20 ?_
    refine aw_top (x2 := nI 0) (by decide +kernel) ?_
    refine aw_istore_n (lv2 := [.ref 1, .int (nI 0), .int (nI 8)]) rfl (by decide) rfl d_M_allWait_21 ?_
    refine aw_iinc (v := nI 9) (lv2 := [.ref 1, .int (nI 0), .int (nI 9)]) rfl (by decide +kernel) (by decide) rfl d_M_allWait_22 ?_
    refine aw_goto (tgt := 4) (by decide) d_M_allWait_25 ?_
    refine aw_iload_n rfl rfl d_M_allWait_4 ?_
    refine aw_bipush (v := nI 8) cb_8 d_M_allWait_5 ?_
    refine aw_icmp_gtI (tgt := 28) (9) (8) (by decide +kernel) (by decide +kernel) (by decide) d_M_allWait_7 (fun _ => ?_) (fun q => absurd q (by decide))
    refine aw_iload_n rfl rfl d_M_allWait_28 ?_
    refine as_reti rfl d_M_allWait_29 ?_
    refine (show As l b 9 y_M_gained KC RC _ (I101) 81 [.ref 81, .ref 1, .int (nI 2)] [.int (nI 0), .int (nI 0)] from ?_)
    refine aw_isub d_M_gained_81 ?_
    refine aw_top (x2 := nI 0) (by decide +kernel) ?_
    refine as_reti rfl d_M_gained_82 ?_
    refine (show As l b 10 y_M_bestSet KC RC K2 (I101) 54 [.ref 81, .ref 1, .int (nI (n0)), .int (what), .int (nI (i)), .int (nI (((0 + n0 * 4) - 0))), .int (x6)] [.int (nI 0)] from ?_)
    refine aw_istore (lv2 := [.ref 81, .ref 1, .int (nI (n0)), .int (what), .int (nI (i)), .int (nI (((0 + n0 * 4) - 0))), .int (nI 0)]) (by decide) rfl d_M_bestSet_54 ?_
    refine aw_iload rfl d_M_bestSet_56 ?_
    refine aw_if_eqI (tgt := 94) ((i : Nat) : Int) (nI_toInt (by omega)) (by decide) d_M_bestSet_58 (fun q => absurd q (by omega)) (fun _ => ?_)
    refine aw_iload rfl d_M_bestSet_61 ?_
    refine aw_aload_n rfl rfl d_M_bestSet_63 ?_
    refine aw_getr fl_M_25 kc_81 (by decide) rfl rc_81_2 d_M_bestSet_64 ?_
    refine aw_iconst (v := nI 1) ci_1 d_M_bestSet_67 ?_
    refine aw_iald (j := 1) kc_129 (vp_in_nI (by decide) (by decide)) (nI_clamp (by decide)) d_M_bestSet_68 ?_
    refine aw_top (x2 := nI ((n0 * 4))) (((congrFun (fr103 129 (by decide)) (1)).trans (Eq.trans (congrFun (upd2_ne (by decide)) (1)) (Eq.trans (congrFun (upd2_ne (by decide)) (1)) (Eq.trans (congrFun (upd2_ne (by decide)) (1)) (Eq.trans (congrFun (upd2_ne (by decide)) (1)) (((congrFun (e98 129 (by decide)) (1)).trans (((congrFun (e94 129 (by decide)) (1)).trans (((congrFun (e90 129 (by decide)) (1)).trans (((congrFun (e86 129 (by decide)) (1)).trans (((congrFun (e82 129 (by decide)) (1)).trans (((congrFun (e78 129 (by decide)) (1)).trans (((congrFun (e74 129 (by decide)) (1)).trans (((congrFun (e70 129 (by decide)) (1)).trans (((congrFun (e66 129 (by decide)) (1)).trans (((congrFun (e62 129 (by decide)) (1)).trans (((congrFun (e58 129 (by decide)) (1)).trans (((congrFun (e54 129 (by decide)) (1)).trans (((congrFun (e50 129 (by decide)) (1)).trans (Eq.trans (congrFun (upd2_ne (by decide)) (1)) (Eq.trans (congrFun (upd2_ne (by decide)) (1)) (((congrFun (e46 129 (by decide)) (1)).trans (((congrFun (e42 129 (by decide)) (1)).trans (((congrFun (e38 129 (by decide)) (1)).trans (Eq.trans (congrFun (upd2_ne (by decide)) (1)) (Eq.trans (congrFun (upd2_ne (by decide)) (1)) (((congrFun (e34 129 (by decide)) (1)).trans (((congrFun (e30 129 (by decide)) (1)).trans (((congrFun (e26 129 (by decide)) (1)).trans (Eq.trans (congrFun (upd2_ne (by decide)) (1)) (Eq.trans (congrFun (upd2_ne (by decide)) (1)) (((congrFun (e22 129 (by decide)) (1)).trans (((congrFun (e18 129 (by decide)) (1)).trans (((congrFun (e14 129 (by decide)) (1)).trans (Eq.trans (congrFun (upd2_ne (by decide)) (1)) (Eq.trans (congrFun (upd2_ne (by decide)) (1)) (((congrFun (e10 129 (by decide)) (1)).trans (((congrFun (e6 129 (by decide)) (1)).trans (((congrFun (e2 129 (by decide)) (1)).trans (Eq.trans (congrFun (upd2_ne (by decide)) (1)) (Eq.trans (congrFun (upd2_ne (by decide)) (1)) (g1))))))))))))))))))))))))))))))))))))))))))))))))))))))))))))))))))) ?_
    refine aw_icmp_ltI (tgt := 94) ((((0 + n0 * 4) - 0) : Nat) : Int) (((n0 * 4) : Nat) : Int) (nI_toInt (by omega)) (nI_toInt (by omega)) (by decide) d_M_bestSet_69 (fun q => absurd q (by omega)) (fun _ => ?_)
    refine aw_iload rfl d_M_bestSet_72 ?_
    refine aw_aload_n rfl rfl d_M_bestSet_74 ?_
    refine aw_getr fl_M_25 kc_81 (by decide) rfl rc_81_2 d_M_bestSet_75 ?_
    refine aw_iconst (v := nI 1) ci_1 d_M_bestSet_78 ?_
    refine aw_iald (j := 1) kc_129 (vp_in_nI (by decide) (by decide)) (nI_clamp (by decide)) d_M_bestSet_79 ?_
    refine aw_top (x2 := nI ((n0 * 4))) (((congrFun (fr103 129 (by decide)) (1)).trans (Eq.trans (congrFun (upd2_ne (by decide)) (1)) (Eq.trans (congrFun (upd2_ne (by decide)) (1)) (Eq.trans (congrFun (upd2_ne (by decide)) (1)) (Eq.trans (congrFun (upd2_ne (by decide)) (1)) (((congrFun (e98 129 (by decide)) (1)).trans (((congrFun (e94 129 (by decide)) (1)).trans (((congrFun (e90 129 (by decide)) (1)).trans (((congrFun (e86 129 (by decide)) (1)).trans (((congrFun (e82 129 (by decide)) (1)).trans (((congrFun (e78 129 (by decide)) (1)).trans (((congrFun (e74 129 (by decide)) (1)).trans (((congrFun (e70 129 (by decide)) (1)).trans (((congrFun (e66 129 (by decide)) (1)).trans (((congrFun (e62 129 (by decide)) (1)).trans (((congrFun (e58 129 (by decide)) (1)).trans (((congrFun (e54 129 (by decide)) (1)).trans (((congrFun (e50 129 (by decide)) (1)).trans (Eq.trans (congrFun (upd2_ne (by decide)) (1)) (Eq.trans (congrFun (upd2_ne (by decide)) (1)) (((congrFun (e46 129 (by decide)) (1)).trans (((congrFun (e42 129 (by decide)) (1)).trans (((congrFun (e38 129 (by decide)) (1)).trans (Eq.trans (congrFun (upd2_ne (by decide)) (1)) (Eq.trans (congrFun (upd2_ne (by decide)) (1)) (((congrFun (e34 129 (by decide)) (1)).trans (((congrFun (e30 129 (by decide)) (1)).trans (((congrFun (e26 129 (by decide)) (1)).trans (Eq.trans (congrFun (upd2_ne (by decide)) (1)) (Eq.trans (congrFun (upd2_ne (by decide)) (1)) (((congrFun (e22 129 (by decide)) (1)).trans (((congrFun (e18 129 (by decide)) (1)).trans (((congrFun (e14 129 (by decide)) (1)).trans (Eq.trans (congrFun (upd2_ne (by decide)) (1)) (Eq.trans (congrFun (upd2_ne (by decide)) (1)) (((congrFun (e10 129 (by decide)) (1)).trans (((congrFun (e6 129 (by decide)) (1)).trans (((congrFun (e2 129 (by decide)) (1)).trans (Eq.trans (congrFun (upd2_ne (by decide)) (1)) (Eq.trans (congrFun (upd2_ne (by decide)) (1)) (g1))))))))))))))))))))))))))))))))))))))))))))))))))))))))))))))))))) ?_
    refine aw_icmp_neI (tgt := 118) ((((0 + n0 * 4) - 0) : Nat) : Int) (((n0 * 4) : Nat) : Int) (nI_toInt (by omega)) (nI_toInt (by omega)) (by decide) d_M_bestSet_80 (fun q => absurd q (by omega)) (fun _ => ?_)
    refine aw_iload rfl d_M_bestSet_83 ?_
    refine aw_aload_n rfl rfl d_M_bestSet_85 ?_
    refine aw_getr fl_M_25 kc_81 (by decide) rfl rc_81_2 d_M_bestSet_86 ?_
    refine aw_iconst (v := nI 2) ci_2 d_M_bestSet_89 ?_
    refine aw_iald (j := 2) kc_129 (vp_in_nI (by decide) (by decide)) (nI_clamp (by decide)) d_M_bestSet_90 ?_
    refine aw_top (x2 := nI 0) (((congrFun (fr103 129 (by decide)) (2)).trans (Eq.trans (congrFun (upd2_ne (by decide)) (2)) (Eq.trans (congrFun (upd2_ne (by decide)) (2)) (Eq.trans (congrFun (upd2_ne (by decide)) (2)) (Eq.trans (congrFun (upd2_ne (by decide)) (2)) (((congrFun (e98 129 (by decide)) (2)).trans (((congrFun (e94 129 (by decide)) (2)).trans (((congrFun (e90 129 (by decide)) (2)).trans (((congrFun (e86 129 (by decide)) (2)).trans (((congrFun (e82 129 (by decide)) (2)).trans (((congrFun (e78 129 (by decide)) (2)).trans (((congrFun (e74 129 (by decide)) (2)).trans (((congrFun (e70 129 (by decide)) (2)).trans (((congrFun (e66 129 (by decide)) (2)).trans (((congrFun (e62 129 (by decide)) (2)).trans (((congrFun (e58 129 (by decide)) (2)).trans (((congrFun (e54 129 (by decide)) (2)).trans (((congrFun (e50 129 (by decide)) (2)).trans (Eq.trans (congrFun (upd2_ne (by decide)) (2)) (Eq.trans (congrFun (upd2_ne (by decide)) (2)) (((congrFun (e46 129 (by decide)) (2)).trans (((congrFun (e42 129 (by decide)) (2)).trans (((congrFun (e38 129 (by decide)) (2)).trans (Eq.trans (congrFun (upd2_ne (by decide)) (2)) (Eq.trans (congrFun (upd2_ne (by decide)) (2)) (((congrFun (e34 129 (by decide)) (2)).trans (((congrFun (e30 129 (by decide)) (2)).trans (((congrFun (e26 129 (by decide)) (2)).trans (Eq.trans (congrFun (upd2_ne (by decide)) (2)) (Eq.trans (congrFun (upd2_ne (by decide)) (2)) (((congrFun (e22 129 (by decide)) (2)).trans (((congrFun (e18 129 (by decide)) (2)).trans (((congrFun (e14 129 (by decide)) (2)).trans (Eq.trans (congrFun (upd2_ne (by decide)) (2)) (Eq.trans (congrFun (upd2_ne (by decide)) (2)) (((congrFun (e10 129 (by decide)) (2)).trans (((congrFun (e6 129 (by decide)) (2)).trans (((congrFun (e2 129 (by decide)) (2)).trans (Eq.trans (congrFun (upd2_ne (by decide)) (2)) (Eq.trans (congrFun (upd2_ne (by decide)) (2)) (g2))))))))))))))))))))))))))))))))))))))))))))))))))))))))))))))))))) ?_
    refine aw_icmp_geI (tgt := 118) (0) (0) (by decide +kernel) (by decide +kernel) (by decide) d_M_bestSet_91 (fun _ => ?_) (fun q => absurd q (by decide))
    refine aw_iinc (v := nI (i + 1)) (lv2 := [.ref 81, .ref 1, .int (nI (n0)), .int (what), .int (nI (i + 1)), .int (nI (((0 + n0 * 4) - 0))), .int (nI 0)]) rfl (inc_1 _) (by decide) rfl d_M_bestSet_118 ?_
    refine aw_goto (tgt := 3) (by decide) d_M_bestSet_121 ?_
    exact ih (i + 1) (I101) (nI (((0 + n0 * 4) - 0))) (nI 0) (by omega) (by omega) (show FH 1 (I101) (4) (0) (0) (0) from ⟨fun j hj => (((congrFun (fr103 5 (by decide)) (j)).trans (Eq.trans (congrFun (upd2_ne (by decide)) (j)) (Eq.trans (congrFun (upd2_ne (by decide)) (j)) (Eq.trans (congrFun (upd2_ne (by decide)) (j)) (Eq.trans (congrFun (upd2_ne (by decide)) (j)) (((congrFun (e98 5 (by decide)) (j)).trans (((congrFun (e94 5 (by decide)) (j)).trans (((congrFun (e90 5 (by decide)) (j)).trans (((congrFun (e86 5 (by decide)) (j)).trans (((congrFun (e82 5 (by decide)) (j)).trans (((congrFun (e78 5 (by decide)) (j)).trans (((congrFun (e74 5 (by decide)) (j)).trans (((congrFun (e70 5 (by decide)) (j)).trans (((congrFun (e66 5 (by decide)) (j)).trans (((congrFun (e62 5 (by decide)) (j)).trans (((congrFun (e58 5 (by decide)) (j)).trans (((congrFun (e54 5 (by decide)) (j)).trans (((congrFun (e50 5 (by decide)) (j)).trans (Eq.trans (congrFun (upd2_ne (by decide)) (j)) (Eq.trans (congrFun (upd2_ne (by decide)) (j)) (((congrFun (e46 5 (by decide)) (j)).trans (((congrFun (e42 5 (by decide)) (j)).trans (((congrFun (e38 5 (by decide)) (j)).trans (Eq.trans (congrFun (upd2_ne (by decide)) (j)) (Eq.trans (congrFun (upd2_ne (by decide)) (j)) (((congrFun (e34 5 (by decide)) (j)).trans (((congrFun (e30 5 (by decide)) (j)).trans (((congrFun (e26 5 (by decide)) (j)).trans (Eq.trans (congrFun (upd2_ne (by decide)) (j)) (Eq.trans (congrFun (upd2_ne (by decide)) (j)) (((congrFun (e22 5 (by decide)) (j)).trans (((congrFun (e18 5 (by decide)) (j)).trans (((congrFun (e14 5 (by decide)) (j)).trans (Eq.trans (congrFun (upd2_ne (by decide)) (j)) (Eq.trans (congrFun (upd2_ne (by decide)) (j)) (((congrFun (e10 5 (by decide)) (j)).trans (((congrFun (e6 5 (by decide)) (j)).trans (((congrFun (e2 5 (by decide)) (j)).trans (Eq.trans (congrFun (upd2_ne (by decide)) (j)) (Eq.trans (congrFun (upd2_ne (by decide)) (j)) (f0 j (by omega)))))))))))))))))))))))))))))))))))))))))))))))))))))))))))))))))))), fun j hj => (((congrFun (fr103 9 (by decide)) (j)).trans (Eq.trans (congrFun (upd2_ne (by decide)) (j)) (Eq.trans (congrFun (upd2_ne (by decide)) (j)) (Eq.trans (congrFun (upd2_ne (by decide)) (j)) (Eq.trans (congrFun (upd2_ne (by decide)) (j)) (((congrFun (e98 9 (by decide)) (j)).trans (((congrFun (e94 9 (by decide)) (j)).trans (((congrFun (e90 9 (by decide)) (j)).trans (((congrFun (e86 9 (by decide)) (j)).trans (((congrFun (e82 9 (by decide)) (j)).trans (((congrFun (e78 9 (by decide)) (j)).trans (((congrFun (e74 9 (by decide)) (j)).trans (((congrFun (e70 9 (by decide)) (j)).trans (((congrFun (e66 9 (by decide)) (j)).trans (((congrFun (e62 9 (by decide)) (j)).trans (((congrFun (e58 9 (by decide)) (j)).trans (((congrFun (e54 9 (by decide)) (j)).trans (((congrFun (e50 9 (by decide)) (j)).trans (Eq.trans (congrFun (upd2_ne (by decide)) (j)) (Eq.trans (congrFun (upd2_ne (by decide)) (j)) (((congrFun (e46 9 (by decide)) (j)).trans (((congrFun (e42 9 (by decide)) (j)).trans (((congrFun (e38 9 (by decide)) (j)).trans (Eq.trans (congrFun (upd2_ne (by decide)) (j)) (Eq.trans (congrFun (upd2_ne (by decide)) (j)) (((congrFun (e34 9 (by decide)) (j)).trans (((congrFun (e30 9 (by decide)) (j)).trans (((congrFun (e26 9 (by decide)) (j)).trans (Eq.trans (congrFun (upd2_ne (by decide)) (j)) (Eq.trans (congrFun (upd2_ne (by decide)) (j)) (((congrFun (e22 9 (by decide)) (j)).trans (((congrFun (e18 9 (by decide)) (j)).trans (((congrFun (e14 9 (by decide)) (j)).trans (Eq.trans (congrFun (upd2_ne (by decide)) (j)) (Eq.trans (congrFun (upd2_ne (by decide)) (j)) (((congrFun (e10 9 (by decide)) (j)).trans (((congrFun (e6 9 (by decide)) (j)).trans (((congrFun (e2 9 (by decide)) (j)).trans (Eq.trans (congrFun (upd2_ne (by decide)) (j)) (Eq.trans (congrFun (upd2_ne (by decide)) (j)) (f1 (j) (by omega)))))))))))))))))))))))))))))))))))))))))))))))))))))))))))))))))))), fun j hj => (((congrFun (fr103 10 (by decide)) (j)).trans (Eq.trans (congrFun (upd2_ne (by decide)) (j)) (Eq.trans (congrFun (upd2_ne (by decide)) (j)) (Eq.trans (congrFun (upd2_ne (by decide)) (j)) (Eq.trans (congrFun (upd2_ne (by decide)) (j)) (((congrFun (e98 10 (by decide)) (j)).trans (((congrFun (e94 10 (by decide)) (j)).trans (((congrFun (e90 10 (by decide)) (j)).trans (((congrFun (e86 10 (by decide)) (j)).trans (((congrFun (e82 10 (by decide)) (j)).trans (((congrFun (e78 10 (by decide)) (j)).trans (((congrFun (e74 10 (by decide)) (j)).trans (((congrFun (e70 10 (by decide)) (j)).trans (((congrFun (e66 10 (by decide)) (j)).trans (((congrFun (e62 10 (by decide)) (j)).trans (((congrFun (e58 10 (by decide)) (j)).trans (((congrFun (e54 10 (by decide)) (j)).trans (((congrFun (e50 10 (by decide)) (j)).trans (Eq.trans (congrFun (upd2_ne (by decide)) (j)) (Eq.trans (congrFun (upd2_ne (by decide)) (j)) (((congrFun (e46 10 (by decide)) (j)).trans (((congrFun (e42 10 (by decide)) (j)).trans (((congrFun (e38 10 (by decide)) (j)).trans (Eq.trans (congrFun (upd2_ne (by decide)) (j)) (Eq.trans (congrFun (upd2_ne (by decide)) (j)) (((congrFun (e34 10 (by decide)) (j)).trans (((congrFun (e30 10 (by decide)) (j)).trans (((congrFun (e26 10 (by decide)) (j)).trans (Eq.trans (congrFun (upd2_ne (by decide)) (j)) (Eq.trans (congrFun (upd2_ne (by decide)) (j)) (((congrFun (e22 10 (by decide)) (j)).trans (((congrFun (e18 10 (by decide)) (j)).trans (((congrFun (e14 10 (by decide)) (j)).trans (Eq.trans (congrFun (upd2_ne (by decide)) (j)) (Eq.trans (congrFun (upd2_ne (by decide)) (j)) (((congrFun (e10 10 (by decide)) (j)).trans (((congrFun (e6 10 (by decide)) (j)).trans (((congrFun (e2 10 (by decide)) (j)).trans (Eq.trans (congrFun (upd2_ne (by decide)) (j)) (Eq.trans (congrFun (upd2_ne (by decide)) (j)) (f2 (j) (by omega)))))))))))))))))))))))))))))))))))))))))))))))))))))))))))))))))))), (((congrFun (fr103 2 (by decide)) (0)).trans (Eq.trans (congrFun (upd2_ne (by decide)) (0)) (Eq.trans (congrFun (upd2_ne (by decide)) (0)) (Eq.trans (congrFun (upd2_ne (by decide)) (0)) (Eq.trans (congrFun (upd2_ne (by decide)) (0)) (((congrFun (e98 2 (by decide)) (0)).trans (((congrFun (e94 2 (by decide)) (0)).trans (((congrFun (e90 2 (by decide)) (0)).trans (((congrFun (e86 2 (by decide)) (0)).trans (((congrFun (e82 2 (by decide)) (0)).trans (((congrFun (e78 2 (by decide)) (0)).trans (((congrFun (e74 2 (by decide)) (0)).trans (((congrFun (e70 2 (by decide)) (0)).trans (((congrFun (e66 2 (by decide)) (0)).trans (((congrFun (e62 2 (by decide)) (0)).trans (((congrFun (e58 2 (by decide)) (0)).trans (((congrFun (e54 2 (by decide)) (0)).trans (((congrFun (e50 2 (by decide)) (0)).trans (Eq.trans (congrFun (upd2_ne (by decide)) (0)) (Eq.trans (congrFun (upd2_ne (by decide)) (0)) (((congrFun (e46 2 (by decide)) (0)).trans (((congrFun (e42 2 (by decide)) (0)).trans (((congrFun (e38 2 (by decide)) (0)).trans (Eq.trans (congrFun (upd2_ne (by decide)) (0)) (Eq.trans (congrFun (upd2_ne (by decide)) (0)) (((congrFun (e34 2 (by decide)) (0)).trans (((congrFun (e30 2 (by decide)) (0)).trans (((congrFun (e26 2 (by decide)) (0)).trans (Eq.trans (congrFun (upd2_ne (by decide)) (0)) (Eq.trans (congrFun (upd2_ne (by decide)) (0)) (((congrFun (e22 2 (by decide)) (0)).trans (((congrFun (e18 2 (by decide)) (0)).trans (((congrFun (e14 2 (by decide)) (0)).trans (Eq.trans (congrFun (upd2_ne (by decide)) (0)) (Eq.trans (congrFun (upd2_ne (by decide)) (0)) (((congrFun (e10 2 (by decide)) (0)).trans (((congrFun (e6 2 (by decide)) (0)).trans (((congrFun (e2 2 (by decide)) (0)).trans (Eq.trans (congrFun (upd2_ne (by decide)) (0)) (Eq.trans (congrFun (upd2_ne (by decide)) (0)) (f3))))))))))))))))))))))))))))))))))))))))))))))))))))))))))))))))))), (((congrFun (fr103 2 (by decide)) (3)).trans (Eq.trans (congrFun (upd2_ne (by decide)) (3)) (Eq.trans (congrFun (upd2_ne (by decide)) (3)) (Eq.trans (congrFun (upd2_ne (by decide)) (3)) (Eq.trans (congrFun (upd2_ne (by decide)) (3)) (((congrFun (e98 2 (by decide)) (3)).trans (((congrFun (e94 2 (by decide)) (3)).trans (((congrFun (e90 2 (by decide)) (3)).trans (((congrFun (e86 2 (by decide)) (3)).trans (((congrFun (e82 2 (by decide)) (3)).trans (((congrFun (e78 2 (by decide)) (3)).trans (((congrFun (e74 2 (by decide)) (3)).trans (((congrFun (e70 2 (by decide)) (3)).trans (((congrFun (e66 2 (by decide)) (3)).trans (((congrFun (e62 2 (by decide)) (3)).trans (((congrFun (e58 2 (by decide)) (3)).trans (((congrFun (e54 2 (by decide)) (3)).trans (((congrFun (e50 2 (by decide)) (3)).trans (Eq.trans (congrFun (upd2_ne (by decide)) (3)) (Eq.trans (congrFun (upd2_ne (by decide)) (3)) (((congrFun (e46 2 (by decide)) (3)).trans (((congrFun (e42 2 (by decide)) (3)).trans (((congrFun (e38 2 (by decide)) (3)).trans (Eq.trans (congrFun (upd2_ne (by decide)) (3)) (Eq.trans (congrFun (upd2_ne (by decide)) (3)) (((congrFun (e34 2 (by decide)) (3)).trans (((congrFun (e30 2 (by decide)) (3)).trans (((congrFun (e26 2 (by decide)) (3)).trans (Eq.trans (congrFun (upd2_ne (by decide)) (3)) (Eq.trans (congrFun (upd2_ne (by decide)) (3)) (((congrFun (e22 2 (by decide)) (3)).trans (((congrFun (e18 2 (by decide)) (3)).trans (((congrFun (e14 2 (by decide)) (3)).trans (Eq.trans (congrFun (upd2_ne (by decide)) (3)) (Eq.trans (congrFun (upd2_ne (by decide)) (3)) (((congrFun (e10 2 (by decide)) (3)).trans (((congrFun (e6 2 (by decide)) (3)).trans (((congrFun (e2 2 (by decide)) (3)).trans (Eq.trans (congrFun (upd2_ne (by decide)) (3)) (Eq.trans (congrFun (upd2_ne (by decide)) (3)) (f4))))))))))))))))))))))))))))))))))))))))))))))))))))))))))))))))))), (((congrFun (fr103 2 (by decide)) (5)).trans (Eq.trans (congrFun (upd2_ne (by decide)) (5)) (Eq.trans (congrFun (upd2_ne (by decide)) (5)) (Eq.trans (congrFun (upd2_ne (by decide)) (5)) (Eq.trans (congrFun (upd2_ne (by decide)) (5)) (((congrFun (e98 2 (by decide)) (5)).trans (((congrFun (e94 2 (by decide)) (5)).trans (((congrFun (e90 2 (by decide)) (5)).trans (((congrFun (e86 2 (by decide)) (5)).trans (((congrFun (e82 2 (by decide)) (5)).trans (((congrFun (e78 2 (by decide)) (5)).trans (((congrFun (e74 2 (by decide)) (5)).trans (((congrFun (e70 2 (by decide)) (5)).trans (((congrFun (e66 2 (by decide)) (5)).trans (((congrFun (e62 2 (by decide)) (5)).trans (((congrFun (e58 2 (by decide)) (5)).trans (((congrFun (e54 2 (by decide)) (5)).trans (((congrFun (e50 2 (by decide)) (5)).trans (Eq.trans (congrFun (upd2_ne (by decide)) (5)) (Eq.trans (congrFun (upd2_ne (by decide)) (5)) (((congrFun (e46 2 (by decide)) (5)).trans (((congrFun (e42 2 (by decide)) (5)).trans (((congrFun (e38 2 (by decide)) (5)).trans (Eq.trans (congrFun (upd2_ne (by decide)) (5)) (Eq.trans (congrFun (upd2_ne (by decide)) (5)) (((congrFun (e34 2 (by decide)) (5)).trans (((congrFun (e30 2 (by decide)) (5)).trans (((congrFun (e26 2 (by decide)) (5)).trans (Eq.trans (congrFun (upd2_ne (by decide)) (5)) (Eq.trans (congrFun (upd2_ne (by decide)) (5)) (((congrFun (e22 2 (by decide)) (5)).trans (((congrFun (e18 2 (by decide)) (5)).trans (((congrFun (e14 2 (by decide)) (5)).trans (Eq.trans (congrFun (upd2_ne (by decide)) (5)) (Eq.trans (congrFun (upd2_ne (by decide)) (5)) (((congrFun (e10 2 (by decide)) (5)).trans (((congrFun (e6 2 (by decide)) (5)).trans (((congrFun (e2 2 (by decide)) (5)).trans (Eq.trans (congrFun (upd2_ne (by decide)) (5)) (Eq.trans (congrFun (upd2_ne (by decide)) (5)) (f5))))))))))))))))))))))))))))))))))))))))))))))))))))))))))))))))))), (((congrFun (fr103 11 (by decide)) (1)).trans (Eq.trans (congrFun (upd2_ne (by decide)) (1)) (Eq.trans (congrFun (upd2_ne (by decide)) (1)) (Eq.trans (congrFun (upd2_ne (by decide)) (1)) (Eq.trans (congrFun (upd2_ne (by decide)) (1)) (((congrFun (e98 11 (by decide)) (1)).trans (((congrFun (e94 11 (by decide)) (1)).trans (((congrFun (e90 11 (by decide)) (1)).trans (((congrFun (e86 11 (by decide)) (1)).trans (((congrFun (e82 11 (by decide)) (1)).trans (((congrFun (e78 11 (by decide)) (1)).trans (((congrFun (e74 11 (by decide)) (1)).trans (((congrFun (e70 11 (by decide)) (1)).trans (((congrFun (e66 11 (by decide)) (1)).trans (((congrFun (e62 11 (by decide)) (1)).trans (((congrFun (e58 11 (by decide)) (1)).trans (((congrFun (e54 11 (by decide)) (1)).trans (((congrFun (e50 11 (by decide)) (1)).trans (Eq.trans (congrFun (upd2_ne (by decide)) (1)) (Eq.trans (congrFun (upd2_ne (by decide)) (1)) (((congrFun (e46 11 (by decide)) (1)).trans (((congrFun (e42 11 (by decide)) (1)).trans (((congrFun (e38 11 (by decide)) (1)).trans (Eq.trans (congrFun (upd2_ne (by decide)) (1)) (Eq.trans (congrFun (upd2_ne (by decide)) (1)) (((congrFun (e34 11 (by decide)) (1)).trans (((congrFun (e30 11 (by decide)) (1)).trans (((congrFun (e26 11 (by decide)) (1)).trans (Eq.trans (congrFun (upd2_ne (by decide)) (1)) (Eq.trans (congrFun (upd2_ne (by decide)) (1)) (((congrFun (e22 11 (by decide)) (1)).trans (((congrFun (e18 11 (by decide)) (1)).trans (((congrFun (e14 11 (by decide)) (1)).trans (Eq.trans (congrFun (upd2_ne (by decide)) (1)) (Eq.trans (congrFun (upd2_ne (by decide)) (1)) (((congrFun (e10 11 (by decide)) (1)).trans (((congrFun (e6 11 (by decide)) (1)).trans (((congrFun (e2 11 (by decide)) (1)).trans (Eq.trans (congrFun (upd2_ne (by decide)) (1)) (Eq.trans (congrFun (upd2_ne (by decide)) (1)) (f6))))))))))))))))))))))))))))))))))))))))))))))))))))))))))))))))))), (((congrFun (fr103 11 (by decide)) (0)).trans (Eq.trans (congrFun (upd2_ne (by decide)) (0)) (Eq.trans (congrFun (upd2_ne (by decide)) (0)) (Eq.trans (congrFun (upd2_ne (by decide)) (0)) (Eq.trans (congrFun (upd2_ne (by decide)) (0)) (((congrFun (e98 11 (by decide)) (0)).trans (((congrFun (e94 11 (by decide)) (0)).trans (((congrFun (e90 11 (by decide)) (0)).trans (((congrFun (e86 11 (by decide)) (0)).trans (((congrFun (e82 11 (by decide)) (0)).trans (((congrFun (e78 11 (by decide)) (0)).trans (((congrFun (e74 11 (by decide)) (0)).trans (((congrFun (e70 11 (by decide)) (0)).trans (((congrFun (e66 11 (by decide)) (0)).trans (((congrFun (e62 11 (by decide)) (0)).trans (((congrFun (e58 11 (by decide)) (0)).trans (((congrFun (e54 11 (by decide)) (0)).trans (((congrFun (e50 11 (by decide)) (0)).trans (Eq.trans (congrFun (upd2_ne (by decide)) (0)) (Eq.trans (congrFun (upd2_ne (by decide)) (0)) (((congrFun (e46 11 (by decide)) (0)).trans (((congrFun (e42 11 (by decide)) (0)).trans (((congrFun (e38 11 (by decide)) (0)).trans (Eq.trans (congrFun (upd2_ne (by decide)) (0)) (Eq.trans (congrFun (upd2_ne (by decide)) (0)) (((congrFun (e34 11 (by decide)) (0)).trans (((congrFun (e30 11 (by decide)) (0)).trans (((congrFun (e26 11 (by decide)) (0)).trans (Eq.trans (congrFun (upd2_ne (by decide)) (0)) (Eq.trans (congrFun (upd2_ne (by decide)) (0)) (((congrFun (e22 11 (by decide)) (0)).trans (((congrFun (e18 11 (by decide)) (0)).trans (((congrFun (e14 11 (by decide)) (0)).trans (Eq.trans (congrFun (upd2_ne (by decide)) (0)) (Eq.trans (congrFun (upd2_ne (by decide)) (0)) (((congrFun (e10 11 (by decide)) (0)).trans (((congrFun (e6 11 (by decide)) (0)).trans (((congrFun (e2 11 (by decide)) (0)).trans (Eq.trans (congrFun (upd2_ne (by decide)) (0)) (Eq.trans (congrFun (upd2_ne (by decide)) (0)) (f7))))))))))))))))))))))))))))))))))))))))))))))))))))))))))))))))))), fun j hj a1 a2 a3 => (((congrFun (fr103 11 (by decide)) (j)).trans (Eq.trans (congrFun (upd2_ne (by decide)) (j)) (Eq.trans (congrFun (upd2_ne (by decide)) (j)) (Eq.trans (congrFun (upd2_ne (by decide)) (j)) (Eq.trans (congrFun (upd2_ne (by decide)) (j)) (((congrFun (e98 11 (by decide)) (j)).trans (((congrFun (e94 11 (by decide)) (j)).trans (((congrFun (e90 11 (by decide)) (j)).trans (((congrFun (e86 11 (by decide)) (j)).trans (((congrFun (e82 11 (by decide)) (j)).trans (((congrFun (e78 11 (by decide)) (j)).trans (((congrFun (e74 11 (by decide)) (j)).trans (((congrFun (e70 11 (by decide)) (j)).trans (((congrFun (e66 11 (by decide)) (j)).trans (((congrFun (e62 11 (by decide)) (j)).trans (((congrFun (e58 11 (by decide)) (j)).trans (((congrFun (e54 11 (by decide)) (j)).trans (((congrFun (e50 11 (by decide)) (j)).trans (Eq.trans (congrFun (upd2_ne (by decide)) (j)) (Eq.trans (congrFun (upd2_ne (by decide)) (j)) (((congrFun (e46 11 (by decide)) (j)).trans (((congrFun (e42 11 (by decide)) (j)).trans (((congrFun (e38 11 (by decide)) (j)).trans (Eq.trans (congrFun (upd2_ne (by decide)) (j)) (Eq.trans (congrFun (upd2_ne (by decide)) (j)) (((congrFun (e34 11 (by decide)) (j)).trans (((congrFun (e30 11 (by decide)) (j)).trans (((congrFun (e26 11 (by decide)) (j)).trans (Eq.trans (congrFun (upd2_ne (by decide)) (j)) (Eq.trans (congrFun (upd2_ne (by decide)) (j)) (((congrFun (e22 11 (by decide)) (j)).trans (((congrFun (e18 11 (by decide)) (j)).trans (((congrFun (e14 11 (by decide)) (j)).trans (Eq.trans (congrFun (upd2_ne (by decide)) (j)) (Eq.trans (congrFun (upd2_ne (by decide)) (j)) (((congrFun (e10 11 (by decide)) (j)).trans (((congrFun (e6 11 (by decide)) (j)).trans (((congrFun (e2 11 (by decide)) (j)).trans (Eq.trans (congrFun (upd2_ne (by decide)) (j)) (Eq.trans (congrFun (upd2_ne (by decide)) (j)) ((f8 (j) (by omega) (by omega) (by omega) (by omega))))))))))))))))))))))))))))))))))))))))))))))))))))))))))))))))))))), (((congrFun (fr103 16 (by decide)) (4)).trans (Eq.trans (congrFun (upd2_ne (by decide)) (4)) (Eq.trans (congrFun (upd2_ne (by decide)) (4)) (Eq.trans (congrFun (upd2_ne (by decide)) (4)) (Eq.trans (congrFun (upd2_ne (by decide)) (4)) (((congrFun (e98 16 (by decide)) (4)).trans (((congrFun (e94 16 (by decide)) (4)).trans (((congrFun (e90 16 (by decide)) (4)).trans (((congrFun (e86 16 (by decide)) (4)).trans (((congrFun (e82 16 (by decide)) (4)).trans (((congrFun (e78 16 (by decide)) (4)).trans (((congrFun (e74 16 (by decide)) (4)).trans (((congrFun (e70 16 (by decide)) (4)).trans (((congrFun (e66 16 (by decide)) (4)).trans (((congrFun (e62 16 (by decide)) (4)).trans (((congrFun (e58 16 (by decide)) (4)).trans (((congrFun (e54 16 (by decide)) (4)).trans (((congrFun (e50 16 (by decide)) (4)).trans (Eq.trans (congrFun (upd2_ne (by decide)) (4)) (Eq.trans (congrFun (upd2_ne (by decide)) (4)) (((congrFun (e46 16 (by decide)) (4)).trans (((congrFun (e42 16 (by decide)) (4)).trans (((congrFun (e38 16 (by decide)) (4)).trans (Eq.trans (congrFun (upd2_ne (by decide)) (4)) (Eq.trans (congrFun (upd2_ne (by decide)) (4)) (((congrFun (e34 16 (by decide)) (4)).trans (((congrFun (e30 16 (by decide)) (4)).trans (((congrFun (e26 16 (by decide)) (4)).trans (Eq.trans (congrFun (upd2_ne (by decide)) (4)) (Eq.trans (congrFun (upd2_ne (by decide)) (4)) (((congrFun (e22 16 (by decide)) (4)).trans (((congrFun (e18 16 (by decide)) (4)).trans (((congrFun (e14 16 (by decide)) (4)).trans (Eq.trans (congrFun (upd2_ne (by decide)) (4)) (Eq.trans (congrFun (upd2_ne (by decide)) (4)) (((congrFun (e10 16 (by decide)) (4)).trans (((congrFun (e6 16 (by decide)) (4)).trans (((congrFun (e2 16 (by decide)) (4)).trans (Eq.trans (congrFun (upd2_ne (by decide)) (4)) (Eq.trans (congrFun (upd2_ne (by decide)) (4)) (f9))))))))))))))))))))))))))))))))))))))))))))))))))))))))))))))))))), (((congrFun (fr103 21 (by decide)) (4)).trans (Eq.trans (congrFun (upd2_ne (by decide)) (4)) (Eq.trans (congrFun (upd2_ne (by decide)) (4)) (Eq.trans (congrFun (upd2_ne (by decide)) (4)) (Eq.trans (congrFun (upd2_ne (by decide)) (4)) (((congrFun (e98 21 (by decide)) (4)).trans (((congrFun (e94 21 (by decide)) (4)).trans (((congrFun (e90 21 (by decide)) (4)).trans (((congrFun (e86 21 (by decide)) (4)).trans (((congrFun (e82 21 (by decide)) (4)).trans (((congrFun (e78 21 (by decide)) (4)).trans (((congrFun (e74 21 (by decide)) (4)).trans (((congrFun (e70 21 (by decide)) (4)).trans (((congrFun (e66 21 (by decide)) (4)).trans (((congrFun (e62 21 (by decide)) (4)).trans (((congrFun (e58 21 (by decide)) (4)).trans (((congrFun (e54 21 (by decide)) (4)).trans (((congrFun (e50 21 (by decide)) (4)).trans (Eq.trans (congrFun (upd2_ne (by decide)) (4)) (Eq.trans (congrFun (upd2_ne (by decide)) (4)) (((congrFun (e46 21 (by decide)) (4)).trans (((congrFun (e42 21 (by decide)) (4)).trans (((congrFun (e38 21 (by decide)) (4)).trans (Eq.trans (congrFun (upd2_ne (by decide)) (4)) (Eq.trans (congrFun (upd2_ne (by decide)) (4)) (((congrFun (e34 21 (by decide)) (4)).trans (((congrFun (e30 21 (by decide)) (4)).trans (((congrFun (e26 21 (by decide)) (4)).trans (Eq.trans (congrFun (upd2_ne (by decide)) (4)) (Eq.trans (congrFun (upd2_ne (by decide)) (4)) (((congrFun (e22 21 (by decide)) (4)).trans (((congrFun (e18 21 (by decide)) (4)).trans (((congrFun (e14 21 (by decide)) (4)).trans (Eq.trans (congrFun (upd2_ne (by decide)) (4)) (Eq.trans (congrFun (upd2_ne (by decide)) (4)) (((congrFun (e10 21 (by decide)) (4)).trans (((congrFun (e6 21 (by decide)) (4)).trans (((congrFun (e2 21 (by decide)) (4)).trans (Eq.trans (congrFun (upd2_ne (by decide)) (4)) (Eq.trans (congrFun (upd2_ne (by decide)) (4)) (f10))))))))))))))))))))))))))))))))))))))))))))))))))))))))))))))))))), (((congrFun (fr103 26 (by decide)) (4)).trans (Eq.trans (congrFun (upd2_ne (by decide)) (4)) (Eq.trans (congrFun (upd2_ne (by decide)) (4)) (Eq.trans (congrFun (upd2_ne (by decide)) (4)) (Eq.trans (congrFun (upd2_ne (by decide)) (4)) (((congrFun (e98 26 (by decide)) (4)).trans (((congrFun (e94 26 (by decide)) (4)).trans (((congrFun (e90 26 (by decide)) (4)).trans (((congrFun (e86 26 (by decide)) (4)).trans (((congrFun (e82 26 (by decide)) (4)).trans (((congrFun (e78 26 (by decide)) (4)).trans (((congrFun (e74 26 (by decide)) (4)).trans (((congrFun (e70 26 (by decide)) (4)).trans (((congrFun (e66 26 (by decide)) (4)).trans (((congrFun (e62 26 (by decide)) (4)).trans (((congrFun (e58 26 (by decide)) (4)).trans (((congrFun (e54 26 (by decide)) (4)).trans (((congrFun (e50 26 (by decide)) (4)).trans (Eq.trans (congrFun (upd2_ne (by decide)) (4)) (Eq.trans (congrFun (upd2_ne (by decide)) (4)) (((congrFun (e46 26 (by decide)) (4)).trans (((congrFun (e42 26 (by decide)) (4)).trans (((congrFun (e38 26 (by decide)) (4)).trans (Eq.trans (congrFun (upd2_ne (by decide)) (4)) (Eq.trans (congrFun (upd2_ne (by decide)) (4)) (((congrFun (e34 26 (by decide)) (4)).trans (((congrFun (e30 26 (by decide)) (4)).trans (((congrFun (e26 26 (by decide)) (4)).trans (Eq.trans (congrFun (upd2_ne (by decide)) (4)) (Eq.trans (congrFun (upd2_ne (by decide)) (4)) (((congrFun (e22 26 (by decide)) (4)).trans (((congrFun (e18 26 (by decide)) (4)).trans (((congrFun (e14 26 (by decide)) (4)).trans (Eq.trans (congrFun (upd2_ne (by decide)) (4)) (Eq.trans (congrFun (upd2_ne (by decide)) (4)) (((congrFun (e10 26 (by decide)) (4)).trans (((congrFun (e6 26 (by decide)) (4)).trans (((congrFun (e2 26 (by decide)) (4)).trans (Eq.trans (congrFun (upd2_ne (by decide)) (4)) (Eq.trans (congrFun (upd2_ne (by decide)) (4)) (f11))))))))))))))))))))))))))))))))))))))))))))))))))))))))))))))))))), (((congrFun (fr103 31 (by decide)) (4)).trans (Eq.trans (congrFun (upd2_ne (by decide)) (4)) (Eq.trans (congrFun (upd2_ne (by decide)) (4)) (Eq.trans (congrFun (upd2_ne (by decide)) (4)) (Eq.trans (congrFun (upd2_ne (by decide)) (4)) (((congrFun (e98 31 (by decide)) (4)).trans (((congrFun (e94 31 (by decide)) (4)).trans (((congrFun (e90 31 (by decide)) (4)).trans (((congrFun (e86 31 (by decide)) (4)).trans (((congrFun (e82 31 (by decide)) (4)).trans (((congrFun (e78 31 (by decide)) (4)).trans (((congrFun (e74 31 (by decide)) (4)).trans (((congrFun (e70 31 (by decide)) (4)).trans (((congrFun (e66 31 (by decide)) (4)).trans (((congrFun (e62 31 (by decide)) (4)).trans (((congrFun (e58 31 (by decide)) (4)).trans (((congrFun (e54 31 (by decide)) (4)).trans (((congrFun (e50 31 (by decide)) (4)).trans (Eq.trans (congrFun (upd2_ne (by decide)) (4)) (Eq.trans (congrFun (upd2_ne (by decide)) (4)) (((congrFun (e46 31 (by decide)) (4)).trans (((congrFun (e42 31 (by decide)) (4)).trans (((congrFun (e38 31 (by decide)) (4)).trans (Eq.trans (congrFun (upd2_ne (by decide)) (4)) (Eq.trans (congrFun (upd2_ne (by decide)) (4)) (((congrFun (e34 31 (by decide)) (4)).trans (((congrFun (e30 31 (by decide)) (4)).trans (((congrFun (e26 31 (by decide)) (4)).trans (Eq.trans (congrFun (upd2_ne (by decide)) (4)) (Eq.trans (congrFun (upd2_ne (by decide)) (4)) (((congrFun (e22 31 (by decide)) (4)).trans (((congrFun (e18 31 (by decide)) (4)).trans (((congrFun (e14 31 (by decide)) (4)).trans (Eq.trans (congrFun (upd2_ne (by decide)) (4)) (Eq.trans (congrFun (upd2_ne (by decide)) (4)) (((congrFun (e10 31 (by decide)) (4)).trans (((congrFun (e6 31 (by decide)) (4)).trans (((congrFun (e2 31 (by decide)) (4)).trans (Eq.trans (congrFun (upd2_ne (by decide)) (4)) (Eq.trans (congrFun (upd2_ne (by decide)) (4)) (f12))))))))))))))))))))))))))))))))))))))))))))))))))))))))))))))))))), (((congrFun (fr103 36 (by decide)) (4)).trans (Eq.trans (congrFun (upd2_ne (by decide)) (4)) (Eq.trans (congrFun (upd2_ne (by decide)) (4)) (Eq.trans (congrFun (upd2_ne (by decide)) (4)) (Eq.trans (congrFun (upd2_ne (by decide)) (4)) (((congrFun (e98 36 (by decide)) (4)).trans (((congrFun (e94 36 (by decide)) (4)).trans (((congrFun (e90 36 (by decide)) (4)).trans (((congrFun (e86 36 (by decide)) (4)).trans (((congrFun (e82 36 (by decide)) (4)).trans (((congrFun (e78 36 (by decide)) (4)).trans (((congrFun (e74 36 (by decide)) (4)).trans (((congrFun (e70 36 (by decide)) (4)).trans (((congrFun (e66 36 (by decide)) (4)).trans (((congrFun (e62 36 (by decide)) (4)).trans (((congrFun (e58 36 (by decide)) (4)).trans (((congrFun (e54 36 (by decide)) (4)).trans (((congrFun (e50 36 (by decide)) (4)).trans (Eq.trans (congrFun (upd2_ne (by decide)) (4)) (Eq.trans (congrFun (upd2_ne (by decide)) (4)) (((congrFun (e46 36 (by decide)) (4)).trans (((congrFun (e42 36 (by decide)) (4)).trans (((congrFun (e38 36 (by decide)) (4)).trans (Eq.trans (congrFun (upd2_ne (by decide)) (4)) (Eq.trans (congrFun (upd2_ne (by decide)) (4)) (((congrFun (e34 36 (by decide)) (4)).trans (((congrFun (e30 36 (by decide)) (4)).trans (((congrFun (e26 36 (by decide)) (4)).trans (Eq.trans (congrFun (upd2_ne (by decide)) (4)) (Eq.trans (congrFun (upd2_ne (by decide)) (4)) (((congrFun (e22 36 (by decide)) (4)).trans (((congrFun (e18 36 (by decide)) (4)).trans (((congrFun (e14 36 (by decide)) (4)).trans (Eq.trans (congrFun (upd2_ne (by decide)) (4)) (Eq.trans (congrFun (upd2_ne (by decide)) (4)) (((congrFun (e10 36 (by decide)) (4)).trans (((congrFun (e6 36 (by decide)) (4)).trans (((congrFun (e2 36 (by decide)) (4)).trans (Eq.trans (congrFun (upd2_ne (by decide)) (4)) (Eq.trans (congrFun (upd2_ne (by decide)) (4)) (f13))))))))))))))))))))))))))))))))))))))))))))))))))))))))))))))))))), (by omega)⟩) (((congrFun (fr103 129 (by decide)) (0)).trans (Eq.trans (congrFun (upd2_ne (by decide)) (0)) (Eq.trans (congrFun (upd2_ne (by decide)) (0)) (Eq.trans (congrFun (upd2_ne (by decide)) (0)) (Eq.trans (congrFun (upd2_ne (by decide)) (0)) (((congrFun (e98 129 (by decide)) (0)).trans (((congrFun (e94 129 (by decide)) (0)).trans (((congrFun (e90 129 (by decide)) (0)).trans (((congrFun (e86 129 (by decide)) (0)).trans (((congrFun (e82 129 (by decide)) (0)).trans (((congrFun (e78 129 (by decide)) (0)).trans (((congrFun (e74 129 (by decide)) (0)).trans (((congrFun (e70 129 (by decide)) (0)).trans (((congrFun (e66 129 (by decide)) (0)).trans (((congrFun (e62 129 (by decide)) (0)).trans (((congrFun (e58 129 (by decide)) (0)).trans (((congrFun (e54 129 (by decide)) (0)).trans (((congrFun (e50 129 (by decide)) (0)).trans (Eq.trans (congrFun (upd2_ne (by decide)) (0)) (Eq.trans (congrFun (upd2_ne (by decide)) (0)) (((congrFun (e46 129 (by decide)) (0)).trans (((congrFun (e42 129 (by decide)) (0)).trans (((congrFun (e38 129 (by decide)) (0)).trans (Eq.trans (congrFun (upd2_ne (by decide)) (0)) (Eq.trans (congrFun (upd2_ne (by decide)) (0)) (((congrFun (e34 129 (by decide)) (0)).trans (((congrFun (e30 129 (by decide)) (0)).trans (((congrFun (e26 129 (by decide)) (0)).trans (Eq.trans (congrFun (upd2_ne (by decide)) (0)) (Eq.trans (congrFun (upd2_ne (by decide)) (0)) (((congrFun (e22 129 (by decide)) (0)).trans (((congrFun (e18 129 (by decide)) (0)).trans (((congrFun (e14 129 (by decide)) (0)).trans (Eq.trans (congrFun (upd2_ne (by decide)) (0)) (Eq.trans (congrFun (upd2_ne (by decide)) (0)) (((congrFun (e10 129 (by decide)) (0)).trans (((congrFun (e6 129 (by decide)) (0)).trans (((congrFun (e2 129 (by decide)) (0)).trans (Eq.trans (congrFun (upd2_ne (by decide)) (0)) (Eq.trans (congrFun (upd2_ne (by decide)) (0)) (g0))))))))))))))))))))))))))))))))))))))))))))))))))))))))))))))))))) (((congrFun (fr103 129 (by decide)) (1)).trans (Eq.trans (congrFun (upd2_ne (by decide)) (1)) (Eq.trans (congrFun (upd2_ne (by decide)) (1)) (Eq.trans (congrFun (upd2_ne (by decide)) (1)) (Eq.trans (congrFun (upd2_ne (by decide)) (1)) (((congrFun (e98 129 (by decide)) (1)).trans (((congrFun (e94 129 (by decide)) (1)).trans (((congrFun (e90 129 (by decide)) (1)).trans (((congrFun (e86 129 (by decide)) (1)).trans (((congrFun (e82 129 (by decide)) (1)).trans (((congrFun (e78 129 (by decide)) (1)).trans (((congrFun (e74 129 (by decide)) (1)).trans (((congrFun (e70 129 (by decide)) (1)).trans (((congrFun (e66 129 (by decide)) (1)).trans (((congrFun (e62 129 (by decide)) (1)).trans (((congrFun (e58 129 (by decide)) (1)).trans (((congrFun (e54 129 (by decide)) (1)).trans (((congrFun (e50 129 (by decide)) (1)).trans (Eq.trans (congrFun (upd2_ne (by decide)) (1)) (Eq.trans (congrFun (upd2_ne (by decide)) (1)) (((congrFun (e46 129 (by decide)) (1)).trans (((congrFun (e42 129 (by decide)) (1)).trans (((congrFun (e38 129 (by decide)) (1)).trans (Eq.trans (congrFun (upd2_ne (by decide)) (1)) (Eq.trans (congrFun (upd2_ne (by decide)) (1)) (((congrFun (e34 129 (by decide)) (1)).trans (((congrFun (e30 129 (by decide)) (1)).trans (((congrFun (e26 129 (by decide)) (1)).trans (Eq.trans (congrFun (upd2_ne (by decide)) (1)) (Eq.trans (congrFun (upd2_ne (by decide)) (1)) (((congrFun (e22 129 (by decide)) (1)).trans (((congrFun (e18 129 (by decide)) (1)).trans (((congrFun (e14 129 (by decide)) (1)).trans (Eq.trans (congrFun (upd2_ne (by decide)) (1)) (Eq.trans (congrFun (upd2_ne (by decide)) (1)) (((congrFun (e10 129 (by decide)) (1)).trans (((congrFun (e6 129 (by decide)) (1)).trans (((congrFun (e2 129 (by decide)) (1)).trans (Eq.trans (congrFun (upd2_ne (by decide)) (1)) (Eq.trans (congrFun (upd2_ne (by decide)) (1)) (g1))))))))))))))))))))))))))))))))))))))))))))))))))))))))))))))))))) (((congrFun (fr103 129 (by decide)) (2)).trans (Eq.trans (congrFun (upd2_ne (by decide)) (2)) (Eq.trans (congrFun (upd2_ne (by decide)) (2)) (Eq.trans (congrFun (upd2_ne (by decide)) (2)) (Eq.trans (congrFun (upd2_ne (by decide)) (2)) (((congrFun (e98 129 (by decide)) (2)).trans (((congrFun (e94 129 (by decide)) (2)).trans (((congrFun (e90 129 (by decide)) (2)).trans (((congrFun (e86 129 (by decide)) (2)).trans (((congrFun (e82 129 (by decide)) (2)).trans (((congrFun (e78 129 (by decide)) (2)).trans (((congrFun (e74 129 (by decide)) (2)).trans (((congrFun (e70 129 (by decide)) (2)).trans (((congrFun (e66 129 (by decide)) (2)).trans (((congrFun (e62 129 (by decide)) (2)).trans (((congrFun (e58 129 (by decide)) (2)).trans (((congrFun (e54 129 (by decide)) (2)).trans (((congrFun (e50 129 (by decide)) (2)).trans (Eq.trans (congrFun (upd2_ne (by decide)) (2)) (Eq.trans (congrFun (upd2_ne (by decide)) (2)) (((congrFun (e46 129 (by decide)) (2)).trans (((congrFun (e42 129 (by decide)) (2)).trans (((congrFun (e38 129 (by decide)) (2)).trans (Eq.trans (congrFun (upd2_ne (by decide)) (2)) (Eq.trans (congrFun (upd2_ne (by decide)) (2)) (((congrFun (e34 129 (by decide)) (2)).trans (((congrFun (e30 129 (by decide)) (2)).trans (((congrFun (e26 129 (by decide)) (2)).trans (Eq.trans (congrFun (upd2_ne (by decide)) (2)) (Eq.trans (congrFun (upd2_ne (by decide)) (2)) (((congrFun (e22 129 (by decide)) (2)).trans (((congrFun (e18 129 (by decide)) (2)).trans (((congrFun (e14 129 (by decide)) (2)).trans (Eq.trans (congrFun (upd2_ne (by decide)) (2)) (Eq.trans (congrFun (upd2_ne (by decide)) (2)) (((congrFun (e10 129 (by decide)) (2)).trans (((congrFun (e6 129 (by decide)) (2)).trans (((congrFun (e2 129 (by decide)) (2)).trans (Eq.trans (congrFun (upd2_ne (by decide)) (2)) (Eq.trans (congrFun (upd2_ne (by decide)) (2)) (g2)))))))))))))))))))))))))))))))))))))))))))))))))))))))))))))))))))
set_option maxRecDepth 20000 in
theorem sp_bestSet {K2 : K2T} {I : Nat → Nat → Int32} {n0 : Nat} {what : Int32} (hn0 : n0 ≤ 20) (hw : 0 ≤ what.toInt ∧ what.toInt ≤ 2) (hg : ∀ I', (what.toInt = 0 → K2 (some (.int (nI 0))) I') ∧ (what.toInt = 1 → K2 (some (.int (nI (n0 * 4)))) I') ∧ (what.toInt = 2 → K2 (some (.int (nI 0))) I')) (hF : FH 1 I 4 0 0 0) : Ss l b 10 y_M_bestSet KC RC [.ref 81, .ref 1, .int (nI (n0)), .int (what)] (I) K2 := by
  have hF0 := hF
  obtain ⟨f0, f1, f2, f3, f4, f5, f6, f7, f8, f9, f10, f11, f12, f13, fb⟩ := hF
  have f0 : ∀ j, j < 32 → I 5 j = nI 0 := f0
  have f1 : ∀ j, j < 6 → I 9 j = nI 0 := f1
  have f2 : ∀ j, j < 6 → I 10 j = nI 9 := f2
  have f3 : I 2 0 = nI (4) := f3
  have f4 : I 2 3 = nI 0 := f4
  have f5 : I 2 5 = nI (0) := f5
  have f6 : I 11 1 = nI (0) := f6
  have f7 : I 11 0 = nI (0) := f7
  have f8 : ∀ j, j < 40 → j ≠ 0 → j ≠ 1 → j ≠ 3 → I 11 j = nI 0 := f8
  have f9 : I 16 4 = nI 0 := f9
  have f10 : I 21 4 = nI 0 := f10
  have f11 : I 26 4 = nI 0 := f11
  have f12 : I 31 4 = nI 0 := f12
  have f13 : I 36 4 = nI 0 := f13
  refine Ss.of (show As l b 10 y_M_bestSet KC RC K2 (I) 0 [.ref 81, .ref 1, .int (nI (n0)), .int (what), uu, uu, uu] [] from ?_)
  refine aw_iconst (v := nI 0) ci_0 d_M_bestSet_0 ?_
  refine aw_istore (lv2 := [.ref 81, .ref 1, .int (nI (n0)), .int (what), .int (nI 0), uu, uu]) (by decide) rfl d_M_bestSet_1 ?_
  refine aw_iload rfl d_M_bestSet_3 ?_
  refine aw_bipush (v := nI 16) cb_16 d_M_bestSet_5 ?_
  refine aw_icmp_geI (tgt := 124) (0) (16) (by decide +kernel) (by decide +kernel) (by decide) d_M_bestSet_7 (fun q => absurd q (by decide)) (fun _ => ?_)
  refine aw_aload_n rfl rfl d_M_bestSet_10 ?_
  refine aw_getr fl_M_12 kc_81 (by decide) rfl rc_81_0 d_M_bestSet_11 ?_
  refine aw_aload_n rfl rfl d_M_bestSet_14 ?_
  refine as_callV (as := [.ref 1]) (d' := 9) (q := ("SinglesUp$Hill", zT2, 14)) mo_H_copyFrom lk_M_29 kc_82 rfl rfl rfl ⟨by decide, by decide⟩ rfl rfl (by decide) d_M_bestSet_15 (Ss.of (show As l b 9 y_H_copyFrom KC RC _ (I) 0 [.ref 82, .ref 1, uu] [] from ?_))
  refine aw_iconst (v := nI 0) ci_0 d_H_copyFrom_0 ?_
  refine aw_istore_n (lv2 := [.ref 82, .ref 1, .int (nI 0)]) rfl (by decide) rfl d_H_copyFrom_1 ?_
  refine aw_iload_n rfl rfl d_H_copyFrom_2 ?_
  refine aw_aload_n rfl rfl d_H_copyFrom_3 ?_
  refine aw_getr fl_H_17 kc_82 (by decide) rfl rc_82_1 d_H_copyFrom_4 ?_
  refine aw_alen kc_84 (by decide) d_H_copyFrom_7 ?_
  refine aw_icmp_geI (tgt := 41) (0) (5) (by decide +kernel) (by decide +kernel) (by decide) d_H_copyFrom_8 (fun q => absurd q (by decide)) (fun _ => ?_)
  refine aw_iload_n rfl rfl d_H_copyFrom_11 ?_
  refine aw_aload_n rfl rfl d_H_copyFrom_12 ?_
  refine aw_getr fl_H_17 kc_1 (by decide) rfl rc_1_1 d_H_copyFrom_13 ?_
  refine aw_alen kc_3 (by decide) d_H_copyFrom_16 ?_
  refine aw_icmp_geI (tgt := 41) (0) (5) (by decide +kernel) (by decide +kernel) (by decide) d_H_copyFrom_17 (fun q => absurd q (by decide)) (fun _ => ?_)
  refine aw_aload_n rfl rfl d_H_copyFrom_20 ?_
  refine aw_getr fl_H_17 kc_82 (by decide) rfl rc_82_1 d_H_copyFrom_21 ?_
  refine aw_iload_n rfl rfl d_H_copyFrom_24 ?_
  refine aw_aald (j := 0) kc_84 (vp_in_nI (by decide) (by decide)) (nI_clamp (by decide)) rc_84_0 d_H_copyFrom_25 ?_
  refine aw_aload_n rfl rfl d_H_copyFrom_26 ?_
  refine aw_getr fl_H_17 kc_1 (by decide) rfl rc_1_1 d_H_copyFrom_27 ?_
  refine aw_iload_n rfl rfl d_H_copyFrom_30 ?_
  refine aw_aald (j := 0) kc_3 (vp_in_nI (by decide) (by decide)) (nI_clamp (by decide)) rc_3_0 d_H_copyFrom_31 ?_
  refine as_callV (as := [.ref 16]) (d' := 8) (q := ("SinglesUp$Law", zT3, 6)) mo_W_copyFrom lk_H_57 kc_97 rfl rfl rfl ⟨by decide, by decide⟩ rfl rfl (by decide) d_H_copyFrom_32 (Ss.of (show As l b 8 y_W_copyFrom KC RC _ (I) 0 [.ref 97, .ref 16] [] from ?_))
  refine aw_aload_n rfl rfl d_W_copyFrom_0 ?_
  refine aw_aload_n rfl rfl d_W_copyFrom_1 ?_
  refine aw_geti fl_W_22 kc_16 (by decide) rfl d_W_copyFrom_2 ?_
  refine aw_puti fl_W_22 kc_97 (by decide) rfl rfl rfl rfl d_W_copyFrom_5 ?_
  refine aw_aload_n rfl rfl d_W_copyFrom_8 ?_
  refine aw_aload_n rfl rfl d_W_copyFrom_9 ?_
  refine aw_geti fl_W_26 kc_16 (by decide) rfl d_W_copyFrom_10 ?_
  refine aw_top (x2 := nI 0) (Eq.trans (congrFun (upd2_ne (by decide)) (4)) (f9)) ?_
  refine aw_puti fl_W_26 kc_97 (by decide) rfl rfl rfl rfl d_W_copyFrom_13 ?_
  refine aw_aload_n rfl rfl d_W_copyFrom_16 ?_
  refine aw_getr fl_W_9 kc_16 (by decide) rfl rc_16_0 d_W_copyFrom_17 ?_
  refine aw_iconst (v := nI 0) ci_0 d_W_copyFrom_20 ?_
  refine aw_aload_n rfl rfl d_W_copyFrom_21 ?_
  refine aw_getr fl_W_9 kc_97 (by decide) rfl rc_97_0 d_W_copyFrom_22 ?_
  refine aw_iconst (v := nI 0) ci_0 d_W_copyFrom_25 ?_
  refine aw_sipush (v := nI 400) cs_400 d_W_copyFrom_26 ?_
  refine as_copy0 (n := 400) lka_W_29 ac_nat ac_sta ac_ini kc_17 kc_98 (by omega) (by omega) (by omega) (by decide) rfl d_W_copyFrom_29 (fun J1 e2 e3 e4 => ?_)
  refine aw_aload_n rfl rfl d_W_copyFrom_32 ?_
  refine aw_getr fl_W_13 kc_16 (by decide) rfl rc_16_2 d_W_copyFrom_33 ?_
  refine aw_iconst (v := nI 0) ci_0 d_W_copyFrom_36 ?_
  refine aw_aload_n rfl rfl d_W_copyFrom_37 ?_
  refine aw_getr fl_W_13 kc_97 (by decide) rfl rc_97_2 d_W_copyFrom_38 ?_
  refine aw_iconst (v := nI 0) ci_0 d_W_copyFrom_41 ?_
  refine aw_bipush (v := nI 17) cb_17 d_W_copyFrom_42 ?_
  refine as_copy0 (n := 17) lka_W_29 ac_nat ac_sta ac_ini kc_18 kc_99 (by omega) (by omega) (by omega) (by decide) rfl d_W_copyFrom_44 (fun J5 e6 e7 e8 => ?_)
  refine aw_aload_n rfl rfl d_W_copyFrom_47 ?_
  refine aw_getr fl_W_16 kc_16 (by decide) rfl rc_16_3 d_W_copyFrom_48 ?_
  refine aw_iconst (v := nI 0) ci_0 d_W_copyFrom_51 ?_
  refine aw_aload_n rfl rfl d_W_copyFrom_52 ?_
  refine aw_getr fl_W_16 kc_97 (by decide) rfl rc_97_3 d_W_copyFrom_53 ?_
  refine aw_iconst (v := nI 0) ci_0 d_W_copyFrom_56 ?_
  refine aw_bipush (v := nI 16) cb_16 d_W_copyFrom_57 ?_
  refine as_copy0 (n := 16) lka_W_29 ac_nat ac_sta ac_ini kc_19 kc_100 (by omega) (by omega) (by omega) (by decide) rfl d_W_copyFrom_59 (fun J9 e10 e11 e12 => ?_)
  refine as_retv rfl d_W_copyFrom_62 ?_
  refine (show As l b 9 y_H_copyFrom KC RC _ (J9) 35 [.ref 82, .ref 1, .int (nI 0)] [] from ?_)
  refine aw_iinc (v := nI 1) (lv2 := [.ref 82, .ref 1, .int (nI 1)]) rfl (by decide +kernel) (by decide) rfl d_H_copyFrom_35 ?_
  refine aw_goto (tgt := 2) (by decide) d_H_copyFrom_38 ?_
  refine aw_iload_n rfl rfl d_H_copyFrom_2 ?_
  refine aw_aload_n rfl rfl d_H_copyFrom_3 ?_
  refine aw_getr fl_H_17 kc_82 (by decide) rfl rc_82_1 d_H_copyFrom_4 ?_
  refine aw_alen kc_84 (by decide) d_H_copyFrom_7 ?_
  refine aw_icmp_geI (tgt := 41) (1) (5) (by decide +kernel) (by decide +kernel) (by decide) d_H_copyFrom_8 (fun q => absurd q (by decide)) (fun _ => ?_)
  refine aw_iload_n rfl rfl d_H_copyFrom_11 ?_
  refine aw_aload_n rfl rfl d_H_copyFrom_12 ?_
  refine aw_getr fl_H_17 kc_1 (by decide) rfl rc_1_1 d_H_copyFrom_13 ?_
  refine aw_alen kc_3 (by decide) d_H_copyFrom_16 ?_
  refine aw_icmp_geI (tgt := 41) (1) (5) (by decide +kernel) (by decide +kernel) (by decide) d_H_copyFrom_17 (fun q => absurd q (by decide)) (fun _ => ?_)
  refine aw_aload_n rfl rfl d_H_copyFrom_20 ?_
  refine aw_getr fl_H_17 kc_82 (by decide) rfl rc_82_1 d_H_copyFrom_21 ?_
  refine aw_iload_n rfl rfl d_H_copyFrom_24 ?_
  refine aw_aald (j := 1) kc_84 (vp_in_nI (by decide) (by decide)) (nI_clamp (by decide)) rc_84_1 d_H_copyFrom_25 ?_
  refine aw_aload_n rfl rfl d_H_copyFrom_26 ?_
  refine aw_getr fl_H_17 kc_1 (by decide) rfl rc_1_1 d_H_copyFrom_27 ?_
  refine aw_iload_n rfl rfl d_H_copyFrom_30 ?_
  refine aw_aald (j := 1) kc_3 (vp_in_nI (by decide) (by decide)) (nI_clamp (by decide)) rc_3_1 d_H_copyFrom_31 ?_
  refine as_callV (as := [.ref 21]) (d' := 8) (q := ("SinglesUp$Law", zT3, 6)) mo_W_copyFrom lk_H_57 kc_102 rfl rfl rfl ⟨by decide, by decide⟩ rfl rfl (by decide) d_H_copyFrom_32 (Ss.of (show As l b 8 y_W_copyFrom KC RC _ (J9) 0 [.ref 102, .ref 21] [] from ?_))
  refine aw_aload_n rfl rfl d_W_copyFrom_0 ?_
  refine aw_aload_n rfl rfl d_W_copyFrom_1 ?_
  refine aw_geti fl_W_22 kc_21 (by decide) rfl d_W_copyFrom_2 ?_
  refine aw_puti fl_W_22 kc_102 (by decide) rfl rfl rfl rfl d_W_copyFrom_5 ?_
  refine aw_aload_n rfl rfl d_W_copyFrom_8 ?_
  refine aw_aload_n rfl rfl d_W_copyFrom_9 ?_
  refine aw_geti fl_W_26 kc_21 (by decide) rfl d_W_copyFrom_10 ?_
  refine aw_top (x2 := nI 0) (Eq.trans (congrFun (upd2_ne (by decide)) (4)) (((congrFun (e10 21 (by decide)) (4)).trans (((congrFun (e6 21 (by decide)) (4)).trans (((congrFun (e2 21 (by decide)) (4)).trans (Eq.trans (congrFun (upd2_ne (by decide)) (4)) (Eq.trans (congrFun (upd2_ne (by decide)) (4)) (f10)))))))))) ?_
  refine aw_puti fl_W_26 kc_102 (by decide) rfl rfl rfl rfl d_W_copyFrom_13 ?_
  refine aw_aload_n rfl rfl d_W_copyFrom_16 ?_
  refine aw_getr fl_W_9 kc_21 (by decide) rfl rc_21_0 d_W_copyFrom_17 ?_
  refine aw_iconst (v := nI 0) ci_0 d_W_copyFrom_20 ?_
  refine aw_aload_n rfl rfl d_W_copyFrom_21 ?_
  refine aw_getr fl_W_9 kc_102 (by decide) rfl rc_102_0 d_W_copyFrom_22 ?_
  refine aw_iconst (v := nI 0) ci_0 d_W_copyFrom_25 ?_
  refine aw_sipush (v := nI 400) cs_400 d_W_copyFrom_26 ?_
  refine as_copy0 (n := 400) lka_W_29 ac_nat ac_sta ac_ini kc_22 kc_103 (by omega) (by omega) (by omega) (by decide) rfl d_W_copyFrom_29 (fun J13 e14 e15 e16 => ?_)
  refine aw_aload_n rfl rfl d_W_copyFrom_32 ?_
  refine aw_getr fl_W_13 kc_21 (by decide) rfl rc_21_2 d_W_copyFrom_33 ?_
  refine aw_iconst (v := nI 0) ci_0 d_W_copyFrom_36 ?_
  refine aw_aload_n rfl rfl d_W_copyFrom_37 ?_
  refine aw_getr fl_W_13 kc_102 (by decide) rfl rc_102_2 d_W_copyFrom_38 ?_
  refine aw_iconst (v := nI 0) ci_0 d_W_copyFrom_41 ?_
  refine aw_bipush (v := nI 17) cb_17 d_W_copyFrom_42 ?_
  refine as_copy0 (n := 17) lka_W_29 ac_nat ac_sta ac_ini kc_23 kc_104 (by omega) (by omega) (by omega) (by decide) rfl d_W_copyFrom_44 (fun J17 e18 e19 e20 => ?_)
  refine aw_aload_n rfl rfl d_W_copyFrom_47 ?_
  refine aw_getr fl_W_16 kc_21 (by decide) rfl rc_21_3 d_W_copyFrom_48 ?_
  refine aw_iconst (v := nI 0) ci_0 d_W_copyFrom_51 ?_
  refine aw_aload_n rfl rfl d_W_copyFrom_52 ?_
  refine aw_getr fl_W_16 kc_102 (by decide) rfl rc_102_3 d_W_copyFrom_53 ?_
  refine aw_iconst (v := nI 0) ci_0 d_W_copyFrom_56 ?_
  refine aw_bipush (v := nI 16) cb_16 d_W_copyFrom_57 ?_
  refine as_copy0 (n := 16) lka_W_29 ac_nat ac_sta ac_ini kc_24 kc_105 (by omega) (by omega) (by omega) (by decide) rfl d_W_copyFrom_59 (fun J21 e22 e23 e24 => ?_)
  refine as_retv rfl d_W_copyFrom_62 ?_
  refine (show As l b 9 y_H_copyFrom KC RC _ (J21) 35 [.ref 82, .ref 1, .int (nI 1)] [] from ?_)
  refine aw_iinc (v := nI 2) (lv2 := [.ref 82, .ref 1, .int (nI 2)]) rfl (by decide +kernel) (by decide) rfl d_H_copyFrom_35 ?_
  refine aw_goto (tgt := 2) (by decide) d_H_copyFrom_38 ?_
  refine aw_iload_n rfl rfl d_H_copyFrom_2 ?_
  refine aw_aload_n rfl rfl d_H_copyFrom_3 ?_
  refine aw_getr fl_H_17 kc_82 (by decide) rfl rc_82_1 d_H_copyFrom_4 ?_
  refine aw_alen kc_84 (by decide) d_H_copyFrom_7 ?_
  refine aw_icmp_geI (tgt := 41) (2) (5) (by decide +kernel) (by decide +kernel) (by decide) d_H_copyFrom_8 (fun q => absurd q (by decide)) (fun _ => ?_)
  refine aw_iload_n rfl rfl d_H_copyFrom_11 ?_
  refine aw_aload_n rfl rfl d_H_copyFrom_12 ?_
  refine aw_getr fl_H_17 kc_1 (by decide) rfl rc_1_1 d_H_copyFrom_13 ?_
  refine aw_alen kc_3 (by decide) d_H_copyFrom_16 ?_
  refine aw_icmp_geI (tgt := 41) (2) (5) (by decide +kernel) (by decide +kernel) (by decide) d_H_copyFrom_17 (fun q => absurd q (by decide)) (fun _ => ?_)
  refine aw_aload_n rfl rfl d_H_copyFrom_20 ?_
  refine aw_getr fl_H_17 kc_82 (by decide) rfl rc_82_1 d_H_copyFrom_21 ?_
  refine aw_iload_n rfl rfl d_H_copyFrom_24 ?_
  refine aw_aald (j := 2) kc_84 (vp_in_nI (by decide) (by decide)) (nI_clamp (by decide)) rc_84_2 d_H_copyFrom_25 ?_
  refine aw_aload_n rfl rfl d_H_copyFrom_26 ?_
  refine aw_getr fl_H_17 kc_1 (by decide) rfl rc_1_1 d_H_copyFrom_27 ?_
  refine aw_iload_n rfl rfl d_H_copyFrom_30 ?_
  refine aw_aald (j := 2) kc_3 (vp_in_nI (by decide) (by decide)) (nI_clamp (by decide)) rc_3_2 d_H_copyFrom_31 ?_
  refine as_callV (as := [.ref 26]) (d' := 8) (q := ("SinglesUp$Law", zT3, 6)) mo_W_copyFrom lk_H_57 kc_107 rfl rfl rfl ⟨by decide, by decide⟩ rfl rfl (by decide) d_H_copyFrom_32 (Ss.of (show As l b 8 y_W_copyFrom KC RC _ (J21) 0 [.ref 107, .ref 26] [] from ?_))
  refine aw_aload_n rfl rfl d_W_copyFrom_0 ?_
  refine aw_aload_n rfl rfl d_W_copyFrom_1 ?_
  refine aw_geti fl_W_22 kc_26 (by decide) rfl d_W_copyFrom_2 ?_
  refine aw_puti fl_W_22 kc_107 (by decide) rfl rfl rfl rfl d_W_copyFrom_5 ?_
  refine aw_aload_n rfl rfl d_W_copyFrom_8 ?_
  refine aw_aload_n rfl rfl d_W_copyFrom_9 ?_
  refine aw_geti fl_W_26 kc_26 (by decide) rfl d_W_copyFrom_10 ?_
  refine aw_top (x2 := nI 0) (Eq.trans (congrFun (upd2_ne (by decide)) (4)) (((congrFun (e22 26 (by decide)) (4)).trans (((congrFun (e18 26 (by decide)) (4)).trans (((congrFun (e14 26 (by decide)) (4)).trans (Eq.trans (congrFun (upd2_ne (by decide)) (4)) (Eq.trans (congrFun (upd2_ne (by decide)) (4)) (((congrFun (e10 26 (by decide)) (4)).trans (((congrFun (e6 26 (by decide)) (4)).trans (((congrFun (e2 26 (by decide)) (4)).trans (Eq.trans (congrFun (upd2_ne (by decide)) (4)) (Eq.trans (congrFun (upd2_ne (by decide)) (4)) (f11)))))))))))))))))) ?_
  refine aw_puti fl_W_26 kc_107 (by decide) rfl rfl rfl rfl d_W_copyFrom_13 ?_
  refine aw_aload_n rfl rfl d_W_copyFrom_16 ?_
  refine aw_getr fl_W_9 kc_26 (by decide) rfl rc_26_0 d_W_copyFrom_17 ?_
  refine aw_iconst (v := nI 0) ci_0 d_W_copyFrom_20 ?_
  refine aw_aload_n rfl rfl d_W_copyFrom_21 ?_
  refine aw_getr fl_W_9 kc_107 (by decide) rfl rc_107_0 d_W_copyFrom_22 ?_
  refine aw_iconst (v := nI 0) ci_0 d_W_copyFrom_25 ?_
  refine aw_sipush (v := nI 400) cs_400 d_W_copyFrom_26 ?_
  refine as_copy0 (n := 400) lka_W_29 ac_nat ac_sta ac_ini kc_27 kc_108 (by omega) (by omega) (by omega) (by decide) rfl d_W_copyFrom_29 (fun J25 e26 e27 e28 => ?_)
  refine aw_aload_n rfl rfl d_W_copyFrom_32 ?_
  refine aw_getr fl_W_13 kc_26 (by decide) rfl rc_26_2 d_W_copyFrom_33 ?_
  refine aw_iconst (v := nI 0) ci_0 d_W_copyFrom_36 ?_
  refine aw_aload_n rfl rfl d_W_copyFrom_37 ?_
  refine aw_getr fl_W_13 kc_107 (by decide) rfl rc_107_2 d_W_copyFrom_38 ?_
  refine aw_iconst (v := nI 0) ci_0 d_W_copyFrom_41 ?_
  refine aw_bipush (v := nI 17) cb_17 d_W_copyFrom_42 ?_
  refine as_copy0 (n := 17) lka_W_29 ac_nat ac_sta ac_ini kc_28 kc_109 (by omega) (by omega) (by omega) (by decide) rfl d_W_copyFrom_44 (fun J29 e30 e31 e32 => ?_)
  refine aw_aload_n rfl rfl d_W_copyFrom_47 ?_
  refine aw_getr fl_W_16 kc_26 (by decide) rfl rc_26_3 d_W_copyFrom_48 ?_
  refine aw_iconst (v := nI 0) ci_0 d_W_copyFrom_51 ?_
  refine aw_aload_n rfl rfl d_W_copyFrom_52 ?_
  refine aw_getr fl_W_16 kc_107 (by decide) rfl rc_107_3 d_W_copyFrom_53 ?_
  refine aw_iconst (v := nI 0) ci_0 d_W_copyFrom_56 ?_
  refine aw_bipush (v := nI 16) cb_16 d_W_copyFrom_57 ?_
  refine as_copy0 (n := 16) lka_W_29 ac_nat ac_sta ac_ini kc_29 kc_110 (by omega) (by omega) (by omega) (by decide) rfl d_W_copyFrom_59 (fun J33 e34 e35 e36 => ?_)
  refine as_retv rfl d_W_copyFrom_62 ?_
  refine (show As l b 9 y_H_copyFrom KC RC _ (J33) 35 [.ref 82, .ref 1, .int (nI 2)] [] from ?_)
  refine aw_iinc (v := nI 3) (lv2 := [.ref 82, .ref 1, .int (nI 3)]) rfl (by decide +kernel) (by decide) rfl d_H_copyFrom_35 ?_
  refine aw_goto (tgt := 2) (by decide) d_H_copyFrom_38 ?_
  refine aw_iload_n rfl rfl d_H_copyFrom_2 ?_
  refine aw_aload_n rfl rfl d_H_copyFrom_3 ?_
  refine aw_getr fl_H_17 kc_82 (by decide) rfl rc_82_1 d_H_copyFrom_4 ?_
  refine aw_alen kc_84 (by decide) d_H_copyFrom_7 ?_
  refine aw_icmp_geI (tgt := 41) (3) (5) (by decide +kernel) (by decide +kernel) (by decide) d_H_copyFrom_8 (fun q => absurd q (by decide)) (fun _ => ?_)
  refine aw_iload_n rfl rfl d_H_copyFrom_11 ?_
  refine aw_aload_n rfl rfl d_H_copyFrom_12 ?_
  refine aw_getr fl_H_17 kc_1 (by decide) rfl rc_1_1 d_H_copyFrom_13 ?_
  refine aw_alen kc_3 (by decide) d_H_copyFrom_16 ?_
  refine aw_icmp_geI (tgt := 41) (3) (5) (by decide +kernel) (by decide +kernel) (by decide) d_H_copyFrom_17 (fun q => absurd q (by decide)) (fun _ => ?_)
  refine aw_aload_n rfl rfl d_H_copyFrom_20 ?_
  refine aw_getr fl_H_17 kc_82 (by decide) rfl rc_82_1 d_H_copyFrom_21 ?_
  refine aw_iload_n rfl rfl d_H_copyFrom_24 ?_
  refine aw_aald (j := 3) kc_84 (vp_in_nI (by decide) (by decide)) (nI_clamp (by decide)) rc_84_3 d_H_copyFrom_25 ?_
  refine aw_aload_n rfl rfl d_H_copyFrom_26 ?_
  refine aw_getr fl_H_17 kc_1 (by decide) rfl rc_1_1 d_H_copyFrom_27 ?_
  refine aw_iload_n rfl rfl d_H_copyFrom_30 ?_
  refine aw_aald (j := 3) kc_3 (vp_in_nI (by decide) (by decide)) (nI_clamp (by decide)) rc_3_3 d_H_copyFrom_31 ?_
  refine as_callV (as := [.ref 31]) (d' := 8) (q := ("SinglesUp$Law", zT3, 6)) mo_W_copyFrom lk_H_57 kc_112 rfl rfl rfl ⟨by decide, by decide⟩ rfl rfl (by decide) d_H_copyFrom_32 (Ss.of (show As l b 8 y_W_copyFrom KC RC _ (J33) 0 [.ref 112, .ref 31] [] from ?_))
  refine aw_aload_n rfl rfl d_W_copyFrom_0 ?_
  refine aw_aload_n rfl rfl d_W_copyFrom_1 ?_
  refine aw_geti fl_W_22 kc_31 (by decide) rfl d_W_copyFrom_2 ?_
  refine aw_puti fl_W_22 kc_112 (by decide) rfl rfl rfl rfl d_W_copyFrom_5 ?_
  refine aw_aload_n rfl rfl d_W_copyFrom_8 ?_
  refine aw_aload_n rfl rfl d_W_copyFrom_9 ?_
  refine aw_geti fl_W_26 kc_31 (by decide) rfl d_W_copyFrom_10 ?_
  refine aw_top (x2 := nI 0) (Eq.trans (congrFun (upd2_ne (by decide)) (4)) (((congrFun (e34 31 (by decide)) (4)).trans (((congrFun (e30 31 (by decide)) (4)).trans (((congrFun (e26 31 (by decide)) (4)).trans (Eq.trans (congrFun (upd2_ne (by decide)) (4)) (Eq.trans (congrFun (upd2_ne (by decide)) (4)) (((congrFun (e22 31 (by decide)) (4)).trans (((congrFun (e18 31 (by decide)) (4)).trans (((congrFun (e14 31 (by decide)) (4)).trans (Eq.trans (congrFun (upd2_ne (by decide)) (4)) (Eq.trans (congrFun (upd2_ne (by decide)) (4)) (((congrFun (e10 31 (by decide)) (4)).trans (((congrFun (e6 31 (by decide)) (4)).trans (((congrFun (e2 31 (by decide)) (4)).trans (Eq.trans (congrFun (upd2_ne (by decide)) (4)) (Eq.trans (congrFun (upd2_ne (by decide)) (4)) (f12)))))))))))))))))))))))))) ?_
  refine aw_puti fl_W_26 kc_112 (by decide) rfl rfl rfl rfl d_W_copyFrom_13 ?_
  refine aw_aload_n rfl rfl d_W_copyFrom_16 ?_
  refine aw_getr fl_W_9 kc_31 (by decide) rfl rc_31_0 d_W_copyFrom_17 ?_
  refine aw_iconst (v := nI 0) ci_0 d_W_copyFrom_20 ?_
  refine aw_aload_n rfl rfl d_W_copyFrom_21 ?_
  refine aw_getr fl_W_9 kc_112 (by decide) rfl rc_112_0 d_W_copyFrom_22 ?_
  refine aw_iconst (v := nI 0) ci_0 d_W_copyFrom_25 ?_
  refine aw_sipush (v := nI 400) cs_400 d_W_copyFrom_26 ?_
  refine as_copy0 (n := 400) lka_W_29 ac_nat ac_sta ac_ini kc_32 kc_113 (by omega) (by omega) (by omega) (by decide) rfl d_W_copyFrom_29 (fun J37 e38 e39 e40 => ?_)
  refine aw_aload_n rfl rfl d_W_copyFrom_32 ?_
  refine aw_getr fl_W_13 kc_31 (by decide) rfl rc_31_2 d_W_copyFrom_33 ?_
  refine aw_iconst (v := nI 0) ci_0 d_W_copyFrom_36 ?_
  refine aw_aload_n rfl rfl d_W_copyFrom_37 ?_
  refine aw_getr fl_W_13 kc_112 (by decide) rfl rc_112_2 d_W_copyFrom_38 ?_
  refine aw_iconst (v := nI 0) ci_0 d_W_copyFrom_41 ?_
  refine aw_bipush (v := nI 17) cb_17 d_W_copyFrom_42 ?_
  refine as_copy0 (n := 17) lka_W_29 ac_nat ac_sta ac_ini kc_33 kc_114 (by omega) (by omega) (by omega) (by decide) rfl d_W_copyFrom_44 (fun J41 e42 e43 e44 => ?_)
  refine aw_aload_n rfl rfl d_W_copyFrom_47 ?_
  refine aw_getr fl_W_16 kc_31 (by decide) rfl rc_31_3 d_W_copyFrom_48 ?_
  refine aw_iconst (v := nI 0) ci_0 d_W_copyFrom_51 ?_
  refine aw_aload_n rfl rfl d_W_copyFrom_52 ?_
  refine aw_getr fl_W_16 kc_112 (by decide) rfl rc_112_3 d_W_copyFrom_53 ?_
  refine aw_iconst (v := nI 0) ci_0 d_W_copyFrom_56 ?_
  refine aw_bipush (v := nI 16) cb_16 d_W_copyFrom_57 ?_
  refine as_copy0 (n := 16) lka_W_29 ac_nat ac_sta ac_ini kc_34 kc_115 (by omega) (by omega) (by omega) (by decide) rfl d_W_copyFrom_59 (fun J45 e46 e47 e48 => ?_)
  refine as_retv rfl d_W_copyFrom_62 ?_
  refine (show As l b 9 y_H_copyFrom KC RC _ (J45) 35 [.ref 82, .ref 1, .int (nI 3)] [] from ?_)
  refine aw_iinc (v := nI 4) (lv2 := [.ref 82, .ref 1, .int (nI 4)]) rfl (by decide +kernel) (by decide) rfl d_H_copyFrom_35 ?_
  refine aw_goto (tgt := 2) (by decide) d_H_copyFrom_38 ?_
  refine aw_iload_n rfl rfl d_H_copyFrom_2 ?_
  refine aw_aload_n rfl rfl d_H_copyFrom_3 ?_
  refine aw_getr fl_H_17 kc_82 (by decide) rfl rc_82_1 d_H_copyFrom_4 ?_
  refine aw_alen kc_84 (by decide) d_H_copyFrom_7 ?_
  refine aw_icmp_geI (tgt := 41) (4) (5) (by decide +kernel) (by decide +kernel) (by decide) d_H_copyFrom_8 (fun q => absurd q (by decide)) (fun _ => ?_)
  refine aw_iload_n rfl rfl d_H_copyFrom_11 ?_
  refine aw_aload_n rfl rfl d_H_copyFrom_12 ?_
  refine aw_getr fl_H_17 kc_1 (by decide) rfl rc_1_1 d_H_copyFrom_13 ?_
  refine aw_alen kc_3 (by decide) d_H_copyFrom_16 ?_
  refine aw_icmp_geI (tgt := 41) (4) (5) (by decide +kernel) (by decide +kernel) (by decide) d_H_copyFrom_17 (fun q => absurd q (by decide)) (fun _ => ?_)
  refine aw_aload_n rfl rfl d_H_copyFrom_20 ?_
  refine aw_getr fl_H_17 kc_82 (by decide) rfl rc_82_1 d_H_copyFrom_21 ?_
  refine aw_iload_n rfl rfl d_H_copyFrom_24 ?_
  refine aw_aald (j := 4) kc_84 (vp_in_nI (by decide) (by decide)) (nI_clamp (by decide)) rc_84_4 d_H_copyFrom_25 ?_
  refine aw_aload_n rfl rfl d_H_copyFrom_26 ?_
  refine aw_getr fl_H_17 kc_1 (by decide) rfl rc_1_1 d_H_copyFrom_27 ?_
  refine aw_iload_n rfl rfl d_H_copyFrom_30 ?_
  refine aw_aald (j := 4) kc_3 (vp_in_nI (by decide) (by decide)) (nI_clamp (by decide)) rc_3_4 d_H_copyFrom_31 ?_
  refine as_callV (as := [.ref 36]) (d' := 8) (q := ("SinglesUp$Law", zT3, 6)) mo_W_copyFrom lk_H_57 kc_117 rfl rfl rfl ⟨by decide, by decide⟩ rfl rfl (by decide) d_H_copyFrom_32 (Ss.of (show As l b 8 y_W_copyFrom KC RC _ (J45) 0 [.ref 117, .ref 36] [] from ?_))
  refine aw_aload_n rfl rfl d_W_copyFrom_0 ?_
  refine aw_aload_n rfl rfl d_W_copyFrom_1 ?_
  refine aw_geti fl_W_22 kc_36 (by decide) rfl d_W_copyFrom_2 ?_
  refine aw_puti fl_W_22 kc_117 (by decide) rfl rfl rfl rfl d_W_copyFrom_5 ?_
  refine aw_aload_n rfl rfl d_W_copyFrom_8 ?_
  refine aw_aload_n rfl rfl d_W_copyFrom_9 ?_
  refine aw_geti fl_W_26 kc_36 (by decide) rfl d_W_copyFrom_10 ?_
  refine aw_top (x2 := nI 0) (Eq.trans (congrFun (upd2_ne (by decide)) (4)) (((congrFun (e46 36 (by decide)) (4)).trans (((congrFun (e42 36 (by decide)) (4)).trans (((congrFun (e38 36 (by decide)) (4)).trans (Eq.trans (congrFun (upd2_ne (by decide)) (4)) (Eq.trans (congrFun (upd2_ne (by decide)) (4)) (((congrFun (e34 36 (by decide)) (4)).trans (((congrFun (e30 36 (by decide)) (4)).trans (((congrFun (e26 36 (by decide)) (4)).trans (Eq.trans (congrFun (upd2_ne (by decide)) (4)) (Eq.trans (congrFun (upd2_ne (by decide)) (4)) (((congrFun (e22 36 (by decide)) (4)).trans (((congrFun (e18 36 (by decide)) (4)).trans (((congrFun (e14 36 (by decide)) (4)).trans (Eq.trans (congrFun (upd2_ne (by decide)) (4)) (Eq.trans (congrFun (upd2_ne (by decide)) (4)) (((congrFun (e10 36 (by decide)) (4)).trans (((congrFun (e6 36 (by decide)) (4)).trans (((congrFun (e2 36 (by decide)) (4)).trans (Eq.trans (congrFun (upd2_ne (by decide)) (4)) (Eq.trans (congrFun (upd2_ne (by decide)) (4)) (f13)))))))))))))))))))))))))))))))))) ?_
  refine aw_puti fl_W_26 kc_117 (by decide) rfl rfl rfl rfl d_W_copyFrom_13 ?_
  refine aw_aload_n rfl rfl d_W_copyFrom_16 ?_
  refine aw_getr fl_W_9 kc_36 (by decide) rfl rc_36_0 d_W_copyFrom_17 ?_
  refine aw_iconst (v := nI 0) ci_0 d_W_copyFrom_20 ?_
  refine aw_aload_n rfl rfl d_W_copyFrom_21 ?_
  refine aw_getr fl_W_9 kc_117 (by decide) rfl rc_117_0 d_W_copyFrom_22 ?_
  refine aw_iconst (v := nI 0) ci_0 d_W_copyFrom_25 ?_
  refine aw_sipush (v := nI 400) cs_400 d_W_copyFrom_26 ?_
  refine as_copy0 (n := 400) lka_W_29 ac_nat ac_sta ac_ini kc_37 kc_118 (by omega) (by omega) (by omega) (by decide) rfl d_W_copyFrom_29 (fun J49 e50 e51 e52 => ?_)
  refine aw_aload_n rfl rfl d_W_copyFrom_32 ?_
  refine aw_getr fl_W_13 kc_36 (by decide) rfl rc_36_2 d_W_copyFrom_33 ?_
  refine aw_iconst (v := nI 0) ci_0 d_W_copyFrom_36 ?_
  refine aw_aload_n rfl rfl d_W_copyFrom_37 ?_
  refine aw_getr fl_W_13 kc_117 (by decide) rfl rc_117_2 d_W_copyFrom_38 ?_
  refine aw_iconst (v := nI 0) ci_0 d_W_copyFrom_41 ?_
  refine aw_bipush (v := nI 17) cb_17 d_W_copyFrom_42 ?_
  refine as_copy0 (n := 17) lka_W_29 ac_nat ac_sta ac_ini kc_38 kc_119 (by omega) (by omega) (by omega) (by decide) rfl d_W_copyFrom_44 (fun J53 e54 e55 e56 => ?_)
  refine aw_aload_n rfl rfl d_W_copyFrom_47 ?_
  refine aw_getr fl_W_16 kc_36 (by decide) rfl rc_36_3 d_W_copyFrom_48 ?_
  refine aw_iconst (v := nI 0) ci_0 d_W_copyFrom_51 ?_
  refine aw_aload_n rfl rfl d_W_copyFrom_52 ?_
  refine aw_getr fl_W_16 kc_117 (by decide) rfl rc_117_3 d_W_copyFrom_53 ?_
  refine aw_iconst (v := nI 0) ci_0 d_W_copyFrom_56 ?_
  refine aw_bipush (v := nI 16) cb_16 d_W_copyFrom_57 ?_
  refine as_copy0 (n := 16) lka_W_29 ac_nat ac_sta ac_ini kc_39 kc_120 (by omega) (by omega) (by omega) (by decide) rfl d_W_copyFrom_59 (fun J57 e58 e59 e60 => ?_)
  refine as_retv rfl d_W_copyFrom_62 ?_
  refine (show As l b 9 y_H_copyFrom KC RC _ (J57) 35 [.ref 82, .ref 1, .int (nI 4)] [] from ?_)
  refine aw_iinc (v := nI 5) (lv2 := [.ref 82, .ref 1, .int (nI 5)]) rfl (by decide +kernel) (by decide) rfl d_H_copyFrom_35 ?_
  refine aw_goto (tgt := 2) (by decide) d_H_copyFrom_38 ?_
  refine aw_iload_n rfl rfl d_H_copyFrom_2 ?_
  refine aw_aload_n rfl rfl d_H_copyFrom_3 ?_
  refine aw_getr fl_H_17 kc_82 (by decide) rfl rc_82_1 d_H_copyFrom_4 ?_
  refine aw_alen kc_84 (by decide) d_H_copyFrom_7 ?_
  refine aw_icmp_geI (tgt := 41) (5) (5) (by decide +kernel) (by decide +kernel) (by decide) d_H_copyFrom_8 (fun _ => ?_) (fun q => absurd q (by decide))
  refine aw_aload_n rfl rfl d_H_copyFrom_41 ?_
  refine aw_getr fl_H_33 kc_82 (by decide) rfl rc_82_5 d_H_copyFrom_42 ?_
  refine aw_aload_n rfl rfl d_H_copyFrom_45 ?_
  refine aw_getr fl_H_33 kc_1 (by decide) rfl rc_1_5 d_H_copyFrom_46 ?_
  refine as_callV (as := [.ref 7]) (d' := 8) (q := ("SinglesUp$Lines", zT4, 3)) mo_L_copyFrom lk_H_61 kc_88 rfl rfl rfl ⟨by decide, by decide⟩ rfl rfl (by decide) d_H_copyFrom_49 (Ss.of (show As l b 8 y_L_copyFrom KC RC _ (J57) 0 [.ref 88, .ref 7] [] from ?_))
  refine aw_aload_n rfl rfl d_L_copyFrom_0 ?_
  refine aw_getr fl_L_9 kc_7 (by decide) rfl rc_7_0 d_L_copyFrom_1 ?_
  refine aw_iconst (v := nI 0) ci_0 d_L_copyFrom_4 ?_
  refine aw_aload_n rfl rfl d_L_copyFrom_5 ?_
  refine aw_getr fl_L_9 kc_88 (by decide) rfl rc_88_0 d_L_copyFrom_6 ?_
  refine aw_iconst (v := nI 0) ci_0 d_L_copyFrom_9 ?_
  refine aw_aload_n rfl rfl d_L_copyFrom_10 ?_
  refine aw_getr fl_L_9 kc_88 (by decide) rfl rc_88_0 d_L_copyFrom_11 ?_
  refine aw_alen kc_89 (by decide) d_L_copyFrom_14 ?_
  refine as_copy0 (n := 1440) lka_L_27 ac_nat ac_sta ac_ini kc_8 kc_89 (by omega) (by omega) (by omega) (by decide) rfl d_L_copyFrom_15 (fun J61 e62 e63 e64 => ?_)
  refine aw_aload_n rfl rfl d_L_copyFrom_18 ?_
  refine aw_getr fl_L_15 kc_7 (by decide) rfl rc_7_1 d_L_copyFrom_19 ?_
  refine aw_iconst (v := nI 0) ci_0 d_L_copyFrom_22 ?_
  refine aw_aload_n rfl rfl d_L_copyFrom_23 ?_
  refine aw_getr fl_L_15 kc_88 (by decide) rfl rc_88_1 d_L_copyFrom_24 ?_
  refine aw_iconst (v := nI 0) ci_0 d_L_copyFrom_27 ?_
  refine aw_bipush (v := nI 6) cb_6 d_L_copyFrom_28 ?_
  refine as_copy0 (n := 6) lka_L_27 ac_nat ac_sta ac_ini kc_9 kc_90 (by omega) (by omega) (by omega) (by decide) rfl d_L_copyFrom_30 (fun J65 e66 e67 e68 => ?_)
  refine aw_aload_n rfl rfl d_L_copyFrom_33 ?_
  refine aw_getr fl_L_18 kc_7 (by decide) rfl rc_7_2 d_L_copyFrom_34 ?_
  refine aw_iconst (v := nI 0) ci_0 d_L_copyFrom_37 ?_
  refine aw_aload_n rfl rfl d_L_copyFrom_38 ?_
  refine aw_getr fl_L_18 kc_88 (by decide) rfl rc_88_2 d_L_copyFrom_39 ?_
  refine aw_iconst (v := nI 0) ci_0 d_L_copyFrom_42 ?_
  refine aw_bipush (v := nI 6) cb_6 d_L_copyFrom_43 ?_
  refine as_copy0 (n := 6) lka_L_27 ac_nat ac_sta ac_ini kc_10 kc_91 (by omega) (by omega) (by omega) (by decide) rfl d_L_copyFrom_45 (fun J69 e70 e71 e72 => ?_)
  refine as_retv rfl d_L_copyFrom_48 ?_
  refine (show As l b 9 y_H_copyFrom KC RC _ (J69) 52 [.ref 82, .ref 1, .int (nI 5)] [] from ?_)
  refine aw_aload_n rfl rfl d_H_copyFrom_52 ?_
  refine aw_getr fl_H_9 kc_1 (by decide) rfl rc_1_0 d_H_copyFrom_53 ?_
  refine aw_iconst (v := nI 0) ci_0 d_H_copyFrom_56 ?_
  refine aw_aload_n rfl rfl d_H_copyFrom_57 ?_
  refine aw_getr fl_H_9 kc_82 (by decide) rfl rc_82_0 d_H_copyFrom_58 ?_
  refine aw_iconst (v := nI 0) ci_0 d_H_copyFrom_61 ?_
  refine aw_aload_n rfl rfl d_H_copyFrom_62 ?_
  refine aw_getr fl_H_9 kc_82 (by decide) rfl rc_82_0 d_H_copyFrom_63 ?_
  refine aw_alen kc_83 (by decide) d_H_copyFrom_66 ?_
  refine as_copy0 (n := 6) lka_H_64 ac_nat ac_sta ac_ini kc_2 kc_83 (by omega) (by omega) (by omega) (by decide) rfl d_H_copyFrom_67 (fun J73 e74 e75 e76 => ?_)
  refine aw_aload_n rfl rfl d_H_copyFrom_70 ?_
  refine aw_getr fl_H_21 kc_1 (by decide) rfl rc_1_2 d_H_copyFrom_71 ?_
  refine aw_iconst (v := nI 0) ci_0 d_H_copyFrom_74 ?_
  refine aw_aload_n rfl rfl d_H_copyFrom_75 ?_
  refine aw_getr fl_H_21 kc_82 (by decide) rfl rc_82_2 d_H_copyFrom_76 ?_
  refine aw_iconst (v := nI 0) ci_0 d_H_copyFrom_79 ?_
  refine aw_aload_n rfl rfl d_H_copyFrom_80 ?_
  refine aw_getr fl_H_21 kc_82 (by decide) rfl rc_82_2 d_H_copyFrom_81 ?_
  refine aw_alen kc_85 (by decide) d_H_copyFrom_84 ?_
  refine as_copy0 (n := 9) lka_H_64 ac_nat ac_sta ac_ini kc_4 kc_85 (by omega) (by omega) (by omega) (by decide) rfl d_H_copyFrom_85 (fun J77 e78 e79 e80 => ?_)
  refine aw_aload_n rfl rfl d_H_copyFrom_88 ?_
  refine aw_getr fl_H_24 kc_1 (by decide) rfl rc_1_3 d_H_copyFrom_89 ?_
  refine aw_iconst (v := nI 0) ci_0 d_H_copyFrom_92 ?_
  refine aw_aload_n rfl rfl d_H_copyFrom_93 ?_
  refine aw_getr fl_H_24 kc_82 (by decide) rfl rc_82_3 d_H_copyFrom_94 ?_
  refine aw_iconst (v := nI 0) ci_0 d_H_copyFrom_97 ?_
  refine aw_aload_n rfl rfl d_H_copyFrom_98 ?_
  refine aw_getr fl_H_24 kc_82 (by decide) rfl rc_82_3 d_H_copyFrom_99 ?_
  refine aw_alen kc_86 (by decide) d_H_copyFrom_102 ?_
  refine as_copy0 (n := 32) lka_H_64 ac_nat ac_sta ac_ini kc_5 kc_86 (by omega) (by omega) (by omega) (by decide) rfl d_H_copyFrom_103 (fun J81 e82 e83 e84 => ?_)
  refine aw_aload_n rfl rfl d_H_copyFrom_106 ?_
  refine aw_getr fl_H_27 kc_1 (by decide) rfl rc_1_4 d_H_copyFrom_107 ?_
  refine aw_iconst (v := nI 0) ci_0 d_H_copyFrom_110 ?_
  refine aw_aload_n rfl rfl d_H_copyFrom_111 ?_
  refine aw_getr fl_H_27 kc_82 (by decide) rfl rc_82_4 d_H_copyFrom_112 ?_
  refine aw_iconst (v := nI 0) ci_0 d_H_copyFrom_115 ?_
  refine aw_aload_n rfl rfl d_H_copyFrom_116 ?_
  refine aw_getr fl_H_27 kc_82 (by decide) rfl rc_82_4 d_H_copyFrom_117 ?_
  refine aw_alen kc_87 (by decide) d_H_copyFrom_120 ?_
  refine as_copy0 (n := 9) lka_H_64 ac_nat ac_sta ac_ini kc_6 kc_87 (by omega) (by omega) (by omega) (by decide) rfl d_H_copyFrom_121 (fun J85 e86 e87 e88 => ?_)
  refine aw_aload_n rfl rfl d_H_copyFrom_124 ?_
  refine aw_getr fl_H_37 kc_1 (by decide) rfl rc_1_8 d_H_copyFrom_125 ?_
  refine aw_iconst (v := nI 0) ci_0 d_H_copyFrom_128 ?_
  refine aw_aload_n rfl rfl d_H_copyFrom_129 ?_
  refine aw_getr fl_H_37 kc_82 (by decide) rfl rc_82_8 d_H_copyFrom_130 ?_
  refine aw_iconst (v := nI 0) ci_0 d_H_copyFrom_133 ?_
  refine aw_aload_n rfl rfl d_H_copyFrom_134 ?_
  refine aw_getr fl_H_37 kc_82 (by decide) rfl rc_82_8 d_H_copyFrom_135 ?_
  refine aw_alen kc_92 (by decide) d_H_copyFrom_138 ?_
  refine as_copy0 (n := 40) lka_H_64 ac_nat ac_sta ac_ini kc_11 kc_92 (by omega) (by omega) (by omega) (by decide) rfl d_H_copyFrom_139 (fun J89 e90 e91 e92 => ?_)
  refine aw_aload_n rfl rfl d_H_copyFrom_142 ?_
  refine aw_getr fl_H_40 kc_1 (by decide) rfl rc_1_9 d_H_copyFrom_143 ?_
  refine aw_iconst (v := nI 0) ci_0 d_H_copyFrom_146 ?_
  refine aw_aload_n rfl rfl d_H_copyFrom_147 ?_
  refine aw_getr fl_H_40 kc_82 (by decide) rfl rc_82_9 d_H_copyFrom_148 ?_
  refine aw_iconst (v := nI 0) ci_0 d_H_copyFrom_151 ?_
  refine aw_aload_n rfl rfl d_H_copyFrom_152 ?_
  refine aw_getr fl_H_40 kc_82 (by decide) rfl rc_82_9 d_H_copyFrom_153 ?_
  refine aw_alen kc_93 (by decide) d_H_copyFrom_156 ?_
  refine as_copy0 (n := 30) lka_H_64 ac_nat ac_sta ac_ini kc_12 kc_93 (by omega) (by omega) (by omega) (by decide) rfl d_H_copyFrom_157 (fun J93 e94 e95 e96 => ?_)
  refine aw_aload_n rfl rfl d_H_copyFrom_160 ?_
  refine aw_getr fl_H_43 kc_1 (by decide) rfl rc_1_10 d_H_copyFrom_161 ?_
  refine aw_iconst (v := nI 0) ci_0 d_H_copyFrom_164 ?_
  refine aw_aload_n rfl rfl d_H_copyFrom_165 ?_
  refine aw_getr fl_H_43 kc_82 (by decide) rfl rc_82_10 d_H_copyFrom_166 ?_
  refine aw_iconst (v := nI 0) ci_0 d_H_copyFrom_169 ?_
  refine aw_aload_n rfl rfl d_H_copyFrom_170 ?_
  refine aw_getr fl_H_43 kc_82 (by decide) rfl rc_82_10 d_H_copyFrom_171 ?_
  refine aw_alen kc_94 (by decide) d_H_copyFrom_174 ?_
  refine as_copy0 (n := 180) lka_H_64 ac_nat ac_sta ac_ini kc_13 kc_94 (by omega) (by omega) (by omega) (by decide) rfl d_H_copyFrom_175 (fun J97 e98 e99 e100 => ?_)
  refine aw_aload_n rfl rfl d_H_copyFrom_178 ?_
  refine aw_aload_n rfl rfl d_H_copyFrom_179 ?_
  refine aw_geti fl_H_70 kc_1 (by decide) rfl d_H_copyFrom_180 ?_
  refine aw_puti fl_H_70 kc_82 (by decide) rfl rfl rfl rfl d_H_copyFrom_183 ?_
  refine aw_aload_n rfl rfl d_H_copyFrom_186 ?_
  refine aw_aload_n rfl rfl d_H_copyFrom_187 ?_
  refine aw_geti fl_H_73 kc_1 (by decide) rfl d_H_copyFrom_188 ?_
  refine aw_puti fl_H_73 kc_82 (by decide) rfl rfl rfl rfl d_H_copyFrom_191 ?_
  refine aw_aload_n rfl rfl d_H_copyFrom_194 ?_
  refine aw_aload_n rfl rfl d_H_copyFrom_195 ?_
  refine aw_geti fl_H_46 kc_1 (by decide) rfl d_H_copyFrom_196 ?_
  refine aw_puti fl_H_46 kc_82 (by decide) rfl rfl rfl rfl d_H_copyFrom_199 ?_
  refine as_retv rfl d_H_copyFrom_202 ?_
  refine (show As l b 10 y_M_bestSet KC RC K2 (upd2 (upd2 (upd2 J97 82 6 ((J97) 1 6)) 82 7 ((upd2 J97 82 6 ((J97) 1 6)) 1 7)) 82 11 ((upd2 (upd2 J97 82 6 ((J97) 1 6)) 82 7 ((upd2 J97 82 6 ((J97) 1 6)) 1 7)) 1 11)) 18 [.ref 81, .ref 1, .int (nI (n0)), .int (what), .int (nI 0), uu, uu] [] from ?_)
  refine aw_aload_n rfl rfl d_M_bestSet_18 ?_
  refine aw_getr fl_M_12 kc_81 (by decide) rfl rc_81_0 d_M_bestSet_19 ?_
  refine aw_iload rfl d_M_bestSet_22 ?_
  refine aw_puti fl_M_90 kc_82 (by decide) rfl rfl rfl rfl d_M_bestSet_24 ?_
  refine aw_aload_n rfl rfl d_M_bestSet_27 ?_
  refine aw_getr fl_M_21 kc_81 (by decide) rfl rc_81_1 d_M_bestSet_28 ?_
  refine aw_aload_n rfl rfl d_M_bestSet_31 ?_
  refine aw_getr fl_M_12 kc_81 (by decide) rfl rc_81_0 d_M_bestSet_32 ?_
  refine aw_iload_n rfl rfl d_M_bestSet_35 ?_
  refine as_callV (as := [.ref 82, .int (nI (n0))]) (d' := 6) (q := ("SinglesUp$Chair", zT0, 12)) mo_C_turns lk_M_36 kc_122 rfl rfl rfl ⟨by decide, by decide⟩ rfl rfl (by decide) d_M_bestSet_36 (sp_turns_122 (I := upd2 (upd2 (upd2 (upd2 J97 82 6 ((J97) 1 6)) 82 7 ((upd2 J97 82 6 ((J97) 1 6)) 1 7)) 82 11 ((upd2 (upd2 J97 82 6 ((J97) 1 6)) 82 7 ((upd2 J97 82 6 ((J97) 1 6)) 1 7)) 1 11)) 82 11 (nI 0)) (s := 4) (ru := 0) (e := 0) (k := 0) (n0 := n0) (show FH 82 (upd2 (upd2 (upd2 (upd2 J97 82 6 ((J97) 1 6)) 82 7 ((upd2 J97 82 6 ((J97) 1 6)) 1 7)) 82 11 ((upd2 (upd2 J97 82 6 ((J97) 1 6)) 82 7 ((upd2 J97 82 6 ((J97) 1 6)) 1 7)) 1 11)) 82 11 (nI 0)) (4) (0) (0) (0) from ⟨fun j hj => (Eq.trans (congrFun (upd2_ne (by decide)) (j)) (Eq.trans (congrFun (upd2_ne (by decide)) (j)) (Eq.trans (congrFun (upd2_ne (by decide)) (j)) (Eq.trans (congrFun (upd2_ne (by decide)) (j)) (((congrFun (e98 86 (by decide)) (j)).trans (((congrFun (e94 86 (by decide)) (j)).trans (((congrFun (e90 86 (by decide)) (j)).trans (((congrFun (e86 86 (by decide)) (j)).trans (((e83 (j) (by omega)).trans (((congrFun (e78 5 (by decide)) (j)).trans (((congrFun (e74 5 (by decide)) (j)).trans (((congrFun (e70 5 (by decide)) (j)).trans (((congrFun (e66 5 (by decide)) (j)).trans (((congrFun (e62 5 (by decide)) (j)).trans (((congrFun (e58 5 (by decide)) (j)).trans (((congrFun (e54 5 (by decide)) (j)).trans (((congrFun (e50 5 (by decide)) (j)).trans (Eq.trans (congrFun (upd2_ne (by decide)) (j)) (Eq.trans (congrFun (upd2_ne (by decide)) (j)) (((congrFun (e46 5 (by decide)) (j)).trans (((congrFun (e42 5 (by decide)) (j)).trans (((congrFun (e38 5 (by decide)) (j)).trans (Eq.trans (congrFun (upd2_ne (by decide)) (j)) (Eq.trans (congrFun (upd2_ne (by decide)) (j)) (((congrFun (e34 5 (by decide)) (j)).trans (((congrFun (e30 5 (by decide)) (j)).trans (((congrFun (e26 5 (by decide)) (j)).trans (Eq.trans (congrFun (upd2_ne (by decide)) (j)) (Eq.trans (congrFun (upd2_ne (by decide)) (j)) (((congrFun (e22 5 (by decide)) (j)).trans (((congrFun (e18 5 (by decide)) (j)).trans (((congrFun (e14 5 (by decide)) (j)).trans (Eq.trans (congrFun (upd2_ne (by decide)) (j)) (Eq.trans (congrFun (upd2_ne (by decide)) (j)) (((congrFun (e10 5 (by decide)) (j)).trans (((congrFun (e6 5 (by decide)) (j)).trans (((congrFun (e2 5 (by decide)) (j)).trans (Eq.trans (congrFun (upd2_ne (by decide)) (j)) (Eq.trans (congrFun (upd2_ne (by decide)) (j)) (f0 j (by omega)))))))))))))))))))))))))))))))))))))))))))))))))))))))))))))))))), fun j hj => (Eq.trans (congrFun (upd2_ne (by decide)) (j)) (Eq.trans (congrFun (upd2_ne (by decide)) (j)) (Eq.trans (congrFun (upd2_ne (by decide)) (j)) (Eq.trans (congrFun (upd2_ne (by decide)) (j)) (((congrFun (e98 90 (by decide)) (j)).trans (((congrFun (e94 90 (by decide)) (j)).trans (((congrFun (e90 90 (by decide)) (j)).trans (((congrFun (e86 90 (by decide)) (j)).trans (((congrFun (e82 90 (by decide)) (j)).trans (((congrFun (e78 90 (by decide)) (j)).trans (((congrFun (e74 90 (by decide)) (j)).trans (((congrFun (e70 90 (by decide)) (j)).trans (((e67 (j) (by omega)).trans (((congrFun (e62 9 (by decide)) (j)).trans (((congrFun (e58 9 (by decide)) (j)).trans (((congrFun (e54 9 (by decide)) (j)).trans (((congrFun (e50 9 (by decide)) (j)).trans (Eq.trans (congrFun (upd2_ne (by decide)) (j)) (Eq.trans (congrFun (upd2_ne (by decide)) (j)) (((congrFun (e46 9 (by decide)) (j)).trans (((congrFun (e42 9 (by decide)) (j)).trans (((congrFun (e38 9 (by decide)) (j)).trans (Eq.trans (congrFun (upd2_ne (by decide)) (j)) (Eq.trans (congrFun (upd2_ne (by decide)) (j)) (((congrFun (e34 9 (by decide)) (j)).trans (((congrFun (e30 9 (by decide)) (j)).trans (((congrFun (e26 9 (by decide)) (j)).trans (Eq.trans (congrFun (upd2_ne (by decide)) (j)) (Eq.trans (congrFun (upd2_ne (by decide)) (j)) (((congrFun (e22 9 (by decide)) (j)).trans (((congrFun (e18 9 (by decide)) (j)).trans (((congrFun (e14 9 (by decide)) (j)).trans (Eq.trans (congrFun (upd2_ne (by decide)) (j)) (Eq.trans (congrFun (upd2_ne (by decide)) (j)) (((congrFun (e10 9 (by decide)) (j)).trans (((congrFun (e6 9 (by decide)) (j)).trans (((congrFun (e2 9 (by decide)) (j)).trans (Eq.trans (congrFun (upd2_ne (by decide)) (j)) (Eq.trans (congrFun (upd2_ne (by decide)) (j)) (f1 (j) (by omega)))))))))))))))))))))))))))))))))))))))))))))))))))))))))))))))))), fun j hj => (Eq.trans (congrFun (upd2_ne (by decide)) (j)) (Eq.trans (congrFun (upd2_ne (by decide)) (j)) (Eq.trans (congrFun (upd2_ne (by decide)) (j)) (Eq.trans (congrFun (upd2_ne (by decide)) (j)) (((congrFun (e98 91 (by decide)) (j)).trans (((congrFun (e94 91 (by decide)) (j)).trans (((congrFun (e90 91 (by decide)) (j)).trans (((congrFun (e86 91 (by decide)) (j)).trans (((congrFun (e82 91 (by decide)) (j)).trans (((congrFun (e78 91 (by decide)) (j)).trans (((congrFun (e74 91 (by decide)) (j)).trans (((e71 (j) (by omega)).trans (((congrFun (e66 10 (by decide)) (j)).trans (((congrFun (e62 10 (by decide)) (j)).trans (((congrFun (e58 10 (by decide)) (j)).trans (((congrFun (e54 10 (by decide)) (j)).trans (((congrFun (e50 10 (by decide)) (j)).trans (Eq.trans (congrFun (upd2_ne (by decide)) (j)) (Eq.trans (congrFun (upd2_ne (by decide)) (j)) (((congrFun (e46 10 (by decide)) (j)).trans (((congrFun (e42 10 (by decide)) (j)).trans (((congrFun (e38 10 (by decide)) (j)).trans (Eq.trans (congrFun (upd2_ne (by decide)) (j)) (Eq.trans (congrFun (upd2_ne (by decide)) (j)) (((congrFun (e34 10 (by decide)) (j)).trans (((congrFun (e30 10 (by decide)) (j)).trans (((congrFun (e26 10 (by decide)) (j)).trans (Eq.trans (congrFun (upd2_ne (by decide)) (j)) (Eq.trans (congrFun (upd2_ne (by decide)) (j)) (((congrFun (e22 10 (by decide)) (j)).trans (((congrFun (e18 10 (by decide)) (j)).trans (((congrFun (e14 10 (by decide)) (j)).trans (Eq.trans (congrFun (upd2_ne (by decide)) (j)) (Eq.trans (congrFun (upd2_ne (by decide)) (j)) (((congrFun (e10 10 (by decide)) (j)).trans (((congrFun (e6 10 (by decide)) (j)).trans (((congrFun (e2 10 (by decide)) (j)).trans (Eq.trans (congrFun (upd2_ne (by decide)) (j)) (Eq.trans (congrFun (upd2_ne (by decide)) (j)) (f2 (j) (by omega)))))))))))))))))))))))))))))))))))))))))))))))))))))))))))))))))), (Eq.trans (congrFun (upd2_ne (by decide)) (0)) (Eq.trans (congrFun (upd2_ne (by decide)) (0)) (Eq.trans (congrFun (upd2_ne (by decide)) (0)) (Eq.trans (congrFun (upd2_ne (by decide)) (0)) (((congrFun (e98 83 (by decide)) (0)).trans (((congrFun (e94 83 (by decide)) (0)).trans (((congrFun (e90 83 (by decide)) (0)).trans (((congrFun (e86 83 (by decide)) (0)).trans (((congrFun (e82 83 (by decide)) (0)).trans (((congrFun (e78 83 (by decide)) (0)).trans (((e75 (0) (by omega)).trans (((congrFun (e70 2 (by decide)) (0)).trans (((congrFun (e66 2 (by decide)) (0)).trans (((congrFun (e62 2 (by decide)) (0)).trans (((congrFun (e58 2 (by decide)) (0)).trans (((congrFun (e54 2 (by decide)) (0)).trans (((congrFun (e50 2 (by decide)) (0)).trans (Eq.trans (congrFun (upd2_ne (by decide)) (0)) (Eq.trans (congrFun (upd2_ne (by decide)) (0)) (((congrFun (e46 2 (by decide)) (0)).trans (((congrFun (e42 2 (by decide)) (0)).trans (((congrFun (e38 2 (by decide)) (0)).trans (Eq.trans (congrFun (upd2_ne (by decide)) (0)) (Eq.trans (congrFun (upd2_ne (by decide)) (0)) (((congrFun (e34 2 (by decide)) (0)).trans (((congrFun (e30 2 (by decide)) (0)).trans (((congrFun (e26 2 (by decide)) (0)).trans (Eq.trans (congrFun (upd2_ne (by decide)) (0)) (Eq.trans (congrFun (upd2_ne (by decide)) (0)) (((congrFun (e22 2 (by decide)) (0)).trans (((congrFun (e18 2 (by decide)) (0)).trans (((congrFun (e14 2 (by decide)) (0)).trans (Eq.trans (congrFun (upd2_ne (by decide)) (0)) (Eq.trans (congrFun (upd2_ne (by decide)) (0)) (((congrFun (e10 2 (by decide)) (0)).trans (((congrFun (e6 2 (by decide)) (0)).trans (((congrFun (e2 2 (by decide)) (0)).trans (Eq.trans (congrFun (upd2_ne (by decide)) (0)) (Eq.trans (congrFun (upd2_ne (by decide)) (0)) (f3))))))))))))))))))))))))))))))))))))))))))))))))))))))))))))))))), (Eq.trans (congrFun (upd2_ne (by decide)) (3)) (Eq.trans (congrFun (upd2_ne (by decide)) (3)) (Eq.trans (congrFun (upd2_ne (by decide)) (3)) (Eq.trans (congrFun (upd2_ne (by decide)) (3)) (((congrFun (e98 83 (by decide)) (3)).trans (((congrFun (e94 83 (by decide)) (3)).trans (((congrFun (e90 83 (by decide)) (3)).trans (((congrFun (e86 83 (by decide)) (3)).trans (((congrFun (e82 83 (by decide)) (3)).trans (((congrFun (e78 83 (by decide)) (3)).trans (((e75 (3) (by omega)).trans (((congrFun (e70 2 (by decide)) (3)).trans (((congrFun (e66 2 (by decide)) (3)).trans (((congrFun (e62 2 (by decide)) (3)).trans (((congrFun (e58 2 (by decide)) (3)).trans (((congrFun (e54 2 (by decide)) (3)).trans (((congrFun (e50 2 (by decide)) (3)).trans (Eq.trans (congrFun (upd2_ne (by decide)) (3)) (Eq.trans (congrFun (upd2_ne (by decide)) (3)) (((congrFun (e46 2 (by decide)) (3)).trans (((congrFun (e42 2 (by decide)) (3)).trans (((congrFun (e38 2 (by decide)) (3)).trans (Eq.trans (congrFun (upd2_ne (by decide)) (3)) (Eq.trans (congrFun (upd2_ne (by decide)) (3)) (((congrFun (e34 2 (by decide)) (3)).trans (((congrFun (e30 2 (by decide)) (3)).trans (((congrFun (e26 2 (by decide)) (3)).trans (Eq.trans (congrFun (upd2_ne (by decide)) (3)) (Eq.trans (congrFun (upd2_ne (by decide)) (3)) (((congrFun (e22 2 (by decide)) (3)).trans (((congrFun (e18 2 (by decide)) (3)).trans (((congrFun (e14 2 (by decide)) (3)).trans (Eq.trans (congrFun (upd2_ne (by decide)) (3)) (Eq.trans (congrFun (upd2_ne (by decide)) (3)) (((congrFun (e10 2 (by decide)) (3)).trans (((congrFun (e6 2 (by decide)) (3)).trans (((congrFun (e2 2 (by decide)) (3)).trans (Eq.trans (congrFun (upd2_ne (by decide)) (3)) (Eq.trans (congrFun (upd2_ne (by decide)) (3)) (f4))))))))))))))))))))))))))))))))))))))))))))))))))))))))))))))))), (Eq.trans (congrFun (upd2_ne (by decide)) (5)) (Eq.trans (congrFun (upd2_ne (by decide)) (5)) (Eq.trans (congrFun (upd2_ne (by decide)) (5)) (Eq.trans (congrFun (upd2_ne (by decide)) (5)) (((congrFun (e98 83 (by decide)) (5)).trans (((congrFun (e94 83 (by decide)) (5)).trans (((congrFun (e90 83 (by decide)) (5)).trans (((congrFun (e86 83 (by decide)) (5)).trans (((congrFun (e82 83 (by decide)) (5)).trans (((congrFun (e78 83 (by decide)) (5)).trans (((e75 (5) (by omega)).trans (((congrFun (e70 2 (by decide)) (5)).trans (((congrFun (e66 2 (by decide)) (5)).trans (((congrFun (e62 2 (by decide)) (5)).trans (((congrFun (e58 2 (by decide)) (5)).trans (((congrFun (e54 2 (by decide)) (5)).trans (((congrFun (e50 2 (by decide)) (5)).trans (Eq.trans (congrFun (upd2_ne (by decide)) (5)) (Eq.trans (congrFun (upd2_ne (by decide)) (5)) (((congrFun (e46 2 (by decide)) (5)).trans (((congrFun (e42 2 (by decide)) (5)).trans (((congrFun (e38 2 (by decide)) (5)).trans (Eq.trans (congrFun (upd2_ne (by decide)) (5)) (Eq.trans (congrFun (upd2_ne (by decide)) (5)) (((congrFun (e34 2 (by decide)) (5)).trans (((congrFun (e30 2 (by decide)) (5)).trans (((congrFun (e26 2 (by decide)) (5)).trans (Eq.trans (congrFun (upd2_ne (by decide)) (5)) (Eq.trans (congrFun (upd2_ne (by decide)) (5)) (((congrFun (e22 2 (by decide)) (5)).trans (((congrFun (e18 2 (by decide)) (5)).trans (((congrFun (e14 2 (by decide)) (5)).trans (Eq.trans (congrFun (upd2_ne (by decide)) (5)) (Eq.trans (congrFun (upd2_ne (by decide)) (5)) (((congrFun (e10 2 (by decide)) (5)).trans (((congrFun (e6 2 (by decide)) (5)).trans (((congrFun (e2 2 (by decide)) (5)).trans (Eq.trans (congrFun (upd2_ne (by decide)) (5)) (Eq.trans (congrFun (upd2_ne (by decide)) (5)) (f5))))))))))))))))))))))))))))))))))))))))))))))))))))))))))))))))), (Eq.trans (congrFun (upd2_ne (by decide)) (1)) (Eq.trans (congrFun (upd2_ne (by decide)) (1)) (Eq.trans (congrFun (upd2_ne (by decide)) (1)) (Eq.trans (congrFun (upd2_ne (by decide)) (1)) (((congrFun (e98 92 (by decide)) (1)).trans (((congrFun (e94 92 (by decide)) (1)).trans (((e91 (1) (by omega)).trans (((congrFun (e86 11 (by decide)) (1)).trans (((congrFun (e82 11 (by decide)) (1)).trans (((congrFun (e78 11 (by decide)) (1)).trans (((congrFun (e74 11 (by decide)) (1)).trans (((congrFun (e70 11 (by decide)) (1)).trans (((congrFun (e66 11 (by decide)) (1)).trans (((congrFun (e62 11 (by decide)) (1)).trans (((congrFun (e58 11 (by decide)) (1)).trans (((congrFun (e54 11 (by decide)) (1)).trans (((congrFun (e50 11 (by decide)) (1)).trans (Eq.trans (congrFun (upd2_ne (by decide)) (1)) (Eq.trans (congrFun (upd2_ne (by decide)) (1)) (((congrFun (e46 11 (by decide)) (1)).trans (((congrFun (e42 11 (by decide)) (1)).trans (((congrFun (e38 11 (by decide)) (1)).trans (Eq.trans (congrFun (upd2_ne (by decide)) (1)) (Eq.trans (congrFun (upd2_ne (by decide)) (1)) (((congrFun (e34 11 (by decide)) (1)).trans (((congrFun (e30 11 (by decide)) (1)).trans (((congrFun (e26 11 (by decide)) (1)).trans (Eq.trans (congrFun (upd2_ne (by decide)) (1)) (Eq.trans (congrFun (upd2_ne (by decide)) (1)) (((congrFun (e22 11 (by decide)) (1)).trans (((congrFun (e18 11 (by decide)) (1)).trans (((congrFun (e14 11 (by decide)) (1)).trans (Eq.trans (congrFun (upd2_ne (by decide)) (1)) (Eq.trans (congrFun (upd2_ne (by decide)) (1)) (((congrFun (e10 11 (by decide)) (1)).trans (((congrFun (e6 11 (by decide)) (1)).trans (((congrFun (e2 11 (by decide)) (1)).trans (Eq.trans (congrFun (upd2_ne (by decide)) (1)) (Eq.trans (congrFun (upd2_ne (by decide)) (1)) (f6))))))))))))))))))))))))))))))))))))))))))))))))))))))))))))))))), (Eq.trans (congrFun (upd2_ne (by decide)) (0)) (Eq.trans (congrFun (upd2_ne (by decide)) (0)) (Eq.trans (congrFun (upd2_ne (by decide)) (0)) (Eq.trans (congrFun (upd2_ne (by decide)) (0)) (((congrFun (e98 92 (by decide)) (0)).trans (((congrFun (e94 92 (by decide)) (0)).trans (((e91 (0) (by omega)).trans (((congrFun (e86 11 (by decide)) (0)).trans (((congrFun (e82 11 (by decide)) (0)).trans (((congrFun (e78 11 (by decide)) (0)).trans (((congrFun (e74 11 (by decide)) (0)).trans (((congrFun (e70 11 (by decide)) (0)).trans (((congrFun (e66 11 (by decide)) (0)).trans (((congrFun (e62 11 (by decide)) (0)).trans (((congrFun (e58 11 (by decide)) (0)).trans (((congrFun (e54 11 (by decide)) (0)).trans (((congrFun (e50 11 (by decide)) (0)).trans (Eq.trans (congrFun (upd2_ne (by decide)) (0)) (Eq.trans (congrFun (upd2_ne (by decide)) (0)) (((congrFun (e46 11 (by decide)) (0)).trans (((congrFun (e42 11 (by decide)) (0)).trans (((congrFun (e38 11 (by decide)) (0)).trans (Eq.trans (congrFun (upd2_ne (by decide)) (0)) (Eq.trans (congrFun (upd2_ne (by decide)) (0)) (((congrFun (e34 11 (by decide)) (0)).trans (((congrFun (e30 11 (by decide)) (0)).trans (((congrFun (e26 11 (by decide)) (0)).trans (Eq.trans (congrFun (upd2_ne (by decide)) (0)) (Eq.trans (congrFun (upd2_ne (by decide)) (0)) (((congrFun (e22 11 (by decide)) (0)).trans (((congrFun (e18 11 (by decide)) (0)).trans (((congrFun (e14 11 (by decide)) (0)).trans (Eq.trans (congrFun (upd2_ne (by decide)) (0)) (Eq.trans (congrFun (upd2_ne (by decide)) (0)) (((congrFun (e10 11 (by decide)) (0)).trans (((congrFun (e6 11 (by decide)) (0)).trans (((congrFun (e2 11 (by decide)) (0)).trans (Eq.trans (congrFun (upd2_ne (by decide)) (0)) (Eq.trans (congrFun (upd2_ne (by decide)) (0)) (f7))))))))))))))))))))))))))))))))))))))))))))))))))))))))))))))))), fun j hj a1 a2 a3 => (Eq.trans (congrFun (upd2_ne (by decide)) (j)) (Eq.trans (congrFun (upd2_ne (by decide)) (j)) (Eq.trans (congrFun (upd2_ne (by decide)) (j)) (Eq.trans (congrFun (upd2_ne (by decide)) (j)) (((congrFun (e98 92 (by decide)) (j)).trans (((congrFun (e94 92 (by decide)) (j)).trans (((e91 (j) (by omega)).trans (((congrFun (e86 11 (by decide)) (j)).trans (((congrFun (e82 11 (by decide)) (j)).trans (((congrFun (e78 11 (by decide)) (j)).trans (((congrFun (e74 11 (by decide)) (j)).trans (((congrFun (e70 11 (by decide)) (j)).trans (((congrFun (e66 11 (by decide)) (j)).trans (((congrFun (e62 11 (by decide)) (j)).trans (((congrFun (e58 11 (by decide)) (j)).trans (((congrFun (e54 11 (by decide)) (j)).trans (((congrFun (e50 11 (by decide)) (j)).trans (Eq.trans (congrFun (upd2_ne (by decide)) (j)) (Eq.trans (congrFun (upd2_ne (by decide)) (j)) (((congrFun (e46 11 (by decide)) (j)).trans (((congrFun (e42 11 (by decide)) (j)).trans (((congrFun (e38 11 (by decide)) (j)).trans (Eq.trans (congrFun (upd2_ne (by decide)) (j)) (Eq.trans (congrFun (upd2_ne (by decide)) (j)) (((congrFun (e34 11 (by decide)) (j)).trans (((congrFun (e30 11 (by decide)) (j)).trans (((congrFun (e26 11 (by decide)) (j)).trans (Eq.trans (congrFun (upd2_ne (by decide)) (j)) (Eq.trans (congrFun (upd2_ne (by decide)) (j)) (((congrFun (e22 11 (by decide)) (j)).trans (((congrFun (e18 11 (by decide)) (j)).trans (((congrFun (e14 11 (by decide)) (j)).trans (Eq.trans (congrFun (upd2_ne (by decide)) (j)) (Eq.trans (congrFun (upd2_ne (by decide)) (j)) (((congrFun (e10 11 (by decide)) (j)).trans (((congrFun (e6 11 (by decide)) (j)).trans (((congrFun (e2 11 (by decide)) (j)).trans (Eq.trans (congrFun (upd2_ne (by decide)) (j)) (Eq.trans (congrFun (upd2_ne (by decide)) (j)) ((f8 (j) (by omega) (by omega) (by omega) (by omega))))))))))))))))))))))))))))))))))))))))))))))))))))))))))))))))))), (Eq.trans (congrFun (upd2_ne (by decide)) (4)) (Eq.trans (congrFun (upd2_ne (by decide)) (4)) (Eq.trans (congrFun (upd2_ne (by decide)) (4)) (Eq.trans (congrFun (upd2_ne (by decide)) (4)) (((congrFun (e98 97 (by decide)) (4)).trans (((congrFun (e94 97 (by decide)) (4)).trans (((congrFun (e90 97 (by decide)) (4)).trans (((congrFun (e86 97 (by decide)) (4)).trans (((congrFun (e82 97 (by decide)) (4)).trans (((congrFun (e78 97 (by decide)) (4)).trans (((congrFun (e74 97 (by decide)) (4)).trans (((congrFun (e70 97 (by decide)) (4)).trans (((congrFun (e66 97 (by decide)) (4)).trans (((congrFun (e62 97 (by decide)) (4)).trans (((congrFun (e58 97 (by decide)) (4)).trans (((congrFun (e54 97 (by decide)) (4)).trans (((congrFun (e50 97 (by decide)) (4)).trans (Eq.trans (congrFun (upd2_ne (by decide)) (4)) (Eq.trans (congrFun (upd2_ne (by decide)) (4)) (((congrFun (e46 97 (by decide)) (4)).trans (((congrFun (e42 97 (by decide)) (4)).trans (((congrFun (e38 97 (by decide)) (4)).trans (Eq.trans (congrFun (upd2_ne (by decide)) (4)) (Eq.trans (congrFun (upd2_ne (by decide)) (4)) (((congrFun (e34 97 (by decide)) (4)).trans (((congrFun (e30 97 (by decide)) (4)).trans (((congrFun (e26 97 (by decide)) (4)).trans (Eq.trans (congrFun (upd2_ne (by decide)) (4)) (Eq.trans (congrFun (upd2_ne (by decide)) (4)) (((congrFun (e22 97 (by decide)) (4)).trans (((congrFun (e18 97 (by decide)) (4)).trans (((congrFun (e14 97 (by decide)) (4)).trans (Eq.trans (congrFun (upd2_ne (by decide)) (4)) (Eq.trans (congrFun (upd2_ne (by decide)) (4)) (((congrFun (e10 97 (by decide)) (4)).trans (((congrFun (e6 97 (by decide)) (4)).trans (((congrFun (e2 97 (by decide)) (4)).trans (upd2_eq))))))))))))))))))))))))))))))))))))))))))))))))))))))))))))))), (Eq.trans (congrFun (upd2_ne (by decide)) (4)) (Eq.trans (congrFun (upd2_ne (by decide)) (4)) (Eq.trans (congrFun (upd2_ne (by decide)) (4)) (Eq.trans (congrFun (upd2_ne (by decide)) (4)) (((congrFun (e98 102 (by decide)) (4)).trans (((congrFun (e94 102 (by decide)) (4)).trans (((congrFun (e90 102 (by decide)) (4)).trans (((congrFun (e86 102 (by decide)) (4)).trans (((congrFun (e82 102 (by decide)) (4)).trans (((congrFun (e78 102 (by decide)) (4)).trans (((congrFun (e74 102 (by decide)) (4)).trans (((congrFun (e70 102 (by decide)) (4)).trans (((congrFun (e66 102 (by decide)) (4)).trans (((congrFun (e62 102 (by decide)) (4)).trans (((congrFun (e58 102 (by decide)) (4)).trans (((congrFun (e54 102 (by decide)) (4)).trans (((congrFun (e50 102 (by decide)) (4)).trans (Eq.trans (congrFun (upd2_ne (by decide)) (4)) (Eq.trans (congrFun (upd2_ne (by decide)) (4)) (((congrFun (e46 102 (by decide)) (4)).trans (((congrFun (e42 102 (by decide)) (4)).trans (((congrFun (e38 102 (by decide)) (4)).trans (Eq.trans (congrFun (upd2_ne (by decide)) (4)) (Eq.trans (congrFun (upd2_ne (by decide)) (4)) (((congrFun (e34 102 (by decide)) (4)).trans (((congrFun (e30 102 (by decide)) (4)).trans (((congrFun (e26 102 (by decide)) (4)).trans (Eq.trans (congrFun (upd2_ne (by decide)) (4)) (Eq.trans (congrFun (upd2_ne (by decide)) (4)) (((congrFun (e22 102 (by decide)) (4)).trans (((congrFun (e18 102 (by decide)) (4)).trans (((congrFun (e14 102 (by decide)) (4)).trans (upd2_eq))))))))))))))))))))))))))))))))))))))))))))))))))))))), (Eq.trans (congrFun (upd2_ne (by decide)) (4)) (Eq.trans (congrFun (upd2_ne (by decide)) (4)) (Eq.trans (congrFun (upd2_ne (by decide)) (4)) (Eq.trans (congrFun (upd2_ne (by decide)) (4)) (((congrFun (e98 107 (by decide)) (4)).trans (((congrFun (e94 107 (by decide)) (4)).trans (((congrFun (e90 107 (by decide)) (4)).trans (((congrFun (e86 107 (by decide)) (4)).trans (((congrFun (e82 107 (by decide)) (4)).trans (((congrFun (e78 107 (by decide)) (4)).trans (((congrFun (e74 107 (by decide)) (4)).trans (((congrFun (e70 107 (by decide)) (4)).trans (((congrFun (e66 107 (by decide)) (4)).trans (((congrFun (e62 107 (by decide)) (4)).trans (((congrFun (e58 107 (by decide)) (4)).trans (((congrFun (e54 107 (by decide)) (4)).trans (((congrFun (e50 107 (by decide)) (4)).trans (Eq.trans (congrFun (upd2_ne (by decide)) (4)) (Eq.trans (congrFun (upd2_ne (by decide)) (4)) (((congrFun (e46 107 (by decide)) (4)).trans (((congrFun (e42 107 (by decide)) (4)).trans (((congrFun (e38 107 (by decide)) (4)).trans (Eq.trans (congrFun (upd2_ne (by decide)) (4)) (Eq.trans (congrFun (upd2_ne (by decide)) (4)) (((congrFun (e34 107 (by decide)) (4)).trans (((congrFun (e30 107 (by decide)) (4)).trans (((congrFun (e26 107 (by decide)) (4)).trans (upd2_eq))))))))))))))))))))))))))))))))))))))))))))))), (Eq.trans (congrFun (upd2_ne (by decide)) (4)) (Eq.trans (congrFun (upd2_ne (by decide)) (4)) (Eq.trans (congrFun (upd2_ne (by decide)) (4)) (Eq.trans (congrFun (upd2_ne (by decide)) (4)) (((congrFun (e98 112 (by decide)) (4)).trans (((congrFun (e94 112 (by decide)) (4)).trans (((congrFun (e90 112 (by decide)) (4)).trans (((congrFun (e86 112 (by decide)) (4)).trans (((congrFun (e82 112 (by decide)) (4)).trans (((congrFun (e78 112 (by decide)) (4)).trans (((congrFun (e74 112 (by decide)) (4)).trans (((congrFun (e70 112 (by decide)) (4)).trans (((congrFun (e66 112 (by decide)) (4)).trans (((congrFun (e62 112 (by decide)) (4)).trans (((congrFun (e58 112 (by decide)) (4)).trans (((congrFun (e54 112 (by decide)) (4)).trans (((congrFun (e50 112 (by decide)) (4)).trans (Eq.trans (congrFun (upd2_ne (by decide)) (4)) (Eq.trans (congrFun (upd2_ne (by decide)) (4)) (((congrFun (e46 112 (by decide)) (4)).trans (((congrFun (e42 112 (by decide)) (4)).trans (((congrFun (e38 112 (by decide)) (4)).trans (upd2_eq))))))))))))))))))))))))))))))))))))))), (Eq.trans (congrFun (upd2_ne (by decide)) (4)) (Eq.trans (congrFun (upd2_ne (by decide)) (4)) (Eq.trans (congrFun (upd2_ne (by decide)) (4)) (Eq.trans (congrFun (upd2_ne (by decide)) (4)) (((congrFun (e98 117 (by decide)) (4)).trans (((congrFun (e94 117 (by decide)) (4)).trans (((congrFun (e90 117 (by decide)) (4)).trans (((congrFun (e86 117 (by decide)) (4)).trans (((congrFun (e82 117 (by decide)) (4)).trans (((congrFun (e78 117 (by decide)) (4)).trans (((congrFun (e74 117 (by decide)) (4)).trans (((congrFun (e70 117 (by decide)) (4)).trans (((congrFun (e66 117 (by decide)) (4)).trans (((congrFun (e62 117 (by decide)) (4)).trans (((congrFun (e58 117 (by decide)) (4)).trans (((congrFun (e54 117 (by decide)) (4)).trans (((congrFun (e50 117 (by decide)) (4)).trans (upd2_eq))))))))))))))))))))))))))))))), (by omega)⟩) (by omega) (by omega) (fun I101 hF102 fr103 => ?_))
  have hF := hF102
  obtain ⟨d0, d1, d2, d3, d4, d5, d6, d7, d8, d9, d10, d11, d12, d13, db⟩ := hF
  have d0 : ∀ j, j < 32 → I101 86 j = nI 0 := d0
  have d1 : ∀ j, j < 6 → I101 90 j = nI 0 := d1
  have d2 : ∀ j, j < 6 → I101 91 j = nI 9 := d2
  have d3 : I101 83 0 = nI (4) := d3
  have d4 : I101 83 3 = nI 0 := d4
  have d5 : I101 83 5 = nI (0) := d5
  have d6 : I101 92 1 = nI ((0 + n0 * 4)) := d6
  have d7 : I101 92 0 = nI ((0 + n0)) := d7
  have d8 : ∀ j, j < 40 → j ≠ 0 → j ≠ 1 → j ≠ 3 → I101 92 j = nI 0 := d8
  have d9 : I101 97 4 = nI 0 := d9
  have d10 : I101 102 4 = nI 0 := d10
  have d11 : I101 107 4 = nI 0 := d11
  have d12 : I101 112 4 = nI 0 := d12
  have d13 : I101 117 4 = nI 0 := d13
  refine (show As l b 10 y_M_bestSet KC RC K2 (I101) 39 [.ref 81, .ref 1, .int (nI (n0)), .int (what), .int (nI 0), uu, uu] [.int (nI 0)] from ?_)
  refine aw_pop rfl d_M_bestSet_39 ?_
  refine aw_aload_n rfl rfl d_M_bestSet_40 ?_
  refine aw_aload_n rfl rfl d_M_bestSet_41 ?_
  refine aw_iconst (v := nI 0) ci_0 d_M_bestSet_42 ?_
  refine as_callV (as := [.ref 1, .int (nI 0)]) (d' := 9) (q := ("SinglesUp$Mind", zT5, 3)) mo_M_gained lk_M_94 kc_81 rfl rfl rfl ⟨by decide, by decide⟩ rfl rfl (by decide) d_M_bestSet_43 (Ss.of (show As l b 9 y_M_gained KC RC _ (I101) 0 [.ref 81, .ref 1, .int (nI 0)] [] from ?_))
  refine aw_iload_n rfl rfl d_M_gained_0 ?_
  refine aw_tabInI 0 (by decide +kernel) (by decide) rfl (tgt := 36) (by decide) d_M_gained_1 ?_
  refine aw_aload_n rfl rfl d_M_gained_36 ?_
  refine aw_getr fl_M_12 kc_81 (by decide) rfl rc_81_0 d_M_gained_37 ?_
  refine aw_getr fl_M_40 kc_82 (by decide) rfl rc_82_8 d_M_gained_40 ?_
  refine aw_iconst (v := nI 1) ci_1 d_M_gained_43 ?_
  refine aw_iald (j := 1) kc_92 (vp_in_nI (by decide) (by decide)) (nI_clamp (by decide)) d_M_gained_44 ?_
  refine aw_top (x2 := nI ((0 + n0 * 4))) (d6) ?_
  refine aw_aload_n rfl rfl d_M_gained_45 ?_
  refine aw_getr fl_M_40 kc_1 (by decide) rfl rc_1_8 d_M_gained_46 ?_
  refine aw_iconst (v := nI 1) ci_1 d_M_gained_49 ?_
  refine aw_iald (j := 1) kc_11 (vp_in_nI (by decide) (by decide)) (nI_clamp (by decide)) d_M_gained_50 ?_
  refine aw_top (x2 := nI 0) (((congrFun (fr103 11 (by decide)) (1)).trans (Eq.trans (congrFun (upd2_ne (by decide)) (1)) (Eq.trans (congrFun (upd2_ne (by decide)) (1)) (Eq.trans (congrFun (upd2_ne (by decide)) (1)) (Eq.trans (congrFun (upd2_ne (by decide)) (1)) (((congrFun (e98 11 (by decide)) (1)).trans (((congrFun (e94 11 (by decide)) (1)).trans (((congrFun (e90 11 (by decide)) (1)).trans (((congrFun (e86 11 (by decide)) (1)).trans (((congrFun (e82 11 (by decide)) (1)).trans (((congrFun (e78 11 (by decide)) (1)).trans (((congrFun (e74 11 (by decide)) (1)).trans (((congrFun (e70 11 (by decide)) (1)).trans (((congrFun (e66 11 (by decide)) (1)).trans (((congrFun (e62 11 (by decide)) (1)).trans (((congrFun (e58 11 (by decide)) (1)).trans (((congrFun (e54 11 (by decide)) (1)).trans (((congrFun (e50 11 (by decide)) (1)).trans (Eq.trans (congrFun (upd2_ne (by decide)) (1)) (Eq.trans (congrFun (upd2_ne (by decide)) (1)) (((congrFun (e46 11 (by decide)) (1)).trans (((congrFun (e42 11 (by decide)) (1)).trans (((congrFun (e38 11 (by decide)) (1)).trans (Eq.trans (congrFun (upd2_ne (by decide)) (1)) (Eq.trans (congrFun (upd2_ne (by decide)) (1)) (((congrFun (e34 11 (by decide)) (1)).trans (((congrFun (e30 11 (by decide)) (1)).trans (((congrFun (e26 11 (by decide)) (1)).trans (Eq.trans (congrFun (upd2_ne (by decide)) (1)) (Eq.trans (congrFun (upd2_ne (by decide)) (1)) (((congrFun (e22 11 (by decide)) (1)).trans (((congrFun (e18 11 (by decide)) (1)).trans (((congrFun (e14 11 (by decide)) (1)).trans (Eq.trans (congrFun (upd2_ne (by decide)) (1)) (Eq.trans (congrFun (upd2_ne (by decide)) (1)) (((congrFun (e10 11 (by decide)) (1)).trans (((congrFun (e6 11 (by decide)) (1)).trans (((congrFun (e2 11 (by decide)) (1)).trans (Eq.trans (congrFun (upd2_ne (by decide)) (1)) (Eq.trans (congrFun (upd2_ne (by decide)) (1)) (f6))))))))))))))))))))))))))))))))))))))))))))))))))))))))))))))))))) ?_
  refine aw_isubN (by omega) d_M_gained_51 ?_
  refine as_reti rfl d_M_gained_52 ?_
  refine (show As l b 10 y_M_bestSet KC RC K2 (I101) 46 [.ref 81, .ref 1, .int (nI (n0)), .int (what), .int (nI 0), uu, uu] [.int (nI (((0 + n0 * 4) - 0)))] from ?_)
  refine aw_istore (lv2 := [.ref 81, .ref 1, .int (nI (n0)), .int (what), .int (nI 0), .int (nI (((0 + n0 * 4) - 0))), uu]) (by decide) rfl d_M_bestSet_46 ?_
  refine aw_aload_n rfl rfl d_M_bestSet_48 ?_
  refine aw_aload_n rfl rfl d_M_bestSet_49 ?_
  refine aw_iconst (v := nI 2) ci_2 d_M_bestSet_50 ?_
  refine as_callV (as := [.ref 1, .int (nI 2)]) (d' := 9) (q := ("SinglesUp$Mind", zT5, 3)) mo_M_gained lk_M_94 kc_81 rfl rfl rfl ⟨by decide, by decide⟩ rfl rfl (by decide) d_M_bestSet_51 (Ss.of (show As l b 9 y_M_gained KC RC _ (I101) 0 [.ref 81, .ref 1, .int (nI 2)] [] from ?_))
  refine aw_iload_n rfl rfl d_M_gained_0 ?_
  refine aw_tabInI 2 (by decide +kernel) (by decide) rfl (tgt := 70) (by decide) d_M_gained_1 ?_
  refine aw_aload_n rfl rfl d_M_gained_70 ?_
  refine aw_getr fl_M_12 kc_81 (by decide) rfl rc_81_0 d_M_gained_71 ?_
  refine as_callS (as := [.ref 82]) (d' := 8) mo_M_allWait lk_M_43 rfl ⟨by decide, by decide⟩ rfl rfl (by decide) d_M_gained_74 (Ss.of (show As l b 8 y_M_allWait KC RC _ (I101) 0 [.ref 82, uu, uu] [] from ?_))
  refine aw_iconst (v := nI 0) ci_0 d_M_allWait_0 ?_
  refine aw_istore_n (lv2 := [.ref 82, .int (nI 0), uu]) rfl (by decide) rfl d_M_allWait_1 ?_
  refine aw_iconst (v := nI 1) ci_1 d_M_allWait_2 ?_
  refine aw_istore_n (lv2 := [.ref 82, .int (nI 0), .int (nI 1)]) rfl (by decide) rfl d_M_allWait_3 ?_
  refine aw_iload_n rfl rfl d_M_allWait_4 ?_
  refine aw_bipush (v := nI 8) cb_8 d_M_allWait_5 ?_
  refine aw_icmp_gtI (tgt := 28) (1) (8) (by decide +kernel) (by decide +kernel) (by decide) d_M_allWait_7 (fun q => absurd q (by decide)) (fun _ => ?_)
  refine aw_iload_n rfl rfl d_M_allWait_10 ?_
  refine aw_aload_n rfl rfl d_M_allWait_11 ?_
  refine aw_getr fl_M_40 kc_82 (by decide) rfl rc_82_8 d_M_allWait_12 ?_
  refine aw_bipush (v := nI 20) cb_20 d_M_allWait_15 ?_
  refine aw_iload_n rfl rfl d_M_allWait_17 ?_
  refine aw_iadd d_M_allWait_18 ?_
  refine aw_top (x2 := nI 21) (by decide +kernel) ?_
  refine aw_iald (j := 21) kc_92 (vp_in_nI (by decide) (by decide)) (nI_clamp (by decide)) d_M_allWait_19 ?_
  refine aw_top (x2 := nI 0) (d8 21 (by decide) (by decide) (by decide) (by decide)) ?_
  refine aw_iadd d_M_allWait_20 ?_
  refine aw_top (x2 := nI 0) (by decide +kernel) ?_
  refine aw_istore_n (lv2 := [.ref 82, .int (nI 0), .int (nI 1)]) rfl (by decide) rfl d_M_allWait_21 ?_
  refine aw_iinc (v := nI 2) (lv2 := [.ref 82, .int (nI 0), .int (nI 2)]) rfl (by decide +kernel) (by decide) rfl d_M_allWait_22 ?_
  refine aw_goto (tgt := 4) (by decide) d_M_allWait_25 ?_
  refine aw_iload_n rfl rfl d_M_allWait_4 ?_
  refine aw_bipush (v := nI 8) cb_8 d_M_allWait_5 ?_
  refine aw_icmp_gtI (tgt := 28) (2) (8) (by decide +kernel) (by decide +kernel) (by decide) d_M_allWait_7 (fun q => absurd q (by decide)) (fun _ => ?_)
  refine aw_iload_n rfl rfl d_M_allWait_10 ?_
  refine aw_aload_n rfl rfl d_M_allWait_11 ?_
  refine aw_getr fl_M_40 kc_82 (by decide) rfl rc_82_8 d_M_allWait_12 ?_
  refine aw_bipush (v := nI 20) cb_20 d_M_allWait_15 ?_
  refine aw_iload_n rfl rfl d_M_allWait_17 ?_
  refine aw_iadd d_M_allWait_18 ?_
  refine aw_top (x2 := nI 22) (by decide +kernel) ?_
  refine aw_iald (j := 22) kc_92 (vp_in_nI (by decide) (by decide)) (nI_clamp (by decide)) d_M_allWait_19 ?_
  refine aw_top (x2 := nI 0) (d8 22 (by decide) (by decide) (by decide) (by decide)) ?_
  refine aw_iadd d_M_allWait_20 ?_
  refine aw_top (x2 := nI 0) (by decide +kernel) ?_
  refine aw_istore_n (lv2 := [.ref 82, .int (nI 0), .int (nI 2)]) rfl (by decide) rfl d_M_allWait_21 ?_
  refine aw_iinc (v := nI 3) (lv2 := [.ref 82, .int (nI 0), .int (nI 3)]) rfl (by decide +kernel) (by decide) rfl d_M_allWait_22 ?_
  refine aw_goto (tgt := 4) (by decide) d_M_allWait_25 ?_
  refine aw_iload_n rfl rfl d_M_allWait_4 ?_
  refine aw_bipush (v := nI 8) cb_8 d_M_allWait_5 ?_
  refine aw_icmp_gtI (tgt := 28) (3) (8) (by decide +kernel) (by decide +kernel) (by decide) d_M_allWait_7 (fun q => absurd q (by decide)) (fun _ => ?_)
  refine aw_iload_n rfl rfl d_M_allWait_10 ?_
  refine aw_aload_n rfl rfl d_M_allWait_11 ?_
  refine aw_getr fl_M_40 kc_82 (by decide) rfl rc_82_8 d_M_allWait_12 ?_
  refine aw_bipush (v := nI 20) cb_20 d_M_allWait_15 ?_
  refine aw_iload_n rfl rfl d_M_allWait_17 ?_
  refine aw_iadd d_M_allWait_18 ?_
  refine aw_top (x2 := nI 23) (by decide +kernel) ?_
  refine aw_iald (j := 23) kc_92 (vp_in_nI (by decide) (by decide)) (nI_clamp (by decide)) d_M_allWait_19 ?_
  refine aw_top (x2 := nI 0) (d8 23 (by decide) (by decide) (by decide) (by decide)) ?_
  refine aw_iadd d_M_allWait_20 ?_
  refine aw_top (x2 := nI 0) (by decide +kernel) ?_
  refine aw_istore_n (lv2 := [.ref 82, .int (nI 0), .int (nI 3)]) rfl (by decide) rfl d_M_allWait_21 ?_
  refine aw_iinc (v := nI 4) (lv2 := [.ref 82, .int (nI 0), .int (nI 4)]) rfl (by decide +kernel) (by decide) rfl d_M_allWait_22 ?_
  refine aw_goto (tgt := 4) (by decide) d_M_allWait_25 ?_
  refine aw_iload_n rfl rfl d_M_allWait_4 ?_
  refine aw_bipush (v := nI 8) cb_8 d_M_allWait_5 ?_
  refine aw_icmp_gtI (tgt := 28) (4) (8) (by decide +kernel) (by decide +kernel) (by decide) d_M_allWait_7 (fun q => absurd q (by decide)) (fun _ => ?_)
  refine aw_iload_n rfl rfl d_M_allWait_10 ?_
  refine aw_aload_n rfl rfl d_M_allWait_11 ?_
  refine aw_getr fl_M_40 kc_82 (by decide) rfl rc_82_8 d_M_allWait_12 ?_
  refine aw_bipush (v := nI 20) cb_20 d_M_allWait_15 ?_
  refine aw_iload_n rfl rfl d_M_allWait_17 ?_
  refine aw_iadd d_M_allWait_18 ?_
  refine aw_top (x2 := nI 24) (by decide +kernel) ?_
  refine aw_iald (j := 24) kc_92 (vp_in_nI (by decide) (by decide)) (nI_clamp (by decide)) d_M_allWait_19 ?_
  refine aw_top (x2 := nI 0) (d8 24 (by decide) (by decide) (by decide) (by decide)) ?_
  refine aw_iadd d_M_allWait_20 ?_
  refine aw_top (x2 := nI 0) (by decide +kernel) ?_
  refine aw_istore_n (lv2 := [.ref 82, .int (nI 0), .int (nI 4)]) rfl (by decide) rfl d_M_allWait_21 ?_
  refine aw_iinc (v := nI 5) (lv2 := [.ref 82, .int (nI 0), .int (nI 5)]) rfl (by decide +kernel) (by decide) rfl d_M_allWait_22 ?_
  refine aw_goto (tgt := 4) (by decide) d_M_allWait_25 ?_
  refine aw_iload_n rfl rfl d_M_allWait_4 ?_
  refine aw_bipush (v := nI 8) cb_8 d_M_allWait_5 ?_
  refine aw_icmp_gtI (tgt := 28) (5) (8) (by decide +kernel) (by decide +kernel) (by decide) d_M_allWait_7 (fun q => absurd q (by decide)) (fun _ => ?_)
  refine aw_iload_n rfl rfl d_M_allWait_10 ?_
  refine aw_aload_n rfl rfl d_M_allWait_11 ?_
  refine aw_getr fl_M_40 kc_82 (by decide) rfl rc_82_8 d_M_allWait_12 ?_
  refine aw_bipush (v := nI 20) cb_20 d_M_allWait_15 ?_
  refine aw_iload_n rfl rfl d_M_allWait_17 ?_
  refine aw_iadd d_M_allWait_18 ?_
  refine aw_top (x2 := nI 25) (by decide +kernel) ?_
  refine aw_iald (j := 25) kc_92 (vp_in_nI (by decide) (by decide)) (nI_clamp (by decide)) d_M_allWait_19 ?_
  refine aw_top (x2 := nI 0) (d8 25 (by decide) (by decide) (by decide) (by decide)) ?_
  refine aw_iadd d_M_allWait_20 ?_
  refine aw_top (x2 := nI 0) (by decide +kernel) ?_
  refine aw_istore_n (lv2 := [.ref 82, .int (nI 0), .int (nI 5)]) rfl (by decide) rfl d_M_allWait_21 ?_
  refine aw_iinc (v := nI 6) (lv2 := [.ref 82, .int (nI 0), .int (nI 6)]) rfl (by decide +kernel) (by decide) rfl d_M_allWait_22 ?_
  refine aw_goto (tgt := 4) (by decide) d_M_allWait_25 ?_
  refine aw_iload_n rfl rfl d_M_allWait_4 ?_
  refine aw_bipush (v := nI 8) cb_8 d_M_allWait_5 ?_
  refine aw_icmp_gtI (tgt := 28) (6) (8) (by decide +kernel) (by decide +kernel) (by decide) d_M_allWait_7 (fun q => absurd q (by decide)) (fun _ => ?_)
  refine aw_iload_n rfl rfl d_M_allWait_10 ?_
  refine aw_aload_n rfl rfl d_M_allWait_11 ?_
  refine aw_getr fl_M_40 kc_82 (by decide) rfl rc_82_8 d_M_allWait_12 ?_
  refine aw_bipush (v := nI 20) cb_20 d_M_allWait_15 ?_
  refine aw_iload_n rfl rfl d_M_allWait_17 ?_
  refine aw_iadd d_M_allWait_18 ?_
  refine aw_top (x2 := nI 26) (by decide +kernel) ?_
  refine aw_iald (j := 26) kc_92 (vp_in_nI (by decide) (by decide)) (nI_clamp (by decide)) d_M_allWait_19 ?_
  refine aw_top (x2 := nI 0) (d8 26 (by decide) (by decide) (by decide) (by decide)) ?_
  refine aw_iadd d_M_allWait_20 ?_
  refine aw_top (x2 := nI 0) (by decide +kernel) ?_
  refine aw_istore_n (lv2 := [.ref 82, .int (nI 0), .int (nI 6)]) rfl (by decide) rfl d_M_allWait_21 ?_
  refine aw_iinc (v := nI 7) (lv2 := [.ref 82, .int (nI 0), .int (nI 7)]) rfl (by decide +kernel) (by decide) rfl d_M_allWait_22 ?_
  refine aw_goto (tgt := 4) (by decide) d_M_allWait_25 ?_
  refine aw_iload_n rfl rfl d_M_allWait_4 ?_
  refine aw_bipush (v := nI 8) cb_8 d_M_allWait_5 ?_
  refine aw_icmp_gtI (tgt := 28) (7) (8) (by decide +kernel) (by decide +kernel) (by decide) d_M_allWait_7 (fun q => absurd q (by decide)) (fun _ => ?_)
  refine aw_iload_n rfl rfl d_M_allWait_10 ?_
  refine aw_aload_n rfl rfl d_M_allWait_11 ?_
  refine aw_getr fl_M_40 kc_82 (by decide) rfl rc_82_8 d_M_allWait_12 ?_
  refine aw_bipush (v := nI 20) cb_20 d_M_allWait_15 ?_
  refine aw_iload_n rfl rfl d_M_allWait_17 ?_
  refine aw_iadd d_M_allWait_18 ?_
  refine aw_top (x2 := nI 27) (by decide +kernel) ?_
  refine aw_iald (j := 27) kc_92 (vp_in_nI (by decide) (by decide)) (nI_clamp (by decide)) d_M_allWait_19 ?_
  refine aw_top (x2 := nI 0) (d8 27 (by decide) (by decide) (by decide) (by decide)) ?_
  refine aw_iadd d_M_allWait_20 ?_
  refine aw_top (x2 := nI 0) (by decide +kernel) ?_
  refine aw_istore_n (lv2 := [.ref 82, .int (nI 0), .int (nI 7)]) rfl (by decide) rfl d_M_allWait_21 ?_
  refine aw_iinc (v := nI 8) (lv2 := [.ref 82, .int (nI 0), .int (nI 8)]) rfl (by decide +kernel) (by decide) rfl d_M_allWait_22 ?_
  refine aw_goto (tgt := 4) (by decide) d_M_allWait_25 ?_
  refine aw_iload_n rfl rfl d_M_allWait_4 ?_
  refine aw_bipush (v := nI 8) cb_8 d_M_allWait_5 ?_
  refine aw_icmp_gtI (tgt := 28) (8) (8) (by decide +kernel) (by decide +kernel) (by decide) d_M_allWait_7 (fun q => absurd q (by decide)) (fun _ => ?_)
  refine aw_iload_n rfl rfl d_M_allWait_10 ?_
  refine aw_aload_n rfl rfl d_M_allWait_11 ?_
  refine aw_getr fl_M_40 kc_82 (by decide) rfl rc_82_8 d_M_allWait_12 ?_
  refine aw_bipush (v := nI 20) cb_20 d_M_allWait_15 ?_
  refine aw_iload_n rfl rfl d_M_allWait_17 ?_
  refine aw_iadd d_M_allWait_18 ?_
  refine aw_top (x2 := nI 28) (by decide +kernel) ?_
  refine aw_iald (j := 28) kc_92 (vp_in_nI (by decide) (by decide)) (nI_clamp (by decide)) d_M_allWait_19 ?_
  refine aw_top (x2 := nI 0) (d8 28 (by decide) (by decide) (by decide) (by decide)) ?_
  refine aw_iadd d_M_allWait_20 ?_
  refine aw_top (x2 := nI 0) (by decide +kernel) ?_
  refine aw_istore_n (lv2 := [.ref 82, .int (nI 0), .int (nI 8)]) rfl (by decide) rfl d_M_allWait_21 ?_
  refine aw_iinc (v := nI 9) (lv2 := [.ref 82, .int (nI 0), .int (nI 9)]) rfl (by decide +kernel) (by decide) rfl d_M_allWait_22 ?_
  refine aw_goto (tgt := 4) (by decide) d_M_allWait_25 ?_
  refine aw_iload_n rfl rfl d_M_allWait_4 ?_
  refine aw_bipush (v := nI 8) cb_8 d_M_allWait_5 ?_
  refine aw_icmp_gtI (tgt := 28) (9) (8) (by decide +kernel) (by decide +kernel) (by decide) d_M_allWait_7 (fun _ => ?_) (fun q => absurd q (by decide))
  refine aw_iload_n rfl rfl d_M_allWait_28 ?_
  refine as_reti rfl d_M_allWait_29 ?_
  refine (show As l b 9 y_M_gained KC RC _ (I101) 77 [.ref 81, .ref 1, .int (nI 2)] [.int (nI 0)] from ?_)
  refine aw_aload_n rfl rfl d_M_gained_77 ?_
  refine as_callS (as := [.ref 1]) (d' := 8) mo_M_allWait lk_M_43 rfl ⟨by decide, by decide⟩ rfl rfl (by decide) d_M_gained_78 (Ss.of (show As l b 8 y_M_allWait KC RC _ (I101) 0 [.ref 1, uu, uu] [] from ?_))
  refine aw_iconst (v := nI 0) ci_0 d_M_allWait_0 ?_
  refine aw_istore_n (lv2 := [.ref 1, .int (nI 0), uu]) rfl (by decide) rfl d_M_allWait_1 ?_
  refine aw_iconst (v := nI 1) ci_1 d_M_allWait_2 ?_
  refine aw_istore_n (lv2 := [.ref 1, .int (nI 0), .int (nI 1)]) rfl (by decide) rfl d_M_allWait_3 ?_
  refine aw_iload_n rfl rfl d_M_allWait_4 ?_
  refine aw_bipush (v := nI 8) cb_8 d_M_allWait_5 ?_
  refine aw_icmp_gtI (tgt := 28) (1) (8) (by decide +kernel) (by decide +kernel) (by decide) d_M_allWait_7 (fun q => absurd q (by decide)) (fun _ => ?_)
  refine aw_iload_n rfl rfl d_M_allWait_10 ?_
  refine aw_aload_n rfl rfl d_M_allWait_11 ?_
  refine aw_getr fl_M_40 kc_1 (by decide) rfl rc_1_8 d_M_allWait_12 ?_
  refine aw_bipush (v := nI 20) cb_20 d_M_allWait_15 ?_
  refine aw_iload_n rfl rfl d_M_allWait_17 ?_
  refine aw_iadd d_M_allWait_18 ?_
  refine aw_top (x2 := nI 21) (by decide +kernel) ?_
  refine aw_iald (j := 21) kc_11 (vp_in_nI (by decide) (by decide)) (nI_clamp (by decide)) d_M_allWait_19 ?_
  refine aw_top (x2 := nI 0) (((congrFun (fr103 11 (by decide)) (21)).trans (Eq.trans (congrFun (upd2_ne (by decide)) (21)) (Eq.trans (congrFun (upd2_ne (by decide)) (21)) (Eq.trans (congrFun (upd2_ne (by decide)) (21)) (Eq.trans (congrFun (upd2_ne (by decide)) (21)) (((congrFun (e98 11 (by decide)) (21)).trans (((congrFun (e94 11 (by decide)) (21)).trans (((congrFun (e90 11 (by decide)) (21)).trans (((congrFun (e86 11 (by decide)) (21)).trans (((congrFun (e82 11 (by decide)) (21)).trans (((congrFun (e78 11 (by decide)) (21)).trans (((congrFun (e74 11 (by decide)) (21)).trans (((congrFun (e70 11 (by decide)) (21)).trans (((congrFun (e66 11 (by decide)) (21)).trans (((congrFun (e62 11 (by decide)) (21)).trans (((congrFun (e58 11 (by decide)) (21)).trans (((congrFun (e54 11 (by decide)) (21)).trans (((congrFun (e50 11 (by decide)) (21)).trans (Eq.trans (congrFun (upd2_ne (by decide)) (21)) (Eq.trans (congrFun (upd2_ne (by decide)) (21)) (((congrFun (e46 11 (by decide)) (21)).trans (((congrFun (e42 11 (by decide)) (21)).trans (((congrFun (e38 11 (by decide)) (21)).trans (Eq.trans (congrFun (upd2_ne (by decide)) (21)) (Eq.trans (congrFun (upd2_ne (by decide)) (21)) (((congrFun (e34 11 (by decide)) (21)).trans (((congrFun (e30 11 (by decide)) (21)).trans (((congrFun (e26 11 (by decide)) (21)).trans (Eq.trans (congrFun (upd2_ne (by decide)) (21)) (Eq.trans (congrFun (upd2_ne (by decide)) (21)) (((congrFun (e22 11 (by decide)) (21)).trans (((congrFun (e18 11 (by decide)) (21)).trans (((congrFun (e14 11 (by decide)) (21)).trans (Eq.trans (congrFun (upd2_ne (by decide)) (21)) (Eq.trans (congrFun (upd2_ne (by decide)) (21)) (((congrFun (e10 11 (by decide)) (21)).trans (((congrFun (e6 11 (by decide)) (21)).trans (((congrFun (e2 11 (by decide)) (21)).trans (Eq.trans (congrFun (upd2_ne (by decide)) (21)) (Eq.trans (congrFun (upd2_ne (by decide)) (21)) (f8 21 (by decide) (by decide) (by decide) (by decide)))))))))))))))))))))))))))))))))))))))))))))))))))))))))))))))))))) ?_
  refine aw_iadd d_M_allWait_20 ?_
  refine aw_top (x2 := nI 0) (by decide +kernel) ?_
  refine aw_istore_n (lv2 := [.ref 1, .int (nI 0), .int (nI 1)]) rfl (by decide) rfl d_M_allWait_21 ?_
  refine aw_iinc (v := nI 2) (lv2 := [.ref 1, .int (nI 0), .int (nI 2)]) rfl (by decide +kernel) (by decide) rfl d_M_allWait_22 ?_
  refine aw_goto (tgt := 4) (by decide) d_M_allWait_25 ?_
  refine aw_iload_n rfl rfl d_M_allWait_4 ?_
  refine aw_bipush (v := nI 8) cb_8 d_M_allWait_5 ?_
  refine aw_icmp_gtI (tgt := 28) (2) (8) (by decide +kernel) (by decide +kernel) (by decide) d_M_allWait_7 (fun q => absurd q (by decide)) (fun _ => ?_)
  refine aw_iload_n rfl rfl d_M_allWait_10 ?_
  refine aw_aload_n rfl rfl d_M_allWait_11 ?_
  refine aw_getr fl_M_40 kc_1 (by decide) rfl rc_1_8 d_M_allWait_12 ?_
  refine aw_bipush (v := nI 20) cb_20 d_M_allWait_15 ?_
  refine aw_iload_n rfl rfl d_M_allWait_17 ?_
  refine aw_iadd d_M_allWait_18 ?_
  refine aw_top (x2 := nI 22) (by decide +kernel) ?_
  refine aw_iald (j := 22) kc_11 (vp_in_nI (by decide) (by decide)) (nI_clamp (by decide)) d_M_allWait_19 ?_
  refine aw_top (x2 := nI 0) (((congrFun (fr103 11 (by decide)) (22)).trans (Eq.trans (congrFun (upd2_ne (by decide)) (22)) (Eq.trans (congrFun (upd2_ne (by decide)) (22)) (Eq.trans (congrFun (upd2_ne (by decide)) (22)) (Eq.trans (congrFun (upd2_ne (by decide)) (22)) (((congrFun (e98 11 (by decide)) (22)).trans (((congrFun (e94 11 (by decide)) (22)).trans (((congrFun (e90 11 (by decide)) (22)).trans (((congrFun (e86 11 (by decide)) (22)).trans (((congrFun (e82 11 (by decide)) (22)).trans (((congrFun (e78 11 (by decide)) (22)).trans (((congrFun (e74 11 (by decide)) (22)).trans (((congrFun (e70 11 (by decide)) (22)).trans (((congrFun (e66 11 (by decide)) (22)).trans (((congrFun (e62 11 (by decide)) (22)).trans (((congrFun (e58 11 (by decide)) (22)).trans (((congrFun (e54 11 (by decide)) (22)).trans (((congrFun (e50 11 (by decide)) (22)).trans (Eq.trans (congrFun (upd2_ne (by decide)) (22)) (Eq.trans (congrFun (upd2_ne (by decide)) (22)) (((congrFun (e46 11 (by decide)) (22)).trans (((congrFun (e42 11 (by decide)) (22)).trans (((congrFun (e38 11 (by decide)) (22)).trans (Eq.trans (congrFun (upd2_ne (by decide)) (22)) (Eq.trans (congrFun (upd2_ne (by decide)) (22)) (((congrFun (e34 11 (by decide)) (22)).trans (((congrFun (e30 11 (by decide)) (22)).trans (((congrFun (e26 11 (by decide)) (22)).trans (Eq.trans (congrFun (upd2_ne (by decide)) (22)) (Eq.trans (congrFun (upd2_ne (by decide)) (22)) (((congrFun (e22 11 (by decide)) (22)).trans (((congrFun (e18 11 (by decide)) (22)).trans (((congrFun (e14 11 (by decide)) (22)).trans (Eq.trans (congrFun (upd2_ne (by decide)) (22)) (Eq.trans (congrFun (upd2_ne (by decide)) (22)) (((congrFun (e10 11 (by decide)) (22)).trans (((congrFun (e6 11 (by decide)) (22)).trans (((congrFun (e2 11 (by decide)) (22)).trans (Eq.trans (congrFun (upd2_ne (by decide)) (22)) (Eq.trans (congrFun (upd2_ne (by decide)) (22)) (f8 22 (by decide) (by decide) (by decide) (by decide)))))))))))))))))))))))))))))))))))))))))))))))))))))))))))))))))))) ?_
  refine aw_iadd d_M_allWait_20 ?_
  refine aw_top (x2 := nI 0) (by decide +kernel) ?_
  refine aw_istore_n (lv2 := [.ref 1, .int (nI 0), .int (nI 2)]) rfl (by decide) rfl d_M_allWait_21 ?_
  refine aw_iinc (v := nI 3) (lv2 := [.ref 1, .int (nI 0), .int (nI 3)]) rfl (by decide +kernel) (by decide) rfl d_M_allWait_22 ?_
  refine aw_goto (tgt := 4) (by decide) d_M_allWait_25 ?_
  refine aw_iload_n rfl rfl d_M_allWait_4 ?_
  refine aw_bipush (v := nI 8) cb_8 d_M_allWait_5 ?_
  refine aw_icmp_gtI (tgt := 28) (3) (8) (by decide +kernel) (by decide +kernel) (by decide) d_M_allWait_7 (fun q => absurd q (by decide)) (fun _ => ?_)
  refine aw_iload_n rfl rfl d_M_allWait_10 ?_
  refine aw_aload_n rfl rfl d_M_allWait_11 ?_
  refine aw_getr fl_M_40 kc_1 (by decide) rfl rc_1_8 d_M_allWait_12 ?_
  refine aw_bipush (v := nI 20) cb_20 d_M_allWait_15 ?_
  refine aw_iload_n rfl rfl d_M_allWait_17 ?_
  refine aw_iadd d_M_allWait_18 ?_
  refine aw_top (x2 := nI 23) (by decide +kernel) ?_
  refine aw_iald (j := 23) kc_11 (vp_in_nI (by decide) (by decide)) (nI_clamp (by decide)) d_M_allWait_19 ?_
  refine aw_top (x2 := nI 0) (((congrFun (fr103 11 (by decide)) (23)).trans (Eq.trans (congrFun (upd2_ne (by decide)) (23)) (Eq.trans (congrFun (upd2_ne (by decide)) (23)) (Eq.trans (congrFun (upd2_ne (by decide)) (23)) (Eq.trans (congrFun (upd2_ne (by decide)) (23)) (((congrFun (e98 11 (by decide)) (23)).trans (((congrFun (e94 11 (by decide)) (23)).trans (((congrFun (e90 11 (by decide)) (23)).trans (((congrFun (e86 11 (by decide)) (23)).trans (((congrFun (e82 11 (by decide)) (23)).trans (((congrFun (e78 11 (by decide)) (23)).trans (((congrFun (e74 11 (by decide)) (23)).trans (((congrFun (e70 11 (by decide)) (23)).trans (((congrFun (e66 11 (by decide)) (23)).trans (((congrFun (e62 11 (by decide)) (23)).trans (((congrFun (e58 11 (by decide)) (23)).trans (((congrFun (e54 11 (by decide)) (23)).trans (((congrFun (e50 11 (by decide)) (23)).trans (Eq.trans (congrFun (upd2_ne (by decide)) (23)) (Eq.trans (congrFun (upd2_ne (by decide)) (23)) (((congrFun (e46 11 (by decide)) (23)).trans (((congrFun (e42 11 (by decide)) (23)).trans (((congrFun (e38 11 (by decide)) (23)).trans (Eq.trans (congrFun (upd2_ne (by decide)) (23)) (Eq.trans (congrFun (upd2_ne (by decide)) (23)) (((congrFun (e34 11 (by decide)) (23)).trans (((congrFun (e30 11 (by decide)) (23)).trans (((congrFun (e26 11 (by decide)) (23)).trans (Eq.trans (congrFun (upd2_ne (by decide)) (23)) (Eq.trans (congrFun (upd2_ne (by decide)) (23)) (((congrFun (e22 11 (by decide)) (23)).trans (((congrFun (e18 11 (by decide)) (23)).trans (((congrFun (e14 11 (by decide)) (23)).trans (Eq.trans (congrFun (upd2_ne (by decide)) (23)) (Eq.trans (congrFun (upd2_ne (by decide)) (23)) (((congrFun (e10 11 (by decide)) (23)).trans (((congrFun (e6 11 (by decide)) (23)).trans (((congrFun (e2 11 (by decide)) (23)).trans (Eq.trans (congrFun (upd2_ne (by decide)) (23)) (Eq.trans (congrFun (upd2_ne (by decide)) (23)) (f8 23 (by decide) (by decide) (by decide) (by decide)))))))))))))))))))))))))))))))))))))))))))))))))))))))))))))))))))) ?_
  refine aw_iadd d_M_allWait_20 ?_
  refine aw_top (x2 := nI 0) (by decide +kernel) ?_
  refine aw_istore_n (lv2 := [.ref 1, .int (nI 0), .int (nI 3)]) rfl (by decide) rfl d_M_allWait_21 ?_
  refine aw_iinc (v := nI 4) (lv2 := [.ref 1, .int (nI 0), .int (nI 4)]) rfl (by decide +kernel) (by decide) rfl d_M_allWait_22 ?_
  refine aw_goto (tgt := 4) (by decide) d_M_allWait_25 ?_
  refine aw_iload_n rfl rfl d_M_allWait_4 ?_
  refine aw_bipush (v := nI 8) cb_8 d_M_allWait_5 ?_
  refine aw_icmp_gtI (tgt := 28) (4) (8) (by decide +kernel) (by decide +kernel) (by decide) d_M_allWait_7 (fun q => absurd q (by decide)) (fun _ => ?_)
  refine aw_iload_n rfl rfl d_M_allWait_10 ?_
  refine aw_aload_n rfl rfl d_M_allWait_11 ?_
  refine aw_getr fl_M_40 kc_1 (by decide) rfl rc_1_8 d_M_allWait_12 ?_
  refine aw_bipush (v := nI 20) cb_20 d_M_allWait_15 ?_
  refine aw_iload_n rfl rfl d_M_allWait_17 ?_
  refine aw_iadd d_M_allWait_18 ?_
  refine aw_top (x2 := nI 24) (by decide +kernel) ?_
  refine aw_iald (j := 24) kc_11 (vp_in_nI (by decide) (by decide)) (nI_clamp (by decide)) d_M_allWait_19 ?_
  refine aw_top (x2 := nI 0) (((congrFun (fr103 11 (by decide)) (24)).trans (Eq.trans (congrFun (upd2_ne (by decide)) (24)) (Eq.trans (congrFun (upd2_ne (by decide)) (24)) (Eq.trans (congrFun (upd2_ne (by decide)) (24)) (Eq.trans (congrFun (upd2_ne (by decide)) (24)) (((congrFun (e98 11 (by decide)) (24)).trans (((congrFun (e94 11 (by decide)) (24)).trans (((congrFun (e90 11 (by decide)) (24)).trans (((congrFun (e86 11 (by decide)) (24)).trans (((congrFun (e82 11 (by decide)) (24)).trans (((congrFun (e78 11 (by decide)) (24)).trans (((congrFun (e74 11 (by decide)) (24)).trans (((congrFun (e70 11 (by decide)) (24)).trans (((congrFun (e66 11 (by decide)) (24)).trans (((congrFun (e62 11 (by decide)) (24)).trans (((congrFun (e58 11 (by decide)) (24)).trans (((congrFun (e54 11 (by decide)) (24)).trans (((congrFun (e50 11 (by decide)) (24)).trans (Eq.trans (congrFun (upd2_ne (by decide)) (24)) (Eq.trans (congrFun (upd2_ne (by decide)) (24)) (((congrFun (e46 11 (by decide)) (24)).trans (((congrFun (e42 11 (by decide)) (24)).trans (((congrFun (e38 11 (by decide)) (24)).trans (Eq.trans (congrFun (upd2_ne (by decide)) (24)) (Eq.trans (congrFun (upd2_ne (by decide)) (24)) (((congrFun (e34 11 (by decide)) (24)).trans (((congrFun (e30 11 (by decide)) (24)).trans (((congrFun (e26 11 (by decide)) (24)).trans (Eq.trans (congrFun (upd2_ne (by decide)) (24)) (Eq.trans (congrFun (upd2_ne (by decide)) (24)) (((congrFun (e22 11 (by decide)) (24)).trans (((congrFun (e18 11 (by decide)) (24)).trans (((congrFun (e14 11 (by decide)) (24)).trans (Eq.trans (congrFun (upd2_ne (by decide)) (24)) (Eq.trans (congrFun (upd2_ne (by decide)) (24)) (((congrFun (e10 11 (by decide)) (24)).trans (((congrFun (e6 11 (by decide)) (24)).trans (((congrFun (e2 11 (by decide)) (24)).trans (Eq.trans (congrFun (upd2_ne (by decide)) (24)) (Eq.trans (congrFun (upd2_ne (by decide)) (24)) (f8 24 (by decide) (by decide) (by decide) (by decide)))))))))))))))))))))))))))))))))))))))))))))))))))))))))))))))))))) ?_
  refine aw_iadd d_M_allWait_20 ?_
  refine aw_top (x2 := nI 0) (by decide +kernel) ?_
  refine aw_istore_n (lv2 := [.ref 1, .int (nI 0), .int (nI 4)]) rfl (by decide) rfl d_M_allWait_21 ?_
  refine aw_iinc (v := nI 5) (lv2 := [.ref 1, .int (nI 0), .int (nI 5)]) rfl (by decide +kernel) (by decide) rfl d_M_allWait_22 ?_
  refine aw_goto (tgt := 4) (by decide) d_M_allWait_25 ?_
  refine aw_iload_n rfl rfl d_M_allWait_4 ?_
  refine aw_bipush (v := nI 8) cb_8 d_M_allWait_5 ?_
  refine aw_icmp_gtI (tgt := 28) (5) (8) (by decide +kernel) (by decide +kernel) (by decide) d_M_allWait_7 (fun q => absurd q (by decide)) (fun _ => ?_)
  refine aw_iload_n rfl rfl d_M_allWait_10 ?_
  refine aw_aload_n rfl rfl d_M_allWait_11 ?_
  refine aw_getr fl_M_40 kc_1 (by decide) rfl rc_1_8 d_M_allWait_12 ?_
  refine aw_bipush (v := nI 20) cb_20 d_M_allWait_15 ?_
  refine aw_iload_n rfl rfl d_M_allWait_17 ?_
  refine aw_iadd d_M_allWait_18 ?_
  refine aw_top (x2 := nI 25) (by decide +kernel) ?_
  refine aw_iald (j := 25) kc_11 (vp_in_nI (by decide) (by decide)) (nI_clamp (by decide)) d_M_allWait_19 ?_
  refine aw_top (x2 := nI 0) (((congrFun (fr103 11 (by decide)) (25)).trans (Eq.trans (congrFun (upd2_ne (by decide)) (25)) (Eq.trans (congrFun (upd2_ne (by decide)) (25)) (Eq.trans (congrFun (upd2_ne (by decide)) (25)) (Eq.trans (congrFun (upd2_ne (by decide)) (25)) (((congrFun (e98 11 (by decide)) (25)).trans (((congrFun (e94 11 (by decide)) (25)).trans (((congrFun (e90 11 (by decide)) (25)).trans (((congrFun (e86 11 (by decide)) (25)).trans (((congrFun (e82 11 (by decide)) (25)).trans (((congrFun (e78 11 (by decide)) (25)).trans (((congrFun (e74 11 (by decide)) (25)).trans (((congrFun (e70 11 (by decide)) (25)).trans (((congrFun (e66 11 (by decide)) (25)).trans (((congrFun (e62 11 (by decide)) (25)).trans (((congrFun (e58 11 (by decide)) (25)).trans (((congrFun (e54 11 (by decide)) (25)).trans (((congrFun (e50 11 (by decide)) (25)).trans (Eq.trans (congrFun (upd2_ne (by decide)) (25)) (Eq.trans (congrFun (upd2_ne (by decide)) (25)) (((congrFun (e46 11 (by decide)) (25)).trans (((congrFun (e42 11 (by decide)) (25)).trans (((congrFun (e38 11 (by decide)) (25)).trans (Eq.trans (congrFun (upd2_ne (by decide)) (25)) (Eq.trans (congrFun (upd2_ne (by decide)) (25)) (((congrFun (e34 11 (by decide)) (25)).trans (((congrFun (e30 11 (by decide)) (25)).trans (((congrFun (e26 11 (by decide)) (25)).trans (Eq.trans (congrFun (upd2_ne (by decide)) (25)) (Eq.trans (congrFun (upd2_ne (by decide)) (25)) (((congrFun (e22 11 (by decide)) (25)).trans (((congrFun (e18 11 (by decide)) (25)).trans (((congrFun (e14 11 (by decide)) (25)).trans (Eq.trans (congrFun (upd2_ne (by decide)) (25)) (Eq.trans (congrFun (upd2_ne (by decide)) (25)) (((congrFun (e10 11 (by decide)) (25)).trans (((congrFun (e6 11 (by decide)) (25)).trans (((congrFun (e2 11 (by decide)) (25)).trans (Eq.trans (congrFun (upd2_ne (by decide)) (25)) (Eq.trans (congrFun (upd2_ne (by decide)) (25)) (f8 25 (by decide) (by decide) (by decide) (by decide)))))))))))))))))))))))))))))))))))))))))))))))))))))))))))))))))))) ?_
  refine aw_iadd d_M_allWait_20 ?_
  refine aw_top (x2 := nI 0) (by decide +kernel) ?_
  refine aw_istore_n (lv2 := [.ref 1, .int (nI 0), .int (nI 5)]) rfl (by decide) rfl d_M_allWait_21 ?_
  refine aw_iinc (v := nI 6) (lv2 := [.ref 1, .int (nI 0), .int (nI 6)]) rfl (by decide +kernel) (by decide) rfl d_M_allWait_22 ?_
  refine aw_goto (tgt := 4) (by decide) d_M_allWait_25 ?_
  refine aw_iload_n rfl rfl d_M_allWait_4 ?_
  refine aw_bipush (v := nI 8) cb_8 d_M_allWait_5 ?_
  refine aw_icmp_gtI (tgt := 28) (6) (8) (by decide +kernel) (by decide +kernel) (by decide) d_M_allWait_7 (fun q => absurd q (by decide)) (fun _ => ?_)
  refine aw_iload_n rfl rfl d_M_allWait_10 ?_
  refine aw_aload_n rfl rfl d_M_allWait_11 ?_
  refine aw_getr fl_M_40 kc_1 (by decide) rfl rc_1_8 d_M_allWait_12 ?_
  refine aw_bipush (v := nI 20) cb_20 d_M_allWait_15 ?_
  refine aw_iload_n rfl rfl d_M_allWait_17 ?_
  refine aw_iadd d_M_allWait_18 ?_
  refine aw_top (x2 := nI 26) (by decide +kernel) ?_
  refine aw_iald (j := 26) kc_11 (vp_in_nI (by decide) (by decide)) (nI_clamp (by decide)) d_M_allWait_19 ?_
  refine aw_top (x2 := nI 0) (((congrFun (fr103 11 (by decide)) (26)).trans (Eq.trans (congrFun (upd2_ne (by decide)) (26)) (Eq.trans (congrFun (upd2_ne (by decide)) (26)) (Eq.trans (congrFun (upd2_ne (by decide)) (26)) (Eq.trans (congrFun (upd2_ne (by decide)) (26)) (((congrFun (e98 11 (by decide)) (26)).trans (((congrFun (e94 11 (by decide)) (26)).trans (((congrFun (e90 11 (by decide)) (26)).trans (((congrFun (e86 11 (by decide)) (26)).trans (((congrFun (e82 11 (by decide)) (26)).trans (((congrFun (e78 11 (by decide)) (26)).trans (((congrFun (e74 11 (by decide)) (26)).trans (((congrFun (e70 11 (by decide)) (26)).trans (((congrFun (e66 11 (by decide)) (26)).trans (((congrFun (e62 11 (by decide)) (26)).trans (((congrFun (e58 11 (by decide)) (26)).trans (((congrFun (e54 11 (by decide)) (26)).trans (((congrFun (e50 11 (by decide)) (26)).trans (Eq.trans (congrFun (upd2_ne (by decide)) (26)) (Eq.trans (congrFun (upd2_ne (by decide)) (26)) (((congrFun (e46 11 (by decide)) (26)).trans (((congrFun (e42 11 (by decide)) (26)).trans (((congrFun (e38 11 (by decide)) (26)).trans (Eq.trans (congrFun (upd2_ne (by decide)) (26)) (Eq.trans (congrFun (upd2_ne (by decide)) (26)) (((congrFun (e34 11 (by decide)) (26)).trans (((congrFun (e30 11 (by decide)) (26)).trans (((congrFun (e26 11 (by decide)) (26)).trans (Eq.trans (congrFun (upd2_ne (by decide)) (26)) (Eq.trans (congrFun (upd2_ne (by decide)) (26)) (((congrFun (e22 11 (by decide)) (26)).trans (((congrFun (e18 11 (by decide)) (26)).trans (((congrFun (e14 11 (by decide)) (26)).trans (Eq.trans (congrFun (upd2_ne (by decide)) (26)) (Eq.trans (congrFun (upd2_ne (by decide)) (26)) (((congrFun (e10 11 (by decide)) (26)).trans (((congrFun (e6 11 (by decide)) (26)).trans (((congrFun (e2 11 (by decide)) (26)).trans (Eq.trans (congrFun (upd2_ne (by decide)) (26)) (Eq.trans (congrFun (upd2_ne (by decide)) (26)) (f8 26 (by decide) (by decide) (by decide) (by decide)))))))))))))))))))))))))))))))))))))))))))))))))))))))))))))))))))) ?_
  refine aw_iadd d_M_allWait_20 ?_
  refine aw_top (x2 := nI 0) (by decide +kernel) ?_
  refine aw_istore_n (lv2 := [.ref 1, .int (nI 0), .int (nI 6)]) rfl (by decide) rfl d_M_allWait_21 ?_
  refine aw_iinc (v := nI 7) (lv2 := [.ref 1, .int (nI 0), .int (nI 7)]) rfl (by decide +kernel) (by decide) rfl d_M_allWait_22 ?_
  refine aw_goto (tgt := 4) (by decide) d_M_allWait_25 ?_
  refine aw_iload_n rfl rfl d_M_allWait_4 ?_
  refine aw_bipush (v := nI 8) cb_8 d_M_allWait_5 ?_
  refine aw_icmp_gtI (tgt := 28) (7) (8) (by decide +kernel) (by decide +kernel) (by decide) d_M_allWait_7 (fun q => absurd q (by decide)) (fun _ => ?_)
  refine aw_iload_n rfl rfl d_M_allWait_10 ?_
  refine aw_aload_n rfl rfl d_M_allWait_11 ?_
  refine aw_getr fl_M_40 kc_1 (by decide) rfl rc_1_8 d_M_allWait_12 ?_
  refine aw_bipush (v := nI 20) cb_20 d_M_allWait_15 ?_
  refine aw_iload_n rfl rfl d_M_allWait_17 ?_
  refine aw_iadd d_M_allWait_18 ?_
  refine aw_top (x2 := nI 27) (by decide +kernel) ?_
  refine aw_iald (j := 27) kc_11 (vp_in_nI (by decide) (by decide)) (nI_clamp (by decide)) d_M_allWait_19 ?_
  refine aw_top (x2 := nI 0) (((congrFun (fr103 11 (by decide)) (27)).trans (Eq.trans (congrFun (upd2_ne (by decide)) (27)) (Eq.trans (congrFun (upd2_ne (by decide)) (27)) (Eq.trans (congrFun (upd2_ne (by decide)) (27)) (Eq.trans (congrFun (upd2_ne (by decide)) (27)) (((congrFun (e98 11 (by decide)) (27)).trans (((congrFun (e94 11 (by decide)) (27)).trans (((congrFun (e90 11 (by decide)) (27)).trans (((congrFun (e86 11 (by decide)) (27)).trans (((congrFun (e82 11 (by decide)) (27)).trans (((congrFun (e78 11 (by decide)) (27)).trans (((congrFun (e74 11 (by decide)) (27)).trans (((congrFun (e70 11 (by decide)) (27)).trans (((congrFun (e66 11 (by decide)) (27)).trans (((congrFun (e62 11 (by decide)) (27)).trans (((congrFun (e58 11 (by decide)) (27)).trans (((congrFun (e54 11 (by decide)) (27)).trans (((congrFun (e50 11 (by decide)) (27)).trans (Eq.trans (congrFun (upd2_ne (by decide)) (27)) (Eq.trans (congrFun (upd2_ne (by decide)) (27)) (((congrFun (e46 11 (by decide)) (27)).trans (((congrFun (e42 11 (by decide)) (27)).trans (((congrFun (e38 11 (by decide)) (27)).trans (Eq.trans (congrFun (upd2_ne (by decide)) (27)) (Eq.trans (congrFun (upd2_ne (by decide)) (27)) (((congrFun (e34 11 (by decide)) (27)).trans (((congrFun (e30 11 (by decide)) (27)).trans (((congrFun (e26 11 (by decide)) (27)).trans (Eq.trans (congrFun (upd2_ne (by decide)) (27)) (Eq.trans (congrFun (upd2_ne (by decide)) (27)) (((congrFun (e22 11 (by decide)) (27)).trans (((congrFun (e18 11 (by decide)) (27)).trans (((congrFun (e14 11 (by decide)) (27)).trans (Eq.trans (congrFun (upd2_ne (by decide)) (27)) (Eq.trans (congrFun (upd2_ne (by decide)) (27)) (((congrFun (e10 11 (by decide)) (27)).trans (((congrFun (e6 11 (by decide)) (27)).trans (((congrFun (e2 11 (by decide)) (27)).trans (Eq.trans (congrFun (upd2_ne (by decide)) (27)) (Eq.trans (congrFun (upd2_ne (by decide)) (27)) (f8 27 (by decide) (by decide) (by decide) (by decide)))))))))))))))))))))))))))))))))))))))))))))))))))))))))))))))))))) ?_
  refine aw_iadd d_M_allWait_20 ?_
  refine aw_top (x2 := nI 0) (by decide +kernel) ?_
  refine aw_istore_n (lv2 := [.ref 1, .int (nI 0), .int (nI 7)]) rfl (by decide) rfl d_M_allWait_21 ?_
  refine aw_iinc (v := nI 8) (lv2 := [.ref 1, .int (nI 0), .int (nI 8)]) rfl (by decide +kernel) (by decide) rfl d_M_allWait_22 ?_
  refine aw_goto (tgt := 4) (by decide) d_M_allWait_25 ?_
  refine aw_iload_n rfl rfl d_M_allWait_4 ?_
  refine aw_bipush (v := nI 8) cb_8 d_M_allWait_5 ?_
  refine aw_icmp_gtI (tgt := 28) (8) (8) (by decide +kernel) (by decide +kernel) (by decide) d_M_allWait_7 (fun q => absurd q (by decide)) (fun _ => ?_)
  refine aw_iload_n rfl rfl d_M_allWait_10 ?_
  refine aw_aload_n rfl rfl d_M_allWait_11 ?_
  refine aw_getr fl_M_40 kc_1 (by decide) rfl rc_1_8 d_M_allWait_12 ?_
  refine aw_bipush (v := nI 20) cb_20 d_M_allWait_15 ?_
  refine aw_iload_n rfl rfl d_M_allWait_17 ?_
  refine aw_iadd d_M_allWait_18 ?_
  refine aw_top (x2 := nI 28) (by decide +kernel) ?_
  refine aw_iald (j := 28) kc_11 (vp_in_nI (by decide) (by decide)) (nI_clamp (by decide)) d_M_allWait_19 ?_
  refine aw_top (x2 := nI 0) (((congrFun (fr103 11 (by decide)) (28)).trans (Eq.trans (congrFun (upd2_ne (by decide)) (28)) (Eq.trans (congrFun (upd2_ne (by decide)) (28)) (Eq.trans (congrFun (upd2_ne (by decide)) (28)) (Eq.trans (congrFun (upd2_ne (by decide)) (28)) (((congrFun (e98 11 (by decide)) (28)).trans (((congrFun (e94 11 (by decide)) (28)).trans (((congrFun (e90 11 (by decide)) (28)).trans (((congrFun (e86 11 (by decide)) (28)).trans (((congrFun (e82 11 (by decide)) (28)).trans (((congrFun (e78 11 (by decide)) (28)).trans (((congrFun (e74 11 (by decide)) (28)).trans (((congrFun (e70 11 (by decide)) (28)).trans (((congrFun (e66 11 (by decide)) (28)).trans (((congrFun (e62 11 (by decide)) (28)).trans (((congrFun (e58 11 (by decide)) (28)).trans (((congrFun (e54 11 (by decide)) (28)).trans (((congrFun (e50 11 (by decide)) (28)).trans (Eq.trans (congrFun (upd2_ne (by decide)) (28)) (Eq.trans (congrFun (upd2_ne (by decide)) (28)) (((congrFun (e46 11 (by decide)) (28)).trans (((congrFun (e42 11 (by decide)) (28)).trans (((congrFun (e38 11 (by decide)) (28)).trans (Eq.trans (congrFun (upd2_ne (by decide)) (28)) (Eq.trans (congrFun (upd2_ne (by decide)) (28)) (((congrFun (e34 11 (by decide)) (28)).trans (((congrFun (e30 11 (by decide)) (28)).trans (((congrFun (e26 11 (by decide)) (28)).trans (Eq.trans (congrFun (upd2_ne (by decide)) (28)) (Eq.trans (congrFun (upd2_ne (by decide)) (28)) (((congrFun (e22 11 (by decide)) (28)).trans (((congrFun (e18 11 (by decide)) (28)).trans (((congrFun (e14 11 (by decide)) (28)).trans (Eq.trans (congrFun (upd2_ne (by decide)) (28)) (Eq.trans (congrFun (upd2_ne (by decide)) (28)) (((congrFun (e10 11 (by decide)) (28)).trans (((congrFun (e6 11 (by decide)) (28)).trans (((congrFun (e2 11 (by decide)) (28)).trans (Eq.trans (congrFun (upd2_ne (by decide)) (28)) (Eq.trans (congrFun (upd2_ne (by decide)) (28)) (f8 28 (by decide) (by decide) (by decide) (by decide)))))))))))))))))))))))))))))))))))))))))))))))))))))))))))))))))))) ?_
  refine aw_iadd d_M_allWait_20 ?_
  refine aw_top (x2 := nI 0) (by decide +kernel) ?_
  refine aw_istore_n (lv2 := [.ref 1, .int (nI 0), .int (nI 8)]) rfl (by decide) rfl d_M_allWait_21 ?_
  refine aw_iinc (v := nI 9) (lv2 := [.ref 1, .int (nI 0), .int (nI 9)]) rfl (by decide +kernel) (by decide) rfl d_M_allWait_22 ?_
  refine aw_goto (tgt := 4) (by decide) d_M_allWait_25 ?_
  refine aw_iload_n rfl rfl d_M_allWait_4 ?_
  refine aw_bipush (v := nI 8) cb_8 d_M_allWait_5 ?_
  refine aw_icmp_gtI (tgt := 28) (9) (8) (by decide +kernel) (by decide +kernel) (by decide) d_M_allWait_7 (fun _ => ?_) (fun q => absurd q (by decide))
  refine aw_iload_n rfl rfl d_M_allWait_28 ?_
  refine as_reti rfl d_M_allWait_29 ?_
  refine (show As l b 9 y_M_gained KC RC _ (I101) 81 [.ref 81, .ref 1, .int (nI 2)] [.int (nI 0), .int (nI 0)] from ?_)
  refine aw_isub d_M_gained_81 ?_
  refine aw_top (x2 := nI 0) (by decide +kernel) ?_
  refine as_reti rfl d_M_gained_82 ?_
  refine (show As l b 10 y_M_bestSet KC RC K2 (I101) 54 [.ref 81, .ref 1, .int (nI (n0)), .int (what), .int (nI 0), .int (nI (((0 + n0 * 4) - 0))), uu] [.int (nI 0)] from ?_)
  refine aw_istore (lv2 := [.ref 81, .ref 1, .int (nI (n0)), .int (what), .int (nI 0), .int (nI (((0 + n0 * 4) - 0))), .int (nI 0)]) (by decide) rfl d_M_bestSet_54 ?_
  refine aw_iload rfl d_M_bestSet_56 ?_
  refine aw_if_eqI (tgt := 94) (0) (by decide +kernel) (by decide) d_M_bestSet_58 (fun _ => ?_) (fun q => absurd q (by decide))
  refine aw_aload_n rfl rfl d_M_bestSet_94 ?_
  refine aw_getr fl_M_25 kc_81 (by decide) rfl rc_81_2 d_M_bestSet_95 ?_
  refine aw_iconst (v := nI 0) ci_0 d_M_bestSet_98 ?_
  refine aw_iload rfl d_M_bestSet_99 ?_
  refine aw_iast (j := 0) kc_129 (vp_in_nI (by decide) (by decide)) (nI_clamp (by decide)) d_M_bestSet_101 ?_
  refine aw_aload_n rfl rfl d_M_bestSet_102 ?_
  refine aw_getr fl_M_25 kc_81 (by decide) rfl rc_81_2 d_M_bestSet_103 ?_
  refine aw_iconst (v := nI 1) ci_1 d_M_bestSet_106 ?_
  refine aw_iload rfl d_M_bestSet_107 ?_
  refine aw_iast (j := 1) kc_129 (vp_in_nI (by decide) (by decide)) (nI_clamp (by decide)) d_M_bestSet_109 ?_
  refine aw_aload_n rfl rfl d_M_bestSet_110 ?_
  refine aw_getr fl_M_25 kc_81 (by decide) rfl rc_81_2 d_M_bestSet_111 ?_
  refine aw_iconst (v := nI 2) ci_2 d_M_bestSet_114 ?_
  refine aw_iload rfl d_M_bestSet_115 ?_
  refine aw_iast (j := 2) kc_129 (vp_in_nI (by decide) (by decide)) (nI_clamp (by decide)) d_M_bestSet_117 ?_
  refine aw_iinc (v := nI 1) (lv2 := [.ref 81, .ref 1, .int (nI (n0)), .int (what), .int (nI 1), .int (nI (((0 + n0 * 4) - 0))), .int (nI 0)]) rfl (by decide +kernel) (by decide) rfl d_M_bestSet_118 ?_
  refine aw_goto (tgt := 3) (by decide) d_M_bestSet_121 ?_
  exact lp_which hn0 hw hg 15 1 (upd2 (upd2 (upd2 I101 129 (0) (nI 0)) 129 (1) (nI (((0 + n0 * 4) - 0)))) 129 (2) (nI 0)) (nI (((0 + n0 * 4) - 0))) (nI 0) (by omega) (by omega) (show FH 1 (upd2 (upd2 (upd2 I101 129 (0) (nI 0)) 129 (1) (nI (((0 + n0 * 4) - 0)))) 129 (2) (nI 0)) (4) (0) (0) (0) from ⟨fun j hj => (Eq.trans (congrFun (upd2_ne (by decide)) (j)) (Eq.trans (congrFun (upd2_ne (by decide)) (j)) (Eq.trans (congrFun (upd2_ne (by decide)) (j)) (((congrFun (fr103 5 (by decide)) (j)).trans (Eq.trans (congrFun (upd2_ne (by decide)) (j)) (Eq.trans (congrFun (upd2_ne (by decide)) (j)) (Eq.trans (congrFun (upd2_ne (by decide)) (j)) (Eq.trans (congrFun (upd2_ne (by decide)) (j)) (((congrFun (e98 5 (by decide)) (j)).trans (((congrFun (e94 5 (by decide)) (j)).trans (((congrFun (e90 5 (by decide)) (j)).trans (((congrFun (e86 5 (by decide)) (j)).trans (((congrFun (e82 5 (by decide)) (j)).trans (((congrFun (e78 5 (by decide)) (j)).trans (((congrFun (e74 5 (by decide)) (j)).trans (((congrFun (e70 5 (by decide)) (j)).trans (((congrFun (e66 5 (by decide)) (j)).trans (((congrFun (e62 5 (by decide)) (j)).trans (((congrFun (e58 5 (by decide)) (j)).trans (((congrFun (e54 5 (by decide)) (j)).trans (((congrFun (e50 5 (by decide)) (j)).trans (Eq.trans (congrFun (upd2_ne (by decide)) (j)) (Eq.trans (congrFun (upd2_ne (by decide)) (j)) (((congrFun (e46 5 (by decide)) (j)).trans (((congrFun (e42 5 (by decide)) (j)).trans (((congrFun (e38 5 (by decide)) (j)).trans (Eq.trans (congrFun (upd2_ne (by decide)) (j)) (Eq.trans (congrFun (upd2_ne (by decide)) (j)) (((congrFun (e34 5 (by decide)) (j)).trans (((congrFun (e30 5 (by decide)) (j)).trans (((congrFun (e26 5 (by decide)) (j)).trans (Eq.trans (congrFun (upd2_ne (by decide)) (j)) (Eq.trans (congrFun (upd2_ne (by decide)) (j)) (((congrFun (e22 5 (by decide)) (j)).trans (((congrFun (e18 5 (by decide)) (j)).trans (((congrFun (e14 5 (by decide)) (j)).trans (Eq.trans (congrFun (upd2_ne (by decide)) (j)) (Eq.trans (congrFun (upd2_ne (by decide)) (j)) (((congrFun (e10 5 (by decide)) (j)).trans (((congrFun (e6 5 (by decide)) (j)).trans (((congrFun (e2 5 (by decide)) (j)).trans (Eq.trans (congrFun (upd2_ne (by decide)) (j)) (Eq.trans (congrFun (upd2_ne (by decide)) (j)) (f0 j (by omega))))))))))))))))))))))))))))))))))))))))))))))))))))))))))))))))))))))), fun j hj => (Eq.trans (congrFun (upd2_ne (by decide)) (j)) (Eq.trans (congrFun (upd2_ne (by decide)) (j)) (Eq.trans (congrFun (upd2_ne (by decide)) (j)) (((congrFun (fr103 9 (by decide)) (j)).trans (Eq.trans (congrFun (upd2_ne (by decide)) (j)) (Eq.trans (congrFun (upd2_ne (by decide)) (j)) (Eq.trans (congrFun (upd2_ne (by decide)) (j)) (Eq.trans (congrFun (upd2_ne (by decide)) (j)) (((congrFun (e98 9 (by decide)) (j)).trans (((congrFun (e94 9 (by decide)) (j)).trans (((congrFun (e90 9 (by decide)) (j)).trans (((congrFun (e86 9 (by decide)) (j)).trans (((congrFun (e82 9 (by decide)) (j)).trans (((congrFun (e78 9 (by decide)) (j)).trans (((congrFun (e74 9 (by decide)) (j)).trans (((congrFun (e70 9 (by decide)) (j)).trans (((congrFun (e66 9 (by decide)) (j)).trans (((congrFun (e62 9 (by decide)) (j)).trans (((congrFun (e58 9 (by decide)) (j)).trans (((congrFun (e54 9 (by decide)) (j)).trans (((congrFun (e50 9 (by decide)) (j)).trans (Eq.trans (congrFun (upd2_ne (by decide)) (j)) (Eq.trans (congrFun (upd2_ne (by decide)) (j)) (((congrFun (e46 9 (by decide)) (j)).trans (((congrFun (e42 9 (by decide)) (j)).trans (((congrFun (e38 9 (by decide)) (j)).trans (Eq.trans (congrFun (upd2_ne (by decide)) (j)) (Eq.trans (congrFun (upd2_ne (by decide)) (j)) (((congrFun (e34 9 (by decide)) (j)).trans (((congrFun (e30 9 (by decide)) (j)).trans (((congrFun (e26 9 (by decide)) (j)).trans (Eq.trans (congrFun (upd2_ne (by decide)) (j)) (Eq.trans (congrFun (upd2_ne (by decide)) (j)) (((congrFun (e22 9 (by decide)) (j)).trans (((congrFun (e18 9 (by decide)) (j)).trans (((congrFun (e14 9 (by decide)) (j)).trans (Eq.trans (congrFun (upd2_ne (by decide)) (j)) (Eq.trans (congrFun (upd2_ne (by decide)) (j)) (((congrFun (e10 9 (by decide)) (j)).trans (((congrFun (e6 9 (by decide)) (j)).trans (((congrFun (e2 9 (by decide)) (j)).trans (Eq.trans (congrFun (upd2_ne (by decide)) (j)) (Eq.trans (congrFun (upd2_ne (by decide)) (j)) (f1 (j) (by omega))))))))))))))))))))))))))))))))))))))))))))))))))))))))))))))))))))))), fun j hj => (Eq.trans (congrFun (upd2_ne (by decide)) (j)) (Eq.trans (congrFun (upd2_ne (by decide)) (j)) (Eq.trans (congrFun (upd2_ne (by decide)) (j)) (((congrFun (fr103 10 (by decide)) (j)).trans (Eq.trans (congrFun (upd2_ne (by decide)) (j)) (Eq.trans (congrFun (upd2_ne (by decide)) (j)) (Eq.trans (congrFun (upd2_ne (by decide)) (j)) (Eq.trans (congrFun (upd2_ne (by decide)) (j)) (((congrFun (e98 10 (by decide)) (j)).trans (((congrFun (e94 10 (by decide)) (j)).trans (((congrFun (e90 10 (by decide)) (j)).trans (((congrFun (e86 10 (by decide)) (j)).trans (((congrFun (e82 10 (by decide)) (j)).trans (((congrFun (e78 10 (by decide)) (j)).trans (((congrFun (e74 10 (by decide)) (j)).trans (((congrFun (e70 10 (by decide)) (j)).trans (((congrFun (e66 10 (by decide)) (j)).trans (((congrFun (e62 10 (by decide)) (j)).trans (((congrFun (e58 10 (by decide)) (j)).trans (((congrFun (e54 10 (by decide)) (j)).trans (((congrFun (e50 10 (by decide)) (j)).trans (Eq.trans (congrFun (upd2_ne (by decide)) (j)) (Eq.trans (congrFun (upd2_ne (by decide)) (j)) (((congrFun (e46 10 (by decide)) (j)).trans (((congrFun (e42 10 (by decide)) (j)).trans (((congrFun (e38 10 (by decide)) (j)).trans (Eq.trans (congrFun (upd2_ne (by decide)) (j)) (Eq.trans (congrFun (upd2_ne (by decide)) (j)) (((congrFun (e34 10 (by decide)) (j)).trans (((congrFun (e30 10 (by decide)) (j)).trans (((congrFun (e26 10 (by decide)) (j)).trans (Eq.trans (congrFun (upd2_ne (by decide)) (j)) (Eq.trans (congrFun (upd2_ne (by decide)) (j)) (((congrFun (e22 10 (by decide)) (j)).trans (((congrFun (e18 10 (by decide)) (j)).trans (((congrFun (e14 10 (by decide)) (j)).trans (Eq.trans (congrFun (upd2_ne (by decide)) (j)) (Eq.trans (congrFun (upd2_ne (by decide)) (j)) (((congrFun (e10 10 (by decide)) (j)).trans (((congrFun (e6 10 (by decide)) (j)).trans (((congrFun (e2 10 (by decide)) (j)).trans (Eq.trans (congrFun (upd2_ne (by decide)) (j)) (Eq.trans (congrFun (upd2_ne (by decide)) (j)) (f2 (j) (by omega))))))))))))))))))))))))))))))))))))))))))))))))))))))))))))))))))))))), (Eq.trans (congrFun (upd2_ne (by decide)) (0)) (Eq.trans (congrFun (upd2_ne (by decide)) (0)) (Eq.trans (congrFun (upd2_ne (by decide)) (0)) (((congrFun (fr103 2 (by decide)) (0)).trans (Eq.trans (congrFun (upd2_ne (by decide)) (0)) (Eq.trans (congrFun (upd2_ne (by decide)) (0)) (Eq.trans (congrFun (upd2_ne (by decide)) (0)) (Eq.trans (congrFun (upd2_ne (by decide)) (0)) (((congrFun (e98 2 (by decide)) (0)).trans (((congrFun (e94 2 (by decide)) (0)).trans (((congrFun (e90 2 (by decide)) (0)).trans (((congrFun (e86 2 (by decide)) (0)).trans (((congrFun (e82 2 (by decide)) (0)).trans (((congrFun (e78 2 (by decide)) (0)).trans (((congrFun (e74 2 (by decide)) (0)).trans (((congrFun (e70 2 (by decide)) (0)).trans (((congrFun (e66 2 (by decide)) (0)).trans (((congrFun (e62 2 (by decide)) (0)).trans (((congrFun (e58 2 (by decide)) (0)).trans (((congrFun (e54 2 (by decide)) (0)).trans (((congrFun (e50 2 (by decide)) (0)).trans (Eq.trans (congrFun (upd2_ne (by decide)) (0)) (Eq.trans (congrFun (upd2_ne (by decide)) (0)) (((congrFun (e46 2 (by decide)) (0)).trans (((congrFun (e42 2 (by decide)) (0)).trans (((congrFun (e38 2 (by decide)) (0)).trans (Eq.trans (congrFun (upd2_ne (by decide)) (0)) (Eq.trans (congrFun (upd2_ne (by decide)) (0)) (((congrFun (e34 2 (by decide)) (0)).trans (((congrFun (e30 2 (by decide)) (0)).trans (((congrFun (e26 2 (by decide)) (0)).trans (Eq.trans (congrFun (upd2_ne (by decide)) (0)) (Eq.trans (congrFun (upd2_ne (by decide)) (0)) (((congrFun (e22 2 (by decide)) (0)).trans (((congrFun (e18 2 (by decide)) (0)).trans (((congrFun (e14 2 (by decide)) (0)).trans (Eq.trans (congrFun (upd2_ne (by decide)) (0)) (Eq.trans (congrFun (upd2_ne (by decide)) (0)) (((congrFun (e10 2 (by decide)) (0)).trans (((congrFun (e6 2 (by decide)) (0)).trans (((congrFun (e2 2 (by decide)) (0)).trans (Eq.trans (congrFun (upd2_ne (by decide)) (0)) (Eq.trans (congrFun (upd2_ne (by decide)) (0)) (f3)))))))))))))))))))))))))))))))))))))))))))))))))))))))))))))))))))))), (Eq.trans (congrFun (upd2_ne (by decide)) (3)) (Eq.trans (congrFun (upd2_ne (by decide)) (3)) (Eq.trans (congrFun (upd2_ne (by decide)) (3)) (((congrFun (fr103 2 (by decide)) (3)).trans (Eq.trans (congrFun (upd2_ne (by decide)) (3)) (Eq.trans (congrFun (upd2_ne (by decide)) (3)) (Eq.trans (congrFun (upd2_ne (by decide)) (3)) (Eq.trans (congrFun (upd2_ne (by decide)) (3)) (((congrFun (e98 2 (by decide)) (3)).trans (((congrFun (e94 2 (by decide)) (3)).trans (((congrFun (e90 2 (by decide)) (3)).trans (((congrFun (e86 2 (by decide)) (3)).trans (((congrFun (e82 2 (by decide)) (3)).trans (((congrFun (e78 2 (by decide)) (3)).trans (((congrFun (e74 2 (by decide)) (3)).trans (((congrFun (e70 2 (by decide)) (3)).trans (((congrFun (e66 2 (by decide)) (3)).trans (((congrFun (e62 2 (by decide)) (3)).trans (((congrFun (e58 2 (by decide)) (3)).trans (((congrFun (e54 2 (by decide)) (3)).trans (((congrFun (e50 2 (by decide)) (3)).trans (Eq.trans (congrFun (upd2_ne (by decide)) (3)) (Eq.trans (congrFun (upd2_ne (by decide)) (3)) (((congrFun (e46 2 (by decide)) (3)).trans (((congrFun (e42 2 (by decide)) (3)).trans (((congrFun (e38 2 (by decide)) (3)).trans (Eq.trans (congrFun (upd2_ne (by decide)) (3)) (Eq.trans (congrFun (upd2_ne (by decide)) (3)) (((congrFun (e34 2 (by decide)) (3)).trans (((congrFun (e30 2 (by decide)) (3)).trans (((congrFun (e26 2 (by decide)) (3)).trans (Eq.trans (congrFun (upd2_ne (by decide)) (3)) (Eq.trans (congrFun (upd2_ne (by decide)) (3)) (((congrFun (e22 2 (by decide)) (3)).trans (((congrFun (e18 2 (by decide)) (3)).trans (((congrFun (e14 2 (by decide)) (3)).trans (Eq.trans (congrFun (upd2_ne (by decide)) (3)) (Eq.trans (congrFun (upd2_ne (by decide)) (3)) (((congrFun (e10 2 (by decide)) (3)).trans (((congrFun (e6 2 (by decide)) (3)).trans (((congrFun (e2 2 (by decide)) (3)).trans (Eq.trans (congrFun (upd2_ne (by decide)) (3)) (Eq.trans (congrFun (upd2_ne (by decide)) (3)) (f4)))))))))))))))))))))))))))))))))))))))))))))))))))))))))))))))))))))), (Eq.trans (congrFun (upd2_ne (by decide)) (5)) (Eq.trans (congrFun (upd2_ne (by decide)) (5)) (Eq.trans (congrFun (upd2_ne (by decide)) (5)) (((congrFun (fr103 2 (by decide)) (5)).trans (Eq.trans (congrFun (upd2_ne (by decide)) (5)) (Eq.trans (congrFun (upd2_ne (by decide)) (5)) (Eq.trans (congrFun (upd2_ne (by decide)) (5)) (Eq.trans (congrFun (upd2_ne (by decide)) (5)) (((congrFun (e98 2 (by decide)) (5)).trans (((congrFun (e94 2 (by decide)) (5)).trans (((congrFun (e90 2 (by decide)) (5)).trans (((congrFun (e86 2 (by decide)) (5)).trans (((congrFun (e82 2 (by decide)) (5)).trans (((congrFun (e78 2 (by decide)) (5)).trans (((congrFun (e74 2 (by decide)) (5)).trans (((congrFun (e70 2 (by decide)) (5)).trans (((congrFun (e66 2 (by decide)) (5)).trans (((congrFun (e62 2 (by decide)) (5)).trans (((congrFun (e58 2 (by decide)) (5)).trans (((congrFun (e54 2 (by decide)) (5)).trans (((congrFun (e50 2 (by decide)) (5)).trans (Eq.trans (congrFun (upd2_ne (by decide)) (5)) (Eq.trans (congrFun (upd2_ne (by decide)) (5)) (((congrFun (e46 2 (by decide)) (5)).trans (((congrFun (e42 2 (by decide)) (5)).trans (((congrFun (e38 2 (by decide)) (5)).trans (Eq.trans (congrFun (upd2_ne (by decide)) (5)) (Eq.trans (congrFun (upd2_ne (by decide)) (5)) (((congrFun (e34 2 (by decide)) (5)).trans (((congrFun (e30 2 (by decide)) (5)).trans (((congrFun (e26 2 (by decide)) (5)).trans (Eq.trans (congrFun (upd2_ne (by decide)) (5)) (Eq.trans (congrFun (upd2_ne (by decide)) (5)) (((congrFun (e22 2 (by decide)) (5)).trans (((congrFun (e18 2 (by decide)) (5)).trans (((congrFun (e14 2 (by decide)) (5)).trans (Eq.trans (congrFun (upd2_ne (by decide)) (5)) (Eq.trans (congrFun (upd2_ne (by decide)) (5)) (((congrFun (e10 2 (by decide)) (5)).trans (((congrFun (e6 2 (by decide)) (5)).trans (((congrFun (e2 2 (by decide)) (5)).trans (Eq.trans (congrFun (upd2_ne (by decide)) (5)) (Eq.trans (congrFun (upd2_ne (by decide)) (5)) (f5)))))))))))))))))))))))))))))))))))))))))))))))))))))))))))))))))))))), (Eq.trans (congrFun (upd2_ne (by decide)) (1)) (Eq.trans (congrFun (upd2_ne (by decide)) (1)) (Eq.trans (congrFun (upd2_ne (by decide)) (1)) (((congrFun (fr103 11 (by decide)) (1)).trans (Eq.trans (congrFun (upd2_ne (by decide)) (1)) (Eq.trans (congrFun (upd2_ne (by decide)) (1)) (Eq.trans (congrFun (upd2_ne (by decide)) (1)) (Eq.trans (congrFun (upd2_ne (by decide)) (1)) (((congrFun (e98 11 (by decide)) (1)).trans (((congrFun (e94 11 (by decide)) (1)).trans (((congrFun (e90 11 (by decide)) (1)).trans (((congrFun (e86 11 (by decide)) (1)).trans (((congrFun (e82 11 (by decide)) (1)).trans (((congrFun (e78 11 (by decide)) (1)).trans (((congrFun (e74 11 (by decide)) (1)).trans (((congrFun (e70 11 (by decide)) (1)).trans (((congrFun (e66 11 (by decide)) (1)).trans (((congrFun (e62 11 (by decide)) (1)).trans (((congrFun (e58 11 (by decide)) (1)).trans (((congrFun (e54 11 (by decide)) (1)).trans (((congrFun (e50 11 (by decide)) (1)).trans (Eq.trans (congrFun (upd2_ne (by decide)) (1)) (Eq.trans (congrFun (upd2_ne (by decide)) (1)) (((congrFun (e46 11 (by decide)) (1)).trans (((congrFun (e42 11 (by decide)) (1)).trans (((congrFun (e38 11 (by decide)) (1)).trans (Eq.trans (congrFun (upd2_ne (by decide)) (1)) (Eq.trans (congrFun (upd2_ne (by decide)) (1)) (((congrFun (e34 11 (by decide)) (1)).trans (((congrFun (e30 11 (by decide)) (1)).trans (((congrFun (e26 11 (by decide)) (1)).trans (Eq.trans (congrFun (upd2_ne (by decide)) (1)) (Eq.trans (congrFun (upd2_ne (by decide)) (1)) (((congrFun (e22 11 (by decide)) (1)).trans (((congrFun (e18 11 (by decide)) (1)).trans (((congrFun (e14 11 (by decide)) (1)).trans (Eq.trans (congrFun (upd2_ne (by decide)) (1)) (Eq.trans (congrFun (upd2_ne (by decide)) (1)) (((congrFun (e10 11 (by decide)) (1)).trans (((congrFun (e6 11 (by decide)) (1)).trans (((congrFun (e2 11 (by decide)) (1)).trans (Eq.trans (congrFun (upd2_ne (by decide)) (1)) (Eq.trans (congrFun (upd2_ne (by decide)) (1)) (f6)))))))))))))))))))))))))))))))))))))))))))))))))))))))))))))))))))))), (Eq.trans (congrFun (upd2_ne (by decide)) (0)) (Eq.trans (congrFun (upd2_ne (by decide)) (0)) (Eq.trans (congrFun (upd2_ne (by decide)) (0)) (((congrFun (fr103 11 (by decide)) (0)).trans (Eq.trans (congrFun (upd2_ne (by decide)) (0)) (Eq.trans (congrFun (upd2_ne (by decide)) (0)) (Eq.trans (congrFun (upd2_ne (by decide)) (0)) (Eq.trans (congrFun (upd2_ne (by decide)) (0)) (((congrFun (e98 11 (by decide)) (0)).trans (((congrFun (e94 11 (by decide)) (0)).trans (((congrFun (e90 11 (by decide)) (0)).trans (((congrFun (e86 11 (by decide)) (0)).trans (((congrFun (e82 11 (by decide)) (0)).trans (((congrFun (e78 11 (by decide)) (0)).trans (((congrFun (e74 11 (by decide)) (0)).trans (((congrFun (e70 11 (by decide)) (0)).trans (((congrFun (e66 11 (by decide)) (0)).trans (((congrFun (e62 11 (by decide)) (0)).trans (((congrFun (e58 11 (by decide)) (0)).trans (((congrFun (e54 11 (by decide)) (0)).trans (((congrFun (e50 11 (by decide)) (0)).trans (Eq.trans (congrFun (upd2_ne (by decide)) (0)) (Eq.trans (congrFun (upd2_ne (by decide)) (0)) (((congrFun (e46 11 (by decide)) (0)).trans (((congrFun (e42 11 (by decide)) (0)).trans (((congrFun (e38 11 (by decide)) (0)).trans (Eq.trans (congrFun (upd2_ne (by decide)) (0)) (Eq.trans (congrFun (upd2_ne (by decide)) (0)) (((congrFun (e34 11 (by decide)) (0)).trans (((congrFun (e30 11 (by decide)) (0)).trans (((congrFun (e26 11 (by decide)) (0)).trans (Eq.trans (congrFun (upd2_ne (by decide)) (0)) (Eq.trans (congrFun (upd2_ne (by decide)) (0)) (((congrFun (e22 11 (by decide)) (0)).trans (((congrFun (e18 11 (by decide)) (0)).trans (((congrFun (e14 11 (by decide)) (0)).trans (Eq.trans (congrFun (upd2_ne (by decide)) (0)) (Eq.trans (congrFun (upd2_ne (by decide)) (0)) (((congrFun (e10 11 (by decide)) (0)).trans (((congrFun (e6 11 (by decide)) (0)).trans (((congrFun (e2 11 (by decide)) (0)).trans (Eq.trans (congrFun (upd2_ne (by decide)) (0)) (Eq.trans (congrFun (upd2_ne (by decide)) (0)) (f7)))))))))))))))))))))))))))))))))))))))))))))))))))))))))))))))))))))), fun j hj a1 a2 a3 => (Eq.trans (congrFun (upd2_ne (by decide)) (j)) (Eq.trans (congrFun (upd2_ne (by decide)) (j)) (Eq.trans (congrFun (upd2_ne (by decide)) (j)) (((congrFun (fr103 11 (by decide)) (j)).trans (Eq.trans (congrFun (upd2_ne (by decide)) (j)) (Eq.trans (congrFun (upd2_ne (by decide)) (j)) (Eq.trans (congrFun (upd2_ne (by decide)) (j)) (Eq.trans (congrFun (upd2_ne (by decide)) (j)) (((congrFun (e98 11 (by decide)) (j)).trans (((congrFun (e94 11 (by decide)) (j)).trans (((congrFun (e90 11 (by decide)) (j)).trans (((congrFun (e86 11 (by decide)) (j)).trans (((congrFun (e82 11 (by decide)) (j)).trans (((congrFun (e78 11 (by decide)) (j)).trans (((congrFun (e74 11 (by decide)) (j)).trans (((congrFun (e70 11 (by decide)) (j)).trans (((congrFun (e66 11 (by decide)) (j)).trans (((congrFun (e62 11 (by decide)) (j)).trans (((congrFun (e58 11 (by decide)) (j)).trans (((congrFun (e54 11 (by decide)) (j)).trans (((congrFun (e50 11 (by decide)) (j)).trans (Eq.trans (congrFun (upd2_ne (by decide)) (j)) (Eq.trans (congrFun (upd2_ne (by decide)) (j)) (((congrFun (e46 11 (by decide)) (j)).trans (((congrFun (e42 11 (by decide)) (j)).trans (((congrFun (e38 11 (by decide)) (j)).trans (Eq.trans (congrFun (upd2_ne (by decide)) (j)) (Eq.trans (congrFun (upd2_ne (by decide)) (j)) (((congrFun (e34 11 (by decide)) (j)).trans (((congrFun (e30 11 (by decide)) (j)).trans (((congrFun (e26 11 (by decide)) (j)).trans (Eq.trans (congrFun (upd2_ne (by decide)) (j)) (Eq.trans (congrFun (upd2_ne (by decide)) (j)) (((congrFun (e22 11 (by decide)) (j)).trans (((congrFun (e18 11 (by decide)) (j)).trans (((congrFun (e14 11 (by decide)) (j)).trans (Eq.trans (congrFun (upd2_ne (by decide)) (j)) (Eq.trans (congrFun (upd2_ne (by decide)) (j)) (((congrFun (e10 11 (by decide)) (j)).trans (((congrFun (e6 11 (by decide)) (j)).trans (((congrFun (e2 11 (by decide)) (j)).trans (Eq.trans (congrFun (upd2_ne (by decide)) (j)) (Eq.trans (congrFun (upd2_ne (by decide)) (j)) ((f8 (j) (by omega) (by omega) (by omega) (by omega)))))))))))))))))))))))))))))))))))))))))))))))))))))))))))))))))))))))), (Eq.trans (congrFun (upd2_ne (by decide)) (4)) (Eq.trans (congrFun (upd2_ne (by decide)) (4)) (Eq.trans (congrFun (upd2_ne (by decide)) (4)) (((congrFun (fr103 16 (by decide)) (4)).trans (Eq.trans (congrFun (upd2_ne (by decide)) (4)) (Eq.trans (congrFun (upd2_ne (by decide)) (4)) (Eq.trans (congrFun (upd2_ne (by decide)) (4)) (Eq.trans (congrFun (upd2_ne (by decide)) (4)) (((congrFun (e98 16 (by decide)) (4)).trans (((congrFun (e94 16 (by decide)) (4)).trans (((congrFun (e90 16 (by decide)) (4)).trans (((congrFun (e86 16 (by decide)) (4)).trans (((congrFun (e82 16 (by decide)) (4)).trans (((congrFun (e78 16 (by decide)) (4)).trans (((congrFun (e74 16 (by decide)) (4)).trans (((congrFun (e70 16 (by decide)) (4)).trans (((congrFun (e66 16 (by decide)) (4)).trans (((congrFun (e62 16 (by decide)) (4)).trans (((congrFun (e58 16 (by decide)) (4)).trans (((congrFun (e54 16 (by decide)) (4)).trans (((congrFun (e50 16 (by decide)) (4)).trans (Eq.trans (congrFun (upd2_ne (by decide)) (4)) (Eq.trans (congrFun (upd2_ne (by decide)) (4)) (((congrFun (e46 16 (by decide)) (4)).trans (((congrFun (e42 16 (by decide)) (4)).trans (((congrFun (e38 16 (by decide)) (4)).trans (Eq.trans (congrFun (upd2_ne (by decide)) (4)) (Eq.trans (congrFun (upd2_ne (by decide)) (4)) (((congrFun (e34 16 (by decide)) (4)).trans (((congrFun (e30 16 (by decide)) (4)).trans (((congrFun (e26 16 (by decide)) (4)).trans (Eq.trans (congrFun (upd2_ne (by decide)) (4)) (Eq.trans (congrFun (upd2_ne (by decide)) (4)) (((congrFun (e22 16 (by decide)) (4)).trans (((congrFun (e18 16 (by decide)) (4)).trans (((congrFun (e14 16 (by decide)) (4)).trans (Eq.trans (congrFun (upd2_ne (by decide)) (4)) (Eq.trans (congrFun (upd2_ne (by decide)) (4)) (((congrFun (e10 16 (by decide)) (4)).trans (((congrFun (e6 16 (by decide)) (4)).trans (((congrFun (e2 16 (by decide)) (4)).trans (Eq.trans (congrFun (upd2_ne (by decide)) (4)) (Eq.trans (congrFun (upd2_ne (by decide)) (4)) (f9)))))))))))))))))))))))))))))))))))))))))))))))))))))))))))))))))))))), (Eq.trans (congrFun (upd2_ne (by decide)) (4)) (Eq.trans (congrFun (upd2_ne (by decide)) (4)) (Eq.trans (congrFun (upd2_ne (by decide)) (4)) (((congrFun (fr103 21 (by decide)) (4)).trans (Eq.trans (congrFun (upd2_ne (by decide)) (4)) (Eq.trans (congrFun (upd2_ne (by decide)) (4)) (Eq.trans (congrFun (upd2_ne (by decide)) (4)) (Eq.trans (congrFun (upd2_ne (by decide)) (4)) (((congrFun (e98 21 (by decide)) (4)).trans (((congrFun (e94 21 (by decide)) (4)).trans (((congrFun (e90 21 (by decide)) (4)).trans (((congrFun (e86 21 (by decide)) (4)).trans (((congrFun (e82 21 (by decide)) (4)).trans (((congrFun (e78 21 (by decide)) (4)).trans (((congrFun (e74 21 (by decide)) (4)).trans (((congrFun (e70 21 (by decide)) (4)).trans (((congrFun (e66 21 (by decide)) (4)).trans (((congrFun (e62 21 (by decide)) (4)).trans (((congrFun (e58 21 (by decide)) (4)).trans (((congrFun (e54 21 (by decide)) (4)).trans (((congrFun (e50 21 (by decide)) (4)).trans (Eq.trans (congrFun (upd2_ne (by decide)) (4)) (Eq.trans (congrFun (upd2_ne (by decide)) (4)) (((congrFun (e46 21 (by decide)) (4)).trans (((congrFun (e42 21 (by decide)) (4)).trans (((congrFun (e38 21 (by decide)) (4)).trans (Eq.trans (congrFun (upd2_ne (by decide)) (4)) (Eq.trans (congrFun (upd2_ne (by decide)) (4)) (((congrFun (e34 21 (by decide)) (4)).trans (((congrFun (e30 21 (by decide)) (4)).trans (((congrFun (e26 21 (by decide)) (4)).trans (Eq.trans (congrFun (upd2_ne (by decide)) (4)) (Eq.trans (congrFun (upd2_ne (by decide)) (4)) (((congrFun (e22 21 (by decide)) (4)).trans (((congrFun (e18 21 (by decide)) (4)).trans (((congrFun (e14 21 (by decide)) (4)).trans (Eq.trans (congrFun (upd2_ne (by decide)) (4)) (Eq.trans (congrFun (upd2_ne (by decide)) (4)) (((congrFun (e10 21 (by decide)) (4)).trans (((congrFun (e6 21 (by decide)) (4)).trans (((congrFun (e2 21 (by decide)) (4)).trans (Eq.trans (congrFun (upd2_ne (by decide)) (4)) (Eq.trans (congrFun (upd2_ne (by decide)) (4)) (f10)))))))))))))))))))))))))))))))))))))))))))))))))))))))))))))))))))))), (Eq.trans (congrFun (upd2_ne (by decide)) (4)) (Eq.trans (congrFun (upd2_ne (by decide)) (4)) (Eq.trans (congrFun (upd2_ne (by decide)) (4)) (((congrFun (fr103 26 (by decide)) (4)).trans (Eq.trans (congrFun (upd2_ne (by decide)) (4)) (Eq.trans (congrFun (upd2_ne (by decide)) (4)) (Eq.trans (congrFun (upd2_ne (by decide)) (4)) (Eq.trans (congrFun (upd2_ne (by decide)) (4)) (((congrFun (e98 26 (by decide)) (4)).trans (((congrFun (e94 26 (by decide)) (4)).trans (((congrFun (e90 26 (by decide)) (4)).trans (((congrFun (e86 26 (by decide)) (4)).trans (((congrFun (e82 26 (by decide)) (4)).trans (((congrFun (e78 26 (by decide)) (4)).trans (((congrFun (e74 26 (by decide)) (4)).trans (((congrFun (e70 26 (by decide)) (4)).trans (((congrFun (e66 26 (by decide)) (4)).trans (((congrFun (e62 26 (by decide)) (4)).trans (((congrFun (e58 26 (by decide)) (4)).trans (((congrFun (e54 26 (by decide)) (4)).trans (((congrFun (e50 26 (by decide)) (4)).trans (Eq.trans (congrFun (upd2_ne (by decide)) (4)) (Eq.trans (congrFun (upd2_ne (by decide)) (4)) (((congrFun (e46 26 (by decide)) (4)).trans (((congrFun (e42 26 (by decide)) (4)).trans (((congrFun (e38 26 (by decide)) (4)).trans (Eq.trans (congrFun (upd2_ne (by decide)) (4)) (Eq.trans (congrFun (upd2_ne (by decide)) (4)) (((congrFun (e34 26 (by decide)) (4)).trans (((congrFun (e30 26 (by decide)) (4)).trans (((congrFun (e26 26 (by decide)) (4)).trans (Eq.trans (congrFun (upd2_ne (by decide)) (4)) (Eq.trans (congrFun (upd2_ne (by decide)) (4)) (((congrFun (e22 26 (by decide)) (4)).trans (((congrFun (e18 26 (by decide)) (4)).trans (((congrFun (e14 26 (by decide)) (4)).trans (Eq.trans (congrFun (upd2_ne (by decide)) (4)) (Eq.trans (congrFun (upd2_ne (by decide)) (4)) (((congrFun (e10 26 (by decide)) (4)).trans (((congrFun (e6 26 (by decide)) (4)).trans (((congrFun (e2 26 (by decide)) (4)).trans (Eq.trans (congrFun (upd2_ne (by decide)) (4)) (Eq.trans (congrFun (upd2_ne (by decide)) (4)) (f11)))))))))))))))))))))))))))))))))))))))))))))))))))))))))))))))))))))), (Eq.trans (congrFun (upd2_ne (by decide)) (4)) (Eq.trans (congrFun (upd2_ne (by decide)) (4)) (Eq.trans (congrFun (upd2_ne (by decide)) (4)) (((congrFun (fr103 31 (by decide)) (4)).trans (Eq.trans (congrFun (upd2_ne (by decide)) (4)) (Eq.trans (congrFun (upd2_ne (by decide)) (4)) (Eq.trans (congrFun (upd2_ne (by decide)) (4)) (Eq.trans (congrFun (upd2_ne (by decide)) (4)) (((congrFun (e98 31 (by decide)) (4)).trans (((congrFun (e94 31 (by decide)) (4)).trans (((congrFun (e90 31 (by decide)) (4)).trans (((congrFun (e86 31 (by decide)) (4)).trans (((congrFun (e82 31 (by decide)) (4)).trans (((congrFun (e78 31 (by decide)) (4)).trans (((congrFun (e74 31 (by decide)) (4)).trans (((congrFun (e70 31 (by decide)) (4)).trans (((congrFun (e66 31 (by decide)) (4)).trans (((congrFun (e62 31 (by decide)) (4)).trans (((congrFun (e58 31 (by decide)) (4)).trans (((congrFun (e54 31 (by decide)) (4)).trans (((congrFun (e50 31 (by decide)) (4)).trans (Eq.trans (congrFun (upd2_ne (by decide)) (4)) (Eq.trans (congrFun (upd2_ne (by decide)) (4)) (((congrFun (e46 31 (by decide)) (4)).trans (((congrFun (e42 31 (by decide)) (4)).trans (((congrFun (e38 31 (by decide)) (4)).trans (Eq.trans (congrFun (upd2_ne (by decide)) (4)) (Eq.trans (congrFun (upd2_ne (by decide)) (4)) (((congrFun (e34 31 (by decide)) (4)).trans (((congrFun (e30 31 (by decide)) (4)).trans (((congrFun (e26 31 (by decide)) (4)).trans (Eq.trans (congrFun (upd2_ne (by decide)) (4)) (Eq.trans (congrFun (upd2_ne (by decide)) (4)) (((congrFun (e22 31 (by decide)) (4)).trans (((congrFun (e18 31 (by decide)) (4)).trans (((congrFun (e14 31 (by decide)) (4)).trans (Eq.trans (congrFun (upd2_ne (by decide)) (4)) (Eq.trans (congrFun (upd2_ne (by decide)) (4)) (((congrFun (e10 31 (by decide)) (4)).trans (((congrFun (e6 31 (by decide)) (4)).trans (((congrFun (e2 31 (by decide)) (4)).trans (Eq.trans (congrFun (upd2_ne (by decide)) (4)) (Eq.trans (congrFun (upd2_ne (by decide)) (4)) (f12)))))))))))))))))))))))))))))))))))))))))))))))))))))))))))))))))))))), (Eq.trans (congrFun (upd2_ne (by decide)) (4)) (Eq.trans (congrFun (upd2_ne (by decide)) (4)) (Eq.trans (congrFun (upd2_ne (by decide)) (4)) (((congrFun (fr103 36 (by decide)) (4)).trans (Eq.trans (congrFun (upd2_ne (by decide)) (4)) (Eq.trans (congrFun (upd2_ne (by decide)) (4)) (Eq.trans (congrFun (upd2_ne (by decide)) (4)) (Eq.trans (congrFun (upd2_ne (by decide)) (4)) (((congrFun (e98 36 (by decide)) (4)).trans (((congrFun (e94 36 (by decide)) (4)).trans (((congrFun (e90 36 (by decide)) (4)).trans (((congrFun (e86 36 (by decide)) (4)).trans (((congrFun (e82 36 (by decide)) (4)).trans (((congrFun (e78 36 (by decide)) (4)).trans (((congrFun (e74 36 (by decide)) (4)).trans (((congrFun (e70 36 (by decide)) (4)).trans (((congrFun (e66 36 (by decide)) (4)).trans (((congrFun (e62 36 (by decide)) (4)).trans (((congrFun (e58 36 (by decide)) (4)).trans (((congrFun (e54 36 (by decide)) (4)).trans (((congrFun (e50 36 (by decide)) (4)).trans (Eq.trans (congrFun (upd2_ne (by decide)) (4)) (Eq.trans (congrFun (upd2_ne (by decide)) (4)) (((congrFun (e46 36 (by decide)) (4)).trans (((congrFun (e42 36 (by decide)) (4)).trans (((congrFun (e38 36 (by decide)) (4)).trans (Eq.trans (congrFun (upd2_ne (by decide)) (4)) (Eq.trans (congrFun (upd2_ne (by decide)) (4)) (((congrFun (e34 36 (by decide)) (4)).trans (((congrFun (e30 36 (by decide)) (4)).trans (((congrFun (e26 36 (by decide)) (4)).trans (Eq.trans (congrFun (upd2_ne (by decide)) (4)) (Eq.trans (congrFun (upd2_ne (by decide)) (4)) (((congrFun (e22 36 (by decide)) (4)).trans (((congrFun (e18 36 (by decide)) (4)).trans (((congrFun (e14 36 (by decide)) (4)).trans (Eq.trans (congrFun (upd2_ne (by decide)) (4)) (Eq.trans (congrFun (upd2_ne (by decide)) (4)) (((congrFun (e10 36 (by decide)) (4)).trans (((congrFun (e6 36 (by decide)) (4)).trans (((congrFun (e2 36 (by decide)) (4)).trans (Eq.trans (congrFun (upd2_ne (by decide)) (4)) (Eq.trans (congrFun (upd2_ne (by decide)) (4)) (f13)))))))))))))))))))))))))))))))))))))))))))))))))))))))))))))))))))))), (by omega)⟩) (Eq.trans (upd2_nx (by omega)) (Eq.trans (upd2_nx (by omega)) (upd2_eq))) (Eq.trans (Eq.trans (upd2_nx (by omega)) (upd2_eq)) (congrArg nI (show ((0 + n0 * 4) - 0) = n0 * 4 by omega))) (upd2_eq)
set_option maxRecDepth 20000 in
theorem cs_which {K2 : K2T} {I : Nat → Nat → Int32} (hR : FRc I) {x z : Int32} (he : (1 ≤ x.toInt ∧ x.toInt ≤ 20 ∧ 0 ≤ z.toInt ∧ z.toInt ≤ 2) ∧ z.toInt = 1 → ∀ I', K2 (some (.int (nI (x.toInt.toNat * 4)))) I') (hz : (1 ≤ x.toInt ∧ x.toInt ≤ 20 ∧ 0 ≤ z.toInt ∧ z.toInt ≤ 2) ∧ z.toInt ≠ 1 → ∀ I', K2 (some (.int (nI 0))) I') (hb : ¬ (1 ≤ x.toInt ∧ x.toInt ≤ 20 ∧ 0 ≤ z.toInt ∧ z.toInt ≤ 2) → ∀ I', K2 (some (.int (-1))) I') : Ss l b 14 y_S_which KC RC [.ref 0, .int (x), .int (z)] (I) K2 := by
  obtain ⟨hF, r6, r7, r11, t1, t2, t4, hh, tm, h7, h8, h9, q1, q10, q11, im, p0⟩ := hR
  have hF0 := hF
  obtain ⟨f0, f1, f2, f3, f4, f5, f6, f7, f8, f9, f10, f11, f12, f13, fb⟩ := hF
  have f0 : ∀ j, j < 32 → I 5 j = nI 0 := f0
  have f1 : ∀ j, j < 6 → I 9 j = nI 0 := f1
  have f2 : ∀ j, j < 6 → I 10 j = nI 9 := f2
  have f3 : I 2 0 = nI (4) := f3
  have f4 : I 2 3 = nI 0 := f4
  have f5 : I 2 5 = nI (0) := f5
  have f6 : I 11 1 = nI (0) := f6
  have f7 : I 11 0 = nI (0) := f7
  have f8 : ∀ j, j < 40 → j ≠ 0 → j ≠ 1 → j ≠ 3 → I 11 j = nI 0 := f8
  have f9 : I 16 4 = nI 0 := f9
  have f10 : I 21 4 = nI 0 := f10
  have f11 : I 26 4 = nI 0 := f11
  have f12 : I 31 4 = nI 0 := f12
  have f13 : I 36 4 = nI 0 := f13
  refine Ss.of (show As l b 14 y_S_which KC RC K2 (I) 0 [.ref 0, .int (x), .int (z)] [] from ?_)
  refine aw_iload_n rfl rfl d_S_which_0 ?_
  refine aw_iconst (v := nI 1) ci_1 d_S_which_1 ?_
  refine aw_icmp_ltI (tgt := 20) (x).toInt (1) rfl (by decide +kernel) (by decide) d_S_which_2 (fun c1 => ?_) (fun c1 => ?_)
  · refine aw_iconst (v := (-1 : Int32)) rfl d_S_which_20 ?_
    refine aw_goto (tgt := 37) (by decide) d_S_which_21 ?_
    exact as_reti rfl d_S_which_37 (hb (by omega) _)
  · refine aw_iload_n rfl rfl d_S_which_5 ?_
    refine aw_bipush (v := nI 20) cb_20 d_S_which_6 ?_
    refine aw_icmp_gtI (tgt := 20) (x).toInt (20) rfl (by decide +kernel) (by decide) d_S_which_8 (fun c2 => ?_) (fun c2 => ?_)
    · refine aw_iconst (v := (-1 : Int32)) rfl d_S_which_20 ?_
      refine aw_goto (tgt := 37) (by decide) d_S_which_21 ?_
      exact as_reti rfl d_S_which_37 (hb (by omega) _)
    · refine aw_iload_n rfl rfl d_S_which_11 ?_
      refine aw_if_ltI (tgt := 20) (z).toInt rfl (by decide) d_S_which_12 (fun c3 => ?_) (fun c3 => ?_)
      · refine aw_iconst (v := (-1 : Int32)) rfl d_S_which_20 ?_
        refine aw_goto (tgt := 37) (by decide) d_S_which_21 ?_
        exact as_reti rfl d_S_which_37 (hb (by omega) _)
      · refine aw_iload_n rfl rfl d_S_which_15 ?_
        refine aw_iconst (v := nI 2) ci_2 d_S_which_16 ?_
        refine aw_icmp_leI (tgt := 24) (z).toInt (2) rfl (by decide +kernel) (by decide) d_S_which_17 (fun c4 => ?_) (fun c4 => ?_)
        · obtain ⟨w4, hw4, ew4, gw4⟩ := nI_of_range (x := x) (n := 21) (by omega) (by omega)
          subst ew4
          refine aw_aload_n rfl rfl d_S_which_24 ?_
          refine aw_getr fl_S_22 kc_0 (by decide) rfl rc_0_2 d_S_which_25 ?_
          refine aw_aload_n rfl rfl d_S_which_28 ?_
          refine aw_getr fl_S_12 kc_0 (by decide) rfl rc_0_0 d_S_which_29 ?_
          refine aw_iload_n rfl rfl d_S_which_32 ?_
          refine aw_iload_n rfl rfl d_S_which_33 ?_
          refine as_callV (as := [.ref 1, .int (nI (w4)), .int (z)]) (d' := 10) (q := ("SinglesUp$Mind", zT5, 3)) mo_M_bestSet lk_S_246 kc_81 rfl rfl rfl ⟨by decide, by decide⟩ rfl rfl (by decide) d_S_which_34 (sp_bestSet (I := I) (n0 := w4) (what := z) (by omega) ⟨by omega, by omega⟩ (fun I5 => ⟨fun q => ?_, fun q => ?_, fun q => ?_⟩) hF0 )
          · refine (show As l b 14 y_S_which KC RC K2 (I5) 37 [.ref 0, .int (nI (w4)), .int (z)] [.int (nI 0)] from ?_)
            exact as_reti rfl d_S_which_37 (hz (by omega) _)
          · refine (show As l b 14 y_S_which KC RC K2 (I5) 37 [.ref 0, .int (nI (w4)), .int (z)] [.int (nI ((w4 * 4)))] from ?_)
            exact as_reti rfl d_S_which_37 (by have h9 := he (by omega) (I5); rw [gw4] at h9; simpa using h9)
          · refine (show As l b 14 y_S_which KC RC K2 (I5) 37 [.ref 0, .int (nI (w4)), .int (z)] [.int (nI 0)] from ?_)
            exact as_reti rfl d_S_which_37 (hz (by omega) _)
        · refine aw_iconst (v := (-1 : Int32)) rfl d_S_which_20 ?_
          refine aw_goto (tgt := 37) (by decide) d_S_which_21 ?_
          exact as_reti rfl d_S_which_37 (hb (by omega) _)
end
