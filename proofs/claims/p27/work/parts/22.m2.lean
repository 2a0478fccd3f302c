/-! the reference: shallow functions and the machine -/
abbrev y_X_worth : MI := (⟨"SinglesUpModel", "worth", "(IIII)I"⟩, prog_11_method_40_code, 7, some .int)
theorem ck_X_worth_0 : (y_X_worth.2.1.data.toList.drop 0).take 32 = [42, 180, 0, 7, 16, 6, 46, 54, 5, 42, 180, 0, 31, 4, 42, 27, 28, 5, 182, 1, 8, 79, 42, 180, 0, 31, 5, 29, 79, 42, 180, 0] := by decide +kernel
theorem d_X_worth_0 : decode y_X_worth.2.1 0 = .ok (.aload_n 0, 1) := op_aload_n0 (gk (k := 0) (t := 0) ck_X_worth_0 rfl)
theorem d_X_worth_1 : decode y_X_worth.2.1 1 = .ok (.getfield 7, 3) := op_getfield (gk (k := 0) (t := 1) ck_X_worth_0 rfl) (gk (k := 0) (t := 2) ck_X_worth_0 rfl) (gk (k := 0) (t := 3) ck_X_worth_0 rfl) rfl
theorem d_X_worth_4 : decode y_X_worth.2.1 4 = .ok (.bipush 6, 2) := op_bipush (gk (k := 0) (t := 4) ck_X_worth_0 rfl) (gk (k := 0) (t := 5) ck_X_worth_0 rfl) rfl
theorem d_X_worth_6 : decode y_X_worth.2.1 6 = .ok (.iaload, 1) := op_iaload (gk (k := 0) (t := 6) ck_X_worth_0 rfl)
theorem d_X_worth_7 : decode y_X_worth.2.1 7 = .ok (.istore 5, 2) := op_istore (gk (k := 0) (t := 7) ck_X_worth_0 rfl) (gk (k := 0) (t := 8) ck_X_worth_0 rfl) rfl
theorem d_X_worth_9 : decode y_X_worth.2.1 9 = .ok (.aload_n 0, 1) := op_aload_n0 (gk (k := 0) (t := 9) ck_X_worth_0 rfl)
theorem d_X_worth_10 : decode y_X_worth.2.1 10 = .ok (.getfield 31, 3) := op_getfield (gk (k := 0) (t := 10) ck_X_worth_0 rfl) (gk (k := 0) (t := 11) ck_X_worth_0 rfl) (gk (k := 0) (t := 12) ck_X_worth_0 rfl) rfl
theorem d_X_worth_13 : decode y_X_worth.2.1 13 = .ok (.iconst 1, 1) := op_iconst1 (gk (k := 0) (t := 13) ck_X_worth_0 rfl)
theorem d_X_worth_14 : decode y_X_worth.2.1 14 = .ok (.aload_n 0, 1) := op_aload_n0 (gk (k := 0) (t := 14) ck_X_worth_0 rfl)
theorem d_X_worth_15 : decode y_X_worth.2.1 15 = .ok (.iload_n 1, 1) := op_iload_n1 (gk (k := 0) (t := 15) ck_X_worth_0 rfl)
theorem d_X_worth_16 : decode y_X_worth.2.1 16 = .ok (.iload_n 2, 1) := op_iload_n2 (gk (k := 0) (t := 16) ck_X_worth_0 rfl)
theorem d_X_worth_17 : decode y_X_worth.2.1 17 = .ok (.iconst 2, 1) := op_iconst2 (gk (k := 0) (t := 17) ck_X_worth_0 rfl)
theorem lk_X_264 : LkV "SinglesUpModel" 264 y_X_of := ⟨tw_c6 193 (by decide +kernel) rfl, tw_in 64 (by decide +kernel) rfl, Or.inl (tw_c6 191 (by decide +kernel) rfl)⟩
set_option maxRecDepth 100000 in
theorem mo_X_of : MOk y_X_of 3 := ⟨by decide +kernel, tw_c6 194 rfl rfl, tw_c1 12 (by decide +kernel) rfl, by decide +kernel, by decide +kernel, by decide +kernel⟩
theorem d_X_worth_18 : decode y_X_worth.2.1 18 = .ok (.invokevirtual 264, 3) := op_invokevirtual (gk (k := 0) (t := 18) ck_X_worth_0 rfl) (gk (k := 0) (t := 19) ck_X_worth_0 rfl) (gk (k := 0) (t := 20) ck_X_worth_0 rfl) rfl
theorem d_X_worth_21 : decode y_X_worth.2.1 21 = .ok (.iastore, 1) := op_iastore (gk (k := 0) (t := 21) ck_X_worth_0 rfl)
theorem d_X_worth_22 : decode y_X_worth.2.1 22 = .ok (.aload_n 0, 1) := op_aload_n0 (gk (k := 0) (t := 22) ck_X_worth_0 rfl)
theorem d_X_worth_23 : decode y_X_worth.2.1 23 = .ok (.getfield 31, 3) := op_getfield (gk (k := 0) (t := 23) ck_X_worth_0 rfl) (gk (k := 0) (t := 24) ck_X_worth_0 rfl) (gk (k := 0) (t := 25) ck_X_worth_0 rfl) rfl
theorem d_X_worth_26 : decode y_X_worth.2.1 26 = .ok (.iconst 2, 1) := op_iconst2 (gk (k := 0) (t := 26) ck_X_worth_0 rfl)
theorem d_X_worth_27 : decode y_X_worth.2.1 27 = .ok (.iload_n 3, 1) := op_iload_n3 (gk (k := 0) (t := 27) ck_X_worth_0 rfl)
theorem d_X_worth_28 : decode y_X_worth.2.1 28 = .ok (.iastore, 1) := op_iastore (gk (k := 0) (t := 28) ck_X_worth_0 rfl)
theorem d_X_worth_29 : decode y_X_worth.2.1 29 = .ok (.aload_n 0, 1) := op_aload_n0 (gk (k := 0) (t := 29) ck_X_worth_0 rfl)
theorem ck_X_worth_1 : (y_X_worth.2.1.data.toList.drop 32).take 32 = [31, 6, 28, 79, 42, 180, 0, 31, 7, 27, 79, 42, 180, 0, 31, 8, 42, 27, 28, 8, 182, 1, 8, 79, 42, 180, 0, 31, 16, 6, 42, 27] := by decide +kernel
theorem d_X_worth_30 : decode y_X_worth.2.1 30 = .ok (.getfield 31, 3) := op_getfield (gk (k := 0) (t := 30) ck_X_worth_0 rfl) (gk (k := 0) (t := 31) ck_X_worth_0 rfl) (gk (k := 32) (t := 0) ck_X_worth_1 rfl) rfl
theorem d_X_worth_33 : decode y_X_worth.2.1 33 = .ok (.iconst 3, 1) := op_iconst3 (gk (k := 32) (t := 1) ck_X_worth_1 rfl)
theorem d_X_worth_34 : decode y_X_worth.2.1 34 = .ok (.iload_n 2, 1) := op_iload_n2 (gk (k := 32) (t := 2) ck_X_worth_1 rfl)
theorem d_X_worth_35 : decode y_X_worth.2.1 35 = .ok (.iastore, 1) := op_iastore (gk (k := 32) (t := 3) ck_X_worth_1 rfl)
theorem d_X_worth_36 : decode y_X_worth.2.1 36 = .ok (.aload_n 0, 1) := op_aload_n0 (gk (k := 32) (t := 4) ck_X_worth_1 rfl)
theorem d_X_worth_37 : decode y_X_worth.2.1 37 = .ok (.getfield 31, 3) := op_getfield (gk (k := 32) (t := 5) ck_X_worth_1 rfl) (gk (k := 32) (t := 6) ck_X_worth_1 rfl) (gk (k := 32) (t := 7) ck_X_worth_1 rfl) rfl
theorem d_X_worth_40 : decode y_X_worth.2.1 40 = .ok (.iconst 4, 1) := op_iconst4 (gk (k := 32) (t := 8) ck_X_worth_1 rfl)
theorem d_X_worth_41 : decode y_X_worth.2.1 41 = .ok (.iload_n 1, 1) := op_iload_n1 (gk (k := 32) (t := 9) ck_X_worth_1 rfl)
theorem d_X_worth_42 : decode y_X_worth.2.1 42 = .ok (.iastore, 1) := op_iastore (gk (k := 32) (t := 10) ck_X_worth_1 rfl)
theorem d_X_worth_43 : decode y_X_worth.2.1 43 = .ok (.aload_n 0, 1) := op_aload_n0 (gk (k := 32) (t := 11) ck_X_worth_1 rfl)
theorem d_X_worth_44 : decode y_X_worth.2.1 44 = .ok (.getfield 31, 3) := op_getfield (gk (k := 32) (t := 12) ck_X_worth_1 rfl) (gk (k := 32) (t := 13) ck_X_worth_1 rfl) (gk (k := 32) (t := 14) ck_X_worth_1 rfl) rfl
theorem d_X_worth_47 : decode y_X_worth.2.1 47 = .ok (.iconst 5, 1) := op_iconst5 (gk (k := 32) (t := 15) ck_X_worth_1 rfl)
theorem d_X_worth_48 : decode y_X_worth.2.1 48 = .ok (.aload_n 0, 1) := op_aload_n0 (gk (k := 32) (t := 16) ck_X_worth_1 rfl)
theorem d_X_worth_49 : decode y_X_worth.2.1 49 = .ok (.iload_n 1, 1) := op_iload_n1 (gk (k := 32) (t := 17) ck_X_worth_1 rfl)
theorem d_X_worth_50 : decode y_X_worth.2.1 50 = .ok (.iload_n 2, 1) := op_iload_n2 (gk (k := 32) (t := 18) ck_X_worth_1 rfl)
theorem d_X_worth_51 : decode y_X_worth.2.1 51 = .ok (.iconst 5, 1) := op_iconst5 (gk (k := 32) (t := 19) ck_X_worth_1 rfl)
theorem d_X_worth_52 : decode y_X_worth.2.1 52 = .ok (.invokevirtual 264, 3) := op_invokevirtual (gk (k := 32) (t := 20) ck_X_worth_1 rfl) (gk (k := 32) (t := 21) ck_X_worth_1 rfl) (gk (k := 32) (t := 22) ck_X_worth_1 rfl) rfl
theorem d_X_worth_55 : decode y_X_worth.2.1 55 = .ok (.iastore, 1) := op_iastore (gk (k := 32) (t := 23) ck_X_worth_1 rfl)
theorem d_X_worth_56 : decode y_X_worth.2.1 56 = .ok (.aload_n 0, 1) := op_aload_n0 (gk (k := 32) (t := 24) ck_X_worth_1 rfl)
theorem d_X_worth_57 : decode y_X_worth.2.1 57 = .ok (.getfield 31, 3) := op_getfield (gk (k := 32) (t := 25) ck_X_worth_1 rfl) (gk (k := 32) (t := 26) ck_X_worth_1 rfl) (gk (k := 32) (t := 27) ck_X_worth_1 rfl) rfl
theorem d_X_worth_60 : decode y_X_worth.2.1 60 = .ok (.bipush 6, 2) := op_bipush (gk (k := 32) (t := 28) ck_X_worth_1 rfl) (gk (k := 32) (t := 29) ck_X_worth_1 rfl) rfl
theorem d_X_worth_62 : decode y_X_worth.2.1 62 = .ok (.aload_n 0, 1) := op_aload_n0 (gk (k := 32) (t := 30) ck_X_worth_1 rfl)
theorem d_X_worth_63 : decode y_X_worth.2.1 63 = .ok (.iload_n 1, 1) := op_iload_n1 (gk (k := 32) (t := 31) ck_X_worth_1 rfl)
theorem ck_X_worth_2 : (y_X_worth.2.1.data.toList.drop 64).take 32 = [28, 7, 182, 1, 8, 79, 42, 180, 0, 31, 16, 7, 42, 27, 28, 6, 182, 1, 8, 79, 42, 180, 0, 31, 16, 8, 21, 4, 79, 42, 180, 0] := by decide +kernel
theorem d_X_worth_64 : decode y_X_worth.2.1 64 = .ok (.iload_n 2, 1) := op_iload_n2 (gk (k := 64) (t := 0) ck_X_worth_2 rfl)
theorem d_X_worth_65 : decode y_X_worth.2.1 65 = .ok (.iconst 4, 1) := op_iconst4 (gk (k := 64) (t := 1) ck_X_worth_2 rfl)
theorem d_X_worth_66 : decode y_X_worth.2.1 66 = .ok (.invokevirtual 264, 3) := op_invokevirtual (gk (k := 64) (t := 2) ck_X_worth_2 rfl) (gk (k := 64) (t := 3) ck_X_worth_2 rfl) (gk (k := 64) (t := 4) ck_X_worth_2 rfl) rfl
theorem d_X_worth_69 : decode y_X_worth.2.1 69 = .ok (.iastore, 1) := op_iastore (gk (k := 64) (t := 5) ck_X_worth_2 rfl)
theorem d_X_worth_70 : decode y_X_worth.2.1 70 = .ok (.aload_n 0, 1) := op_aload_n0 (gk (k := 64) (t := 6) ck_X_worth_2 rfl)
theorem d_X_worth_71 : decode y_X_worth.2.1 71 = .ok (.getfield 31, 3) := op_getfield (gk (k := 64) (t := 7) ck_X_worth_2 rfl) (gk (k := 64) (t := 8) ck_X_worth_2 rfl) (gk (k := 64) (t := 9) ck_X_worth_2 rfl) rfl
theorem d_X_worth_74 : decode y_X_worth.2.1 74 = .ok (.bipush 7, 2) := op_bipush (gk (k := 64) (t := 10) ck_X_worth_2 rfl) (gk (k := 64) (t := 11) ck_X_worth_2 rfl) rfl
theorem d_X_worth_76 : decode y_X_worth.2.1 76 = .ok (.aload_n 0, 1) := op_aload_n0 (gk (k := 64) (t := 12) ck_X_worth_2 rfl)
theorem d_X_worth_77 : decode y_X_worth.2.1 77 = .ok (.iload_n 1, 1) := op_iload_n1 (gk (k := 64) (t := 13) ck_X_worth_2 rfl)
theorem d_X_worth_78 : decode y_X_worth.2.1 78 = .ok (.iload_n 2, 1) := op_iload_n2 (gk (k := 64) (t := 14) ck_X_worth_2 rfl)
theorem d_X_worth_79 : decode y_X_worth.2.1 79 = .ok (.iconst 3, 1) := op_iconst3 (gk (k := 64) (t := 15) ck_X_worth_2 rfl)
theorem d_X_worth_80 : decode y_X_worth.2.1 80 = .ok (.invokevirtual 264, 3) := op_invokevirtual (gk (k := 64) (t := 16) ck_X_worth_2 rfl) (gk (k := 64) (t := 17) ck_X_worth_2 rfl) (gk (k := 64) (t := 18) ck_X_worth_2 rfl) rfl
theorem d_X_worth_83 : decode y_X_worth.2.1 83 = .ok (.iastore, 1) := op_iastore (gk (k := 64) (t := 19) ck_X_worth_2 rfl)
theorem d_X_worth_84 : decode y_X_worth.2.1 84 = .ok (.aload_n 0, 1) := op_aload_n0 (gk (k := 64) (t := 20) ck_X_worth_2 rfl)
theorem d_X_worth_85 : decode y_X_worth.2.1 85 = .ok (.getfield 31, 3) := op_getfield (gk (k := 64) (t := 21) ck_X_worth_2 rfl) (gk (k := 64) (t := 22) ck_X_worth_2 rfl) (gk (k := 64) (t := 23) ck_X_worth_2 rfl) rfl
theorem d_X_worth_88 : decode y_X_worth.2.1 88 = .ok (.bipush 8, 2) := op_bipush (gk (k := 64) (t := 24) ck_X_worth_2 rfl) (gk (k := 64) (t := 25) ck_X_worth_2 rfl) rfl
theorem d_X_worth_90 : decode y_X_worth.2.1 90 = .ok (.iload 4, 2) := op_iload (gk (k := 64) (t := 26) ck_X_worth_2 rfl) (gk (k := 64) (t := 27) ck_X_worth_2 rfl) rfl
theorem d_X_worth_92 : decode y_X_worth.2.1 92 = .ok (.iastore, 1) := op_iastore (gk (k := 64) (t := 28) ck_X_worth_2 rfl)
theorem d_X_worth_93 : decode y_X_worth.2.1 93 = .ok (.aload_n 0, 1) := op_aload_n0 (gk (k := 64) (t := 29) ck_X_worth_2 rfl)
theorem ck_X_worth_3 : (y_X_worth.2.1.data.toList.drop 96).take 32 = [31, 16, 9, 42, 180, 0, 7, 17, 0, 130, 27, 96, 46, 4, 100, 28, 100, 79, 42, 21, 5, 182, 1, 11, 54, 6, 21, 6, 2, 160, 0, 7] := by decide +kernel
theorem d_X_worth_94 : decode y_X_worth.2.1 94 = .ok (.getfield 31, 3) := op_getfield (gk (k := 64) (t := 30) ck_X_worth_2 rfl) (gk (k := 64) (t := 31) ck_X_worth_2 rfl) (gk (k := 96) (t := 0) ck_X_worth_3 rfl) rfl
theorem d_X_worth_97 : decode y_X_worth.2.1 97 = .ok (.bipush 9, 2) := op_bipush (gk (k := 96) (t := 1) ck_X_worth_3 rfl) (gk (k := 96) (t := 2) ck_X_worth_3 rfl) rfl
theorem d_X_worth_99 : decode y_X_worth.2.1 99 = .ok (.aload_n 0, 1) := op_aload_n0 (gk (k := 96) (t := 3) ck_X_worth_3 rfl)
theorem d_X_worth_100 : decode y_X_worth.2.1 100 = .ok (.getfield 7, 3) := op_getfield (gk (k := 96) (t := 4) ck_X_worth_3 rfl) (gk (k := 96) (t := 5) ck_X_worth_3 rfl) (gk (k := 96) (t := 6) ck_X_worth_3 rfl) rfl
theorem d_X_worth_103 : decode y_X_worth.2.1 103 = .ok (.sipush 130, 3) := op_sipush (gk (k := 96) (t := 7) ck_X_worth_3 rfl) (gk (k := 96) (t := 8) ck_X_worth_3 rfl) (gk (k := 96) (t := 9) ck_X_worth_3 rfl) (by decide +kernel)
theorem d_X_worth_106 : decode y_X_worth.2.1 106 = .ok (.iload_n 1, 1) := op_iload_n1 (gk (k := 96) (t := 10) ck_X_worth_3 rfl)
theorem d_X_worth_107 : decode y_X_worth.2.1 107 = .ok (.iadd, 1) := op_iadd (gk (k := 96) (t := 11) ck_X_worth_3 rfl)
theorem d_X_worth_108 : decode y_X_worth.2.1 108 = .ok (.iaload, 1) := op_iaload (gk (k := 96) (t := 12) ck_X_worth_3 rfl)
theorem d_X_worth_109 : decode y_X_worth.2.1 109 = .ok (.iconst 1, 1) := op_iconst1 (gk (k := 96) (t := 13) ck_X_worth_3 rfl)
theorem d_X_worth_110 : decode y_X_worth.2.1 110 = .ok (.isub, 1) := op_isub (gk (k := 96) (t := 14) ck_X_worth_3 rfl)
theorem d_X_worth_111 : decode y_X_worth.2.1 111 = .ok (.iload_n 2, 1) := op_iload_n2 (gk (k := 96) (t := 15) ck_X_worth_3 rfl)
theorem d_X_worth_112 : decode y_X_worth.2.1 112 = .ok (.isub, 1) := op_isub (gk (k := 96) (t := 16) ck_X_worth_3 rfl)
theorem d_X_worth_113 : decode y_X_worth.2.1 113 = .ok (.iastore, 1) := op_iastore (gk (k := 96) (t := 17) ck_X_worth_3 rfl)
theorem d_X_worth_114 : decode y_X_worth.2.1 114 = .ok (.aload_n 0, 1) := op_aload_n0 (gk (k := 96) (t := 18) ck_X_worth_3 rfl)
theorem d_X_worth_115 : decode y_X_worth.2.1 115 = .ok (.iload 5, 2) := op_iload (gk (k := 96) (t := 19) ck_X_worth_3 rfl) (gk (k := 96) (t := 20) ck_X_worth_3 rfl) rfl
theorem d_X_worth_117 : decode y_X_worth.2.1 117 = .ok (.invokevirtual 267, 3) := op_invokevirtual (gk (k := 96) (t := 21) ck_X_worth_3 rfl) (gk (k := 96) (t := 22) ck_X_worth_3 rfl) (gk (k := 96) (t := 23) ck_X_worth_3 rfl) rfl
theorem d_X_worth_120 : decode y_X_worth.2.1 120 = .ok (.istore 6, 2) := op_istore (gk (k := 96) (t := 24) ck_X_worth_3 rfl) (gk (k := 96) (t := 25) ck_X_worth_3 rfl) rfl
theorem d_X_worth_122 : decode y_X_worth.2.1 122 = .ok (.iload 6, 2) := op_iload (gk (k := 96) (t := 26) ck_X_worth_3 rfl) (gk (k := 96) (t := 27) ck_X_worth_3 rfl) rfl
theorem d_X_worth_124 : decode y_X_worth.2.1 124 = .ok (.iconst (-1), 1) := op_iconstm1 (gk (k := 96) (t := 28) ck_X_worth_3 rfl)
theorem d_X_worth_125 : decode y_X_worth.2.1 125 = .ok (.if_icmp .ne 7, 3) := op_icmp_ne (gk (k := 96) (t := 29) ck_X_worth_3 rfl) (gk (k := 96) (t := 30) ck_X_worth_3 rfl) (gk (k := 96) (t := 31) ck_X_worth_3 rfl) (by decide +kernel)
theorem ck_X_worth_4 : (y_X_worth.2.1.data.toList.drop 128).take 32 = [3, 167, 0, 31, 42, 21, 5, 42, 180, 0, 7, 17, 6, 134, 21, 6, 96, 46, 42, 180, 0, 7, 17, 6, 214, 21, 6, 96, 46, 182, 1, 1] := by decide +kernel
theorem d_X_worth_132 : decode y_X_worth.2.1 132 = .ok (.aload_n 0, 1) := op_aload_n0 (gk (k := 128) (t := 4) ck_X_worth_4 rfl)
theorem d_X_worth_133 : decode y_X_worth.2.1 133 = .ok (.iload 5, 2) := op_iload (gk (k := 128) (t := 5) ck_X_worth_4 rfl) (gk (k := 128) (t := 6) ck_X_worth_4 rfl) rfl
theorem d_X_worth_135 : decode y_X_worth.2.1 135 = .ok (.aload_n 0, 1) := op_aload_n0 (gk (k := 128) (t := 7) ck_X_worth_4 rfl)
theorem d_X_worth_136 : decode y_X_worth.2.1 136 = .ok (.getfield 7, 3) := op_getfield (gk (k := 128) (t := 8) ck_X_worth_4 rfl) (gk (k := 128) (t := 9) ck_X_worth_4 rfl) (gk (k := 128) (t := 10) ck_X_worth_4 rfl) rfl
theorem d_X_worth_139 : decode y_X_worth.2.1 139 = .ok (.sipush 1670, 3) := op_sipush (gk (k := 128) (t := 11) ck_X_worth_4 rfl) (gk (k := 128) (t := 12) ck_X_worth_4 rfl) (gk (k := 128) (t := 13) ck_X_worth_4 rfl) (by decide +kernel)
theorem d_X_worth_142 : decode y_X_worth.2.1 142 = .ok (.iload 6, 2) := op_iload (gk (k := 128) (t := 14) ck_X_worth_4 rfl) (gk (k := 128) (t := 15) ck_X_worth_4 rfl) rfl
theorem d_X_worth_144 : decode y_X_worth.2.1 144 = .ok (.iadd, 1) := op_iadd (gk (k := 128) (t := 16) ck_X_worth_4 rfl)
theorem d_X_worth_145 : decode y_X_worth.2.1 145 = .ok (.iaload, 1) := op_iaload (gk (k := 128) (t := 17) ck_X_worth_4 rfl)
theorem d_X_worth_146 : decode y_X_worth.2.1 146 = .ok (.aload_n 0, 1) := op_aload_n0 (gk (k := 128) (t := 18) ck_X_worth_4 rfl)
theorem d_X_worth_147 : decode y_X_worth.2.1 147 = .ok (.getfield 7, 3) := op_getfield (gk (k := 128) (t := 19) ck_X_worth_4 rfl) (gk (k := 128) (t := 20) ck_X_worth_4 rfl) (gk (k := 128) (t := 21) ck_X_worth_4 rfl) rfl
theorem d_X_worth_150 : decode y_X_worth.2.1 150 = .ok (.sipush 1750, 3) := op_sipush (gk (k := 128) (t := 22) ck_X_worth_4 rfl) (gk (k := 128) (t := 23) ck_X_worth_4 rfl) (gk (k := 128) (t := 24) ck_X_worth_4 rfl) (by decide +kernel)
theorem d_X_worth_153 : decode y_X_worth.2.1 153 = .ok (.iload 6, 2) := op_iload (gk (k := 128) (t := 25) ck_X_worth_4 rfl) (gk (k := 128) (t := 26) ck_X_worth_4 rfl) rfl
theorem d_X_worth_155 : decode y_X_worth.2.1 155 = .ok (.iadd, 1) := op_iadd (gk (k := 128) (t := 27) ck_X_worth_4 rfl)
theorem d_X_worth_156 : decode y_X_worth.2.1 156 = .ok (.iaload, 1) := op_iaload (gk (k := 128) (t := 28) ck_X_worth_4 rfl)
theorem d_X_worth_157 : decode y_X_worth.2.1 157 = .ok (.invokevirtual 257, 3) := op_invokevirtual (gk (k := 128) (t := 29) ck_X_worth_4 rfl) (gk (k := 128) (t := 30) ck_X_worth_4 rfl) (gk (k := 128) (t := 31) ck_X_worth_4 rfl) rfl
theorem ck_X_worth_5 : (y_X_worth.2.1.data.toList.drop 160).take 32 = [172] := by decide +kernel
theorem d_X_worth_160 : decode y_X_worth.2.1 160 = .ok (.ireturn, 1) := op_ireturn (gk (k := 160) (t := 0) ck_X_worth_5 rfl)
theorem d_X_worth_128 : decode y_X_worth.2.1 128 = .ok (.iconst 0, 1) := op_iconst0 (gk (k := 128) (t := 0) ck_X_worth_4 rfl)
theorem d_X_worth_129 : decode y_X_worth.2.1 129 = .ok (.goto 31, 3) := op_goto (gk (k := 128) (t := 1) ck_X_worth_4 rfl) (gk (k := 128) (t := 2) ck_X_worth_4 rfl) (gk (k := 128) (t := 3) ck_X_worth_4 rfl) (by decide +kernel)
abbrev y_X_group : MI := (⟨"SinglesUpModel", "group", "(III)I"⟩, prog_11_method_45_code, 4, some .int)
theorem ck_X_group_0 : (y_X_group.2.1.data.toList.drop 0).take 32 = [27, 184, 0, 105, 153, 0, 23, 28, 3, 16, 39, 184, 0, 98, 153, 0, 13, 29, 3, 16, 6, 184, 0, 98, 154, 0, 7, 19, 1, 28, 172, 28] := by decide +kernel
theorem d_X_group_0 : decode y_X_group.2.1 0 = .ok (.iload_n 1, 1) := op_iload_n1 (gk (k := 0) (t := 0) ck_X_group_0 rfl)
theorem d_X_group_1 : decode y_X_group.2.1 1 = .ok (.invokestatic 105, 3) := op_invokestatic (gk (k := 0) (t := 1) ck_X_group_0 rfl) (gk (k := 0) (t := 2) ck_X_group_0 rfl) (gk (k := 0) (t := 3) ck_X_group_0 rfl) rfl
theorem d_X_group_4 : decode y_X_group.2.1 4 = .ok (.ifCond .eq 23, 3) := op_if_eq (gk (k := 0) (t := 4) ck_X_group_0 rfl) (gk (k := 0) (t := 5) ck_X_group_0 rfl) (gk (k := 0) (t := 6) ck_X_group_0 rfl) (by decide +kernel)
theorem kc_X_284 : Cond.constant "SinglesUpModel" 284 (-1000000) ∈ TW := tw_c6 186 (by decide +kernel) rfl
theorem kc_X_284e : (-1000000 : Int32) = iv (-1000000) := by decide +kernel
theorem d_X_group_27 : decode y_X_group.2.1 27 = .ok (.ldc_w 284, 3) := by decide +kernel
theorem d_X_group_30 : decode y_X_group.2.1 30 = .ok (.ireturn, 1) := op_ireturn (gk (k := 0) (t := 30) ck_X_group_0 rfl)
theorem d_X_group_7 : decode y_X_group.2.1 7 = .ok (.iload_n 2, 1) := op_iload_n2 (gk (k := 0) (t := 7) ck_X_group_0 rfl)
theorem d_X_group_8 : decode y_X_group.2.1 8 = .ok (.iconst 0, 1) := op_iconst0 (gk (k := 0) (t := 8) ck_X_group_0 rfl)
theorem cb_39 : (Int8.ofInt 39).toInt32 = iv 39 := by decide +kernel
theorem d_X_group_9 : decode y_X_group.2.1 9 = .ok (.bipush 39, 2) := op_bipush (gk (k := 0) (t := 9) ck_X_group_0 rfl) (gk (k := 0) (t := 10) ck_X_group_0 rfl) rfl
theorem in_39 : inr (39) := lit_in rfl
theorem d_X_group_11 : decode y_X_group.2.1 11 = .ok (.invokestatic 98, 3) := op_invokestatic (gk (k := 0) (t := 11) ck_X_group_0 rfl) (gk (k := 0) (t := 12) ck_X_group_0 rfl) (gk (k := 0) (t := 13) ck_X_group_0 rfl) rfl
theorem d_X_group_14 : decode y_X_group.2.1 14 = .ok (.ifCond .eq 13, 3) := op_if_eq (gk (k := 0) (t := 14) ck_X_group_0 rfl) (gk (k := 0) (t := 15) ck_X_group_0 rfl) (gk (k := 0) (t := 16) ck_X_group_0 rfl) (by decide +kernel)
theorem d_X_group_17 : decode y_X_group.2.1 17 = .ok (.iload_n 3, 1) := op_iload_n3 (gk (k := 0) (t := 17) ck_X_group_0 rfl)
theorem d_X_group_18 : decode y_X_group.2.1 18 = .ok (.iconst 0, 1) := op_iconst0 (gk (k := 0) (t := 18) ck_X_group_0 rfl)
theorem d_X_group_19 : decode y_X_group.2.1 19 = .ok (.bipush 6, 2) := op_bipush (gk (k := 0) (t := 19) ck_X_group_0 rfl) (gk (k := 0) (t := 20) ck_X_group_0 rfl) rfl
theorem d_X_group_21 : decode y_X_group.2.1 21 = .ok (.invokestatic 98, 3) := op_invokestatic (gk (k := 0) (t := 21) ck_X_group_0 rfl) (gk (k := 0) (t := 22) ck_X_group_0 rfl) (gk (k := 0) (t := 23) ck_X_group_0 rfl) rfl
theorem d_X_group_24 : decode y_X_group.2.1 24 = .ok (.ifCond .ne 7, 3) := op_if_ne (gk (k := 0) (t := 24) ck_X_group_0 rfl) (gk (k := 0) (t := 25) ck_X_group_0 rfl) (gk (k := 0) (t := 26) ck_X_group_0 rfl) (by decide +kernel)
theorem d_X_group_31 : decode y_X_group.2.1 31 = .ok (.iload_n 2, 1) := op_iload_n2 (gk (k := 0) (t := 31) ck_X_group_0 rfl)
theorem ck_X_group_1 : (y_X_group.2.1.data.toList.drop 32).take 32 = [42, 180, 0, 7, 17, 0, 130, 27, 96, 46, 161, 0, 5, 2, 172, 29, 16, 6, 160, 0, 19, 42, 27, 28, 42, 180, 0, 7, 4, 46, 3, 182] := by decide +kernel
theorem d_X_group_32 : decode y_X_group.2.1 32 = .ok (.aload_n 0, 1) := op_aload_n0 (gk (k := 32) (t := 0) ck_X_group_1 rfl)
theorem d_X_group_33 : decode y_X_group.2.1 33 = .ok (.getfield 7, 3) := op_getfield (gk (k := 32) (t := 1) ck_X_group_1 rfl) (gk (k := 32) (t := 2) ck_X_group_1 rfl) (gk (k := 32) (t := 3) ck_X_group_1 rfl) rfl
theorem d_X_group_36 : decode y_X_group.2.1 36 = .ok (.sipush 130, 3) := op_sipush (gk (k := 32) (t := 4) ck_X_group_1 rfl) (gk (k := 32) (t := 5) ck_X_group_1 rfl) (gk (k := 32) (t := 6) ck_X_group_1 rfl) (by decide +kernel)
theorem d_X_group_39 : decode y_X_group.2.1 39 = .ok (.iload_n 1, 1) := op_iload_n1 (gk (k := 32) (t := 7) ck_X_group_1 rfl)
theorem d_X_group_40 : decode y_X_group.2.1 40 = .ok (.iadd, 1) := op_iadd (gk (k := 32) (t := 8) ck_X_group_1 rfl)
theorem d_X_group_41 : decode y_X_group.2.1 41 = .ok (.iaload, 1) := op_iaload (gk (k := 32) (t := 9) ck_X_group_1 rfl)
theorem d_X_group_42 : decode y_X_group.2.1 42 = .ok (.if_icmp .lt 5, 3) := op_icmp_lt (gk (k := 32) (t := 10) ck_X_group_1 rfl) (gk (k := 32) (t := 11) ck_X_group_1 rfl) (gk (k := 32) (t := 12) ck_X_group_1 rfl) (by decide +kernel)
theorem d_X_group_47 : decode y_X_group.2.1 47 = .ok (.iload_n 3, 1) := op_iload_n3 (gk (k := 32) (t := 15) ck_X_group_1 rfl)
theorem d_X_group_48 : decode y_X_group.2.1 48 = .ok (.bipush 6, 2) := op_bipush (gk (k := 32) (t := 16) ck_X_group_1 rfl) (gk (k := 32) (t := 17) ck_X_group_1 rfl) rfl
theorem d_X_group_50 : decode y_X_group.2.1 50 = .ok (.if_icmp .ne 19, 3) := op_icmp_ne (gk (k := 32) (t := 18) ck_X_group_1 rfl) (gk (k := 32) (t := 19) ck_X_group_1 rfl) (gk (k := 32) (t := 20) ck_X_group_1 rfl) (by decide +kernel)
theorem ck_X_group_2 : (y_X_group.2.1.data.toList.drop 64).take 32 = [1, 29, 167, 0, 10, 42, 27, 28, 29, 182, 1, 8, 172] := by decide +kernel
theorem d_X_group_69 : decode y_X_group.2.1 69 = .ok (.aload_n 0, 1) := op_aload_n0 (gk (k := 64) (t := 5) ck_X_group_2 rfl)
theorem d_X_group_70 : decode y_X_group.2.1 70 = .ok (.iload_n 1, 1) := op_iload_n1 (gk (k := 64) (t := 6) ck_X_group_2 rfl)
theorem d_X_group_71 : decode y_X_group.2.1 71 = .ok (.iload_n 2, 1) := op_iload_n2 (gk (k := 64) (t := 7) ck_X_group_2 rfl)
theorem d_X_group_72 : decode y_X_group.2.1 72 = .ok (.iload_n 3, 1) := op_iload_n3 (gk (k := 64) (t := 8) ck_X_group_2 rfl)
theorem d_X_group_73 : decode y_X_group.2.1 73 = .ok (.invokevirtual 264, 3) := op_invokevirtual (gk (k := 64) (t := 9) ck_X_group_2 rfl) (gk (k := 64) (t := 10) ck_X_group_2 rfl) (gk (k := 64) (t := 11) ck_X_group_2 rfl) rfl
theorem d_X_group_76 : decode y_X_group.2.1 76 = .ok (.ireturn, 1) := op_ireturn (gk (k := 64) (t := 12) ck_X_group_2 rfl)
theorem d_X_group_53 : decode y_X_group.2.1 53 = .ok (.aload_n 0, 1) := op_aload_n0 (gk (k := 32) (t := 21) ck_X_group_1 rfl)
theorem d_X_group_54 : decode y_X_group.2.1 54 = .ok (.iload_n 1, 1) := op_iload_n1 (gk (k := 32) (t := 22) ck_X_group_1 rfl)
theorem d_X_group_55 : decode y_X_group.2.1 55 = .ok (.iload_n 2, 1) := op_iload_n2 (gk (k := 32) (t := 23) ck_X_group_1 rfl)
theorem d_X_group_56 : decode y_X_group.2.1 56 = .ok (.aload_n 0, 1) := op_aload_n0 (gk (k := 32) (t := 24) ck_X_group_1 rfl)
theorem d_X_group_57 : decode y_X_group.2.1 57 = .ok (.getfield 7, 3) := op_getfield (gk (k := 32) (t := 25) ck_X_group_1 rfl) (gk (k := 32) (t := 26) ck_X_group_1 rfl) (gk (k := 32) (t := 27) ck_X_group_1 rfl) rfl
theorem d_X_group_60 : decode y_X_group.2.1 60 = .ok (.iconst 1, 1) := op_iconst1 (gk (k := 32) (t := 28) ck_X_group_1 rfl)
theorem d_X_group_61 : decode y_X_group.2.1 61 = .ok (.iaload, 1) := op_iaload (gk (k := 32) (t := 29) ck_X_group_1 rfl)
theorem d_X_group_62 : decode y_X_group.2.1 62 = .ok (.iconst 0, 1) := op_iconst0 (gk (k := 32) (t := 30) ck_X_group_1 rfl)
theorem lk_X_285 : LkV "SinglesUpModel" 285 y_X_worth := ⟨tw_c6 189 (by decide +kernel) rfl, tw_in 63 (by decide +kernel) rfl, Or.inl (tw_c6 187 (by decide +kernel) rfl)⟩
set_option maxRecDepth 100000 in
theorem mo_X_worth : MOk y_X_worth 4 := ⟨by decide +kernel, tw_c6 190 rfl rfl, tw_c1 12 (by decide +kernel) rfl, by decide +kernel, by decide +kernel, by decide +kernel⟩
theorem d_X_group_63 : decode y_X_group.2.1 63 = .ok (.invokevirtual 285, 3) := op_invokevirtual (gk (k := 32) (t := 31) ck_X_group_1 rfl) (gk (k := 64) (t := 0) ck_X_group_2 rfl) (gk (k := 64) (t := 1) ck_X_group_2 rfl) rfl
theorem d_X_group_66 : decode y_X_group.2.1 66 = .ok (.goto 10, 3) := op_goto (gk (k := 64) (t := 2) ck_X_group_2 rfl) (gk (k := 64) (t := 3) ck_X_group_2 rfl) (gk (k := 64) (t := 4) ck_X_group_2 rfl) (by decide +kernel)
theorem d_X_group_45 : decode y_X_group.2.1 45 = .ok (.iconst (-1), 1) := op_iconstm1 (gk (k := 32) (t := 13) ck_X_group_1 rfl)
theorem d_X_group_46 : decode y_X_group.2.1 46 = .ok (.ireturn, 1) := op_ireturn (gk (k := 32) (t := 14) ck_X_group_1 rfl)
abbrev y_X_line : MI := (⟨"SinglesUpModel", "line", "(II)I"⟩, prog_11_method_46_code, 5, some .int)
theorem ck_X_line_0 : (y_X_line.2.1.data.toList.drop 0).take 32 = [27, 184, 0, 105, 153, 0, 12, 28, 3, 4, 184, 0, 98, 154, 0, 5, 2, 172, 3, 62, 3, 54, 4, 21, 4, 42, 180, 0, 7, 17, 0, 130] := by decide +kernel
theorem d_X_line_0 : decode y_X_line.2.1 0 = .ok (.iload_n 1, 1) := op_iload_n1 (gk (k := 0) (t := 0) ck_X_line_0 rfl)
theorem d_X_line_1 : decode y_X_line.2.1 1 = .ok (.invokestatic 105, 3) := op_invokestatic (gk (k := 0) (t := 1) ck_X_line_0 rfl) (gk (k := 0) (t := 2) ck_X_line_0 rfl) (gk (k := 0) (t := 3) ck_X_line_0 rfl) rfl
theorem d_X_line_4 : decode y_X_line.2.1 4 = .ok (.ifCond .eq 12, 3) := op_if_eq (gk (k := 0) (t := 4) ck_X_line_0 rfl) (gk (k := 0) (t := 5) ck_X_line_0 rfl) (gk (k := 0) (t := 6) ck_X_line_0 rfl) (by decide +kernel)
theorem d_X_line_16 : decode y_X_line.2.1 16 = .ok (.iconst (-1), 1) := op_iconstm1 (gk (k := 0) (t := 16) ck_X_line_0 rfl)
theorem d_X_line_17 : decode y_X_line.2.1 17 = .ok (.ireturn, 1) := op_ireturn (gk (k := 0) (t := 17) ck_X_line_0 rfl)
theorem d_X_line_7 : decode y_X_line.2.1 7 = .ok (.iload_n 2, 1) := op_iload_n2 (gk (k := 0) (t := 7) ck_X_line_0 rfl)
theorem d_X_line_8 : decode y_X_line.2.1 8 = .ok (.iconst 0, 1) := op_iconst0 (gk (k := 0) (t := 8) ck_X_line_0 rfl)
theorem d_X_line_9 : decode y_X_line.2.1 9 = .ok (.iconst 1, 1) := op_iconst1 (gk (k := 0) (t := 9) ck_X_line_0 rfl)
theorem d_X_line_10 : decode y_X_line.2.1 10 = .ok (.invokestatic 98, 3) := op_invokestatic (gk (k := 0) (t := 10) ck_X_line_0 rfl) (gk (k := 0) (t := 11) ck_X_line_0 rfl) (gk (k := 0) (t := 12) ck_X_line_0 rfl) rfl
theorem d_X_line_13 : decode y_X_line.2.1 13 = .ok (.ifCond .ne 5, 3) := op_if_ne (gk (k := 0) (t := 13) ck_X_line_0 rfl) (gk (k := 0) (t := 14) ck_X_line_0 rfl) (gk (k := 0) (t := 15) ck_X_line_0 rfl) (by decide +kernel)
theorem d_X_line_18 : decode y_X_line.2.1 18 = .ok (.iconst 0, 1) := op_iconst0 (gk (k := 0) (t := 18) ck_X_line_0 rfl)
theorem d_X_line_19 : decode y_X_line.2.1 19 = .ok (.istore_n 3, 1) := op_istore_n3 (gk (k := 0) (t := 19) ck_X_line_0 rfl)
theorem d_X_line_20 : decode y_X_line.2.1 20 = .ok (.iconst 0, 1) := op_iconst0 (gk (k := 0) (t := 20) ck_X_line_0 rfl)
theorem d_X_line_21 : decode y_X_line.2.1 21 = .ok (.istore 4, 2) := op_istore (gk (k := 0) (t := 21) ck_X_line_0 rfl) (gk (k := 0) (t := 22) ck_X_line_0 rfl) rfl
theorem d_X_line_23 : decode y_X_line.2.1 23 = .ok (.iload 4, 2) := op_iload (gk (k := 0) (t := 23) ck_X_line_0 rfl) (gk (k := 0) (t := 24) ck_X_line_0 rfl) rfl
theorem d_X_line_25 : decode y_X_line.2.1 25 = .ok (.aload_n 0, 1) := op_aload_n0 (gk (k := 0) (t := 25) ck_X_line_0 rfl)
theorem d_X_line_26 : decode y_X_line.2.1 26 = .ok (.getfield 7, 3) := op_getfield (gk (k := 0) (t := 26) ck_X_line_0 rfl) (gk (k := 0) (t := 27) ck_X_line_0 rfl) (gk (k := 0) (t := 28) ck_X_line_0 rfl) rfl
theorem d_X_line_29 : decode y_X_line.2.1 29 = .ok (.sipush 130, 3) := op_sipush (gk (k := 0) (t := 29) ck_X_line_0 rfl) (gk (k := 0) (t := 30) ck_X_line_0 rfl) (gk (k := 0) (t := 31) ck_X_line_0 rfl) (by decide +kernel)
theorem ck_X_line_1 : (y_X_line.2.1.data.toList.drop 32).take 32 = [27, 96, 46, 162, 0, 20, 29, 42, 27, 21, 4, 4, 182, 1, 8, 96, 62, 132, 4, 1, 167, 255, 227, 28, 154, 0, 16, 42, 180, 0, 7, 17] := by decide +kernel
theorem d_X_line_32 : decode y_X_line.2.1 32 = .ok (.iload_n 1, 1) := op_iload_n1 (gk (k := 32) (t := 0) ck_X_line_1 rfl)
theorem d_X_line_33 : decode y_X_line.2.1 33 = .ok (.iadd, 1) := op_iadd (gk (k := 32) (t := 1) ck_X_line_1 rfl)
theorem d_X_line_34 : decode y_X_line.2.1 34 = .ok (.iaload, 1) := op_iaload (gk (k := 32) (t := 2) ck_X_line_1 rfl)
theorem d_X_line_35 : decode y_X_line.2.1 35 = .ok (.if_icmp .ge 20, 3) := op_icmp_ge (gk (k := 32) (t := 3) ck_X_line_1 rfl) (gk (k := 32) (t := 4) ck_X_line_1 rfl) (gk (k := 32) (t := 5) ck_X_line_1 rfl) (by decide +kernel)
theorem d_X_line_38 : decode y_X_line.2.1 38 = .ok (.iload_n 3, 1) := op_iload_n3 (gk (k := 32) (t := 6) ck_X_line_1 rfl)
theorem d_X_line_39 : decode y_X_line.2.1 39 = .ok (.aload_n 0, 1) := op_aload_n0 (gk (k := 32) (t := 7) ck_X_line_1 rfl)
theorem d_X_line_40 : decode y_X_line.2.1 40 = .ok (.iload_n 1, 1) := op_iload_n1 (gk (k := 32) (t := 8) ck_X_line_1 rfl)
theorem d_X_line_41 : decode y_X_line.2.1 41 = .ok (.iload 4, 2) := op_iload (gk (k := 32) (t := 9) ck_X_line_1 rfl) (gk (k := 32) (t := 10) ck_X_line_1 rfl) rfl
theorem d_X_line_43 : decode y_X_line.2.1 43 = .ok (.iconst 1, 1) := op_iconst1 (gk (k := 32) (t := 11) ck_X_line_1 rfl)
theorem d_X_line_44 : decode y_X_line.2.1 44 = .ok (.invokevirtual 264, 3) := op_invokevirtual (gk (k := 32) (t := 12) ck_X_line_1 rfl) (gk (k := 32) (t := 13) ck_X_line_1 rfl) (gk (k := 32) (t := 14) ck_X_line_1 rfl) rfl
theorem d_X_line_47 : decode y_X_line.2.1 47 = .ok (.iadd, 1) := op_iadd (gk (k := 32) (t := 15) ck_X_line_1 rfl)
theorem d_X_line_48 : decode y_X_line.2.1 48 = .ok (.istore_n 3, 1) := op_istore_n3 (gk (k := 32) (t := 16) ck_X_line_1 rfl)
theorem d_X_line_49 : decode y_X_line.2.1 49 = .ok (.iinc 4 1, 3) := op_iinc (gk (k := 32) (t := 17) ck_X_line_1 rfl) (gk (k := 32) (t := 18) ck_X_line_1 rfl) (gk (k := 32) (t := 19) ck_X_line_1 rfl) rfl rfl
theorem d_X_line_52 : decode y_X_line.2.1 52 = .ok (.goto (-29), 3) := op_goto (gk (k := 32) (t := 20) ck_X_line_1 rfl) (gk (k := 32) (t := 21) ck_X_line_1 rfl) (gk (k := 32) (t := 22) ck_X_line_1 rfl) (by decide +kernel)
theorem d_X_line_55 : decode y_X_line.2.1 55 = .ok (.iload_n 2, 1) := op_iload_n2 (gk (k := 32) (t := 23) ck_X_line_1 rfl)
theorem d_X_line_56 : decode y_X_line.2.1 56 = .ok (.ifCond .ne 16, 3) := op_if_ne (gk (k := 32) (t := 24) ck_X_line_1 rfl) (gk (k := 32) (t := 25) ck_X_line_1 rfl) (gk (k := 32) (t := 26) ck_X_line_1 rfl) (by decide +kernel)
theorem ck_X_line_2 : (y_X_line.2.1.data.toList.drop 64).take 32 = [0, 130, 27, 96, 46, 167, 0, 4, 29, 172] := by decide +kernel
theorem d_X_line_72 : decode y_X_line.2.1 72 = .ok (.iload_n 3, 1) := op_iload_n3 (gk (k := 64) (t := 8) ck_X_line_2 rfl)
theorem d_X_line_73 : decode y_X_line.2.1 73 = .ok (.ireturn, 1) := op_ireturn (gk (k := 64) (t := 9) ck_X_line_2 rfl)
theorem d_X_line_59 : decode y_X_line.2.1 59 = .ok (.aload_n 0, 1) := op_aload_n0 (gk (k := 32) (t := 27) ck_X_line_1 rfl)
theorem d_X_line_60 : decode y_X_line.2.1 60 = .ok (.getfield 7, 3) := op_getfield (gk (k := 32) (t := 28) ck_X_line_1 rfl) (gk (k := 32) (t := 29) ck_X_line_1 rfl) (gk (k := 32) (t := 30) ck_X_line_1 rfl) rfl
theorem d_X_line_63 : decode y_X_line.2.1 63 = .ok (.sipush 130, 3) := op_sipush (gk (k := 32) (t := 31) ck_X_line_1 rfl) (gk (k := 64) (t := 0) ck_X_line_2 rfl) (gk (k := 64) (t := 1) ck_X_line_2 rfl) (by decide +kernel)
theorem d_X_line_66 : decode y_X_line.2.1 66 = .ok (.iload_n 1, 1) := op_iload_n1 (gk (k := 64) (t := 2) ck_X_line_2 rfl)
theorem d_X_line_67 : decode y_X_line.2.1 67 = .ok (.iadd, 1) := op_iadd (gk (k := 64) (t := 3) ck_X_line_2 rfl)
theorem d_X_line_68 : decode y_X_line.2.1 68 = .ok (.iaload, 1) := op_iaload (gk (k := 64) (t := 4) ck_X_line_2 rfl)
theorem d_X_line_69 : decode y_X_line.2.1 69 = .ok (.goto 4, 3) := op_goto (gk (k := 64) (t := 5) ck_X_line_2 rfl) (gk (k := 64) (t := 6) ck_X_line_2 rfl) (gk (k := 64) (t := 7) ck_X_line_2 rfl) (by decide +kernel)
abbrev y_X_pick : MI := (⟨"SinglesUpModel", "pick", "(II)I"⟩, prog_11_method_64_code, 7, some .int)
theorem ck_X_pick_0 : (y_X_pick.2.1.data.toList.drop 0).take 32 = [27, 184, 0, 105, 153, 0, 37, 28, 3, 42, 180, 0, 7, 17, 0, 130, 27, 96, 46, 4, 100, 184, 0, 98, 153, 0, 17, 42, 180, 0, 57, 16] := by decide +kernel
theorem d_X_pick_0 : decode y_X_pick.2.1 0 = .ok (.iload_n 1, 1) := op_iload_n1 (gk (k := 0) (t := 0) ck_X_pick_0 rfl)
theorem d_X_pick_1 : decode y_X_pick.2.1 1 = .ok (.invokestatic 105, 3) := op_invokestatic (gk (k := 0) (t := 1) ck_X_pick_0 rfl) (gk (k := 0) (t := 2) ck_X_pick_0 rfl) (gk (k := 0) (t := 3) ck_X_pick_0 rfl) rfl
theorem d_X_pick_4 : decode y_X_pick.2.1 4 = .ok (.ifCond .eq 37, 3) := op_if_eq (gk (k := 0) (t := 4) ck_X_pick_0 rfl) (gk (k := 0) (t := 5) ck_X_pick_0 rfl) (gk (k := 0) (t := 6) ck_X_pick_0 rfl) (by decide +kernel)
theorem ck_X_pick_1 : (y_X_pick.2.1.data.toList.drop 32).take 32 = [40, 27, 104, 28, 96, 51, 153, 0, 5, 4, 172, 28, 42, 180, 0, 7, 16, 10, 27, 96, 46, 161, 0, 5, 5, 172, 42, 180, 0, 7, 4, 46] := by decide +kernel
theorem d_X_pick_41 : decode y_X_pick.2.1 41 = .ok (.iconst 1, 1) := op_iconst1 (gk (k := 32) (t := 9) ck_X_pick_1 rfl)
theorem d_X_pick_42 : decode y_X_pick.2.1 42 = .ok (.ireturn, 1) := op_ireturn (gk (k := 32) (t := 10) ck_X_pick_1 rfl)
theorem d_X_pick_7 : decode y_X_pick.2.1 7 = .ok (.iload_n 2, 1) := op_iload_n2 (gk (k := 0) (t := 7) ck_X_pick_0 rfl)
theorem d_X_pick_8 : decode y_X_pick.2.1 8 = .ok (.iconst 0, 1) := op_iconst0 (gk (k := 0) (t := 8) ck_X_pick_0 rfl)
theorem d_X_pick_9 : decode y_X_pick.2.1 9 = .ok (.aload_n 0, 1) := op_aload_n0 (gk (k := 0) (t := 9) ck_X_pick_0 rfl)
theorem d_X_pick_10 : decode y_X_pick.2.1 10 = .ok (.getfield 7, 3) := op_getfield (gk (k := 0) (t := 10) ck_X_pick_0 rfl) (gk (k := 0) (t := 11) ck_X_pick_0 rfl) (gk (k := 0) (t := 12) ck_X_pick_0 rfl) rfl
theorem d_X_pick_13 : decode y_X_pick.2.1 13 = .ok (.sipush 130, 3) := op_sipush (gk (k := 0) (t := 13) ck_X_pick_0 rfl) (gk (k := 0) (t := 14) ck_X_pick_0 rfl) (gk (k := 0) (t := 15) ck_X_pick_0 rfl) (by decide +kernel)
theorem d_X_pick_16 : decode y_X_pick.2.1 16 = .ok (.iload_n 1, 1) := op_iload_n1 (gk (k := 0) (t := 16) ck_X_pick_0 rfl)
theorem d_X_pick_17 : decode y_X_pick.2.1 17 = .ok (.iadd, 1) := op_iadd (gk (k := 0) (t := 17) ck_X_pick_0 rfl)
theorem d_X_pick_18 : decode y_X_pick.2.1 18 = .ok (.iaload, 1) := op_iaload (gk (k := 0) (t := 18) ck_X_pick_0 rfl)
theorem d_X_pick_19 : decode y_X_pick.2.1 19 = .ok (.iconst 1, 1) := op_iconst1 (gk (k := 0) (t := 19) ck_X_pick_0 rfl)
theorem d_X_pick_20 : decode y_X_pick.2.1 20 = .ok (.isub, 1) := op_isub (gk (k := 0) (t := 20) ck_X_pick_0 rfl)
theorem d_X_pick_21 : decode y_X_pick.2.1 21 = .ok (.invokestatic 98, 3) := op_invokestatic (gk (k := 0) (t := 21) ck_X_pick_0 rfl) (gk (k := 0) (t := 22) ck_X_pick_0 rfl) (gk (k := 0) (t := 23) ck_X_pick_0 rfl) rfl
theorem d_X_pick_24 : decode y_X_pick.2.1 24 = .ok (.ifCond .eq 17, 3) := op_if_eq (gk (k := 0) (t := 24) ck_X_pick_0 rfl) (gk (k := 0) (t := 25) ck_X_pick_0 rfl) (gk (k := 0) (t := 26) ck_X_pick_0 rfl) (by decide +kernel)
theorem d_X_pick_27 : decode y_X_pick.2.1 27 = .ok (.aload_n 0, 1) := op_aload_n0 (gk (k := 0) (t := 27) ck_X_pick_0 rfl)
theorem d_X_pick_28 : decode y_X_pick.2.1 28 = .ok (.getfield 57, 3) := op_getfield (gk (k := 0) (t := 28) ck_X_pick_0 rfl) (gk (k := 0) (t := 29) ck_X_pick_0 rfl) (gk (k := 0) (t := 30) ck_X_pick_0 rfl) rfl
theorem d_X_pick_31 : decode y_X_pick.2.1 31 = .ok (.bipush 40, 2) := op_bipush (gk (k := 0) (t := 31) ck_X_pick_0 rfl) (gk (k := 32) (t := 0) ck_X_pick_1 rfl) rfl
theorem d_X_pick_33 : decode y_X_pick.2.1 33 = .ok (.iload_n 1, 1) := op_iload_n1 (gk (k := 32) (t := 1) ck_X_pick_1 rfl)
theorem d_X_pick_34 : decode y_X_pick.2.1 34 = .ok (.imul, 1) := op_imul (gk (k := 32) (t := 2) ck_X_pick_1 rfl)
theorem d_X_pick_35 : decode y_X_pick.2.1 35 = .ok (.iload_n 2, 1) := op_iload_n2 (gk (k := 32) (t := 3) ck_X_pick_1 rfl)
theorem d_X_pick_36 : decode y_X_pick.2.1 36 = .ok (.iadd, 1) := op_iadd (gk (k := 32) (t := 4) ck_X_pick_1 rfl)
theorem d_X_pick_37 : decode y_X_pick.2.1 37 = .ok (.baload, 1) := op_baload (gk (k := 32) (t := 5) ck_X_pick_1 rfl)
theorem d_X_pick_38 : decode y_X_pick.2.1 38 = .ok (.ifCond .eq 5, 3) := op_if_eq (gk (k := 32) (t := 6) ck_X_pick_1 rfl) (gk (k := 32) (t := 7) ck_X_pick_1 rfl) (gk (k := 32) (t := 8) ck_X_pick_1 rfl) (by decide +kernel)
theorem d_X_pick_43 : decode y_X_pick.2.1 43 = .ok (.iload_n 2, 1) := op_iload_n2 (gk (k := 32) (t := 11) ck_X_pick_1 rfl)
theorem d_X_pick_44 : decode y_X_pick.2.1 44 = .ok (.aload_n 0, 1) := op_aload_n0 (gk (k := 32) (t := 12) ck_X_pick_1 rfl)
theorem d_X_pick_45 : decode y_X_pick.2.1 45 = .ok (.getfield 7, 3) := op_getfield (gk (k := 32) (t := 13) ck_X_pick_1 rfl) (gk (k := 32) (t := 14) ck_X_pick_1 rfl) (gk (k := 32) (t := 15) ck_X_pick_1 rfl) rfl
theorem d_X_pick_48 : decode y_X_pick.2.1 48 = .ok (.bipush 10, 2) := op_bipush (gk (k := 32) (t := 16) ck_X_pick_1 rfl) (gk (k := 32) (t := 17) ck_X_pick_1 rfl) rfl
theorem d_X_pick_50 : decode y_X_pick.2.1 50 = .ok (.iload_n 1, 1) := op_iload_n1 (gk (k := 32) (t := 18) ck_X_pick_1 rfl)
theorem d_X_pick_51 : decode y_X_pick.2.1 51 = .ok (.iadd, 1) := op_iadd (gk (k := 32) (t := 19) ck_X_pick_1 rfl)
theorem d_X_pick_52 : decode y_X_pick.2.1 52 = .ok (.iaload, 1) := op_iaload (gk (k := 32) (t := 20) ck_X_pick_1 rfl)
theorem d_X_pick_53 : decode y_X_pick.2.1 53 = .ok (.if_icmp .lt 5, 3) := op_icmp_lt (gk (k := 32) (t := 21) ck_X_pick_1 rfl) (gk (k := 32) (t := 22) ck_X_pick_1 rfl) (gk (k := 32) (t := 23) ck_X_pick_1 rfl) (by decide +kernel)
theorem d_X_pick_58 : decode y_X_pick.2.1 58 = .ok (.aload_n 0, 1) := op_aload_n0 (gk (k := 32) (t := 26) ck_X_pick_1 rfl)
theorem d_X_pick_59 : decode y_X_pick.2.1 59 = .ok (.getfield 7, 3) := op_getfield (gk (k := 32) (t := 27) ck_X_pick_1 rfl) (gk (k := 32) (t := 28) ck_X_pick_1 rfl) (gk (k := 32) (t := 29) ck_X_pick_1 rfl) rfl
theorem d_X_pick_62 : decode y_X_pick.2.1 62 = .ok (.iconst 1, 1) := op_iconst1 (gk (k := 32) (t := 30) ck_X_pick_1 rfl)
theorem d_X_pick_63 : decode y_X_pick.2.1 63 = .ok (.iaload, 1) := op_iaload (gk (k := 32) (t := 31) ck_X_pick_1 rfl)
theorem ck_X_pick_2 : (y_X_pick.2.1.data.toList.drop 64).take 32 = [62, 3, 54, 4, 3, 54, 5, 3, 54, 6, 21, 6, 17, 0, 240, 162, 0, 101, 42, 180, 0, 57, 21, 6, 51, 154, 0, 6, 167, 0, 82, 29] := by decide +kernel
theorem d_X_pick_64 : decode y_X_pick.2.1 64 = .ok (.istore_n 3, 1) := op_istore_n3 (gk (k := 64) (t := 0) ck_X_pick_2 rfl)
theorem d_X_pick_65 : decode y_X_pick.2.1 65 = .ok (.iconst 0, 1) := op_iconst0 (gk (k := 64) (t := 1) ck_X_pick_2 rfl)
theorem d_X_pick_66 : decode y_X_pick.2.1 66 = .ok (.istore 4, 2) := op_istore (gk (k := 64) (t := 2) ck_X_pick_2 rfl) (gk (k := 64) (t := 3) ck_X_pick_2 rfl) rfl
theorem d_X_pick_68 : decode y_X_pick.2.1 68 = .ok (.iconst 0, 1) := op_iconst0 (gk (k := 64) (t := 4) ck_X_pick_2 rfl)
theorem d_X_pick_69 : decode y_X_pick.2.1 69 = .ok (.istore 5, 2) := op_istore (gk (k := 64) (t := 5) ck_X_pick_2 rfl) (gk (k := 64) (t := 6) ck_X_pick_2 rfl) rfl
theorem d_X_pick_71 : decode y_X_pick.2.1 71 = .ok (.iconst 0, 1) := op_iconst0 (gk (k := 64) (t := 7) ck_X_pick_2 rfl)
theorem d_X_pick_72 : decode y_X_pick.2.1 72 = .ok (.istore 6, 2) := op_istore (gk (k := 64) (t := 8) ck_X_pick_2 rfl) (gk (k := 64) (t := 9) ck_X_pick_2 rfl) rfl
theorem d_X_pick_74 : decode y_X_pick.2.1 74 = .ok (.iload 6, 2) := op_iload (gk (k := 64) (t := 10) ck_X_pick_2 rfl) (gk (k := 64) (t := 11) ck_X_pick_2 rfl) rfl
theorem d_X_pick_76 : decode y_X_pick.2.1 76 = .ok (.sipush 240, 3) := op_sipush (gk (k := 64) (t := 12) ck_X_pick_2 rfl) (gk (k := 64) (t := 13) ck_X_pick_2 rfl) (gk (k := 64) (t := 14) ck_X_pick_2 rfl) (by decide +kernel)
theorem d_X_pick_79 : decode y_X_pick.2.1 79 = .ok (.if_icmp .ge 101, 3) := op_icmp_ge (gk (k := 64) (t := 15) ck_X_pick_2 rfl) (gk (k := 64) (t := 16) ck_X_pick_2 rfl) (gk (k := 64) (t := 17) ck_X_pick_2 rfl) (by decide +kernel)
theorem d_X_pick_82 : decode y_X_pick.2.1 82 = .ok (.aload_n 0, 1) := op_aload_n0 (gk (k := 64) (t := 18) ck_X_pick_2 rfl)
theorem d_X_pick_83 : decode y_X_pick.2.1 83 = .ok (.getfield 57, 3) := op_getfield (gk (k := 64) (t := 19) ck_X_pick_2 rfl) (gk (k := 64) (t := 20) ck_X_pick_2 rfl) (gk (k := 64) (t := 21) ck_X_pick_2 rfl) rfl
theorem d_X_pick_86 : decode y_X_pick.2.1 86 = .ok (.iload 6, 2) := op_iload (gk (k := 64) (t := 22) ck_X_pick_2 rfl) (gk (k := 64) (t := 23) ck_X_pick_2 rfl) rfl
theorem d_X_pick_88 : decode y_X_pick.2.1 88 = .ok (.baload, 1) := op_baload (gk (k := 64) (t := 24) ck_X_pick_2 rfl)
theorem ck_X_pick_5 : (y_X_pick.2.1.data.toList.drop 160).take 32 = [96, 46, 4, 159, 0, 7, 4, 167, 0, 4, 3, 96, 54, 5, 132, 6, 1, 167, 255, 153, 42, 27, 28, 4, 182, 1, 8, 29, 164, 0, 5, 6] := by decide +kernel
theorem d_X_pick_174 : decode y_X_pick.2.1 174 = .ok (.iinc 6 1, 3) := op_iinc (gk (k := 160) (t := 14) ck_X_pick_5 rfl) (gk (k := 160) (t := 15) ck_X_pick_5 rfl) (gk (k := 160) (t := 16) ck_X_pick_5 rfl) rfl rfl
theorem d_X_pick_177 : decode y_X_pick.2.1 177 = .ok (.goto (-103), 3) := op_goto (gk (k := 160) (t := 17) ck_X_pick_5 rfl) (gk (k := 160) (t := 18) ck_X_pick_5 rfl) (gk (k := 160) (t := 19) ck_X_pick_5 rfl) (by decide +kernel)
theorem d_X_pick_89 : decode y_X_pick.2.1 89 = .ok (.ifCond .ne 6, 3) := op_if_ne (gk (k := 64) (t := 25) ck_X_pick_2 rfl) (gk (k := 64) (t := 26) ck_X_pick_2 rfl) (gk (k := 64) (t := 27) ck_X_pick_2 rfl) (by decide +kernel)
theorem d_X_pick_95 : decode y_X_pick.2.1 95 = .ok (.iload_n 3, 1) := op_iload_n3 (gk (k := 64) (t := 31) ck_X_pick_2 rfl)
theorem ck_X_pick_3 : (y_X_pick.2.1.data.toList.drop 96).take 32 = [42, 180, 0, 7, 17, 0, 140, 16, 6, 21, 6, 104, 96, 4, 96, 46, 100, 62, 21, 4, 42, 180, 0, 7, 17, 0, 140, 16, 6, 21, 6, 104] := by decide +kernel
theorem d_X_pick_96 : decode y_X_pick.2.1 96 = .ok (.aload_n 0, 1) := op_aload_n0 (gk (k := 96) (t := 0) ck_X_pick_3 rfl)
theorem d_X_pick_97 : decode y_X_pick.2.1 97 = .ok (.getfield 7, 3) := op_getfield (gk (k := 96) (t := 1) ck_X_pick_3 rfl) (gk (k := 96) (t := 2) ck_X_pick_3 rfl) (gk (k := 96) (t := 3) ck_X_pick_3 rfl) rfl
theorem d_X_pick_100 : decode y_X_pick.2.1 100 = .ok (.sipush 140, 3) := op_sipush (gk (k := 96) (t := 4) ck_X_pick_3 rfl) (gk (k := 96) (t := 5) ck_X_pick_3 rfl) (gk (k := 96) (t := 6) ck_X_pick_3 rfl) (by decide +kernel)
theorem d_X_pick_103 : decode y_X_pick.2.1 103 = .ok (.bipush 6, 2) := op_bipush (gk (k := 96) (t := 7) ck_X_pick_3 rfl) (gk (k := 96) (t := 8) ck_X_pick_3 rfl) rfl
theorem d_X_pick_105 : decode y_X_pick.2.1 105 = .ok (.iload 6, 2) := op_iload (gk (k := 96) (t := 9) ck_X_pick_3 rfl) (gk (k := 96) (t := 10) ck_X_pick_3 rfl) rfl
theorem d_X_pick_107 : decode y_X_pick.2.1 107 = .ok (.imul, 1) := op_imul (gk (k := 96) (t := 11) ck_X_pick_3 rfl)
theorem d_X_pick_108 : decode y_X_pick.2.1 108 = .ok (.iadd, 1) := op_iadd (gk (k := 96) (t := 12) ck_X_pick_3 rfl)
theorem d_X_pick_109 : decode y_X_pick.2.1 109 = .ok (.iconst 1, 1) := op_iconst1 (gk (k := 96) (t := 13) ck_X_pick_3 rfl)
theorem d_X_pick_110 : decode y_X_pick.2.1 110 = .ok (.iadd, 1) := op_iadd (gk (k := 96) (t := 14) ck_X_pick_3 rfl)
theorem d_X_pick_111 : decode y_X_pick.2.1 111 = .ok (.iaload, 1) := op_iaload (gk (k := 96) (t := 15) ck_X_pick_3 rfl)
theorem d_X_pick_112 : decode y_X_pick.2.1 112 = .ok (.isub, 1) := op_isub (gk (k := 96) (t := 16) ck_X_pick_3 rfl)
theorem d_X_pick_113 : decode y_X_pick.2.1 113 = .ok (.istore_n 3, 1) := op_istore_n3 (gk (k := 96) (t := 17) ck_X_pick_3 rfl)
theorem d_X_pick_114 : decode y_X_pick.2.1 114 = .ok (.iload 4, 2) := op_iload (gk (k := 96) (t := 18) ck_X_pick_3 rfl) (gk (k := 96) (t := 19) ck_X_pick_3 rfl) rfl
theorem d_X_pick_116 : decode y_X_pick.2.1 116 = .ok (.aload_n 0, 1) := op_aload_n0 (gk (k := 96) (t := 20) ck_X_pick_3 rfl)
theorem d_X_pick_117 : decode y_X_pick.2.1 117 = .ok (.getfield 7, 3) := op_getfield (gk (k := 96) (t := 21) ck_X_pick_3 rfl) (gk (k := 96) (t := 22) ck_X_pick_3 rfl) (gk (k := 96) (t := 23) ck_X_pick_3 rfl) rfl
theorem d_X_pick_120 : decode y_X_pick.2.1 120 = .ok (.sipush 140, 3) := op_sipush (gk (k := 96) (t := 24) ck_X_pick_3 rfl) (gk (k := 96) (t := 25) ck_X_pick_3 rfl) (gk (k := 96) (t := 26) ck_X_pick_3 rfl) (by decide +kernel)
theorem d_X_pick_123 : decode y_X_pick.2.1 123 = .ok (.bipush 6, 2) := op_bipush (gk (k := 96) (t := 27) ck_X_pick_3 rfl) (gk (k := 96) (t := 28) ck_X_pick_3 rfl) rfl
theorem d_X_pick_125 : decode y_X_pick.2.1 125 = .ok (.iload 6, 2) := op_iload (gk (k := 96) (t := 29) ck_X_pick_3 rfl) (gk (k := 96) (t := 30) ck_X_pick_3 rfl) rfl
theorem d_X_pick_127 : decode y_X_pick.2.1 127 = .ok (.imul, 1) := op_imul (gk (k := 96) (t := 31) ck_X_pick_3 rfl)
theorem ck_X_pick_4 : (y_X_pick.2.1.data.toList.drop 128).take 32 = [96, 6, 96, 46, 5, 160, 0, 7, 4, 167, 0, 4, 3, 96, 54, 4, 21, 5, 42, 180, 0, 7, 17, 0, 140, 16, 6, 21, 6, 104, 96, 6] := by decide +kernel
theorem d_X_pick_128 : decode y_X_pick.2.1 128 = .ok (.iadd, 1) := op_iadd (gk (k := 128) (t := 0) ck_X_pick_4 rfl)
theorem d_X_pick_129 : decode y_X_pick.2.1 129 = .ok (.iconst 3, 1) := op_iconst3 (gk (k := 128) (t := 1) ck_X_pick_4 rfl)
theorem d_X_pick_130 : decode y_X_pick.2.1 130 = .ok (.iadd, 1) := op_iadd (gk (k := 128) (t := 2) ck_X_pick_4 rfl)
theorem d_X_pick_131 : decode y_X_pick.2.1 131 = .ok (.iaload, 1) := op_iaload (gk (k := 128) (t := 3) ck_X_pick_4 rfl)
theorem d_X_pick_132 : decode y_X_pick.2.1 132 = .ok (.iconst 2, 1) := op_iconst2 (gk (k := 128) (t := 4) ck_X_pick_4 rfl)
theorem d_X_pick_141 : decode y_X_pick.2.1 141 = .ok (.iadd, 1) := op_iadd (gk (k := 128) (t := 13) ck_X_pick_4 rfl)
theorem d_X_pick_142 : decode y_X_pick.2.1 142 = .ok (.istore 4, 2) := op_istore (gk (k := 128) (t := 14) ck_X_pick_4 rfl) (gk (k := 128) (t := 15) ck_X_pick_4 rfl) rfl
theorem d_X_pick_144 : decode y_X_pick.2.1 144 = .ok (.iload 5, 2) := op_iload (gk (k := 128) (t := 16) ck_X_pick_4 rfl) (gk (k := 128) (t := 17) ck_X_pick_4 rfl) rfl
theorem d_X_pick_146 : decode y_X_pick.2.1 146 = .ok (.aload_n 0, 1) := op_aload_n0 (gk (k := 128) (t := 18) ck_X_pick_4 rfl)
theorem d_X_pick_147 : decode y_X_pick.2.1 147 = .ok (.getfield 7, 3) := op_getfield (gk (k := 128) (t := 19) ck_X_pick_4 rfl) (gk (k := 128) (t := 20) ck_X_pick_4 rfl) (gk (k := 128) (t := 21) ck_X_pick_4 rfl) rfl
theorem d_X_pick_150 : decode y_X_pick.2.1 150 = .ok (.sipush 140, 3) := op_sipush (gk (k := 128) (t := 22) ck_X_pick_4 rfl) (gk (k := 128) (t := 23) ck_X_pick_4 rfl) (gk (k := 128) (t := 24) ck_X_pick_4 rfl) (by decide +kernel)
theorem d_X_pick_153 : decode y_X_pick.2.1 153 = .ok (.bipush 6, 2) := op_bipush (gk (k := 128) (t := 25) ck_X_pick_4 rfl) (gk (k := 128) (t := 26) ck_X_pick_4 rfl) rfl
theorem d_X_pick_155 : decode y_X_pick.2.1 155 = .ok (.iload 6, 2) := op_iload (gk (k := 128) (t := 27) ck_X_pick_4 rfl) (gk (k := 128) (t := 28) ck_X_pick_4 rfl) rfl
theorem d_X_pick_157 : decode y_X_pick.2.1 157 = .ok (.imul, 1) := op_imul (gk (k := 128) (t := 29) ck_X_pick_4 rfl)
theorem d_X_pick_158 : decode y_X_pick.2.1 158 = .ok (.iadd, 1) := op_iadd (gk (k := 128) (t := 30) ck_X_pick_4 rfl)
theorem d_X_pick_159 : decode y_X_pick.2.1 159 = .ok (.iconst 3, 1) := op_iconst3 (gk (k := 128) (t := 31) ck_X_pick_4 rfl)
theorem d_X_pick_160 : decode y_X_pick.2.1 160 = .ok (.iadd, 1) := op_iadd (gk (k := 160) (t := 0) ck_X_pick_5 rfl)
theorem d_X_pick_161 : decode y_X_pick.2.1 161 = .ok (.iaload, 1) := op_iaload (gk (k := 160) (t := 1) ck_X_pick_5 rfl)
theorem d_X_pick_162 : decode y_X_pick.2.1 162 = .ok (.iconst 1, 1) := op_iconst1 (gk (k := 160) (t := 2) ck_X_pick_5 rfl)
theorem d_X_pick_163 : decode y_X_pick.2.1 163 = .ok (.if_icmp .eq 7, 3) := op_icmp_eq (gk (k := 160) (t := 3) ck_X_pick_5 rfl) (gk (k := 160) (t := 4) ck_X_pick_5 rfl) (gk (k := 160) (t := 5) ck_X_pick_5 rfl) (by decide +kernel)
theorem d_X_pick_170 : decode y_X_pick.2.1 170 = .ok (.iconst 0, 1) := op_iconst0 (gk (k := 160) (t := 10) ck_X_pick_5 rfl)
theorem d_X_pick_171 : decode y_X_pick.2.1 171 = .ok (.iadd, 1) := op_iadd (gk (k := 160) (t := 11) ck_X_pick_5 rfl)
theorem d_X_pick_172 : decode y_X_pick.2.1 172 = .ok (.istore 5, 2) := op_istore (gk (k := 160) (t := 12) ck_X_pick_5 rfl) (gk (k := 160) (t := 13) ck_X_pick_5 rfl) rfl
theorem d_X_pick_166 : decode y_X_pick.2.1 166 = .ok (.iconst 1, 1) := op_iconst1 (gk (k := 160) (t := 6) ck_X_pick_5 rfl)
theorem d_X_pick_167 : decode y_X_pick.2.1 167 = .ok (.goto 4, 3) := op_goto (gk (k := 160) (t := 7) ck_X_pick_5 rfl) (gk (k := 160) (t := 8) ck_X_pick_5 rfl) (gk (k := 160) (t := 9) ck_X_pick_5 rfl) (by decide +kernel)
theorem d_X_pick_133 : decode y_X_pick.2.1 133 = .ok (.if_icmp .ne 7, 3) := op_icmp_ne (gk (k := 128) (t := 5) ck_X_pick_4 rfl) (gk (k := 128) (t := 6) ck_X_pick_4 rfl) (gk (k := 128) (t := 7) ck_X_pick_4 rfl) (by decide +kernel)
theorem d_X_pick_140 : decode y_X_pick.2.1 140 = .ok (.iconst 0, 1) := op_iconst0 (gk (k := 128) (t := 12) ck_X_pick_4 rfl)
theorem d_X_pick_136 : decode y_X_pick.2.1 136 = .ok (.iconst 1, 1) := op_iconst1 (gk (k := 128) (t := 8) ck_X_pick_4 rfl)
theorem d_X_pick_137 : decode y_X_pick.2.1 137 = .ok (.goto 4, 3) := op_goto (gk (k := 128) (t := 9) ck_X_pick_4 rfl) (gk (k := 128) (t := 10) ck_X_pick_4 rfl) (gk (k := 128) (t := 11) ck_X_pick_4 rfl) (by decide +kernel)
theorem d_X_pick_92 : decode y_X_pick.2.1 92 = .ok (.goto 82, 3) := op_goto (gk (k := 64) (t := 28) ck_X_pick_2 rfl) (gk (k := 64) (t := 29) ck_X_pick_2 rfl) (gk (k := 64) (t := 30) ck_X_pick_2 rfl) (by decide +kernel)
theorem d_X_pick_180 : decode y_X_pick.2.1 180 = .ok (.aload_n 0, 1) := op_aload_n0 (gk (k := 160) (t := 20) ck_X_pick_5 rfl)
theorem d_X_pick_181 : decode y_X_pick.2.1 181 = .ok (.iload_n 1, 1) := op_iload_n1 (gk (k := 160) (t := 21) ck_X_pick_5 rfl)
theorem d_X_pick_182 : decode y_X_pick.2.1 182 = .ok (.iload_n 2, 1) := op_iload_n2 (gk (k := 160) (t := 22) ck_X_pick_5 rfl)
theorem d_X_pick_183 : decode y_X_pick.2.1 183 = .ok (.iconst 1, 1) := op_iconst1 (gk (k := 160) (t := 23) ck_X_pick_5 rfl)
theorem d_X_pick_184 : decode y_X_pick.2.1 184 = .ok (.invokevirtual 264, 3) := op_invokevirtual (gk (k := 160) (t := 24) ck_X_pick_5 rfl) (gk (k := 160) (t := 25) ck_X_pick_5 rfl) (gk (k := 160) (t := 26) ck_X_pick_5 rfl) rfl
theorem d_X_pick_187 : decode y_X_pick.2.1 187 = .ok (.iload_n 3, 1) := op_iload_n3 (gk (k := 160) (t := 27) ck_X_pick_5 rfl)
theorem d_X_pick_188 : decode y_X_pick.2.1 188 = .ok (.if_icmp .le 5, 3) := op_icmp_le (gk (k := 160) (t := 28) ck_X_pick_5 rfl) (gk (k := 160) (t := 29) ck_X_pick_5 rfl) (gk (k := 160) (t := 30) ck_X_pick_5 rfl) (by decide +kernel)
theorem ck_X_pick_6 : (y_X_pick.2.1.data.toList.drop 192).take 32 = [172, 42, 27, 28, 6, 182, 1, 8, 4, 160, 0, 10, 21, 5, 154, 0, 5, 7, 172, 21, 4, 157, 0, 21, 42, 27, 28, 6, 182, 1, 8, 5] := by decide +kernel
theorem d_X_pick_193 : decode y_X_pick.2.1 193 = .ok (.aload_n 0, 1) := op_aload_n0 (gk (k := 192) (t := 1) ck_X_pick_6 rfl)
theorem d_X_pick_194 : decode y_X_pick.2.1 194 = .ok (.iload_n 1, 1) := op_iload_n1 (gk (k := 192) (t := 2) ck_X_pick_6 rfl)
theorem d_X_pick_195 : decode y_X_pick.2.1 195 = .ok (.iload_n 2, 1) := op_iload_n2 (gk (k := 192) (t := 3) ck_X_pick_6 rfl)
theorem d_X_pick_196 : decode y_X_pick.2.1 196 = .ok (.iconst 3, 1) := op_iconst3 (gk (k := 192) (t := 4) ck_X_pick_6 rfl)
theorem d_X_pick_197 : decode y_X_pick.2.1 197 = .ok (.invokevirtual 264, 3) := op_invokevirtual (gk (k := 192) (t := 5) ck_X_pick_6 rfl) (gk (k := 192) (t := 6) ck_X_pick_6 rfl) (gk (k := 192) (t := 7) ck_X_pick_6 rfl) rfl
theorem d_X_pick_200 : decode y_X_pick.2.1 200 = .ok (.iconst 1, 1) := op_iconst1 (gk (k := 192) (t := 8) ck_X_pick_6 rfl)
theorem d_X_pick_211 : decode y_X_pick.2.1 211 = .ok (.iload 4, 2) := op_iload (gk (k := 192) (t := 19) ck_X_pick_6 rfl) (gk (k := 192) (t := 20) ck_X_pick_6 rfl) rfl
theorem d_X_pick_213 : decode y_X_pick.2.1 213 = .ok (.ifCond .gt 21, 3) := op_if_gt (gk (k := 192) (t := 21) ck_X_pick_6 rfl) (gk (k := 192) (t := 22) ck_X_pick_6 rfl) (gk (k := 192) (t := 23) ck_X_pick_6 rfl) (by decide +kernel)
theorem ck_X_pick_7 : (y_X_pick.2.1.data.toList.drop 224).take 32 = [160, 0, 12, 42, 180, 1, 88, 158, 0, 5, 8, 172, 42, 180, 0, 57, 16, 40, 27, 104, 28, 96, 4, 84, 42, 180, 0, 63, 42, 180, 1, 88] := by decide +kernel
theorem d_X_pick_234 : decode y_X_pick.2.1 234 = .ok (.iconst 5, 1) := op_iconst5 (gk (k := 224) (t := 10) ck_X_pick_7 rfl)
theorem d_X_pick_235 : decode y_X_pick.2.1 235 = .ok (.ireturn, 1) := op_ireturn (gk (k := 224) (t := 11) ck_X_pick_7 rfl)
theorem d_X_pick_216 : decode y_X_pick.2.1 216 = .ok (.aload_n 0, 1) := op_aload_n0 (gk (k := 192) (t := 24) ck_X_pick_6 rfl)
theorem d_X_pick_217 : decode y_X_pick.2.1 217 = .ok (.iload_n 1, 1) := op_iload_n1 (gk (k := 192) (t := 25) ck_X_pick_6 rfl)
theorem d_X_pick_218 : decode y_X_pick.2.1 218 = .ok (.iload_n 2, 1) := op_iload_n2 (gk (k := 192) (t := 26) ck_X_pick_6 rfl)
theorem d_X_pick_219 : decode y_X_pick.2.1 219 = .ok (.iconst 3, 1) := op_iconst3 (gk (k := 192) (t := 27) ck_X_pick_6 rfl)
theorem d_X_pick_220 : decode y_X_pick.2.1 220 = .ok (.invokevirtual 264, 3) := op_invokevirtual (gk (k := 192) (t := 28) ck_X_pick_6 rfl) (gk (k := 192) (t := 29) ck_X_pick_6 rfl) (gk (k := 192) (t := 30) ck_X_pick_6 rfl) rfl
theorem d_X_pick_223 : decode y_X_pick.2.1 223 = .ok (.iconst 2, 1) := op_iconst2 (gk (k := 192) (t := 31) ck_X_pick_6 rfl)
theorem d_X_pick_236 : decode y_X_pick.2.1 236 = .ok (.aload_n 0, 1) := op_aload_n0 (gk (k := 224) (t := 12) ck_X_pick_7 rfl)
theorem d_X_pick_237 : decode y_X_pick.2.1 237 = .ok (.getfield 57, 3) := op_getfield (gk (k := 224) (t := 13) ck_X_pick_7 rfl) (gk (k := 224) (t := 14) ck_X_pick_7 rfl) (gk (k := 224) (t := 15) ck_X_pick_7 rfl) rfl
theorem d_X_pick_240 : decode y_X_pick.2.1 240 = .ok (.bipush 40, 2) := op_bipush (gk (k := 224) (t := 16) ck_X_pick_7 rfl) (gk (k := 224) (t := 17) ck_X_pick_7 rfl) rfl
theorem d_X_pick_242 : decode y_X_pick.2.1 242 = .ok (.iload_n 1, 1) := op_iload_n1 (gk (k := 224) (t := 18) ck_X_pick_7 rfl)
theorem d_X_pick_243 : decode y_X_pick.2.1 243 = .ok (.imul, 1) := op_imul (gk (k := 224) (t := 19) ck_X_pick_7 rfl)
theorem d_X_pick_244 : decode y_X_pick.2.1 244 = .ok (.iload_n 2, 1) := op_iload_n2 (gk (k := 224) (t := 20) ck_X_pick_7 rfl)
theorem d_X_pick_245 : decode y_X_pick.2.1 245 = .ok (.iadd, 1) := op_iadd (gk (k := 224) (t := 21) ck_X_pick_7 rfl)
theorem d_X_pick_246 : decode y_X_pick.2.1 246 = .ok (.iconst 1, 1) := op_iconst1 (gk (k := 224) (t := 22) ck_X_pick_7 rfl)
theorem d_X_pick_247 : decode y_X_pick.2.1 247 = .ok (.bastore, 1) := op_bastore (gk (k := 224) (t := 23) ck_X_pick_7 rfl)
theorem d_X_pick_248 : decode y_X_pick.2.1 248 = .ok (.aload_n 0, 1) := op_aload_n0 (gk (k := 224) (t := 24) ck_X_pick_7 rfl)
theorem fl_X_63 : FL "SinglesUpModel" 63 9 37 := ⟨"SinglesUpModel", zT9, 51, rfl, by decide, rfl, Or.inl (tw_c5 130 (by decide +kernel) rfl)⟩
theorem rm_9_37 : ∀ o, KM[o]? = some (12, 51) → RM o 37 = some (o + 15) ∧ KM[o + 15]? = some (0, 8) := by
  intro o h
  have hl : o < 26 := (List.getElem?_eq_some_iff.mp h).1
  exact (by decide +kernel : ∀ o, o < 26 → KM[o]? = some (12, 51) → RM o 37 = some (o + 15) ∧ KM[o + 15]? = some (0, 8)) o hl h
theorem d_X_pick_249 : decode y_X_pick.2.1 249 = .ok (.getfield 63, 3) := op_getfield (gk (k := 224) (t := 25) ck_X_pick_7 rfl) (gk (k := 224) (t := 26) ck_X_pick_7 rfl) (gk (k := 224) (t := 27) ck_X_pick_7 rfl) rfl
theorem d_X_pick_252 : decode y_X_pick.2.1 252 = .ok (.aload_n 0, 1) := op_aload_n0 (gk (k := 224) (t := 28) ck_X_pick_7 rfl)
theorem d_X_pick_253 : decode y_X_pick.2.1 253 = .ok (.getfield 344, 3) := op_getfield (gk (k := 224) (t := 29) ck_X_pick_7 rfl) (gk (k := 224) (t := 30) ck_X_pick_7 rfl) (gk (k := 224) (t := 31) ck_X_pick_7 rfl) rfl
theorem ck_X_pick_8 : (y_X_pick.2.1.data.toList.drop 256).take 32 = [16, 40, 27, 104, 28, 96, 79, 42, 89, 180, 1, 88, 4, 96, 181, 1, 88, 3, 172] := by decide +kernel
theorem d_X_pick_256 : decode y_X_pick.2.1 256 = .ok (.bipush 40, 2) := op_bipush (gk (k := 256) (t := 0) ck_X_pick_8 rfl) (gk (k := 256) (t := 1) ck_X_pick_8 rfl) rfl
theorem d_X_pick_258 : decode y_X_pick.2.1 258 = .ok (.iload_n 1, 1) := op_iload_n1 (gk (k := 256) (t := 2) ck_X_pick_8 rfl)
theorem d_X_pick_259 : decode y_X_pick.2.1 259 = .ok (.imul, 1) := op_imul (gk (k := 256) (t := 3) ck_X_pick_8 rfl)
theorem d_X_pick_260 : decode y_X_pick.2.1 260 = .ok (.iload_n 2, 1) := op_iload_n2 (gk (k := 256) (t := 4) ck_X_pick_8 rfl)
theorem d_X_pick_261 : decode y_X_pick.2.1 261 = .ok (.iadd, 1) := op_iadd (gk (k := 256) (t := 5) ck_X_pick_8 rfl)
theorem d_X_pick_262 : decode y_X_pick.2.1 262 = .ok (.iastore, 1) := op_iastore (gk (k := 256) (t := 6) ck_X_pick_8 rfl)
theorem d_X_pick_263 : decode y_X_pick.2.1 263 = .ok (.aload_n 0, 1) := op_aload_n0 (gk (k := 256) (t := 7) ck_X_pick_8 rfl)
theorem d_X_pick_264 : decode y_X_pick.2.1 264 = .ok (.dup, 1) := op_dup (gk (k := 256) (t := 8) ck_X_pick_8 rfl)
theorem d_X_pick_265 : decode y_X_pick.2.1 265 = .ok (.getfield 344, 3) := op_getfield (gk (k := 256) (t := 9) ck_X_pick_8 rfl) (gk (k := 256) (t := 10) ck_X_pick_8 rfl) (gk (k := 256) (t := 11) ck_X_pick_8 rfl) rfl
theorem d_X_pick_268 : decode y_X_pick.2.1 268 = .ok (.iconst 1, 1) := op_iconst1 (gk (k := 256) (t := 12) ck_X_pick_8 rfl)
theorem d_X_pick_269 : decode y_X_pick.2.1 269 = .ok (.iadd, 1) := op_iadd (gk (k := 256) (t := 13) ck_X_pick_8 rfl)
theorem d_X_pick_270 : decode y_X_pick.2.1 270 = .ok (.putfield 344, 3) := op_putfield (gk (k := 256) (t := 14) ck_X_pick_8 rfl) (gk (k := 256) (t := 15) ck_X_pick_8 rfl) (gk (k := 256) (t := 16) ck_X_pick_8 rfl) rfl
theorem d_X_pick_273 : decode y_X_pick.2.1 273 = .ok (.iconst 0, 1) := op_iconst0 (gk (k := 256) (t := 17) ck_X_pick_8 rfl)
theorem d_X_pick_274 : decode y_X_pick.2.1 274 = .ok (.ireturn, 1) := op_ireturn (gk (k := 256) (t := 18) ck_X_pick_8 rfl)
theorem d_X_pick_224 : decode y_X_pick.2.1 224 = .ok (.if_icmp .ne 12, 3) := op_icmp_ne (gk (k := 224) (t := 0) ck_X_pick_7 rfl) (gk (k := 224) (t := 1) ck_X_pick_7 rfl) (gk (k := 224) (t := 2) ck_X_pick_7 rfl) (by decide +kernel)
theorem d_X_pick_227 : decode y_X_pick.2.1 227 = .ok (.aload_n 0, 1) := op_aload_n0 (gk (k := 224) (t := 3) ck_X_pick_7 rfl)
theorem d_X_pick_228 : decode y_X_pick.2.1 228 = .ok (.getfield 344, 3) := op_getfield (gk (k := 224) (t := 4) ck_X_pick_7 rfl) (gk (k := 224) (t := 5) ck_X_pick_7 rfl) (gk (k := 224) (t := 6) ck_X_pick_7 rfl) rfl
theorem d_X_pick_231 : decode y_X_pick.2.1 231 = .ok (.ifCond .le 5, 3) := op_if_le (gk (k := 224) (t := 7) ck_X_pick_7 rfl) (gk (k := 224) (t := 8) ck_X_pick_7 rfl) (gk (k := 224) (t := 9) ck_X_pick_7 rfl) (by decide +kernel)
theorem d_X_pick_201 : decode y_X_pick.2.1 201 = .ok (.if_icmp .ne 10, 3) := op_icmp_ne (gk (k := 192) (t := 9) ck_X_pick_6 rfl) (gk (k := 192) (t := 10) ck_X_pick_6 rfl) (gk (k := 192) (t := 11) ck_X_pick_6 rfl) (by decide +kernel)
theorem d_X_pick_204 : decode y_X_pick.2.1 204 = .ok (.iload 5, 2) := op_iload (gk (k := 192) (t := 12) ck_X_pick_6 rfl) (gk (k := 192) (t := 13) ck_X_pick_6 rfl) rfl
theorem d_X_pick_206 : decode y_X_pick.2.1 206 = .ok (.ifCond .ne 5, 3) := op_if_ne (gk (k := 192) (t := 14) ck_X_pick_6 rfl) (gk (k := 192) (t := 15) ck_X_pick_6 rfl) (gk (k := 192) (t := 16) ck_X_pick_6 rfl) (by decide +kernel)
theorem d_X_pick_209 : decode y_X_pick.2.1 209 = .ok (.iconst 4, 1) := op_iconst4 (gk (k := 192) (t := 17) ck_X_pick_6 rfl)
theorem d_X_pick_210 : decode y_X_pick.2.1 210 = .ok (.ireturn, 1) := op_ireturn (gk (k := 192) (t := 18) ck_X_pick_6 rfl)
theorem d_X_pick_191 : decode y_X_pick.2.1 191 = .ok (.iconst 3, 1) := op_iconst3 (gk (k := 160) (t := 31) ck_X_pick_5 rfl)
theorem d_X_pick_192 : decode y_X_pick.2.1 192 = .ok (.ireturn, 1) := op_ireturn (gk (k := 192) (t := 0) ck_X_pick_6 rfl)
theorem d_X_pick_56 : decode y_X_pick.2.1 56 = .ok (.iconst 2, 1) := op_iconst2 (gk (k := 32) (t := 24) ck_X_pick_1 rfl)
theorem d_X_pick_57 : decode y_X_pick.2.1 57 = .ok (.ireturn, 1) := op_ireturn (gk (k := 32) (t := 25) ck_X_pick_1 rfl)
abbrev y_X_begins : MI := (⟨"SinglesUpModel", "begins", "()V"⟩, prog_11_method_47_code, 2, none)
theorem ck_X_begins_0 : (y_X_begins.2.1.data.toList.drop 0).take 32 = [3, 60, 27, 17, 0, 240, 162, 0, 23, 42, 180, 0, 44, 27, 3, 79, 42, 180, 0, 53, 27, 3, 84, 132, 1, 1, 167, 255, 232, 42, 42, 180] := by decide +kernel
theorem d_X_begins_0 : decode y_X_begins.2.1 0 = .ok (.iconst 0, 1) := op_iconst0 (gk (k := 0) (t := 0) ck_X_begins_0 rfl)
theorem d_X_begins_1 : decode y_X_begins.2.1 1 = .ok (.istore_n 1, 1) := op_istore_n1 (gk (k := 0) (t := 1) ck_X_begins_0 rfl)
theorem d_X_begins_2 : decode y_X_begins.2.1 2 = .ok (.iload_n 1, 1) := op_iload_n1 (gk (k := 0) (t := 2) ck_X_begins_0 rfl)
theorem d_X_begins_3 : decode y_X_begins.2.1 3 = .ok (.sipush 240, 3) := op_sipush (gk (k := 0) (t := 3) ck_X_begins_0 rfl) (gk (k := 0) (t := 4) ck_X_begins_0 rfl) (gk (k := 0) (t := 5) ck_X_begins_0 rfl) (by decide +kernel)
theorem d_X_begins_6 : decode y_X_begins.2.1 6 = .ok (.if_icmp .ge 23, 3) := op_icmp_ge (gk (k := 0) (t := 6) ck_X_begins_0 rfl) (gk (k := 0) (t := 7) ck_X_begins_0 rfl) (gk (k := 0) (t := 8) ck_X_begins_0 rfl) (by decide +kernel)
theorem d_X_begins_9 : decode y_X_begins.2.1 9 = .ok (.aload_n 0, 1) := op_aload_n0 (gk (k := 0) (t := 9) ck_X_begins_0 rfl)
theorem fl_X_44 : FL "SinglesUpModel" 44 9 25 := ⟨"SinglesUpModel", zT9, 51, rfl, by decide, rfl, Or.inl (tw_c5 118 (by decide +kernel) rfl)⟩
theorem rm_9_25 : ∀ o, KM[o]? = some (12, 51) → RM o 25 = some (o + 9) ∧ KM[o + 9]? = some (0, 240) := by
  intro o h
  have hl : o < 26 := (List.getElem?_eq_some_iff.mp h).1
  exact (by decide +kernel : ∀ o, o < 26 → KM[o]? = some (12, 51) → RM o 25 = some (o + 9) ∧ KM[o + 9]? = some (0, 240)) o hl h
theorem d_X_begins_10 : decode y_X_begins.2.1 10 = .ok (.getfield 44, 3) := op_getfield (gk (k := 0) (t := 10) ck_X_begins_0 rfl) (gk (k := 0) (t := 11) ck_X_begins_0 rfl) (gk (k := 0) (t := 12) ck_X_begins_0 rfl) rfl
theorem d_X_begins_13 : decode y_X_begins.2.1 13 = .ok (.iload_n 1, 1) := op_iload_n1 (gk (k := 0) (t := 13) ck_X_begins_0 rfl)
theorem d_X_begins_14 : decode y_X_begins.2.1 14 = .ok (.iconst 0, 1) := op_iconst0 (gk (k := 0) (t := 14) ck_X_begins_0 rfl)
theorem d_X_begins_15 : decode y_X_begins.2.1 15 = .ok (.iastore, 1) := op_iastore (gk (k := 0) (t := 15) ck_X_begins_0 rfl)
theorem d_X_begins_16 : decode y_X_begins.2.1 16 = .ok (.aload_n 0, 1) := op_aload_n0 (gk (k := 0) (t := 16) ck_X_begins_0 rfl)
theorem fl_X_53 : FL "SinglesUpModel" 53 9 28 := ⟨"SinglesUpModel", zT9, 51, rfl, by decide, rfl, Or.inl (tw_c5 121 (by decide +kernel) rfl)⟩
theorem rm_9_28 : ∀ o, KM[o]? = some (12, 51) → RM o 28 = some (o + 12) ∧ KM[o + 12]? = some (1, 240) := by
  intro o h
  have hl : o < 26 := (List.getElem?_eq_some_iff.mp h).1
  exact (by decide +kernel : ∀ o, o < 26 → KM[o]? = some (12, 51) → RM o 28 = some (o + 12) ∧ KM[o + 12]? = some (1, 240)) o hl h
theorem d_X_begins_17 : decode y_X_begins.2.1 17 = .ok (.getfield 53, 3) := op_getfield (gk (k := 0) (t := 17) ck_X_begins_0 rfl) (gk (k := 0) (t := 18) ck_X_begins_0 rfl) (gk (k := 0) (t := 19) ck_X_begins_0 rfl) rfl
theorem d_X_begins_20 : decode y_X_begins.2.1 20 = .ok (.iload_n 1, 1) := op_iload_n1 (gk (k := 0) (t := 20) ck_X_begins_0 rfl)
theorem d_X_begins_21 : decode y_X_begins.2.1 21 = .ok (.iconst 0, 1) := op_iconst0 (gk (k := 0) (t := 21) ck_X_begins_0 rfl)
theorem d_X_begins_22 : decode y_X_begins.2.1 22 = .ok (.bastore, 1) := op_bastore (gk (k := 0) (t := 22) ck_X_begins_0 rfl)
theorem d_X_begins_23 : decode y_X_begins.2.1 23 = .ok (.iinc 1 1, 3) := op_iinc (gk (k := 0) (t := 23) ck_X_begins_0 rfl) (gk (k := 0) (t := 24) ck_X_begins_0 rfl) (gk (k := 0) (t := 25) ck_X_begins_0 rfl) rfl rfl
theorem d_X_begins_26 : decode y_X_begins.2.1 26 = .ok (.goto (-24), 3) := op_goto (gk (k := 0) (t := 26) ck_X_begins_0 rfl) (gk (k := 0) (t := 27) ck_X_begins_0 rfl) (gk (k := 0) (t := 28) ck_X_begins_0 rfl) (by decide +kernel)
theorem d_X_begins_29 : decode y_X_begins.2.1 29 = .ok (.aload_n 0, 1) := op_aload_n0 (gk (k := 0) (t := 29) ck_X_begins_0 rfl)
theorem d_X_begins_30 : decode y_X_begins.2.1 30 = .ok (.aload_n 0, 1) := op_aload_n0 (gk (k := 0) (t := 30) ck_X_begins_0 rfl)
theorem ck_X_begins_1 : (y_X_begins.2.1.data.toList.drop 32).take 32 = [0, 7, 4, 46, 181, 1, 33, 42, 3, 181, 1, 35, 42, 3, 181, 1, 37, 42, 3, 181, 1, 40, 42, 3, 181, 1, 43, 177] := by decide +kernel
theorem d_X_begins_31 : decode y_X_begins.2.1 31 = .ok (.getfield 7, 3) := op_getfield (gk (k := 0) (t := 31) ck_X_begins_0 rfl) (gk (k := 32) (t := 0) ck_X_begins_1 rfl) (gk (k := 32) (t := 1) ck_X_begins_1 rfl) rfl
theorem d_X_begins_34 : decode y_X_begins.2.1 34 = .ok (.iconst 1, 1) := op_iconst1 (gk (k := 32) (t := 2) ck_X_begins_1 rfl)
theorem d_X_begins_35 : decode y_X_begins.2.1 35 = .ok (.iaload, 1) := op_iaload (gk (k := 32) (t := 3) ck_X_begins_1 rfl)
theorem fl_X_289 : FL "SinglesUpModel" 289 9 30 := ⟨"SinglesUpModel", zT9, 51, rfl, by decide, rfl, Or.inl (tw_c5 123 (by decide +kernel) rfl)⟩
theorem d_X_begins_36 : decode y_X_begins.2.1 36 = .ok (.putfield 289, 3) := op_putfield (gk (k := 32) (t := 4) ck_X_begins_1 rfl) (gk (k := 32) (t := 5) ck_X_begins_1 rfl) (gk (k := 32) (t := 6) ck_X_begins_1 rfl) rfl
theorem d_X_begins_39 : decode y_X_begins.2.1 39 = .ok (.aload_n 0, 1) := op_aload_n0 (gk (k := 32) (t := 7) ck_X_begins_1 rfl)
theorem d_X_begins_40 : decode y_X_begins.2.1 40 = .ok (.iconst 0, 1) := op_iconst0 (gk (k := 32) (t := 8) ck_X_begins_1 rfl)
theorem fl_X_291 : FL "SinglesUpModel" 291 9 31 := ⟨"SinglesUpModel", zT9, 51, rfl, by decide, rfl, Or.inl (tw_c5 124 (by decide +kernel) rfl)⟩
theorem d_X_begins_41 : decode y_X_begins.2.1 41 = .ok (.putfield 291, 3) := op_putfield (gk (k := 32) (t := 9) ck_X_begins_1 rfl) (gk (k := 32) (t := 10) ck_X_begins_1 rfl) (gk (k := 32) (t := 11) ck_X_begins_1 rfl) rfl
theorem d_X_begins_44 : decode y_X_begins.2.1 44 = .ok (.aload_n 0, 1) := op_aload_n0 (gk (k := 32) (t := 12) ck_X_begins_1 rfl)
theorem d_X_begins_45 : decode y_X_begins.2.1 45 = .ok (.iconst 0, 1) := op_iconst0 (gk (k := 32) (t := 13) ck_X_begins_1 rfl)
theorem fl_X_293 : FL "SinglesUpModel" 293 9 32 := ⟨"SinglesUpModel", zT9, 51, rfl, by decide, rfl, Or.inl (tw_c5 125 (by decide +kernel) rfl)⟩
theorem d_X_begins_46 : decode y_X_begins.2.1 46 = .ok (.putfield 293, 3) := op_putfield (gk (k := 32) (t := 14) ck_X_begins_1 rfl) (gk (k := 32) (t := 15) ck_X_begins_1 rfl) (gk (k := 32) (t := 16) ck_X_begins_1 rfl) rfl
theorem d_X_begins_49 : decode y_X_begins.2.1 49 = .ok (.aload_n 0, 1) := op_aload_n0 (gk (k := 32) (t := 17) ck_X_begins_1 rfl)
theorem d_X_begins_50 : decode y_X_begins.2.1 50 = .ok (.iconst 0, 1) := op_iconst0 (gk (k := 32) (t := 18) ck_X_begins_1 rfl)
theorem fl_X_296 : FL "SinglesUpModel" 296 9 33 := ⟨"SinglesUpModel", zT9, 51, rfl, by decide, rfl, Or.inl (tw_c5 126 (by decide +kernel) rfl)⟩
theorem d_X_begins_51 : decode y_X_begins.2.1 51 = .ok (.putfield 296, 3) := op_putfield (gk (k := 32) (t := 19) ck_X_begins_1 rfl) (gk (k := 32) (t := 20) ck_X_begins_1 rfl) (gk (k := 32) (t := 21) ck_X_begins_1 rfl) rfl
theorem d_X_begins_54 : decode y_X_begins.2.1 54 = .ok (.aload_n 0, 1) := op_aload_n0 (gk (k := 32) (t := 22) ck_X_begins_1 rfl)
theorem d_X_begins_55 : decode y_X_begins.2.1 55 = .ok (.iconst 0, 1) := op_iconst0 (gk (k := 32) (t := 23) ck_X_begins_1 rfl)
theorem fl_X_299 : FL "SinglesUpModel" 299 9 34 := ⟨"SinglesUpModel", zT9, 51, rfl, by decide, rfl, Or.inl (tw_c5 127 (by decide +kernel) rfl)⟩
theorem d_X_begins_56 : decode y_X_begins.2.1 56 = .ok (.putfield 299, 3) := op_putfield (gk (k := 32) (t := 24) ck_X_begins_1 rfl) (gk (k := 32) (t := 25) ck_X_begins_1 rfl) (gk (k := 32) (t := 26) ck_X_begins_1 rfl) rfl
theorem d_X_begins_59 : decode y_X_begins.2.1 59 = .ok (.return_, 1) := op_return_ (gk (k := 32) (t := 27) ck_X_begins_1 rfl)
abbrev y_X_draw : MI := (⟨"SinglesUpModel", "draw", "(I)I"⟩, prog_11_method_4_code, 2, some .int)
theorem ck_X_draw_0 : (y_X_draw.2.1.data.toList.drop 0).take 32 = [42, 180, 0, 7, 3, 18, 96, 42, 180, 0, 7, 3, 46, 104, 18, 97, 96, 79, 42, 180, 0, 7, 3, 46, 16, 8, 124, 27, 112, 172] := by decide +kernel
theorem d_X_draw_0 : decode y_X_draw.2.1 0 = .ok (.aload_n 0, 1) := op_aload_n0 (gk (k := 0) (t := 0) ck_X_draw_0 rfl)
theorem d_X_draw_1 : decode y_X_draw.2.1 1 = .ok (.getfield 7, 3) := op_getfield (gk (k := 0) (t := 1) ck_X_draw_0 rfl) (gk (k := 0) (t := 2) ck_X_draw_0 rfl) (gk (k := 0) (t := 3) ck_X_draw_0 rfl) rfl
theorem d_X_draw_4 : decode y_X_draw.2.1 4 = .ok (.iconst 0, 1) := op_iconst0 (gk (k := 0) (t := 4) ck_X_draw_0 rfl)
theorem kc_X_96 : Cond.constant "SinglesUpModel" 96 1664525 ∈ TW := tw_c7 7 (by decide +kernel) rfl
theorem kc_X_96e : (1664525 : Int32) = iv 1664525 := by decide +kernel
theorem d_X_draw_5 : decode y_X_draw.2.1 5 = .ok (.ldc 96, 2) := op_ldc (gk (k := 0) (t := 5) ck_X_draw_0 rfl) (gk (k := 0) (t := 6) ck_X_draw_0 rfl) rfl
theorem d_X_draw_7 : decode y_X_draw.2.1 7 = .ok (.aload_n 0, 1) := op_aload_n0 (gk (k := 0) (t := 7) ck_X_draw_0 rfl)
theorem d_X_draw_8 : decode y_X_draw.2.1 8 = .ok (.getfield 7, 3) := op_getfield (gk (k := 0) (t := 8) ck_X_draw_0 rfl) (gk (k := 0) (t := 9) ck_X_draw_0 rfl) (gk (k := 0) (t := 10) ck_X_draw_0 rfl) rfl
theorem d_X_draw_11 : decode y_X_draw.2.1 11 = .ok (.iconst 0, 1) := op_iconst0 (gk (k := 0) (t := 11) ck_X_draw_0 rfl)
theorem d_X_draw_12 : decode y_X_draw.2.1 12 = .ok (.iaload, 1) := op_iaload (gk (k := 0) (t := 12) ck_X_draw_0 rfl)
theorem d_X_draw_13 : decode y_X_draw.2.1 13 = .ok (.imul, 1) := op_imul (gk (k := 0) (t := 13) ck_X_draw_0 rfl)
theorem kc_X_97 : Cond.constant "SinglesUpModel" 97 1013904223 ∈ TW := tw_c7 8 (by decide +kernel) rfl
theorem kc_X_97e : (1013904223 : Int32) = iv 1013904223 := by decide +kernel
theorem d_X_draw_14 : decode y_X_draw.2.1 14 = .ok (.ldc 97, 2) := op_ldc (gk (k := 0) (t := 14) ck_X_draw_0 rfl) (gk (k := 0) (t := 15) ck_X_draw_0 rfl) rfl
theorem d_X_draw_16 : decode y_X_draw.2.1 16 = .ok (.iadd, 1) := op_iadd (gk (k := 0) (t := 16) ck_X_draw_0 rfl)
theorem d_X_draw_17 : decode y_X_draw.2.1 17 = .ok (.iastore, 1) := op_iastore (gk (k := 0) (t := 17) ck_X_draw_0 rfl)
theorem d_X_draw_18 : decode y_X_draw.2.1 18 = .ok (.aload_n 0, 1) := op_aload_n0 (gk (k := 0) (t := 18) ck_X_draw_0 rfl)
theorem d_X_draw_19 : decode y_X_draw.2.1 19 = .ok (.getfield 7, 3) := op_getfield (gk (k := 0) (t := 19) ck_X_draw_0 rfl) (gk (k := 0) (t := 20) ck_X_draw_0 rfl) (gk (k := 0) (t := 21) ck_X_draw_0 rfl) rfl
theorem d_X_draw_22 : decode y_X_draw.2.1 22 = .ok (.iconst 0, 1) := op_iconst0 (gk (k := 0) (t := 22) ck_X_draw_0 rfl)
theorem d_X_draw_23 : decode y_X_draw.2.1 23 = .ok (.iaload, 1) := op_iaload (gk (k := 0) (t := 23) ck_X_draw_0 rfl)
theorem d_X_draw_24 : decode y_X_draw.2.1 24 = .ok (.bipush 8, 2) := op_bipush (gk (k := 0) (t := 24) ck_X_draw_0 rfl) (gk (k := 0) (t := 25) ck_X_draw_0 rfl) rfl
theorem d_X_draw_26 : decode y_X_draw.2.1 26 = .ok (.iushr, 1) := op_iushr (gk (k := 0) (t := 26) ck_X_draw_0 rfl)
theorem d_X_draw_27 : decode y_X_draw.2.1 27 = .ok (.iload_n 1, 1) := op_iload_n1 (gk (k := 0) (t := 27) ck_X_draw_0 rfl)
theorem d_X_draw_28 : decode y_X_draw.2.1 28 = .ok (.irem, 1) := op_irem (gk (k := 0) (t := 28) ck_X_draw_0 rfl)
theorem d_X_draw_29 : decode y_X_draw.2.1 29 = .ok (.ireturn, 1) := op_ireturn (gk (k := 0) (t := 29) ck_X_draw_0 rfl)
abbrev y_X_movesUp : MI := (⟨"SinglesUpModel", "movesUp", "(I)V"⟩, prog_11_method_56_code, 9, none)
theorem ck_X_movesUp_0 : (y_X_movesUp.2.1.data.toList.drop 0).take 32 = [42, 180, 0, 7, 17, 0, 130, 27, 96, 46, 61, 3, 62, 3, 54, 4, 21, 4, 28, 162, 0, 32, 29, 42, 180, 0, 44, 16, 40, 27, 104, 21] := by decide +kernel
theorem d_X_movesUp_0 : decode y_X_movesUp.2.1 0 = .ok (.aload_n 0, 1) := op_aload_n0 (gk (k := 0) (t := 0) ck_X_movesUp_0 rfl)
theorem d_X_movesUp_1 : decode y_X_movesUp.2.1 1 = .ok (.getfield 7, 3) := op_getfield (gk (k := 0) (t := 1) ck_X_movesUp_0 rfl) (gk (k := 0) (t := 2) ck_X_movesUp_0 rfl) (gk (k := 0) (t := 3) ck_X_movesUp_0 rfl) rfl
theorem d_X_movesUp_4 : decode y_X_movesUp.2.1 4 = .ok (.sipush 130, 3) := op_sipush (gk (k := 0) (t := 4) ck_X_movesUp_0 rfl) (gk (k := 0) (t := 5) ck_X_movesUp_0 rfl) (gk (k := 0) (t := 6) ck_X_movesUp_0 rfl) (by decide +kernel)
theorem d_X_movesUp_7 : decode y_X_movesUp.2.1 7 = .ok (.iload_n 1, 1) := op_iload_n1 (gk (k := 0) (t := 7) ck_X_movesUp_0 rfl)
theorem d_X_movesUp_8 : decode y_X_movesUp.2.1 8 = .ok (.iadd, 1) := op_iadd (gk (k := 0) (t := 8) ck_X_movesUp_0 rfl)
theorem d_X_movesUp_9 : decode y_X_movesUp.2.1 9 = .ok (.iaload, 1) := op_iaload (gk (k := 0) (t := 9) ck_X_movesUp_0 rfl)
theorem d_X_movesUp_10 : decode y_X_movesUp.2.1 10 = .ok (.istore_n 2, 1) := op_istore_n2 (gk (k := 0) (t := 10) ck_X_movesUp_0 rfl)
theorem d_X_movesUp_11 : decode y_X_movesUp.2.1 11 = .ok (.iconst 0, 1) := op_iconst0 (gk (k := 0) (t := 11) ck_X_movesUp_0 rfl)
theorem d_X_movesUp_12 : decode y_X_movesUp.2.1 12 = .ok (.istore_n 3, 1) := op_istore_n3 (gk (k := 0) (t := 12) ck_X_movesUp_0 rfl)
theorem d_X_movesUp_13 : decode y_X_movesUp.2.1 13 = .ok (.iconst 0, 1) := op_iconst0 (gk (k := 0) (t := 13) ck_X_movesUp_0 rfl)
theorem d_X_movesUp_14 : decode y_X_movesUp.2.1 14 = .ok (.istore 4, 2) := op_istore (gk (k := 0) (t := 14) ck_X_movesUp_0 rfl) (gk (k := 0) (t := 15) ck_X_movesUp_0 rfl) rfl
theorem d_X_movesUp_16 : decode y_X_movesUp.2.1 16 = .ok (.iload 4, 2) := op_iload (gk (k := 0) (t := 16) ck_X_movesUp_0 rfl) (gk (k := 0) (t := 17) ck_X_movesUp_0 rfl) rfl
theorem d_X_movesUp_18 : decode y_X_movesUp.2.1 18 = .ok (.iload_n 2, 1) := op_iload_n2 (gk (k := 0) (t := 18) ck_X_movesUp_0 rfl)
theorem d_X_movesUp_19 : decode y_X_movesUp.2.1 19 = .ok (.if_icmp .ge 32, 3) := op_icmp_ge (gk (k := 0) (t := 19) ck_X_movesUp_0 rfl) (gk (k := 0) (t := 20) ck_X_movesUp_0 rfl) (gk (k := 0) (t := 21) ck_X_movesUp_0 rfl) (by decide +kernel)
theorem d_X_movesUp_22 : decode y_X_movesUp.2.1 22 = .ok (.iload_n 3, 1) := op_iload_n3 (gk (k := 0) (t := 22) ck_X_movesUp_0 rfl)
theorem d_X_movesUp_23 : decode y_X_movesUp.2.1 23 = .ok (.aload_n 0, 1) := op_aload_n0 (gk (k := 0) (t := 23) ck_X_movesUp_0 rfl)
theorem d_X_movesUp_24 : decode y_X_movesUp.2.1 24 = .ok (.getfield 44, 3) := op_getfield (gk (k := 0) (t := 24) ck_X_movesUp_0 rfl) (gk (k := 0) (t := 25) ck_X_movesUp_0 rfl) (gk (k := 0) (t := 26) ck_X_movesUp_0 rfl) rfl
theorem d_X_movesUp_27 : decode y_X_movesUp.2.1 27 = .ok (.bipush 40, 2) := op_bipush (gk (k := 0) (t := 27) ck_X_movesUp_0 rfl) (gk (k := 0) (t := 28) ck_X_movesUp_0 rfl) rfl
theorem d_X_movesUp_29 : decode y_X_movesUp.2.1 29 = .ok (.iload_n 1, 1) := op_iload_n1 (gk (k := 0) (t := 29) ck_X_movesUp_0 rfl)
theorem d_X_movesUp_30 : decode y_X_movesUp.2.1 30 = .ok (.imul, 1) := op_imul (gk (k := 0) (t := 30) ck_X_movesUp_0 rfl)
theorem ck_X_movesUp_1 : (y_X_movesUp.2.1.data.toList.drop 32).take 32 = [4, 96, 46, 158, 0, 7, 4, 167, 0, 4, 3, 96, 62, 132, 4, 1, 167, 255, 224, 3, 54, 4, 3, 54, 5, 21, 5, 28, 162, 0, 194, 16] := by decide +kernel
theorem d_X_movesUp_31 : decode y_X_movesUp.2.1 31 = .ok (.iload 4, 2) := op_iload (gk (k := 0) (t := 31) ck_X_movesUp_0 rfl) (gk (k := 32) (t := 0) ck_X_movesUp_1 rfl) rfl
theorem d_X_movesUp_33 : decode y_X_movesUp.2.1 33 = .ok (.iadd, 1) := op_iadd (gk (k := 32) (t := 1) ck_X_movesUp_1 rfl)
theorem d_X_movesUp_34 : decode y_X_movesUp.2.1 34 = .ok (.iaload, 1) := op_iaload (gk (k := 32) (t := 2) ck_X_movesUp_1 rfl)
theorem d_X_movesUp_43 : decode y_X_movesUp.2.1 43 = .ok (.iadd, 1) := op_iadd (gk (k := 32) (t := 11) ck_X_movesUp_1 rfl)
theorem d_X_movesUp_44 : decode y_X_movesUp.2.1 44 = .ok (.istore_n 3, 1) := op_istore_n3 (gk (k := 32) (t := 12) ck_X_movesUp_1 rfl)
theorem d_X_movesUp_45 : decode y_X_movesUp.2.1 45 = .ok (.iinc 4 1, 3) := op_iinc (gk (k := 32) (t := 13) ck_X_movesUp_1 rfl) (gk (k := 32) (t := 14) ck_X_movesUp_1 rfl) (gk (k := 32) (t := 15) ck_X_movesUp_1 rfl) rfl rfl
theorem d_X_movesUp_48 : decode y_X_movesUp.2.1 48 = .ok (.goto (-32), 3) := op_goto (gk (k := 32) (t := 16) ck_X_movesUp_1 rfl) (gk (k := 32) (t := 17) ck_X_movesUp_1 rfl) (gk (k := 32) (t := 18) ck_X_movesUp_1 rfl) (by decide +kernel)
theorem d_X_movesUp_35 : decode y_X_movesUp.2.1 35 = .ok (.ifCond .le 7, 3) := op_if_le (gk (k := 32) (t := 3) ck_X_movesUp_1 rfl) (gk (k := 32) (t := 4) ck_X_movesUp_1 rfl) (gk (k := 32) (t := 5) ck_X_movesUp_1 rfl) (by decide +kernel)
theorem d_X_movesUp_42 : decode y_X_movesUp.2.1 42 = .ok (.iconst 0, 1) := op_iconst0 (gk (k := 32) (t := 10) ck_X_movesUp_1 rfl)
theorem d_X_movesUp_38 : decode y_X_movesUp.2.1 38 = .ok (.iconst 1, 1) := op_iconst1 (gk (k := 32) (t := 6) ck_X_movesUp_1 rfl)
theorem d_X_movesUp_39 : decode y_X_movesUp.2.1 39 = .ok (.goto 4, 3) := op_goto (gk (k := 32) (t := 7) ck_X_movesUp_1 rfl) (gk (k := 32) (t := 8) ck_X_movesUp_1 rfl) (gk (k := 32) (t := 9) ck_X_movesUp_1 rfl) (by decide +kernel)
theorem d_X_movesUp_51 : decode y_X_movesUp.2.1 51 = .ok (.iconst 0, 1) := op_iconst0 (gk (k := 32) (t := 19) ck_X_movesUp_1 rfl)
theorem d_X_movesUp_52 : decode y_X_movesUp.2.1 52 = .ok (.istore 4, 2) := op_istore (gk (k := 32) (t := 20) ck_X_movesUp_1 rfl) (gk (k := 32) (t := 21) ck_X_movesUp_1 rfl) rfl
theorem d_X_movesUp_54 : decode y_X_movesUp.2.1 54 = .ok (.iconst 0, 1) := op_iconst0 (gk (k := 32) (t := 22) ck_X_movesUp_1 rfl)
theorem d_X_movesUp_55 : decode y_X_movesUp.2.1 55 = .ok (.istore 5, 2) := op_istore (gk (k := 32) (t := 23) ck_X_movesUp_1 rfl) (gk (k := 32) (t := 24) ck_X_movesUp_1 rfl) rfl
theorem d_X_movesUp_57 : decode y_X_movesUp.2.1 57 = .ok (.iload 5, 2) := op_iload (gk (k := 32) (t := 25) ck_X_movesUp_1 rfl) (gk (k := 32) (t := 26) ck_X_movesUp_1 rfl) rfl
theorem d_X_movesUp_59 : decode y_X_movesUp.2.1 59 = .ok (.iload_n 2, 1) := op_iload_n2 (gk (k := 32) (t := 27) ck_X_movesUp_1 rfl)
theorem d_X_movesUp_60 : decode y_X_movesUp.2.1 60 = .ok (.if_icmp .ge 194, 3) := op_icmp_ge (gk (k := 32) (t := 28) ck_X_movesUp_1 rfl) (gk (k := 32) (t := 29) ck_X_movesUp_1 rfl) (gk (k := 32) (t := 30) ck_X_movesUp_1 rfl) (by decide +kernel)
theorem ck_X_movesUp_2 : (y_X_movesUp.2.1.data.toList.drop 64).take 32 = [40, 27, 104, 21, 5, 96, 54, 6, 29, 42, 180, 0, 44, 21, 6, 46, 158, 0, 7, 4, 167, 0, 4, 3, 100, 62, 42, 180, 0, 53, 21, 6] := by decide +kernel
theorem d_X_movesUp_63 : decode y_X_movesUp.2.1 63 = .ok (.bipush 40, 2) := op_bipush (gk (k := 32) (t := 31) ck_X_movesUp_1 rfl) (gk (k := 64) (t := 0) ck_X_movesUp_2 rfl) rfl
theorem d_X_movesUp_65 : decode y_X_movesUp.2.1 65 = .ok (.iload_n 1, 1) := op_iload_n1 (gk (k := 64) (t := 1) ck_X_movesUp_2 rfl)
theorem d_X_movesUp_66 : decode y_X_movesUp.2.1 66 = .ok (.imul, 1) := op_imul (gk (k := 64) (t := 2) ck_X_movesUp_2 rfl)
theorem d_X_movesUp_67 : decode y_X_movesUp.2.1 67 = .ok (.iload 5, 2) := op_iload (gk (k := 64) (t := 3) ck_X_movesUp_2 rfl) (gk (k := 64) (t := 4) ck_X_movesUp_2 rfl) rfl
theorem d_X_movesUp_69 : decode y_X_movesUp.2.1 69 = .ok (.iadd, 1) := op_iadd (gk (k := 64) (t := 5) ck_X_movesUp_2 rfl)
theorem d_X_movesUp_70 : decode y_X_movesUp.2.1 70 = .ok (.istore 6, 2) := op_istore (gk (k := 64) (t := 6) ck_X_movesUp_2 rfl) (gk (k := 64) (t := 7) ck_X_movesUp_2 rfl) rfl
theorem d_X_movesUp_72 : decode y_X_movesUp.2.1 72 = .ok (.iload_n 3, 1) := op_iload_n3 (gk (k := 64) (t := 8) ck_X_movesUp_2 rfl)
theorem d_X_movesUp_73 : decode y_X_movesUp.2.1 73 = .ok (.aload_n 0, 1) := op_aload_n0 (gk (k := 64) (t := 9) ck_X_movesUp_2 rfl)
theorem d_X_movesUp_74 : decode y_X_movesUp.2.1 74 = .ok (.getfield 44, 3) := op_getfield (gk (k := 64) (t := 10) ck_X_movesUp_2 rfl) (gk (k := 64) (t := 11) ck_X_movesUp_2 rfl) (gk (k := 64) (t := 12) ck_X_movesUp_2 rfl) rfl
theorem d_X_movesUp_77 : decode y_X_movesUp.2.1 77 = .ok (.iload 6, 2) := op_iload (gk (k := 64) (t := 13) ck_X_movesUp_2 rfl) (gk (k := 64) (t := 14) ck_X_movesUp_2 rfl) rfl
theorem d_X_movesUp_79 : decode y_X_movesUp.2.1 79 = .ok (.iaload, 1) := op_iaload (gk (k := 64) (t := 15) ck_X_movesUp_2 rfl)
theorem d_X_movesUp_88 : decode y_X_movesUp.2.1 88 = .ok (.isub, 1) := op_isub (gk (k := 64) (t := 24) ck_X_movesUp_2 rfl)
theorem d_X_movesUp_89 : decode y_X_movesUp.2.1 89 = .ok (.istore_n 3, 1) := op_istore_n3 (gk (k := 64) (t := 25) ck_X_movesUp_2 rfl)
theorem d_X_movesUp_90 : decode y_X_movesUp.2.1 90 = .ok (.aload_n 0, 1) := op_aload_n0 (gk (k := 64) (t := 26) ck_X_movesUp_2 rfl)
theorem d_X_movesUp_91 : decode y_X_movesUp.2.1 91 = .ok (.getfield 53, 3) := op_getfield (gk (k := 64) (t := 27) ck_X_movesUp_2 rfl) (gk (k := 64) (t := 28) ck_X_movesUp_2 rfl) (gk (k := 64) (t := 29) ck_X_movesUp_2 rfl) rfl
theorem d_X_movesUp_94 : decode y_X_movesUp.2.1 94 = .ok (.iload 6, 2) := op_iload (gk (k := 64) (t := 30) ck_X_movesUp_2 rfl) (gk (k := 64) (t := 31) ck_X_movesUp_2 rfl) rfl
theorem ck_X_movesUp_3 : (y_X_movesUp.2.1.data.toList.drop 96).take 32 = [51, 154, 0, 151, 42, 180, 0, 44, 21, 6, 46, 42, 27, 21, 5, 4, 182, 1, 8, 160, 0, 6, 167, 0, 130, 27, 21, 4, 184, 1, 4, 54] := by decide +kernel
theorem d_X_movesUp_96 : decode y_X_movesUp.2.1 96 = .ok (.baload, 1) := op_baload (gk (k := 96) (t := 0) ck_X_movesUp_3 rfl)
theorem ck_X_movesUp_7 : (y_X_movesUp.2.1.data.toList.drop 224).take 32 = [42, 180, 0, 7, 21, 7, 8, 96, 92, 46, 29, 158, 0, 7, 4, 167, 0, 4, 3, 96, 79, 132, 4, 1, 132, 5, 1, 167, 255, 62, 42, 180] := by decide +kernel
theorem d_X_movesUp_248 : decode y_X_movesUp.2.1 248 = .ok (.iinc 5 1, 3) := op_iinc (gk (k := 224) (t := 24) ck_X_movesUp_7 rfl) (gk (k := 224) (t := 25) ck_X_movesUp_7 rfl) (gk (k := 224) (t := 26) ck_X_movesUp_7 rfl) rfl rfl
theorem d_X_movesUp_251 : decode y_X_movesUp.2.1 251 = .ok (.goto (-194), 3) := op_goto (gk (k := 224) (t := 27) ck_X_movesUp_7 rfl) (gk (k := 224) (t := 28) ck_X_movesUp_7 rfl) (gk (k := 224) (t := 29) ck_X_movesUp_7 rfl) (by decide +kernel)
theorem d_X_movesUp_97 : decode y_X_movesUp.2.1 97 = .ok (.ifCond .ne 151, 3) := op_if_ne (gk (k := 96) (t := 1) ck_X_movesUp_3 rfl) (gk (k := 96) (t := 2) ck_X_movesUp_3 rfl) (gk (k := 96) (t := 3) ck_X_movesUp_3 rfl) (by decide +kernel)
theorem d_X_movesUp_100 : decode y_X_movesUp.2.1 100 = .ok (.aload_n 0, 1) := op_aload_n0 (gk (k := 96) (t := 4) ck_X_movesUp_3 rfl)
theorem d_X_movesUp_101 : decode y_X_movesUp.2.1 101 = .ok (.getfield 44, 3) := op_getfield (gk (k := 96) (t := 5) ck_X_movesUp_3 rfl) (gk (k := 96) (t := 6) ck_X_movesUp_3 rfl) (gk (k := 96) (t := 7) ck_X_movesUp_3 rfl) rfl
theorem d_X_movesUp_104 : decode y_X_movesUp.2.1 104 = .ok (.iload 6, 2) := op_iload (gk (k := 96) (t := 8) ck_X_movesUp_3 rfl) (gk (k := 96) (t := 9) ck_X_movesUp_3 rfl) rfl
theorem d_X_movesUp_106 : decode y_X_movesUp.2.1 106 = .ok (.iaload, 1) := op_iaload (gk (k := 96) (t := 10) ck_X_movesUp_3 rfl)
theorem d_X_movesUp_107 : decode y_X_movesUp.2.1 107 = .ok (.aload_n 0, 1) := op_aload_n0 (gk (k := 96) (t := 11) ck_X_movesUp_3 rfl)
theorem d_X_movesUp_108 : decode y_X_movesUp.2.1 108 = .ok (.iload_n 1, 1) := op_iload_n1 (gk (k := 96) (t := 12) ck_X_movesUp_3 rfl)
theorem d_X_movesUp_109 : decode y_X_movesUp.2.1 109 = .ok (.iload 5, 2) := op_iload (gk (k := 96) (t := 13) ck_X_movesUp_3 rfl) (gk (k := 96) (t := 14) ck_X_movesUp_3 rfl) rfl
theorem d_X_movesUp_111 : decode y_X_movesUp.2.1 111 = .ok (.iconst 1, 1) := op_iconst1 (gk (k := 96) (t := 15) ck_X_movesUp_3 rfl)
theorem d_X_movesUp_112 : decode y_X_movesUp.2.1 112 = .ok (.invokevirtual 264, 3) := op_invokevirtual (gk (k := 96) (t := 16) ck_X_movesUp_3 rfl) (gk (k := 96) (t := 17) ck_X_movesUp_3 rfl) (gk (k := 96) (t := 18) ck_X_movesUp_3 rfl) rfl
theorem d_X_movesUp_115 : decode y_X_movesUp.2.1 115 = .ok (.if_icmp .ne 6, 3) := op_icmp_ne (gk (k := 96) (t := 19) ck_X_movesUp_3 rfl) (gk (k := 96) (t := 20) ck_X_movesUp_3 rfl) (gk (k := 96) (t := 21) ck_X_movesUp_3 rfl) (by decide +kernel)
theorem d_X_movesUp_121 : decode y_X_movesUp.2.1 121 = .ok (.iload_n 1, 1) := op_iload_n1 (gk (k := 96) (t := 25) ck_X_movesUp_3 rfl)
theorem d_X_movesUp_122 : decode y_X_movesUp.2.1 122 = .ok (.iload 4, 2) := op_iload (gk (k := 96) (t := 26) ck_X_movesUp_3 rfl) (gk (k := 96) (t := 27) ck_X_movesUp_3 rfl) rfl
theorem d_X_movesUp_124 : decode y_X_movesUp.2.1 124 = .ok (.invokestatic 260, 3) := op_invokestatic (gk (k := 96) (t := 28) ck_X_movesUp_3 rfl) (gk (k := 96) (t := 29) ck_X_movesUp_3 rfl) (gk (k := 96) (t := 30) ck_X_movesUp_3 rfl) rfl
theorem ck_X_movesUp_4 : (y_X_movesUp.2.1.data.toList.drop 128).take 32 = [7, 3, 54, 8, 21, 8, 16, 6, 162, 0, 28, 42, 180, 0, 7, 21, 7, 21, 8, 96, 42, 27, 21, 5, 21, 8, 182, 1, 8, 79, 132, 8] := by decide +kernel
theorem d_X_movesUp_127 : decode y_X_movesUp.2.1 127 = .ok (.istore 7, 2) := op_istore (gk (k := 96) (t := 31) ck_X_movesUp_3 rfl) (gk (k := 128) (t := 0) ck_X_movesUp_4 rfl) rfl
theorem d_X_movesUp_129 : decode y_X_movesUp.2.1 129 = .ok (.iconst 0, 1) := op_iconst0 (gk (k := 128) (t := 1) ck_X_movesUp_4 rfl)
theorem d_X_movesUp_130 : decode y_X_movesUp.2.1 130 = .ok (.istore 8, 2) := op_istore (gk (k := 128) (t := 2) ck_X_movesUp_4 rfl) (gk (k := 128) (t := 3) ck_X_movesUp_4 rfl) rfl
theorem d_X_movesUp_132 : decode y_X_movesUp.2.1 132 = .ok (.iload 8, 2) := op_iload (gk (k := 128) (t := 4) ck_X_movesUp_4 rfl) (gk (k := 128) (t := 5) ck_X_movesUp_4 rfl) rfl
theorem d_X_movesUp_134 : decode y_X_movesUp.2.1 134 = .ok (.bipush 6, 2) := op_bipush (gk (k := 128) (t := 6) ck_X_movesUp_4 rfl) (gk (k := 128) (t := 7) ck_X_movesUp_4 rfl) rfl
theorem d_X_movesUp_136 : decode y_X_movesUp.2.1 136 = .ok (.if_icmp .ge 28, 3) := op_icmp_ge (gk (k := 128) (t := 8) ck_X_movesUp_4 rfl) (gk (k := 128) (t := 9) ck_X_movesUp_4 rfl) (gk (k := 128) (t := 10) ck_X_movesUp_4 rfl) (by decide +kernel)
theorem d_X_movesUp_139 : decode y_X_movesUp.2.1 139 = .ok (.aload_n 0, 1) := op_aload_n0 (gk (k := 128) (t := 11) ck_X_movesUp_4 rfl)
theorem d_X_movesUp_140 : decode y_X_movesUp.2.1 140 = .ok (.getfield 7, 3) := op_getfield (gk (k := 128) (t := 12) ck_X_movesUp_4 rfl) (gk (k := 128) (t := 13) ck_X_movesUp_4 rfl) (gk (k := 128) (t := 14) ck_X_movesUp_4 rfl) rfl
theorem d_X_movesUp_143 : decode y_X_movesUp.2.1 143 = .ok (.iload 7, 2) := op_iload (gk (k := 128) (t := 15) ck_X_movesUp_4 rfl) (gk (k := 128) (t := 16) ck_X_movesUp_4 rfl) rfl
theorem d_X_movesUp_145 : decode y_X_movesUp.2.1 145 = .ok (.iload 8, 2) := op_iload (gk (k := 128) (t := 17) ck_X_movesUp_4 rfl) (gk (k := 128) (t := 18) ck_X_movesUp_4 rfl) rfl
theorem d_X_movesUp_147 : decode y_X_movesUp.2.1 147 = .ok (.iadd, 1) := op_iadd (gk (k := 128) (t := 19) ck_X_movesUp_4 rfl)
theorem d_X_movesUp_148 : decode y_X_movesUp.2.1 148 = .ok (.aload_n 0, 1) := op_aload_n0 (gk (k := 128) (t := 20) ck_X_movesUp_4 rfl)
theorem d_X_movesUp_149 : decode y_X_movesUp.2.1 149 = .ok (.iload_n 1, 1) := op_iload_n1 (gk (k := 128) (t := 21) ck_X_movesUp_4 rfl)
theorem d_X_movesUp_150 : decode y_X_movesUp.2.1 150 = .ok (.iload 5, 2) := op_iload (gk (k := 128) (t := 22) ck_X_movesUp_4 rfl) (gk (k := 128) (t := 23) ck_X_movesUp_4 rfl) rfl
theorem d_X_movesUp_152 : decode y_X_movesUp.2.1 152 = .ok (.iload 8, 2) := op_iload (gk (k := 128) (t := 24) ck_X_movesUp_4 rfl) (gk (k := 128) (t := 25) ck_X_movesUp_4 rfl) rfl
theorem d_X_movesUp_154 : decode y_X_movesUp.2.1 154 = .ok (.invokevirtual 264, 3) := op_invokevirtual (gk (k := 128) (t := 26) ck_X_movesUp_4 rfl) (gk (k := 128) (t := 27) ck_X_movesUp_4 rfl) (gk (k := 128) (t := 28) ck_X_movesUp_4 rfl) rfl
theorem d_X_movesUp_157 : decode y_X_movesUp.2.1 157 = .ok (.iastore, 1) := op_iastore (gk (k := 128) (t := 29) ck_X_movesUp_4 rfl)
theorem ck_X_movesUp_5 : (y_X_movesUp.2.1.data.toList.drop 160).take 32 = [1, 167, 255, 227, 42, 180, 0, 44, 21, 6, 46, 158, 0, 40, 42, 180, 0, 7, 21, 7, 4, 96, 92, 46, 42, 180, 0, 44, 21, 6, 46, 100] := by decide +kernel
theorem d_X_movesUp_158 : decode y_X_movesUp.2.1 158 = .ok (.iinc 8 1, 3) := op_iinc (gk (k := 128) (t := 30) ck_X_movesUp_4 rfl) (gk (k := 128) (t := 31) ck_X_movesUp_4 rfl) (gk (k := 160) (t := 0) ck_X_movesUp_5 rfl) rfl rfl
theorem d_X_movesUp_161 : decode y_X_movesUp.2.1 161 = .ok (.goto (-29), 3) := op_goto (gk (k := 160) (t := 1) ck_X_movesUp_5 rfl) (gk (k := 160) (t := 2) ck_X_movesUp_5 rfl) (gk (k := 160) (t := 3) ck_X_movesUp_5 rfl) (by decide +kernel)
theorem d_X_movesUp_164 : decode y_X_movesUp.2.1 164 = .ok (.aload_n 0, 1) := op_aload_n0 (gk (k := 160) (t := 4) ck_X_movesUp_5 rfl)
theorem d_X_movesUp_165 : decode y_X_movesUp.2.1 165 = .ok (.getfield 44, 3) := op_getfield (gk (k := 160) (t := 5) ck_X_movesUp_5 rfl) (gk (k := 160) (t := 6) ck_X_movesUp_5 rfl) (gk (k := 160) (t := 7) ck_X_movesUp_5 rfl) rfl
theorem d_X_movesUp_168 : decode y_X_movesUp.2.1 168 = .ok (.iload 6, 2) := op_iload (gk (k := 160) (t := 8) ck_X_movesUp_5 rfl) (gk (k := 160) (t := 9) ck_X_movesUp_5 rfl) rfl
theorem d_X_movesUp_170 : decode y_X_movesUp.2.1 170 = .ok (.iaload, 1) := op_iaload (gk (k := 160) (t := 10) ck_X_movesUp_5 rfl)
theorem ck_X_movesUp_6 : (y_X_movesUp.2.1.data.toList.drop 192).take 32 = [79, 42, 180, 0, 7, 21, 7, 5, 96, 42, 180, 0, 7, 21, 7, 4, 96, 46, 79, 42, 180, 0, 7, 21, 7, 7, 96, 92, 46, 4, 96, 79] := by decide +kernel
theorem d_X_movesUp_211 : decode y_X_movesUp.2.1 211 = .ok (.aload_n 0, 1) := op_aload_n0 (gk (k := 192) (t := 19) ck_X_movesUp_6 rfl)
theorem d_X_movesUp_212 : decode y_X_movesUp.2.1 212 = .ok (.getfield 7, 3) := op_getfield (gk (k := 192) (t := 20) ck_X_movesUp_6 rfl) (gk (k := 192) (t := 21) ck_X_movesUp_6 rfl) (gk (k := 192) (t := 22) ck_X_movesUp_6 rfl) rfl
theorem d_X_movesUp_215 : decode y_X_movesUp.2.1 215 = .ok (.iload 7, 2) := op_iload (gk (k := 192) (t := 23) ck_X_movesUp_6 rfl) (gk (k := 192) (t := 24) ck_X_movesUp_6 rfl) rfl
theorem d_X_movesUp_217 : decode y_X_movesUp.2.1 217 = .ok (.iconst 4, 1) := op_iconst4 (gk (k := 192) (t := 25) ck_X_movesUp_6 rfl)
theorem d_X_movesUp_218 : decode y_X_movesUp.2.1 218 = .ok (.iadd, 1) := op_iadd (gk (k := 192) (t := 26) ck_X_movesUp_6 rfl)
theorem d_X_movesUp_219 : decode y_X_movesUp.2.1 219 = .ok (.dup2, 1) := op_dup2 (gk (k := 192) (t := 27) ck_X_movesUp_6 rfl)
theorem d_X_movesUp_220 : decode y_X_movesUp.2.1 220 = .ok (.iaload, 1) := op_iaload (gk (k := 192) (t := 28) ck_X_movesUp_6 rfl)
theorem d_X_movesUp_221 : decode y_X_movesUp.2.1 221 = .ok (.iconst 1, 1) := op_iconst1 (gk (k := 192) (t := 29) ck_X_movesUp_6 rfl)
theorem d_X_movesUp_222 : decode y_X_movesUp.2.1 222 = .ok (.iadd, 1) := op_iadd (gk (k := 192) (t := 30) ck_X_movesUp_6 rfl)
theorem d_X_movesUp_223 : decode y_X_movesUp.2.1 223 = .ok (.iastore, 1) := op_iastore (gk (k := 192) (t := 31) ck_X_movesUp_6 rfl)
theorem d_X_movesUp_224 : decode y_X_movesUp.2.1 224 = .ok (.aload_n 0, 1) := op_aload_n0 (gk (k := 224) (t := 0) ck_X_movesUp_7 rfl)
theorem d_X_movesUp_225 : decode y_X_movesUp.2.1 225 = .ok (.getfield 7, 3) := op_getfield (gk (k := 224) (t := 1) ck_X_movesUp_7 rfl) (gk (k := 224) (t := 2) ck_X_movesUp_7 rfl) (gk (k := 224) (t := 3) ck_X_movesUp_7 rfl) rfl
theorem d_X_movesUp_228 : decode y_X_movesUp.2.1 228 = .ok (.iload 7, 2) := op_iload (gk (k := 224) (t := 4) ck_X_movesUp_7 rfl) (gk (k := 224) (t := 5) ck_X_movesUp_7 rfl) rfl
theorem d_X_movesUp_230 : decode y_X_movesUp.2.1 230 = .ok (.iconst 5, 1) := op_iconst5 (gk (k := 224) (t := 6) ck_X_movesUp_7 rfl)
theorem d_X_movesUp_231 : decode y_X_movesUp.2.1 231 = .ok (.iadd, 1) := op_iadd (gk (k := 224) (t := 7) ck_X_movesUp_7 rfl)
theorem d_X_movesUp_232 : decode y_X_movesUp.2.1 232 = .ok (.dup2, 1) := op_dup2 (gk (k := 224) (t := 8) ck_X_movesUp_7 rfl)
theorem d_X_movesUp_233 : decode y_X_movesUp.2.1 233 = .ok (.iaload, 1) := op_iaload (gk (k := 224) (t := 9) ck_X_movesUp_7 rfl)
theorem d_X_movesUp_234 : decode y_X_movesUp.2.1 234 = .ok (.iload_n 3, 1) := op_iload_n3 (gk (k := 224) (t := 10) ck_X_movesUp_7 rfl)
theorem d_X_movesUp_243 : decode y_X_movesUp.2.1 243 = .ok (.iadd, 1) := op_iadd (gk (k := 224) (t := 19) ck_X_movesUp_7 rfl)
theorem d_X_movesUp_244 : decode y_X_movesUp.2.1 244 = .ok (.iastore, 1) := op_iastore (gk (k := 224) (t := 20) ck_X_movesUp_7 rfl)
theorem d_X_movesUp_245 : decode y_X_movesUp.2.1 245 = .ok (.iinc 4 1, 3) := op_iinc (gk (k := 224) (t := 21) ck_X_movesUp_7 rfl) (gk (k := 224) (t := 22) ck_X_movesUp_7 rfl) (gk (k := 224) (t := 23) ck_X_movesUp_7 rfl) rfl rfl
theorem d_X_movesUp_235 : decode y_X_movesUp.2.1 235 = .ok (.ifCond .le 7, 3) := op_if_le (gk (k := 224) (t := 11) ck_X_movesUp_7 rfl) (gk (k := 224) (t := 12) ck_X_movesUp_7 rfl) (gk (k := 224) (t := 13) ck_X_movesUp_7 rfl) (by decide +kernel)
theorem d_X_movesUp_242 : decode y_X_movesUp.2.1 242 = .ok (.iconst 0, 1) := op_iconst0 (gk (k := 224) (t := 18) ck_X_movesUp_7 rfl)
theorem d_X_movesUp_238 : decode y_X_movesUp.2.1 238 = .ok (.iconst 1, 1) := op_iconst1 (gk (k := 224) (t := 14) ck_X_movesUp_7 rfl)
theorem d_X_movesUp_239 : decode y_X_movesUp.2.1 239 = .ok (.goto 4, 3) := op_goto (gk (k := 224) (t := 15) ck_X_movesUp_7 rfl) (gk (k := 224) (t := 16) ck_X_movesUp_7 rfl) (gk (k := 224) (t := 17) ck_X_movesUp_7 rfl) (by decide +kernel)
theorem d_X_movesUp_171 : decode y_X_movesUp.2.1 171 = .ok (.ifCond .le 40, 3) := op_if_le (gk (k := 160) (t := 11) ck_X_movesUp_5 rfl) (gk (k := 160) (t := 12) ck_X_movesUp_5 rfl) (gk (k := 160) (t := 13) ck_X_movesUp_5 rfl) (by decide +kernel)
theorem d_X_movesUp_174 : decode y_X_movesUp.2.1 174 = .ok (.aload_n 0, 1) := op_aload_n0 (gk (k := 160) (t := 14) ck_X_movesUp_5 rfl)
theorem d_X_movesUp_175 : decode y_X_movesUp.2.1 175 = .ok (.getfield 7, 3) := op_getfield (gk (k := 160) (t := 15) ck_X_movesUp_5 rfl) (gk (k := 160) (t := 16) ck_X_movesUp_5 rfl) (gk (k := 160) (t := 17) ck_X_movesUp_5 rfl) rfl
theorem d_X_movesUp_178 : decode y_X_movesUp.2.1 178 = .ok (.iload 7, 2) := op_iload (gk (k := 160) (t := 18) ck_X_movesUp_5 rfl) (gk (k := 160) (t := 19) ck_X_movesUp_5 rfl) rfl
theorem d_X_movesUp_180 : decode y_X_movesUp.2.1 180 = .ok (.iconst 1, 1) := op_iconst1 (gk (k := 160) (t := 20) ck_X_movesUp_5 rfl)
theorem d_X_movesUp_181 : decode y_X_movesUp.2.1 181 = .ok (.iadd, 1) := op_iadd (gk (k := 160) (t := 21) ck_X_movesUp_5 rfl)
theorem d_X_movesUp_182 : decode y_X_movesUp.2.1 182 = .ok (.dup2, 1) := op_dup2 (gk (k := 160) (t := 22) ck_X_movesUp_5 rfl)
theorem d_X_movesUp_183 : decode y_X_movesUp.2.1 183 = .ok (.iaload, 1) := op_iaload (gk (k := 160) (t := 23) ck_X_movesUp_5 rfl)
theorem d_X_movesUp_184 : decode y_X_movesUp.2.1 184 = .ok (.aload_n 0, 1) := op_aload_n0 (gk (k := 160) (t := 24) ck_X_movesUp_5 rfl)
theorem d_X_movesUp_185 : decode y_X_movesUp.2.1 185 = .ok (.getfield 44, 3) := op_getfield (gk (k := 160) (t := 25) ck_X_movesUp_5 rfl) (gk (k := 160) (t := 26) ck_X_movesUp_5 rfl) (gk (k := 160) (t := 27) ck_X_movesUp_5 rfl) rfl
theorem d_X_movesUp_188 : decode y_X_movesUp.2.1 188 = .ok (.iload 6, 2) := op_iload (gk (k := 160) (t := 28) ck_X_movesUp_5 rfl) (gk (k := 160) (t := 29) ck_X_movesUp_5 rfl) rfl
theorem d_X_movesUp_190 : decode y_X_movesUp.2.1 190 = .ok (.iaload, 1) := op_iaload (gk (k := 160) (t := 30) ck_X_movesUp_5 rfl)
theorem d_X_movesUp_191 : decode y_X_movesUp.2.1 191 = .ok (.isub, 1) := op_isub (gk (k := 160) (t := 31) ck_X_movesUp_5 rfl)
theorem d_X_movesUp_192 : decode y_X_movesUp.2.1 192 = .ok (.iastore, 1) := op_iastore (gk (k := 192) (t := 0) ck_X_movesUp_6 rfl)
theorem d_X_movesUp_193 : decode y_X_movesUp.2.1 193 = .ok (.aload_n 0, 1) := op_aload_n0 (gk (k := 192) (t := 1) ck_X_movesUp_6 rfl)
theorem d_X_movesUp_194 : decode y_X_movesUp.2.1 194 = .ok (.getfield 7, 3) := op_getfield (gk (k := 192) (t := 2) ck_X_movesUp_6 rfl) (gk (k := 192) (t := 3) ck_X_movesUp_6 rfl) (gk (k := 192) (t := 4) ck_X_movesUp_6 rfl) rfl
theorem d_X_movesUp_197 : decode y_X_movesUp.2.1 197 = .ok (.iload 7, 2) := op_iload (gk (k := 192) (t := 5) ck_X_movesUp_6 rfl) (gk (k := 192) (t := 6) ck_X_movesUp_6 rfl) rfl
theorem d_X_movesUp_199 : decode y_X_movesUp.2.1 199 = .ok (.iconst 2, 1) := op_iconst2 (gk (k := 192) (t := 7) ck_X_movesUp_6 rfl)
theorem d_X_movesUp_200 : decode y_X_movesUp.2.1 200 = .ok (.iadd, 1) := op_iadd (gk (k := 192) (t := 8) ck_X_movesUp_6 rfl)
theorem d_X_movesUp_201 : decode y_X_movesUp.2.1 201 = .ok (.aload_n 0, 1) := op_aload_n0 (gk (k := 192) (t := 9) ck_X_movesUp_6 rfl)
theorem d_X_movesUp_202 : decode y_X_movesUp.2.1 202 = .ok (.getfield 7, 3) := op_getfield (gk (k := 192) (t := 10) ck_X_movesUp_6 rfl) (gk (k := 192) (t := 11) ck_X_movesUp_6 rfl) (gk (k := 192) (t := 12) ck_X_movesUp_6 rfl) rfl
theorem d_X_movesUp_205 : decode y_X_movesUp.2.1 205 = .ok (.iload 7, 2) := op_iload (gk (k := 192) (t := 13) ck_X_movesUp_6 rfl) (gk (k := 192) (t := 14) ck_X_movesUp_6 rfl) rfl
theorem d_X_movesUp_207 : decode y_X_movesUp.2.1 207 = .ok (.iconst 1, 1) := op_iconst1 (gk (k := 192) (t := 15) ck_X_movesUp_6 rfl)
theorem d_X_movesUp_208 : decode y_X_movesUp.2.1 208 = .ok (.iadd, 1) := op_iadd (gk (k := 192) (t := 16) ck_X_movesUp_6 rfl)
theorem d_X_movesUp_209 : decode y_X_movesUp.2.1 209 = .ok (.iaload, 1) := op_iaload (gk (k := 192) (t := 17) ck_X_movesUp_6 rfl)
theorem d_X_movesUp_210 : decode y_X_movesUp.2.1 210 = .ok (.iastore, 1) := op_iastore (gk (k := 192) (t := 18) ck_X_movesUp_6 rfl)
theorem d_X_movesUp_118 : decode y_X_movesUp.2.1 118 = .ok (.goto 130, 3) := op_goto (gk (k := 96) (t := 22) ck_X_movesUp_3 rfl) (gk (k := 96) (t := 23) ck_X_movesUp_3 rfl) (gk (k := 96) (t := 24) ck_X_movesUp_3 rfl) (by decide +kernel)
theorem d_X_movesUp_80 : decode y_X_movesUp.2.1 80 = .ok (.ifCond .le 7, 3) := op_if_le (gk (k := 64) (t := 16) ck_X_movesUp_2 rfl) (gk (k := 64) (t := 17) ck_X_movesUp_2 rfl) (gk (k := 64) (t := 18) ck_X_movesUp_2 rfl) (by decide +kernel)
theorem d_X_movesUp_87 : decode y_X_movesUp.2.1 87 = .ok (.iconst 0, 1) := op_iconst0 (gk (k := 64) (t := 23) ck_X_movesUp_2 rfl)
theorem d_X_movesUp_83 : decode y_X_movesUp.2.1 83 = .ok (.iconst 1, 1) := op_iconst1 (gk (k := 64) (t := 19) ck_X_movesUp_2 rfl)
theorem d_X_movesUp_84 : decode y_X_movesUp.2.1 84 = .ok (.goto 4, 3) := op_goto (gk (k := 64) (t := 20) ck_X_movesUp_2 rfl) (gk (k := 64) (t := 21) ck_X_movesUp_2 rfl) (gk (k := 64) (t := 22) ck_X_movesUp_2 rfl) (by decide +kernel)
theorem d_X_movesUp_254 : decode y_X_movesUp.2.1 254 = .ok (.aload_n 0, 1) := op_aload_n0 (gk (k := 224) (t := 30) ck_X_movesUp_7 rfl)
theorem ck_X_movesUp_8 : (y_X_movesUp.2.1.data.toList.drop 256).take 32 = [0, 7, 17, 0, 130, 27, 96, 21, 4, 79, 177] := by decide +kernel
theorem d_X_movesUp_255 : decode y_X_movesUp.2.1 255 = .ok (.getfield 7, 3) := op_getfield (gk (k := 224) (t := 31) ck_X_movesUp_7 rfl) (gk (k := 256) (t := 0) ck_X_movesUp_8 rfl) (gk (k := 256) (t := 1) ck_X_movesUp_8 rfl) rfl
theorem d_X_movesUp_258 : decode y_X_movesUp.2.1 258 = .ok (.sipush 130, 3) := op_sipush (gk (k := 256) (t := 2) ck_X_movesUp_8 rfl) (gk (k := 256) (t := 3) ck_X_movesUp_8 rfl) (gk (k := 256) (t := 4) ck_X_movesUp_8 rfl) (by decide +kernel)
theorem d_X_movesUp_261 : decode y_X_movesUp.2.1 261 = .ok (.iload_n 1, 1) := op_iload_n1 (gk (k := 256) (t := 5) ck_X_movesUp_8 rfl)
theorem d_X_movesUp_262 : decode y_X_movesUp.2.1 262 = .ok (.iadd, 1) := op_iadd (gk (k := 256) (t := 6) ck_X_movesUp_8 rfl)
theorem d_X_movesUp_263 : decode y_X_movesUp.2.1 263 = .ok (.iload 4, 2) := op_iload (gk (k := 256) (t := 7) ck_X_movesUp_8 rfl) (gk (k := 256) (t := 8) ck_X_movesUp_8 rfl) rfl
theorem d_X_movesUp_265 : decode y_X_movesUp.2.1 265 = .ok (.iastore, 1) := op_iastore (gk (k := 256) (t := 9) ck_X_movesUp_8 rfl)
theorem d_X_movesUp_266 : decode y_X_movesUp.2.1 266 = .ok (.return_, 1) := op_return_ (gk (k := 256) (t := 10) ck_X_movesUp_8 rfl)
abbrev y_X_goesOff : MI := (⟨"SinglesUpModel", "goesOff", "()I"⟩, prog_11_method_55_code, 7, some .int)
theorem ck_X_goesOff_0 : (y_X_goesOff.2.1.data.toList.drop 0).take 32 = [42, 180, 0, 7, 4, 46, 42, 180, 1, 33, 100, 60, 42, 180, 0, 7, 16, 71, 92, 46, 42, 180, 1, 33, 96, 79, 42, 180, 0, 7, 16, 72] := by decide +kernel
theorem d_X_goesOff_0 : decode y_X_goesOff.2.1 0 = .ok (.aload_n 0, 1) := op_aload_n0 (gk (k := 0) (t := 0) ck_X_goesOff_0 rfl)
theorem d_X_goesOff_1 : decode y_X_goesOff.2.1 1 = .ok (.getfield 7, 3) := op_getfield (gk (k := 0) (t := 1) ck_X_goesOff_0 rfl) (gk (k := 0) (t := 2) ck_X_goesOff_0 rfl) (gk (k := 0) (t := 3) ck_X_goesOff_0 rfl) rfl
theorem d_X_goesOff_4 : decode y_X_goesOff.2.1 4 = .ok (.iconst 1, 1) := op_iconst1 (gk (k := 0) (t := 4) ck_X_goesOff_0 rfl)
theorem d_X_goesOff_5 : decode y_X_goesOff.2.1 5 = .ok (.iaload, 1) := op_iaload (gk (k := 0) (t := 5) ck_X_goesOff_0 rfl)
theorem d_X_goesOff_6 : decode y_X_goesOff.2.1 6 = .ok (.aload_n 0, 1) := op_aload_n0 (gk (k := 0) (t := 6) ck_X_goesOff_0 rfl)
theorem d_X_goesOff_7 : decode y_X_goesOff.2.1 7 = .ok (.getfield 289, 3) := op_getfield (gk (k := 0) (t := 7) ck_X_goesOff_0 rfl) (gk (k := 0) (t := 8) ck_X_goesOff_0 rfl) (gk (k := 0) (t := 9) ck_X_goesOff_0 rfl) rfl
theorem d_X_goesOff_10 : decode y_X_goesOff.2.1 10 = .ok (.isub, 1) := op_isub (gk (k := 0) (t := 10) ck_X_goesOff_0 rfl)
theorem d_X_goesOff_11 : decode y_X_goesOff.2.1 11 = .ok (.istore_n 1, 1) := op_istore_n1 (gk (k := 0) (t := 11) ck_X_goesOff_0 rfl)
theorem d_X_goesOff_12 : decode y_X_goesOff.2.1 12 = .ok (.aload_n 0, 1) := op_aload_n0 (gk (k := 0) (t := 12) ck_X_goesOff_0 rfl)
theorem d_X_goesOff_13 : decode y_X_goesOff.2.1 13 = .ok (.getfield 7, 3) := op_getfield (gk (k := 0) (t := 13) ck_X_goesOff_0 rfl) (gk (k := 0) (t := 14) ck_X_goesOff_0 rfl) (gk (k := 0) (t := 15) ck_X_goesOff_0 rfl) rfl
theorem cb_71 : (Int8.ofInt 71).toInt32 = iv 71 := by decide +kernel
theorem d_X_goesOff_16 : decode y_X_goesOff.2.1 16 = .ok (.bipush 71, 2) := op_bipush (gk (k := 0) (t := 16) ck_X_goesOff_0 rfl) (gk (k := 0) (t := 17) ck_X_goesOff_0 rfl) rfl
theorem d_X_goesOff_18 : decode y_X_goesOff.2.1 18 = .ok (.dup2, 1) := op_dup2 (gk (k := 0) (t := 18) ck_X_goesOff_0 rfl)
theorem d_X_goesOff_19 : decode y_X_goesOff.2.1 19 = .ok (.iaload, 1) := op_iaload (gk (k := 0) (t := 19) ck_X_goesOff_0 rfl)
theorem d_X_goesOff_20 : decode y_X_goesOff.2.1 20 = .ok (.aload_n 0, 1) := op_aload_n0 (gk (k := 0) (t := 20) ck_X_goesOff_0 rfl)
theorem d_X_goesOff_21 : decode y_X_goesOff.2.1 21 = .ok (.getfield 289, 3) := op_getfield (gk (k := 0) (t := 21) ck_X_goesOff_0 rfl) (gk (k := 0) (t := 22) ck_X_goesOff_0 rfl) (gk (k := 0) (t := 23) ck_X_goesOff_0 rfl) rfl
theorem d_X_goesOff_24 : decode y_X_goesOff.2.1 24 = .ok (.iadd, 1) := op_iadd (gk (k := 0) (t := 24) ck_X_goesOff_0 rfl)
theorem d_X_goesOff_25 : decode y_X_goesOff.2.1 25 = .ok (.iastore, 1) := op_iastore (gk (k := 0) (t := 25) ck_X_goesOff_0 rfl)
theorem d_X_goesOff_26 : decode y_X_goesOff.2.1 26 = .ok (.aload_n 0, 1) := op_aload_n0 (gk (k := 0) (t := 26) ck_X_goesOff_0 rfl)
theorem d_X_goesOff_27 : decode y_X_goesOff.2.1 27 = .ok (.getfield 7, 3) := op_getfield (gk (k := 0) (t := 27) ck_X_goesOff_0 rfl) (gk (k := 0) (t := 28) ck_X_goesOff_0 rfl) (gk (k := 0) (t := 29) ck_X_goesOff_0 rfl) rfl
theorem cb_72 : (Int8.ofInt 72).toInt32 = iv 72 := by decide +kernel
theorem d_X_goesOff_30 : decode y_X_goesOff.2.1 30 = .ok (.bipush 72, 2) := op_bipush (gk (k := 0) (t := 30) ck_X_goesOff_0 rfl) (gk (k := 0) (t := 31) ck_X_goesOff_0 rfl) rfl
theorem ck_X_goesOff_1 : (y_X_goesOff.2.1.data.toList.drop 32).take 32 = [92, 46, 27, 96, 79, 42, 180, 0, 7, 16, 110, 42, 180, 1, 35, 79, 42, 180, 0, 7, 16, 111, 42, 180, 1, 33, 79, 3, 61, 28, 42, 180] := by decide +kernel
theorem d_X_goesOff_32 : decode y_X_goesOff.2.1 32 = .ok (.dup2, 1) := op_dup2 (gk (k := 32) (t := 0) ck_X_goesOff_1 rfl)
theorem d_X_goesOff_33 : decode y_X_goesOff.2.1 33 = .ok (.iaload, 1) := op_iaload (gk (k := 32) (t := 1) ck_X_goesOff_1 rfl)
theorem d_X_goesOff_34 : decode y_X_goesOff.2.1 34 = .ok (.iload_n 1, 1) := op_iload_n1 (gk (k := 32) (t := 2) ck_X_goesOff_1 rfl)
theorem d_X_goesOff_35 : decode y_X_goesOff.2.1 35 = .ok (.iadd, 1) := op_iadd (gk (k := 32) (t := 3) ck_X_goesOff_1 rfl)
theorem d_X_goesOff_36 : decode y_X_goesOff.2.1 36 = .ok (.iastore, 1) := op_iastore (gk (k := 32) (t := 4) ck_X_goesOff_1 rfl)
theorem d_X_goesOff_37 : decode y_X_goesOff.2.1 37 = .ok (.aload_n 0, 1) := op_aload_n0 (gk (k := 32) (t := 5) ck_X_goesOff_1 rfl)
theorem d_X_goesOff_38 : decode y_X_goesOff.2.1 38 = .ok (.getfield 7, 3) := op_getfield (gk (k := 32) (t := 6) ck_X_goesOff_1 rfl) (gk (k := 32) (t := 7) ck_X_goesOff_1 rfl) (gk (k := 32) (t := 8) ck_X_goesOff_1 rfl) rfl
theorem cb_110 : (Int8.ofInt 110).toInt32 = iv 110 := by decide +kernel
theorem d_X_goesOff_41 : decode y_X_goesOff.2.1 41 = .ok (.bipush 110, 2) := op_bipush (gk (k := 32) (t := 9) ck_X_goesOff_1 rfl) (gk (k := 32) (t := 10) ck_X_goesOff_1 rfl) rfl
theorem d_X_goesOff_43 : decode y_X_goesOff.2.1 43 = .ok (.aload_n 0, 1) := op_aload_n0 (gk (k := 32) (t := 11) ck_X_goesOff_1 rfl)
theorem d_X_goesOff_44 : decode y_X_goesOff.2.1 44 = .ok (.getfield 291, 3) := op_getfield (gk (k := 32) (t := 12) ck_X_goesOff_1 rfl) (gk (k := 32) (t := 13) ck_X_goesOff_1 rfl) (gk (k := 32) (t := 14) ck_X_goesOff_1 rfl) rfl
theorem d_X_goesOff_47 : decode y_X_goesOff.2.1 47 = .ok (.iastore, 1) := op_iastore (gk (k := 32) (t := 15) ck_X_goesOff_1 rfl)
theorem d_X_goesOff_48 : decode y_X_goesOff.2.1 48 = .ok (.aload_n 0, 1) := op_aload_n0 (gk (k := 32) (t := 16) ck_X_goesOff_1 rfl)
theorem d_X_goesOff_49 : decode y_X_goesOff.2.1 49 = .ok (.getfield 7, 3) := op_getfield (gk (k := 32) (t := 17) ck_X_goesOff_1 rfl) (gk (k := 32) (t := 18) ck_X_goesOff_1 rfl) (gk (k := 32) (t := 19) ck_X_goesOff_1 rfl) rfl
theorem cb_111 : (Int8.ofInt 111).toInt32 = iv 111 := by decide +kernel
theorem d_X_goesOff_52 : decode y_X_goesOff.2.1 52 = .ok (.bipush 111, 2) := op_bipush (gk (k := 32) (t := 20) ck_X_goesOff_1 rfl) (gk (k := 32) (t := 21) ck_X_goesOff_1 rfl) rfl
theorem d_X_goesOff_54 : decode y_X_goesOff.2.1 54 = .ok (.aload_n 0, 1) := op_aload_n0 (gk (k := 32) (t := 22) ck_X_goesOff_1 rfl)
theorem d_X_goesOff_55 : decode y_X_goesOff.2.1 55 = .ok (.getfield 289, 3) := op_getfield (gk (k := 32) (t := 23) ck_X_goesOff_1 rfl) (gk (k := 32) (t := 24) ck_X_goesOff_1 rfl) (gk (k := 32) (t := 25) ck_X_goesOff_1 rfl) rfl
theorem d_X_goesOff_58 : decode y_X_goesOff.2.1 58 = .ok (.iastore, 1) := op_iastore (gk (k := 32) (t := 26) ck_X_goesOff_1 rfl)
theorem d_X_goesOff_59 : decode y_X_goesOff.2.1 59 = .ok (.iconst 0, 1) := op_iconst0 (gk (k := 32) (t := 27) ck_X_goesOff_1 rfl)
theorem d_X_goesOff_60 : decode y_X_goesOff.2.1 60 = .ok (.istore_n 2, 1) := op_istore_n2 (gk (k := 32) (t := 28) ck_X_goesOff_1 rfl)
theorem d_X_goesOff_61 : decode y_X_goesOff.2.1 61 = .ok (.iload_n 2, 1) := op_iload_n2 (gk (k := 32) (t := 29) ck_X_goesOff_1 rfl)
theorem d_X_goesOff_62 : decode y_X_goesOff.2.1 62 = .ok (.aload_n 0, 1) := op_aload_n0 (gk (k := 32) (t := 30) ck_X_goesOff_1 rfl)
theorem ck_X_goesOff_2 : (y_X_goesOff.2.1.data.toList.drop 64).take 32 = [1, 35, 162, 0, 137, 42, 180, 0, 50, 28, 46, 16, 40, 108, 62, 42, 180, 0, 50, 28, 46, 16, 40, 112, 54, 4, 42, 180, 0, 44, 42, 180] := by decide +kernel
theorem d_X_goesOff_63 : decode y_X_goesOff.2.1 63 = .ok (.getfield 291, 3) := op_getfield (gk (k := 32) (t := 31) ck_X_goesOff_1 rfl) (gk (k := 64) (t := 0) ck_X_goesOff_2 rfl) (gk (k := 64) (t := 1) ck_X_goesOff_2 rfl) rfl
theorem d_X_goesOff_66 : decode y_X_goesOff.2.1 66 = .ok (.if_icmp .ge 137, 3) := op_icmp_ge (gk (k := 64) (t := 2) ck_X_goesOff_2 rfl) (gk (k := 64) (t := 3) ck_X_goesOff_2 rfl) (gk (k := 64) (t := 4) ck_X_goesOff_2 rfl) (by decide +kernel)
theorem d_X_goesOff_69 : decode y_X_goesOff.2.1 69 = .ok (.aload_n 0, 1) := op_aload_n0 (gk (k := 64) (t := 5) ck_X_goesOff_2 rfl)
theorem fl_X_50 : FL "SinglesUpModel" 50 9 27 := ⟨"SinglesUpModel", zT9, 51, rfl, by decide, rfl, Or.inl (tw_c5 120 (by decide +kernel) rfl)⟩
theorem rm_9_27 : ∀ o, KM[o]? = some (12, 51) → RM o 27 = some (o + 11) ∧ KM[o + 11]? = some (0, 8) := by
  intro o h
  have hl : o < 26 := (List.getElem?_eq_some_iff.mp h).1
  exact (by decide +kernel : ∀ o, o < 26 → KM[o]? = some (12, 51) → RM o 27 = some (o + 11) ∧ KM[o + 11]? = some (0, 8)) o hl h
theorem d_X_goesOff_70 : decode y_X_goesOff.2.1 70 = .ok (.getfield 50, 3) := op_getfield (gk (k := 64) (t := 6) ck_X_goesOff_2 rfl) (gk (k := 64) (t := 7) ck_X_goesOff_2 rfl) (gk (k := 64) (t := 8) ck_X_goesOff_2 rfl) rfl
theorem d_X_goesOff_73 : decode y_X_goesOff.2.1 73 = .ok (.iload_n 2, 1) := op_iload_n2 (gk (k := 64) (t := 9) ck_X_goesOff_2 rfl)
theorem d_X_goesOff_74 : decode y_X_goesOff.2.1 74 = .ok (.iaload, 1) := op_iaload (gk (k := 64) (t := 10) ck_X_goesOff_2 rfl)
theorem d_X_goesOff_75 : decode y_X_goesOff.2.1 75 = .ok (.bipush 40, 2) := op_bipush (gk (k := 64) (t := 11) ck_X_goesOff_2 rfl) (gk (k := 64) (t := 12) ck_X_goesOff_2 rfl) rfl
theorem d_X_goesOff_77 : decode y_X_goesOff.2.1 77 = .ok (.idiv, 1) := op_idiv (gk (k := 64) (t := 13) ck_X_goesOff_2 rfl)
theorem d_X_goesOff_78 : decode y_X_goesOff.2.1 78 = .ok (.istore_n 3, 1) := op_istore_n3 (gk (k := 64) (t := 14) ck_X_goesOff_2 rfl)
theorem d_X_goesOff_79 : decode y_X_goesOff.2.1 79 = .ok (.aload_n 0, 1) := op_aload_n0 (gk (k := 64) (t := 15) ck_X_goesOff_2 rfl)
theorem d_X_goesOff_80 : decode y_X_goesOff.2.1 80 = .ok (.getfield 50, 3) := op_getfield (gk (k := 64) (t := 16) ck_X_goesOff_2 rfl) (gk (k := 64) (t := 17) ck_X_goesOff_2 rfl) (gk (k := 64) (t := 18) ck_X_goesOff_2 rfl) rfl
theorem d_X_goesOff_83 : decode y_X_goesOff.2.1 83 = .ok (.iload_n 2, 1) := op_iload_n2 (gk (k := 64) (t := 19) ck_X_goesOff_2 rfl)
theorem d_X_goesOff_84 : decode y_X_goesOff.2.1 84 = .ok (.iaload, 1) := op_iaload (gk (k := 64) (t := 20) ck_X_goesOff_2 rfl)
theorem d_X_goesOff_85 : decode y_X_goesOff.2.1 85 = .ok (.bipush 40, 2) := op_bipush (gk (k := 64) (t := 21) ck_X_goesOff_2 rfl) (gk (k := 64) (t := 22) ck_X_goesOff_2 rfl) rfl
theorem d_X_goesOff_87 : decode y_X_goesOff.2.1 87 = .ok (.irem, 1) := op_irem (gk (k := 64) (t := 23) ck_X_goesOff_2 rfl)
theorem d_X_goesOff_88 : decode y_X_goesOff.2.1 88 = .ok (.istore 4, 2) := op_istore (gk (k := 64) (t := 24) ck_X_goesOff_2 rfl) (gk (k := 64) (t := 25) ck_X_goesOff_2 rfl) rfl
theorem d_X_goesOff_90 : decode y_X_goesOff.2.1 90 = .ok (.aload_n 0, 1) := op_aload_n0 (gk (k := 64) (t := 26) ck_X_goesOff_2 rfl)
theorem d_X_goesOff_91 : decode y_X_goesOff.2.1 91 = .ok (.getfield 44, 3) := op_getfield (gk (k := 64) (t := 27) ck_X_goesOff_2 rfl) (gk (k := 64) (t := 28) ck_X_goesOff_2 rfl) (gk (k := 64) (t := 29) ck_X_goesOff_2 rfl) rfl
theorem d_X_goesOff_94 : decode y_X_goesOff.2.1 94 = .ok (.aload_n 0, 1) := op_aload_n0 (gk (k := 64) (t := 30) ck_X_goesOff_2 rfl)
theorem ck_X_goesOff_3 : (y_X_goesOff.2.1.data.toList.drop 96).take 32 = [0, 50, 28, 46, 46, 54, 5, 42, 29, 21, 4, 7, 182, 1, 8, 54, 6, 42, 180, 0, 7, 16, 112, 28, 96, 42, 29, 21, 4, 3, 182, 1] := by decide +kernel
theorem d_X_goesOff_95 : decode y_X_goesOff.2.1 95 = .ok (.getfield 50, 3) := op_getfield (gk (k := 64) (t := 31) ck_X_goesOff_2 rfl) (gk (k := 96) (t := 0) ck_X_goesOff_3 rfl) (gk (k := 96) (t := 1) ck_X_goesOff_3 rfl) rfl
theorem d_X_goesOff_98 : decode y_X_goesOff.2.1 98 = .ok (.iload_n 2, 1) := op_iload_n2 (gk (k := 96) (t := 2) ck_X_goesOff_3 rfl)
theorem d_X_goesOff_99 : decode y_X_goesOff.2.1 99 = .ok (.iaload, 1) := op_iaload (gk (k := 96) (t := 3) ck_X_goesOff_3 rfl)
theorem d_X_goesOff_100 : decode y_X_goesOff.2.1 100 = .ok (.iaload, 1) := op_iaload (gk (k := 96) (t := 4) ck_X_goesOff_3 rfl)
theorem d_X_goesOff_101 : decode y_X_goesOff.2.1 101 = .ok (.istore 5, 2) := op_istore (gk (k := 96) (t := 5) ck_X_goesOff_3 rfl) (gk (k := 96) (t := 6) ck_X_goesOff_3 rfl) rfl
theorem d_X_goesOff_103 : decode y_X_goesOff.2.1 103 = .ok (.aload_n 0, 1) := op_aload_n0 (gk (k := 96) (t := 7) ck_X_goesOff_3 rfl)
theorem d_X_goesOff_104 : decode y_X_goesOff.2.1 104 = .ok (.iload_n 3, 1) := op_iload_n3 (gk (k := 96) (t := 8) ck_X_goesOff_3 rfl)
theorem d_X_goesOff_105 : decode y_X_goesOff.2.1 105 = .ok (.iload 4, 2) := op_iload (gk (k := 96) (t := 9) ck_X_goesOff_3 rfl) (gk (k := 96) (t := 10) ck_X_goesOff_3 rfl) rfl
theorem d_X_goesOff_107 : decode y_X_goesOff.2.1 107 = .ok (.iconst 4, 1) := op_iconst4 (gk (k := 96) (t := 11) ck_X_goesOff_3 rfl)
theorem d_X_goesOff_108 : decode y_X_goesOff.2.1 108 = .ok (.invokevirtual 264, 3) := op_invokevirtual (gk (k := 96) (t := 12) ck_X_goesOff_3 rfl) (gk (k := 96) (t := 13) ck_X_goesOff_3 rfl) (gk (k := 96) (t := 14) ck_X_goesOff_3 rfl) rfl
theorem d_X_goesOff_111 : decode y_X_goesOff.2.1 111 = .ok (.istore 6, 2) := op_istore (gk (k := 96) (t := 15) ck_X_goesOff_3 rfl) (gk (k := 96) (t := 16) ck_X_goesOff_3 rfl) rfl
theorem d_X_goesOff_113 : decode y_X_goesOff.2.1 113 = .ok (.aload_n 0, 1) := op_aload_n0 (gk (k := 96) (t := 17) ck_X_goesOff_3 rfl)
theorem d_X_goesOff_114 : decode y_X_goesOff.2.1 114 = .ok (.getfield 7, 3) := op_getfield (gk (k := 96) (t := 18) ck_X_goesOff_3 rfl) (gk (k := 96) (t := 19) ck_X_goesOff_3 rfl) (gk (k := 96) (t := 20) ck_X_goesOff_3 rfl) rfl
theorem cb_112 : (Int8.ofInt 112).toInt32 = iv 112 := by decide +kernel
theorem d_X_goesOff_117 : decode y_X_goesOff.2.1 117 = .ok (.bipush 112, 2) := op_bipush (gk (k := 96) (t := 21) ck_X_goesOff_3 rfl) (gk (k := 96) (t := 22) ck_X_goesOff_3 rfl) rfl
theorem d_X_goesOff_119 : decode y_X_goesOff.2.1 119 = .ok (.iload_n 2, 1) := op_iload_n2 (gk (k := 96) (t := 23) ck_X_goesOff_3 rfl)
theorem d_X_goesOff_120 : decode y_X_goesOff.2.1 120 = .ok (.iadd, 1) := op_iadd (gk (k := 96) (t := 24) ck_X_goesOff_3 rfl)
theorem d_X_goesOff_121 : decode y_X_goesOff.2.1 121 = .ok (.aload_n 0, 1) := op_aload_n0 (gk (k := 96) (t := 25) ck_X_goesOff_3 rfl)
theorem d_X_goesOff_122 : decode y_X_goesOff.2.1 122 = .ok (.iload_n 3, 1) := op_iload_n3 (gk (k := 96) (t := 26) ck_X_goesOff_3 rfl)
theorem d_X_goesOff_123 : decode y_X_goesOff.2.1 123 = .ok (.iload 4, 2) := op_iload (gk (k := 96) (t := 27) ck_X_goesOff_3 rfl) (gk (k := 96) (t := 28) ck_X_goesOff_3 rfl) rfl
theorem d_X_goesOff_125 : decode y_X_goesOff.2.1 125 = .ok (.iconst 0, 1) := op_iconst0 (gk (k := 96) (t := 29) ck_X_goesOff_3 rfl)
theorem ck_X_goesOff_4 : (y_X_goesOff.2.1.data.toList.drop 128).take 32 = [8, 79, 42, 180, 0, 7, 16, 120, 28, 96, 21, 5, 79, 42, 180, 0, 7, 16, 80, 21, 5, 96, 92, 46, 4, 96, 79, 42, 180, 0, 7, 16] := by decide +kernel
theorem d_X_goesOff_126 : decode y_X_goesOff.2.1 126 = .ok (.invokevirtual 264, 3) := op_invokevirtual (gk (k := 96) (t := 30) ck_X_goesOff_3 rfl) (gk (k := 96) (t := 31) ck_X_goesOff_3 rfl) (gk (k := 128) (t := 0) ck_X_goesOff_4 rfl) rfl
theorem d_X_goesOff_129 : decode y_X_goesOff.2.1 129 = .ok (.iastore, 1) := op_iastore (gk (k := 128) (t := 1) ck_X_goesOff_4 rfl)
theorem d_X_goesOff_130 : decode y_X_goesOff.2.1 130 = .ok (.aload_n 0, 1) := op_aload_n0 (gk (k := 128) (t := 2) ck_X_goesOff_4 rfl)
theorem d_X_goesOff_131 : decode y_X_goesOff.2.1 131 = .ok (.getfield 7, 3) := op_getfield (gk (k := 128) (t := 3) ck_X_goesOff_4 rfl) (gk (k := 128) (t := 4) ck_X_goesOff_4 rfl) (gk (k := 128) (t := 5) ck_X_goesOff_4 rfl) rfl
theorem cb_120 : (Int8.ofInt 120).toInt32 = iv 120 := by decide +kernel
theorem d_X_goesOff_134 : decode y_X_goesOff.2.1 134 = .ok (.bipush 120, 2) := op_bipush (gk (k := 128) (t := 6) ck_X_goesOff_4 rfl) (gk (k := 128) (t := 7) ck_X_goesOff_4 rfl) rfl
theorem d_X_goesOff_136 : decode y_X_goesOff.2.1 136 = .ok (.iload_n 2, 1) := op_iload_n2 (gk (k := 128) (t := 8) ck_X_goesOff_4 rfl)
theorem d_X_goesOff_137 : decode y_X_goesOff.2.1 137 = .ok (.iadd, 1) := op_iadd (gk (k := 128) (t := 9) ck_X_goesOff_4 rfl)
theorem d_X_goesOff_138 : decode y_X_goesOff.2.1 138 = .ok (.iload 5, 2) := op_iload (gk (k := 128) (t := 10) ck_X_goesOff_4 rfl) (gk (k := 128) (t := 11) ck_X_goesOff_4 rfl) rfl
theorem d_X_goesOff_140 : decode y_X_goesOff.2.1 140 = .ok (.iastore, 1) := op_iastore (gk (k := 128) (t := 12) ck_X_goesOff_4 rfl)
theorem d_X_goesOff_141 : decode y_X_goesOff.2.1 141 = .ok (.aload_n 0, 1) := op_aload_n0 (gk (k := 128) (t := 13) ck_X_goesOff_4 rfl)
theorem d_X_goesOff_142 : decode y_X_goesOff.2.1 142 = .ok (.getfield 7, 3) := op_getfield (gk (k := 128) (t := 14) ck_X_goesOff_4 rfl) (gk (k := 128) (t := 15) ck_X_goesOff_4 rfl) (gk (k := 128) (t := 16) ck_X_goesOff_4 rfl) rfl
theorem cb_80 : (Int8.ofInt 80).toInt32 = iv 80 := by decide +kernel
theorem d_X_goesOff_145 : decode y_X_goesOff.2.1 145 = .ok (.bipush 80, 2) := op_bipush (gk (k := 128) (t := 17) ck_X_goesOff_4 rfl) (gk (k := 128) (t := 18) ck_X_goesOff_4 rfl) rfl
theorem d_X_goesOff_147 : decode y_X_goesOff.2.1 147 = .ok (.iload 5, 2) := op_iload (gk (k := 128) (t := 19) ck_X_goesOff_4 rfl) (gk (k := 128) (t := 20) ck_X_goesOff_4 rfl) rfl
theorem d_X_goesOff_149 : decode y_X_goesOff.2.1 149 = .ok (.iadd, 1) := op_iadd (gk (k := 128) (t := 21) ck_X_goesOff_4 rfl)
theorem d_X_goesOff_150 : decode y_X_goesOff.2.1 150 = .ok (.dup2, 1) := op_dup2 (gk (k := 128) (t := 22) ck_X_goesOff_4 rfl)
theorem d_X_goesOff_151 : decode y_X_goesOff.2.1 151 = .ok (.iaload, 1) := op_iaload (gk (k := 128) (t := 23) ck_X_goesOff_4 rfl)
theorem d_X_goesOff_152 : decode y_X_goesOff.2.1 152 = .ok (.iconst 1, 1) := op_iconst1 (gk (k := 128) (t := 24) ck_X_goesOff_4 rfl)
theorem d_X_goesOff_153 : decode y_X_goesOff.2.1 153 = .ok (.iadd, 1) := op_iadd (gk (k := 128) (t := 25) ck_X_goesOff_4 rfl)
theorem d_X_goesOff_154 : decode y_X_goesOff.2.1 154 = .ok (.iastore, 1) := op_iastore (gk (k := 128) (t := 26) ck_X_goesOff_4 rfl)
theorem d_X_goesOff_155 : decode y_X_goesOff.2.1 155 = .ok (.aload_n 0, 1) := op_aload_n0 (gk (k := 128) (t := 27) ck_X_goesOff_4 rfl)
theorem d_X_goesOff_156 : decode y_X_goesOff.2.1 156 = .ok (.getfield 7, 3) := op_getfield (gk (k := 128) (t := 28) ck_X_goesOff_4 rfl) (gk (k := 128) (t := 29) ck_X_goesOff_4 rfl) (gk (k := 128) (t := 30) ck_X_goesOff_4 rfl) rfl
theorem ck_X_goesOff_5 : (y_X_goesOff.2.1.data.toList.drop 160).take 32 = [90, 21, 5, 96, 92, 46, 21, 6, 96, 79, 21, 6, 42, 180, 0, 7, 16, 100, 21, 5, 96, 46, 164, 0, 15, 42, 180, 0, 7, 16, 100, 21] := by decide +kernel
theorem d_X_goesOff_159 : decode y_X_goesOff.2.1 159 = .ok (.bipush 90, 2) := op_bipush (gk (k := 128) (t := 31) ck_X_goesOff_4 rfl) (gk (k := 160) (t := 0) ck_X_goesOff_5 rfl) rfl
theorem d_X_goesOff_161 : decode y_X_goesOff.2.1 161 = .ok (.iload 5, 2) := op_iload (gk (k := 160) (t := 1) ck_X_goesOff_5 rfl) (gk (k := 160) (t := 2) ck_X_goesOff_5 rfl) rfl
theorem d_X_goesOff_163 : decode y_X_goesOff.2.1 163 = .ok (.iadd, 1) := op_iadd (gk (k := 160) (t := 3) ck_X_goesOff_5 rfl)
theorem d_X_goesOff_164 : decode y_X_goesOff.2.1 164 = .ok (.dup2, 1) := op_dup2 (gk (k := 160) (t := 4) ck_X_goesOff_5 rfl)
theorem d_X_goesOff_165 : decode y_X_goesOff.2.1 165 = .ok (.iaload, 1) := op_iaload (gk (k := 160) (t := 5) ck_X_goesOff_5 rfl)
theorem d_X_goesOff_166 : decode y_X_goesOff.2.1 166 = .ok (.iload 6, 2) := op_iload (gk (k := 160) (t := 6) ck_X_goesOff_5 rfl) (gk (k := 160) (t := 7) ck_X_goesOff_5 rfl) rfl
theorem d_X_goesOff_168 : decode y_X_goesOff.2.1 168 = .ok (.iadd, 1) := op_iadd (gk (k := 160) (t := 8) ck_X_goesOff_5 rfl)
theorem d_X_goesOff_169 : decode y_X_goesOff.2.1 169 = .ok (.iastore, 1) := op_iastore (gk (k := 160) (t := 9) ck_X_goesOff_5 rfl)
theorem d_X_goesOff_170 : decode y_X_goesOff.2.1 170 = .ok (.iload 6, 2) := op_iload (gk (k := 160) (t := 10) ck_X_goesOff_5 rfl) (gk (k := 160) (t := 11) ck_X_goesOff_5 rfl) rfl
theorem d_X_goesOff_172 : decode y_X_goesOff.2.1 172 = .ok (.aload_n 0, 1) := op_aload_n0 (gk (k := 160) (t := 12) ck_X_goesOff_5 rfl)
theorem d_X_goesOff_173 : decode y_X_goesOff.2.1 173 = .ok (.getfield 7, 3) := op_getfield (gk (k := 160) (t := 13) ck_X_goesOff_5 rfl) (gk (k := 160) (t := 14) ck_X_goesOff_5 rfl) (gk (k := 160) (t := 15) ck_X_goesOff_5 rfl) rfl
theorem d_X_goesOff_176 : decode y_X_goesOff.2.1 176 = .ok (.bipush 100, 2) := op_bipush (gk (k := 160) (t := 16) ck_X_goesOff_5 rfl) (gk (k := 160) (t := 17) ck_X_goesOff_5 rfl) rfl
theorem d_X_goesOff_178 : decode y_X_goesOff.2.1 178 = .ok (.iload 5, 2) := op_iload (gk (k := 160) (t := 18) ck_X_goesOff_5 rfl) (gk (k := 160) (t := 19) ck_X_goesOff_5 rfl) rfl
theorem d_X_goesOff_180 : decode y_X_goesOff.2.1 180 = .ok (.iadd, 1) := op_iadd (gk (k := 160) (t := 20) ck_X_goesOff_5 rfl)
theorem d_X_goesOff_181 : decode y_X_goesOff.2.1 181 = .ok (.iaload, 1) := op_iaload (gk (k := 160) (t := 21) ck_X_goesOff_5 rfl)
theorem ck_X_goesOff_6 : (y_X_goesOff.2.1.data.toList.drop 192).take 32 = [5, 96, 21, 6, 79, 132, 2, 1, 167, 255, 117, 3, 61, 28, 42, 180, 1, 37, 162, 0, 54, 3, 62, 29, 16, 6, 162, 0, 40, 42, 180, 0] := by decide +kernel
theorem d_X_goesOff_197 : decode y_X_goesOff.2.1 197 = .ok (.iinc 2 1, 3) := op_iinc (gk (k := 192) (t := 5) ck_X_goesOff_6 rfl) (gk (k := 192) (t := 6) ck_X_goesOff_6 rfl) (gk (k := 192) (t := 7) ck_X_goesOff_6 rfl) rfl rfl
theorem d_X_goesOff_200 : decode y_X_goesOff.2.1 200 = .ok (.goto (-139), 3) := op_goto (gk (k := 192) (t := 8) ck_X_goesOff_6 rfl) (gk (k := 192) (t := 9) ck_X_goesOff_6 rfl) (gk (k := 192) (t := 10) ck_X_goesOff_6 rfl) (by decide +kernel)
theorem d_X_goesOff_182 : decode y_X_goesOff.2.1 182 = .ok (.if_icmp .le 15, 3) := op_icmp_le (gk (k := 160) (t := 22) ck_X_goesOff_5 rfl) (gk (k := 160) (t := 23) ck_X_goesOff_5 rfl) (gk (k := 160) (t := 24) ck_X_goesOff_5 rfl) (by decide +kernel)
theorem d_X_goesOff_185 : decode y_X_goesOff.2.1 185 = .ok (.aload_n 0, 1) := op_aload_n0 (gk (k := 160) (t := 25) ck_X_goesOff_5 rfl)
theorem d_X_goesOff_186 : decode y_X_goesOff.2.1 186 = .ok (.getfield 7, 3) := op_getfield (gk (k := 160) (t := 26) ck_X_goesOff_5 rfl) (gk (k := 160) (t := 27) ck_X_goesOff_5 rfl) (gk (k := 160) (t := 28) ck_X_goesOff_5 rfl) rfl
theorem d_X_goesOff_189 : decode y_X_goesOff.2.1 189 = .ok (.bipush 100, 2) := op_bipush (gk (k := 160) (t := 29) ck_X_goesOff_5 rfl) (gk (k := 160) (t := 30) ck_X_goesOff_5 rfl) rfl
theorem d_X_goesOff_191 : decode y_X_goesOff.2.1 191 = .ok (.iload 5, 2) := op_iload (gk (k := 160) (t := 31) ck_X_goesOff_5 rfl) (gk (k := 192) (t := 0) ck_X_goesOff_6 rfl) rfl
theorem d_X_goesOff_193 : decode y_X_goesOff.2.1 193 = .ok (.iadd, 1) := op_iadd (gk (k := 192) (t := 1) ck_X_goesOff_6 rfl)
theorem d_X_goesOff_194 : decode y_X_goesOff.2.1 194 = .ok (.iload 6, 2) := op_iload (gk (k := 192) (t := 2) ck_X_goesOff_6 rfl) (gk (k := 192) (t := 3) ck_X_goesOff_6 rfl) rfl
theorem d_X_goesOff_196 : decode y_X_goesOff.2.1 196 = .ok (.iastore, 1) := op_iastore (gk (k := 192) (t := 4) ck_X_goesOff_6 rfl)
theorem d_X_goesOff_203 : decode y_X_goesOff.2.1 203 = .ok (.iconst 0, 1) := op_iconst0 (gk (k := 192) (t := 11) ck_X_goesOff_6 rfl)
theorem d_X_goesOff_204 : decode y_X_goesOff.2.1 204 = .ok (.istore_n 2, 1) := op_istore_n2 (gk (k := 192) (t := 12) ck_X_goesOff_6 rfl)
theorem d_X_goesOff_205 : decode y_X_goesOff.2.1 205 = .ok (.iload_n 2, 1) := op_iload_n2 (gk (k := 192) (t := 13) ck_X_goesOff_6 rfl)
theorem d_X_goesOff_206 : decode y_X_goesOff.2.1 206 = .ok (.aload_n 0, 1) := op_aload_n0 (gk (k := 192) (t := 14) ck_X_goesOff_6 rfl)
theorem d_X_goesOff_207 : decode y_X_goesOff.2.1 207 = .ok (.getfield 293, 3) := op_getfield (gk (k := 192) (t := 15) ck_X_goesOff_6 rfl) (gk (k := 192) (t := 16) ck_X_goesOff_6 rfl) (gk (k := 192) (t := 17) ck_X_goesOff_6 rfl) rfl
theorem d_X_goesOff_210 : decode y_X_goesOff.2.1 210 = .ok (.if_icmp .ge 54, 3) := op_icmp_ge (gk (k := 192) (t := 18) ck_X_goesOff_6 rfl) (gk (k := 192) (t := 19) ck_X_goesOff_6 rfl) (gk (k := 192) (t := 20) ck_X_goesOff_6 rfl) (by decide +kernel)
theorem d_X_goesOff_213 : decode y_X_goesOff.2.1 213 = .ok (.iconst 0, 1) := op_iconst0 (gk (k := 192) (t := 21) ck_X_goesOff_6 rfl)
theorem d_X_goesOff_214 : decode y_X_goesOff.2.1 214 = .ok (.istore_n 3, 1) := op_istore_n3 (gk (k := 192) (t := 22) ck_X_goesOff_6 rfl)
theorem d_X_goesOff_215 : decode y_X_goesOff.2.1 215 = .ok (.iload_n 3, 1) := op_iload_n3 (gk (k := 192) (t := 23) ck_X_goesOff_6 rfl)
theorem d_X_goesOff_216 : decode y_X_goesOff.2.1 216 = .ok (.bipush 6, 2) := op_bipush (gk (k := 192) (t := 24) ck_X_goesOff_6 rfl) (gk (k := 192) (t := 25) ck_X_goesOff_6 rfl) rfl
theorem d_X_goesOff_218 : decode y_X_goesOff.2.1 218 = .ok (.if_icmp .ge 40, 3) := op_icmp_ge (gk (k := 192) (t := 26) ck_X_goesOff_6 rfl) (gk (k := 192) (t := 27) ck_X_goesOff_6 rfl) (gk (k := 192) (t := 28) ck_X_goesOff_6 rfl) (by decide +kernel)
theorem d_X_goesOff_221 : decode y_X_goesOff.2.1 221 = .ok (.aload_n 0, 1) := op_aload_n0 (gk (k := 192) (t := 29) ck_X_goesOff_6 rfl)
theorem fl_X_60 : FL "SinglesUpModel" 60 9 36 := ⟨"SinglesUpModel", zT9, 51, rfl, by decide, rfl, Or.inl (tw_c5 129 (by decide +kernel) rfl)⟩
theorem rm_9_36 : ∀ o, KM[o]? = some (12, 51) → RM o 36 = some (o + 14) ∧ KM[o + 14]? = some (0, 1440) := by
  intro o h
  have hl : o < 26 := (List.getElem?_eq_some_iff.mp h).1
  exact (by decide +kernel : ∀ o, o < 26 → KM[o]? = some (12, 51) → RM o 36 = some (o + 14) ∧ KM[o + 14]? = some (0, 1440)) o hl h
theorem ck_X_goesOff_7 : (y_X_goesOff.2.1.data.toList.drop 224).take 32 = [60, 16, 6, 28, 104, 29, 96, 42, 180, 0, 7, 17, 0, 140, 16, 6, 42, 180, 0, 47, 28, 46, 104, 96, 29, 96, 46, 79, 132, 3, 1, 167] := by decide +kernel
theorem d_X_goesOff_222 : decode y_X_goesOff.2.1 222 = .ok (.getfield 60, 3) := op_getfield (gk (k := 192) (t := 30) ck_X_goesOff_6 rfl) (gk (k := 192) (t := 31) ck_X_goesOff_6 rfl) (gk (k := 224) (t := 0) ck_X_goesOff_7 rfl) rfl
theorem d_X_goesOff_225 : decode y_X_goesOff.2.1 225 = .ok (.bipush 6, 2) := op_bipush (gk (k := 224) (t := 1) ck_X_goesOff_7 rfl) (gk (k := 224) (t := 2) ck_X_goesOff_7 rfl) rfl
theorem d_X_goesOff_227 : decode y_X_goesOff.2.1 227 = .ok (.iload_n 2, 1) := op_iload_n2 (gk (k := 224) (t := 3) ck_X_goesOff_7 rfl)
theorem d_X_goesOff_228 : decode y_X_goesOff.2.1 228 = .ok (.imul, 1) := op_imul (gk (k := 224) (t := 4) ck_X_goesOff_7 rfl)
theorem d_X_goesOff_229 : decode y_X_goesOff.2.1 229 = .ok (.iload_n 3, 1) := op_iload_n3 (gk (k := 224) (t := 5) ck_X_goesOff_7 rfl)
theorem d_X_goesOff_230 : decode y_X_goesOff.2.1 230 = .ok (.iadd, 1) := op_iadd (gk (k := 224) (t := 6) ck_X_goesOff_7 rfl)
theorem d_X_goesOff_231 : decode y_X_goesOff.2.1 231 = .ok (.aload_n 0, 1) := op_aload_n0 (gk (k := 224) (t := 7) ck_X_goesOff_7 rfl)
theorem d_X_goesOff_232 : decode y_X_goesOff.2.1 232 = .ok (.getfield 7, 3) := op_getfield (gk (k := 224) (t := 8) ck_X_goesOff_7 rfl) (gk (k := 224) (t := 9) ck_X_goesOff_7 rfl) (gk (k := 224) (t := 10) ck_X_goesOff_7 rfl) rfl
theorem d_X_goesOff_235 : decode y_X_goesOff.2.1 235 = .ok (.sipush 140, 3) := op_sipush (gk (k := 224) (t := 11) ck_X_goesOff_7 rfl) (gk (k := 224) (t := 12) ck_X_goesOff_7 rfl) (gk (k := 224) (t := 13) ck_X_goesOff_7 rfl) (by decide +kernel)
theorem d_X_goesOff_238 : decode y_X_goesOff.2.1 238 = .ok (.bipush 6, 2) := op_bipush (gk (k := 224) (t := 14) ck_X_goesOff_7 rfl) (gk (k := 224) (t := 15) ck_X_goesOff_7 rfl) rfl
theorem d_X_goesOff_240 : decode y_X_goesOff.2.1 240 = .ok (.aload_n 0, 1) := op_aload_n0 (gk (k := 224) (t := 16) ck_X_goesOff_7 rfl)
theorem fl_X_47 : FL "SinglesUpModel" 47 9 26 := ⟨"SinglesUpModel", zT9, 51, rfl, by decide, rfl, Or.inl (tw_c5 119 (by decide +kernel) rfl)⟩
theorem rm_9_26 : ∀ o, KM[o]? = some (12, 51) → RM o 26 = some (o + 10) ∧ KM[o + 10]? = some (0, 240) := by
  intro o h
  have hl : o < 26 := (List.getElem?_eq_some_iff.mp h).1
  exact (by decide +kernel : ∀ o, o < 26 → KM[o]? = some (12, 51) → RM o 26 = some (o + 10) ∧ KM[o + 10]? = some (0, 240)) o hl h
theorem d_X_goesOff_241 : decode y_X_goesOff.2.1 241 = .ok (.getfield 47, 3) := op_getfield (gk (k := 224) (t := 17) ck_X_goesOff_7 rfl) (gk (k := 224) (t := 18) ck_X_goesOff_7 rfl) (gk (k := 224) (t := 19) ck_X_goesOff_7 rfl) rfl
theorem d_X_goesOff_244 : decode y_X_goesOff.2.1 244 = .ok (.iload_n 2, 1) := op_iload_n2 (gk (k := 224) (t := 20) ck_X_goesOff_7 rfl)
theorem d_X_goesOff_245 : decode y_X_goesOff.2.1 245 = .ok (.iaload, 1) := op_iaload (gk (k := 224) (t := 21) ck_X_goesOff_7 rfl)
theorem d_X_goesOff_246 : decode y_X_goesOff.2.1 246 = .ok (.imul, 1) := op_imul (gk (k := 224) (t := 22) ck_X_goesOff_7 rfl)
theorem d_X_goesOff_247 : decode y_X_goesOff.2.1 247 = .ok (.iadd, 1) := op_iadd (gk (k := 224) (t := 23) ck_X_goesOff_7 rfl)
theorem d_X_goesOff_248 : decode y_X_goesOff.2.1 248 = .ok (.iload_n 3, 1) := op_iload_n3 (gk (k := 224) (t := 24) ck_X_goesOff_7 rfl)
theorem d_X_goesOff_249 : decode y_X_goesOff.2.1 249 = .ok (.iadd, 1) := op_iadd (gk (k := 224) (t := 25) ck_X_goesOff_7 rfl)
theorem d_X_goesOff_250 : decode y_X_goesOff.2.1 250 = .ok (.iaload, 1) := op_iaload (gk (k := 224) (t := 26) ck_X_goesOff_7 rfl)
theorem d_X_goesOff_251 : decode y_X_goesOff.2.1 251 = .ok (.iastore, 1) := op_iastore (gk (k := 224) (t := 27) ck_X_goesOff_7 rfl)
theorem d_X_goesOff_252 : decode y_X_goesOff.2.1 252 = .ok (.iinc 3 1, 3) := op_iinc (gk (k := 224) (t := 28) ck_X_goesOff_7 rfl) (gk (k := 224) (t := 29) ck_X_goesOff_7 rfl) (gk (k := 224) (t := 30) ck_X_goesOff_7 rfl) rfl rfl
theorem ck_X_goesOff_8 : (y_X_goesOff.2.1.data.toList.drop 256).take 32 = [255, 216, 132, 2, 1, 167, 255, 200, 3, 61, 28, 16, 6, 162, 0, 14, 42, 28, 182, 1, 69, 132, 2, 1, 167, 255, 242, 3, 61, 28, 42, 180] := by decide +kernel
theorem d_X_goesOff_255 : decode y_X_goesOff.2.1 255 = .ok (.goto (-40), 3) := op_goto (gk (k := 224) (t := 31) ck_X_goesOff_7 rfl) (gk (k := 256) (t := 0) ck_X_goesOff_8 rfl) (gk (k := 256) (t := 1) ck_X_goesOff_8 rfl) (by decide +kernel)
theorem d_X_goesOff_258 : decode y_X_goesOff.2.1 258 = .ok (.iinc 2 1, 3) := op_iinc (gk (k := 256) (t := 2) ck_X_goesOff_8 rfl) (gk (k := 256) (t := 3) ck_X_goesOff_8 rfl) (gk (k := 256) (t := 4) ck_X_goesOff_8 rfl) rfl rfl
theorem d_X_goesOff_261 : decode y_X_goesOff.2.1 261 = .ok (.goto (-56), 3) := op_goto (gk (k := 256) (t := 5) ck_X_goesOff_8 rfl) (gk (k := 256) (t := 6) ck_X_goesOff_8 rfl) (gk (k := 256) (t := 7) ck_X_goesOff_8 rfl) (by decide +kernel)
theorem d_X_goesOff_264 : decode y_X_goesOff.2.1 264 = .ok (.iconst 0, 1) := op_iconst0 (gk (k := 256) (t := 8) ck_X_goesOff_8 rfl)
theorem d_X_goesOff_265 : decode y_X_goesOff.2.1 265 = .ok (.istore_n 2, 1) := op_istore_n2 (gk (k := 256) (t := 9) ck_X_goesOff_8 rfl)
theorem d_X_goesOff_266 : decode y_X_goesOff.2.1 266 = .ok (.iload_n 2, 1) := op_iload_n2 (gk (k := 256) (t := 10) ck_X_goesOff_8 rfl)
theorem d_X_goesOff_267 : decode y_X_goesOff.2.1 267 = .ok (.bipush 6, 2) := op_bipush (gk (k := 256) (t := 11) ck_X_goesOff_8 rfl) (gk (k := 256) (t := 12) ck_X_goesOff_8 rfl) rfl
theorem d_X_goesOff_269 : decode y_X_goesOff.2.1 269 = .ok (.if_icmp .ge 14, 3) := op_icmp_ge (gk (k := 256) (t := 13) ck_X_goesOff_8 rfl) (gk (k := 256) (t := 14) ck_X_goesOff_8 rfl) (gk (k := 256) (t := 15) ck_X_goesOff_8 rfl) (by decide +kernel)
theorem d_X_goesOff_272 : decode y_X_goesOff.2.1 272 = .ok (.aload_n 0, 1) := op_aload_n0 (gk (k := 256) (t := 16) ck_X_goesOff_8 rfl)
theorem d_X_goesOff_273 : decode y_X_goesOff.2.1 273 = .ok (.iload_n 2, 1) := op_iload_n2 (gk (k := 256) (t := 17) ck_X_goesOff_8 rfl)
theorem lk_X_325 : LkV "SinglesUpModel" 325 y_X_movesUp := ⟨tw_c7 1 (by decide +kernel) rfl, tw_in 74 (by decide +kernel) rfl, Or.inl (tw_c6 239 (by decide +kernel) rfl)⟩
set_option maxRecDepth 100000 in
theorem mo_X_movesUp : MOk y_X_movesUp 1 := ⟨by decide +kernel, tw_c7 2 rfl rfl, tw_c1 12 (by decide +kernel) rfl, by decide +kernel, by decide +kernel, by decide +kernel⟩
theorem d_X_goesOff_274 : decode y_X_goesOff.2.1 274 = .ok (.invokevirtual 325, 3) := op_invokevirtual (gk (k := 256) (t := 18) ck_X_goesOff_8 rfl) (gk (k := 256) (t := 19) ck_X_goesOff_8 rfl) (gk (k := 256) (t := 20) ck_X_goesOff_8 rfl) rfl
theorem d_X_goesOff_277 : decode y_X_goesOff.2.1 277 = .ok (.iinc 2 1, 3) := op_iinc (gk (k := 256) (t := 21) ck_X_goesOff_8 rfl) (gk (k := 256) (t := 22) ck_X_goesOff_8 rfl) (gk (k := 256) (t := 23) ck_X_goesOff_8 rfl) rfl rfl
theorem d_X_goesOff_280 : decode y_X_goesOff.2.1 280 = .ok (.goto (-14), 3) := op_goto (gk (k := 256) (t := 24) ck_X_goesOff_8 rfl) (gk (k := 256) (t := 25) ck_X_goesOff_8 rfl) (gk (k := 256) (t := 26) ck_X_goesOff_8 rfl) (by decide +kernel)
theorem d_X_goesOff_283 : decode y_X_goesOff.2.1 283 = .ok (.iconst 0, 1) := op_iconst0 (gk (k := 256) (t := 27) ck_X_goesOff_8 rfl)
theorem d_X_goesOff_284 : decode y_X_goesOff.2.1 284 = .ok (.istore_n 2, 1) := op_istore_n2 (gk (k := 256) (t := 28) ck_X_goesOff_8 rfl)
theorem d_X_goesOff_285 : decode y_X_goesOff.2.1 285 = .ok (.iload_n 2, 1) := op_iload_n2 (gk (k := 256) (t := 29) ck_X_goesOff_8 rfl)
theorem d_X_goesOff_286 : decode y_X_goesOff.2.1 286 = .ok (.aload_n 0, 1) := op_aload_n0 (gk (k := 256) (t := 30) ck_X_goesOff_8 rfl)
theorem ck_X_goesOff_9 : (y_X_goesOff.2.1.data.toList.drop 288).take 32 = [1, 37, 162, 0, 79, 42, 3, 42, 180, 0, 60, 16, 6, 28, 104, 46, 42, 180, 0, 60, 16, 6, 28, 104, 4, 96, 46, 42, 180, 0, 60, 16] := by decide +kernel
theorem d_X_goesOff_287 : decode y_X_goesOff.2.1 287 = .ok (.getfield 293, 3) := op_getfield (gk (k := 256) (t := 31) ck_X_goesOff_8 rfl) (gk (k := 288) (t := 0) ck_X_goesOff_9 rfl) (gk (k := 288) (t := 1) ck_X_goesOff_9 rfl) rfl
theorem d_X_goesOff_290 : decode y_X_goesOff.2.1 290 = .ok (.if_icmp .ge 79, 3) := op_icmp_ge (gk (k := 288) (t := 2) ck_X_goesOff_9 rfl) (gk (k := 288) (t := 3) ck_X_goesOff_9 rfl) (gk (k := 288) (t := 4) ck_X_goesOff_9 rfl) (by decide +kernel)
theorem d_X_goesOff_293 : decode y_X_goesOff.2.1 293 = .ok (.aload_n 0, 1) := op_aload_n0 (gk (k := 288) (t := 5) ck_X_goesOff_9 rfl)
theorem d_X_goesOff_294 : decode y_X_goesOff.2.1 294 = .ok (.iconst 0, 1) := op_iconst0 (gk (k := 288) (t := 6) ck_X_goesOff_9 rfl)
theorem d_X_goesOff_295 : decode y_X_goesOff.2.1 295 = .ok (.aload_n 0, 1) := op_aload_n0 (gk (k := 288) (t := 7) ck_X_goesOff_9 rfl)
theorem d_X_goesOff_296 : decode y_X_goesOff.2.1 296 = .ok (.getfield 60, 3) := op_getfield (gk (k := 288) (t := 8) ck_X_goesOff_9 rfl) (gk (k := 288) (t := 9) ck_X_goesOff_9 rfl) (gk (k := 288) (t := 10) ck_X_goesOff_9 rfl) rfl
theorem d_X_goesOff_299 : decode y_X_goesOff.2.1 299 = .ok (.bipush 6, 2) := op_bipush (gk (k := 288) (t := 11) ck_X_goesOff_9 rfl) (gk (k := 288) (t := 12) ck_X_goesOff_9 rfl) rfl
theorem d_X_goesOff_301 : decode y_X_goesOff.2.1 301 = .ok (.iload_n 2, 1) := op_iload_n2 (gk (k := 288) (t := 13) ck_X_goesOff_9 rfl)
theorem d_X_goesOff_302 : decode y_X_goesOff.2.1 302 = .ok (.imul, 1) := op_imul (gk (k := 288) (t := 14) ck_X_goesOff_9 rfl)
theorem d_X_goesOff_303 : decode y_X_goesOff.2.1 303 = .ok (.iaload, 1) := op_iaload (gk (k := 288) (t := 15) ck_X_goesOff_9 rfl)
theorem d_X_goesOff_304 : decode y_X_goesOff.2.1 304 = .ok (.aload_n 0, 1) := op_aload_n0 (gk (k := 288) (t := 16) ck_X_goesOff_9 rfl)
theorem d_X_goesOff_305 : decode y_X_goesOff.2.1 305 = .ok (.getfield 60, 3) := op_getfield (gk (k := 288) (t := 17) ck_X_goesOff_9 rfl) (gk (k := 288) (t := 18) ck_X_goesOff_9 rfl) (gk (k := 288) (t := 19) ck_X_goesOff_9 rfl) rfl
theorem d_X_goesOff_308 : decode y_X_goesOff.2.1 308 = .ok (.bipush 6, 2) := op_bipush (gk (k := 288) (t := 20) ck_X_goesOff_9 rfl) (gk (k := 288) (t := 21) ck_X_goesOff_9 rfl) rfl
theorem d_X_goesOff_310 : decode y_X_goesOff.2.1 310 = .ok (.iload_n 2, 1) := op_iload_n2 (gk (k := 288) (t := 22) ck_X_goesOff_9 rfl)
theorem d_X_goesOff_311 : decode y_X_goesOff.2.1 311 = .ok (.imul, 1) := op_imul (gk (k := 288) (t := 23) ck_X_goesOff_9 rfl)
theorem d_X_goesOff_312 : decode y_X_goesOff.2.1 312 = .ok (.iconst 1, 1) := op_iconst1 (gk (k := 288) (t := 24) ck_X_goesOff_9 rfl)
theorem d_X_goesOff_313 : decode y_X_goesOff.2.1 313 = .ok (.iadd, 1) := op_iadd (gk (k := 288) (t := 25) ck_X_goesOff_9 rfl)
theorem d_X_goesOff_314 : decode y_X_goesOff.2.1 314 = .ok (.iaload, 1) := op_iaload (gk (k := 288) (t := 26) ck_X_goesOff_9 rfl)
theorem d_X_goesOff_315 : decode y_X_goesOff.2.1 315 = .ok (.aload_n 0, 1) := op_aload_n0 (gk (k := 288) (t := 27) ck_X_goesOff_9 rfl)
theorem d_X_goesOff_316 : decode y_X_goesOff.2.1 316 = .ok (.getfield 60, 3) := op_getfield (gk (k := 288) (t := 28) ck_X_goesOff_9 rfl) (gk (k := 288) (t := 29) ck_X_goesOff_9 rfl) (gk (k := 288) (t := 30) ck_X_goesOff_9 rfl) rfl
theorem ck_X_goesOff_10 : (y_X_goesOff.2.1.data.toList.drop 320).take 32 = [6, 28, 104, 4, 96, 46, 42, 180, 0, 60, 16, 6, 28, 104, 6, 96, 46, 42, 180, 0, 60, 16, 6, 28, 104, 7, 96, 46, 42, 180, 0, 60] := by decide +kernel
theorem d_X_goesOff_319 : decode y_X_goesOff.2.1 319 = .ok (.bipush 6, 2) := op_bipush (gk (k := 288) (t := 31) ck_X_goesOff_9 rfl) (gk (k := 320) (t := 0) ck_X_goesOff_10 rfl) rfl
theorem d_X_goesOff_321 : decode y_X_goesOff.2.1 321 = .ok (.iload_n 2, 1) := op_iload_n2 (gk (k := 320) (t := 1) ck_X_goesOff_10 rfl)
theorem d_X_goesOff_322 : decode y_X_goesOff.2.1 322 = .ok (.imul, 1) := op_imul (gk (k := 320) (t := 2) ck_X_goesOff_10 rfl)
theorem d_X_goesOff_323 : decode y_X_goesOff.2.1 323 = .ok (.iconst 1, 1) := op_iconst1 (gk (k := 320) (t := 3) ck_X_goesOff_10 rfl)
theorem d_X_goesOff_324 : decode y_X_goesOff.2.1 324 = .ok (.iadd, 1) := op_iadd (gk (k := 320) (t := 4) ck_X_goesOff_10 rfl)
theorem d_X_goesOff_325 : decode y_X_goesOff.2.1 325 = .ok (.iaload, 1) := op_iaload (gk (k := 320) (t := 5) ck_X_goesOff_10 rfl)
theorem d_X_goesOff_326 : decode y_X_goesOff.2.1 326 = .ok (.aload_n 0, 1) := op_aload_n0 (gk (k := 320) (t := 6) ck_X_goesOff_10 rfl)
theorem d_X_goesOff_327 : decode y_X_goesOff.2.1 327 = .ok (.getfield 60, 3) := op_getfield (gk (k := 320) (t := 7) ck_X_goesOff_10 rfl) (gk (k := 320) (t := 8) ck_X_goesOff_10 rfl) (gk (k := 320) (t := 9) ck_X_goesOff_10 rfl) rfl
theorem d_X_goesOff_330 : decode y_X_goesOff.2.1 330 = .ok (.bipush 6, 2) := op_bipush (gk (k := 320) (t := 10) ck_X_goesOff_10 rfl) (gk (k := 320) (t := 11) ck_X_goesOff_10 rfl) rfl
theorem d_X_goesOff_332 : decode y_X_goesOff.2.1 332 = .ok (.iload_n 2, 1) := op_iload_n2 (gk (k := 320) (t := 12) ck_X_goesOff_10 rfl)
theorem d_X_goesOff_333 : decode y_X_goesOff.2.1 333 = .ok (.imul, 1) := op_imul (gk (k := 320) (t := 13) ck_X_goesOff_10 rfl)
theorem d_X_goesOff_334 : decode y_X_goesOff.2.1 334 = .ok (.iconst 3, 1) := op_iconst3 (gk (k := 320) (t := 14) ck_X_goesOff_10 rfl)
theorem d_X_goesOff_335 : decode y_X_goesOff.2.1 335 = .ok (.iadd, 1) := op_iadd (gk (k := 320) (t := 15) ck_X_goesOff_10 rfl)
theorem d_X_goesOff_336 : decode y_X_goesOff.2.1 336 = .ok (.iaload, 1) := op_iaload (gk (k := 320) (t := 16) ck_X_goesOff_10 rfl)
theorem d_X_goesOff_337 : decode y_X_goesOff.2.1 337 = .ok (.aload_n 0, 1) := op_aload_n0 (gk (k := 320) (t := 17) ck_X_goesOff_10 rfl)
theorem d_X_goesOff_338 : decode y_X_goesOff.2.1 338 = .ok (.getfield 60, 3) := op_getfield (gk (k := 320) (t := 18) ck_X_goesOff_10 rfl) (gk (k := 320) (t := 19) ck_X_goesOff_10 rfl) (gk (k := 320) (t := 20) ck_X_goesOff_10 rfl) rfl
theorem d_X_goesOff_341 : decode y_X_goesOff.2.1 341 = .ok (.bipush 6, 2) := op_bipush (gk (k := 320) (t := 21) ck_X_goesOff_10 rfl) (gk (k := 320) (t := 22) ck_X_goesOff_10 rfl) rfl
theorem d_X_goesOff_343 : decode y_X_goesOff.2.1 343 = .ok (.iload_n 2, 1) := op_iload_n2 (gk (k := 320) (t := 23) ck_X_goesOff_10 rfl)
theorem d_X_goesOff_344 : decode y_X_goesOff.2.1 344 = .ok (.imul, 1) := op_imul (gk (k := 320) (t := 24) ck_X_goesOff_10 rfl)
theorem d_X_goesOff_345 : decode y_X_goesOff.2.1 345 = .ok (.iconst 4, 1) := op_iconst4 (gk (k := 320) (t := 25) ck_X_goesOff_10 rfl)
theorem d_X_goesOff_346 : decode y_X_goesOff.2.1 346 = .ok (.iadd, 1) := op_iadd (gk (k := 320) (t := 26) ck_X_goesOff_10 rfl)
theorem d_X_goesOff_347 : decode y_X_goesOff.2.1 347 = .ok (.iaload, 1) := op_iaload (gk (k := 320) (t := 27) ck_X_goesOff_10 rfl)
theorem d_X_goesOff_348 : decode y_X_goesOff.2.1 348 = .ok (.aload_n 0, 1) := op_aload_n0 (gk (k := 320) (t := 28) ck_X_goesOff_10 rfl)
theorem d_X_goesOff_349 : decode y_X_goesOff.2.1 349 = .ok (.getfield 60, 3) := op_getfield (gk (k := 320) (t := 29) ck_X_goesOff_10 rfl) (gk (k := 320) (t := 30) ck_X_goesOff_10 rfl) (gk (k := 320) (t := 31) ck_X_goesOff_10 rfl) rfl
theorem ck_X_goesOff_11 : (y_X_goesOff.2.1.data.toList.drop 352).take 32 = [16, 6, 28, 104, 8, 96, 46, 182, 1, 21, 87, 132, 2, 1, 167, 255, 175, 42, 180, 0, 7, 16, 70, 92, 46, 4, 96, 79, 42, 180, 0, 7] := by decide +kernel
theorem d_X_goesOff_352 : decode y_X_goesOff.2.1 352 = .ok (.bipush 6, 2) := op_bipush (gk (k := 352) (t := 0) ck_X_goesOff_11 rfl) (gk (k := 352) (t := 1) ck_X_goesOff_11 rfl) rfl
theorem d_X_goesOff_354 : decode y_X_goesOff.2.1 354 = .ok (.iload_n 2, 1) := op_iload_n2 (gk (k := 352) (t := 2) ck_X_goesOff_11 rfl)
theorem d_X_goesOff_355 : decode y_X_goesOff.2.1 355 = .ok (.imul, 1) := op_imul (gk (k := 352) (t := 3) ck_X_goesOff_11 rfl)
theorem d_X_goesOff_356 : decode y_X_goesOff.2.1 356 = .ok (.iconst 5, 1) := op_iconst5 (gk (k := 352) (t := 4) ck_X_goesOff_11 rfl)
theorem d_X_goesOff_357 : decode y_X_goesOff.2.1 357 = .ok (.iadd, 1) := op_iadd (gk (k := 352) (t := 5) ck_X_goesOff_11 rfl)
theorem d_X_goesOff_358 : decode y_X_goesOff.2.1 358 = .ok (.iaload, 1) := op_iaload (gk (k := 352) (t := 6) ck_X_goesOff_11 rfl)
theorem d_X_goesOff_359 : decode y_X_goesOff.2.1 359 = .ok (.invokevirtual 277, 3) := op_invokevirtual (gk (k := 352) (t := 7) ck_X_goesOff_11 rfl) (gk (k := 352) (t := 8) ck_X_goesOff_11 rfl) (gk (k := 352) (t := 9) ck_X_goesOff_11 rfl) rfl
theorem d_X_goesOff_362 : decode y_X_goesOff.2.1 362 = .ok (.pop, 1) := op_pop (gk (k := 352) (t := 10) ck_X_goesOff_11 rfl)
theorem d_X_goesOff_363 : decode y_X_goesOff.2.1 363 = .ok (.iinc 2 1, 3) := op_iinc (gk (k := 352) (t := 11) ck_X_goesOff_11 rfl) (gk (k := 352) (t := 12) ck_X_goesOff_11 rfl) (gk (k := 352) (t := 13) ck_X_goesOff_11 rfl) rfl rfl
theorem d_X_goesOff_366 : decode y_X_goesOff.2.1 366 = .ok (.goto (-81), 3) := op_goto (gk (k := 352) (t := 14) ck_X_goesOff_11 rfl) (gk (k := 352) (t := 15) ck_X_goesOff_11 rfl) (gk (k := 352) (t := 16) ck_X_goesOff_11 rfl) (by decide +kernel)
theorem d_X_goesOff_369 : decode y_X_goesOff.2.1 369 = .ok (.aload_n 0, 1) := op_aload_n0 (gk (k := 352) (t := 17) ck_X_goesOff_11 rfl)
theorem d_X_goesOff_370 : decode y_X_goesOff.2.1 370 = .ok (.getfield 7, 3) := op_getfield (gk (k := 352) (t := 18) ck_X_goesOff_11 rfl) (gk (k := 352) (t := 19) ck_X_goesOff_11 rfl) (gk (k := 352) (t := 20) ck_X_goesOff_11 rfl) rfl
theorem cb_70 : (Int8.ofInt 70).toInt32 = iv 70 := by decide +kernel
theorem d_X_goesOff_373 : decode y_X_goesOff.2.1 373 = .ok (.bipush 70, 2) := op_bipush (gk (k := 352) (t := 21) ck_X_goesOff_11 rfl) (gk (k := 352) (t := 22) ck_X_goesOff_11 rfl) rfl
theorem d_X_goesOff_375 : decode y_X_goesOff.2.1 375 = .ok (.dup2, 1) := op_dup2 (gk (k := 352) (t := 23) ck_X_goesOff_11 rfl)
theorem d_X_goesOff_376 : decode y_X_goesOff.2.1 376 = .ok (.iaload, 1) := op_iaload (gk (k := 352) (t := 24) ck_X_goesOff_11 rfl)
theorem d_X_goesOff_377 : decode y_X_goesOff.2.1 377 = .ok (.iconst 1, 1) := op_iconst1 (gk (k := 352) (t := 25) ck_X_goesOff_11 rfl)
theorem d_X_goesOff_378 : decode y_X_goesOff.2.1 378 = .ok (.iadd, 1) := op_iadd (gk (k := 352) (t := 26) ck_X_goesOff_11 rfl)
theorem d_X_goesOff_379 : decode y_X_goesOff.2.1 379 = .ok (.iastore, 1) := op_iastore (gk (k := 352) (t := 27) ck_X_goesOff_11 rfl)
theorem d_X_goesOff_380 : decode y_X_goesOff.2.1 380 = .ok (.aload_n 0, 1) := op_aload_n0 (gk (k := 352) (t := 28) ck_X_goesOff_11 rfl)
theorem d_X_goesOff_381 : decode y_X_goesOff.2.1 381 = .ok (.getfield 7, 3) := op_getfield (gk (k := 352) (t := 29) ck_X_goesOff_11 rfl) (gk (k := 352) (t := 30) ck_X_goesOff_11 rfl) (gk (k := 352) (t := 31) ck_X_goesOff_11 rfl) rfl
theorem cb_73 : (Int8.ofInt 73).toInt32 = iv 73 := by decide +kernel
theorem ck_X_goesOff_12 : (y_X_goesOff.2.1.data.toList.drop 384).take 32 = [16, 73, 92, 46, 42, 180, 0, 7, 5, 46, 96, 79, 42, 180, 0, 7, 7, 46, 158, 0, 46, 42, 17, 3, 232, 182, 1, 73, 42, 180, 0, 7] := by decide +kernel
theorem d_X_goesOff_384 : decode y_X_goesOff.2.1 384 = .ok (.bipush 73, 2) := op_bipush (gk (k := 384) (t := 0) ck_X_goesOff_12 rfl) (gk (k := 384) (t := 1) ck_X_goesOff_12 rfl) rfl
theorem d_X_goesOff_386 : decode y_X_goesOff.2.1 386 = .ok (.dup2, 1) := op_dup2 (gk (k := 384) (t := 2) ck_X_goesOff_12 rfl)
theorem d_X_goesOff_387 : decode y_X_goesOff.2.1 387 = .ok (.iaload, 1) := op_iaload (gk (k := 384) (t := 3) ck_X_goesOff_12 rfl)
theorem d_X_goesOff_388 : decode y_X_goesOff.2.1 388 = .ok (.aload_n 0, 1) := op_aload_n0 (gk (k := 384) (t := 4) ck_X_goesOff_12 rfl)
theorem d_X_goesOff_389 : decode y_X_goesOff.2.1 389 = .ok (.getfield 7, 3) := op_getfield (gk (k := 384) (t := 5) ck_X_goesOff_12 rfl) (gk (k := 384) (t := 6) ck_X_goesOff_12 rfl) (gk (k := 384) (t := 7) ck_X_goesOff_12 rfl) rfl
theorem d_X_goesOff_392 : decode y_X_goesOff.2.1 392 = .ok (.iconst 2, 1) := op_iconst2 (gk (k := 384) (t := 8) ck_X_goesOff_12 rfl)
theorem d_X_goesOff_393 : decode y_X_goesOff.2.1 393 = .ok (.iaload, 1) := op_iaload (gk (k := 384) (t := 9) ck_X_goesOff_12 rfl)
theorem d_X_goesOff_394 : decode y_X_goesOff.2.1 394 = .ok (.iadd, 1) := op_iadd (gk (k := 384) (t := 10) ck_X_goesOff_12 rfl)
theorem d_X_goesOff_395 : decode y_X_goesOff.2.1 395 = .ok (.iastore, 1) := op_iastore (gk (k := 384) (t := 11) ck_X_goesOff_12 rfl)
theorem d_X_goesOff_396 : decode y_X_goesOff.2.1 396 = .ok (.aload_n 0, 1) := op_aload_n0 (gk (k := 384) (t := 12) ck_X_goesOff_12 rfl)
theorem d_X_goesOff_397 : decode y_X_goesOff.2.1 397 = .ok (.getfield 7, 3) := op_getfield (gk (k := 384) (t := 13) ck_X_goesOff_12 rfl) (gk (k := 384) (t := 14) ck_X_goesOff_12 rfl) (gk (k := 384) (t := 15) ck_X_goesOff_12 rfl) rfl
theorem d_X_goesOff_400 : decode y_X_goesOff.2.1 400 = .ok (.iconst 4, 1) := op_iconst4 (gk (k := 384) (t := 16) ck_X_goesOff_12 rfl)
theorem d_X_goesOff_401 : decode y_X_goesOff.2.1 401 = .ok (.iaload, 1) := op_iaload (gk (k := 384) (t := 17) ck_X_goesOff_12 rfl)
theorem cs_6010 : (Int16.ofInt 6010).toInt32 = iv 6010 := by decide +kernel
theorem ck_X_goesOff_14 : (y_X_goesOff.2.1.data.toList.drop 448).take 32 = [17, 23, 122, 6, 42, 180, 0, 7, 16, 70, 46, 4, 100, 16, 60, 112, 104, 96, 61, 42, 180, 0, 7, 28, 42, 180, 1, 33, 79, 42, 180, 0] := by decide +kernel
theorem d_X_goesOff_448 : decode y_X_goesOff.2.1 448 = .ok (.sipush 6010, 3) := op_sipush (gk (k := 448) (t := 0) ck_X_goesOff_14 rfl) (gk (k := 448) (t := 1) ck_X_goesOff_14 rfl) (gk (k := 448) (t := 2) ck_X_goesOff_14 rfl) (by decide +kernel)
theorem d_X_goesOff_451 : decode y_X_goesOff.2.1 451 = .ok (.iconst 3, 1) := op_iconst3 (gk (k := 448) (t := 3) ck_X_goesOff_14 rfl)
theorem d_X_goesOff_452 : decode y_X_goesOff.2.1 452 = .ok (.aload_n 0, 1) := op_aload_n0 (gk (k := 448) (t := 4) ck_X_goesOff_14 rfl)
theorem d_X_goesOff_453 : decode y_X_goesOff.2.1 453 = .ok (.getfield 7, 3) := op_getfield (gk (k := 448) (t := 5) ck_X_goesOff_14 rfl) (gk (k := 448) (t := 6) ck_X_goesOff_14 rfl) (gk (k := 448) (t := 7) ck_X_goesOff_14 rfl) rfl
theorem d_X_goesOff_456 : decode y_X_goesOff.2.1 456 = .ok (.bipush 70, 2) := op_bipush (gk (k := 448) (t := 8) ck_X_goesOff_14 rfl) (gk (k := 448) (t := 9) ck_X_goesOff_14 rfl) rfl
theorem d_X_goesOff_458 : decode y_X_goesOff.2.1 458 = .ok (.iaload, 1) := op_iaload (gk (k := 448) (t := 10) ck_X_goesOff_14 rfl)
theorem d_X_goesOff_459 : decode y_X_goesOff.2.1 459 = .ok (.iconst 1, 1) := op_iconst1 (gk (k := 448) (t := 11) ck_X_goesOff_14 rfl)
theorem d_X_goesOff_460 : decode y_X_goesOff.2.1 460 = .ok (.isub, 1) := op_isub (gk (k := 448) (t := 12) ck_X_goesOff_14 rfl)
theorem d_X_goesOff_461 : decode y_X_goesOff.2.1 461 = .ok (.bipush 60, 2) := op_bipush (gk (k := 448) (t := 13) ck_X_goesOff_14 rfl) (gk (k := 448) (t := 14) ck_X_goesOff_14 rfl) rfl
theorem d_X_goesOff_463 : decode y_X_goesOff.2.1 463 = .ok (.irem, 1) := op_irem (gk (k := 448) (t := 15) ck_X_goesOff_14 rfl)
theorem d_X_goesOff_464 : decode y_X_goesOff.2.1 464 = .ok (.imul, 1) := op_imul (gk (k := 448) (t := 16) ck_X_goesOff_14 rfl)
theorem d_X_goesOff_465 : decode y_X_goesOff.2.1 465 = .ok (.iadd, 1) := op_iadd (gk (k := 448) (t := 17) ck_X_goesOff_14 rfl)
theorem d_X_goesOff_466 : decode y_X_goesOff.2.1 466 = .ok (.istore_n 2, 1) := op_istore_n2 (gk (k := 448) (t := 18) ck_X_goesOff_14 rfl)
theorem d_X_goesOff_467 : decode y_X_goesOff.2.1 467 = .ok (.aload_n 0, 1) := op_aload_n0 (gk (k := 448) (t := 19) ck_X_goesOff_14 rfl)
theorem d_X_goesOff_468 : decode y_X_goesOff.2.1 468 = .ok (.getfield 7, 3) := op_getfield (gk (k := 448) (t := 20) ck_X_goesOff_14 rfl) (gk (k := 448) (t := 21) ck_X_goesOff_14 rfl) (gk (k := 448) (t := 22) ck_X_goesOff_14 rfl) rfl
theorem d_X_goesOff_471 : decode y_X_goesOff.2.1 471 = .ok (.iload_n 2, 1) := op_iload_n2 (gk (k := 448) (t := 23) ck_X_goesOff_14 rfl)
theorem d_X_goesOff_472 : decode y_X_goesOff.2.1 472 = .ok (.aload_n 0, 1) := op_aload_n0 (gk (k := 448) (t := 24) ck_X_goesOff_14 rfl)
theorem d_X_goesOff_473 : decode y_X_goesOff.2.1 473 = .ok (.getfield 289, 3) := op_getfield (gk (k := 448) (t := 25) ck_X_goesOff_14 rfl) (gk (k := 448) (t := 26) ck_X_goesOff_14 rfl) (gk (k := 448) (t := 27) ck_X_goesOff_14 rfl) rfl
theorem d_X_goesOff_476 : decode y_X_goesOff.2.1 476 = .ok (.iastore, 1) := op_iastore (gk (k := 448) (t := 28) ck_X_goesOff_14 rfl)
theorem d_X_goesOff_477 : decode y_X_goesOff.2.1 477 = .ok (.aload_n 0, 1) := op_aload_n0 (gk (k := 448) (t := 29) ck_X_goesOff_14 rfl)
theorem ck_X_goesOff_15 : (y_X_goesOff.2.1.data.toList.drop 480).take 32 = [7, 28, 4, 96, 42, 180, 1, 35, 79, 42, 180, 0, 7, 28, 5, 96, 42, 180, 0, 7, 16, 73, 46, 79, 42, 182, 0, 102, 27, 172] := by decide +kernel
theorem d_X_goesOff_478 : decode y_X_goesOff.2.1 478 = .ok (.getfield 7, 3) := op_getfield (gk (k := 448) (t := 30) ck_X_goesOff_14 rfl) (gk (k := 448) (t := 31) ck_X_goesOff_14 rfl) (gk (k := 480) (t := 0) ck_X_goesOff_15 rfl) rfl
theorem d_X_goesOff_481 : decode y_X_goesOff.2.1 481 = .ok (.iload_n 2, 1) := op_iload_n2 (gk (k := 480) (t := 1) ck_X_goesOff_15 rfl)
theorem d_X_goesOff_482 : decode y_X_goesOff.2.1 482 = .ok (.iconst 1, 1) := op_iconst1 (gk (k := 480) (t := 2) ck_X_goesOff_15 rfl)
theorem d_X_goesOff_483 : decode y_X_goesOff.2.1 483 = .ok (.iadd, 1) := op_iadd (gk (k := 480) (t := 3) ck_X_goesOff_15 rfl)
theorem d_X_goesOff_484 : decode y_X_goesOff.2.1 484 = .ok (.aload_n 0, 1) := op_aload_n0 (gk (k := 480) (t := 4) ck_X_goesOff_15 rfl)
theorem d_X_goesOff_485 : decode y_X_goesOff.2.1 485 = .ok (.getfield 291, 3) := op_getfield (gk (k := 480) (t := 5) ck_X_goesOff_15 rfl) (gk (k := 480) (t := 6) ck_X_goesOff_15 rfl) (gk (k := 480) (t := 7) ck_X_goesOff_15 rfl) rfl
theorem d_X_goesOff_488 : decode y_X_goesOff.2.1 488 = .ok (.iastore, 1) := op_iastore (gk (k := 480) (t := 8) ck_X_goesOff_15 rfl)
theorem d_X_goesOff_489 : decode y_X_goesOff.2.1 489 = .ok (.aload_n 0, 1) := op_aload_n0 (gk (k := 480) (t := 9) ck_X_goesOff_15 rfl)
theorem d_X_goesOff_490 : decode y_X_goesOff.2.1 490 = .ok (.getfield 7, 3) := op_getfield (gk (k := 480) (t := 10) ck_X_goesOff_15 rfl) (gk (k := 480) (t := 11) ck_X_goesOff_15 rfl) (gk (k := 480) (t := 12) ck_X_goesOff_15 rfl) rfl
theorem d_X_goesOff_493 : decode y_X_goesOff.2.1 493 = .ok (.iload_n 2, 1) := op_iload_n2 (gk (k := 480) (t := 13) ck_X_goesOff_15 rfl)
theorem d_X_goesOff_494 : decode y_X_goesOff.2.1 494 = .ok (.iconst 2, 1) := op_iconst2 (gk (k := 480) (t := 14) ck_X_goesOff_15 rfl)
theorem d_X_goesOff_495 : decode y_X_goesOff.2.1 495 = .ok (.iadd, 1) := op_iadd (gk (k := 480) (t := 15) ck_X_goesOff_15 rfl)
theorem d_X_goesOff_496 : decode y_X_goesOff.2.1 496 = .ok (.aload_n 0, 1) := op_aload_n0 (gk (k := 480) (t := 16) ck_X_goesOff_15 rfl)
theorem d_X_goesOff_497 : decode y_X_goesOff.2.1 497 = .ok (.getfield 7, 3) := op_getfield (gk (k := 480) (t := 17) ck_X_goesOff_15 rfl) (gk (k := 480) (t := 18) ck_X_goesOff_15 rfl) (gk (k := 480) (t := 19) ck_X_goesOff_15 rfl) rfl
theorem d_X_goesOff_500 : decode y_X_goesOff.2.1 500 = .ok (.bipush 73, 2) := op_bipush (gk (k := 480) (t := 20) ck_X_goesOff_15 rfl) (gk (k := 480) (t := 21) ck_X_goesOff_15 rfl) rfl
theorem d_X_goesOff_502 : decode y_X_goesOff.2.1 502 = .ok (.iaload, 1) := op_iaload (gk (k := 480) (t := 22) ck_X_goesOff_15 rfl)
theorem d_X_goesOff_503 : decode y_X_goesOff.2.1 503 = .ok (.iastore, 1) := op_iastore (gk (k := 480) (t := 23) ck_X_goesOff_15 rfl)
theorem d_X_goesOff_504 : decode y_X_goesOff.2.1 504 = .ok (.aload_n 0, 1) := op_aload_n0 (gk (k := 480) (t := 24) ck_X_goesOff_15 rfl)
theorem d_X_goesOff_505 : decode y_X_goesOff.2.1 505 = .ok (.invokevirtual 102, 3) := op_invokevirtual (gk (k := 480) (t := 25) ck_X_goesOff_15 rfl) (gk (k := 480) (t := 26) ck_X_goesOff_15 rfl) (gk (k := 480) (t := 27) ck_X_goesOff_15 rfl) rfl
theorem d_X_goesOff_508 : decode y_X_goesOff.2.1 508 = .ok (.iload_n 1, 1) := op_iload_n1 (gk (k := 480) (t := 28) ck_X_goesOff_15 rfl)
theorem d_X_goesOff_509 : decode y_X_goesOff.2.1 509 = .ok (.ireturn, 1) := op_ireturn (gk (k := 480) (t := 29) ck_X_goesOff_15 rfl)
theorem d_X_goesOff_402 : decode y_X_goesOff.2.1 402 = .ok (.ifCond .le 46, 3) := op_if_le (gk (k := 384) (t := 18) ck_X_goesOff_12 rfl) (gk (k := 384) (t := 19) ck_X_goesOff_12 rfl) (gk (k := 384) (t := 20) ck_X_goesOff_12 rfl) (by decide +kernel)
theorem d_X_goesOff_405 : decode y_X_goesOff.2.1 405 = .ok (.aload_n 0, 1) := op_aload_n0 (gk (k := 384) (t := 21) ck_X_goesOff_12 rfl)
theorem d_X_goesOff_406 : decode y_X_goesOff.2.1 406 = .ok (.sipush 1000, 3) := op_sipush (gk (k := 384) (t := 22) ck_X_goesOff_12 rfl) (gk (k := 384) (t := 23) ck_X_goesOff_12 rfl) (gk (k := 384) (t := 24) ck_X_goesOff_12 rfl) (by decide +kernel)
theorem lk_X_329 : LkV "SinglesUpModel" 329 y_X_draw := ⟨tw_c7 5 (by decide +kernel) rfl, tw_in 75 (by decide +kernel) rfl, Or.inl (tw_c7 3 (by decide +kernel) rfl)⟩
set_option maxRecDepth 100000 in
theorem mo_X_draw : MOk y_X_draw 1 := ⟨by decide +kernel, tw_c7 6 rfl rfl, tw_c1 12 (by decide +kernel) rfl, by decide +kernel, by decide +kernel, by decide +kernel⟩
theorem d_X_goesOff_409 : decode y_X_goesOff.2.1 409 = .ok (.invokevirtual 329, 3) := op_invokevirtual (gk (k := 384) (t := 25) ck_X_goesOff_12 rfl) (gk (k := 384) (t := 26) ck_X_goesOff_12 rfl) (gk (k := 384) (t := 27) ck_X_goesOff_12 rfl) rfl
theorem d_X_goesOff_412 : decode y_X_goesOff.2.1 412 = .ok (.aload_n 0, 1) := op_aload_n0 (gk (k := 384) (t := 28) ck_X_goesOff_12 rfl)
theorem d_X_goesOff_413 : decode y_X_goesOff.2.1 413 = .ok (.getfield 7, 3) := op_getfield (gk (k := 384) (t := 29) ck_X_goesOff_12 rfl) (gk (k := 384) (t := 30) ck_X_goesOff_12 rfl) (gk (k := 384) (t := 31) ck_X_goesOff_12 rfl) rfl
theorem ck_X_goesOff_13 : (y_X_goesOff.2.1.data.toList.drop 416).take 32 = [7, 46, 162, 0, 30, 42, 180, 0, 7, 16, 73, 92, 46, 42, 180, 0, 7, 6, 46, 96, 79, 42, 180, 0, 7, 16, 74, 92, 46, 4, 96, 79] := by decide +kernel
theorem d_X_goesOff_416 : decode y_X_goesOff.2.1 416 = .ok (.iconst 4, 1) := op_iconst4 (gk (k := 416) (t := 0) ck_X_goesOff_13 rfl)
theorem d_X_goesOff_417 : decode y_X_goesOff.2.1 417 = .ok (.iaload, 1) := op_iaload (gk (k := 416) (t := 1) ck_X_goesOff_13 rfl)
theorem d_X_goesOff_418 : decode y_X_goesOff.2.1 418 = .ok (.if_icmp .ge 30, 3) := op_icmp_ge (gk (k := 416) (t := 2) ck_X_goesOff_13 rfl) (gk (k := 416) (t := 3) ck_X_goesOff_13 rfl) (gk (k := 416) (t := 4) ck_X_goesOff_13 rfl) (by decide +kernel)
theorem d_X_goesOff_421 : decode y_X_goesOff.2.1 421 = .ok (.aload_n 0, 1) := op_aload_n0 (gk (k := 416) (t := 5) ck_X_goesOff_13 rfl)
theorem d_X_goesOff_422 : decode y_X_goesOff.2.1 422 = .ok (.getfield 7, 3) := op_getfield (gk (k := 416) (t := 6) ck_X_goesOff_13 rfl) (gk (k := 416) (t := 7) ck_X_goesOff_13 rfl) (gk (k := 416) (t := 8) ck_X_goesOff_13 rfl) rfl
theorem d_X_goesOff_425 : decode y_X_goesOff.2.1 425 = .ok (.bipush 73, 2) := op_bipush (gk (k := 416) (t := 9) ck_X_goesOff_13 rfl) (gk (k := 416) (t := 10) ck_X_goesOff_13 rfl) rfl
theorem d_X_goesOff_427 : decode y_X_goesOff.2.1 427 = .ok (.dup2, 1) := op_dup2 (gk (k := 416) (t := 11) ck_X_goesOff_13 rfl)
theorem d_X_goesOff_428 : decode y_X_goesOff.2.1 428 = .ok (.iaload, 1) := op_iaload (gk (k := 416) (t := 12) ck_X_goesOff_13 rfl)
theorem d_X_goesOff_429 : decode y_X_goesOff.2.1 429 = .ok (.aload_n 0, 1) := op_aload_n0 (gk (k := 416) (t := 13) ck_X_goesOff_13 rfl)
theorem d_X_goesOff_430 : decode y_X_goesOff.2.1 430 = .ok (.getfield 7, 3) := op_getfield (gk (k := 416) (t := 14) ck_X_goesOff_13 rfl) (gk (k := 416) (t := 15) ck_X_goesOff_13 rfl) (gk (k := 416) (t := 16) ck_X_goesOff_13 rfl) rfl
theorem d_X_goesOff_433 : decode y_X_goesOff.2.1 433 = .ok (.iconst 3, 1) := op_iconst3 (gk (k := 416) (t := 17) ck_X_goesOff_13 rfl)
theorem d_X_goesOff_434 : decode y_X_goesOff.2.1 434 = .ok (.iaload, 1) := op_iaload (gk (k := 416) (t := 18) ck_X_goesOff_13 rfl)
theorem d_X_goesOff_435 : decode y_X_goesOff.2.1 435 = .ok (.iadd, 1) := op_iadd (gk (k := 416) (t := 19) ck_X_goesOff_13 rfl)
theorem d_X_goesOff_436 : decode y_X_goesOff.2.1 436 = .ok (.iastore, 1) := op_iastore (gk (k := 416) (t := 20) ck_X_goesOff_13 rfl)
theorem d_X_goesOff_437 : decode y_X_goesOff.2.1 437 = .ok (.aload_n 0, 1) := op_aload_n0 (gk (k := 416) (t := 21) ck_X_goesOff_13 rfl)
theorem d_X_goesOff_438 : decode y_X_goesOff.2.1 438 = .ok (.getfield 7, 3) := op_getfield (gk (k := 416) (t := 22) ck_X_goesOff_13 rfl) (gk (k := 416) (t := 23) ck_X_goesOff_13 rfl) (gk (k := 416) (t := 24) ck_X_goesOff_13 rfl) rfl
theorem cb_74 : (Int8.ofInt 74).toInt32 = iv 74 := by decide +kernel
theorem d_X_goesOff_441 : decode y_X_goesOff.2.1 441 = .ok (.bipush 74, 2) := op_bipush (gk (k := 416) (t := 25) ck_X_goesOff_13 rfl) (gk (k := 416) (t := 26) ck_X_goesOff_13 rfl) rfl
theorem d_X_goesOff_443 : decode y_X_goesOff.2.1 443 = .ok (.dup2, 1) := op_dup2 (gk (k := 416) (t := 27) ck_X_goesOff_13 rfl)
theorem d_X_goesOff_444 : decode y_X_goesOff.2.1 444 = .ok (.iaload, 1) := op_iaload (gk (k := 416) (t := 28) ck_X_goesOff_13 rfl)
theorem d_X_goesOff_445 : decode y_X_goesOff.2.1 445 = .ok (.iconst 1, 1) := op_iconst1 (gk (k := 416) (t := 29) ck_X_goesOff_13 rfl)
theorem d_X_goesOff_446 : decode y_X_goesOff.2.1 446 = .ok (.iadd, 1) := op_iadd (gk (k := 416) (t := 30) ck_X_goesOff_13 rfl)
theorem d_X_goesOff_447 : decode y_X_goesOff.2.1 447 = .ok (.iastore, 1) := op_iastore (gk (k := 416) (t := 31) ck_X_goesOff_13 rfl)
def f_X_worth (fu : Nat) (o0 : Nat) (a1 : Int) (a2 : Int) (a3 : Int) (a4 : Int) (I0 : IMem) : Res :=
  zl (I0 (o0 + 1) 6) fun x1 =>
    zb (f_X_of fu o0 a1 a2 2 I0) fun y2 I3 =>
    zw I3 (o0 + 8) 1 y2 fun I5 =>
    zw I5 (o0 + 8) 2 a3 fun I6 =>
    zw I6 (o0 + 8) 3 a2 fun I7 =>
    zw I7 (o0 + 8) 4 a1 fun I8 =>
    zb (f_X_of fu o0 a1 a2 5 I8) fun y9 I10 =>
    zw I10 (o0 + 8) 5 y9 fun I12 =>
    zb (f_X_of fu o0 a1 a2 4 I12) fun y13 I14 =>
    zw I14 (o0 + 8) 6 y13 fun I16 =>
    zb (f_X_of fu o0 a1 a2 3 I16) fun y17 I18 =>
    zw I18 (o0 + 8) 7 y17 fun I20 =>
    zw I20 (o0 + 8) 8 a4 fun I21 =>
    zl (wr32 (130 + a1)) fun x22 =>
    zg (0 ≤ x22 ∧ x22 < 6190) (
    zw I21 (o0 + 8) 9 (wr32 ((wr32 ((I21 (o0 + 1) x22.toNat) - 1)) - a2)) fun I23 =>
    zb (f_X_firstLine fu o0 x1 I23) fun y24 I25 =>
    if y24 = (-1) then (
      zr 0 I25)
    else (
      zl (wr32 (1670 + y24)) fun x27 =>
      zg (0 ≤ x27 ∧ x27 < 6190) (
      zl (wr32 (1750 + y24)) fun x28 =>
      zg (0 ≤ x28 ∧ x28 < 6190) (
      zb (f_X_comesTo fu o0 x1 (I25 (o0 + 1) x27.toNat) (I25 (o0 + 1) x28.toNat) I25) fun y29 I30 =>
      zr y29 I30))))
def f_X_group (fu : Nat) (o0 : Nat) (a1 : Int) (a2 : Int) (a3 : Int) (I0 : IMem) : Res :=
  zb (f_X_isLine fu a1 I0) fun y1 I2 =>
    if y1 = 0 then (
      zr ((-1000000)) I2)
    else (
      zb (f_X_isIn fu a2 0 39 I2) fun y4 I5 =>
      if y4 = 0 then (
        zr ((-1000000)) I5)
      else (
        zb (f_X_isIn fu a3 0 6 I5) fun y7 I8 =>
        if y7 = 0 then (
          zr ((-1000000)) I8)
        else (
          zl (wr32 (130 + a1)) fun x10 =>
          zg (0 ≤ x10 ∧ x10 < 6190) (
          if a2 < I8 (o0 + 1) x10.toNat then (
            if a3 = 6 then (
              zb (f_X_worth fu o0 a1 a2 (I8 (o0 + 1) 1) 0 I8) fun y14 I15 =>
              zr y14 I15)
            else (
              zb (f_X_of fu o0 a1 a2 a3 I8) fun y11 I12 =>
              zr y11 I12))
          else (
            zr ((-1)) I8)))))
def fb_X_line_23 (fu : Nat) (k_55 : Int → IMem → Res) (o0 : Nat) (p1 : Int) (p2 : Int) (R_ : Int → Int → IMem → Res) (w3 : Int) (w4 : Int) (I0 : IMem) : Res :=
  zl (wr32 (130 + p1)) fun x7 =>
    zg (0 ≤ x7 ∧ x7 < 6190) (
    if w4 < I0 (o0 + 1) x7.toNat then (
      zb (f_X_of fu o0 p1 w4 1 I0) fun y8 I9 =>
      zl (wr32 (w3 + y8)) fun x11 =>
      zl (wr32 (w4 + 1)) fun x12 =>
      R_ x11 x12 I9)
    else (
      k_55 w3 I0))
def f_X_line_23 (fu : Nat) (k_55 : Int → IMem → Res) (o0 : Nat) (p1 : Int) (p2 : Int) : Nat → Int → Int → IMem → Res
 | 0 => fun _ _ _ => none
 | n + 1 => fb_X_line_23 fu k_55 o0 p1 p2 (f_X_line_23 fu k_55 o0 p1 p2 n)
def f_X_line (fu : Nat) (o0 : Nat) (a1 : Int) (a2 : Int) (I0 : IMem) : Res :=
  zb (f_X_isLine fu a1 I0) fun y1 I2 =>
    if y1 = 0 then (
      zr ((-1)) I2)
    else (
      zb (f_X_isIn fu a2 0 1 I2) fun y4 I5 =>
      if y4 = 0 then (
        zr ((-1)) I5)
      else (
        f_X_line_23 fu (fun (x14 : Int) (I13 : IMem) =>
          if a2 = 0 then (
            zl (wr32 (130 + a1)) fun x15 =>
            zg (0 ≤ x15 ∧ x15 < 6190) (
            zr (I13 (o0 + 1) x15.toNat) I13))
          else (
            zr x14 I13)) o0 a1 a2 fu 0 0 I5))
def fb_X_pick_74 (fu : Nat) (k_180 : Int → Int → Int → IMem → Res) (o0 : Nat) (p1 : Int) (p2 : Int) (R_ : Int → Int → Int → Int → IMem → Res) (w3 : Int) (w4 : Int) (w5 : Int) (w6 : Int) (I0 : IMem) : Res :=
  if w6 < 240 then (
      zg (0 ≤ w6 ∧ w6 < 240) (
      zj (fun (x13 : Int) (x14 : Int) (x15 : Int) (I12 : IMem) =>
          zl (wr32 (w6 + 1)) fun x16 =>
          R_ x13 x14 x15 x16 I12) fun k11 =>
        if I0 (o0 + 13) w6.toNat = 0 then (
          k11 w3 w4 w5 I0)
        else (
          zl (wr32 ((wr32 (140 + (wr32 (6 * w6)))) + 1)) fun x17 =>
          zg (0 ≤ x17 ∧ x17 < 6190) (
          zl (wr32 (w3 - (I0 (o0 + 1) x17.toNat))) fun x18 =>
          zl (wr32 ((wr32 (140 + (wr32 (6 * w6)))) + 3)) fun x19 =>
          zg (0 ≤ x19 ∧ x19 < 6190) (
          zj (fun (x22 : Int) (I21 : IMem) =>
              zl (wr32 (w4 + x22)) fun x23 =>
              zl (wr32 ((wr32 (140 + (wr32 (6 * w6)))) + 3)) fun x24 =>
              zg (0 ≤ x24 ∧ x24 < 6190) (
              if I21 (o0 + 1) x24.toNat = 1 then (
                zl (wr32 (w5 + 0)) fun x25 =>
                k11 x18 x23 x25 I21)
              else (
                zl (wr32 (w5 + 1)) fun x26 =>
                k11 x18 x23 x26 I21))) fun k20 =>
            if I0 (o0 + 1) x19.toNat = 2 then (
              k20 1 I0)
            else (
              k20 0 I0))))))
    else (
      k_180 w3 w4 w5 I0)
def f_X_pick_74 (fu : Nat) (k_180 : Int → Int → Int → IMem → Res) (o0 : Nat) (p1 : Int) (p2 : Int) : Nat → Int → Int → Int → Int → IMem → Res
 | 0 => fun _ _ _ _ _ => none
 | n + 1 => fb_X_pick_74 fu k_180 o0 p1 p2 (f_X_pick_74 fu k_180 o0 p1 p2 n)
def f_X_pick (fu : Nat) (o0 : Nat) (a1 : Int) (a2 : Int) (I0 : IMem) : Res :=
  zb (f_X_isLine fu a1 I0) fun y1 I2 =>
    if y1 = 0 then (
      zr 1 I2)
    else (
      zl (wr32 (130 + a1)) fun x4 =>
      zg (0 ≤ x4 ∧ x4 < 6190) (
      zb (f_X_isIn fu a2 0 (wr32 ((I2 (o0 + 1) x4.toNat) - 1)) I2) fun y5 I6 =>
      if y5 = 0 then (
        zr 1 I6)
      else (
        zl (wr32 ((wr32 (40 * a1)) + a2)) fun x8 =>
        zg (0 ≤ x8 ∧ x8 < 240) (
        if I6 (o0 + 13) x8.toNat = 0 then (
          zl (wr32 (10 + a1)) fun x9 =>
          zg (0 ≤ x9 ∧ x9 < 6190) (
          if a2 < I6 (o0 + 1) x9.toNat then (
            zl (I6 (o0 + 1) 1) fun x10 =>
            f_X_pick_74 fu (fun (x28 : Int) (x29 : Int) (x30 : Int) (I27 : IMem) =>
              zb (f_X_of fu o0 a1 a2 1 I27) fun y31 I32 =>
              if x28 < y31 then (
                zr 3 I32)
              else (
                zb (f_X_of fu o0 a1 a2 3 I32) fun y34 I35 =>
                zj (fun  (I38 : IMem) =>
                    if 0 < x29 then (
                      zr 5 I38)
                    else (
                      zb (f_X_of fu o0 a1 a2 3 I38) fun y39 I40 =>
                      zj (fun  (I43 : IMem) =>
                          zl (wr32 ((wr32 (40 * a1)) + a2)) fun x45 =>
                          zg (0 ≤ x45 ∧ x45 < 240) (zw I43 (o0 + 13) x45.toNat 1 fun I44 =>
                          zl (I44 o0 35) fun x47 =>
                          zg (0 ≤ x47 ∧ x47 < 8) (zw I44 (o0 + 15) x47.toNat (wr32 ((wr32 (40 * a1)) + a2)) fun I46 =>
                          zw I46 o0 35 (wr32 ((I46 o0 35) + 1)) fun I48 =>
                          zr 0 I48))) fun k42 =>
                        if y39 = 2 then (
                          if 0 < I40 o0 35 then (
                            zr 5 I40)
                          else (
                            k42 I40))
                        else (
                          k42 I40))) fun k37 =>
                  if y34 = 1 then (
                    if x30 = 0 then (
                      zr 4 I35)
                    else (
                      k37 I35))
                  else (
                    k37 I35))) o0 a1 a2 fu x10 0 0 0 I6)
          else (
            zr 2 I6)))
        else (
          zr 1 I6)))))
def fb_X_begins_2 (fu : Nat) (k_29 : IMem → Res) (o0 : Nat) (R_ : Int → IMem → Res) (w1 : Int) (I0 : IMem) : Res :=
  if w1 < 240 then (
      zg (0 ≤ w1 ∧ w1 < 240) (zw I0 (o0 + 9) w1.toNat 0 fun I1 =>
      zg (0 ≤ w1 ∧ w1 < 240) (zw I1 (o0 + 12) w1.toNat 0 fun I2 =>
      zl (wr32 (w1 + 1)) fun x3 =>
      R_ x3 I2)))
    else (
      k_29 I0)
def f_X_begins_2 (fu : Nat) (k_29 : IMem → Res) (o0 : Nat) : Nat → Int → IMem → Res
 | 0 => fun _ _ => none
 | n + 1 => fb_X_begins_2 fu k_29 o0 (f_X_begins_2 fu k_29 o0 n)
def f_X_begins (fu : Nat) (o0 : Nat) (I0 : IMem) : Res :=
  f_X_begins_2 fu (fun  (I4 : IMem) =>
      zw I4 o0 30 (I4 (o0 + 1) 1) fun I5 =>
      zw I5 o0 31 0 fun I6 =>
      zw I6 o0 32 0 fun I7 =>
      zw I7 o0 33 0 fun I8 =>
      zw I8 o0 34 0 fun I9 =>
      zr 0 I9) o0 fu 0 I0
def f_X_draw (fu : Nat) (o0 : Nat) (a1 : Int) (I0 : IMem) : Res :=
  zw I0 (o0 + 1) 0 (wr32 ((wr32 (1664525 * (I0 (o0 + 1) 0))) + 1013904223)) fun I1 =>
    zg (a1 ≠ 0) (
    zr (wrem (wushr (I1 (o0 + 1) 0) 8) a1) I1)
def fb_X_movesUp_16 (fu : Nat) (k_51 : Int → IMem → Res) (o0 : Nat) (p1 : Int) (p2 : Int) (R_ : Int → Int → IMem → Res) (w3 : Int) (w4 : Int) (I0 : IMem) : Res :=
  if w4 < p2 then (
      zl (wr32 ((wr32 (40 * p1)) + w4)) fun x3 =>
      zg (0 ≤ x3 ∧ x3 < 240) (
      zj (fun (x6 : Int) (I5 : IMem) =>
          zl (wr32 (w3 + x6)) fun x7 =>
          zl (wr32 (w4 + 1)) fun x8 =>
          R_ x7 x8 I5) fun k4 =>
        if 0 < I0 (o0 + 9) x3.toNat then (
          k4 1 I0)
        else (
          k4 0 I0)))
    else (
      k_51 w3 I0)
def f_X_movesUp_16 (fu : Nat) (k_51 : Int → IMem → Res) (o0 : Nat) (p1 : Int) (p2 : Int) : Nat → Int → Int → IMem → Res
 | 0 => fun _ _ _ => none
 | n + 1 => fb_X_movesUp_16 fu k_51 o0 p1 p2 (f_X_movesUp_16 fu k_51 o0 p1 p2 n)
def fb_X_movesUp_132 (fu : Nat) (k_164 : IMem → Res) (o0 : Nat) (p1 : Int) (p2 : Int) (p3 : Int) (p4 : Int) (p5 : Int) (p6 : Int) (p7 : Int) (R_ : Int → IMem → Res) (w8 : Int) (I0 : IMem) : Res :=
  if w8 < 6 then (
      zb (f_X_of fu o0 p1 p5 w8 I0) fun y26 I27 =>
      zl (wr32 (p7 + w8)) fun x30 =>
      zg (0 ≤ x30 ∧ x30 < 6190) (zw I27 (o0 + 1) x30.toNat y26 fun I29 =>
      zl (wr32 (w8 + 1)) fun x31 =>
      R_ x31 I29))
    else (
      k_164 I0)
def f_X_movesUp_132 (fu : Nat) (k_164 : IMem → Res) (o0 : Nat) (p1 : Int) (p2 : Int) (p3 : Int) (p4 : Int) (p5 : Int) (p6 : Int) (p7 : Int) : Nat → Int → IMem → Res
 | 0 => fun _ _ => none
 | n + 1 => fb_X_movesUp_132 fu k_164 o0 p1 p2 p3 p4 p5 p6 p7 (f_X_movesUp_132 fu k_164 o0 p1 p2 p3 p4 p5 p6 p7 n)
def fb_X_movesUp_57 (fu : Nat) (k_254 : Int → IMem → Res) (o0 : Nat) (p1 : Int) (p2 : Int) (R_ : Int → Int → Int → IMem → Res) (w3 : Int) (w4 : Int) (w5 : Int) (I0 : IMem) : Res :=
  if w5 < p2 then (
      zl (wr32 ((wr32 (40 * p1)) + w5)) fun x11 =>
      zg (0 ≤ x11 ∧ x11 < 240) (
      zj (fun (x14 : Int) (I13 : IMem) =>
          zl (wr32 (w3 - x14)) fun x15 =>
          zg (0 ≤ x11 ∧ x11 < 240) (
          zj (fun (x18 : Int) (I17 : IMem) =>
              zl (wr32 (w5 + 1)) fun x19 =>
              R_ x15 x18 x19 I17) fun k16 =>
            if I13 (o0 + 12) x11.toNat = 0 then (
              zg (0 ≤ x11 ∧ x11 < 240) (
              zb (f_X_of fu o0 p1 w5 1 I13) fun y20 I21 =>
              if I13 (o0 + 9) x11.toNat = y20 then (
                k16 w4 I21)
              else (
                zb (f_X_cell fu p1 w4 I21) fun y23 I24 =>
                f_X_movesUp_132 fu (fun  (I32 : IMem) =>
                  zg (0 ≤ x11 ∧ x11 < 240) (
                  zj (fun  (I34 : IMem) =>
                      zl (wr32 (y23 + 4)) fun x35 =>
                      zg (0 ≤ x35 ∧ x35 < 6190) (
                      zg (0 ≤ x35 ∧ x35 < 6190) (zw I34 (o0 + 1) x35.toNat (wr32 ((I34 (o0 + 1) x35.toNat) + 1)) fun I36 =>
                      zl (wr32 (y23 + 5)) fun x37 =>
                      zg (0 ≤ x37 ∧ x37 < 6190) (
                      zj (fun (x40 : Int) (I39 : IMem) =>
                          zg (0 ≤ x37 ∧ x37 < 6190) (zw I39 (o0 + 1) x37.toNat (wr32 ((I36 (o0 + 1) x37.toNat) + x40)) fun I41 =>
                          zl (wr32 (w4 + 1)) fun x42 =>
                          k16 x42 I41)) fun k38 =>
                        if 0 < x15 then (
                          k38 1 I36)
                        else (
                          k38 0 I36))))) fun k33 =>
                    if 0 < I32 (o0 + 9) x11.toNat then (
                      zl (wr32 (y23 + 1)) fun x43 =>
                      zg (0 ≤ x43 ∧ x43 < 6190) (
                      zg (0 ≤ x11 ∧ x11 < 240) (
                      zg (0 ≤ x43 ∧ x43 < 6190) (zw I32 (o0 + 1) x43.toNat (wr32 ((I32 (o0 + 1) x43.toNat) - (I32 (o0 + 9) x11.toNat))) fun I44 =>
                      zl (wr32 (y23 + 1)) fun x45 =>
                      zg (0 ≤ x45 ∧ x45 < 6190) (
                      zl (wr32 (y23 + 2)) fun x47 =>
                      zg (0 ≤ x47 ∧ x47 < 6190) (zw I44 (o0 + 1) x47.toNat (I44 (o0 + 1) x45.toNat) fun I46 =>
                      k33 I46))))))
                    else (
                      k33 I32))) o0 p1 p2 x15 w4 w5 x11 y23 fu 0 I24)))
            else (
              k16 w4 I13))) fun k12 =>
        if 0 < I0 (o0 + 9) x11.toNat then (
          k12 1 I0)
        else (
          k12 0 I0)))
    else (
      k_254 w4 I0)
def f_X_movesUp_57 (fu : Nat) (k_254 : Int → IMem → Res) (o0 : Nat) (p1 : Int) (p2 : Int) : Nat → Int → Int → Int → IMem → Res
 | 0 => fun _ _ _ _ => none
 | n + 1 => fb_X_movesUp_57 fu k_254 o0 p1 p2 (f_X_movesUp_57 fu k_254 o0 p1 p2 n)
def f_X_movesUp (fu : Nat) (o0 : Nat) (a1 : Int) (I0 : IMem) : Res :=
  zl (wr32 (130 + a1)) fun x1 =>
    zg (0 ≤ x1 ∧ x1 < 6190) (
    zl (I0 (o0 + 1) x1.toNat) fun x2 =>
    f_X_movesUp_16 fu (fun (x10 : Int) (I9 : IMem) =>
      f_X_movesUp_57 fu (fun (x49 : Int) (I48 : IMem) =>
        zl (wr32 (130 + a1)) fun x51 =>
        zg (0 ≤ x51 ∧ x51 < 6190) (zw I48 (o0 + 1) x51.toNat x49 fun I50 =>
        zr 0 I50)) o0 a1 x2 fu x10 0 0 I9) o0 a1 x2 fu 0 0 I0)
def fb_X_goesOff_61 (fu : Nat) (k_203 : IMem → Res) (o0 : Nat) (p1 : Int) (R_ : Int → IMem → Res) (w2 : Int) (I0 : IMem) : Res :=
  if w2 < I0 o0 31 then (
      zg (0 ≤ w2 ∧ w2 < 8) (
      zl (wdiv (I0 (o0 + 11) w2.toNat) 40) fun x6 =>
      zg (0 ≤ w2 ∧ w2 < 8) (
      zl (wrem (I0 (o0 + 11) w2.toNat) 40) fun x7 =>
      zg (0 ≤ w2 ∧ w2 < 8) (
      zl (I0 (o0 + 11) w2.toNat) fun x8 =>
      zg (0 ≤ x8 ∧ x8 < 240) (
      zl (I0 (o0 + 9) x8.toNat) fun x9 =>
      zb (f_X_of fu o0 x6 x7 4 I0) fun y10 I11 =>
      zb (f_X_of fu o0 x6 x7 0 I11) fun y13 I14 =>
      zl (wr32 (112 + w2)) fun x17 =>
      zg (0 ≤ x17 ∧ x17 < 6190) (zw I14 (o0 + 1) x17.toNat y13 fun I16 =>
      zl (wr32 (120 + w2)) fun x19 =>
      zg (0 ≤ x19 ∧ x19 < 6190) (zw I16 (o0 + 1) x19.toNat x9 fun I18 =>
      zl (wr32 (80 + x9)) fun x20 =>
      zg (0 ≤ x20 ∧ x20 < 6190) (
      zg (0 ≤ x20 ∧ x20 < 6190) (zw I18 (o0 + 1) x20.toNat (wr32 ((I18 (o0 + 1) x20.toNat) + 1)) fun I21 =>
      zl (wr32 (90 + x9)) fun x22 =>
      zg (0 ≤ x22 ∧ x22 < 6190) (
      zg (0 ≤ x22 ∧ x22 < 6190) (zw I21 (o0 + 1) x22.toNat (wr32 ((I21 (o0 + 1) x22.toNat) + y10)) fun I23 =>
      zl (wr32 (100 + x9)) fun x24 =>
      zg (0 ≤ x24 ∧ x24 < 6190) (
      zj (fun  (I26 : IMem) =>
          zl (wr32 (w2 + 1)) fun x27 =>
          R_ x27 I26) fun k25 =>
        if I23 (o0 + 1) x24.toNat < y10 then (
          zl (wr32 (100 + x9)) fun x29 =>
          zg (0 ≤ x29 ∧ x29 < 6190) (zw I23 (o0 + 1) x29.toNat y10 fun I28 =>
          k25 I28))
        else (
          k25 I23)))))))))))))
    else (
      k_203 I0)
def f_X_goesOff_61 (fu : Nat) (k_203 : IMem → Res) (o0 : Nat) (p1 : Int) : Nat → Int → IMem → Res
 | 0 => fun _ _ => none
 | n + 1 => fb_X_goesOff_61 fu k_203 o0 p1 (f_X_goesOff_61 fu k_203 o0 p1 n)
def fb_X_goesOff_215 (fu : Nat) (k_258 : IMem → Res) (o0 : Nat) (p1 : Int) (p2 : Int) (R_ : Int → IMem → Res) (w3 : Int) (I0 : IMem) : Res :=
  if w3 < 6 then (
      zg (0 ≤ p2 ∧ p2 < 240) (
      zl (wr32 ((wr32 (140 + (wr32 (6 * (I0 (o0 + 10) p2.toNat))))) + w3)) fun x31 =>
      zg (0 ≤ x31 ∧ x31 < 6190) (
      zl (wr32 ((wr32 (6 * p2)) + w3)) fun x33 =>
      zg (0 ≤ x33 ∧ x33 < 1440) (zw I0 (o0 + 14) x33.toNat (I0 (o0 + 1) x31.toNat) fun I32 =>
      zl (wr32 (w3 + 1)) fun x34 =>
      R_ x34 I32))))
    else (
      k_258 I0)
def f_X_goesOff_215 (fu : Nat) (k_258 : IMem → Res) (o0 : Nat) (p1 : Int) (p2 : Int) : Nat → Int → IMem → Res
 | 0 => fun _ _ => none
 | n + 1 => fb_X_goesOff_215 fu k_258 o0 p1 p2 (f_X_goesOff_215 fu k_258 o0 p1 p2 n)
def fb_X_goesOff_205 (fu : Nat) (k_264 : IMem → Res) (o0 : Nat) (p1 : Int) (R_ : Int → IMem → Res) (w2 : Int) (I0 : IMem) : Res :=
  if w2 < I0 o0 32 then (
      f_X_goesOff_215 fu (fun  (I35 : IMem) =>
        zl (wr32 (w2 + 1)) fun x36 =>
        R_ x36 I35) o0 p1 w2 fu 0 I0)
    else (
      k_264 I0)
def f_X_goesOff_205 (fu : Nat) (k_264 : IMem → Res) (o0 : Nat) (p1 : Int) : Nat → Int → IMem → Res
 | 0 => fun _ _ => none
 | n + 1 => fb_X_goesOff_205 fu k_264 o0 p1 (f_X_goesOff_205 fu k_264 o0 p1 n)
def fb_X_goesOff_266 (fu : Nat) (k_283 : IMem → Res) (o0 : Nat) (p1 : Int) (R_ : Int → IMem → Res) (w2 : Int) (I0 : IMem) : Res :=
  if w2 < 6 then (
      zb (f_X_movesUp fu o0 w2 I0) fun _ I39 =>
      zl (wr32 (w2 + 1)) fun x41 =>
      R_ x41 I39)
    else (
      k_283 I0)
def f_X_goesOff_266 (fu : Nat) (k_283 : IMem → Res) (o0 : Nat) (p1 : Int) : Nat → Int → IMem → Res
 | 0 => fun _ _ => none
 | n + 1 => fb_X_goesOff_266 fu k_283 o0 p1 (f_X_goesOff_266 fu k_283 o0 p1 n)
def fb_X_goesOff_285 (fu : Nat) (k_369 : IMem → Res) (o0 : Nat) (p1 : Int) (R_ : Int → IMem → Res) (w2 : Int) (I0 : IMem) : Res :=
  if w2 < I0 o0 32 then (
      zl (wr32 (6 * w2)) fun x43 =>
      zg (0 ≤ x43 ∧ x43 < 1440) (
      zl (wr32 ((wr32 (6 * w2)) + 1)) fun x44 =>
      zg (0 ≤ x44 ∧ x44 < 1440) (
      zl (wr32 ((wr32 (6 * w2)) + 1)) fun x45 =>
      zg (0 ≤ x45 ∧ x45 < 1440) (
      zl (wr32 ((wr32 (6 * w2)) + 3)) fun x46 =>
      zg (0 ≤ x46 ∧ x46 < 1440) (
      zl (wr32 ((wr32 (6 * w2)) + 4)) fun x47 =>
      zg (0 ≤ x47 ∧ x47 < 1440) (
      zl (wr32 ((wr32 (6 * w2)) + 5)) fun x48 =>
      zg (0 ≤ x48 ∧ x48 < 1440) (
      zb (f_X_stands fu o0 0 (I0 (o0 + 14) x43.toNat) (I0 (o0 + 14) x44.toNat) (I0 (o0 + 14) x45.toNat) (I0 (o0 + 14) x46.toNat) (I0 (o0 + 14) x47.toNat) (I0 (o0 + 14) x48.toNat) I0) fun y49 I50 =>
      zl (wr32 (w2 + 1)) fun x52 =>
      R_ x52 I50)))))))
    else (
      k_369 I0)
def f_X_goesOff_285 (fu : Nat) (k_369 : IMem → Res) (o0 : Nat) (p1 : Int) : Nat → Int → IMem → Res
 | 0 => fun _ _ => none
 | n + 1 => fb_X_goesOff_285 fu k_369 o0 p1 (f_X_goesOff_285 fu k_369 o0 p1 n)
def f_X_goesOff (fu : Nat) (o0 : Nat) (I0 : IMem) : Res :=
  zl (wr32 ((I0 (o0 + 1) 1) - (I0 o0 30))) fun x1 =>
    zw I0 (o0 + 1) 71 (wr32 ((I0 (o0 + 1) 71) + (I0 o0 30))) fun I2 =>
    zw I2 (o0 + 1) 72 (wr32 ((I2 (o0 + 1) 72) + x1)) fun I3 =>
    zw I3 (o0 + 1) 110 (I3 o0 31) fun I4 =>
    zw I4 (o0 + 1) 111 (I4 o0 30) fun I5 =>
    f_X_goesOff_61 fu (fun  (I30 : IMem) =>
      f_X_goesOff_205 fu (fun  (I37 : IMem) =>
        f_X_goesOff_266 fu (fun  (I42 : IMem) =>
          f_X_goesOff_285 fu (fun  (I53 : IMem) =>
            zw I53 (o0 + 1) 70 (wr32 ((I53 (o0 + 1) 70) + 1)) fun I54 =>
            zw I54 (o0 + 1) 73 (wr32 ((I54 (o0 + 1) 73) + (I54 (o0 + 1) 2))) fun I55 =>
            zj (fun  (I57 : IMem) =>
                zl (wr32 (6010 + (wr32 (3 * (wrem (wr32 ((I57 (o0 + 1) 70) - 1)) 60))))) fun x58 =>
                zg (0 ≤ x58 ∧ x58 < 6190) (zw I57 (o0 + 1) x58.toNat (I57 o0 30) fun I59 =>
                zl (wr32 (x58 + 1)) fun x61 =>
                zg (0 ≤ x61 ∧ x61 < 6190) (zw I59 (o0 + 1) x61.toNat (I59 o0 31) fun I60 =>
                zl (wr32 (x58 + 2)) fun x63 =>
                zg (0 ≤ x63 ∧ x63 < 6190) (zw I60 (o0 + 1) x63.toNat (I60 (o0 + 1) 73) fun I62 =>
                zb (f_X_forgets fu o0 I62) fun _ I65 =>
                zr x1 I65)))) fun k56 =>
              if 0 < I55 (o0 + 1) 4 then (
                zb (f_X_draw fu o0 1000 I55) fun y67 I68 =>
                if y67 < I68 (o0 + 1) 4 then (
                  zw I68 (o0 + 1) 73 (wr32 ((I68 (o0 + 1) 73) + (I68 (o0 + 1) 3))) fun I70 =>
                  zw I70 (o0 + 1) 74 (wr32 ((I70 (o0 + 1) 74) + 1)) fun I71 =>
                  k56 I71)
                else (
                  k56 I68))
              else (
                k56 I55)) o0 x1 fu 0 I42) o0 x1 fu 0 I37) o0 x1 fu 0 I30) o0 x1 fu 0 I5
section
variable {l : Launch} {b : PB}
set_option maxRecDepth 20000 in
theorem t_X_worth (fu : Nat) (o0 : Nat) (a1 : Int) (a2 : Int) (a3 : Int) (a4 : Int) (I0 : IMem) (hI : RG I0) (h_o0 : KM[o0]? = some (12, 51)) (h_a1 : inr a1) (h_a2 : inr a2) (h_a3 : inr a3) (h_a4 : inr a4) {r : Int × IMem} (hf : f_X_worth fu o0 a1 a2 a3 a4 I0 = some r) : Ss l b 4 y_X_worth KM RM [.ref o0, .int (iv a1), .int (iv a2), .int (iv a3), .int (iv a4)] (ivm I0) (Ps r) := by
  unfold f_X_worth at hf
  refine Ss.of (show Ai l b 4 y_X_worth KM RM (Ps r) I0 0 [.ref o0, .int (iv a1), .int (iv a2), .int (iv a3), .int (iv a4), uu, uu] [] from ?_)
  refine aw_aload_n rfl rfl d_X_worth_0 (aw_getr (r := o0 + 1) fl_X_7 h_o0 (by decide) rfl (rm_9_0 _ h_o0).1 d_X_worth_1 (aw_bipush (v := iv 6) cb_6 d_X_worth_4 (ai_ialdc (j := 6) (rm_9_0 _ h_o0).2 (by decide) (by decide) d_X_worth_6 ?_)))
  refine ai_name hf (hI (o0 + 1) 6) (fun x1 h_x1 hf => ?_)
  refine aw_istore (lv2 := [.ref o0, .int (iv a1), .int (iv a2), .int (iv a3), .int (iv a4), .int (iv x1), uu]) (Nat.le_of_ble_eq_true rfl) rfl d_X_worth_7 ?_
  refine aw_aload_n rfl rfl d_X_worth_9 (aw_getr (r := o0 + 8) fl_X_31 h_o0 (by decide) rfl (rm_9_8 _ h_o0).1 d_X_worth_10 (aw_iconst (v := iv 1) rfl d_X_worth_13 (aw_aload_n rfl rfl d_X_worth_14 (aw_iload_n rfl rfl d_X_worth_15 (aw_iload_n rfl rfl d_X_worth_16 (aw_iconst (v := iv 2) rfl d_X_worth_17 ?_))))))
  obtain ⟨y2, I3, c4, hf⟩ := of_zb hf
  refine ai_callV (as := [.int (iv a1), .int (iv a2), .int (iv 2)]) (d' := 2) (q := ("SinglesUpModel", zT9, 51)) mo_X_of lk_X_264 h_o0 rfl rfl rfl ⟨by decide, by decide⟩ rfl rfl (by decide) d_X_worth_18 (t_X_of fu o0 a1 a2 2 I0 hI h_o0 h_a1 h_a2 in_2 c4) (fun h_y2 h_I3 => ?_)
  refine ai_iastc (j := 1) (rm_9_8 _ h_o0).2 (by decide) (by decide) h_y2 h_I3 hf d_X_worth_21 (fun I5 h_I5 hf => ?_)
  refine aw_aload_n rfl rfl d_X_worth_22 (aw_getr (r := o0 + 8) fl_X_31 h_o0 (by decide) rfl (rm_9_8 _ h_o0).1 d_X_worth_23 (aw_iconst (v := iv 2) rfl d_X_worth_26 (aw_iload_n rfl rfl d_X_worth_27 ?_)))
  refine ai_iastc (j := 2) (rm_9_8 _ h_o0).2 (by decide) (by decide) h_a3 h_I5 hf d_X_worth_28 (fun I6 h_I6 hf => ?_)
  refine aw_aload_n rfl rfl d_X_worth_29 (aw_getr (r := o0 + 8) fl_X_31 h_o0 (by decide) rfl (rm_9_8 _ h_o0).1 d_X_worth_30 (aw_iconst (v := iv 3) rfl d_X_worth_33 (aw_iload_n rfl rfl d_X_worth_34 ?_)))
  refine ai_iastc (j := 3) (rm_9_8 _ h_o0).2 (by decide) (by decide) h_a2 h_I6 hf d_X_worth_35 (fun I7 h_I7 hf => ?_)
  refine aw_aload_n rfl rfl d_X_worth_36 (aw_getr (r := o0 + 8) fl_X_31 h_o0 (by decide) rfl (rm_9_8 _ h_o0).1 d_X_worth_37 (aw_iconst (v := iv 4) rfl d_X_worth_40 (aw_iload_n rfl rfl d_X_worth_41 ?_)))
  refine ai_iastc (j := 4) (rm_9_8 _ h_o0).2 (by decide) (by decide) h_a1 h_I7 hf d_X_worth_42 (fun I8 h_I8 hf => ?_)
  refine aw_aload_n rfl rfl d_X_worth_43 (aw_getr (r := o0 + 8) fl_X_31 h_o0 (by decide) rfl (rm_9_8 _ h_o0).1 d_X_worth_44 (aw_iconst (v := iv 5) rfl d_X_worth_47 (aw_aload_n rfl rfl d_X_worth_48 (aw_iload_n rfl rfl d_X_worth_49 (aw_iload_n rfl rfl d_X_worth_50 (aw_iconst (v := iv 5) rfl d_X_worth_51 ?_))))))
  obtain ⟨y9, I10, c11, hf⟩ := of_zb hf
  refine ai_callV (as := [.int (iv a1), .int (iv a2), .int (iv 5)]) (d' := 2) (q := ("SinglesUpModel", zT9, 51)) mo_X_of lk_X_264 h_o0 rfl rfl rfl ⟨by decide, by decide⟩ rfl rfl (by decide) d_X_worth_52 (t_X_of fu o0 a1 a2 5 I8 h_I8 h_o0 h_a1 h_a2 in_5 c11) (fun h_y9 h_I10 => ?_)
  refine ai_iastc (j := 5) (rm_9_8 _ h_o0).2 (by decide) (by decide) h_y9 h_I10 hf d_X_worth_55 (fun I12 h_I12 hf => ?_)
  refine aw_aload_n rfl rfl d_X_worth_56 (aw_getr (r := o0 + 8) fl_X_31 h_o0 (by decide) rfl (rm_9_8 _ h_o0).1 d_X_worth_57 (aw_bipush (v := iv 6) cb_6 d_X_worth_60 (aw_aload_n rfl rfl d_X_worth_62 (aw_iload_n rfl rfl d_X_worth_63 (aw_iload_n rfl rfl d_X_worth_64 (aw_iconst (v := iv 4) rfl d_X_worth_65 ?_))))))
  obtain ⟨y13, I14, c15, hf⟩ := of_zb hf
  refine ai_callV (as := [.int (iv a1), .int (iv a2), .int (iv 4)]) (d' := 2) (q := ("SinglesUpModel", zT9, 51)) mo_X_of lk_X_264 h_o0 rfl rfl rfl ⟨by decide, by decide⟩ rfl rfl (by decide) d_X_worth_66 (t_X_of fu o0 a1 a2 4 I12 h_I12 h_o0 h_a1 h_a2 in_4 c15) (fun h_y13 h_I14 => ?_)
  refine ai_iastc (j := 6) (rm_9_8 _ h_o0).2 (by decide) (by decide) h_y13 h_I14 hf d_X_worth_69 (fun I16 h_I16 hf => ?_)
  refine aw_aload_n rfl rfl d_X_worth_70 (aw_getr (r := o0 + 8) fl_X_31 h_o0 (by decide) rfl (rm_9_8 _ h_o0).1 d_X_worth_71 (aw_bipush (v := iv 7) cb_7 d_X_worth_74 (aw_aload_n rfl rfl d_X_worth_76 (aw_iload_n rfl rfl d_X_worth_77 (aw_iload_n rfl rfl d_X_worth_78 (aw_iconst (v := iv 3) rfl d_X_worth_79 ?_))))))
  obtain ⟨y17, I18, c19, hf⟩ := of_zb hf
  refine ai_callV (as := [.int (iv a1), .int (iv a2), .int (iv 3)]) (d' := 2) (q := ("SinglesUpModel", zT9, 51)) mo_X_of lk_X_264 h_o0 rfl rfl rfl ⟨by decide, by decide⟩ rfl rfl (by decide) d_X_worth_80 (t_X_of fu o0 a1 a2 3 I16 h_I16 h_o0 h_a1 h_a2 in_3 c19) (fun h_y17 h_I18 => ?_)
  refine ai_iastc (j := 7) (rm_9_8 _ h_o0).2 (by decide) (by decide) h_y17 h_I18 hf d_X_worth_83 (fun I20 h_I20 hf => ?_)
  refine aw_aload_n rfl rfl d_X_worth_84 (aw_getr (r := o0 + 8) fl_X_31 h_o0 (by decide) rfl (rm_9_8 _ h_o0).1 d_X_worth_85 (aw_bipush (v := iv 8) cb_8 d_X_worth_88 (aw_iload rfl d_X_worth_90 ?_)))
  refine ai_iastc (j := 8) (rm_9_8 _ h_o0).2 (by decide) (by decide) h_a4 h_I20 hf d_X_worth_92 (fun I21 h_I21 hf => ?_)
  refine aw_aload_n rfl rfl d_X_worth_93 (aw_getr (r := o0 + 8) fl_X_31 h_o0 (by decide) rfl (rm_9_8 _ h_o0).1 d_X_worth_94 (aw_bipush (v := iv 9) cb_9 d_X_worth_97 (aw_aload_n rfl rfl d_X_worth_99 (aw_getr (r := o0 + 1) fl_X_7 h_o0 (by decide) rfl (rm_9_0 _ h_o0).1 d_X_worth_100 (aw_sipush (v := iv 130) cs_130 d_X_worth_103 (aw_iload_n rfl rfl d_X_worth_106 (ai_iadd d_X_worth_107 ?_)))))))
  refine ai_name hf (wr32_in _) (fun x22 h_x22 hf => ?_)
  refine ai_iald (rm_9_0 _ h_o0).2 rfl h_x22 hf d_X_worth_108 (fun _ hf => ?_)
  refine aw_iconst (v := iv 1) rfl d_X_worth_109 (ai_isub d_X_worth_110 (aw_iload_n rfl rfl d_X_worth_111 (ai_isub d_X_worth_112 ?_)))
  refine ai_iastc (j := 9) (rm_9_8 _ h_o0).2 (by decide) (by decide) (wr32_in _) h_I21 hf d_X_worth_113 (fun I23 h_I23 hf => ?_)
  refine aw_aload_n rfl rfl d_X_worth_114 (aw_iload rfl d_X_worth_115 ?_)
  obtain ⟨y24, I25, c26, hf⟩ := of_zb hf
  refine ai_callV (as := [.int (iv x1)]) (d' := 3) (q := ("SinglesUpModel", zT9, 51)) mo_X_firstLine lk_X_267 h_o0 rfl rfl rfl ⟨by decide, by decide⟩ rfl rfl (by decide) d_X_worth_117 (t_X_firstLine fu o0 x1 I23 h_I23 h_o0 h_x1 c26) (fun h_y24 h_I25 => ?_)
  refine aw_istore (lv2 := [.ref o0, .int (iv a1), .int (iv a2), .int (iv a3), .int (iv a4), .int (iv x1), .int (iv y24)]) (Nat.le_of_ble_eq_true rfl) rfl d_X_worth_120 (aw_iload rfl d_X_worth_122 (aw_iconst (v := iv (-1)) rfl d_X_worth_124 ?_))
  refine ai_icmp_ne h_y24 in_m1 hf (tgt := 132) (by decide) d_X_worth_125 (fun hf => ?_) (fun hf => ?_)
  · refine aw_aload_n rfl rfl d_X_worth_132 (aw_iload rfl d_X_worth_133 (aw_aload_n rfl rfl d_X_worth_135 (aw_getr (r := o0 + 1) fl_X_7 h_o0 (by decide) rfl (rm_9_0 _ h_o0).1 d_X_worth_136 (aw_sipush (v := iv 1670) cs_1670 d_X_worth_139 (aw_iload rfl d_X_worth_142 (ai_iadd d_X_worth_144 ?_))))))
    refine ai_name hf (wr32_in _) (fun x27 h_x27 hf => ?_)
    refine ai_iald (rm_9_0 _ h_o0).2 rfl h_x27 hf d_X_worth_145 (fun _ hf => ?_)
    refine aw_aload_n rfl rfl d_X_worth_146 (aw_getr (r := o0 + 1) fl_X_7 h_o0 (by decide) rfl (rm_9_0 _ h_o0).1 d_X_worth_147 (aw_sipush (v := iv 1750) cs_1750 d_X_worth_150 (aw_iload rfl d_X_worth_153 (ai_iadd d_X_worth_155 ?_))))
    refine ai_name hf (wr32_in _) (fun x28 h_x28 hf => ?_)
    refine ai_iald (rm_9_0 _ h_o0).2 rfl h_x28 hf d_X_worth_156 (fun _ hf => ?_)
    obtain ⟨y29, I30, c31, hf⟩ := of_zb hf
    refine ai_callV (as := [.int (iv x1), .int (iv (I25 (o0 + 1) x27.toNat)), .int (iv (I25 (o0 + 1) x28.toNat))]) (d' := 2) (q := ("SinglesUpModel", zT9, 51)) mo_X_comesTo lk_X_257 h_o0 rfl rfl rfl ⟨by decide, by decide⟩ rfl rfl (by decide) d_X_worth_157 (t_X_comesTo fu o0 x1 (I25 (o0 + 1) x27.toNat) (I25 (o0 + 1) x28.toNat) I25 h_I25 h_o0 h_x1 (h_I25 (o0 + 1) x27.toNat) (h_I25 (o0 + 1) x28.toNat) c31) (fun h_y29 h_I30 => ?_)
    exact ai_reti rfl d_X_worth_160 hf h_y29 h_I30
  · refine aw_iconst (v := iv 0) rfl d_X_worth_128 (aw_goto (tgt := 160) (by decide) d_X_worth_129 ?_)
    exact ai_reti rfl d_X_worth_160 hf in_0 h_I25
set_option maxRecDepth 20000 in
theorem t_X_group (fu : Nat) (o0 : Nat) (a1 : Int) (a2 : Int) (a3 : Int) (I0 : IMem) (hI : RG I0) (h_o0 : KM[o0]? = some (12, 51)) (h_a1 : inr a1) (h_a2 : inr a2) (h_a3 : inr a3) {r : Int × IMem} (hf : f_X_group fu o0 a1 a2 a3 I0 = some r) : Ss l b 5 y_X_group KM RM [.ref o0, .int (iv a1), .int (iv a2), .int (iv a3)] (ivm I0) (Ps r) := by
  unfold f_X_group at hf
  refine Ss.of (show Ai l b 5 y_X_group KM RM (Ps r) I0 0 [.ref o0, .int (iv a1), .int (iv a2), .int (iv a3)] [] from ?_)
  refine aw_iload_n rfl rfl d_X_group_0 ?_
  obtain ⟨y1, I2, c3, hf⟩ := of_zb hf
  refine ai_callS (as := [.int (iv a1)]) (d' := 2) mo_X_isLine lk_X_105 rfl ⟨by decide, by decide⟩ rfl rfl (by decide) d_X_group_1 (t_X_isLine fu a1 I0 hI h_a1 c3) (fun h_y1 h_I2 => ?_)
  refine ai_if_eq h_y1 hf (tgt := 27) (by decide) d_X_group_4 (fun hf => ?_) (fun hf => ?_)
  · refine ai_ldcw kc_X_284e kc_X_284 d_X_group_27 ?_
    exact ai_reti rfl d_X_group_30 hf in_m1000000 h_I2
  · refine aw_iload_n rfl rfl d_X_group_7 (aw_iconst (v := iv 0) rfl d_X_group_8 (aw_bipush (v := iv 39) cb_39 d_X_group_9 ?_))
    obtain ⟨y4, I5, c6, hf⟩ := of_zb hf
    refine ai_callS (as := [.int (iv a2), .int (iv 0), .int (iv 39)]) (d' := 1) mo_X_isIn lk_X_98 rfl ⟨by decide, by decide⟩ rfl rfl (by decide) d_X_group_11 (t_X_isIn fu a2 0 39 I2 h_I2 h_a2 in_0 in_39 c6) (fun h_y4 h_I5 => ?_)
    refine ai_if_eq h_y4 hf (tgt := 27) (by decide) d_X_group_14 (fun hf => ?_) (fun hf => ?_)
    · refine ai_ldcw kc_X_284e kc_X_284 d_X_group_27 ?_
      exact ai_reti rfl d_X_group_30 hf in_m1000000 h_I5
    · refine aw_iload_n rfl rfl d_X_group_17 (aw_iconst (v := iv 0) rfl d_X_group_18 (aw_bipush (v := iv 6) cb_6 d_X_group_19 ?_))
      obtain ⟨y7, I8, c9, hf⟩ := of_zb hf
      refine ai_callS (as := [.int (iv a3), .int (iv 0), .int (iv 6)]) (d' := 1) mo_X_isIn lk_X_98 rfl ⟨by decide, by decide⟩ rfl rfl (by decide) d_X_group_21 (t_X_isIn fu a3 0 6 I5 h_I5 h_a3 in_0 in_6 c9) (fun h_y7 h_I8 => ?_)
      refine ai_if_ne h_y7 hf (tgt := 31) (by decide) d_X_group_24 (fun hf => ?_) (fun hf => ?_)
      · refine aw_iload_n rfl rfl d_X_group_31 (aw_aload_n rfl rfl d_X_group_32 (aw_getr (r := o0 + 1) fl_X_7 h_o0 (by decide) rfl (rm_9_0 _ h_o0).1 d_X_group_33 (aw_sipush (v := iv 130) cs_130 d_X_group_36 (aw_iload_n rfl rfl d_X_group_39 (ai_iadd d_X_group_40 ?_)))))
        refine ai_name hf (wr32_in _) (fun x10 h_x10 hf => ?_)
        refine ai_iald (rm_9_0 _ h_o0).2 rfl h_x10 hf d_X_group_41 (fun _ hf => ?_)
        refine ai_icmp_lt h_a2 (h_I8 (o0 + 1) x10.toNat) hf (tgt := 47) (by decide) d_X_group_42 (fun hf => ?_) (fun hf => ?_)
        · refine aw_iload_n rfl rfl d_X_group_47 (aw_bipush (v := iv 6) cb_6 d_X_group_48 ?_)
          refine ai_icmp_ne h_a3 in_6 hf (tgt := 69) (by decide) d_X_group_50 (fun hf => ?_) (fun hf => ?_)
          · refine aw_aload_n rfl rfl d_X_group_69 (aw_iload_n rfl rfl d_X_group_70 (aw_iload_n rfl rfl d_X_group_71 (aw_iload_n rfl rfl d_X_group_72 ?_)))
            obtain ⟨y11, I12, c13, hf⟩ := of_zb hf
            refine ai_callV (as := [.int (iv a1), .int (iv a2), .int (iv a3)]) (d' := 2) (q := ("SinglesUpModel", zT9, 51)) mo_X_of lk_X_264 h_o0 rfl rfl rfl ⟨by decide, by decide⟩ rfl rfl (by decide) d_X_group_73 (t_X_of fu o0 a1 a2 a3 I8 h_I8 h_o0 h_a1 h_a2 h_a3 c13) (fun h_y11 h_I12 => ?_)
            exact ai_reti rfl d_X_group_76 hf h_y11 h_I12
          · refine aw_aload_n rfl rfl d_X_group_53 (aw_iload_n rfl rfl d_X_group_54 (aw_iload_n rfl rfl d_X_group_55 (aw_aload_n rfl rfl d_X_group_56 (aw_getr (r := o0 + 1) fl_X_7 h_o0 (by decide) rfl (rm_9_0 _ h_o0).1 d_X_group_57 (aw_iconst (v := iv 1) rfl d_X_group_60 (ai_ialdc (j := 1) (rm_9_0 _ h_o0).2 (by decide) (by decide) d_X_group_61 (aw_iconst (v := iv 0) rfl d_X_group_62 ?_)))))))
            obtain ⟨y14, I15, c16, hf⟩ := of_zb hf
            refine ai_callV (as := [.int (iv a1), .int (iv a2), .int (iv (I8 (o0 + 1) 1)), .int (iv 0)]) (d' := 4) (q := ("SinglesUpModel", zT9, 51)) mo_X_worth lk_X_285 h_o0 rfl rfl rfl ⟨by decide, by decide⟩ rfl rfl (by decide) d_X_group_63 (t_X_worth fu o0 a1 a2 (I8 (o0 + 1) 1) 0 I8 h_I8 h_o0 h_a1 h_a2 (h_I8 (o0 + 1) 1) in_0 c16) (fun h_y14 h_I15 => ?_)
            refine aw_goto (tgt := 76) (by decide) d_X_group_66 ?_
            exact ai_reti rfl d_X_group_76 hf h_y14 h_I15
        · refine aw_iconst (v := iv (-1)) rfl d_X_group_45 ?_
          exact ai_reti rfl d_X_group_46 hf in_m1 h_I8
      · refine ai_ldcw kc_X_284e kc_X_284 d_X_group_27 ?_
        exact ai_reti rfl d_X_group_30 hf in_m1000000 h_I8
set_option maxRecDepth 20000 in
theorem t_X_line_23 (fu : Nat) {r : Int × IMem} (k_55 : Int → IMem → Res) (o0 : Nat) (p1 : Int) (p2 : Int) (h_o0 : KM[o0]? = some (12, 51)) (h_p1 : inr p1) (h_p2 : inr p2) (hk_55 : ∀ (z3 : Int) (I9 : IMem), inr z3 → RG I9 → k_55 z3 I9 = some r → Ai l b 3 y_X_line KM RM (Ps r) I9 55 [.ref o0, .int (iv p1), .int (iv p2), .int (iv z3), uu] []) : ∀ (m : Nat) (w3 : Int) (w4 : Int) (I0 : IMem), inr w3 → inr w4 → RG I0 → f_X_line_23 fu k_55 o0 p1 p2 m w3 w4 I0 = some r → Ai l b 3 y_X_line KM RM (Ps r) I0 23 [.ref o0, .int (iv p1), .int (iv p2), .int (iv w3), .int (iv w4)] [] := by
  intro m
  induction m with
  | zero => intro w3 w4 I0 h_w3 h_w4 h_I0 hf; cases hf
  | succ m ih =>
    intro w3 w4 I0 h_w3 h_w4 h_I0 hf
    replace hf : fb_X_line_23 fu k_55 o0 p1 p2 (f_X_line_23 fu k_55 o0 p1 p2 m) w3 w4 I0 = some r := hf
    unfold fb_X_line_23 at hf
    refine aw_iload rfl d_X_line_23 (aw_aload_n rfl rfl d_X_line_25 (aw_getr (r := o0 + 1) fl_X_7 h_o0 (by decide) rfl (rm_9_0 _ h_o0).1 d_X_line_26 (aw_sipush (v := iv 130) cs_130 d_X_line_29 (aw_iload_n rfl rfl d_X_line_32 (ai_iadd d_X_line_33 ?_)))))
    refine ai_name hf (wr32_in _) (fun x7 h_x7 hf => ?_)
    refine ai_iald (rm_9_0 _ h_o0).2 rfl h_x7 hf d_X_line_34 (fun _ hf => ?_)
    refine ai_icmp_ge h_w4 (h_I0 (o0 + 1) x7.toNat) hf (tgt := 55) (by decide) d_X_line_35 (fun hf => ?_) (fun hf => ?_)
    · refine aw_weakB (lv2 := [.ref o0, .int (iv p1), .int (iv p2), .int (iv w3), uu]) (wk_s (wk_s (wk_s (wk_s (wk_u wk_n))))) ?_
      exact hk_55 w3 I0 h_w3 h_I0 hf
    · refine aw_iload_n rfl rfl d_X_line_38 (aw_aload_n rfl rfl d_X_line_39 (aw_iload_n rfl rfl d_X_line_40 (aw_iload rfl d_X_line_41 (aw_iconst (v := iv 1) rfl d_X_line_43 ?_))))
      obtain ⟨y8, I9, c10, hf⟩ := of_zb hf
      refine ai_callV (as := [.int (iv p1), .int (iv w4), .int (iv 1)]) (d' := 2) (q := ("SinglesUpModel", zT9, 51)) mo_X_of lk_X_264 h_o0 rfl rfl rfl ⟨by decide, by decide⟩ rfl rfl (by decide) d_X_line_44 (t_X_of fu o0 p1 w4 1 I0 h_I0 h_o0 h_p1 h_w4 in_1 c10) (fun h_y8 h_I9 => ?_)
      refine ai_iadd d_X_line_47 ?_
      refine ai_name hf (wr32_in _) (fun x11 h_x11 hf => ?_)
      refine aw_istore_n (lv2 := [.ref o0, .int (iv p1), .int (iv p2), .int (iv x11), .int (iv w4)]) rfl (Nat.le_of_ble_eq_true rfl) rfl d_X_line_48 ?_
      refine ai_iinc (n := 1) (lv2 := fun x12 => [.ref o0, .int (iv p1), .int (iv p2), .int (iv x11), .int (iv x12)]) hf rfl (Nat.le_of_ble_eq_true rfl) (fun _ => rfl) d_X_line_49 (fun x12 h_x12 hf => ?_)
      refine aw_goto (tgt := 23) (by decide) d_X_line_52 ?_
      exact ih x11 x12 I9 h_x11 h_x12 h_I9 hf
set_option maxRecDepth 20000 in
theorem t_X_line (fu : Nat) (o0 : Nat) (a1 : Int) (a2 : Int) (I0 : IMem) (hI : RG I0) (h_o0 : KM[o0]? = some (12, 51)) (h_a1 : inr a1) (h_a2 : inr a2) {r : Int × IMem} (hf : f_X_line fu o0 a1 a2 I0 = some r) : Ss l b 3 y_X_line KM RM [.ref o0, .int (iv a1), .int (iv a2)] (ivm I0) (Ps r) := by
  unfold f_X_line at hf
  refine Ss.of (show Ai l b 3 y_X_line KM RM (Ps r) I0 0 [.ref o0, .int (iv a1), .int (iv a2), uu, uu] [] from ?_)
  refine aw_iload_n rfl rfl d_X_line_0 ?_
  obtain ⟨y1, I2, c3, hf⟩ := of_zb hf
  refine ai_callS (as := [.int (iv a1)]) (d' := 2) mo_X_isLine lk_X_105 rfl ⟨by decide, by decide⟩ rfl rfl (by decide) d_X_line_1 (t_X_isLine fu a1 I0 hI h_a1 c3) (fun h_y1 h_I2 => ?_)
  refine ai_if_eq h_y1 hf (tgt := 16) (by decide) d_X_line_4 (fun hf => ?_) (fun hf => ?_)
  · refine aw_iconst (v := iv (-1)) rfl d_X_line_16 ?_
    exact ai_reti rfl d_X_line_17 hf in_m1 h_I2
  · refine aw_iload_n rfl rfl d_X_line_7 (aw_iconst (v := iv 0) rfl d_X_line_8 (aw_iconst (v := iv 1) rfl d_X_line_9 ?_))
    obtain ⟨y4, I5, c6, hf⟩ := of_zb hf
    refine ai_callS (as := [.int (iv a2), .int (iv 0), .int (iv 1)]) (d' := 1) mo_X_isIn lk_X_98 rfl ⟨by decide, by decide⟩ rfl rfl (by decide) d_X_line_10 (t_X_isIn fu a2 0 1 I2 h_I2 h_a2 in_0 in_1 c6) (fun h_y4 h_I5 => ?_)
    refine ai_if_ne h_y4 hf (tgt := 18) (by decide) d_X_line_13 (fun hf => ?_) (fun hf => ?_)
    · refine aw_iconst (v := iv 0) rfl d_X_line_18 (aw_istore_n (lv2 := [.ref o0, .int (iv a1), .int (iv a2), .int (iv 0), uu]) rfl (Nat.le_of_ble_eq_true rfl) rfl d_X_line_19 (aw_iconst (v := iv 0) rfl d_X_line_20 (aw_istore (lv2 := [.ref o0, .int (iv a1), .int (iv a2), .int (iv 0), .int (iv 0)]) (Nat.le_of_ble_eq_true rfl) rfl d_X_line_21 ?_)))
      refine t_X_line_23 fu _ o0 a1 a2 h_o0 h_a1 h_a2 ?_ fu 0 0 I5 in_0 in_0 h_I5 hf
      · intro x14 I13 h_x14 h_I13 hf
        refine aw_iload_n rfl rfl d_X_line_55 ?_
        refine ai_if_ne h_a2 hf (tgt := 72) (by decide) d_X_line_56 (fun hf => ?_) (fun hf => ?_)
        · refine aw_iload_n rfl rfl d_X_line_72 ?_
          exact ai_reti rfl d_X_line_73 hf h_x14 h_I13
        · refine aw_aload_n rfl rfl d_X_line_59 (aw_getr (r := o0 + 1) fl_X_7 h_o0 (by decide) rfl (rm_9_0 _ h_o0).1 d_X_line_60 (aw_sipush (v := iv 130) cs_130 d_X_line_63 (aw_iload_n rfl rfl d_X_line_66 (ai_iadd d_X_line_67 ?_))))
          refine ai_name hf (wr32_in _) (fun x15 h_x15 hf => ?_)
          refine ai_iald (rm_9_0 _ h_o0).2 rfl h_x15 hf d_X_line_68 (fun _ hf => ?_)
          refine aw_goto (tgt := 73) (by decide) d_X_line_69 ?_
          exact ai_reti rfl d_X_line_73 hf (h_I13 (o0 + 1) x15.toNat) h_I13
    · refine aw_iconst (v := iv (-1)) rfl d_X_line_16 ?_
      exact ai_reti rfl d_X_line_17 hf in_m1 h_I5
set_option maxRecDepth 20000 in
theorem t_X_pick_74 (fu : Nat) {r : Int × IMem} (k_180 : Int → Int → Int → IMem → Res) (o0 : Nat) (p1 : Int) (p2 : Int) (h_o0 : KM[o0]? = some (12, 51)) (h_p1 : inr p1) (h_p2 : inr p2) (hk_180 : ∀ (z3 : Int) (z4 : Int) (z5 : Int) (I9 : IMem), inr z3 → inr z4 → inr z5 → RG I9 → k_180 z3 z4 z5 I9 = some r → Ai l b 3 y_X_pick KM RM (Ps r) I9 180 [.ref o0, .int (iv p1), .int (iv p2), .int (iv z3), .int (iv z4), .int (iv z5), uu] []) : ∀ (m : Nat) (w3 : Int) (w4 : Int) (w5 : Int) (w6 : Int) (I0 : IMem), inr w3 → inr w4 → inr w5 → inr w6 → RG I0 → f_X_pick_74 fu k_180 o0 p1 p2 m w3 w4 w5 w6 I0 = some r → Ai l b 3 y_X_pick KM RM (Ps r) I0 74 [.ref o0, .int (iv p1), .int (iv p2), .int (iv w3), .int (iv w4), .int (iv w5), .int (iv w6)] [] := by
  intro m
  induction m with
  | zero => intro w3 w4 w5 w6 I0 h_w3 h_w4 h_w5 h_w6 h_I0 hf; cases hf
  | succ m ih =>
    intro w3 w4 w5 w6 I0 h_w3 h_w4 h_w5 h_w6 h_I0 hf
    replace hf : fb_X_pick_74 fu k_180 o0 p1 p2 (f_X_pick_74 fu k_180 o0 p1 p2 m) w3 w4 w5 w6 I0 = some r := hf
    unfold fb_X_pick_74 at hf
    refine aw_iload rfl d_X_pick_74 (aw_sipush (v := iv 240) cs_240 d_X_pick_76 ?_)
    refine ai_icmp_ge h_w6 in_240 hf (tgt := 180) (by decide) d_X_pick_79 (fun hf => ?_) (fun hf => ?_)
    · refine aw_weakB (lv2 := [.ref o0, .int (iv p1), .int (iv p2), .int (iv w3), .int (iv w4), .int (iv w5), uu]) (wk_s (wk_s (wk_s (wk_s (wk_s (wk_s (wk_u wk_n))))))) ?_
      exact hk_180 w3 w4 w5 I0 h_w3 h_w4 h_w5 h_I0 hf
    · refine aw_aload_n rfl rfl d_X_pick_82 (aw_getr (r := o0 + 13) fl_X_57 h_o0 (by decide) rfl (rm_9_29 _ h_o0).1 d_X_pick_83 (aw_iload rfl d_X_pick_86 ?_))
      refine ai_zald (rm_9_29 _ h_o0).2 rfl h_w6 hf d_X_pick_88 (fun _ hf => ?_)
      obtain ⟨k11, ek11, hf⟩ := of_zj hf
      have hk11 : ∀ (x13 : Int) (x14 : Int) (x15 : Int) (I12 : IMem), inr x13 → inr x14 → inr x15 → RG I12 → k11 x13 x14 x15 I12 = some r → Ai l b 3 y_X_pick KM RM (Ps r) I12 174 [.ref o0, .int (iv p1), .int (iv p2), .int (iv x13), .int (iv x14), .int (iv x15), .int (iv w6)] [] := by
        intro x13 x14 x15 I12 h_x13 h_x14 h_x15 h_I12 hf
        subst ek11
        refine ai_iinc (n := 1) (lv2 := fun x16 => [.ref o0, .int (iv p1), .int (iv p2), .int (iv x13), .int (iv x14), .int (iv x15), .int (iv x16)]) hf rfl (Nat.le_of_ble_eq_true rfl) (fun _ => rfl) d_X_pick_174 (fun x16 h_x16 hf => ?_)
        refine aw_goto (tgt := 74) (by decide) d_X_pick_177 ?_
        exact ih x13 x14 x15 x16 I12 h_x13 h_x14 h_x15 h_x16 h_I12 hf
      refine ai_if_ne (h_I0 (o0 + 13) w6.toNat) hf (tgt := 95) (by decide) d_X_pick_89 (fun hf => ?_) (fun hf => ?_)
      · refine aw_iload_n rfl rfl d_X_pick_95 (aw_aload_n rfl rfl d_X_pick_96 (aw_getr (r := o0 + 1) fl_X_7 h_o0 (by decide) rfl (rm_9_0 _ h_o0).1 d_X_pick_97 (aw_sipush (v := iv 140) cs_140 d_X_pick_100 (aw_bipush (v := iv 6) cb_6 d_X_pick_103 (aw_iload rfl d_X_pick_105 (ai_imul d_X_pick_107 (ai_iadd d_X_pick_108 (aw_iconst (v := iv 1) rfl d_X_pick_109 (ai_iadd d_X_pick_110 ?_)))))))))
        refine ai_name hf (wr32_in _) (fun x17 h_x17 hf => ?_)
        refine ai_iald (rm_9_0 _ h_o0).2 rfl h_x17 hf d_X_pick_111 (fun _ hf => ?_)
        refine ai_isub d_X_pick_112 ?_
        refine ai_name hf (wr32_in _) (fun x18 h_x18 hf => ?_)
        refine aw_istore_n (lv2 := [.ref o0, .int (iv p1), .int (iv p2), .int (iv x18), .int (iv w4), .int (iv w5), .int (iv w6)]) rfl (Nat.le_of_ble_eq_true rfl) rfl d_X_pick_113 ?_
        refine aw_iload rfl d_X_pick_114 (aw_aload_n rfl rfl d_X_pick_116 (aw_getr (r := o0 + 1) fl_X_7 h_o0 (by decide) rfl (rm_9_0 _ h_o0).1 d_X_pick_117 (aw_sipush (v := iv 140) cs_140 d_X_pick_120 (aw_bipush (v := iv 6) cb_6 d_X_pick_123 (aw_iload rfl d_X_pick_125 (ai_imul d_X_pick_127 (ai_iadd d_X_pick_128 (aw_iconst (v := iv 3) rfl d_X_pick_129 (ai_iadd d_X_pick_130 ?_)))))))))
        refine ai_name hf (wr32_in _) (fun x19 h_x19 hf => ?_)
        refine ai_iald (rm_9_0 _ h_o0).2 rfl h_x19 hf d_X_pick_131 (fun _ hf => ?_)
        refine aw_iconst (v := iv 2) rfl d_X_pick_132 ?_
        obtain ⟨k20, ek20, hf⟩ := of_zj hf
        have hk20 : ∀ (x22 : Int) (I21 : IMem), inr x22 → RG I21 → k20 x22 I21 = some r → Ai l b 3 y_X_pick KM RM (Ps r) I21 141 [.ref o0, .int (iv p1), .int (iv p2), .int (iv x18), uu, .int (iv w5), .int (iv w6)] [.int (iv x22), .int (iv w4)] := by
          intro x22 I21 h_x22 h_I21 hf
          subst ek20
          refine ai_iadd d_X_pick_141 ?_
          refine ai_name hf (wr32_in _) (fun x23 h_x23 hf => ?_)
          refine aw_istore (lv2 := [.ref o0, .int (iv p1), .int (iv p2), .int (iv x18), .int (iv x23), .int (iv w5), .int (iv w6)]) (Nat.le_of_ble_eq_true rfl) rfl d_X_pick_142 ?_
          refine aw_iload rfl d_X_pick_144 (aw_aload_n rfl rfl d_X_pick_146 (aw_getr (r := o0 + 1) fl_X_7 h_o0 (by decide) rfl (rm_9_0 _ h_o0).1 d_X_pick_147 (aw_sipush (v := iv 140) cs_140 d_X_pick_150 (aw_bipush (v := iv 6) cb_6 d_X_pick_153 (aw_iload rfl d_X_pick_155 (ai_imul d_X_pick_157 (ai_iadd d_X_pick_158 (aw_iconst (v := iv 3) rfl d_X_pick_159 (ai_iadd d_X_pick_160 ?_)))))))))
          refine ai_name hf (wr32_in _) (fun x24 h_x24 hf => ?_)
          refine ai_iald (rm_9_0 _ h_o0).2 rfl h_x24 hf d_X_pick_161 (fun _ hf => ?_)
          refine aw_iconst (v := iv 1) rfl d_X_pick_162 ?_
          refine ai_icmp_eq (h_I21 (o0 + 1) x24.toNat) in_1 hf (tgt := 170) (by decide) d_X_pick_163 (fun hf => ?_) (fun hf => ?_)
          · refine aw_iconst (v := iv 0) rfl d_X_pick_170 (ai_iadd d_X_pick_171 ?_)
            refine ai_name hf (wr32_in _) (fun x25 h_x25 hf => ?_)
            refine aw_istore (lv2 := [.ref o0, .int (iv p1), .int (iv p2), .int (iv x18), .int (iv x23), .int (iv x25), .int (iv w6)]) (Nat.le_of_ble_eq_true rfl) rfl d_X_pick_172 ?_
            exact hk11 x18 x23 x25 I21 h_x18 h_x23 h_x25 h_I21 hf
          · refine aw_iconst (v := iv 1) rfl d_X_pick_166 (aw_goto (tgt := 171) (by decide) d_X_pick_167 (ai_iadd d_X_pick_171 ?_))
            refine ai_name hf (wr32_in _) (fun x26 h_x26 hf => ?_)
            refine aw_istore (lv2 := [.ref o0, .int (iv p1), .int (iv p2), .int (iv x18), .int (iv x23), .int (iv x26), .int (iv w6)]) (Nat.le_of_ble_eq_true rfl) rfl d_X_pick_172 ?_
            exact hk11 x18 x23 x26 I21 h_x18 h_x23 h_x26 h_I21 hf
        refine ai_icmp_ne (h_I0 (o0 + 1) x19.toNat) in_2 hf (tgt := 140) (by decide) d_X_pick_133 (fun hf => ?_) (fun hf => ?_)
        · refine aw_iconst (v := iv 0) rfl d_X_pick_140 ?_
          refine aw_weakB (lv2 := [.ref o0, .int (iv p1), .int (iv p2), .int (iv x18), uu, .int (iv w5), .int (iv w6)]) (wk_s (wk_s (wk_s (wk_s (wk_u (wk_s (wk_s wk_n))))))) ?_
          exact hk20 0 I0 in_0 h_I0 hf
        · refine aw_iconst (v := iv 1) rfl d_X_pick_136 (aw_goto (tgt := 141) (by decide) d_X_pick_137 ?_)
          refine aw_weakB (lv2 := [.ref o0, .int (iv p1), .int (iv p2), .int (iv x18), uu, .int (iv w5), .int (iv w6)]) (wk_s (wk_s (wk_s (wk_s (wk_u (wk_s (wk_s wk_n))))))) ?_
          exact hk20 1 I0 in_1 h_I0 hf
      · refine aw_goto (tgt := 174) (by decide) d_X_pick_92 ?_
        exact hk11 w3 w4 w5 I0 h_w3 h_w4 h_w5 h_I0 hf
set_option maxRecDepth 20000 in
theorem t_X_pick (fu : Nat) (o0 : Nat) (a1 : Int) (a2 : Int) (I0 : IMem) (hI : RG I0) (h_o0 : KM[o0]? = some (12, 51)) (h_a1 : inr a1) (h_a2 : inr a2) {r : Int × IMem} (hf : f_X_pick fu o0 a1 a2 I0 = some r) : Ss l b 3 y_X_pick KM RM [.ref o0, .int (iv a1), .int (iv a2)] (ivm I0) (Ps r) := by
  unfold f_X_pick at hf
  refine Ss.of (show Ai l b 3 y_X_pick KM RM (Ps r) I0 0 [.ref o0, .int (iv a1), .int (iv a2), uu, uu, uu, uu] [] from ?_)
  refine aw_iload_n rfl rfl d_X_pick_0 ?_
  obtain ⟨y1, I2, c3, hf⟩ := of_zb hf
  refine ai_callS (as := [.int (iv a1)]) (d' := 2) mo_X_isLine lk_X_105 rfl ⟨by decide, by decide⟩ rfl rfl (by decide) d_X_pick_1 (t_X_isLine fu a1 I0 hI h_a1 c3) (fun h_y1 h_I2 => ?_)
  refine ai_if_eq h_y1 hf (tgt := 41) (by decide) d_X_pick_4 (fun hf => ?_) (fun hf => ?_)
  · refine aw_iconst (v := iv 1) rfl d_X_pick_41 ?_
    exact ai_reti rfl d_X_pick_42 hf in_1 h_I2
  · refine aw_iload_n rfl rfl d_X_pick_7 (aw_iconst (v := iv 0) rfl d_X_pick_8 (aw_aload_n rfl rfl d_X_pick_9 (aw_getr (r := o0 + 1) fl_X_7 h_o0 (by decide) rfl (rm_9_0 _ h_o0).1 d_X_pick_10 (aw_sipush (v := iv 130) cs_130 d_X_pick_13 (aw_iload_n rfl rfl d_X_pick_16 (ai_iadd d_X_pick_17 ?_))))))
    refine ai_name hf (wr32_in _) (fun x4 h_x4 hf => ?_)
    refine ai_iald (rm_9_0 _ h_o0).2 rfl h_x4 hf d_X_pick_18 (fun _ hf => ?_)
    refine aw_iconst (v := iv 1) rfl d_X_pick_19 (ai_isub d_X_pick_20 ?_)
    obtain ⟨y5, I6, c7, hf⟩ := of_zb hf
    refine ai_callS (as := [.int (iv a2), .int (iv 0), .int (iv (wr32 ((I2 (o0 + 1) x4.toNat) - 1)))]) (d' := 1) mo_X_isIn lk_X_98 rfl ⟨by decide, by decide⟩ rfl rfl (by decide) d_X_pick_21 (t_X_isIn fu a2 0 (wr32 ((I2 (o0 + 1) x4.toNat) - 1)) I2 h_I2 h_a2 in_0 (wr32_in _) c7) (fun h_y5 h_I6 => ?_)
    refine ai_if_eq h_y5 hf (tgt := 41) (by decide) d_X_pick_24 (fun hf => ?_) (fun hf => ?_)
    · refine aw_iconst (v := iv 1) rfl d_X_pick_41 ?_
      exact ai_reti rfl d_X_pick_42 hf in_1 h_I6
    · refine aw_aload_n rfl rfl d_X_pick_27 (aw_getr (r := o0 + 13) fl_X_57 h_o0 (by decide) rfl (rm_9_29 _ h_o0).1 d_X_pick_28 (aw_bipush (v := iv 40) cb_40 d_X_pick_31 (aw_iload_n rfl rfl d_X_pick_33 (ai_imul d_X_pick_34 (aw_iload_n rfl rfl d_X_pick_35 (ai_iadd d_X_pick_36 ?_))))))
      refine ai_name hf (wr32_in _) (fun x8 h_x8 hf => ?_)
      refine ai_zald (rm_9_29 _ h_o0).2 rfl h_x8 hf d_X_pick_37 (fun _ hf => ?_)
      refine ai_if_eq (h_I6 (o0 + 13) x8.toNat) hf (tgt := 43) (by decide) d_X_pick_38 (fun hf => ?_) (fun hf => ?_)
      · refine aw_iload_n rfl rfl d_X_pick_43 (aw_aload_n rfl rfl d_X_pick_44 (aw_getr (r := o0 + 1) fl_X_7 h_o0 (by decide) rfl (rm_9_0 _ h_o0).1 d_X_pick_45 (aw_bipush (v := iv 10) cb_10 d_X_pick_48 (aw_iload_n rfl rfl d_X_pick_50 (ai_iadd d_X_pick_51 ?_)))))
        refine ai_name hf (wr32_in _) (fun x9 h_x9 hf => ?_)
        refine ai_iald (rm_9_0 _ h_o0).2 rfl h_x9 hf d_X_pick_52 (fun _ hf => ?_)
        refine ai_icmp_lt h_a2 (h_I6 (o0 + 1) x9.toNat) hf (tgt := 58) (by decide) d_X_pick_53 (fun hf => ?_) (fun hf => ?_)
        · refine aw_aload_n rfl rfl d_X_pick_58 (aw_getr (r := o0 + 1) fl_X_7 h_o0 (by decide) rfl (rm_9_0 _ h_o0).1 d_X_pick_59 (aw_iconst (v := iv 1) rfl d_X_pick_62 (ai_ialdc (j := 1) (rm_9_0 _ h_o0).2 (by decide) (by decide) d_X_pick_63 ?_)))
          refine ai_name hf (h_I6 (o0 + 1) 1) (fun x10 h_x10 hf => ?_)
          refine aw_istore_n (lv2 := [.ref o0, .int (iv a1), .int (iv a2), .int (iv x10), uu, uu, uu]) rfl (Nat.le_of_ble_eq_true rfl) rfl d_X_pick_64 ?_
          refine aw_iconst (v := iv 0) rfl d_X_pick_65 (aw_istore (lv2 := [.ref o0, .int (iv a1), .int (iv a2), .int (iv x10), .int (iv 0), uu, uu]) (Nat.le_of_ble_eq_true rfl) rfl d_X_pick_66 (aw_iconst (v := iv 0) rfl d_X_pick_68 (aw_istore (lv2 := [.ref o0, .int (iv a1), .int (iv a2), .int (iv x10), .int (iv 0), .int (iv 0), uu]) (Nat.le_of_ble_eq_true rfl) rfl d_X_pick_69 (aw_iconst (v := iv 0) rfl d_X_pick_71 (aw_istore (lv2 := [.ref o0, .int (iv a1), .int (iv a2), .int (iv x10), .int (iv 0), .int (iv 0), .int (iv 0)]) (Nat.le_of_ble_eq_true rfl) rfl d_X_pick_72 ?_)))))
          refine t_X_pick_74 fu _ o0 a1 a2 h_o0 h_a1 h_a2 ?_ fu x10 0 0 0 I6 h_x10 in_0 in_0 in_0 h_I6 hf
          · intro x28 x29 x30 I27 h_x28 h_x29 h_x30 h_I27 hf
            refine aw_aload_n rfl rfl d_X_pick_180 (aw_iload_n rfl rfl d_X_pick_181 (aw_iload_n rfl rfl d_X_pick_182 (aw_iconst (v := iv 1) rfl d_X_pick_183 ?_)))
            obtain ⟨y31, I32, c33, hf⟩ := of_zb hf
            refine ai_callV (as := [.int (iv a1), .int (iv a2), .int (iv 1)]) (d' := 2) (q := ("SinglesUpModel", zT9, 51)) mo_X_of lk_X_264 h_o0 rfl rfl rfl ⟨by decide, by decide⟩ rfl rfl (by decide) d_X_pick_184 (t_X_of fu o0 a1 a2 1 I27 h_I27 h_o0 h_a1 h_a2 in_1 c33) (fun h_y31 h_I32 => ?_)
            refine aw_iload_n rfl rfl d_X_pick_187 ?_
            refine ai_icmp_le h_y31 h_x28 hf (tgt := 193) (by decide) d_X_pick_188 (fun hf => ?_) (fun hf => ?_)
            · refine aw_aload_n rfl rfl d_X_pick_193 (aw_iload_n rfl rfl d_X_pick_194 (aw_iload_n rfl rfl d_X_pick_195 (aw_iconst (v := iv 3) rfl d_X_pick_196 ?_)))
              obtain ⟨y34, I35, c36, hf⟩ := of_zb hf
              refine ai_callV (as := [.int (iv a1), .int (iv a2), .int (iv 3)]) (d' := 2) (q := ("SinglesUpModel", zT9, 51)) mo_X_of lk_X_264 h_o0 rfl rfl rfl ⟨by decide, by decide⟩ rfl rfl (by decide) d_X_pick_197 (t_X_of fu o0 a1 a2 3 I32 h_I32 h_o0 h_a1 h_a2 in_3 c36) (fun h_y34 h_I35 => ?_)
              refine aw_iconst (v := iv 1) rfl d_X_pick_200 ?_
              obtain ⟨k37, ek37, hf⟩ := of_zj hf
              have hk37 : ∀  (I38 : IMem), RG I38 → k37 I38 = some r → Ai l b 3 y_X_pick KM RM (Ps r) I38 211 [.ref o0, .int (iv a1), .int (iv a2), uu, .int (iv x29), uu, uu] [] := by
                intro I38 h_I38 hf
                subst ek37
                refine aw_iload rfl d_X_pick_211 ?_
                refine ai_if_gt h_x29 hf (tgt := 234) (by decide) d_X_pick_213 (fun hf => ?_) (fun hf => ?_)
                · refine aw_iconst (v := iv 5) rfl d_X_pick_234 ?_
                  exact ai_reti rfl d_X_pick_235 hf in_5 h_I38
                · refine aw_aload_n rfl rfl d_X_pick_216 (aw_iload_n rfl rfl d_X_pick_217 (aw_iload_n rfl rfl d_X_pick_218 (aw_iconst (v := iv 3) rfl d_X_pick_219 ?_)))
                  obtain ⟨y39, I40, c41, hf⟩ := of_zb hf
                  refine ai_callV (as := [.int (iv a1), .int (iv a2), .int (iv 3)]) (d' := 2) (q := ("SinglesUpModel", zT9, 51)) mo_X_of lk_X_264 h_o0 rfl rfl rfl ⟨by decide, by decide⟩ rfl rfl (by decide) d_X_pick_220 (t_X_of fu o0 a1 a2 3 I38 h_I38 h_o0 h_a1 h_a2 in_3 c41) (fun h_y39 h_I40 => ?_)
                  refine aw_iconst (v := iv 2) rfl d_X_pick_223 ?_
                  obtain ⟨k42, ek42, hf⟩ := of_zj hf
                  have hk42 : ∀  (I43 : IMem), RG I43 → k42 I43 = some r → Ai l b 3 y_X_pick KM RM (Ps r) I43 236 [.ref o0, .int (iv a1), .int (iv a2), uu, uu, uu, uu] [] := by
                    intro I43 h_I43 hf
                    subst ek42
                    refine aw_aload_n rfl rfl d_X_pick_236 (aw_getr (r := o0 + 13) fl_X_57 h_o0 (by decide) rfl (rm_9_29 _ h_o0).1 d_X_pick_237 (aw_bipush (v := iv 40) cb_40 d_X_pick_240 (aw_iload_n rfl rfl d_X_pick_242 (ai_imul d_X_pick_243 (aw_iload_n rfl rfl d_X_pick_244 (ai_iadd d_X_pick_245 (aw_iconst (v := iv 1) rfl d_X_pick_246 ?_)))))))
                    refine ai_nameU hf (wr32_in _) (fun x45 h_x45 hf => ?_)
                    refine ai_zast (Or.inr rfl) (rm_9_29 _ h_o0).2 rfl h_x45 in_1 h_I43 hf d_X_pick_247 (fun _ I44 h_I44 hf => ?_)
                    refine aw_aload_n rfl rfl d_X_pick_248 (aw_getr (r := o0 + 15) fl_X_63 h_o0 (by decide) rfl (rm_9_37 _ h_o0).1 d_X_pick_249 (aw_aload_n rfl rfl d_X_pick_252 (ai_geti fl_X_344 h_o0 (by decide) rfl d_X_pick_253 (aw_bipush (v := iv 40) cb_40 d_X_pick_256 (aw_iload_n rfl rfl d_X_pick_258 (ai_imul d_X_pick_259 (aw_iload_n rfl rfl d_X_pick_260 (ai_iadd d_X_pick_261 ?_))))))))
                    refine ai_nameU hf (h_I44 o0 35) (fun x47 h_x47 hf => ?_)
                    refine ai_iast (rm_9_37 _ h_o0).2 rfl h_x47 (wr32_in _) h_I44 hf d_X_pick_262 (fun _ I46 h_I46 hf => ?_)
                    refine aw_aload_n rfl rfl d_X_pick_263 (aw_dup rfl d_X_pick_264 (ai_geti fl_X_344 h_o0 (by decide) rfl d_X_pick_265 (aw_iconst (v := iv 1) rfl d_X_pick_268 (ai_iadd d_X_pick_269 ?_))))
                    refine ai_puti hf h_I46 (wr32_in _) fl_X_344 h_o0 (by decide) rfl rfl rfl rfl d_X_pick_270 (fun I48 h_I48 hf => ?_)
                    refine aw_iconst (v := iv 0) rfl d_X_pick_273 ?_
                    exact ai_reti rfl d_X_pick_274 hf in_0 h_I48
                  refine ai_icmp_ne h_y39 in_2 hf (tgt := 236) (by decide) d_X_pick_224 (fun hf => ?_) (fun hf => ?_)
                  · refine aw_weakB (lv2 := [.ref o0, .int (iv a1), .int (iv a2), uu, uu, uu, uu]) (wk_s (wk_s (wk_s (wk_u (wk_u (wk_u (wk_u wk_n))))))) ?_
                    exact hk42 I40 h_I40 hf
                  · refine aw_aload_n rfl rfl d_X_pick_227 (ai_geti fl_X_344 h_o0 (by decide) rfl d_X_pick_228 ?_)
                    refine ai_if_le (h_I40 o0 35) hf (tgt := 236) (by decide) d_X_pick_231 (fun hf => ?_) (fun hf => ?_)
                    · refine aw_weakB (lv2 := [.ref o0, .int (iv a1), .int (iv a2), uu, uu, uu, uu]) (wk_s (wk_s (wk_s (wk_u (wk_u (wk_u (wk_u wk_n))))))) ?_
                      exact hk42 I40 h_I40 hf
                    · refine aw_iconst (v := iv 5) rfl d_X_pick_234 ?_
                      exact ai_reti rfl d_X_pick_235 hf in_5 h_I40
              refine ai_icmp_ne h_y34 in_1 hf (tgt := 211) (by decide) d_X_pick_201 (fun hf => ?_) (fun hf => ?_)
              · refine aw_weakB (lv2 := [.ref o0, .int (iv a1), .int (iv a2), uu, .int (iv x29), uu, uu]) (wk_s (wk_s (wk_s (wk_u (wk_s (wk_u (wk_u wk_n))))))) ?_
                exact hk37 I35 h_I35 hf
              · refine aw_iload rfl d_X_pick_204 ?_
                refine ai_if_ne h_x30 hf (tgt := 211) (by decide) d_X_pick_206 (fun hf => ?_) (fun hf => ?_)
                · refine aw_weakB (lv2 := [.ref o0, .int (iv a1), .int (iv a2), uu, .int (iv x29), uu, uu]) (wk_s (wk_s (wk_s (wk_u (wk_s (wk_u (wk_u wk_n))))))) ?_
                  exact hk37 I35 h_I35 hf
                · refine aw_iconst (v := iv 4) rfl d_X_pick_209 ?_
                  exact ai_reti rfl d_X_pick_210 hf in_4 h_I35
            · refine aw_iconst (v := iv 3) rfl d_X_pick_191 ?_
              exact ai_reti rfl d_X_pick_192 hf in_3 h_I32
        · refine aw_iconst (v := iv 2) rfl d_X_pick_56 ?_
          exact ai_reti rfl d_X_pick_57 hf in_2 h_I6
      · refine aw_iconst (v := iv 1) rfl d_X_pick_41 ?_
        exact ai_reti rfl d_X_pick_42 hf in_1 h_I6
set_option maxRecDepth 20000 in
theorem t_X_begins_2 (fu : Nat) {r : Int × IMem} (k_29 : IMem → Res) (o0 : Nat) (h_o0 : KM[o0]? = some (12, 51)) (hk_29 : ∀ (I9 : IMem), RG I9 → k_29 I9 = some r → Ai l b 1 y_X_begins KM RM (Pv r) I9 29 [.ref o0, uu] []) : ∀ (m : Nat) (w1 : Int) (I0 : IMem), inr w1 → RG I0 → f_X_begins_2 fu k_29 o0 m w1 I0 = some r → Ai l b 1 y_X_begins KM RM (Pv r) I0 2 [.ref o0, .int (iv w1)] [] := by
  intro m
  induction m with
  | zero => intro w1 I0 h_w1 h_I0 hf; cases hf
  | succ m ih =>
    intro w1 I0 h_w1 h_I0 hf
    replace hf : fb_X_begins_2 fu k_29 o0 (f_X_begins_2 fu k_29 o0 m) w1 I0 = some r := hf
    unfold fb_X_begins_2 at hf
    refine aw_iload_n rfl rfl d_X_begins_2 (aw_sipush (v := iv 240) cs_240 d_X_begins_3 ?_)
    refine ai_icmp_ge h_w1 in_240 hf (tgt := 29) (by decide) d_X_begins_6 (fun hf => ?_) (fun hf => ?_)
    · refine aw_weakB (lv2 := [.ref o0, uu]) (wk_s (wk_u wk_n)) ?_
      exact hk_29 I0 h_I0 hf
    · refine aw_aload_n rfl rfl d_X_begins_9 (aw_getr (r := o0 + 9) fl_X_44 h_o0 (by decide) rfl (rm_9_25 _ h_o0).1 d_X_begins_10 (aw_iload_n rfl rfl d_X_begins_13 (aw_iconst (v := iv 0) rfl d_X_begins_14 ?_)))
      refine ai_iast (rm_9_25 _ h_o0).2 rfl h_w1 in_0 h_I0 hf d_X_begins_15 (fun _ I1 h_I1 hf => ?_)
      refine aw_aload_n rfl rfl d_X_begins_16 (aw_getr (r := o0 + 12) fl_X_53 h_o0 (by decide) rfl (rm_9_28 _ h_o0).1 d_X_begins_17 (aw_iload_n rfl rfl d_X_begins_20 (aw_iconst (v := iv 0) rfl d_X_begins_21 ?_)))
      refine ai_zast (Or.inl rfl) (rm_9_28 _ h_o0).2 rfl h_w1 in_0 h_I1 hf d_X_begins_22 (fun _ I2 h_I2 hf => ?_)
      refine ai_iinc (n := 1) (lv2 := fun x3 => [.ref o0, .int (iv x3)]) hf rfl (Nat.le_of_ble_eq_true rfl) (fun _ => rfl) d_X_begins_23 (fun x3 h_x3 hf => ?_)
      refine aw_goto (tgt := 2) (by decide) d_X_begins_26 ?_
      exact ih x3 I2 h_x3 h_I2 hf
set_option maxRecDepth 20000 in
theorem t_X_begins (fu : Nat) (o0 : Nat) (I0 : IMem) (hI : RG I0) (h_o0 : KM[o0]? = some (12, 51)) {r : Int × IMem} (hf : f_X_begins fu o0 I0 = some r) : Ss l b 1 y_X_begins KM RM [.ref o0] (ivm I0) (Pv r) := by
  unfold f_X_begins at hf
  refine Ss.of (show Ai l b 1 y_X_begins KM RM (Pv r) I0 0 [.ref o0, uu] [] from ?_)
  refine aw_iconst (v := iv 0) rfl d_X_begins_0 (aw_istore_n (lv2 := [.ref o0, .int (iv 0)]) rfl (Nat.le_of_ble_eq_true rfl) rfl d_X_begins_1 ?_)
  refine t_X_begins_2 fu _ o0 h_o0 ?_ fu 0 I0 in_0 hI hf
  · intro I4 h_I4 hf
    refine aw_aload_n rfl rfl d_X_begins_29 (aw_aload_n rfl rfl d_X_begins_30 (aw_getr (r := o0 + 1) fl_X_7 h_o0 (by decide) rfl (rm_9_0 _ h_o0).1 d_X_begins_31 (aw_iconst (v := iv 1) rfl d_X_begins_34 (ai_ialdc (j := 1) (rm_9_0 _ h_o0).2 (by decide) (by decide) d_X_begins_35 ?_))))
    refine ai_puti hf h_I4 (h_I4 (o0 + 1) 1) fl_X_289 h_o0 (by decide) rfl rfl rfl rfl d_X_begins_36 (fun I5 h_I5 hf => ?_)
    refine aw_aload_n rfl rfl d_X_begins_39 (aw_iconst (v := iv 0) rfl d_X_begins_40 ?_)
    refine ai_puti hf h_I5 in_0 fl_X_291 h_o0 (by decide) rfl rfl rfl rfl d_X_begins_41 (fun I6 h_I6 hf => ?_)
    refine aw_aload_n rfl rfl d_X_begins_44 (aw_iconst (v := iv 0) rfl d_X_begins_45 ?_)
    refine ai_puti hf h_I6 in_0 fl_X_293 h_o0 (by decide) rfl rfl rfl rfl d_X_begins_46 (fun I7 h_I7 hf => ?_)
    refine aw_aload_n rfl rfl d_X_begins_49 (aw_iconst (v := iv 0) rfl d_X_begins_50 ?_)
    refine ai_puti hf h_I7 in_0 fl_X_296 h_o0 (by decide) rfl rfl rfl rfl d_X_begins_51 (fun I8 h_I8 hf => ?_)
    refine aw_aload_n rfl rfl d_X_begins_54 (aw_iconst (v := iv 0) rfl d_X_begins_55 ?_)
    refine ai_puti hf h_I8 in_0 fl_X_299 h_o0 (by decide) rfl rfl rfl rfl d_X_begins_56 (fun I9 h_I9 hf => ?_)
    exact ai_retv rfl d_X_begins_59 hf h_I9
set_option maxRecDepth 20000 in
theorem t_X_draw (fu : Nat) (o0 : Nat) (a1 : Int) (I0 : IMem) (hI : RG I0) (h_o0 : KM[o0]? = some (12, 51)) (h_a1 : inr a1) {r : Int × IMem} (hf : f_X_draw fu o0 a1 I0 = some r) : Ss l b 1 y_X_draw KM RM [.ref o0, .int (iv a1)] (ivm I0) (Ps r) := by
  unfold f_X_draw at hf
  refine Ss.of (show Ai l b 1 y_X_draw KM RM (Ps r) I0 0 [.ref o0, .int (iv a1)] [] from ?_)
  refine aw_aload_n rfl rfl d_X_draw_0 (aw_getr (r := o0 + 1) fl_X_7 h_o0 (by decide) rfl (rm_9_0 _ h_o0).1 d_X_draw_1 (aw_iconst (v := iv 0) rfl d_X_draw_4 (ai_ldc kc_X_96e kc_X_96 d_X_draw_5 (aw_aload_n rfl rfl d_X_draw_7 (aw_getr (r := o0 + 1) fl_X_7 h_o0 (by decide) rfl (rm_9_0 _ h_o0).1 d_X_draw_8 (aw_iconst (v := iv 0) rfl d_X_draw_11 (ai_ialdc (j := 0) (rm_9_0 _ h_o0).2 (by decide) (by decide) d_X_draw_12 (ai_imul d_X_draw_13 (ai_ldc kc_X_97e kc_X_97 d_X_draw_14 (ai_iadd d_X_draw_16 ?_))))))))))
  refine ai_iastc (j := 0) (rm_9_0 _ h_o0).2 (by decide) (by decide) (wr32_in _) hI hf d_X_draw_17 (fun I1 h_I1 hf => ?_)
  refine aw_aload_n rfl rfl d_X_draw_18 (aw_getr (r := o0 + 1) fl_X_7 h_o0 (by decide) rfl (rm_9_0 _ h_o0).1 d_X_draw_19 (aw_iconst (v := iv 0) rfl d_X_draw_22 (ai_ialdc (j := 0) (rm_9_0 _ h_o0).2 (by decide) (by decide) d_X_draw_23 (aw_bipush (v := iv 8) cb_8 d_X_draw_24 (ai_iushr d_X_draw_26 (aw_iload_n rfl rfl d_X_draw_27 ?_))))))
  refine ai_irem h_a1 hf d_X_draw_28 (fun _ hf => ?_)
  exact ai_reti rfl d_X_draw_29 hf (wrem_in _ _) h_I1
set_option maxRecDepth 20000 in
theorem t_X_movesUp_16 (fu : Nat) {r : Int × IMem} (k_51 : Int → IMem → Res) (o0 : Nat) (p1 : Int) (p2 : Int) (h_o0 : KM[o0]? = some (12, 51)) (h_p1 : inr p1) (h_p2 : inr p2) (hk_51 : ∀ (z3 : Int) (I9 : IMem), inr z3 → RG I9 → k_51 z3 I9 = some r → Ai l b 3 y_X_movesUp KM RM (Pv r) I9 51 [.ref o0, .int (iv p1), .int (iv p2), .int (iv z3), uu, uu, uu, uu, uu] []) : ∀ (m : Nat) (w3 : Int) (w4 : Int) (I0 : IMem), inr w3 → inr w4 → RG I0 → f_X_movesUp_16 fu k_51 o0 p1 p2 m w3 w4 I0 = some r → Ai l b 3 y_X_movesUp KM RM (Pv r) I0 16 [.ref o0, .int (iv p1), .int (iv p2), .int (iv w3), .int (iv w4), uu, uu, uu, uu] [] := by
  intro m
  induction m with
  | zero => intro w3 w4 I0 h_w3 h_w4 h_I0 hf; cases hf
  | succ m ih =>
    intro w3 w4 I0 h_w3 h_w4 h_I0 hf
    replace hf : fb_X_movesUp_16 fu k_51 o0 p1 p2 (f_X_movesUp_16 fu k_51 o0 p1 p2 m) w3 w4 I0 = some r := hf
    unfold fb_X_movesUp_16 at hf
    refine aw_iload rfl d_X_movesUp_16 (aw_iload_n rfl rfl d_X_movesUp_18 ?_)
    refine ai_icmp_ge h_w4 h_p2 hf (tgt := 51) (by decide) d_X_movesUp_19 (fun hf => ?_) (fun hf => ?_)
    · refine aw_weakB (lv2 := [.ref o0, .int (iv p1), .int (iv p2), .int (iv w3), uu, uu, uu, uu, uu]) (wk_s (wk_s (wk_s (wk_s (wk_u (wk_u (wk_u (wk_u (wk_u wk_n))))))))) ?_
      exact hk_51 w3 I0 h_w3 h_I0 hf
    · refine aw_iload_n rfl rfl d_X_movesUp_22 (aw_aload_n rfl rfl d_X_movesUp_23 (aw_getr (r := o0 + 9) fl_X_44 h_o0 (by decide) rfl (rm_9_25 _ h_o0).1 d_X_movesUp_24 (aw_bipush (v := iv 40) cb_40 d_X_movesUp_27 (aw_iload_n rfl rfl d_X_movesUp_29 (ai_imul d_X_movesUp_30 (aw_iload rfl d_X_movesUp_31 (ai_iadd d_X_movesUp_33 ?_)))))))
      refine ai_name hf (wr32_in _) (fun x3 h_x3 hf => ?_)
      refine ai_iald (rm_9_25 _ h_o0).2 rfl h_x3 hf d_X_movesUp_34 (fun _ hf => ?_)
      obtain ⟨k4, ek4, hf⟩ := of_zj hf
      have hk4 : ∀ (x6 : Int) (I5 : IMem), inr x6 → RG I5 → k4 x6 I5 = some r → Ai l b 3 y_X_movesUp KM RM (Pv r) I5 43 [.ref o0, .int (iv p1), .int (iv p2), uu, .int (iv w4), uu, uu, uu, uu] [.int (iv x6), .int (iv w3)] := by
        intro x6 I5 h_x6 h_I5 hf
        subst ek4
        refine ai_iadd d_X_movesUp_43 ?_
        refine ai_name hf (wr32_in _) (fun x7 h_x7 hf => ?_)
        refine aw_istore_n (lv2 := [.ref o0, .int (iv p1), .int (iv p2), .int (iv x7), .int (iv w4), uu, uu, uu, uu]) rfl (Nat.le_of_ble_eq_true rfl) rfl d_X_movesUp_44 ?_
        refine ai_iinc (n := 1) (lv2 := fun x8 => [.ref o0, .int (iv p1), .int (iv p2), .int (iv x7), .int (iv x8), uu, uu, uu, uu]) hf rfl (Nat.le_of_ble_eq_true rfl) (fun _ => rfl) d_X_movesUp_45 (fun x8 h_x8 hf => ?_)
        refine aw_goto (tgt := 16) (by decide) d_X_movesUp_48 ?_
        exact ih x7 x8 I5 h_x7 h_x8 h_I5 hf
      refine ai_if_le (h_I0 (o0 + 9) x3.toNat) hf (tgt := 42) (by decide) d_X_movesUp_35 (fun hf => ?_) (fun hf => ?_)
      · refine aw_iconst (v := iv 0) rfl d_X_movesUp_42 ?_
        refine aw_weakB (lv2 := [.ref o0, .int (iv p1), .int (iv p2), uu, .int (iv w4), uu, uu, uu, uu]) (wk_s (wk_s (wk_s (wk_u (wk_s (wk_u (wk_u (wk_u (wk_u wk_n))))))))) ?_
        exact hk4 0 I0 in_0 h_I0 hf
      · refine aw_iconst (v := iv 1) rfl d_X_movesUp_38 (aw_goto (tgt := 43) (by decide) d_X_movesUp_39 ?_)
        refine aw_weakB (lv2 := [.ref o0, .int (iv p1), .int (iv p2), uu, .int (iv w4), uu, uu, uu, uu]) (wk_s (wk_s (wk_s (wk_u (wk_s (wk_u (wk_u (wk_u (wk_u wk_n))))))))) ?_
        exact hk4 1 I0 in_1 h_I0 hf
set_option maxRecDepth 20000 in
theorem t_X_movesUp_132 (fu : Nat) {r : Int × IMem} (k_164 : IMem → Res) (o0 : Nat) (p1 : Int) (p2 : Int) (p3 : Int) (p4 : Int) (p5 : Int) (p6 : Int) (p7 : Int) (h_o0 : KM[o0]? = some (12, 51)) (h_p1 : inr p1) (h_p2 : inr p2) (h_p3 : inr p3) (h_p4 : inr p4) (h_p5 : inr p5) (h_p6 : inr p6) (h_p7 : inr p7) (hk_164 : ∀ (I9 : IMem), RG I9 → k_164 I9 = some r → Ai l b 3 y_X_movesUp KM RM (Pv r) I9 164 [.ref o0, .int (iv p1), .int (iv p2), .int (iv p3), .int (iv p4), .int (iv p5), .int (iv p6), .int (iv p7), uu] []) : ∀ (m : Nat) (w8 : Int) (I0 : IMem), inr w8 → RG I0 → f_X_movesUp_132 fu k_164 o0 p1 p2 p3 p4 p5 p6 p7 m w8 I0 = some r → Ai l b 3 y_X_movesUp KM RM (Pv r) I0 132 [.ref o0, .int (iv p1), .int (iv p2), .int (iv p3), .int (iv p4), .int (iv p5), .int (iv p6), .int (iv p7), .int (iv w8)] [] := by
  intro m
  induction m with
  | zero => intro w8 I0 h_w8 h_I0 hf; cases hf
  | succ m ih =>
    intro w8 I0 h_w8 h_I0 hf
    replace hf : fb_X_movesUp_132 fu k_164 o0 p1 p2 p3 p4 p5 p6 p7 (f_X_movesUp_132 fu k_164 o0 p1 p2 p3 p4 p5 p6 p7 m) w8 I0 = some r := hf
    unfold fb_X_movesUp_132 at hf
    refine aw_iload rfl d_X_movesUp_132 (aw_bipush (v := iv 6) cb_6 d_X_movesUp_134 ?_)
    refine ai_icmp_ge h_w8 in_6 hf (tgt := 164) (by decide) d_X_movesUp_136 (fun hf => ?_) (fun hf => ?_)
    · refine aw_weakB (lv2 := [.ref o0, .int (iv p1), .int (iv p2), .int (iv p3), .int (iv p4), .int (iv p5), .int (iv p6), .int (iv p7), uu]) (wk_s (wk_s (wk_s (wk_s (wk_s (wk_s (wk_s (wk_s (wk_u wk_n))))))))) ?_
      exact hk_164 I0 h_I0 hf
    · refine aw_aload_n rfl rfl d_X_movesUp_139 (aw_getr (r := o0 + 1) fl_X_7 h_o0 (by decide) rfl (rm_9_0 _ h_o0).1 d_X_movesUp_140 (aw_iload rfl d_X_movesUp_143 (aw_iload rfl d_X_movesUp_145 (ai_iadd d_X_movesUp_147 (aw_aload_n rfl rfl d_X_movesUp_148 (aw_iload_n rfl rfl d_X_movesUp_149 (aw_iload rfl d_X_movesUp_150 (aw_iload rfl d_X_movesUp_152 ?_))))))))
      obtain ⟨y26, I27, c28, hf⟩ := of_zb hf
      refine ai_callV (as := [.int (iv p1), .int (iv p5), .int (iv w8)]) (d' := 2) (q := ("SinglesUpModel", zT9, 51)) mo_X_of lk_X_264 h_o0 rfl rfl rfl ⟨by decide, by decide⟩ rfl rfl (by decide) d_X_movesUp_154 (t_X_of fu o0 p1 p5 w8 I0 h_I0 h_o0 h_p1 h_p5 h_w8 c28) (fun h_y26 h_I27 => ?_)
      refine ai_nameU hf (wr32_in _) (fun x30 h_x30 hf => ?_)
      refine ai_iast (rm_9_0 _ h_o0).2 rfl h_x30 h_y26 h_I27 hf d_X_movesUp_157 (fun _ I29 h_I29 hf => ?_)
      refine ai_iinc (n := 1) (lv2 := fun x31 => [.ref o0, .int (iv p1), .int (iv p2), .int (iv p3), .int (iv p4), .int (iv p5), .int (iv p6), .int (iv p7), .int (iv x31)]) hf rfl (Nat.le_of_ble_eq_true rfl) (fun _ => rfl) d_X_movesUp_158 (fun x31 h_x31 hf => ?_)
      refine aw_goto (tgt := 132) (by decide) d_X_movesUp_161 ?_
      exact ih x31 I29 h_x31 h_I29 hf
set_option maxRecDepth 20000 in
theorem t_X_movesUp_57 (fu : Nat) {r : Int × IMem} (k_254 : Int → IMem → Res) (o0 : Nat) (p1 : Int) (p2 : Int) (h_o0 : KM[o0]? = some (12, 51)) (h_p1 : inr p1) (h_p2 : inr p2) (hk_254 : ∀ (z4 : Int) (I9 : IMem), inr z4 → RG I9 → k_254 z4 I9 = some r → Ai l b 3 y_X_movesUp KM RM (Pv r) I9 254 [.ref o0, .int (iv p1), uu, uu, .int (iv z4), uu, uu, uu, uu] []) : ∀ (m : Nat) (w3 : Int) (w4 : Int) (w5 : Int) (I0 : IMem), inr w3 → inr w4 → inr w5 → RG I0 → f_X_movesUp_57 fu k_254 o0 p1 p2 m w3 w4 w5 I0 = some r → Ai l b 3 y_X_movesUp KM RM (Pv r) I0 57 [.ref o0, .int (iv p1), .int (iv p2), .int (iv w3), .int (iv w4), .int (iv w5), uu, uu, uu] [] := by
  intro m
  induction m with
  | zero => intro w3 w4 w5 I0 h_w3 h_w4 h_w5 h_I0 hf; cases hf
  | succ m ih =>
    intro w3 w4 w5 I0 h_w3 h_w4 h_w5 h_I0 hf
    replace hf : fb_X_movesUp_57 fu k_254 o0 p1 p2 (f_X_movesUp_57 fu k_254 o0 p1 p2 m) w3 w4 w5 I0 = some r := hf
    unfold fb_X_movesUp_57 at hf
    refine aw_iload rfl d_X_movesUp_57 (aw_iload_n rfl rfl d_X_movesUp_59 ?_)
    refine ai_icmp_ge h_w5 h_p2 hf (tgt := 254) (by decide) d_X_movesUp_60 (fun hf => ?_) (fun hf => ?_)
    · refine aw_weakB (lv2 := [.ref o0, .int (iv p1), uu, uu, .int (iv w4), uu, uu, uu, uu]) (wk_s (wk_s (wk_u (wk_u (wk_s (wk_u (wk_u (wk_u (wk_u wk_n))))))))) ?_
      exact hk_254 w4 I0 h_w4 h_I0 hf
    · refine aw_bipush (v := iv 40) cb_40 d_X_movesUp_63 (aw_iload_n rfl rfl d_X_movesUp_65 (ai_imul d_X_movesUp_66 (aw_iload rfl d_X_movesUp_67 (ai_iadd d_X_movesUp_69 ?_))))
      refine ai_name hf (wr32_in _) (fun x11 h_x11 hf => ?_)
      refine aw_istore (lv2 := [.ref o0, .int (iv p1), .int (iv p2), .int (iv w3), .int (iv w4), .int (iv w5), .int (iv x11), uu, uu]) (Nat.le_of_ble_eq_true rfl) rfl d_X_movesUp_70 ?_
      refine aw_iload_n rfl rfl d_X_movesUp_72 (aw_aload_n rfl rfl d_X_movesUp_73 (aw_getr (r := o0 + 9) fl_X_44 h_o0 (by decide) rfl (rm_9_25 _ h_o0).1 d_X_movesUp_74 (aw_iload rfl d_X_movesUp_77 ?_)))
      refine ai_iald (rm_9_25 _ h_o0).2 rfl h_x11 hf d_X_movesUp_79 (fun _ hf => ?_)
      obtain ⟨k12, ek12, hf⟩ := of_zj hf
      have hk12 : ∀ (x14 : Int) (I13 : IMem), inr x14 → RG I13 → k12 x14 I13 = some r → Ai l b 3 y_X_movesUp KM RM (Pv r) I13 88 [.ref o0, .int (iv p1), .int (iv p2), uu, .int (iv w4), .int (iv w5), .int (iv x11), uu, uu] [.int (iv x14), .int (iv w3)] := by
        intro x14 I13 h_x14 h_I13 hf
        subst ek12
        refine ai_isub d_X_movesUp_88 ?_
        refine ai_name hf (wr32_in _) (fun x15 h_x15 hf => ?_)
        refine aw_istore_n (lv2 := [.ref o0, .int (iv p1), .int (iv p2), .int (iv x15), .int (iv w4), .int (iv w5), .int (iv x11), uu, uu]) rfl (Nat.le_of_ble_eq_true rfl) rfl d_X_movesUp_89 ?_
        refine aw_aload_n rfl rfl d_X_movesUp_90 (aw_getr (r := o0 + 12) fl_X_53 h_o0 (by decide) rfl (rm_9_28 _ h_o0).1 d_X_movesUp_91 (aw_iload rfl d_X_movesUp_94 ?_))
        refine ai_zald (rm_9_28 _ h_o0).2 rfl h_x11 hf d_X_movesUp_96 (fun _ hf => ?_)
        obtain ⟨k16, ek16, hf⟩ := of_zj hf
        have hk16 : ∀ (x18 : Int) (I17 : IMem), inr x18 → RG I17 → k16 x18 I17 = some r → Ai l b 3 y_X_movesUp KM RM (Pv r) I17 248 [.ref o0, .int (iv p1), .int (iv p2), .int (iv x15), .int (iv x18), .int (iv w5), uu, uu, uu] [] := by
          intro x18 I17 h_x18 h_I17 hf
          subst ek16
          refine ai_iinc (n := 1) (lv2 := fun x19 => [.ref o0, .int (iv p1), .int (iv p2), .int (iv x15), .int (iv x18), .int (iv x19), uu, uu, uu]) hf rfl (Nat.le_of_ble_eq_true rfl) (fun _ => rfl) d_X_movesUp_248 (fun x19 h_x19 hf => ?_)
          refine aw_goto (tgt := 57) (by decide) d_X_movesUp_251 ?_
          exact ih x15 x18 x19 I17 h_x15 h_x18 h_x19 h_I17 hf
        refine ai_if_ne (h_I13 (o0 + 12) x11.toNat) hf (tgt := 248) (by decide) d_X_movesUp_97 (fun hf => ?_) (fun hf => ?_)
        · refine aw_weakB (lv2 := [.ref o0, .int (iv p1), .int (iv p2), .int (iv x15), .int (iv w4), .int (iv w5), uu, uu, uu]) (wk_s (wk_s (wk_s (wk_s (wk_s (wk_s (wk_u (wk_u (wk_u wk_n))))))))) ?_
          exact hk16 w4 I13 h_w4 h_I13 hf
        · refine aw_aload_n rfl rfl d_X_movesUp_100 (aw_getr (r := o0 + 9) fl_X_44 h_o0 (by decide) rfl (rm_9_25 _ h_o0).1 d_X_movesUp_101 (aw_iload rfl d_X_movesUp_104 ?_))
          refine ai_iald (rm_9_25 _ h_o0).2 rfl h_x11 hf d_X_movesUp_106 (fun _ hf => ?_)
          refine aw_aload_n rfl rfl d_X_movesUp_107 (aw_iload_n rfl rfl d_X_movesUp_108 (aw_iload rfl d_X_movesUp_109 (aw_iconst (v := iv 1) rfl d_X_movesUp_111 ?_)))
          obtain ⟨y20, I21, c22, hf⟩ := of_zb hf
          refine ai_callV (as := [.int (iv p1), .int (iv w5), .int (iv 1)]) (d' := 2) (q := ("SinglesUpModel", zT9, 51)) mo_X_of lk_X_264 h_o0 rfl rfl rfl ⟨by decide, by decide⟩ rfl rfl (by decide) d_X_movesUp_112 (t_X_of fu o0 p1 w5 1 I13 h_I13 h_o0 h_p1 h_w5 in_1 c22) (fun h_y20 h_I21 => ?_)
          refine ai_icmp_ne (h_I13 (o0 + 9) x11.toNat) h_y20 hf (tgt := 121) (by decide) d_X_movesUp_115 (fun hf => ?_) (fun hf => ?_)
          · refine aw_iload_n rfl rfl d_X_movesUp_121 (aw_iload rfl d_X_movesUp_122 ?_)
            obtain ⟨y23, I24, c25, hf⟩ := of_zb hf
            refine ai_callS (as := [.int (iv p1), .int (iv w4)]) (d' := 1) mo_X_cell lk_X_260 rfl ⟨by decide, by decide⟩ rfl rfl (by decide) d_X_movesUp_124 (t_X_cell fu p1 w4 I21 h_I21 h_p1 h_w4 c25) (fun h_y23 h_I24 => ?_)
            refine aw_istore (lv2 := [.ref o0, .int (iv p1), .int (iv p2), .int (iv x15), .int (iv w4), .int (iv w5), .int (iv x11), .int (iv y23), uu]) (Nat.le_of_ble_eq_true rfl) rfl d_X_movesUp_127 (aw_iconst (v := iv 0) rfl d_X_movesUp_129 (aw_istore (lv2 := [.ref o0, .int (iv p1), .int (iv p2), .int (iv x15), .int (iv w4), .int (iv w5), .int (iv x11), .int (iv y23), .int (iv 0)]) (Nat.le_of_ble_eq_true rfl) rfl d_X_movesUp_130 ?_))
            refine t_X_movesUp_132 fu _ o0 p1 p2 x15 w4 w5 x11 y23 h_o0 h_p1 h_p2 h_x15 h_w4 h_w5 h_x11 h_y23 ?_ fu 0 I24 in_0 h_I24 hf
            · intro I32 h_I32 hf
              refine aw_aload_n rfl rfl d_X_movesUp_164 (aw_getr (r := o0 + 9) fl_X_44 h_o0 (by decide) rfl (rm_9_25 _ h_o0).1 d_X_movesUp_165 (aw_iload rfl d_X_movesUp_168 ?_))
              refine ai_iald (rm_9_25 _ h_o0).2 rfl h_x11 hf d_X_movesUp_170 (fun _ hf => ?_)
              obtain ⟨k33, ek33, hf⟩ := of_zj hf
              have hk33 : ∀  (I34 : IMem), RG I34 → k33 I34 = some r → Ai l b 3 y_X_movesUp KM RM (Pv r) I34 211 [.ref o0, .int (iv p1), .int (iv p2), .int (iv x15), .int (iv w4), .int (iv w5), uu, .int (iv y23), uu] [] := by
                intro I34 h_I34 hf
                subst ek33
                refine aw_aload_n rfl rfl d_X_movesUp_211 (aw_getr (r := o0 + 1) fl_X_7 h_o0 (by decide) rfl (rm_9_0 _ h_o0).1 d_X_movesUp_212 (aw_iload rfl d_X_movesUp_215 (aw_iconst (v := iv 4) rfl d_X_movesUp_217 (ai_iadd d_X_movesUp_218 ?_))))
                refine ai_name hf (wr32_in _) (fun x35 h_x35 hf => ?_)
                refine aw_dup2 rfl rfl d_X_movesUp_219 ?_
                refine ai_iald (rm_9_0 _ h_o0).2 rfl h_x35 hf d_X_movesUp_220 (fun _ hf => ?_)
                refine aw_iconst (v := iv 1) rfl d_X_movesUp_221 (ai_iadd d_X_movesUp_222 ?_)
                refine ai_iast (rm_9_0 _ h_o0).2 rfl h_x35 (wr32_in _) h_I34 hf d_X_movesUp_223 (fun _ I36 h_I36 hf => ?_)
                refine aw_aload_n rfl rfl d_X_movesUp_224 (aw_getr (r := o0 + 1) fl_X_7 h_o0 (by decide) rfl (rm_9_0 _ h_o0).1 d_X_movesUp_225 (aw_iload rfl d_X_movesUp_228 (aw_iconst (v := iv 5) rfl d_X_movesUp_230 (ai_iadd d_X_movesUp_231 ?_))))
                refine ai_name hf (wr32_in _) (fun x37 h_x37 hf => ?_)
                refine aw_dup2 rfl rfl d_X_movesUp_232 ?_
                refine ai_iald (rm_9_0 _ h_o0).2 rfl h_x37 hf d_X_movesUp_233 (fun _ hf => ?_)
                refine aw_iload_n rfl rfl d_X_movesUp_234 ?_
                obtain ⟨k38, ek38, hf⟩ := of_zj hf
                have hk38 : ∀ (x40 : Int) (I39 : IMem), inr x40 → RG I39 → k38 x40 I39 = some r → Ai l b 3 y_X_movesUp KM RM (Pv r) I39 243 [.ref o0, .int (iv p1), .int (iv p2), .int (iv x15), .int (iv w4), .int (iv w5), uu, uu, uu] [.int (iv x40), .int (iv (I36 (o0 + 1) x37.toNat)), .int (iv x37), .ref (o0 + 1)] := by
                  intro x40 I39 h_x40 h_I39 hf
                  subst ek38
                  refine ai_iadd d_X_movesUp_243 ?_
                  refine ai_iast (rm_9_0 _ h_o0).2 rfl h_x37 (wr32_in _) h_I39 hf d_X_movesUp_244 (fun _ I41 h_I41 hf => ?_)
                  refine ai_iinc (n := 1) (lv2 := fun x42 => [.ref o0, .int (iv p1), .int (iv p2), .int (iv x15), .int (iv x42), .int (iv w5), uu, uu, uu]) hf rfl (Nat.le_of_ble_eq_true rfl) (fun _ => rfl) d_X_movesUp_245 (fun x42 h_x42 hf => ?_)
                  exact hk16 x42 I41 h_x42 h_I41 hf
                refine ai_if_le h_x15 hf (tgt := 242) (by decide) d_X_movesUp_235 (fun hf => ?_) (fun hf => ?_)
                · refine aw_iconst (v := iv 0) rfl d_X_movesUp_242 ?_
                  refine aw_weakB (lv2 := [.ref o0, .int (iv p1), .int (iv p2), .int (iv x15), .int (iv w4), .int (iv w5), uu, uu, uu]) (wk_s (wk_s (wk_s (wk_s (wk_s (wk_s (wk_u (wk_u (wk_u wk_n))))))))) ?_
                  exact hk38 0 I36 in_0 h_I36 hf
                · refine aw_iconst (v := iv 1) rfl d_X_movesUp_238 (aw_goto (tgt := 243) (by decide) d_X_movesUp_239 ?_)
                  refine aw_weakB (lv2 := [.ref o0, .int (iv p1), .int (iv p2), .int (iv x15), .int (iv w4), .int (iv w5), uu, uu, uu]) (wk_s (wk_s (wk_s (wk_s (wk_s (wk_s (wk_u (wk_u (wk_u wk_n))))))))) ?_
                  exact hk38 1 I36 in_1 h_I36 hf
              refine ai_if_le (h_I32 (o0 + 9) x11.toNat) hf (tgt := 211) (by decide) d_X_movesUp_171 (fun hf => ?_) (fun hf => ?_)
              · refine aw_weakB (lv2 := [.ref o0, .int (iv p1), .int (iv p2), .int (iv x15), .int (iv w4), .int (iv w5), uu, .int (iv y23), uu]) (wk_s (wk_s (wk_s (wk_s (wk_s (wk_s (wk_u (wk_s (wk_u wk_n))))))))) ?_
                exact hk33 I32 h_I32 hf
              · refine aw_aload_n rfl rfl d_X_movesUp_174 (aw_getr (r := o0 + 1) fl_X_7 h_o0 (by decide) rfl (rm_9_0 _ h_o0).1 d_X_movesUp_175 (aw_iload rfl d_X_movesUp_178 (aw_iconst (v := iv 1) rfl d_X_movesUp_180 (ai_iadd d_X_movesUp_181 ?_))))
                refine ai_name hf (wr32_in _) (fun x43 h_x43 hf => ?_)
                refine aw_dup2 rfl rfl d_X_movesUp_182 ?_
                refine ai_iald (rm_9_0 _ h_o0).2 rfl h_x43 hf d_X_movesUp_183 (fun _ hf => ?_)
                refine aw_aload_n rfl rfl d_X_movesUp_184 (aw_getr (r := o0 + 9) fl_X_44 h_o0 (by decide) rfl (rm_9_25 _ h_o0).1 d_X_movesUp_185 (aw_iload rfl d_X_movesUp_188 ?_))
                refine ai_iald (rm_9_25 _ h_o0).2 rfl h_x11 hf d_X_movesUp_190 (fun _ hf => ?_)
                refine ai_isub d_X_movesUp_191 ?_
                refine ai_iast (rm_9_0 _ h_o0).2 rfl h_x43 (wr32_in _) h_I32 hf d_X_movesUp_192 (fun _ I44 h_I44 hf => ?_)
                refine aw_aload_n rfl rfl d_X_movesUp_193 (aw_getr (r := o0 + 1) fl_X_7 h_o0 (by decide) rfl (rm_9_0 _ h_o0).1 d_X_movesUp_194 (aw_iload rfl d_X_movesUp_197 (aw_iconst (v := iv 2) rfl d_X_movesUp_199 (ai_iadd d_X_movesUp_200 (aw_aload_n rfl rfl d_X_movesUp_201 (aw_getr (r := o0 + 1) fl_X_7 h_o0 (by decide) rfl (rm_9_0 _ h_o0).1 d_X_movesUp_202 (aw_iload rfl d_X_movesUp_205 (aw_iconst (v := iv 1) rfl d_X_movesUp_207 (ai_iadd d_X_movesUp_208 ?_)))))))))
                refine ai_name hf (wr32_in _) (fun x45 h_x45 hf => ?_)
                refine ai_iald (rm_9_0 _ h_o0).2 rfl h_x45 hf d_X_movesUp_209 (fun _ hf => ?_)
                refine ai_nameU hf (wr32_in _) (fun x47 h_x47 hf => ?_)
                refine ai_iast (rm_9_0 _ h_o0).2 rfl h_x47 (h_I44 (o0 + 1) x45.toNat) h_I44 hf d_X_movesUp_210 (fun _ I46 h_I46 hf => ?_)
                refine aw_weakB (lv2 := [.ref o0, .int (iv p1), .int (iv p2), .int (iv x15), .int (iv w4), .int (iv w5), uu, .int (iv y23), uu]) (wk_s (wk_s (wk_s (wk_s (wk_s (wk_s (wk_u (wk_s (wk_u wk_n))))))))) ?_
                exact hk33 I46 h_I46 hf
          · refine aw_goto (tgt := 248) (by decide) d_X_movesUp_118 ?_
            refine aw_weakB (lv2 := [.ref o0, .int (iv p1), .int (iv p2), .int (iv x15), .int (iv w4), .int (iv w5), uu, uu, uu]) (wk_s (wk_s (wk_s (wk_s (wk_s (wk_s (wk_u (wk_u (wk_u wk_n))))))))) ?_
            exact hk16 w4 I21 h_w4 h_I21 hf
      refine ai_if_le (h_I0 (o0 + 9) x11.toNat) hf (tgt := 87) (by decide) d_X_movesUp_80 (fun hf => ?_) (fun hf => ?_)
      · refine aw_iconst (v := iv 0) rfl d_X_movesUp_87 ?_
        refine aw_weakB (lv2 := [.ref o0, .int (iv p1), .int (iv p2), uu, .int (iv w4), .int (iv w5), .int (iv x11), uu, uu]) (wk_s (wk_s (wk_s (wk_u (wk_s (wk_s (wk_s (wk_u (wk_u wk_n))))))))) ?_
        exact hk12 0 I0 in_0 h_I0 hf
      · refine aw_iconst (v := iv 1) rfl d_X_movesUp_83 (aw_goto (tgt := 88) (by decide) d_X_movesUp_84 ?_)
        refine aw_weakB (lv2 := [.ref o0, .int (iv p1), .int (iv p2), uu, .int (iv w4), .int (iv w5), .int (iv x11), uu, uu]) (wk_s (wk_s (wk_s (wk_u (wk_s (wk_s (wk_s (wk_u (wk_u wk_n))))))))) ?_
        exact hk12 1 I0 in_1 h_I0 hf
set_option maxRecDepth 20000 in
theorem t_X_movesUp (fu : Nat) (o0 : Nat) (a1 : Int) (I0 : IMem) (hI : RG I0) (h_o0 : KM[o0]? = some (12, 51)) (h_a1 : inr a1) {r : Int × IMem} (hf : f_X_movesUp fu o0 a1 I0 = some r) : Ss l b 3 y_X_movesUp KM RM [.ref o0, .int (iv a1)] (ivm I0) (Pv r) := by
  unfold f_X_movesUp at hf
  refine Ss.of (show Ai l b 3 y_X_movesUp KM RM (Pv r) I0 0 [.ref o0, .int (iv a1), uu, uu, uu, uu, uu, uu, uu] [] from ?_)
  refine aw_aload_n rfl rfl d_X_movesUp_0 (aw_getr (r := o0 + 1) fl_X_7 h_o0 (by decide) rfl (rm_9_0 _ h_o0).1 d_X_movesUp_1 (aw_sipush (v := iv 130) cs_130 d_X_movesUp_4 (aw_iload_n rfl rfl d_X_movesUp_7 (ai_iadd d_X_movesUp_8 ?_))))
  refine ai_name hf (wr32_in _) (fun x1 h_x1 hf => ?_)
  refine ai_iald (rm_9_0 _ h_o0).2 rfl h_x1 hf d_X_movesUp_9 (fun _ hf => ?_)
  refine ai_name hf (hI (o0 + 1) x1.toNat) (fun x2 h_x2 hf => ?_)
  refine aw_istore_n (lv2 := [.ref o0, .int (iv a1), .int (iv x2), uu, uu, uu, uu, uu, uu]) rfl (Nat.le_of_ble_eq_true rfl) rfl d_X_movesUp_10 ?_
  refine aw_iconst (v := iv 0) rfl d_X_movesUp_11 (aw_istore_n (lv2 := [.ref o0, .int (iv a1), .int (iv x2), .int (iv 0), uu, uu, uu, uu, uu]) rfl (Nat.le_of_ble_eq_true rfl) rfl d_X_movesUp_12 (aw_iconst (v := iv 0) rfl d_X_movesUp_13 (aw_istore (lv2 := [.ref o0, .int (iv a1), .int (iv x2), .int (iv 0), .int (iv 0), uu, uu, uu, uu]) (Nat.le_of_ble_eq_true rfl) rfl d_X_movesUp_14 ?_)))
  refine t_X_movesUp_16 fu _ o0 a1 x2 h_o0 h_a1 h_x2 ?_ fu 0 0 I0 in_0 in_0 hI hf
  · intro x10 I9 h_x10 h_I9 hf
    refine aw_iconst (v := iv 0) rfl d_X_movesUp_51 (aw_istore (lv2 := [.ref o0, .int (iv a1), .int (iv x2), .int (iv x10), .int (iv 0), uu, uu, uu, uu]) (Nat.le_of_ble_eq_true rfl) rfl d_X_movesUp_52 (aw_iconst (v := iv 0) rfl d_X_movesUp_54 (aw_istore (lv2 := [.ref o0, .int (iv a1), .int (iv x2), .int (iv x10), .int (iv 0), .int (iv 0), uu, uu, uu]) (Nat.le_of_ble_eq_true rfl) rfl d_X_movesUp_55 ?_)))
    refine t_X_movesUp_57 fu _ o0 a1 x2 h_o0 h_a1 h_x2 ?_ fu x10 0 0 I9 h_x10 in_0 in_0 h_I9 hf
    · intro x49 I48 h_x49 h_I48 hf
      refine aw_aload_n rfl rfl d_X_movesUp_254 (aw_getr (r := o0 + 1) fl_X_7 h_o0 (by decide) rfl (rm_9_0 _ h_o0).1 d_X_movesUp_255 (aw_sipush (v := iv 130) cs_130 d_X_movesUp_258 (aw_iload_n rfl rfl d_X_movesUp_261 (ai_iadd d_X_movesUp_262 (aw_iload rfl d_X_movesUp_263 ?_)))))
      refine ai_nameU hf (wr32_in _) (fun x51 h_x51 hf => ?_)
      refine ai_iast (rm_9_0 _ h_o0).2 rfl h_x51 h_x49 h_I48 hf d_X_movesUp_265 (fun _ I50 h_I50 hf => ?_)
      exact ai_retv rfl d_X_movesUp_266 hf h_I50
set_option maxRecDepth 20000 in
theorem t_X_goesOff_61 (fu : Nat) {r : Int × IMem} (k_203 : IMem → Res) (o0 : Nat) (p1 : Int) (h_o0 : KM[o0]? = some (12, 51)) (h_p1 : inr p1) (hk_203 : ∀ (I9 : IMem), RG I9 → k_203 I9 = some r → Ai l b 4 y_X_goesOff KM RM (Ps r) I9 203 [.ref o0, .int (iv p1), uu, uu, uu, uu, uu] []) : ∀ (m : Nat) (w2 : Int) (I0 : IMem), inr w2 → RG I0 → f_X_goesOff_61 fu k_203 o0 p1 m w2 I0 = some r → Ai l b 4 y_X_goesOff KM RM (Ps r) I0 61 [.ref o0, .int (iv p1), .int (iv w2), uu, uu, uu, uu] [] := by
  intro m
  induction m with
  | zero => intro w2 I0 h_w2 h_I0 hf; cases hf
  | succ m ih =>
    intro w2 I0 h_w2 h_I0 hf
    replace hf : fb_X_goesOff_61 fu k_203 o0 p1 (f_X_goesOff_61 fu k_203 o0 p1 m) w2 I0 = some r := hf
    unfold fb_X_goesOff_61 at hf
    refine aw_iload_n rfl rfl d_X_goesOff_61 (aw_aload_n rfl rfl d_X_goesOff_62 (ai_geti fl_X_291 h_o0 (by decide) rfl d_X_goesOff_63 ?_))
    refine ai_icmp_ge h_w2 (h_I0 o0 31) hf (tgt := 203) (by decide) d_X_goesOff_66 (fun hf => ?_) (fun hf => ?_)
    · refine aw_weakB (lv2 := [.ref o0, .int (iv p1), uu, uu, uu, uu, uu]) (wk_s (wk_s (wk_u (wk_u (wk_u (wk_u (wk_u wk_n))))))) ?_
      exact hk_203 I0 h_I0 hf
    · refine aw_aload_n rfl rfl d_X_goesOff_69 (aw_getr (r := o0 + 11) fl_X_50 h_o0 (by decide) rfl (rm_9_27 _ h_o0).1 d_X_goesOff_70 (aw_iload_n rfl rfl d_X_goesOff_73 ?_))
      refine ai_iald (rm_9_27 _ h_o0).2 rfl h_w2 hf d_X_goesOff_74 (fun _ hf => ?_)
      refine aw_bipush (v := iv 40) cb_40 d_X_goesOff_75 (ai_idivc in_40 (by decide) d_X_goesOff_77 ?_)
      refine ai_name hf (wdiv_in _ _) (fun x6 h_x6 hf => ?_)
      refine aw_istore_n (lv2 := [.ref o0, .int (iv p1), .int (iv w2), .int (iv x6), uu, uu, uu]) rfl (Nat.le_of_ble_eq_true rfl) rfl d_X_goesOff_78 ?_
      refine aw_aload_n rfl rfl d_X_goesOff_79 (aw_getr (r := o0 + 11) fl_X_50 h_o0 (by decide) rfl (rm_9_27 _ h_o0).1 d_X_goesOff_80 (aw_iload_n rfl rfl d_X_goesOff_83 ?_))
      refine ai_iald (rm_9_27 _ h_o0).2 rfl h_w2 hf d_X_goesOff_84 (fun _ hf => ?_)
      refine aw_bipush (v := iv 40) cb_40 d_X_goesOff_85 (ai_iremc in_40 (by decide) d_X_goesOff_87 ?_)
      refine ai_name hf (wrem_in _ _) (fun x7 h_x7 hf => ?_)
      refine aw_istore (lv2 := [.ref o0, .int (iv p1), .int (iv w2), .int (iv x6), .int (iv x7), uu, uu]) (Nat.le_of_ble_eq_true rfl) rfl d_X_goesOff_88 ?_
      refine aw_aload_n rfl rfl d_X_goesOff_90 (aw_getr (r := o0 + 9) fl_X_44 h_o0 (by decide) rfl (rm_9_25 _ h_o0).1 d_X_goesOff_91 (aw_aload_n rfl rfl d_X_goesOff_94 (aw_getr (r := o0 + 11) fl_X_50 h_o0 (by decide) rfl (rm_9_27 _ h_o0).1 d_X_goesOff_95 (aw_iload_n rfl rfl d_X_goesOff_98 ?_))))
      refine ai_iald (rm_9_27 _ h_o0).2 rfl h_w2 hf d_X_goesOff_99 (fun _ hf => ?_)
      refine ai_name hf (h_I0 (o0 + 11) w2.toNat) (fun x8 h_x8 hf => ?_)
      refine ai_iald (rm_9_25 _ h_o0).2 rfl h_x8 hf d_X_goesOff_100 (fun _ hf => ?_)
      refine ai_name hf (h_I0 (o0 + 9) x8.toNat) (fun x9 h_x9 hf => ?_)
      refine aw_istore (lv2 := [.ref o0, .int (iv p1), .int (iv w2), .int (iv x6), .int (iv x7), .int (iv x9), uu]) (Nat.le_of_ble_eq_true rfl) rfl d_X_goesOff_101 ?_
      refine aw_aload_n rfl rfl d_X_goesOff_103 (aw_iload_n rfl rfl d_X_goesOff_104 (aw_iload rfl d_X_goesOff_105 (aw_iconst (v := iv 4) rfl d_X_goesOff_107 ?_)))
      obtain ⟨y10, I11, c12, hf⟩ := of_zb hf
      refine ai_callV (as := [.int (iv x6), .int (iv x7), .int (iv 4)]) (d' := 2) (q := ("SinglesUpModel", zT9, 51)) mo_X_of lk_X_264 h_o0 rfl rfl rfl ⟨by decide, by decide⟩ rfl rfl (by decide) d_X_goesOff_108 (t_X_of fu o0 x6 x7 4 I0 h_I0 h_o0 h_x6 h_x7 in_4 c12) (fun h_y10 h_I11 => ?_)
      refine aw_istore (lv2 := [.ref o0, .int (iv p1), .int (iv w2), .int (iv x6), .int (iv x7), .int (iv x9), .int (iv y10)]) (Nat.le_of_ble_eq_true rfl) rfl d_X_goesOff_111 (aw_aload_n rfl rfl d_X_goesOff_113 (aw_getr (r := o0 + 1) fl_X_7 h_o0 (by decide) rfl (rm_9_0 _ h_o0).1 d_X_goesOff_114 (aw_bipush (v := iv 112) cb_112 d_X_goesOff_117 (aw_iload_n rfl rfl d_X_goesOff_119 (ai_iadd d_X_goesOff_120 (aw_aload_n rfl rfl d_X_goesOff_121 (aw_iload_n rfl rfl d_X_goesOff_122 (aw_iload rfl d_X_goesOff_123 (aw_iconst (v := iv 0) rfl d_X_goesOff_125 ?_)))))))))
      obtain ⟨y13, I14, c15, hf⟩ := of_zb hf
      refine ai_callV (as := [.int (iv x6), .int (iv x7), .int (iv 0)]) (d' := 2) (q := ("SinglesUpModel", zT9, 51)) mo_X_of lk_X_264 h_o0 rfl rfl rfl ⟨by decide, by decide⟩ rfl rfl (by decide) d_X_goesOff_126 (t_X_of fu o0 x6 x7 0 I11 h_I11 h_o0 h_x6 h_x7 in_0 c15) (fun h_y13 h_I14 => ?_)
      refine ai_nameU hf (wr32_in _) (fun x17 h_x17 hf => ?_)
      refine ai_iast (rm_9_0 _ h_o0).2 rfl h_x17 h_y13 h_I14 hf d_X_goesOff_129 (fun _ I16 h_I16 hf => ?_)
      refine aw_aload_n rfl rfl d_X_goesOff_130 (aw_getr (r := o0 + 1) fl_X_7 h_o0 (by decide) rfl (rm_9_0 _ h_o0).1 d_X_goesOff_131 (aw_bipush (v := iv 120) cb_120 d_X_goesOff_134 (aw_iload_n rfl rfl d_X_goesOff_136 (ai_iadd d_X_goesOff_137 (aw_iload rfl d_X_goesOff_138 ?_)))))
      refine ai_nameU hf (wr32_in _) (fun x19 h_x19 hf => ?_)
      refine ai_iast (rm_9_0 _ h_o0).2 rfl h_x19 h_x9 h_I16 hf d_X_goesOff_140 (fun _ I18 h_I18 hf => ?_)
      refine aw_aload_n rfl rfl d_X_goesOff_141 (aw_getr (r := o0 + 1) fl_X_7 h_o0 (by decide) rfl (rm_9_0 _ h_o0).1 d_X_goesOff_142 (aw_bipush (v := iv 80) cb_80 d_X_goesOff_145 (aw_iload rfl d_X_goesOff_147 (ai_iadd d_X_goesOff_149 ?_))))
      refine ai_name hf (wr32_in _) (fun x20 h_x20 hf => ?_)
      refine aw_dup2 rfl rfl d_X_goesOff_150 ?_
      refine ai_iald (rm_9_0 _ h_o0).2 rfl h_x20 hf d_X_goesOff_151 (fun _ hf => ?_)
      refine aw_iconst (v := iv 1) rfl d_X_goesOff_152 (ai_iadd d_X_goesOff_153 ?_)
      refine ai_iast (rm_9_0 _ h_o0).2 rfl h_x20 (wr32_in _) h_I18 hf d_X_goesOff_154 (fun _ I21 h_I21 hf => ?_)
      refine aw_aload_n rfl rfl d_X_goesOff_155 (aw_getr (r := o0 + 1) fl_X_7 h_o0 (by decide) rfl (rm_9_0 _ h_o0).1 d_X_goesOff_156 (aw_bipush (v := iv 90) cb_90 d_X_goesOff_159 (aw_iload rfl d_X_goesOff_161 (ai_iadd d_X_goesOff_163 ?_))))
      refine ai_name hf (wr32_in _) (fun x22 h_x22 hf => ?_)
      refine aw_dup2 rfl rfl d_X_goesOff_164 ?_
      refine ai_iald (rm_9_0 _ h_o0).2 rfl h_x22 hf d_X_goesOff_165 (fun _ hf => ?_)
      refine aw_iload rfl d_X_goesOff_166 (ai_iadd d_X_goesOff_168 ?_)
      refine ai_iast (rm_9_0 _ h_o0).2 rfl h_x22 (wr32_in _) h_I21 hf d_X_goesOff_169 (fun _ I23 h_I23 hf => ?_)
      refine aw_iload rfl d_X_goesOff_170 (aw_aload_n rfl rfl d_X_goesOff_172 (aw_getr (r := o0 + 1) fl_X_7 h_o0 (by decide) rfl (rm_9_0 _ h_o0).1 d_X_goesOff_173 (aw_bipush (v := iv 100) cb_100 d_X_goesOff_176 (aw_iload rfl d_X_goesOff_178 (ai_iadd d_X_goesOff_180 ?_)))))
      refine ai_name hf (wr32_in _) (fun x24 h_x24 hf => ?_)
      refine ai_iald (rm_9_0 _ h_o0).2 rfl h_x24 hf d_X_goesOff_181 (fun _ hf => ?_)
      obtain ⟨k25, ek25, hf⟩ := of_zj hf
      have hk25 : ∀  (I26 : IMem), RG I26 → k25 I26 = some r → Ai l b 4 y_X_goesOff KM RM (Ps r) I26 197 [.ref o0, .int (iv p1), .int (iv w2), uu, uu, uu, uu] [] := by
        intro I26 h_I26 hf
        subst ek25
        refine ai_iinc (n := 1) (lv2 := fun x27 => [.ref o0, .int (iv p1), .int (iv x27), uu, uu, uu, uu]) hf rfl (Nat.le_of_ble_eq_true rfl) (fun _ => rfl) d_X_goesOff_197 (fun x27 h_x27 hf => ?_)
        refine aw_goto (tgt := 61) (by decide) d_X_goesOff_200 ?_
        exact ih x27 I26 h_x27 h_I26 hf
      refine ai_icmp_le h_y10 (h_I23 (o0 + 1) x24.toNat) hf (tgt := 197) (by decide) d_X_goesOff_182 (fun hf => ?_) (fun hf => ?_)
      · refine aw_weakB (lv2 := [.ref o0, .int (iv p1), .int (iv w2), uu, uu, uu, uu]) (wk_s (wk_s (wk_s (wk_u (wk_u (wk_u (wk_u wk_n))))))) ?_
        exact hk25 I23 h_I23 hf
      · refine aw_aload_n rfl rfl d_X_goesOff_185 (aw_getr (r := o0 + 1) fl_X_7 h_o0 (by decide) rfl (rm_9_0 _ h_o0).1 d_X_goesOff_186 (aw_bipush (v := iv 100) cb_100 d_X_goesOff_189 (aw_iload rfl d_X_goesOff_191 (ai_iadd d_X_goesOff_193 (aw_iload rfl d_X_goesOff_194 ?_)))))
        refine ai_nameU hf (wr32_in _) (fun x29 h_x29 hf => ?_)
        refine ai_iast (rm_9_0 _ h_o0).2 rfl h_x29 h_y10 h_I23 hf d_X_goesOff_196 (fun _ I28 h_I28 hf => ?_)
        refine aw_weakB (lv2 := [.ref o0, .int (iv p1), .int (iv w2), uu, uu, uu, uu]) (wk_s (wk_s (wk_s (wk_u (wk_u (wk_u (wk_u wk_n))))))) ?_
        exact hk25 I28 h_I28 hf
set_option maxRecDepth 20000 in
theorem t_X_goesOff_215 (fu : Nat) {r : Int × IMem} (k_258 : IMem → Res) (o0 : Nat) (p1 : Int) (p2 : Int) (h_o0 : KM[o0]? = some (12, 51)) (h_p1 : inr p1) (h_p2 : inr p2) (hk_258 : ∀ (I9 : IMem), RG I9 → k_258 I9 = some r → Ai l b 4 y_X_goesOff KM RM (Ps r) I9 258 [.ref o0, .int (iv p1), .int (iv p2), uu, uu, uu, uu] []) : ∀ (m : Nat) (w3 : Int) (I0 : IMem), inr w3 → RG I0 → f_X_goesOff_215 fu k_258 o0 p1 p2 m w3 I0 = some r → Ai l b 4 y_X_goesOff KM RM (Ps r) I0 215 [.ref o0, .int (iv p1), .int (iv p2), .int (iv w3), uu, uu, uu] [] := by
  intro m
  induction m with
  | zero => intro w3 I0 h_w3 h_I0 hf; cases hf
  | succ m ih =>
    intro w3 I0 h_w3 h_I0 hf
    replace hf : fb_X_goesOff_215 fu k_258 o0 p1 p2 (f_X_goesOff_215 fu k_258 o0 p1 p2 m) w3 I0 = some r := hf
    unfold fb_X_goesOff_215 at hf
    refine aw_iload_n rfl rfl d_X_goesOff_215 (aw_bipush (v := iv 6) cb_6 d_X_goesOff_216 ?_)
    refine ai_icmp_ge h_w3 in_6 hf (tgt := 258) (by decide) d_X_goesOff_218 (fun hf => ?_) (fun hf => ?_)
    · refine aw_weakB (lv2 := [.ref o0, .int (iv p1), .int (iv p2), uu, uu, uu, uu]) (wk_s (wk_s (wk_s (wk_u (wk_u (wk_u (wk_u wk_n))))))) ?_
      exact hk_258 I0 h_I0 hf
    · refine aw_aload_n rfl rfl d_X_goesOff_221 (aw_getr (r := o0 + 14) fl_X_60 h_o0 (by decide) rfl (rm_9_36 _ h_o0).1 d_X_goesOff_222 (aw_bipush (v := iv 6) cb_6 d_X_goesOff_225 (aw_iload_n rfl rfl d_X_goesOff_227 (ai_imul d_X_goesOff_228 (aw_iload_n rfl rfl d_X_goesOff_229 (ai_iadd d_X_goesOff_230 (aw_aload_n rfl rfl d_X_goesOff_231 (aw_getr (r := o0 + 1) fl_X_7 h_o0 (by decide) rfl (rm_9_0 _ h_o0).1 d_X_goesOff_232 (aw_sipush (v := iv 140) cs_140 d_X_goesOff_235 (aw_bipush (v := iv 6) cb_6 d_X_goesOff_238 (aw_aload_n rfl rfl d_X_goesOff_240 (aw_getr (r := o0 + 10) fl_X_47 h_o0 (by decide) rfl (rm_9_26 _ h_o0).1 d_X_goesOff_241 (aw_iload_n rfl rfl d_X_goesOff_244 ?_)))))))))))))
      refine ai_iald (rm_9_26 _ h_o0).2 rfl h_p2 hf d_X_goesOff_245 (fun _ hf => ?_)
      refine ai_imul d_X_goesOff_246 (ai_iadd d_X_goesOff_247 (aw_iload_n rfl rfl d_X_goesOff_248 (ai_iadd d_X_goesOff_249 ?_)))
      refine ai_name hf (wr32_in _) (fun x31 h_x31 hf => ?_)
      refine ai_iald (rm_9_0 _ h_o0).2 rfl h_x31 hf d_X_goesOff_250 (fun _ hf => ?_)
      refine ai_nameU hf (wr32_in _) (fun x33 h_x33 hf => ?_)
      refine ai_iast (rm_9_36 _ h_o0).2 rfl h_x33 (h_I0 (o0 + 1) x31.toNat) h_I0 hf d_X_goesOff_251 (fun _ I32 h_I32 hf => ?_)
      refine ai_iinc (n := 1) (lv2 := fun x34 => [.ref o0, .int (iv p1), .int (iv p2), .int (iv x34), uu, uu, uu]) hf rfl (Nat.le_of_ble_eq_true rfl) (fun _ => rfl) d_X_goesOff_252 (fun x34 h_x34 hf => ?_)
      refine aw_goto (tgt := 215) (by decide) d_X_goesOff_255 ?_
      exact ih x34 I32 h_x34 h_I32 hf
set_option maxRecDepth 20000 in
theorem t_X_goesOff_205 (fu : Nat) {r : Int × IMem} (k_264 : IMem → Res) (o0 : Nat) (p1 : Int) (h_o0 : KM[o0]? = some (12, 51)) (h_p1 : inr p1) (hk_264 : ∀ (I9 : IMem), RG I9 → k_264 I9 = some r → Ai l b 4 y_X_goesOff KM RM (Ps r) I9 264 [.ref o0, .int (iv p1), uu, uu, uu, uu, uu] []) : ∀ (m : Nat) (w2 : Int) (I0 : IMem), inr w2 → RG I0 → f_X_goesOff_205 fu k_264 o0 p1 m w2 I0 = some r → Ai l b 4 y_X_goesOff KM RM (Ps r) I0 205 [.ref o0, .int (iv p1), .int (iv w2), uu, uu, uu, uu] [] := by
  intro m
  induction m with
  | zero => intro w2 I0 h_w2 h_I0 hf; cases hf
  | succ m ih =>
    intro w2 I0 h_w2 h_I0 hf
    replace hf : fb_X_goesOff_205 fu k_264 o0 p1 (f_X_goesOff_205 fu k_264 o0 p1 m) w2 I0 = some r := hf
    unfold fb_X_goesOff_205 at hf
    refine aw_iload_n rfl rfl d_X_goesOff_205 (aw_aload_n rfl rfl d_X_goesOff_206 (ai_geti fl_X_293 h_o0 (by decide) rfl d_X_goesOff_207 ?_))
    refine ai_icmp_ge h_w2 (h_I0 o0 32) hf (tgt := 264) (by decide) d_X_goesOff_210 (fun hf => ?_) (fun hf => ?_)
    · refine aw_weakB (lv2 := [.ref o0, .int (iv p1), uu, uu, uu, uu, uu]) (wk_s (wk_s (wk_u (wk_u (wk_u (wk_u (wk_u wk_n))))))) ?_
      exact hk_264 I0 h_I0 hf
    · refine aw_iconst (v := iv 0) rfl d_X_goesOff_213 (aw_istore_n (lv2 := [.ref o0, .int (iv p1), .int (iv w2), .int (iv 0), uu, uu, uu]) rfl (Nat.le_of_ble_eq_true rfl) rfl d_X_goesOff_214 ?_)
      refine t_X_goesOff_215 fu _ o0 p1 w2 h_o0 h_p1 h_w2 ?_ fu 0 I0 in_0 h_I0 hf
      · intro I35 h_I35 hf
        refine ai_iinc (n := 1) (lv2 := fun x36 => [.ref o0, .int (iv p1), .int (iv x36), uu, uu, uu, uu]) hf rfl (Nat.le_of_ble_eq_true rfl) (fun _ => rfl) d_X_goesOff_258 (fun x36 h_x36 hf => ?_)
        refine aw_goto (tgt := 205) (by decide) d_X_goesOff_261 ?_
        exact ih x36 I35 h_x36 h_I35 hf
set_option maxRecDepth 20000 in
theorem t_X_goesOff_266 (fu : Nat) {r : Int × IMem} (k_283 : IMem → Res) (o0 : Nat) (p1 : Int) (h_o0 : KM[o0]? = some (12, 51)) (h_p1 : inr p1) (hk_283 : ∀ (I9 : IMem), RG I9 → k_283 I9 = some r → Ai l b 4 y_X_goesOff KM RM (Ps r) I9 283 [.ref o0, .int (iv p1), uu, uu, uu, uu, uu] []) : ∀ (m : Nat) (w2 : Int) (I0 : IMem), inr w2 → RG I0 → f_X_goesOff_266 fu k_283 o0 p1 m w2 I0 = some r → Ai l b 4 y_X_goesOff KM RM (Ps r) I0 266 [.ref o0, .int (iv p1), .int (iv w2), uu, uu, uu, uu] [] := by
  intro m
  induction m with
  | zero => intro w2 I0 h_w2 h_I0 hf; cases hf
  | succ m ih =>
    intro w2 I0 h_w2 h_I0 hf
    replace hf : fb_X_goesOff_266 fu k_283 o0 p1 (f_X_goesOff_266 fu k_283 o0 p1 m) w2 I0 = some r := hf
    unfold fb_X_goesOff_266 at hf
    refine aw_iload_n rfl rfl d_X_goesOff_266 (aw_bipush (v := iv 6) cb_6 d_X_goesOff_267 ?_)
    refine ai_icmp_ge h_w2 in_6 hf (tgt := 283) (by decide) d_X_goesOff_269 (fun hf => ?_) (fun hf => ?_)
    · refine aw_weakB (lv2 := [.ref o0, .int (iv p1), uu, uu, uu, uu, uu]) (wk_s (wk_s (wk_u (wk_u (wk_u (wk_u (wk_u wk_n))))))) ?_
      exact hk_283 I0 h_I0 hf
    · refine aw_aload_n rfl rfl d_X_goesOff_272 (aw_iload_n rfl rfl d_X_goesOff_273 ?_)
      obtain ⟨y38, I39, c40, hf⟩ := of_zb hf
      refine ai_callVv (as := [.int (iv w2)]) (d' := 3) (q := ("SinglesUpModel", zT9, 51)) mo_X_movesUp lk_X_325 h_o0 rfl rfl rfl ⟨by decide, by decide⟩ rfl rfl (by decide) d_X_goesOff_274 (t_X_movesUp fu o0 w2 I0 h_I0 h_o0 h_w2 c40) (fun h_I39 => ?_)
      refine ai_iinc (n := 1) (lv2 := fun x41 => [.ref o0, .int (iv p1), .int (iv x41), uu, uu, uu, uu]) hf rfl (Nat.le_of_ble_eq_true rfl) (fun _ => rfl) d_X_goesOff_277 (fun x41 h_x41 hf => ?_)
      refine aw_goto (tgt := 266) (by decide) d_X_goesOff_280 ?_
      exact ih x41 I39 h_x41 h_I39 hf
set_option maxRecDepth 20000 in
theorem t_X_goesOff_285 (fu : Nat) {r : Int × IMem} (k_369 : IMem → Res) (o0 : Nat) (p1 : Int) (h_o0 : KM[o0]? = some (12, 51)) (h_p1 : inr p1) (hk_369 : ∀ (I9 : IMem), RG I9 → k_369 I9 = some r → Ai l b 4 y_X_goesOff KM RM (Ps r) I9 369 [.ref o0, .int (iv p1), uu, uu, uu, uu, uu] []) : ∀ (m : Nat) (w2 : Int) (I0 : IMem), inr w2 → RG I0 → f_X_goesOff_285 fu k_369 o0 p1 m w2 I0 = some r → Ai l b 4 y_X_goesOff KM RM (Ps r) I0 285 [.ref o0, .int (iv p1), .int (iv w2), uu, uu, uu, uu] [] := by
  intro m
  induction m with
  | zero => intro w2 I0 h_w2 h_I0 hf; cases hf
  | succ m ih =>
    intro w2 I0 h_w2 h_I0 hf
    replace hf : fb_X_goesOff_285 fu k_369 o0 p1 (f_X_goesOff_285 fu k_369 o0 p1 m) w2 I0 = some r := hf
    unfold fb_X_goesOff_285 at hf
    refine aw_iload_n rfl rfl d_X_goesOff_285 (aw_aload_n rfl rfl d_X_goesOff_286 (ai_geti fl_X_293 h_o0 (by decide) rfl d_X_goesOff_287 ?_))
    refine ai_icmp_ge h_w2 (h_I0 o0 32) hf (tgt := 369) (by decide) d_X_goesOff_290 (fun hf => ?_) (fun hf => ?_)
    · refine aw_weakB (lv2 := [.ref o0, .int (iv p1), uu, uu, uu, uu, uu]) (wk_s (wk_s (wk_u (wk_u (wk_u (wk_u (wk_u wk_n))))))) ?_
      exact hk_369 I0 h_I0 hf
    · refine aw_aload_n rfl rfl d_X_goesOff_293 (aw_iconst (v := iv 0) rfl d_X_goesOff_294 (aw_aload_n rfl rfl d_X_goesOff_295 (aw_getr (r := o0 + 14) fl_X_60 h_o0 (by decide) rfl (rm_9_36 _ h_o0).1 d_X_goesOff_296 (aw_bipush (v := iv 6) cb_6 d_X_goesOff_299 (aw_iload_n rfl rfl d_X_goesOff_301 (ai_imul d_X_goesOff_302 ?_))))))
      refine ai_name hf (wr32_in _) (fun x43 h_x43 hf => ?_)
      refine ai_iald (rm_9_36 _ h_o0).2 rfl h_x43 hf d_X_goesOff_303 (fun _ hf => ?_)
      refine aw_aload_n rfl rfl d_X_goesOff_304 (aw_getr (r := o0 + 14) fl_X_60 h_o0 (by decide) rfl (rm_9_36 _ h_o0).1 d_X_goesOff_305 (aw_bipush (v := iv 6) cb_6 d_X_goesOff_308 (aw_iload_n rfl rfl d_X_goesOff_310 (ai_imul d_X_goesOff_311 (aw_iconst (v := iv 1) rfl d_X_goesOff_312 (ai_iadd d_X_goesOff_313 ?_))))))
      refine ai_name hf (wr32_in _) (fun x44 h_x44 hf => ?_)
      refine ai_iald (rm_9_36 _ h_o0).2 rfl h_x44 hf d_X_goesOff_314 (fun _ hf => ?_)
      refine aw_aload_n rfl rfl d_X_goesOff_315 (aw_getr (r := o0 + 14) fl_X_60 h_o0 (by decide) rfl (rm_9_36 _ h_o0).1 d_X_goesOff_316 (aw_bipush (v := iv 6) cb_6 d_X_goesOff_319 (aw_iload_n rfl rfl d_X_goesOff_321 (ai_imul d_X_goesOff_322 (aw_iconst (v := iv 1) rfl d_X_goesOff_323 (ai_iadd d_X_goesOff_324 ?_))))))
      refine ai_name hf (wr32_in _) (fun x45 h_x45 hf => ?_)
      refine ai_iald (rm_9_36 _ h_o0).2 rfl h_x45 hf d_X_goesOff_325 (fun _ hf => ?_)
      refine aw_aload_n rfl rfl d_X_goesOff_326 (aw_getr (r := o0 + 14) fl_X_60 h_o0 (by decide) rfl (rm_9_36 _ h_o0).1 d_X_goesOff_327 (aw_bipush (v := iv 6) cb_6 d_X_goesOff_330 (aw_iload_n rfl rfl d_X_goesOff_332 (ai_imul d_X_goesOff_333 (aw_iconst (v := iv 3) rfl d_X_goesOff_334 (ai_iadd d_X_goesOff_335 ?_))))))
      refine ai_name hf (wr32_in _) (fun x46 h_x46 hf => ?_)
      refine ai_iald (rm_9_36 _ h_o0).2 rfl h_x46 hf d_X_goesOff_336 (fun _ hf => ?_)
      refine aw_aload_n rfl rfl d_X_goesOff_337 (aw_getr (r := o0 + 14) fl_X_60 h_o0 (by decide) rfl (rm_9_36 _ h_o0).1 d_X_goesOff_338 (aw_bipush (v := iv 6) cb_6 d_X_goesOff_341 (aw_iload_n rfl rfl d_X_goesOff_343 (ai_imul d_X_goesOff_344 (aw_iconst (v := iv 4) rfl d_X_goesOff_345 (ai_iadd d_X_goesOff_346 ?_))))))
      refine ai_name hf (wr32_in _) (fun x47 h_x47 hf => ?_)
      refine ai_iald (rm_9_36 _ h_o0).2 rfl h_x47 hf d_X_goesOff_347 (fun _ hf => ?_)
      refine aw_aload_n rfl rfl d_X_goesOff_348 (aw_getr (r := o0 + 14) fl_X_60 h_o0 (by decide) rfl (rm_9_36 _ h_o0).1 d_X_goesOff_349 (aw_bipush (v := iv 6) cb_6 d_X_goesOff_352 (aw_iload_n rfl rfl d_X_goesOff_354 (ai_imul d_X_goesOff_355 (aw_iconst (v := iv 5) rfl d_X_goesOff_356 (ai_iadd d_X_goesOff_357 ?_))))))
      refine ai_name hf (wr32_in _) (fun x48 h_x48 hf => ?_)
      refine ai_iald (rm_9_36 _ h_o0).2 rfl h_x48 hf d_X_goesOff_358 (fun _ hf => ?_)
      obtain ⟨y49, I50, c51, hf⟩ := of_zb hf
      refine ai_callV (as := [.int (iv 0), .int (iv (I0 (o0 + 14) x43.toNat)), .int (iv (I0 (o0 + 14) x44.toNat)), .int (iv (I0 (o0 + 14) x45.toNat)), .int (iv (I0 (o0 + 14) x46.toNat)), .int (iv (I0 (o0 + 14) x47.toNat)), .int (iv (I0 (o0 + 14) x48.toNat))]) (d' := 2) (q := ("SinglesUpModel", zT9, 51)) mo_X_stands lk_X_277 h_o0 rfl rfl rfl ⟨by decide, by decide⟩ rfl rfl (by decide) d_X_goesOff_359 (t_X_stands fu o0 0 (I0 (o0 + 14) x43.toNat) (I0 (o0 + 14) x44.toNat) (I0 (o0 + 14) x45.toNat) (I0 (o0 + 14) x46.toNat) (I0 (o0 + 14) x47.toNat) (I0 (o0 + 14) x48.toNat) I0 h_I0 h_o0 in_0 (h_I0 (o0 + 14) x43.toNat) (h_I0 (o0 + 14) x44.toNat) (h_I0 (o0 + 14) x45.toNat) (h_I0 (o0 + 14) x46.toNat) (h_I0 (o0 + 14) x47.toNat) (h_I0 (o0 + 14) x48.toNat) c51) (fun h_y49 h_I50 => ?_)
      refine aw_pop rfl d_X_goesOff_362 ?_
      refine ai_iinc (n := 1) (lv2 := fun x52 => [.ref o0, .int (iv p1), .int (iv x52), uu, uu, uu, uu]) hf rfl (Nat.le_of_ble_eq_true rfl) (fun _ => rfl) d_X_goesOff_363 (fun x52 h_x52 hf => ?_)
      refine aw_goto (tgt := 285) (by decide) d_X_goesOff_366 ?_
      exact ih x52 I50 h_x52 h_I50 hf
set_option maxRecDepth 20000 in
theorem t_X_goesOff (fu : Nat) (o0 : Nat) (I0 : IMem) (hI : RG I0) (h_o0 : KM[o0]? = some (12, 51)) {r : Int × IMem} (hf : f_X_goesOff fu o0 I0 = some r) : Ss l b 4 y_X_goesOff KM RM [.ref o0] (ivm I0) (Ps r) := by
  unfold f_X_goesOff at hf
  refine Ss.of (show Ai l b 4 y_X_goesOff KM RM (Ps r) I0 0 [.ref o0, uu, uu, uu, uu, uu, uu] [] from ?_)
  refine aw_aload_n rfl rfl d_X_goesOff_0 (aw_getr (r := o0 + 1) fl_X_7 h_o0 (by decide) rfl (rm_9_0 _ h_o0).1 d_X_goesOff_1 (aw_iconst (v := iv 1) rfl d_X_goesOff_4 (ai_ialdc (j := 1) (rm_9_0 _ h_o0).2 (by decide) (by decide) d_X_goesOff_5 (aw_aload_n rfl rfl d_X_goesOff_6 (ai_geti fl_X_289 h_o0 (by decide) rfl d_X_goesOff_7 (ai_isub d_X_goesOff_10 ?_))))))
  refine ai_name hf (wr32_in _) (fun x1 h_x1 hf => ?_)
  refine aw_istore_n (lv2 := [.ref o0, .int (iv x1), uu, uu, uu, uu, uu]) rfl (Nat.le_of_ble_eq_true rfl) rfl d_X_goesOff_11 ?_
  refine aw_aload_n rfl rfl d_X_goesOff_12 (aw_getr (r := o0 + 1) fl_X_7 h_o0 (by decide) rfl (rm_9_0 _ h_o0).1 d_X_goesOff_13 (aw_bipush (v := iv 71) cb_71 d_X_goesOff_16 (aw_dup2 rfl rfl d_X_goesOff_18 (ai_ialdc (j := 71) (rm_9_0 _ h_o0).2 (by decide) (by decide) d_X_goesOff_19 (aw_aload_n rfl rfl d_X_goesOff_20 (ai_geti fl_X_289 h_o0 (by decide) rfl d_X_goesOff_21 (ai_iadd d_X_goesOff_24 ?_)))))))
  refine ai_iastc (j := 71) (rm_9_0 _ h_o0).2 (by decide) (by decide) (wr32_in _) hI hf d_X_goesOff_25 (fun I2 h_I2 hf => ?_)
  refine aw_aload_n rfl rfl d_X_goesOff_26 (aw_getr (r := o0 + 1) fl_X_7 h_o0 (by decide) rfl (rm_9_0 _ h_o0).1 d_X_goesOff_27 (aw_bipush (v := iv 72) cb_72 d_X_goesOff_30 (aw_dup2 rfl rfl d_X_goesOff_32 (ai_ialdc (j := 72) (rm_9_0 _ h_o0).2 (by decide) (by decide) d_X_goesOff_33 (aw_iload_n rfl rfl d_X_goesOff_34 (ai_iadd d_X_goesOff_35 ?_))))))
  refine ai_iastc (j := 72) (rm_9_0 _ h_o0).2 (by decide) (by decide) (wr32_in _) h_I2 hf d_X_goesOff_36 (fun I3 h_I3 hf => ?_)
  refine aw_aload_n rfl rfl d_X_goesOff_37 (aw_getr (r := o0 + 1) fl_X_7 h_o0 (by decide) rfl (rm_9_0 _ h_o0).1 d_X_goesOff_38 (aw_bipush (v := iv 110) cb_110 d_X_goesOff_41 (aw_aload_n rfl rfl d_X_goesOff_43 (ai_geti fl_X_291 h_o0 (by decide) rfl d_X_goesOff_44 ?_))))
  refine ai_iastc (j := 110) (rm_9_0 _ h_o0).2 (by decide) (by decide) (h_I3 o0 31) h_I3 hf d_X_goesOff_47 (fun I4 h_I4 hf => ?_)
  refine aw_aload_n rfl rfl d_X_goesOff_48 (aw_getr (r := o0 + 1) fl_X_7 h_o0 (by decide) rfl (rm_9_0 _ h_o0).1 d_X_goesOff_49 (aw_bipush (v := iv 111) cb_111 d_X_goesOff_52 (aw_aload_n rfl rfl d_X_goesOff_54 (ai_geti fl_X_289 h_o0 (by decide) rfl d_X_goesOff_55 ?_))))
  refine ai_iastc (j := 111) (rm_9_0 _ h_o0).2 (by decide) (by decide) (h_I4 o0 30) h_I4 hf d_X_goesOff_58 (fun I5 h_I5 hf => ?_)
  refine aw_iconst (v := iv 0) rfl d_X_goesOff_59 (aw_istore_n (lv2 := [.ref o0, .int (iv x1), .int (iv 0), uu, uu, uu, uu]) rfl (Nat.le_of_ble_eq_true rfl) rfl d_X_goesOff_60 ?_)
  refine t_X_goesOff_61 fu _ o0 x1 h_o0 h_x1 ?_ fu 0 I5 in_0 h_I5 hf
  · intro I30 h_I30 hf
    refine aw_iconst (v := iv 0) rfl d_X_goesOff_203 (aw_istore_n (lv2 := [.ref o0, .int (iv x1), .int (iv 0), uu, uu, uu, uu]) rfl (Nat.le_of_ble_eq_true rfl) rfl d_X_goesOff_204 ?_)
    refine t_X_goesOff_205 fu _ o0 x1 h_o0 h_x1 ?_ fu 0 I30 in_0 h_I30 hf
    · intro I37 h_I37 hf
      refine aw_iconst (v := iv 0) rfl d_X_goesOff_264 (aw_istore_n (lv2 := [.ref o0, .int (iv x1), .int (iv 0), uu, uu, uu, uu]) rfl (Nat.le_of_ble_eq_true rfl) rfl d_X_goesOff_265 ?_)
      refine t_X_goesOff_266 fu _ o0 x1 h_o0 h_x1 ?_ fu 0 I37 in_0 h_I37 hf
      · intro I42 h_I42 hf
        refine aw_iconst (v := iv 0) rfl d_X_goesOff_283 (aw_istore_n (lv2 := [.ref o0, .int (iv x1), .int (iv 0), uu, uu, uu, uu]) rfl (Nat.le_of_ble_eq_true rfl) rfl d_X_goesOff_284 ?_)
        refine t_X_goesOff_285 fu _ o0 x1 h_o0 h_x1 ?_ fu 0 I42 in_0 h_I42 hf
        · intro I53 h_I53 hf
          refine aw_aload_n rfl rfl d_X_goesOff_369 (aw_getr (r := o0 + 1) fl_X_7 h_o0 (by decide) rfl (rm_9_0 _ h_o0).1 d_X_goesOff_370 (aw_bipush (v := iv 70) cb_70 d_X_goesOff_373 (aw_dup2 rfl rfl d_X_goesOff_375 (ai_ialdc (j := 70) (rm_9_0 _ h_o0).2 (by decide) (by decide) d_X_goesOff_376 (aw_iconst (v := iv 1) rfl d_X_goesOff_377 (ai_iadd d_X_goesOff_378 ?_))))))
          refine ai_iastc (j := 70) (rm_9_0 _ h_o0).2 (by decide) (by decide) (wr32_in _) h_I53 hf d_X_goesOff_379 (fun I54 h_I54 hf => ?_)
          refine aw_aload_n rfl rfl d_X_goesOff_380 (aw_getr (r := o0 + 1) fl_X_7 h_o0 (by decide) rfl (rm_9_0 _ h_o0).1 d_X_goesOff_381 (aw_bipush (v := iv 73) cb_73 d_X_goesOff_384 (aw_dup2 rfl rfl d_X_goesOff_386 (ai_ialdc (j := 73) (rm_9_0 _ h_o0).2 (by decide) (by decide) d_X_goesOff_387 (aw_aload_n rfl rfl d_X_goesOff_388 (aw_getr (r := o0 + 1) fl_X_7 h_o0 (by decide) rfl (rm_9_0 _ h_o0).1 d_X_goesOff_389 (aw_iconst (v := iv 2) rfl d_X_goesOff_392 (ai_ialdc (j := 2) (rm_9_0 _ h_o0).2 (by decide) (by decide) d_X_goesOff_393 (ai_iadd d_X_goesOff_394 ?_)))))))))
          refine ai_iastc (j := 73) (rm_9_0 _ h_o0).2 (by decide) (by decide) (wr32_in _) h_I54 hf d_X_goesOff_395 (fun I55 h_I55 hf => ?_)
          refine aw_aload_n rfl rfl d_X_goesOff_396 (aw_getr (r := o0 + 1) fl_X_7 h_o0 (by decide) rfl (rm_9_0 _ h_o0).1 d_X_goesOff_397 (aw_iconst (v := iv 4) rfl d_X_goesOff_400 (ai_ialdc (j := 4) (rm_9_0 _ h_o0).2 (by decide) (by decide) d_X_goesOff_401 ?_)))
          obtain ⟨k56, ek56, hf⟩ := of_zj hf
          have hk56 : ∀  (I57 : IMem), RG I57 → k56 I57 = some r → Ai l b 4 y_X_goesOff KM RM (Ps r) I57 448 [.ref o0, .int (iv x1), uu, uu, uu, uu, uu] [] := by
            intro I57 h_I57 hf
            subst ek56
            refine aw_sipush (v := iv 6010) cs_6010 d_X_goesOff_448 (aw_iconst (v := iv 3) rfl d_X_goesOff_451 (aw_aload_n rfl rfl d_X_goesOff_452 (aw_getr (r := o0 + 1) fl_X_7 h_o0 (by decide) rfl (rm_9_0 _ h_o0).1 d_X_goesOff_453 (aw_bipush (v := iv 70) cb_70 d_X_goesOff_456 (ai_ialdc (j := 70) (rm_9_0 _ h_o0).2 (by decide) (by decide) d_X_goesOff_458 (aw_iconst (v := iv 1) rfl d_X_goesOff_459 (ai_isub d_X_goesOff_460 (aw_bipush (v := iv 60) cb_60 d_X_goesOff_461 (ai_iremc in_60 (by decide) d_X_goesOff_463 (ai_imul d_X_goesOff_464 (ai_iadd d_X_goesOff_465 ?_)))))))))))
            refine ai_name hf (wr32_in _) (fun x58 h_x58 hf => ?_)
            refine aw_istore_n (lv2 := [.ref o0, .int (iv x1), .int (iv x58), uu, uu, uu, uu]) rfl (Nat.le_of_ble_eq_true rfl) rfl d_X_goesOff_466 ?_
            refine aw_aload_n rfl rfl d_X_goesOff_467 (aw_getr (r := o0 + 1) fl_X_7 h_o0 (by decide) rfl (rm_9_0 _ h_o0).1 d_X_goesOff_468 (aw_iload_n rfl rfl d_X_goesOff_471 (aw_aload_n rfl rfl d_X_goesOff_472 (ai_geti fl_X_289 h_o0 (by decide) rfl d_X_goesOff_473 ?_))))
            refine ai_iast (rm_9_0 _ h_o0).2 rfl h_x58 (h_I57 o0 30) h_I57 hf d_X_goesOff_476 (fun _ I59 h_I59 hf => ?_)
            refine aw_aload_n rfl rfl d_X_goesOff_477 (aw_getr (r := o0 + 1) fl_X_7 h_o0 (by decide) rfl (rm_9_0 _ h_o0).1 d_X_goesOff_478 (aw_iload_n rfl rfl d_X_goesOff_481 (aw_iconst (v := iv 1) rfl d_X_goesOff_482 (ai_iadd d_X_goesOff_483 (aw_aload_n rfl rfl d_X_goesOff_484 (ai_geti fl_X_291 h_o0 (by decide) rfl d_X_goesOff_485 ?_))))))
            refine ai_nameU hf (wr32_in _) (fun x61 h_x61 hf => ?_)
            refine ai_iast (rm_9_0 _ h_o0).2 rfl h_x61 (h_I59 o0 31) h_I59 hf d_X_goesOff_488 (fun _ I60 h_I60 hf => ?_)
            refine aw_aload_n rfl rfl d_X_goesOff_489 (aw_getr (r := o0 + 1) fl_X_7 h_o0 (by decide) rfl (rm_9_0 _ h_o0).1 d_X_goesOff_490 (aw_iload_n rfl rfl d_X_goesOff_493 (aw_iconst (v := iv 2) rfl d_X_goesOff_494 (ai_iadd d_X_goesOff_495 (aw_aload_n rfl rfl d_X_goesOff_496 (aw_getr (r := o0 + 1) fl_X_7 h_o0 (by decide) rfl (rm_9_0 _ h_o0).1 d_X_goesOff_497 (aw_bipush (v := iv 73) cb_73 d_X_goesOff_500 (ai_ialdc (j := 73) (rm_9_0 _ h_o0).2 (by decide) (by decide) d_X_goesOff_502 ?_))))))))
            refine ai_nameU hf (wr32_in _) (fun x63 h_x63 hf => ?_)
            refine ai_iast (rm_9_0 _ h_o0).2 rfl h_x63 (h_I60 (o0 + 1) 73) h_I60 hf d_X_goesOff_503 (fun _ I62 h_I62 hf => ?_)
            refine aw_aload_n rfl rfl d_X_goesOff_504 ?_
            obtain ⟨y64, I65, c66, hf⟩ := of_zb hf
            refine ai_callVv (as := []) (d' := 1) (q := ("SinglesUpModel", zT9, 51)) mo_X_forgets lk_X_102 h_o0 rfl rfl rfl ⟨by decide, by decide⟩ rfl rfl (by decide) d_X_goesOff_505 (t_X_forgets fu o0 I62 h_I62 h_o0 c66) (fun h_I65 => ?_)
            refine aw_iload_n rfl rfl d_X_goesOff_508 ?_
            exact ai_reti rfl d_X_goesOff_509 hf h_x1 h_I65
          refine ai_if_le (h_I55 (o0 + 1) 4) hf (tgt := 448) (by decide) d_X_goesOff_402 (fun hf => ?_) (fun hf => ?_)
          · exact hk56 I55 h_I55 hf
          · refine aw_aload_n rfl rfl d_X_goesOff_405 (aw_sipush (v := iv 1000) cs_1000 d_X_goesOff_406 ?_)
            obtain ⟨y67, I68, c69, hf⟩ := of_zb hf
            refine ai_callV (as := [.int (iv 1000)]) (d' := 1) (q := ("SinglesUpModel", zT9, 51)) mo_X_draw lk_X_329 h_o0 rfl rfl rfl ⟨by decide, by decide⟩ rfl rfl (by decide) d_X_goesOff_409 (t_X_draw fu o0 1000 I55 h_I55 h_o0 in_1000 c69) (fun h_y67 h_I68 => ?_)
            refine aw_aload_n rfl rfl d_X_goesOff_412 (aw_getr (r := o0 + 1) fl_X_7 h_o0 (by decide) rfl (rm_9_0 _ h_o0).1 d_X_goesOff_413 (aw_iconst (v := iv 4) rfl d_X_goesOff_416 (ai_ialdc (j := 4) (rm_9_0 _ h_o0).2 (by decide) (by decide) d_X_goesOff_417 ?_)))
            refine ai_icmp_ge h_y67 (h_I68 (o0 + 1) 4) hf (tgt := 448) (by decide) d_X_goesOff_418 (fun hf => ?_) (fun hf => ?_)
            · exact hk56 I68 h_I68 hf
            · refine aw_aload_n rfl rfl d_X_goesOff_421 (aw_getr (r := o0 + 1) fl_X_7 h_o0 (by decide) rfl (rm_9_0 _ h_o0).1 d_X_goesOff_422 (aw_bipush (v := iv 73) cb_73 d_X_goesOff_425 (aw_dup2 rfl rfl d_X_goesOff_427 (ai_ialdc (j := 73) (rm_9_0 _ h_o0).2 (by decide) (by decide) d_X_goesOff_428 (aw_aload_n rfl rfl d_X_goesOff_429 (aw_getr (r := o0 + 1) fl_X_7 h_o0 (by decide) rfl (rm_9_0 _ h_o0).1 d_X_goesOff_430 (aw_iconst (v := iv 3) rfl d_X_goesOff_433 (ai_ialdc (j := 3) (rm_9_0 _ h_o0).2 (by decide) (by decide) d_X_goesOff_434 (ai_iadd d_X_goesOff_435 ?_)))))))))
              refine ai_iastc (j := 73) (rm_9_0 _ h_o0).2 (by decide) (by decide) (wr32_in _) h_I68 hf d_X_goesOff_436 (fun I70 h_I70 hf => ?_)
              refine aw_aload_n rfl rfl d_X_goesOff_437 (aw_getr (r := o0 + 1) fl_X_7 h_o0 (by decide) rfl (rm_9_0 _ h_o0).1 d_X_goesOff_438 (aw_bipush (v := iv 74) cb_74 d_X_goesOff_441 (aw_dup2 rfl rfl d_X_goesOff_443 (ai_ialdc (j := 74) (rm_9_0 _ h_o0).2 (by decide) (by decide) d_X_goesOff_444 (aw_iconst (v := iv 1) rfl d_X_goesOff_445 (ai_iadd d_X_goesOff_446 ?_))))))
              refine ai_iastc (j := 74) (rm_9_0 _ h_o0).2 (by decide) (by decide) (wr32_in _) h_I70 hf d_X_goesOff_447 (fun I71 h_I71 hf => ?_)
              exact hk56 I71 h_I71 hf
end
