/-! the reference: shallow functions and the machine -/
abbrev y_X_best : MI := (⟨"SinglesUpModel", "best", "(I)I"⟩, prog_11_method_71_code, 7, some .int)
theorem ck_X_best_0 : (y_X_best.2.1.data.toList.drop 0).take 32 = [42, 182, 1, 106, 42, 180, 0, 7, 4, 46, 61, 3, 62, 3, 54, 4, 27, 154, 0, 15, 42, 180, 0, 69, 3, 28, 3, 184, 1, 97, 46, 172] := by decide +kernel
theorem d_X_best_0 : decode y_X_best.2.1 0 = .ok (.aload_n 0, 1) := op_aload_n0 (gk (k := 0) (t := 0) ck_X_best_0 rfl)
theorem lk_X_362 : LkV "SinglesUpModel" 362 y_X_reckons := ⟨tw_c7 44 (by decide +kernel) rfl, tw_in 77 (by decide +kernel) rfl, Or.inl (tw_c7 42 (by decide +kernel) rfl)⟩
set_option maxRecDepth 100000 in
theorem mo_X_reckons : MOk y_X_reckons 0 := ⟨by decide +kernel, tw_c7 45 rfl rfl, tw_c1 12 (by decide +kernel) rfl, by decide +kernel, by decide +kernel, by decide +kernel⟩
theorem d_X_best_1 : decode y_X_best.2.1 1 = .ok (.invokevirtual 362, 3) := op_invokevirtual (gk (k := 0) (t := 1) ck_X_best_0 rfl) (gk (k := 0) (t := 2) ck_X_best_0 rfl) (gk (k := 0) (t := 3) ck_X_best_0 rfl) rfl
theorem d_X_best_4 : decode y_X_best.2.1 4 = .ok (.aload_n 0, 1) := op_aload_n0 (gk (k := 0) (t := 4) ck_X_best_0 rfl)
theorem d_X_best_5 : decode y_X_best.2.1 5 = .ok (.getfield 7, 3) := op_getfield (gk (k := 0) (t := 5) ck_X_best_0 rfl) (gk (k := 0) (t := 6) ck_X_best_0 rfl) (gk (k := 0) (t := 7) ck_X_best_0 rfl) rfl
theorem d_X_best_8 : decode y_X_best.2.1 8 = .ok (.iconst 1, 1) := op_iconst1 (gk (k := 0) (t := 8) ck_X_best_0 rfl)
theorem d_X_best_9 : decode y_X_best.2.1 9 = .ok (.iaload, 1) := op_iaload (gk (k := 0) (t := 9) ck_X_best_0 rfl)
theorem d_X_best_10 : decode y_X_best.2.1 10 = .ok (.istore_n 2, 1) := op_istore_n2 (gk (k := 0) (t := 10) ck_X_best_0 rfl)
theorem d_X_best_11 : decode y_X_best.2.1 11 = .ok (.iconst 0, 1) := op_iconst0 (gk (k := 0) (t := 11) ck_X_best_0 rfl)
theorem d_X_best_12 : decode y_X_best.2.1 12 = .ok (.istore_n 3, 1) := op_istore_n3 (gk (k := 0) (t := 12) ck_X_best_0 rfl)
theorem d_X_best_13 : decode y_X_best.2.1 13 = .ok (.iconst 0, 1) := op_iconst0 (gk (k := 0) (t := 13) ck_X_best_0 rfl)
theorem d_X_best_14 : decode y_X_best.2.1 14 = .ok (.istore 4, 2) := op_istore (gk (k := 0) (t := 14) ck_X_best_0 rfl) (gk (k := 0) (t := 15) ck_X_best_0 rfl) rfl
theorem d_X_best_16 : decode y_X_best.2.1 16 = .ok (.iload_n 1, 1) := op_iload_n1 (gk (k := 0) (t := 16) ck_X_best_0 rfl)
theorem d_X_best_17 : decode y_X_best.2.1 17 = .ok (.ifCond .ne 15, 3) := op_if_ne (gk (k := 0) (t := 17) ck_X_best_0 rfl) (gk (k := 0) (t := 18) ck_X_best_0 rfl) (gk (k := 0) (t := 19) ck_X_best_0 rfl) (by decide +kernel)
theorem ck_X_best_1 : (y_X_best.2.1.data.toList.drop 32).take 32 = [3, 54, 5, 21, 5, 42, 180, 1, 91, 162, 0, 118, 42, 21, 5, 28, 29, 182, 1, 103, 54, 6, 21, 6, 155, 0, 97, 21, 6, 42, 180, 0] := by decide +kernel
theorem d_X_best_32 : decode y_X_best.2.1 32 = .ok (.iconst 0, 1) := op_iconst0 (gk (k := 32) (t := 0) ck_X_best_1 rfl)
theorem d_X_best_33 : decode y_X_best.2.1 33 = .ok (.istore 5, 2) := op_istore (gk (k := 32) (t := 1) ck_X_best_1 rfl) (gk (k := 32) (t := 2) ck_X_best_1 rfl) rfl
theorem d_X_best_35 : decode y_X_best.2.1 35 = .ok (.iload 5, 2) := op_iload (gk (k := 32) (t := 3) ck_X_best_1 rfl) (gk (k := 32) (t := 4) ck_X_best_1 rfl) rfl
theorem d_X_best_37 : decode y_X_best.2.1 37 = .ok (.aload_n 0, 1) := op_aload_n0 (gk (k := 32) (t := 5) ck_X_best_1 rfl)
theorem d_X_best_38 : decode y_X_best.2.1 38 = .ok (.getfield 347, 3) := op_getfield (gk (k := 32) (t := 6) ck_X_best_1 rfl) (gk (k := 32) (t := 7) ck_X_best_1 rfl) (gk (k := 32) (t := 8) ck_X_best_1 rfl) rfl
theorem d_X_best_41 : decode y_X_best.2.1 41 = .ok (.if_icmp .ge 118, 3) := op_icmp_ge (gk (k := 32) (t := 9) ck_X_best_1 rfl) (gk (k := 32) (t := 10) ck_X_best_1 rfl) (gk (k := 32) (t := 11) ck_X_best_1 rfl) (by decide +kernel)
theorem d_X_best_44 : decode y_X_best.2.1 44 = .ok (.aload_n 0, 1) := op_aload_n0 (gk (k := 32) (t := 12) ck_X_best_1 rfl)
theorem d_X_best_45 : decode y_X_best.2.1 45 = .ok (.iload 5, 2) := op_iload (gk (k := 32) (t := 13) ck_X_best_1 rfl) (gk (k := 32) (t := 14) ck_X_best_1 rfl) rfl
theorem d_X_best_47 : decode y_X_best.2.1 47 = .ok (.iload_n 2, 1) := op_iload_n2 (gk (k := 32) (t := 15) ck_X_best_1 rfl)
theorem d_X_best_48 : decode y_X_best.2.1 48 = .ok (.iload_n 3, 1) := op_iload_n3 (gk (k := 32) (t := 16) ck_X_best_1 rfl)
theorem d_X_best_49 : decode y_X_best.2.1 49 = .ok (.invokevirtual 359, 3) := op_invokevirtual (gk (k := 32) (t := 17) ck_X_best_1 rfl) (gk (k := 32) (t := 18) ck_X_best_1 rfl) (gk (k := 32) (t := 19) ck_X_best_1 rfl) rfl
theorem d_X_best_52 : decode y_X_best.2.1 52 = .ok (.istore 6, 2) := op_istore (gk (k := 32) (t := 20) ck_X_best_1 rfl) (gk (k := 32) (t := 21) ck_X_best_1 rfl) rfl
theorem d_X_best_54 : decode y_X_best.2.1 54 = .ok (.iload 6, 2) := op_iload (gk (k := 32) (t := 22) ck_X_best_1 rfl) (gk (k := 32) (t := 23) ck_X_best_1 rfl) rfl
theorem ck_X_best_4 : (y_X_best.2.1.data.toList.drop 128).take 32 = [62, 28, 42, 180, 0, 7, 17, 0, 140, 16, 6, 42, 180, 0, 66, 21, 5, 46, 104, 96, 4, 96, 46, 100, 61, 132, 5, 1, 167, 255, 135, 27] := by decide +kernel
theorem d_X_best_153 : decode y_X_best.2.1 153 = .ok (.iinc 5 1, 3) := op_iinc (gk (k := 128) (t := 25) ck_X_best_4 rfl) (gk (k := 128) (t := 26) ck_X_best_4 rfl) (gk (k := 128) (t := 27) ck_X_best_4 rfl) rfl rfl
theorem d_X_best_156 : decode y_X_best.2.1 156 = .ok (.goto (-121), 3) := op_goto (gk (k := 128) (t := 28) ck_X_best_4 rfl) (gk (k := 128) (t := 29) ck_X_best_4 rfl) (gk (k := 128) (t := 30) ck_X_best_4 rfl) (by decide +kernel)
theorem d_X_best_56 : decode y_X_best.2.1 56 = .ok (.ifCond .lt 97, 3) := op_if_lt (gk (k := 32) (t := 24) ck_X_best_1 rfl) (gk (k := 32) (t := 25) ck_X_best_1 rfl) (gk (k := 32) (t := 26) ck_X_best_1 rfl) (by decide +kernel)
theorem d_X_best_59 : decode y_X_best.2.1 59 = .ok (.iload 6, 2) := op_iload (gk (k := 32) (t := 27) ck_X_best_1 rfl) (gk (k := 32) (t := 28) ck_X_best_1 rfl) rfl
theorem d_X_best_61 : decode y_X_best.2.1 61 = .ok (.aload_n 0, 1) := op_aload_n0 (gk (k := 32) (t := 29) ck_X_best_1 rfl)
theorem ck_X_best_2 : (y_X_best.2.1.data.toList.drop 64).take 32 = [69, 21, 5, 28, 29, 184, 1, 97, 46, 162, 0, 6, 167, 0, 77, 27, 16, 10, 21, 4, 96, 160, 0, 28, 16, 100, 42, 180, 0, 66, 21, 5] := by decide +kernel
theorem d_X_best_62 : decode y_X_best.2.1 62 = .ok (.getfield 69, 3) := op_getfield (gk (k := 32) (t := 30) ck_X_best_1 rfl) (gk (k := 32) (t := 31) ck_X_best_1 rfl) (gk (k := 64) (t := 0) ck_X_best_2 rfl) rfl
theorem d_X_best_65 : decode y_X_best.2.1 65 = .ok (.iload 5, 2) := op_iload (gk (k := 64) (t := 1) ck_X_best_2 rfl) (gk (k := 64) (t := 2) ck_X_best_2 rfl) rfl
theorem d_X_best_67 : decode y_X_best.2.1 67 = .ok (.iload_n 2, 1) := op_iload_n2 (gk (k := 64) (t := 3) ck_X_best_2 rfl)
theorem d_X_best_68 : decode y_X_best.2.1 68 = .ok (.iload_n 3, 1) := op_iload_n3 (gk (k := 64) (t := 4) ck_X_best_2 rfl)
theorem d_X_best_69 : decode y_X_best.2.1 69 = .ok (.invokestatic 353, 3) := op_invokestatic (gk (k := 64) (t := 5) ck_X_best_2 rfl) (gk (k := 64) (t := 6) ck_X_best_2 rfl) (gk (k := 64) (t := 7) ck_X_best_2 rfl) rfl
theorem d_X_best_72 : decode y_X_best.2.1 72 = .ok (.iaload, 1) := op_iaload (gk (k := 64) (t := 8) ck_X_best_2 rfl)
theorem d_X_best_73 : decode y_X_best.2.1 73 = .ok (.if_icmp .ge 6, 3) := op_icmp_ge (gk (k := 64) (t := 9) ck_X_best_2 rfl) (gk (k := 64) (t := 10) ck_X_best_2 rfl) (gk (k := 64) (t := 11) ck_X_best_2 rfl) (by decide +kernel)
theorem d_X_best_79 : decode y_X_best.2.1 79 = .ok (.iload_n 1, 1) := op_iload_n1 (gk (k := 64) (t := 15) ck_X_best_2 rfl)
theorem d_X_best_80 : decode y_X_best.2.1 80 = .ok (.bipush 10, 2) := op_bipush (gk (k := 64) (t := 16) ck_X_best_2 rfl) (gk (k := 64) (t := 17) ck_X_best_2 rfl) rfl
theorem d_X_best_82 : decode y_X_best.2.1 82 = .ok (.iload 4, 2) := op_iload (gk (k := 64) (t := 18) ck_X_best_2 rfl) (gk (k := 64) (t := 19) ck_X_best_2 rfl) rfl
theorem d_X_best_84 : decode y_X_best.2.1 84 = .ok (.iadd, 1) := op_iadd (gk (k := 64) (t := 20) ck_X_best_2 rfl)
theorem d_X_best_85 : decode y_X_best.2.1 85 = .ok (.if_icmp .ne 28, 3) := op_icmp_ne (gk (k := 64) (t := 21) ck_X_best_2 rfl) (gk (k := 64) (t := 22) ck_X_best_2 rfl) (gk (k := 64) (t := 23) ck_X_best_2 rfl) (by decide +kernel)
theorem ck_X_best_3 : (y_X_best.2.1.data.toList.drop 96).take 32 = [46, 16, 40, 108, 104, 42, 180, 0, 66, 21, 5, 46, 16, 40, 112, 96, 172, 132, 4, 1, 42, 29, 42, 180, 0, 66, 21, 5, 46, 182, 1, 94] := by decide +kernel
theorem d_X_best_113 : decode y_X_best.2.1 113 = .ok (.iinc 4 1, 3) := op_iinc (gk (k := 96) (t := 17) ck_X_best_3 rfl) (gk (k := 96) (t := 18) ck_X_best_3 rfl) (gk (k := 96) (t := 19) ck_X_best_3 rfl) rfl rfl
theorem d_X_best_116 : decode y_X_best.2.1 116 = .ok (.aload_n 0, 1) := op_aload_n0 (gk (k := 96) (t := 20) ck_X_best_3 rfl)
theorem d_X_best_117 : decode y_X_best.2.1 117 = .ok (.iload_n 3, 1) := op_iload_n3 (gk (k := 96) (t := 21) ck_X_best_3 rfl)
theorem d_X_best_118 : decode y_X_best.2.1 118 = .ok (.aload_n 0, 1) := op_aload_n0 (gk (k := 96) (t := 22) ck_X_best_3 rfl)
theorem d_X_best_119 : decode y_X_best.2.1 119 = .ok (.getfield 66, 3) := op_getfield (gk (k := 96) (t := 23) ck_X_best_3 rfl) (gk (k := 96) (t := 24) ck_X_best_3 rfl) (gk (k := 96) (t := 25) ck_X_best_3 rfl) rfl
theorem d_X_best_122 : decode y_X_best.2.1 122 = .ok (.iload 5, 2) := op_iload (gk (k := 96) (t := 26) ck_X_best_3 rfl) (gk (k := 96) (t := 27) ck_X_best_3 rfl) rfl
theorem d_X_best_124 : decode y_X_best.2.1 124 = .ok (.iaload, 1) := op_iaload (gk (k := 96) (t := 28) ck_X_best_3 rfl)
theorem d_X_best_125 : decode y_X_best.2.1 125 = .ok (.invokevirtual 350, 3) := op_invokevirtual (gk (k := 96) (t := 29) ck_X_best_3 rfl) (gk (k := 96) (t := 30) ck_X_best_3 rfl) (gk (k := 96) (t := 31) ck_X_best_3 rfl) rfl
theorem d_X_best_128 : decode y_X_best.2.1 128 = .ok (.istore_n 3, 1) := op_istore_n3 (gk (k := 128) (t := 0) ck_X_best_4 rfl)
theorem d_X_best_129 : decode y_X_best.2.1 129 = .ok (.iload_n 2, 1) := op_iload_n2 (gk (k := 128) (t := 1) ck_X_best_4 rfl)
theorem d_X_best_130 : decode y_X_best.2.1 130 = .ok (.aload_n 0, 1) := op_aload_n0 (gk (k := 128) (t := 2) ck_X_best_4 rfl)
theorem d_X_best_131 : decode y_X_best.2.1 131 = .ok (.getfield 7, 3) := op_getfield (gk (k := 128) (t := 3) ck_X_best_4 rfl) (gk (k := 128) (t := 4) ck_X_best_4 rfl) (gk (k := 128) (t := 5) ck_X_best_4 rfl) rfl
theorem d_X_best_134 : decode y_X_best.2.1 134 = .ok (.sipush 140, 3) := op_sipush (gk (k := 128) (t := 6) ck_X_best_4 rfl) (gk (k := 128) (t := 7) ck_X_best_4 rfl) (gk (k := 128) (t := 8) ck_X_best_4 rfl) (by decide +kernel)
theorem d_X_best_137 : decode y_X_best.2.1 137 = .ok (.bipush 6, 2) := op_bipush (gk (k := 128) (t := 9) ck_X_best_4 rfl) (gk (k := 128) (t := 10) ck_X_best_4 rfl) rfl
theorem d_X_best_139 : decode y_X_best.2.1 139 = .ok (.aload_n 0, 1) := op_aload_n0 (gk (k := 128) (t := 11) ck_X_best_4 rfl)
theorem d_X_best_140 : decode y_X_best.2.1 140 = .ok (.getfield 66, 3) := op_getfield (gk (k := 128) (t := 12) ck_X_best_4 rfl) (gk (k := 128) (t := 13) ck_X_best_4 rfl) (gk (k := 128) (t := 14) ck_X_best_4 rfl) rfl
theorem d_X_best_143 : decode y_X_best.2.1 143 = .ok (.iload 5, 2) := op_iload (gk (k := 128) (t := 15) ck_X_best_4 rfl) (gk (k := 128) (t := 16) ck_X_best_4 rfl) rfl
theorem d_X_best_145 : decode y_X_best.2.1 145 = .ok (.iaload, 1) := op_iaload (gk (k := 128) (t := 17) ck_X_best_4 rfl)
theorem d_X_best_146 : decode y_X_best.2.1 146 = .ok (.imul, 1) := op_imul (gk (k := 128) (t := 18) ck_X_best_4 rfl)
theorem d_X_best_147 : decode y_X_best.2.1 147 = .ok (.iadd, 1) := op_iadd (gk (k := 128) (t := 19) ck_X_best_4 rfl)
theorem d_X_best_148 : decode y_X_best.2.1 148 = .ok (.iconst 1, 1) := op_iconst1 (gk (k := 128) (t := 20) ck_X_best_4 rfl)
theorem d_X_best_149 : decode y_X_best.2.1 149 = .ok (.iadd, 1) := op_iadd (gk (k := 128) (t := 21) ck_X_best_4 rfl)
theorem d_X_best_150 : decode y_X_best.2.1 150 = .ok (.iaload, 1) := op_iaload (gk (k := 128) (t := 22) ck_X_best_4 rfl)
theorem d_X_best_151 : decode y_X_best.2.1 151 = .ok (.isub, 1) := op_isub (gk (k := 128) (t := 23) ck_X_best_4 rfl)
theorem d_X_best_152 : decode y_X_best.2.1 152 = .ok (.istore_n 2, 1) := op_istore_n2 (gk (k := 128) (t := 24) ck_X_best_4 rfl)
theorem d_X_best_76 : decode y_X_best.2.1 76 = .ok (.goto 77, 3) := op_goto (gk (k := 64) (t := 12) ck_X_best_2 rfl) (gk (k := 64) (t := 13) ck_X_best_2 rfl) (gk (k := 64) (t := 14) ck_X_best_2 rfl) (by decide +kernel)
theorem d_X_best_88 : decode y_X_best.2.1 88 = .ok (.bipush 100, 2) := op_bipush (gk (k := 64) (t := 24) ck_X_best_2 rfl) (gk (k := 64) (t := 25) ck_X_best_2 rfl) rfl
theorem d_X_best_90 : decode y_X_best.2.1 90 = .ok (.aload_n 0, 1) := op_aload_n0 (gk (k := 64) (t := 26) ck_X_best_2 rfl)
theorem d_X_best_91 : decode y_X_best.2.1 91 = .ok (.getfield 66, 3) := op_getfield (gk (k := 64) (t := 27) ck_X_best_2 rfl) (gk (k := 64) (t := 28) ck_X_best_2 rfl) (gk (k := 64) (t := 29) ck_X_best_2 rfl) rfl
theorem d_X_best_94 : decode y_X_best.2.1 94 = .ok (.iload 5, 2) := op_iload (gk (k := 64) (t := 30) ck_X_best_2 rfl) (gk (k := 64) (t := 31) ck_X_best_2 rfl) rfl
theorem d_X_best_96 : decode y_X_best.2.1 96 = .ok (.iaload, 1) := op_iaload (gk (k := 96) (t := 0) ck_X_best_3 rfl)
theorem d_X_best_97 : decode y_X_best.2.1 97 = .ok (.bipush 40, 2) := op_bipush (gk (k := 96) (t := 1) ck_X_best_3 rfl) (gk (k := 96) (t := 2) ck_X_best_3 rfl) rfl
theorem d_X_best_99 : decode y_X_best.2.1 99 = .ok (.idiv, 1) := op_idiv (gk (k := 96) (t := 3) ck_X_best_3 rfl)
theorem d_X_best_100 : decode y_X_best.2.1 100 = .ok (.imul, 1) := op_imul (gk (k := 96) (t := 4) ck_X_best_3 rfl)
theorem d_X_best_101 : decode y_X_best.2.1 101 = .ok (.aload_n 0, 1) := op_aload_n0 (gk (k := 96) (t := 5) ck_X_best_3 rfl)
theorem d_X_best_102 : decode y_X_best.2.1 102 = .ok (.getfield 66, 3) := op_getfield (gk (k := 96) (t := 6) ck_X_best_3 rfl) (gk (k := 96) (t := 7) ck_X_best_3 rfl) (gk (k := 96) (t := 8) ck_X_best_3 rfl) rfl
theorem d_X_best_105 : decode y_X_best.2.1 105 = .ok (.iload 5, 2) := op_iload (gk (k := 96) (t := 9) ck_X_best_3 rfl) (gk (k := 96) (t := 10) ck_X_best_3 rfl) rfl
theorem d_X_best_107 : decode y_X_best.2.1 107 = .ok (.iaload, 1) := op_iaload (gk (k := 96) (t := 11) ck_X_best_3 rfl)
theorem d_X_best_108 : decode y_X_best.2.1 108 = .ok (.bipush 40, 2) := op_bipush (gk (k := 96) (t := 12) ck_X_best_3 rfl) (gk (k := 96) (t := 13) ck_X_best_3 rfl) rfl
theorem d_X_best_110 : decode y_X_best.2.1 110 = .ok (.irem, 1) := op_irem (gk (k := 96) (t := 14) ck_X_best_3 rfl)
theorem d_X_best_111 : decode y_X_best.2.1 111 = .ok (.iadd, 1) := op_iadd (gk (k := 96) (t := 15) ck_X_best_3 rfl)
theorem d_X_best_112 : decode y_X_best.2.1 112 = .ok (.ireturn, 1) := op_ireturn (gk (k := 96) (t := 16) ck_X_best_3 rfl)
theorem d_X_best_159 : decode y_X_best.2.1 159 = .ok (.iload_n 1, 1) := op_iload_n1 (gk (k := 128) (t := 31) ck_X_best_4 rfl)
theorem ck_X_best_5 : (y_X_best.2.1.data.toList.drop 160).take 32 = [4, 160, 0, 8, 21, 4, 167, 0, 4, 2, 172] := by decide +kernel
theorem d_X_best_160 : decode y_X_best.2.1 160 = .ok (.iconst 1, 1) := op_iconst1 (gk (k := 160) (t := 0) ck_X_best_5 rfl)
theorem d_X_best_161 : decode y_X_best.2.1 161 = .ok (.if_icmp .ne 8, 3) := op_icmp_ne (gk (k := 160) (t := 1) ck_X_best_5 rfl) (gk (k := 160) (t := 2) ck_X_best_5 rfl) (gk (k := 160) (t := 3) ck_X_best_5 rfl) (by decide +kernel)
theorem d_X_best_169 : decode y_X_best.2.1 169 = .ok (.iconst (-1), 1) := op_iconstm1 (gk (k := 160) (t := 9) ck_X_best_5 rfl)
theorem d_X_best_170 : decode y_X_best.2.1 170 = .ok (.ireturn, 1) := op_ireturn (gk (k := 160) (t := 10) ck_X_best_5 rfl)
theorem d_X_best_164 : decode y_X_best.2.1 164 = .ok (.iload 4, 2) := op_iload (gk (k := 160) (t := 4) ck_X_best_5 rfl) (gk (k := 160) (t := 5) ck_X_best_5 rfl) rfl
theorem d_X_best_166 : decode y_X_best.2.1 166 = .ok (.goto 4, 3) := op_goto (gk (k := 160) (t := 6) ck_X_best_5 rfl) (gk (k := 160) (t := 7) ck_X_best_5 rfl) (gk (k := 160) (t := 8) ck_X_best_5 rfl) (by decide +kernel)
theorem d_X_best_20 : decode y_X_best.2.1 20 = .ok (.aload_n 0, 1) := op_aload_n0 (gk (k := 0) (t := 20) ck_X_best_0 rfl)
theorem d_X_best_21 : decode y_X_best.2.1 21 = .ok (.getfield 69, 3) := op_getfield (gk (k := 0) (t := 21) ck_X_best_0 rfl) (gk (k := 0) (t := 22) ck_X_best_0 rfl) (gk (k := 0) (t := 23) ck_X_best_0 rfl) rfl
theorem d_X_best_24 : decode y_X_best.2.1 24 = .ok (.iconst 0, 1) := op_iconst0 (gk (k := 0) (t := 24) ck_X_best_0 rfl)
theorem d_X_best_25 : decode y_X_best.2.1 25 = .ok (.iload_n 2, 1) := op_iload_n2 (gk (k := 0) (t := 25) ck_X_best_0 rfl)
theorem d_X_best_26 : decode y_X_best.2.1 26 = .ok (.iconst 0, 1) := op_iconst0 (gk (k := 0) (t := 26) ck_X_best_0 rfl)
theorem d_X_best_27 : decode y_X_best.2.1 27 = .ok (.invokestatic 353, 3) := op_invokestatic (gk (k := 0) (t := 27) ck_X_best_0 rfl) (gk (k := 0) (t := 28) ck_X_best_0 rfl) (gk (k := 0) (t := 29) ck_X_best_0 rfl) rfl
theorem d_X_best_30 : decode y_X_best.2.1 30 = .ok (.iaload, 1) := op_iaload (gk (k := 0) (t := 30) ck_X_best_0 rfl)
theorem d_X_best_31 : decode y_X_best.2.1 31 = .ok (.ireturn, 1) := op_ireturn (gk (k := 0) (t := 31) ck_X_best_0 rfl)
abbrev y_X_look : MI := (⟨"SinglesUpModel", "look", "(I)I"⟩, prog_11_method_72_code, 4, some .int)
theorem ck_X_look_0 : (y_X_look.2.1.data.toList.drop 0).take 32 = [27, 184, 0, 105, 153, 0, 17, 42, 180, 0, 7, 16, 10, 27, 96, 46, 16, 24, 160, 0, 5, 2, 172, 42, 3, 182, 1, 109, 61, 42, 180, 0] := by decide +kernel
theorem d_X_look_0 : decode y_X_look.2.1 0 = .ok (.iload_n 1, 1) := op_iload_n1 (gk (k := 0) (t := 0) ck_X_look_0 rfl)
theorem d_X_look_1 : decode y_X_look.2.1 1 = .ok (.invokestatic 105, 3) := op_invokestatic (gk (k := 0) (t := 1) ck_X_look_0 rfl) (gk (k := 0) (t := 2) ck_X_look_0 rfl) (gk (k := 0) (t := 3) ck_X_look_0 rfl) rfl
theorem d_X_look_4 : decode y_X_look.2.1 4 = .ok (.ifCond .eq 17, 3) := op_if_eq (gk (k := 0) (t := 4) ck_X_look_0 rfl) (gk (k := 0) (t := 5) ck_X_look_0 rfl) (gk (k := 0) (t := 6) ck_X_look_0 rfl) (by decide +kernel)
theorem d_X_look_21 : decode y_X_look.2.1 21 = .ok (.iconst (-1), 1) := op_iconstm1 (gk (k := 0) (t := 21) ck_X_look_0 rfl)
theorem d_X_look_22 : decode y_X_look.2.1 22 = .ok (.ireturn, 1) := op_ireturn (gk (k := 0) (t := 22) ck_X_look_0 rfl)
theorem d_X_look_7 : decode y_X_look.2.1 7 = .ok (.aload_n 0, 1) := op_aload_n0 (gk (k := 0) (t := 7) ck_X_look_0 rfl)
theorem d_X_look_8 : decode y_X_look.2.1 8 = .ok (.getfield 7, 3) := op_getfield (gk (k := 0) (t := 8) ck_X_look_0 rfl) (gk (k := 0) (t := 9) ck_X_look_0 rfl) (gk (k := 0) (t := 10) ck_X_look_0 rfl) rfl
theorem d_X_look_11 : decode y_X_look.2.1 11 = .ok (.bipush 10, 2) := op_bipush (gk (k := 0) (t := 11) ck_X_look_0 rfl) (gk (k := 0) (t := 12) ck_X_look_0 rfl) rfl
theorem d_X_look_13 : decode y_X_look.2.1 13 = .ok (.iload_n 1, 1) := op_iload_n1 (gk (k := 0) (t := 13) ck_X_look_0 rfl)
theorem d_X_look_14 : decode y_X_look.2.1 14 = .ok (.iadd, 1) := op_iadd (gk (k := 0) (t := 14) ck_X_look_0 rfl)
theorem d_X_look_15 : decode y_X_look.2.1 15 = .ok (.iaload, 1) := op_iaload (gk (k := 0) (t := 15) ck_X_look_0 rfl)
theorem d_X_look_16 : decode y_X_look.2.1 16 = .ok (.bipush 24, 2) := op_bipush (gk (k := 0) (t := 16) ck_X_look_0 rfl) (gk (k := 0) (t := 17) ck_X_look_0 rfl) rfl
theorem d_X_look_18 : decode y_X_look.2.1 18 = .ok (.if_icmp .ne 5, 3) := op_icmp_ne (gk (k := 0) (t := 18) ck_X_look_0 rfl) (gk (k := 0) (t := 19) ck_X_look_0 rfl) (gk (k := 0) (t := 20) ck_X_look_0 rfl) (by decide +kernel)
theorem d_X_look_23 : decode y_X_look.2.1 23 = .ok (.aload_n 0, 1) := op_aload_n0 (gk (k := 0) (t := 23) ck_X_look_0 rfl)
theorem d_X_look_24 : decode y_X_look.2.1 24 = .ok (.iconst 0, 1) := op_iconst0 (gk (k := 0) (t := 24) ck_X_look_0 rfl)
theorem lk_X_365 : LkV "SinglesUpModel" 365 y_X_best := ⟨tw_c7 39 (by decide +kernel) rfl, tw_c7 40 (by decide +kernel) rfl, Or.inl (tw_c7 65 (by decide +kernel) rfl)⟩
set_option maxRecDepth 100000 in
theorem mo_X_best : MOk y_X_best 1 := ⟨by decide +kernel, tw_c7 41 rfl rfl, tw_c1 12 (by decide +kernel) rfl, by decide +kernel, by decide +kernel, by decide +kernel⟩
theorem d_X_look_25 : decode y_X_look.2.1 25 = .ok (.invokevirtual 365, 3) := op_invokevirtual (gk (k := 0) (t := 25) ck_X_look_0 rfl) (gk (k := 0) (t := 26) ck_X_look_0 rfl) (gk (k := 0) (t := 27) ck_X_look_0 rfl) rfl
theorem d_X_look_28 : decode y_X_look.2.1 28 = .ok (.istore_n 2, 1) := op_istore_n2 (gk (k := 0) (t := 28) ck_X_look_0 rfl)
theorem d_X_look_29 : decode y_X_look.2.1 29 = .ok (.aload_n 0, 1) := op_aload_n0 (gk (k := 0) (t := 29) ck_X_look_0 rfl)
theorem ck_X_look_1 : (y_X_look.2.1.data.toList.drop 32).take 32 = [7, 16, 10, 27, 96, 92, 46, 4, 96, 79, 42, 3, 182, 1, 109, 62, 42, 180, 0, 7, 16, 10, 27, 96, 92, 46, 4, 100, 79, 29, 28, 100] := by decide +kernel
theorem d_X_look_30 : decode y_X_look.2.1 30 = .ok (.getfield 7, 3) := op_getfield (gk (k := 0) (t := 30) ck_X_look_0 rfl) (gk (k := 0) (t := 31) ck_X_look_0 rfl) (gk (k := 32) (t := 0) ck_X_look_1 rfl) rfl
theorem d_X_look_33 : decode y_X_look.2.1 33 = .ok (.bipush 10, 2) := op_bipush (gk (k := 32) (t := 1) ck_X_look_1 rfl) (gk (k := 32) (t := 2) ck_X_look_1 rfl) rfl
theorem d_X_look_35 : decode y_X_look.2.1 35 = .ok (.iload_n 1, 1) := op_iload_n1 (gk (k := 32) (t := 3) ck_X_look_1 rfl)
theorem d_X_look_36 : decode y_X_look.2.1 36 = .ok (.iadd, 1) := op_iadd (gk (k := 32) (t := 4) ck_X_look_1 rfl)
theorem d_X_look_37 : decode y_X_look.2.1 37 = .ok (.dup2, 1) := op_dup2 (gk (k := 32) (t := 5) ck_X_look_1 rfl)
theorem d_X_look_38 : decode y_X_look.2.1 38 = .ok (.iaload, 1) := op_iaload (gk (k := 32) (t := 6) ck_X_look_1 rfl)
theorem d_X_look_39 : decode y_X_look.2.1 39 = .ok (.iconst 1, 1) := op_iconst1 (gk (k := 32) (t := 7) ck_X_look_1 rfl)
theorem d_X_look_40 : decode y_X_look.2.1 40 = .ok (.iadd, 1) := op_iadd (gk (k := 32) (t := 8) ck_X_look_1 rfl)
theorem d_X_look_41 : decode y_X_look.2.1 41 = .ok (.iastore, 1) := op_iastore (gk (k := 32) (t := 9) ck_X_look_1 rfl)
theorem d_X_look_42 : decode y_X_look.2.1 42 = .ok (.aload_n 0, 1) := op_aload_n0 (gk (k := 32) (t := 10) ck_X_look_1 rfl)
theorem d_X_look_43 : decode y_X_look.2.1 43 = .ok (.iconst 0, 1) := op_iconst0 (gk (k := 32) (t := 11) ck_X_look_1 rfl)
theorem d_X_look_44 : decode y_X_look.2.1 44 = .ok (.invokevirtual 365, 3) := op_invokevirtual (gk (k := 32) (t := 12) ck_X_look_1 rfl) (gk (k := 32) (t := 13) ck_X_look_1 rfl) (gk (k := 32) (t := 14) ck_X_look_1 rfl) rfl
theorem d_X_look_47 : decode y_X_look.2.1 47 = .ok (.istore_n 3, 1) := op_istore_n3 (gk (k := 32) (t := 15) ck_X_look_1 rfl)
theorem d_X_look_48 : decode y_X_look.2.1 48 = .ok (.aload_n 0, 1) := op_aload_n0 (gk (k := 32) (t := 16) ck_X_look_1 rfl)
theorem d_X_look_49 : decode y_X_look.2.1 49 = .ok (.getfield 7, 3) := op_getfield (gk (k := 32) (t := 17) ck_X_look_1 rfl) (gk (k := 32) (t := 18) ck_X_look_1 rfl) (gk (k := 32) (t := 19) ck_X_look_1 rfl) rfl
theorem d_X_look_52 : decode y_X_look.2.1 52 = .ok (.bipush 10, 2) := op_bipush (gk (k := 32) (t := 20) ck_X_look_1 rfl) (gk (k := 32) (t := 21) ck_X_look_1 rfl) rfl
theorem d_X_look_54 : decode y_X_look.2.1 54 = .ok (.iload_n 1, 1) := op_iload_n1 (gk (k := 32) (t := 22) ck_X_look_1 rfl)
theorem d_X_look_55 : decode y_X_look.2.1 55 = .ok (.iadd, 1) := op_iadd (gk (k := 32) (t := 23) ck_X_look_1 rfl)
theorem d_X_look_56 : decode y_X_look.2.1 56 = .ok (.dup2, 1) := op_dup2 (gk (k := 32) (t := 24) ck_X_look_1 rfl)
theorem d_X_look_57 : decode y_X_look.2.1 57 = .ok (.iaload, 1) := op_iaload (gk (k := 32) (t := 25) ck_X_look_1 rfl)
theorem d_X_look_58 : decode y_X_look.2.1 58 = .ok (.iconst 1, 1) := op_iconst1 (gk (k := 32) (t := 26) ck_X_look_1 rfl)
theorem d_X_look_59 : decode y_X_look.2.1 59 = .ok (.isub, 1) := op_isub (gk (k := 32) (t := 27) ck_X_look_1 rfl)
theorem d_X_look_60 : decode y_X_look.2.1 60 = .ok (.iastore, 1) := op_iastore (gk (k := 32) (t := 28) ck_X_look_1 rfl)
theorem d_X_look_61 : decode y_X_look.2.1 61 = .ok (.iload_n 3, 1) := op_iload_n3 (gk (k := 32) (t := 29) ck_X_look_1 rfl)
theorem d_X_look_62 : decode y_X_look.2.1 62 = .ok (.iload_n 2, 1) := op_iload_n2 (gk (k := 32) (t := 30) ck_X_look_1 rfl)
theorem d_X_look_63 : decode y_X_look.2.1 63 = .ok (.isub, 1) := op_isub (gk (k := 32) (t := 31) ck_X_look_1 rfl)
theorem ck_X_look_2 : (y_X_look.2.1.data.toList.drop 64).take 32 = [172] := by decide +kernel
theorem d_X_look_64 : decode y_X_look.2.1 64 = .ok (.ireturn, 1) := op_ireturn (gk (k := 64) (t := 0) ck_X_look_2 rfl)
abbrev y_X_heap : MI := (⟨"SinglesUpModel", "heap", "(II)Z"⟩, prog_11_method_73_code, 5, some .boolean)
theorem ck_X_heap_0 : (y_X_heap.2.1.data.toList.drop 0).take 32 = [27, 4, 16, 8, 184, 0, 98, 153, 0, 13, 28, 3, 16, 9, 184, 0, 98, 154, 0, 5, 3, 172, 28, 62, 4, 54, 4, 21, 4, 16, 8, 163] := by decide +kernel
theorem d_X_heap_0 : decode y_X_heap.2.1 0 = .ok (.iload_n 1, 1) := op_iload_n1 (gk (k := 0) (t := 0) ck_X_heap_0 rfl)
theorem d_X_heap_1 : decode y_X_heap.2.1 1 = .ok (.iconst 1, 1) := op_iconst1 (gk (k := 0) (t := 1) ck_X_heap_0 rfl)
theorem d_X_heap_2 : decode y_X_heap.2.1 2 = .ok (.bipush 8, 2) := op_bipush (gk (k := 0) (t := 2) ck_X_heap_0 rfl) (gk (k := 0) (t := 3) ck_X_heap_0 rfl) rfl
theorem d_X_heap_4 : decode y_X_heap.2.1 4 = .ok (.invokestatic 98, 3) := op_invokestatic (gk (k := 0) (t := 4) ck_X_heap_0 rfl) (gk (k := 0) (t := 5) ck_X_heap_0 rfl) (gk (k := 0) (t := 6) ck_X_heap_0 rfl) rfl
theorem d_X_heap_7 : decode y_X_heap.2.1 7 = .ok (.ifCond .eq 13, 3) := op_if_eq (gk (k := 0) (t := 7) ck_X_heap_0 rfl) (gk (k := 0) (t := 8) ck_X_heap_0 rfl) (gk (k := 0) (t := 9) ck_X_heap_0 rfl) (by decide +kernel)
theorem d_X_heap_20 : decode y_X_heap.2.1 20 = .ok (.iconst 0, 1) := op_iconst0 (gk (k := 0) (t := 20) ck_X_heap_0 rfl)
theorem d_X_heap_21 : decode y_X_heap.2.1 21 = .ok (.ireturn, 1) := op_ireturn (gk (k := 0) (t := 21) ck_X_heap_0 rfl)
theorem d_X_heap_10 : decode y_X_heap.2.1 10 = .ok (.iload_n 2, 1) := op_iload_n2 (gk (k := 0) (t := 10) ck_X_heap_0 rfl)
theorem d_X_heap_11 : decode y_X_heap.2.1 11 = .ok (.iconst 0, 1) := op_iconst0 (gk (k := 0) (t := 11) ck_X_heap_0 rfl)
theorem d_X_heap_12 : decode y_X_heap.2.1 12 = .ok (.bipush 9, 2) := op_bipush (gk (k := 0) (t := 12) ck_X_heap_0 rfl) (gk (k := 0) (t := 13) ck_X_heap_0 rfl) rfl
theorem d_X_heap_14 : decode y_X_heap.2.1 14 = .ok (.invokestatic 98, 3) := op_invokestatic (gk (k := 0) (t := 14) ck_X_heap_0 rfl) (gk (k := 0) (t := 15) ck_X_heap_0 rfl) (gk (k := 0) (t := 16) ck_X_heap_0 rfl) rfl
theorem d_X_heap_17 : decode y_X_heap.2.1 17 = .ok (.ifCond .ne 5, 3) := op_if_ne (gk (k := 0) (t := 17) ck_X_heap_0 rfl) (gk (k := 0) (t := 18) ck_X_heap_0 rfl) (gk (k := 0) (t := 19) ck_X_heap_0 rfl) (by decide +kernel)
theorem d_X_heap_22 : decode y_X_heap.2.1 22 = .ok (.iload_n 2, 1) := op_iload_n2 (gk (k := 0) (t := 22) ck_X_heap_0 rfl)
theorem d_X_heap_23 : decode y_X_heap.2.1 23 = .ok (.istore_n 3, 1) := op_istore_n3 (gk (k := 0) (t := 23) ck_X_heap_0 rfl)
theorem d_X_heap_24 : decode y_X_heap.2.1 24 = .ok (.iconst 1, 1) := op_iconst1 (gk (k := 0) (t := 24) ck_X_heap_0 rfl)
theorem d_X_heap_25 : decode y_X_heap.2.1 25 = .ok (.istore 4, 2) := op_istore (gk (k := 0) (t := 25) ck_X_heap_0 rfl) (gk (k := 0) (t := 26) ck_X_heap_0 rfl) rfl
theorem d_X_heap_27 : decode y_X_heap.2.1 27 = .ok (.iload 4, 2) := op_iload (gk (k := 0) (t := 27) ck_X_heap_0 rfl) (gk (k := 0) (t := 28) ck_X_heap_0 rfl) rfl
theorem d_X_heap_29 : decode y_X_heap.2.1 29 = .ok (.bipush 8, 2) := op_bipush (gk (k := 0) (t := 29) ck_X_heap_0 rfl) (gk (k := 0) (t := 30) ck_X_heap_0 rfl) rfl
theorem ck_X_heap_1 : (y_X_heap.2.1.data.toList.drop 32).take 32 = [0, 32, 29, 21, 4, 27, 160, 0, 7, 3, 167, 0, 13, 42, 180, 0, 7, 16, 60, 21, 4, 96, 46, 96, 62, 132, 4, 1, 167, 255, 223, 29] := by decide +kernel
theorem d_X_heap_31 : decode y_X_heap.2.1 31 = .ok (.if_icmp .gt 32, 3) := op_icmp_gt (gk (k := 0) (t := 31) ck_X_heap_0 rfl) (gk (k := 32) (t := 0) ck_X_heap_1 rfl) (gk (k := 32) (t := 1) ck_X_heap_1 rfl) (by decide +kernel)
theorem d_X_heap_34 : decode y_X_heap.2.1 34 = .ok (.iload_n 3, 1) := op_iload_n3 (gk (k := 32) (t := 2) ck_X_heap_1 rfl)
theorem d_X_heap_35 : decode y_X_heap.2.1 35 = .ok (.iload 4, 2) := op_iload (gk (k := 32) (t := 3) ck_X_heap_1 rfl) (gk (k := 32) (t := 4) ck_X_heap_1 rfl) rfl
theorem d_X_heap_37 : decode y_X_heap.2.1 37 = .ok (.iload_n 1, 1) := op_iload_n1 (gk (k := 32) (t := 5) ck_X_heap_1 rfl)
theorem d_X_heap_55 : decode y_X_heap.2.1 55 = .ok (.iadd, 1) := op_iadd (gk (k := 32) (t := 23) ck_X_heap_1 rfl)
theorem d_X_heap_56 : decode y_X_heap.2.1 56 = .ok (.istore_n 3, 1) := op_istore_n3 (gk (k := 32) (t := 24) ck_X_heap_1 rfl)
theorem d_X_heap_57 : decode y_X_heap.2.1 57 = .ok (.iinc 4 1, 3) := op_iinc (gk (k := 32) (t := 25) ck_X_heap_1 rfl) (gk (k := 32) (t := 26) ck_X_heap_1 rfl) (gk (k := 32) (t := 27) ck_X_heap_1 rfl) rfl rfl
theorem d_X_heap_60 : decode y_X_heap.2.1 60 = .ok (.goto (-33), 3) := op_goto (gk (k := 32) (t := 28) ck_X_heap_1 rfl) (gk (k := 32) (t := 29) ck_X_heap_1 rfl) (gk (k := 32) (t := 30) ck_X_heap_1 rfl) (by decide +kernel)
theorem d_X_heap_38 : decode y_X_heap.2.1 38 = .ok (.if_icmp .ne 7, 3) := op_icmp_ne (gk (k := 32) (t := 6) ck_X_heap_1 rfl) (gk (k := 32) (t := 7) ck_X_heap_1 rfl) (gk (k := 32) (t := 8) ck_X_heap_1 rfl) (by decide +kernel)
theorem d_X_heap_45 : decode y_X_heap.2.1 45 = .ok (.aload_n 0, 1) := op_aload_n0 (gk (k := 32) (t := 13) ck_X_heap_1 rfl)
theorem d_X_heap_46 : decode y_X_heap.2.1 46 = .ok (.getfield 7, 3) := op_getfield (gk (k := 32) (t := 14) ck_X_heap_1 rfl) (gk (k := 32) (t := 15) ck_X_heap_1 rfl) (gk (k := 32) (t := 16) ck_X_heap_1 rfl) rfl
theorem d_X_heap_49 : decode y_X_heap.2.1 49 = .ok (.bipush 60, 2) := op_bipush (gk (k := 32) (t := 17) ck_X_heap_1 rfl) (gk (k := 32) (t := 18) ck_X_heap_1 rfl) rfl
theorem d_X_heap_51 : decode y_X_heap.2.1 51 = .ok (.iload 4, 2) := op_iload (gk (k := 32) (t := 19) ck_X_heap_1 rfl) (gk (k := 32) (t := 20) ck_X_heap_1 rfl) rfl
theorem d_X_heap_53 : decode y_X_heap.2.1 53 = .ok (.iadd, 1) := op_iadd (gk (k := 32) (t := 21) ck_X_heap_1 rfl)
theorem d_X_heap_54 : decode y_X_heap.2.1 54 = .ok (.iaload, 1) := op_iaload (gk (k := 32) (t := 22) ck_X_heap_1 rfl)
theorem d_X_heap_41 : decode y_X_heap.2.1 41 = .ok (.iconst 0, 1) := op_iconst0 (gk (k := 32) (t := 9) ck_X_heap_1 rfl)
theorem d_X_heap_42 : decode y_X_heap.2.1 42 = .ok (.goto 13, 3) := op_goto (gk (k := 32) (t := 10) ck_X_heap_1 rfl) (gk (k := 32) (t := 11) ck_X_heap_1 rfl) (gk (k := 32) (t := 12) ck_X_heap_1 rfl) (by decide +kernel)
theorem d_X_heap_63 : decode y_X_heap.2.1 63 = .ok (.iload_n 3, 1) := op_iload_n3 (gk (k := 32) (t := 31) ck_X_heap_1 rfl)
theorem ck_X_heap_2 : (y_X_heap.2.1.data.toList.drop 64).take 32 = [16, 12, 164, 0, 5, 3, 172, 42, 180, 0, 7, 16, 60, 27, 96, 28, 79, 4, 172] := by decide +kernel
theorem d_X_heap_64 : decode y_X_heap.2.1 64 = .ok (.bipush 12, 2) := op_bipush (gk (k := 64) (t := 0) ck_X_heap_2 rfl) (gk (k := 64) (t := 1) ck_X_heap_2 rfl) rfl
theorem d_X_heap_66 : decode y_X_heap.2.1 66 = .ok (.if_icmp .le 5, 3) := op_icmp_le (gk (k := 64) (t := 2) ck_X_heap_2 rfl) (gk (k := 64) (t := 3) ck_X_heap_2 rfl) (gk (k := 64) (t := 4) ck_X_heap_2 rfl) (by decide +kernel)
theorem d_X_heap_71 : decode y_X_heap.2.1 71 = .ok (.aload_n 0, 1) := op_aload_n0 (gk (k := 64) (t := 7) ck_X_heap_2 rfl)
theorem d_X_heap_72 : decode y_X_heap.2.1 72 = .ok (.getfield 7, 3) := op_getfield (gk (k := 64) (t := 8) ck_X_heap_2 rfl) (gk (k := 64) (t := 9) ck_X_heap_2 rfl) (gk (k := 64) (t := 10) ck_X_heap_2 rfl) rfl
theorem d_X_heap_75 : decode y_X_heap.2.1 75 = .ok (.bipush 60, 2) := op_bipush (gk (k := 64) (t := 11) ck_X_heap_2 rfl) (gk (k := 64) (t := 12) ck_X_heap_2 rfl) rfl
theorem d_X_heap_77 : decode y_X_heap.2.1 77 = .ok (.iload_n 1, 1) := op_iload_n1 (gk (k := 64) (t := 13) ck_X_heap_2 rfl)
theorem d_X_heap_78 : decode y_X_heap.2.1 78 = .ok (.iadd, 1) := op_iadd (gk (k := 64) (t := 14) ck_X_heap_2 rfl)
theorem d_X_heap_79 : decode y_X_heap.2.1 79 = .ok (.iload_n 2, 1) := op_iload_n2 (gk (k := 64) (t := 15) ck_X_heap_2 rfl)
theorem d_X_heap_80 : decode y_X_heap.2.1 80 = .ok (.iastore, 1) := op_iastore (gk (k := 64) (t := 16) ck_X_heap_2 rfl)
theorem d_X_heap_81 : decode y_X_heap.2.1 81 = .ok (.iconst 1, 1) := op_iconst1 (gk (k := 64) (t := 17) ck_X_heap_2 rfl)
theorem d_X_heap_82 : decode y_X_heap.2.1 82 = .ok (.ireturn, 1) := op_ireturn (gk (k := 64) (t := 18) ck_X_heap_2 rfl)
theorem d_X_heap_69 : decode y_X_heap.2.1 69 = .ok (.iconst 0, 1) := op_iconst0 (gk (k := 64) (t := 5) ck_X_heap_2 rfl)
theorem d_X_heap_70 : decode y_X_heap.2.1 70 = .ok (.ireturn, 1) := op_ireturn (gk (k := 64) (t := 6) ck_X_heap_2 rfl)
abbrev y_X_greatest : MI := (⟨"SinglesUpModel", "greatest", "()I"⟩, prog_11_method_75_code, 2, some .int)
theorem ck_X_greatest_0 : (y_X_greatest.2.1.data.toList.drop 0).take 32 = [16, 8, 60, 27, 158, 0, 20, 42, 180, 0, 75, 27, 46, 158, 0, 5, 27, 172, 132, 1, 255, 167, 255, 238, 3, 172] := by decide +kernel
theorem d_X_greatest_0 : decode y_X_greatest.2.1 0 = .ok (.bipush 8, 2) := op_bipush (gk (k := 0) (t := 0) ck_X_greatest_0 rfl) (gk (k := 0) (t := 1) ck_X_greatest_0 rfl) rfl
theorem d_X_greatest_2 : decode y_X_greatest.2.1 2 = .ok (.istore_n 1, 1) := op_istore_n1 (gk (k := 0) (t := 2) ck_X_greatest_0 rfl)
theorem d_X_greatest_3 : decode y_X_greatest.2.1 3 = .ok (.iload_n 1, 1) := op_iload_n1 (gk (k := 0) (t := 3) ck_X_greatest_0 rfl)
theorem d_X_greatest_4 : decode y_X_greatest.2.1 4 = .ok (.ifCond .le 20, 3) := op_if_le (gk (k := 0) (t := 4) ck_X_greatest_0 rfl) (gk (k := 0) (t := 5) ck_X_greatest_0 rfl) (gk (k := 0) (t := 6) ck_X_greatest_0 rfl) (by decide +kernel)
theorem d_X_greatest_24 : decode y_X_greatest.2.1 24 = .ok (.iconst 0, 1) := op_iconst0 (gk (k := 0) (t := 24) ck_X_greatest_0 rfl)
theorem d_X_greatest_25 : decode y_X_greatest.2.1 25 = .ok (.ireturn, 1) := op_ireturn (gk (k := 0) (t := 25) ck_X_greatest_0 rfl)
theorem d_X_greatest_7 : decode y_X_greatest.2.1 7 = .ok (.aload_n 0, 1) := op_aload_n0 (gk (k := 0) (t := 7) ck_X_greatest_0 rfl)
theorem fl_X_75 : FL "SinglesUpModel" 75 9 42 := ⟨"SinglesUpModel", zT9, 51, rfl, by decide, rfl, Or.inl (tw_c5 135 (by decide +kernel) rfl)⟩
theorem rm_9_42 : ∀ o, KM[o]? = some (12, 51) → RM o 42 = some (o + 19) ∧ KM[o + 19]? = some (0, 9) := by
  intro o h
  have hl : o < 26 := (List.getElem?_eq_some_iff.mp h).1
  exact (by decide +kernel : ∀ o, o < 26 → KM[o]? = some (12, 51) → RM o 42 = some (o + 19) ∧ KM[o + 19]? = some (0, 9)) o hl h
theorem d_X_greatest_8 : decode y_X_greatest.2.1 8 = .ok (.getfield 75, 3) := op_getfield (gk (k := 0) (t := 8) ck_X_greatest_0 rfl) (gk (k := 0) (t := 9) ck_X_greatest_0 rfl) (gk (k := 0) (t := 10) ck_X_greatest_0 rfl) rfl
theorem d_X_greatest_11 : decode y_X_greatest.2.1 11 = .ok (.iload_n 1, 1) := op_iload_n1 (gk (k := 0) (t := 11) ck_X_greatest_0 rfl)
theorem d_X_greatest_12 : decode y_X_greatest.2.1 12 = .ok (.iaload, 1) := op_iaload (gk (k := 0) (t := 12) ck_X_greatest_0 rfl)
theorem d_X_greatest_13 : decode y_X_greatest.2.1 13 = .ok (.ifCond .le 5, 3) := op_if_le (gk (k := 0) (t := 13) ck_X_greatest_0 rfl) (gk (k := 0) (t := 14) ck_X_greatest_0 rfl) (gk (k := 0) (t := 15) ck_X_greatest_0 rfl) (by decide +kernel)
theorem d_X_greatest_18 : decode y_X_greatest.2.1 18 = .ok (.iinc 1 (-1), 3) := op_iinc (gk (k := 0) (t := 18) ck_X_greatest_0 rfl) (gk (k := 0) (t := 19) ck_X_greatest_0 rfl) (gk (k := 0) (t := 20) ck_X_greatest_0 rfl) rfl rfl
theorem d_X_greatest_21 : decode y_X_greatest.2.1 21 = .ok (.goto (-18), 3) := op_goto (gk (k := 0) (t := 21) ck_X_greatest_0 rfl) (gk (k := 0) (t := 22) ck_X_greatest_0 rfl) (gk (k := 0) (t := 23) ck_X_greatest_0 rfl) (by decide +kernel)
theorem d_X_greatest_16 : decode y_X_greatest.2.1 16 = .ok (.iload_n 1, 1) := op_iload_n1 (gk (k := 0) (t := 16) ck_X_greatest_0 rfl)
theorem d_X_greatest_17 : decode y_X_greatest.2.1 17 = .ok (.ireturn, 1) := op_ireturn (gk (k := 0) (t := 17) ck_X_greatest_0 rfl)
abbrev y_X_number0 : MI := (⟨"SinglesUpModel", "number0", "()I"⟩, prog_11_method_74_code, 3, some .int)
theorem ck_X_number0_0 : (y_X_number0.2.1.data.toList.drop 0).take 32 = [3, 60, 4, 61, 28, 16, 8, 163, 0, 25, 27, 42, 180, 0, 78, 28, 46, 42, 180, 0, 75, 28, 46, 104, 96, 60, 132, 2, 1, 167, 255, 231] := by decide +kernel
theorem d_X_number0_0 : decode y_X_number0.2.1 0 = .ok (.iconst 0, 1) := op_iconst0 (gk (k := 0) (t := 0) ck_X_number0_0 rfl)
theorem d_X_number0_1 : decode y_X_number0.2.1 1 = .ok (.istore_n 1, 1) := op_istore_n1 (gk (k := 0) (t := 1) ck_X_number0_0 rfl)
theorem d_X_number0_2 : decode y_X_number0.2.1 2 = .ok (.iconst 1, 1) := op_iconst1 (gk (k := 0) (t := 2) ck_X_number0_0 rfl)
theorem d_X_number0_3 : decode y_X_number0.2.1 3 = .ok (.istore_n 2, 1) := op_istore_n2 (gk (k := 0) (t := 3) ck_X_number0_0 rfl)
theorem d_X_number0_4 : decode y_X_number0.2.1 4 = .ok (.iload_n 2, 1) := op_iload_n2 (gk (k := 0) (t := 4) ck_X_number0_0 rfl)
theorem d_X_number0_5 : decode y_X_number0.2.1 5 = .ok (.bipush 8, 2) := op_bipush (gk (k := 0) (t := 5) ck_X_number0_0 rfl) (gk (k := 0) (t := 6) ck_X_number0_0 rfl) rfl
theorem d_X_number0_7 : decode y_X_number0.2.1 7 = .ok (.if_icmp .gt 25, 3) := op_icmp_gt (gk (k := 0) (t := 7) ck_X_number0_0 rfl) (gk (k := 0) (t := 8) ck_X_number0_0 rfl) (gk (k := 0) (t := 9) ck_X_number0_0 rfl) (by decide +kernel)
theorem ck_X_number0_1 : (y_X_number0.2.1.data.toList.drop 32).take 32 = [27, 172] := by decide +kernel
theorem d_X_number0_32 : decode y_X_number0.2.1 32 = .ok (.iload_n 1, 1) := op_iload_n1 (gk (k := 32) (t := 0) ck_X_number0_1 rfl)
theorem d_X_number0_33 : decode y_X_number0.2.1 33 = .ok (.ireturn, 1) := op_ireturn (gk (k := 32) (t := 1) ck_X_number0_1 rfl)
theorem d_X_number0_10 : decode y_X_number0.2.1 10 = .ok (.iload_n 1, 1) := op_iload_n1 (gk (k := 0) (t := 10) ck_X_number0_0 rfl)
theorem d_X_number0_11 : decode y_X_number0.2.1 11 = .ok (.aload_n 0, 1) := op_aload_n0 (gk (k := 0) (t := 11) ck_X_number0_0 rfl)
theorem fl_X_78 : FL "SinglesUpModel" 78 9 43 := ⟨"SinglesUpModel", zT9, 51, rfl, by decide, rfl, Or.inl (tw_c5 136 (by decide +kernel) rfl)⟩
theorem rm_9_43 : ∀ o, KM[o]? = some (12, 51) → RM o 43 = some (o + 20) ∧ KM[o + 20]? = some (0, 9) := by
  intro o h
  have hl : o < 26 := (List.getElem?_eq_some_iff.mp h).1
  exact (by decide +kernel : ∀ o, o < 26 → KM[o]? = some (12, 51) → RM o 43 = some (o + 20) ∧ KM[o + 20]? = some (0, 9)) o hl h
theorem d_X_number0_12 : decode y_X_number0.2.1 12 = .ok (.getfield 78, 3) := op_getfield (gk (k := 0) (t := 12) ck_X_number0_0 rfl) (gk (k := 0) (t := 13) ck_X_number0_0 rfl) (gk (k := 0) (t := 14) ck_X_number0_0 rfl) rfl
theorem d_X_number0_15 : decode y_X_number0.2.1 15 = .ok (.iload_n 2, 1) := op_iload_n2 (gk (k := 0) (t := 15) ck_X_number0_0 rfl)
theorem d_X_number0_16 : decode y_X_number0.2.1 16 = .ok (.iaload, 1) := op_iaload (gk (k := 0) (t := 16) ck_X_number0_0 rfl)
theorem d_X_number0_17 : decode y_X_number0.2.1 17 = .ok (.aload_n 0, 1) := op_aload_n0 (gk (k := 0) (t := 17) ck_X_number0_0 rfl)
theorem d_X_number0_18 : decode y_X_number0.2.1 18 = .ok (.getfield 75, 3) := op_getfield (gk (k := 0) (t := 18) ck_X_number0_0 rfl) (gk (k := 0) (t := 19) ck_X_number0_0 rfl) (gk (k := 0) (t := 20) ck_X_number0_0 rfl) rfl
theorem d_X_number0_21 : decode y_X_number0.2.1 21 = .ok (.iload_n 2, 1) := op_iload_n2 (gk (k := 0) (t := 21) ck_X_number0_0 rfl)
theorem d_X_number0_22 : decode y_X_number0.2.1 22 = .ok (.iaload, 1) := op_iaload (gk (k := 0) (t := 22) ck_X_number0_0 rfl)
theorem d_X_number0_23 : decode y_X_number0.2.1 23 = .ok (.imul, 1) := op_imul (gk (k := 0) (t := 23) ck_X_number0_0 rfl)
theorem d_X_number0_24 : decode y_X_number0.2.1 24 = .ok (.iadd, 1) := op_iadd (gk (k := 0) (t := 24) ck_X_number0_0 rfl)
theorem d_X_number0_25 : decode y_X_number0.2.1 25 = .ok (.istore_n 1, 1) := op_istore_n1 (gk (k := 0) (t := 25) ck_X_number0_0 rfl)
theorem d_X_number0_26 : decode y_X_number0.2.1 26 = .ok (.iinc 2 1, 3) := op_iinc (gk (k := 0) (t := 26) ck_X_number0_0 rfl) (gk (k := 0) (t := 27) ck_X_number0_0 rfl) (gk (k := 0) (t := 28) ck_X_number0_0 rfl) rfl rfl
theorem d_X_number0_29 : decode y_X_number0.2.1 29 = .ok (.goto (-25), 3) := op_goto (gk (k := 0) (t := 29) ck_X_number0_0 rfl) (gk (k := 0) (t := 30) ck_X_number0_0 rfl) (gk (k := 0) (t := 31) ck_X_number0_0 rfl) (by decide +kernel)
abbrev y_X_needs : MI := (⟨"SinglesUpModel", "needs", "()I"⟩, prog_11_method_76_code, 4, some .int)
abbrev y_X_fewestBehind : MI := (⟨"SinglesUpModel", "fewestBehind", "(II)I"⟩, prog_11_method_77_code, 5, some .int)
theorem ck_X_needs_0 : (y_X_needs.2.1.data.toList.drop 0).take 32 = [42, 182, 1, 112, 60, 27, 154, 0, 5, 3, 172, 42, 182, 1, 115, 61, 42, 180, 0, 72, 28, 46, 2, 159, 0, 10, 42, 180, 0, 72, 28, 46] := by decide +kernel
theorem d_X_needs_0 : decode y_X_needs.2.1 0 = .ok (.aload_n 0, 1) := op_aload_n0 (gk (k := 0) (t := 0) ck_X_needs_0 rfl)
theorem lk_X_368 : LkV "SinglesUpModel" 368 y_X_greatest := ⟨tw_c7 80 (by decide +kernel) rfl, tw_in 82 (by decide +kernel) rfl, Or.inl (tw_c7 78 (by decide +kernel) rfl)⟩
set_option maxRecDepth 100000 in
theorem mo_X_greatest : MOk y_X_greatest 0 := ⟨by decide +kernel, tw_c7 81 rfl rfl, tw_c1 12 (by decide +kernel) rfl, by decide +kernel, by decide +kernel, by decide +kernel⟩
theorem d_X_needs_1 : decode y_X_needs.2.1 1 = .ok (.invokevirtual 368, 3) := op_invokevirtual (gk (k := 0) (t := 1) ck_X_needs_0 rfl) (gk (k := 0) (t := 2) ck_X_needs_0 rfl) (gk (k := 0) (t := 3) ck_X_needs_0 rfl) rfl
theorem d_X_needs_4 : decode y_X_needs.2.1 4 = .ok (.istore_n 1, 1) := op_istore_n1 (gk (k := 0) (t := 4) ck_X_needs_0 rfl)
theorem d_X_needs_5 : decode y_X_needs.2.1 5 = .ok (.iload_n 1, 1) := op_iload_n1 (gk (k := 0) (t := 5) ck_X_needs_0 rfl)
theorem d_X_needs_6 : decode y_X_needs.2.1 6 = .ok (.ifCond .ne 5, 3) := op_if_ne (gk (k := 0) (t := 6) ck_X_needs_0 rfl) (gk (k := 0) (t := 7) ck_X_needs_0 rfl) (gk (k := 0) (t := 8) ck_X_needs_0 rfl) (by decide +kernel)
theorem d_X_needs_11 : decode y_X_needs.2.1 11 = .ok (.aload_n 0, 1) := op_aload_n0 (gk (k := 0) (t := 11) ck_X_needs_0 rfl)
theorem lk_X_371 : LkV "SinglesUpModel" 371 y_X_number0 := ⟨tw_c7 84 (by decide +kernel) rfl, tw_in 83 (by decide +kernel) rfl, Or.inl (tw_c7 82 (by decide +kernel) rfl)⟩
set_option maxRecDepth 100000 in
theorem mo_X_number0 : MOk y_X_number0 0 := ⟨by decide +kernel, tw_c7 85 rfl rfl, tw_c1 12 (by decide +kernel) rfl, by decide +kernel, by decide +kernel, by decide +kernel⟩
theorem d_X_needs_12 : decode y_X_needs.2.1 12 = .ok (.invokevirtual 371, 3) := op_invokevirtual (gk (k := 0) (t := 12) ck_X_needs_0 rfl) (gk (k := 0) (t := 13) ck_X_needs_0 rfl) (gk (k := 0) (t := 14) ck_X_needs_0 rfl) rfl
theorem d_X_needs_15 : decode y_X_needs.2.1 15 = .ok (.istore_n 2, 1) := op_istore_n2 (gk (k := 0) (t := 15) ck_X_needs_0 rfl)
theorem d_X_needs_16 : decode y_X_needs.2.1 16 = .ok (.aload_n 0, 1) := op_aload_n0 (gk (k := 0) (t := 16) ck_X_needs_0 rfl)
theorem fl_X_72 : FL "SinglesUpModel" 72 9 41 := ⟨"SinglesUpModel", zT9, 51, rfl, by decide, rfl, Or.inl (tw_c5 134 (by decide +kernel) rfl)⟩
theorem rm_9_41 : ∀ o, KM[o]? = some (12, 51) → RM o 41 = some (o + 18) ∧ KM[o + 18]? = some (0, 4100) := by
  intro o h
  have hl : o < 26 := (List.getElem?_eq_some_iff.mp h).1
  exact (by decide +kernel : ∀ o, o < 26 → KM[o]? = some (12, 51) → RM o 41 = some (o + 18) ∧ KM[o + 18]? = some (0, 4100)) o hl h
theorem d_X_needs_17 : decode y_X_needs.2.1 17 = .ok (.getfield 72, 3) := op_getfield (gk (k := 0) (t := 17) ck_X_needs_0 rfl) (gk (k := 0) (t := 18) ck_X_needs_0 rfl) (gk (k := 0) (t := 19) ck_X_needs_0 rfl) rfl
theorem d_X_needs_20 : decode y_X_needs.2.1 20 = .ok (.iload_n 2, 1) := op_iload_n2 (gk (k := 0) (t := 20) ck_X_needs_0 rfl)
theorem d_X_needs_21 : decode y_X_needs.2.1 21 = .ok (.iaload, 1) := op_iaload (gk (k := 0) (t := 21) ck_X_needs_0 rfl)
theorem d_X_needs_22 : decode y_X_needs.2.1 22 = .ok (.iconst (-1), 1) := op_iconstm1 (gk (k := 0) (t := 22) ck_X_needs_0 rfl)
theorem d_X_needs_23 : decode y_X_needs.2.1 23 = .ok (.if_icmp .eq 10, 3) := op_icmp_eq (gk (k := 0) (t := 23) ck_X_needs_0 rfl) (gk (k := 0) (t := 24) ck_X_needs_0 rfl) (gk (k := 0) (t := 25) ck_X_needs_0 rfl) (by decide +kernel)
theorem ck_X_needs_1 : (y_X_needs.2.1.data.toList.drop 32).take 32 = [172, 42, 180, 0, 75, 27, 92, 46, 4, 100, 79, 4, 42, 27, 42, 180, 0, 7, 4, 46, 27, 100, 182, 1, 118, 96, 62, 42, 180, 0, 75, 27] := by decide +kernel
theorem d_X_needs_33 : decode y_X_needs.2.1 33 = .ok (.aload_n 0, 1) := op_aload_n0 (gk (k := 32) (t := 1) ck_X_needs_1 rfl)
theorem d_X_needs_34 : decode y_X_needs.2.1 34 = .ok (.getfield 75, 3) := op_getfield (gk (k := 32) (t := 2) ck_X_needs_1 rfl) (gk (k := 32) (t := 3) ck_X_needs_1 rfl) (gk (k := 32) (t := 4) ck_X_needs_1 rfl) rfl
theorem d_X_needs_37 : decode y_X_needs.2.1 37 = .ok (.iload_n 1, 1) := op_iload_n1 (gk (k := 32) (t := 5) ck_X_needs_1 rfl)
theorem d_X_needs_38 : decode y_X_needs.2.1 38 = .ok (.dup2, 1) := op_dup2 (gk (k := 32) (t := 6) ck_X_needs_1 rfl)
theorem d_X_needs_39 : decode y_X_needs.2.1 39 = .ok (.iaload, 1) := op_iaload (gk (k := 32) (t := 7) ck_X_needs_1 rfl)
theorem d_X_needs_40 : decode y_X_needs.2.1 40 = .ok (.iconst 1, 1) := op_iconst1 (gk (k := 32) (t := 8) ck_X_needs_1 rfl)
theorem d_X_needs_41 : decode y_X_needs.2.1 41 = .ok (.isub, 1) := op_isub (gk (k := 32) (t := 9) ck_X_needs_1 rfl)
theorem d_X_needs_42 : decode y_X_needs.2.1 42 = .ok (.iastore, 1) := op_iastore (gk (k := 32) (t := 10) ck_X_needs_1 rfl)
theorem d_X_needs_43 : decode y_X_needs.2.1 43 = .ok (.iconst 1, 1) := op_iconst1 (gk (k := 32) (t := 11) ck_X_needs_1 rfl)
theorem d_X_needs_44 : decode y_X_needs.2.1 44 = .ok (.aload_n 0, 1) := op_aload_n0 (gk (k := 32) (t := 12) ck_X_needs_1 rfl)
theorem d_X_needs_45 : decode y_X_needs.2.1 45 = .ok (.iload_n 1, 1) := op_iload_n1 (gk (k := 32) (t := 13) ck_X_needs_1 rfl)
theorem d_X_needs_46 : decode y_X_needs.2.1 46 = .ok (.aload_n 0, 1) := op_aload_n0 (gk (k := 32) (t := 14) ck_X_needs_1 rfl)
theorem d_X_needs_47 : decode y_X_needs.2.1 47 = .ok (.getfield 7, 3) := op_getfield (gk (k := 32) (t := 15) ck_X_needs_1 rfl) (gk (k := 32) (t := 16) ck_X_needs_1 rfl) (gk (k := 32) (t := 17) ck_X_needs_1 rfl) rfl
theorem d_X_needs_50 : decode y_X_needs.2.1 50 = .ok (.iconst 1, 1) := op_iconst1 (gk (k := 32) (t := 18) ck_X_needs_1 rfl)
theorem d_X_needs_51 : decode y_X_needs.2.1 51 = .ok (.iaload, 1) := op_iaload (gk (k := 32) (t := 19) ck_X_needs_1 rfl)
theorem d_X_needs_52 : decode y_X_needs.2.1 52 = .ok (.iload_n 1, 1) := op_iload_n1 (gk (k := 32) (t := 20) ck_X_needs_1 rfl)
theorem d_X_needs_53 : decode y_X_needs.2.1 53 = .ok (.isub, 1) := op_isub (gk (k := 32) (t := 21) ck_X_needs_1 rfl)
theorem lk_X_374 : LkV "SinglesUpModel" 374 y_X_fewestBehind := ⟨tw_c7 88 (by decide +kernel) rfl, tw_in 84 (by decide +kernel) rfl, Or.inl (tw_c7 86 (by decide +kernel) rfl)⟩
set_option maxRecDepth 100000 in
theorem mo_X_fewestBehind : MOk y_X_fewestBehind 2 := ⟨by decide +kernel, tw_c7 89 rfl rfl, tw_c1 12 (by decide +kernel) rfl, by decide +kernel, by decide +kernel, by decide +kernel⟩
theorem d_X_needs_54 : decode y_X_needs.2.1 54 = .ok (.invokevirtual 374, 3) := op_invokevirtual (gk (k := 32) (t := 22) ck_X_needs_1 rfl) (gk (k := 32) (t := 23) ck_X_needs_1 rfl) (gk (k := 32) (t := 24) ck_X_needs_1 rfl) rfl
theorem d_X_needs_57 : decode y_X_needs.2.1 57 = .ok (.iadd, 1) := op_iadd (gk (k := 32) (t := 25) ck_X_needs_1 rfl)
theorem d_X_needs_58 : decode y_X_needs.2.1 58 = .ok (.istore_n 3, 1) := op_istore_n3 (gk (k := 32) (t := 26) ck_X_needs_1 rfl)
theorem d_X_needs_59 : decode y_X_needs.2.1 59 = .ok (.aload_n 0, 1) := op_aload_n0 (gk (k := 32) (t := 27) ck_X_needs_1 rfl)
theorem d_X_needs_60 : decode y_X_needs.2.1 60 = .ok (.getfield 75, 3) := op_getfield (gk (k := 32) (t := 28) ck_X_needs_1 rfl) (gk (k := 32) (t := 29) ck_X_needs_1 rfl) (gk (k := 32) (t := 30) ck_X_needs_1 rfl) rfl
theorem d_X_needs_63 : decode y_X_needs.2.1 63 = .ok (.iload_n 1, 1) := op_iload_n1 (gk (k := 32) (t := 31) ck_X_needs_1 rfl)
theorem ck_X_needs_2 : (y_X_needs.2.1.data.toList.drop 64).take 32 = [92, 46, 4, 96, 79, 42, 180, 0, 72, 28, 29, 79, 29, 172] := by decide +kernel
theorem d_X_needs_64 : decode y_X_needs.2.1 64 = .ok (.dup2, 1) := op_dup2 (gk (k := 64) (t := 0) ck_X_needs_2 rfl)
theorem d_X_needs_65 : decode y_X_needs.2.1 65 = .ok (.iaload, 1) := op_iaload (gk (k := 64) (t := 1) ck_X_needs_2 rfl)
theorem d_X_needs_66 : decode y_X_needs.2.1 66 = .ok (.iconst 1, 1) := op_iconst1 (gk (k := 64) (t := 2) ck_X_needs_2 rfl)
theorem d_X_needs_67 : decode y_X_needs.2.1 67 = .ok (.iadd, 1) := op_iadd (gk (k := 64) (t := 3) ck_X_needs_2 rfl)
theorem d_X_needs_68 : decode y_X_needs.2.1 68 = .ok (.iastore, 1) := op_iastore (gk (k := 64) (t := 4) ck_X_needs_2 rfl)
theorem d_X_needs_69 : decode y_X_needs.2.1 69 = .ok (.aload_n 0, 1) := op_aload_n0 (gk (k := 64) (t := 5) ck_X_needs_2 rfl)
theorem d_X_needs_70 : decode y_X_needs.2.1 70 = .ok (.getfield 72, 3) := op_getfield (gk (k := 64) (t := 6) ck_X_needs_2 rfl) (gk (k := 64) (t := 7) ck_X_needs_2 rfl) (gk (k := 64) (t := 8) ck_X_needs_2 rfl) rfl
theorem d_X_needs_73 : decode y_X_needs.2.1 73 = .ok (.iload_n 2, 1) := op_iload_n2 (gk (k := 64) (t := 9) ck_X_needs_2 rfl)
theorem d_X_needs_74 : decode y_X_needs.2.1 74 = .ok (.iload_n 3, 1) := op_iload_n3 (gk (k := 64) (t := 10) ck_X_needs_2 rfl)
theorem d_X_needs_75 : decode y_X_needs.2.1 75 = .ok (.iastore, 1) := op_iastore (gk (k := 64) (t := 11) ck_X_needs_2 rfl)
theorem d_X_needs_76 : decode y_X_needs.2.1 76 = .ok (.iload_n 3, 1) := op_iload_n3 (gk (k := 64) (t := 12) ck_X_needs_2 rfl)
theorem d_X_needs_77 : decode y_X_needs.2.1 77 = .ok (.ireturn, 1) := op_ireturn (gk (k := 64) (t := 13) ck_X_needs_2 rfl)
theorem d_X_needs_26 : decode y_X_needs.2.1 26 = .ok (.aload_n 0, 1) := op_aload_n0 (gk (k := 0) (t := 26) ck_X_needs_0 rfl)
theorem d_X_needs_27 : decode y_X_needs.2.1 27 = .ok (.getfield 72, 3) := op_getfield (gk (k := 0) (t := 27) ck_X_needs_0 rfl) (gk (k := 0) (t := 28) ck_X_needs_0 rfl) (gk (k := 0) (t := 29) ck_X_needs_0 rfl) rfl
theorem d_X_needs_30 : decode y_X_needs.2.1 30 = .ok (.iload_n 2, 1) := op_iload_n2 (gk (k := 0) (t := 30) ck_X_needs_0 rfl)
theorem d_X_needs_31 : decode y_X_needs.2.1 31 = .ok (.iaload, 1) := op_iaload (gk (k := 0) (t := 31) ck_X_needs_0 rfl)
theorem d_X_needs_32 : decode y_X_needs.2.1 32 = .ok (.ireturn, 1) := op_ireturn (gk (k := 32) (t := 0) ck_X_needs_1 rfl)
theorem d_X_needs_9 : decode y_X_needs.2.1 9 = .ok (.iconst 0, 1) := op_iconst0 (gk (k := 0) (t := 9) ck_X_needs_0 rfl)
theorem d_X_needs_10 : decode y_X_needs.2.1 10 = .ok (.ireturn, 1) := op_ireturn (gk (k := 0) (t := 10) ck_X_needs_0 rfl)
theorem ck_X_fewestBehind_0 : (y_X_fewestBehind.2.1.data.toList.drop 0).take 32 = [27, 154, 0, 8, 42, 182, 1, 121, 172, 42, 27, 4, 100, 28, 182, 1, 118, 62, 42, 180, 0, 75, 27, 46, 153, 0, 8, 27, 28, 164, 0, 5] := by decide +kernel
theorem d_X_fewestBehind_0 : decode y_X_fewestBehind.2.1 0 = .ok (.iload_n 1, 1) := op_iload_n1 (gk (k := 0) (t := 0) ck_X_fewestBehind_0 rfl)
theorem d_X_fewestBehind_1 : decode y_X_fewestBehind.2.1 1 = .ok (.ifCond .ne 8, 3) := op_if_ne (gk (k := 0) (t := 1) ck_X_fewestBehind_0 rfl) (gk (k := 0) (t := 2) ck_X_fewestBehind_0 rfl) (gk (k := 0) (t := 3) ck_X_fewestBehind_0 rfl) (by decide +kernel)
theorem d_X_fewestBehind_9 : decode y_X_fewestBehind.2.1 9 = .ok (.aload_n 0, 1) := op_aload_n0 (gk (k := 0) (t := 9) ck_X_fewestBehind_0 rfl)
theorem d_X_fewestBehind_10 : decode y_X_fewestBehind.2.1 10 = .ok (.iload_n 1, 1) := op_iload_n1 (gk (k := 0) (t := 10) ck_X_fewestBehind_0 rfl)
theorem d_X_fewestBehind_11 : decode y_X_fewestBehind.2.1 11 = .ok (.iconst 1, 1) := op_iconst1 (gk (k := 0) (t := 11) ck_X_fewestBehind_0 rfl)
theorem d_X_fewestBehind_12 : decode y_X_fewestBehind.2.1 12 = .ok (.isub, 1) := op_isub (gk (k := 0) (t := 12) ck_X_fewestBehind_0 rfl)
theorem d_X_fewestBehind_13 : decode y_X_fewestBehind.2.1 13 = .ok (.iload_n 2, 1) := op_iload_n2 (gk (k := 0) (t := 13) ck_X_fewestBehind_0 rfl)
theorem d_X_fewestBehind_14 : decode y_X_fewestBehind.2.1 14 = .ok (.invokevirtual 374, 3) := op_invokevirtual (gk (k := 0) (t := 14) ck_X_fewestBehind_0 rfl) (gk (k := 0) (t := 15) ck_X_fewestBehind_0 rfl) (gk (k := 0) (t := 16) ck_X_fewestBehind_0 rfl) rfl
theorem d_X_fewestBehind_17 : decode y_X_fewestBehind.2.1 17 = .ok (.istore_n 3, 1) := op_istore_n3 (gk (k := 0) (t := 17) ck_X_fewestBehind_0 rfl)
theorem d_X_fewestBehind_18 : decode y_X_fewestBehind.2.1 18 = .ok (.aload_n 0, 1) := op_aload_n0 (gk (k := 0) (t := 18) ck_X_fewestBehind_0 rfl)
theorem d_X_fewestBehind_19 : decode y_X_fewestBehind.2.1 19 = .ok (.getfield 75, 3) := op_getfield (gk (k := 0) (t := 19) ck_X_fewestBehind_0 rfl) (gk (k := 0) (t := 20) ck_X_fewestBehind_0 rfl) (gk (k := 0) (t := 21) ck_X_fewestBehind_0 rfl) rfl
theorem d_X_fewestBehind_22 : decode y_X_fewestBehind.2.1 22 = .ok (.iload_n 1, 1) := op_iload_n1 (gk (k := 0) (t := 22) ck_X_fewestBehind_0 rfl)
theorem d_X_fewestBehind_23 : decode y_X_fewestBehind.2.1 23 = .ok (.iaload, 1) := op_iaload (gk (k := 0) (t := 23) ck_X_fewestBehind_0 rfl)
theorem d_X_fewestBehind_24 : decode y_X_fewestBehind.2.1 24 = .ok (.ifCond .eq 8, 3) := op_if_eq (gk (k := 0) (t := 24) ck_X_fewestBehind_0 rfl) (gk (k := 0) (t := 25) ck_X_fewestBehind_0 rfl) (gk (k := 0) (t := 26) ck_X_fewestBehind_0 rfl) (by decide +kernel)
theorem ck_X_fewestBehind_1 : (y_X_fewestBehind.2.1.data.toList.drop 32).take 32 = [29, 172, 42, 180, 0, 75, 27, 92, 46, 4, 100, 79, 42, 27, 28, 27, 100, 182, 1, 118, 54, 4, 42, 180, 0, 75, 27, 92, 46, 4, 96, 79] := by decide +kernel
theorem d_X_fewestBehind_32 : decode y_X_fewestBehind.2.1 32 = .ok (.iload_n 3, 1) := op_iload_n3 (gk (k := 32) (t := 0) ck_X_fewestBehind_1 rfl)
theorem d_X_fewestBehind_33 : decode y_X_fewestBehind.2.1 33 = .ok (.ireturn, 1) := op_ireturn (gk (k := 32) (t := 1) ck_X_fewestBehind_1 rfl)
theorem d_X_fewestBehind_27 : decode y_X_fewestBehind.2.1 27 = .ok (.iload_n 1, 1) := op_iload_n1 (gk (k := 0) (t := 27) ck_X_fewestBehind_0 rfl)
theorem d_X_fewestBehind_28 : decode y_X_fewestBehind.2.1 28 = .ok (.iload_n 2, 1) := op_iload_n2 (gk (k := 0) (t := 28) ck_X_fewestBehind_0 rfl)
theorem d_X_fewestBehind_29 : decode y_X_fewestBehind.2.1 29 = .ok (.if_icmp .le 5, 3) := op_icmp_le (gk (k := 0) (t := 29) ck_X_fewestBehind_0 rfl) (gk (k := 0) (t := 30) ck_X_fewestBehind_0 rfl) (gk (k := 0) (t := 31) ck_X_fewestBehind_0 rfl) (by decide +kernel)
theorem d_X_fewestBehind_34 : decode y_X_fewestBehind.2.1 34 = .ok (.aload_n 0, 1) := op_aload_n0 (gk (k := 32) (t := 2) ck_X_fewestBehind_1 rfl)
theorem d_X_fewestBehind_35 : decode y_X_fewestBehind.2.1 35 = .ok (.getfield 75, 3) := op_getfield (gk (k := 32) (t := 3) ck_X_fewestBehind_1 rfl) (gk (k := 32) (t := 4) ck_X_fewestBehind_1 rfl) (gk (k := 32) (t := 5) ck_X_fewestBehind_1 rfl) rfl
theorem d_X_fewestBehind_38 : decode y_X_fewestBehind.2.1 38 = .ok (.iload_n 1, 1) := op_iload_n1 (gk (k := 32) (t := 6) ck_X_fewestBehind_1 rfl)
theorem d_X_fewestBehind_39 : decode y_X_fewestBehind.2.1 39 = .ok (.dup2, 1) := op_dup2 (gk (k := 32) (t := 7) ck_X_fewestBehind_1 rfl)
theorem d_X_fewestBehind_40 : decode y_X_fewestBehind.2.1 40 = .ok (.iaload, 1) := op_iaload (gk (k := 32) (t := 8) ck_X_fewestBehind_1 rfl)
theorem d_X_fewestBehind_41 : decode y_X_fewestBehind.2.1 41 = .ok (.iconst 1, 1) := op_iconst1 (gk (k := 32) (t := 9) ck_X_fewestBehind_1 rfl)
theorem d_X_fewestBehind_42 : decode y_X_fewestBehind.2.1 42 = .ok (.isub, 1) := op_isub (gk (k := 32) (t := 10) ck_X_fewestBehind_1 rfl)
theorem d_X_fewestBehind_43 : decode y_X_fewestBehind.2.1 43 = .ok (.iastore, 1) := op_iastore (gk (k := 32) (t := 11) ck_X_fewestBehind_1 rfl)
theorem d_X_fewestBehind_44 : decode y_X_fewestBehind.2.1 44 = .ok (.aload_n 0, 1) := op_aload_n0 (gk (k := 32) (t := 12) ck_X_fewestBehind_1 rfl)
theorem d_X_fewestBehind_45 : decode y_X_fewestBehind.2.1 45 = .ok (.iload_n 1, 1) := op_iload_n1 (gk (k := 32) (t := 13) ck_X_fewestBehind_1 rfl)
theorem d_X_fewestBehind_46 : decode y_X_fewestBehind.2.1 46 = .ok (.iload_n 2, 1) := op_iload_n2 (gk (k := 32) (t := 14) ck_X_fewestBehind_1 rfl)
theorem d_X_fewestBehind_47 : decode y_X_fewestBehind.2.1 47 = .ok (.iload_n 1, 1) := op_iload_n1 (gk (k := 32) (t := 15) ck_X_fewestBehind_1 rfl)
theorem d_X_fewestBehind_48 : decode y_X_fewestBehind.2.1 48 = .ok (.isub, 1) := op_isub (gk (k := 32) (t := 16) ck_X_fewestBehind_1 rfl)
theorem d_X_fewestBehind_49 : decode y_X_fewestBehind.2.1 49 = .ok (.invokevirtual 374, 3) := op_invokevirtual (gk (k := 32) (t := 17) ck_X_fewestBehind_1 rfl) (gk (k := 32) (t := 18) ck_X_fewestBehind_1 rfl) (gk (k := 32) (t := 19) ck_X_fewestBehind_1 rfl) rfl
theorem d_X_fewestBehind_52 : decode y_X_fewestBehind.2.1 52 = .ok (.istore 4, 2) := op_istore (gk (k := 32) (t := 20) ck_X_fewestBehind_1 rfl) (gk (k := 32) (t := 21) ck_X_fewestBehind_1 rfl) rfl
theorem d_X_fewestBehind_54 : decode y_X_fewestBehind.2.1 54 = .ok (.aload_n 0, 1) := op_aload_n0 (gk (k := 32) (t := 22) ck_X_fewestBehind_1 rfl)
theorem d_X_fewestBehind_55 : decode y_X_fewestBehind.2.1 55 = .ok (.getfield 75, 3) := op_getfield (gk (k := 32) (t := 23) ck_X_fewestBehind_1 rfl) (gk (k := 32) (t := 24) ck_X_fewestBehind_1 rfl) (gk (k := 32) (t := 25) ck_X_fewestBehind_1 rfl) rfl
theorem d_X_fewestBehind_58 : decode y_X_fewestBehind.2.1 58 = .ok (.iload_n 1, 1) := op_iload_n1 (gk (k := 32) (t := 26) ck_X_fewestBehind_1 rfl)
theorem d_X_fewestBehind_59 : decode y_X_fewestBehind.2.1 59 = .ok (.dup2, 1) := op_dup2 (gk (k := 32) (t := 27) ck_X_fewestBehind_1 rfl)
theorem d_X_fewestBehind_60 : decode y_X_fewestBehind.2.1 60 = .ok (.iaload, 1) := op_iaload (gk (k := 32) (t := 28) ck_X_fewestBehind_1 rfl)
theorem d_X_fewestBehind_61 : decode y_X_fewestBehind.2.1 61 = .ok (.iconst 1, 1) := op_iconst1 (gk (k := 32) (t := 29) ck_X_fewestBehind_1 rfl)
theorem d_X_fewestBehind_62 : decode y_X_fewestBehind.2.1 62 = .ok (.iadd, 1) := op_iadd (gk (k := 32) (t := 30) ck_X_fewestBehind_1 rfl)
theorem d_X_fewestBehind_63 : decode y_X_fewestBehind.2.1 63 = .ok (.iastore, 1) := op_iastore (gk (k := 32) (t := 31) ck_X_fewestBehind_1 rfl)
theorem ck_X_fewestBehind_2 : (y_X_fewestBehind.2.1.data.toList.drop 64).take 32 = [21, 4, 29, 162, 0, 8, 21, 4, 167, 0, 4, 29, 172] := by decide +kernel
theorem d_X_fewestBehind_64 : decode y_X_fewestBehind.2.1 64 = .ok (.iload 4, 2) := op_iload (gk (k := 64) (t := 0) ck_X_fewestBehind_2 rfl) (gk (k := 64) (t := 1) ck_X_fewestBehind_2 rfl) rfl
theorem d_X_fewestBehind_66 : decode y_X_fewestBehind.2.1 66 = .ok (.iload_n 3, 1) := op_iload_n3 (gk (k := 64) (t := 2) ck_X_fewestBehind_2 rfl)
theorem d_X_fewestBehind_67 : decode y_X_fewestBehind.2.1 67 = .ok (.if_icmp .ge 8, 3) := op_icmp_ge (gk (k := 64) (t := 3) ck_X_fewestBehind_2 rfl) (gk (k := 64) (t := 4) ck_X_fewestBehind_2 rfl) (gk (k := 64) (t := 5) ck_X_fewestBehind_2 rfl) (by decide +kernel)
theorem d_X_fewestBehind_75 : decode y_X_fewestBehind.2.1 75 = .ok (.iload_n 3, 1) := op_iload_n3 (gk (k := 64) (t := 11) ck_X_fewestBehind_2 rfl)
theorem d_X_fewestBehind_76 : decode y_X_fewestBehind.2.1 76 = .ok (.ireturn, 1) := op_ireturn (gk (k := 64) (t := 12) ck_X_fewestBehind_2 rfl)
theorem d_X_fewestBehind_70 : decode y_X_fewestBehind.2.1 70 = .ok (.iload 4, 2) := op_iload (gk (k := 64) (t := 6) ck_X_fewestBehind_2 rfl) (gk (k := 64) (t := 7) ck_X_fewestBehind_2 rfl) rfl
theorem d_X_fewestBehind_72 : decode y_X_fewestBehind.2.1 72 = .ok (.goto 4, 3) := op_goto (gk (k := 64) (t := 8) ck_X_fewestBehind_2 rfl) (gk (k := 64) (t := 9) ck_X_fewestBehind_2 rfl) (gk (k := 64) (t := 10) ck_X_fewestBehind_2 rfl) (by decide +kernel)
theorem d_X_fewestBehind_4 : decode y_X_fewestBehind.2.1 4 = .ok (.aload_n 0, 1) := op_aload_n0 (gk (k := 0) (t := 4) ck_X_fewestBehind_0 rfl)
theorem lk_X_377 : LkV "SinglesUpModel" 377 y_X_needs := ⟨tw_c7 76 (by decide +kernel) rfl, tw_in 81 (by decide +kernel) rfl, Or.inl (tw_c7 74 (by decide +kernel) rfl)⟩
set_option maxRecDepth 100000 in
theorem mo_X_needs : MOk y_X_needs 0 := ⟨by decide +kernel, tw_c7 77 rfl rfl, tw_c1 12 (by decide +kernel) rfl, by decide +kernel, by decide +kernel, by decide +kernel⟩
theorem d_X_fewestBehind_5 : decode y_X_fewestBehind.2.1 5 = .ok (.invokevirtual 377, 3) := op_invokevirtual (gk (k := 0) (t := 5) ck_X_fewestBehind_0 rfl) (gk (k := 0) (t := 6) ck_X_fewestBehind_0 rfl) (gk (k := 0) (t := 7) ck_X_fewestBehind_0 rfl) rfl
theorem d_X_fewestBehind_8 : decode y_X_fewestBehind.2.1 8 = .ok (.ireturn, 1) := op_ireturn (gk (k := 0) (t := 8) ck_X_fewestBehind_0 rfl)
abbrev y_X_fillsFirst : MI := (⟨"SinglesUpModel", "fillsFirst", "(III)Z"⟩, prog_11_method_78_code, 7, some .boolean)
theorem ck_X_fillsFirst_0 : (y_X_fillsFirst.2.1.data.toList.drop 0).take 32 = [27, 154, 0, 17, 42, 182, 1, 121, 29, 160, 0, 7, 4, 167, 0, 4, 3, 172, 28, 27, 108, 42, 180, 0, 75, 27, 46, 162, 0, 9, 28, 27] := by decide +kernel
theorem d_X_fillsFirst_0 : decode y_X_fillsFirst.2.1 0 = .ok (.iload_n 1, 1) := op_iload_n1 (gk (k := 0) (t := 0) ck_X_fillsFirst_0 rfl)
theorem d_X_fillsFirst_1 : decode y_X_fillsFirst.2.1 1 = .ok (.ifCond .ne 17, 3) := op_if_ne (gk (k := 0) (t := 1) ck_X_fillsFirst_0 rfl) (gk (k := 0) (t := 2) ck_X_fillsFirst_0 rfl) (gk (k := 0) (t := 3) ck_X_fillsFirst_0 rfl) (by decide +kernel)
theorem d_X_fillsFirst_18 : decode y_X_fillsFirst.2.1 18 = .ok (.iload_n 2, 1) := op_iload_n2 (gk (k := 0) (t := 18) ck_X_fillsFirst_0 rfl)
theorem d_X_fillsFirst_19 : decode y_X_fillsFirst.2.1 19 = .ok (.iload_n 1, 1) := op_iload_n1 (gk (k := 0) (t := 19) ck_X_fillsFirst_0 rfl)
theorem d_X_fillsFirst_20 : decode y_X_fillsFirst.2.1 20 = .ok (.idiv, 1) := op_idiv (gk (k := 0) (t := 20) ck_X_fillsFirst_0 rfl)
theorem d_X_fillsFirst_21 : decode y_X_fillsFirst.2.1 21 = .ok (.aload_n 0, 1) := op_aload_n0 (gk (k := 0) (t := 21) ck_X_fillsFirst_0 rfl)
theorem d_X_fillsFirst_22 : decode y_X_fillsFirst.2.1 22 = .ok (.getfield 75, 3) := op_getfield (gk (k := 0) (t := 22) ck_X_fillsFirst_0 rfl) (gk (k := 0) (t := 23) ck_X_fillsFirst_0 rfl) (gk (k := 0) (t := 24) ck_X_fillsFirst_0 rfl) rfl
theorem d_X_fillsFirst_25 : decode y_X_fillsFirst.2.1 25 = .ok (.iload_n 1, 1) := op_iload_n1 (gk (k := 0) (t := 25) ck_X_fillsFirst_0 rfl)
theorem d_X_fillsFirst_26 : decode y_X_fillsFirst.2.1 26 = .ok (.iaload, 1) := op_iaload (gk (k := 0) (t := 26) ck_X_fillsFirst_0 rfl)
theorem ck_X_fillsFirst_1 : (y_X_fillsFirst.2.1.data.toList.drop 32).take 32 = [108, 167, 0, 9, 42, 180, 0, 75, 27, 46, 54, 4, 21, 4, 54, 5, 21, 5, 155, 0, 76, 42, 180, 0, 75, 27, 92, 46, 21, 5, 100, 79] := by decide +kernel
theorem d_X_fillsFirst_42 : decode y_X_fillsFirst.2.1 42 = .ok (.istore 4, 2) := op_istore (gk (k := 32) (t := 10) ck_X_fillsFirst_1 rfl) (gk (k := 32) (t := 11) ck_X_fillsFirst_1 rfl) rfl
theorem d_X_fillsFirst_44 : decode y_X_fillsFirst.2.1 44 = .ok (.iload 4, 2) := op_iload (gk (k := 32) (t := 12) ck_X_fillsFirst_1 rfl) (gk (k := 32) (t := 13) ck_X_fillsFirst_1 rfl) rfl
theorem d_X_fillsFirst_46 : decode y_X_fillsFirst.2.1 46 = .ok (.istore 5, 2) := op_istore (gk (k := 32) (t := 14) ck_X_fillsFirst_1 rfl) (gk (k := 32) (t := 15) ck_X_fillsFirst_1 rfl) rfl
theorem d_X_fillsFirst_48 : decode y_X_fillsFirst.2.1 48 = .ok (.iload 5, 2) := op_iload (gk (k := 32) (t := 16) ck_X_fillsFirst_1 rfl) (gk (k := 32) (t := 17) ck_X_fillsFirst_1 rfl) rfl
theorem d_X_fillsFirst_50 : decode y_X_fillsFirst.2.1 50 = .ok (.ifCond .lt 76, 3) := op_if_lt (gk (k := 32) (t := 18) ck_X_fillsFirst_1 rfl) (gk (k := 32) (t := 19) ck_X_fillsFirst_1 rfl) (gk (k := 32) (t := 20) ck_X_fillsFirst_1 rfl) (by decide +kernel)
theorem ck_X_fillsFirst_3 : (y_X_fillsFirst.2.1.data.toList.drop 96).take 32 = [92, 46, 21, 5, 96, 79, 21, 6, 153, 0, 5, 4, 172, 42, 180, 0, 81, 27, 92, 46, 21, 5, 100, 79, 132, 5, 255, 167, 255, 181, 3, 172] := by decide +kernel
theorem d_X_fillsFirst_126 : decode y_X_fillsFirst.2.1 126 = .ok (.iconst 0, 1) := op_iconst0 (gk (k := 96) (t := 30) ck_X_fillsFirst_3 rfl)
theorem d_X_fillsFirst_127 : decode y_X_fillsFirst.2.1 127 = .ok (.ireturn, 1) := op_ireturn (gk (k := 96) (t := 31) ck_X_fillsFirst_3 rfl)
theorem d_X_fillsFirst_53 : decode y_X_fillsFirst.2.1 53 = .ok (.aload_n 0, 1) := op_aload_n0 (gk (k := 32) (t := 21) ck_X_fillsFirst_1 rfl)
theorem d_X_fillsFirst_54 : decode y_X_fillsFirst.2.1 54 = .ok (.getfield 75, 3) := op_getfield (gk (k := 32) (t := 22) ck_X_fillsFirst_1 rfl) (gk (k := 32) (t := 23) ck_X_fillsFirst_1 rfl) (gk (k := 32) (t := 24) ck_X_fillsFirst_1 rfl) rfl
theorem d_X_fillsFirst_57 : decode y_X_fillsFirst.2.1 57 = .ok (.iload_n 1, 1) := op_iload_n1 (gk (k := 32) (t := 25) ck_X_fillsFirst_1 rfl)
theorem d_X_fillsFirst_58 : decode y_X_fillsFirst.2.1 58 = .ok (.dup2, 1) := op_dup2 (gk (k := 32) (t := 26) ck_X_fillsFirst_1 rfl)
theorem d_X_fillsFirst_59 : decode y_X_fillsFirst.2.1 59 = .ok (.iaload, 1) := op_iaload (gk (k := 32) (t := 27) ck_X_fillsFirst_1 rfl)
theorem d_X_fillsFirst_60 : decode y_X_fillsFirst.2.1 60 = .ok (.iload 5, 2) := op_iload (gk (k := 32) (t := 28) ck_X_fillsFirst_1 rfl) (gk (k := 32) (t := 29) ck_X_fillsFirst_1 rfl) rfl
theorem d_X_fillsFirst_62 : decode y_X_fillsFirst.2.1 62 = .ok (.isub, 1) := op_isub (gk (k := 32) (t := 30) ck_X_fillsFirst_1 rfl)
theorem d_X_fillsFirst_63 : decode y_X_fillsFirst.2.1 63 = .ok (.iastore, 1) := op_iastore (gk (k := 32) (t := 31) ck_X_fillsFirst_1 rfl)
theorem ck_X_fillsFirst_2 : (y_X_fillsFirst.2.1.data.toList.drop 64).take 32 = [42, 180, 0, 81, 27, 92, 46, 21, 5, 96, 79, 42, 27, 4, 100, 28, 21, 5, 27, 104, 100, 29, 182, 1, 124, 54, 6, 42, 180, 0, 75, 27] := by decide +kernel
theorem d_X_fillsFirst_64 : decode y_X_fillsFirst.2.1 64 = .ok (.aload_n 0, 1) := op_aload_n0 (gk (k := 64) (t := 0) ck_X_fillsFirst_2 rfl)
theorem fl_X_81 : FL "SinglesUpModel" 81 9 44 := ⟨"SinglesUpModel", zT9, 51, rfl, by decide, rfl, Or.inl (tw_c5 137 (by decide +kernel) rfl)⟩
theorem rm_9_44 : ∀ o, KM[o]? = some (12, 51) → RM o 44 = some (o + 21) ∧ KM[o + 21]? = some (0, 9) := by
  intro o h
  have hl : o < 26 := (List.getElem?_eq_some_iff.mp h).1
  exact (by decide +kernel : ∀ o, o < 26 → KM[o]? = some (12, 51) → RM o 44 = some (o + 21) ∧ KM[o + 21]? = some (0, 9)) o hl h
theorem d_X_fillsFirst_65 : decode y_X_fillsFirst.2.1 65 = .ok (.getfield 81, 3) := op_getfield (gk (k := 64) (t := 1) ck_X_fillsFirst_2 rfl) (gk (k := 64) (t := 2) ck_X_fillsFirst_2 rfl) (gk (k := 64) (t := 3) ck_X_fillsFirst_2 rfl) rfl
theorem d_X_fillsFirst_68 : decode y_X_fillsFirst.2.1 68 = .ok (.iload_n 1, 1) := op_iload_n1 (gk (k := 64) (t := 4) ck_X_fillsFirst_2 rfl)
theorem d_X_fillsFirst_69 : decode y_X_fillsFirst.2.1 69 = .ok (.dup2, 1) := op_dup2 (gk (k := 64) (t := 5) ck_X_fillsFirst_2 rfl)
theorem d_X_fillsFirst_70 : decode y_X_fillsFirst.2.1 70 = .ok (.iaload, 1) := op_iaload (gk (k := 64) (t := 6) ck_X_fillsFirst_2 rfl)
theorem d_X_fillsFirst_71 : decode y_X_fillsFirst.2.1 71 = .ok (.iload 5, 2) := op_iload (gk (k := 64) (t := 7) ck_X_fillsFirst_2 rfl) (gk (k := 64) (t := 8) ck_X_fillsFirst_2 rfl) rfl
theorem d_X_fillsFirst_73 : decode y_X_fillsFirst.2.1 73 = .ok (.iadd, 1) := op_iadd (gk (k := 64) (t := 9) ck_X_fillsFirst_2 rfl)
theorem d_X_fillsFirst_74 : decode y_X_fillsFirst.2.1 74 = .ok (.iastore, 1) := op_iastore (gk (k := 64) (t := 10) ck_X_fillsFirst_2 rfl)
theorem d_X_fillsFirst_75 : decode y_X_fillsFirst.2.1 75 = .ok (.aload_n 0, 1) := op_aload_n0 (gk (k := 64) (t := 11) ck_X_fillsFirst_2 rfl)
theorem d_X_fillsFirst_76 : decode y_X_fillsFirst.2.1 76 = .ok (.iload_n 1, 1) := op_iload_n1 (gk (k := 64) (t := 12) ck_X_fillsFirst_2 rfl)
theorem d_X_fillsFirst_77 : decode y_X_fillsFirst.2.1 77 = .ok (.iconst 1, 1) := op_iconst1 (gk (k := 64) (t := 13) ck_X_fillsFirst_2 rfl)
theorem d_X_fillsFirst_78 : decode y_X_fillsFirst.2.1 78 = .ok (.isub, 1) := op_isub (gk (k := 64) (t := 14) ck_X_fillsFirst_2 rfl)
theorem d_X_fillsFirst_79 : decode y_X_fillsFirst.2.1 79 = .ok (.iload_n 2, 1) := op_iload_n2 (gk (k := 64) (t := 15) ck_X_fillsFirst_2 rfl)
theorem d_X_fillsFirst_80 : decode y_X_fillsFirst.2.1 80 = .ok (.iload 5, 2) := op_iload (gk (k := 64) (t := 16) ck_X_fillsFirst_2 rfl) (gk (k := 64) (t := 17) ck_X_fillsFirst_2 rfl) rfl
theorem d_X_fillsFirst_82 : decode y_X_fillsFirst.2.1 82 = .ok (.iload_n 1, 1) := op_iload_n1 (gk (k := 64) (t := 18) ck_X_fillsFirst_2 rfl)
theorem d_X_fillsFirst_83 : decode y_X_fillsFirst.2.1 83 = .ok (.imul, 1) := op_imul (gk (k := 64) (t := 19) ck_X_fillsFirst_2 rfl)
theorem d_X_fillsFirst_84 : decode y_X_fillsFirst.2.1 84 = .ok (.isub, 1) := op_isub (gk (k := 64) (t := 20) ck_X_fillsFirst_2 rfl)
theorem d_X_fillsFirst_85 : decode y_X_fillsFirst.2.1 85 = .ok (.iload_n 3, 1) := op_iload_n3 (gk (k := 64) (t := 21) ck_X_fillsFirst_2 rfl)
theorem lk_X_380 : LkV "SinglesUpModel" 380 y_X_fillsFirst := ⟨tw_c7 92 (by decide +kernel) rfl, tw_in 85 (by decide +kernel) rfl, Or.inl (tw_c7 90 (by decide +kernel) rfl)⟩
set_option maxRecDepth 100000 in
theorem mo_X_fillsFirst : MOk y_X_fillsFirst 3 := ⟨by decide +kernel, tw_c7 93 rfl rfl, tw_c1 12 (by decide +kernel) rfl, by decide +kernel, by decide +kernel, by decide +kernel⟩
theorem d_X_fillsFirst_86 : decode y_X_fillsFirst.2.1 86 = .ok (.invokevirtual 380, 3) := op_invokevirtual (gk (k := 64) (t := 22) ck_X_fillsFirst_2 rfl) (gk (k := 64) (t := 23) ck_X_fillsFirst_2 rfl) (gk (k := 64) (t := 24) ck_X_fillsFirst_2 rfl) rfl
theorem d_X_fillsFirst_89 : decode y_X_fillsFirst.2.1 89 = .ok (.istore 6, 2) := op_istore (gk (k := 64) (t := 25) ck_X_fillsFirst_2 rfl) (gk (k := 64) (t := 26) ck_X_fillsFirst_2 rfl) rfl
theorem d_X_fillsFirst_91 : decode y_X_fillsFirst.2.1 91 = .ok (.aload_n 0, 1) := op_aload_n0 (gk (k := 64) (t := 27) ck_X_fillsFirst_2 rfl)
theorem d_X_fillsFirst_92 : decode y_X_fillsFirst.2.1 92 = .ok (.getfield 75, 3) := op_getfield (gk (k := 64) (t := 28) ck_X_fillsFirst_2 rfl) (gk (k := 64) (t := 29) ck_X_fillsFirst_2 rfl) (gk (k := 64) (t := 30) ck_X_fillsFirst_2 rfl) rfl
theorem d_X_fillsFirst_95 : decode y_X_fillsFirst.2.1 95 = .ok (.iload_n 1, 1) := op_iload_n1 (gk (k := 64) (t := 31) ck_X_fillsFirst_2 rfl)
theorem d_X_fillsFirst_96 : decode y_X_fillsFirst.2.1 96 = .ok (.dup2, 1) := op_dup2 (gk (k := 96) (t := 0) ck_X_fillsFirst_3 rfl)
theorem d_X_fillsFirst_97 : decode y_X_fillsFirst.2.1 97 = .ok (.iaload, 1) := op_iaload (gk (k := 96) (t := 1) ck_X_fillsFirst_3 rfl)
theorem d_X_fillsFirst_98 : decode y_X_fillsFirst.2.1 98 = .ok (.iload 5, 2) := op_iload (gk (k := 96) (t := 2) ck_X_fillsFirst_3 rfl) (gk (k := 96) (t := 3) ck_X_fillsFirst_3 rfl) rfl
theorem d_X_fillsFirst_100 : decode y_X_fillsFirst.2.1 100 = .ok (.iadd, 1) := op_iadd (gk (k := 96) (t := 4) ck_X_fillsFirst_3 rfl)
theorem d_X_fillsFirst_101 : decode y_X_fillsFirst.2.1 101 = .ok (.iastore, 1) := op_iastore (gk (k := 96) (t := 5) ck_X_fillsFirst_3 rfl)
theorem d_X_fillsFirst_102 : decode y_X_fillsFirst.2.1 102 = .ok (.iload 6, 2) := op_iload (gk (k := 96) (t := 6) ck_X_fillsFirst_3 rfl) (gk (k := 96) (t := 7) ck_X_fillsFirst_3 rfl) rfl
theorem d_X_fillsFirst_104 : decode y_X_fillsFirst.2.1 104 = .ok (.ifCond .eq 5, 3) := op_if_eq (gk (k := 96) (t := 8) ck_X_fillsFirst_3 rfl) (gk (k := 96) (t := 9) ck_X_fillsFirst_3 rfl) (gk (k := 96) (t := 10) ck_X_fillsFirst_3 rfl) (by decide +kernel)
theorem d_X_fillsFirst_109 : decode y_X_fillsFirst.2.1 109 = .ok (.aload_n 0, 1) := op_aload_n0 (gk (k := 96) (t := 13) ck_X_fillsFirst_3 rfl)
theorem d_X_fillsFirst_110 : decode y_X_fillsFirst.2.1 110 = .ok (.getfield 81, 3) := op_getfield (gk (k := 96) (t := 14) ck_X_fillsFirst_3 rfl) (gk (k := 96) (t := 15) ck_X_fillsFirst_3 rfl) (gk (k := 96) (t := 16) ck_X_fillsFirst_3 rfl) rfl
theorem d_X_fillsFirst_113 : decode y_X_fillsFirst.2.1 113 = .ok (.iload_n 1, 1) := op_iload_n1 (gk (k := 96) (t := 17) ck_X_fillsFirst_3 rfl)
theorem d_X_fillsFirst_114 : decode y_X_fillsFirst.2.1 114 = .ok (.dup2, 1) := op_dup2 (gk (k := 96) (t := 18) ck_X_fillsFirst_3 rfl)
theorem d_X_fillsFirst_115 : decode y_X_fillsFirst.2.1 115 = .ok (.iaload, 1) := op_iaload (gk (k := 96) (t := 19) ck_X_fillsFirst_3 rfl)
theorem d_X_fillsFirst_116 : decode y_X_fillsFirst.2.1 116 = .ok (.iload 5, 2) := op_iload (gk (k := 96) (t := 20) ck_X_fillsFirst_3 rfl) (gk (k := 96) (t := 21) ck_X_fillsFirst_3 rfl) rfl
theorem d_X_fillsFirst_118 : decode y_X_fillsFirst.2.1 118 = .ok (.isub, 1) := op_isub (gk (k := 96) (t := 22) ck_X_fillsFirst_3 rfl)
theorem d_X_fillsFirst_119 : decode y_X_fillsFirst.2.1 119 = .ok (.iastore, 1) := op_iastore (gk (k := 96) (t := 23) ck_X_fillsFirst_3 rfl)
theorem d_X_fillsFirst_120 : decode y_X_fillsFirst.2.1 120 = .ok (.iinc 5 (-1), 3) := op_iinc (gk (k := 96) (t := 24) ck_X_fillsFirst_3 rfl) (gk (k := 96) (t := 25) ck_X_fillsFirst_3 rfl) (gk (k := 96) (t := 26) ck_X_fillsFirst_3 rfl) rfl rfl
theorem d_X_fillsFirst_123 : decode y_X_fillsFirst.2.1 123 = .ok (.goto (-75), 3) := op_goto (gk (k := 96) (t := 27) ck_X_fillsFirst_3 rfl) (gk (k := 96) (t := 28) ck_X_fillsFirst_3 rfl) (gk (k := 96) (t := 29) ck_X_fillsFirst_3 rfl) (by decide +kernel)
theorem d_X_fillsFirst_107 : decode y_X_fillsFirst.2.1 107 = .ok (.iconst 1, 1) := op_iconst1 (gk (k := 96) (t := 11) ck_X_fillsFirst_3 rfl)
theorem d_X_fillsFirst_108 : decode y_X_fillsFirst.2.1 108 = .ok (.ireturn, 1) := op_ireturn (gk (k := 96) (t := 12) ck_X_fillsFirst_3 rfl)
theorem d_X_fillsFirst_27 : decode y_X_fillsFirst.2.1 27 = .ok (.if_icmp .ge 9, 3) := op_icmp_ge (gk (k := 0) (t := 27) ck_X_fillsFirst_0 rfl) (gk (k := 0) (t := 28) ck_X_fillsFirst_0 rfl) (gk (k := 0) (t := 29) ck_X_fillsFirst_0 rfl) (by decide +kernel)
theorem d_X_fillsFirst_36 : decode y_X_fillsFirst.2.1 36 = .ok (.aload_n 0, 1) := op_aload_n0 (gk (k := 32) (t := 4) ck_X_fillsFirst_1 rfl)
theorem d_X_fillsFirst_37 : decode y_X_fillsFirst.2.1 37 = .ok (.getfield 75, 3) := op_getfield (gk (k := 32) (t := 5) ck_X_fillsFirst_1 rfl) (gk (k := 32) (t := 6) ck_X_fillsFirst_1 rfl) (gk (k := 32) (t := 7) ck_X_fillsFirst_1 rfl) rfl
theorem d_X_fillsFirst_40 : decode y_X_fillsFirst.2.1 40 = .ok (.iload_n 1, 1) := op_iload_n1 (gk (k := 32) (t := 8) ck_X_fillsFirst_1 rfl)
theorem d_X_fillsFirst_41 : decode y_X_fillsFirst.2.1 41 = .ok (.iaload, 1) := op_iaload (gk (k := 32) (t := 9) ck_X_fillsFirst_1 rfl)
theorem d_X_fillsFirst_30 : decode y_X_fillsFirst.2.1 30 = .ok (.iload_n 2, 1) := op_iload_n2 (gk (k := 0) (t := 30) ck_X_fillsFirst_0 rfl)
theorem d_X_fillsFirst_31 : decode y_X_fillsFirst.2.1 31 = .ok (.iload_n 1, 1) := op_iload_n1 (gk (k := 0) (t := 31) ck_X_fillsFirst_0 rfl)
theorem d_X_fillsFirst_32 : decode y_X_fillsFirst.2.1 32 = .ok (.idiv, 1) := op_idiv (gk (k := 32) (t := 0) ck_X_fillsFirst_1 rfl)
theorem d_X_fillsFirst_33 : decode y_X_fillsFirst.2.1 33 = .ok (.goto 9, 3) := op_goto (gk (k := 32) (t := 1) ck_X_fillsFirst_1 rfl) (gk (k := 32) (t := 2) ck_X_fillsFirst_1 rfl) (gk (k := 32) (t := 3) ck_X_fillsFirst_1 rfl) (by decide +kernel)
theorem d_X_fillsFirst_4 : decode y_X_fillsFirst.2.1 4 = .ok (.aload_n 0, 1) := op_aload_n0 (gk (k := 0) (t := 4) ck_X_fillsFirst_0 rfl)
theorem d_X_fillsFirst_5 : decode y_X_fillsFirst.2.1 5 = .ok (.invokevirtual 377, 3) := op_invokevirtual (gk (k := 0) (t := 5) ck_X_fillsFirst_0 rfl) (gk (k := 0) (t := 6) ck_X_fillsFirst_0 rfl) (gk (k := 0) (t := 7) ck_X_fillsFirst_0 rfl) rfl
theorem d_X_fillsFirst_8 : decode y_X_fillsFirst.2.1 8 = .ok (.iload_n 3, 1) := op_iload_n3 (gk (k := 0) (t := 8) ck_X_fillsFirst_0 rfl)
theorem d_X_fillsFirst_9 : decode y_X_fillsFirst.2.1 9 = .ok (.if_icmp .ne 7, 3) := op_icmp_ne (gk (k := 0) (t := 9) ck_X_fillsFirst_0 rfl) (gk (k := 0) (t := 10) ck_X_fillsFirst_0 rfl) (gk (k := 0) (t := 11) ck_X_fillsFirst_0 rfl) (by decide +kernel)
theorem d_X_fillsFirst_16 : decode y_X_fillsFirst.2.1 16 = .ok (.iconst 0, 1) := op_iconst0 (gk (k := 0) (t := 16) ck_X_fillsFirst_0 rfl)
theorem d_X_fillsFirst_17 : decode y_X_fillsFirst.2.1 17 = .ok (.ireturn, 1) := op_ireturn (gk (k := 0) (t := 17) ck_X_fillsFirst_0 rfl)
theorem d_X_fillsFirst_12 : decode y_X_fillsFirst.2.1 12 = .ok (.iconst 1, 1) := op_iconst1 (gk (k := 0) (t := 12) ck_X_fillsFirst_0 rfl)
theorem d_X_fillsFirst_13 : decode y_X_fillsFirst.2.1 13 = .ok (.goto 4, 3) := op_goto (gk (k := 0) (t := 13) ck_X_fillsFirst_0 rfl) (gk (k := 0) (t := 14) ck_X_fillsFirst_0 rfl) (gk (k := 0) (t := 15) ck_X_fillsFirst_0 rfl) (by decide +kernel)
abbrev y_X_fewest : MI := (⟨"SinglesUpModel", "fewest", "(I)I"⟩, prog_11_method_79_code, 6, some .int)
theorem ck_X_fewest_0 : (y_X_fewest.2.1.data.toList.drop 0).take 32 = [27, 3, 16, 8, 184, 0, 98, 154, 0, 5, 2, 172, 4, 61, 4, 62, 29, 16, 8, 163, 0, 70, 42, 180, 0, 75, 29, 42, 180, 0, 7, 16] := by decide +kernel
theorem d_X_fewest_0 : decode y_X_fewest.2.1 0 = .ok (.iload_n 1, 1) := op_iload_n1 (gk (k := 0) (t := 0) ck_X_fewest_0 rfl)
theorem d_X_fewest_1 : decode y_X_fewest.2.1 1 = .ok (.iconst 0, 1) := op_iconst0 (gk (k := 0) (t := 1) ck_X_fewest_0 rfl)
theorem d_X_fewest_2 : decode y_X_fewest.2.1 2 = .ok (.bipush 8, 2) := op_bipush (gk (k := 0) (t := 2) ck_X_fewest_0 rfl) (gk (k := 0) (t := 3) ck_X_fewest_0 rfl) rfl
theorem d_X_fewest_4 : decode y_X_fewest.2.1 4 = .ok (.invokestatic 98, 3) := op_invokestatic (gk (k := 0) (t := 4) ck_X_fewest_0 rfl) (gk (k := 0) (t := 5) ck_X_fewest_0 rfl) (gk (k := 0) (t := 6) ck_X_fewest_0 rfl) rfl
theorem d_X_fewest_7 : decode y_X_fewest.2.1 7 = .ok (.ifCond .ne 5, 3) := op_if_ne (gk (k := 0) (t := 7) ck_X_fewest_0 rfl) (gk (k := 0) (t := 8) ck_X_fewest_0 rfl) (gk (k := 0) (t := 9) ck_X_fewest_0 rfl) (by decide +kernel)
theorem d_X_fewest_12 : decode y_X_fewest.2.1 12 = .ok (.iconst 1, 1) := op_iconst1 (gk (k := 0) (t := 12) ck_X_fewest_0 rfl)
theorem d_X_fewest_13 : decode y_X_fewest.2.1 13 = .ok (.istore_n 2, 1) := op_istore_n2 (gk (k := 0) (t := 13) ck_X_fewest_0 rfl)
theorem d_X_fewest_14 : decode y_X_fewest.2.1 14 = .ok (.iconst 1, 1) := op_iconst1 (gk (k := 0) (t := 14) ck_X_fewest_0 rfl)
theorem d_X_fewest_15 : decode y_X_fewest.2.1 15 = .ok (.istore_n 3, 1) := op_istore_n3 (gk (k := 0) (t := 15) ck_X_fewest_0 rfl)
theorem d_X_fewest_16 : decode y_X_fewest.2.1 16 = .ok (.iload_n 3, 1) := op_iload_n3 (gk (k := 0) (t := 16) ck_X_fewest_0 rfl)
theorem d_X_fewest_17 : decode y_X_fewest.2.1 17 = .ok (.bipush 8, 2) := op_bipush (gk (k := 0) (t := 17) ck_X_fewest_0 rfl) (gk (k := 0) (t := 18) ck_X_fewest_0 rfl) rfl
theorem d_X_fewest_19 : decode y_X_fewest.2.1 19 = .ok (.if_icmp .gt 70, 3) := op_icmp_gt (gk (k := 0) (t := 19) ck_X_fewest_0 rfl) (gk (k := 0) (t := 20) ck_X_fewest_0 rfl) (gk (k := 0) (t := 21) ck_X_fewest_0 rfl) (by decide +kernel)
theorem d_X_fewest_22 : decode y_X_fewest.2.1 22 = .ok (.aload_n 0, 1) := op_aload_n0 (gk (k := 0) (t := 22) ck_X_fewest_0 rfl)
theorem d_X_fewest_23 : decode y_X_fewest.2.1 23 = .ok (.getfield 75, 3) := op_getfield (gk (k := 0) (t := 23) ck_X_fewest_0 rfl) (gk (k := 0) (t := 24) ck_X_fewest_0 rfl) (gk (k := 0) (t := 25) ck_X_fewest_0 rfl) rfl
theorem d_X_fewest_26 : decode y_X_fewest.2.1 26 = .ok (.iload_n 3, 1) := op_iload_n3 (gk (k := 0) (t := 26) ck_X_fewest_0 rfl)
theorem d_X_fewest_27 : decode y_X_fewest.2.1 27 = .ok (.aload_n 0, 1) := op_aload_n0 (gk (k := 0) (t := 27) ck_X_fewest_0 rfl)
theorem d_X_fewest_28 : decode y_X_fewest.2.1 28 = .ok (.getfield 7, 3) := op_getfield (gk (k := 0) (t := 28) ck_X_fewest_0 rfl) (gk (k := 0) (t := 29) ck_X_fewest_0 rfl) (gk (k := 0) (t := 30) ck_X_fewest_0 rfl) rfl
theorem ck_X_fewest_1 : (y_X_fewest.2.1.data.toList.drop 32).take 32 = [60, 29, 96, 46, 79, 42, 180, 0, 81, 29, 3, 79, 42, 180, 0, 78, 29, 28, 79, 28, 42, 180, 0, 75, 29, 46, 4, 96, 104, 61, 42, 180] := by decide +kernel
theorem d_X_fewest_31 : decode y_X_fewest.2.1 31 = .ok (.bipush 60, 2) := op_bipush (gk (k := 0) (t := 31) ck_X_fewest_0 rfl) (gk (k := 32) (t := 0) ck_X_fewest_1 rfl) rfl
theorem d_X_fewest_33 : decode y_X_fewest.2.1 33 = .ok (.iload_n 3, 1) := op_iload_n3 (gk (k := 32) (t := 1) ck_X_fewest_1 rfl)
theorem d_X_fewest_34 : decode y_X_fewest.2.1 34 = .ok (.iadd, 1) := op_iadd (gk (k := 32) (t := 2) ck_X_fewest_1 rfl)
theorem d_X_fewest_35 : decode y_X_fewest.2.1 35 = .ok (.iaload, 1) := op_iaload (gk (k := 32) (t := 3) ck_X_fewest_1 rfl)
theorem d_X_fewest_36 : decode y_X_fewest.2.1 36 = .ok (.iastore, 1) := op_iastore (gk (k := 32) (t := 4) ck_X_fewest_1 rfl)
theorem d_X_fewest_37 : decode y_X_fewest.2.1 37 = .ok (.aload_n 0, 1) := op_aload_n0 (gk (k := 32) (t := 5) ck_X_fewest_1 rfl)
theorem d_X_fewest_38 : decode y_X_fewest.2.1 38 = .ok (.getfield 81, 3) := op_getfield (gk (k := 32) (t := 6) ck_X_fewest_1 rfl) (gk (k := 32) (t := 7) ck_X_fewest_1 rfl) (gk (k := 32) (t := 8) ck_X_fewest_1 rfl) rfl
theorem d_X_fewest_41 : decode y_X_fewest.2.1 41 = .ok (.iload_n 3, 1) := op_iload_n3 (gk (k := 32) (t := 9) ck_X_fewest_1 rfl)
theorem d_X_fewest_42 : decode y_X_fewest.2.1 42 = .ok (.iconst 0, 1) := op_iconst0 (gk (k := 32) (t := 10) ck_X_fewest_1 rfl)
theorem d_X_fewest_43 : decode y_X_fewest.2.1 43 = .ok (.iastore, 1) := op_iastore (gk (k := 32) (t := 11) ck_X_fewest_1 rfl)
theorem d_X_fewest_44 : decode y_X_fewest.2.1 44 = .ok (.aload_n 0, 1) := op_aload_n0 (gk (k := 32) (t := 12) ck_X_fewest_1 rfl)
theorem d_X_fewest_45 : decode y_X_fewest.2.1 45 = .ok (.getfield 78, 3) := op_getfield (gk (k := 32) (t := 13) ck_X_fewest_1 rfl) (gk (k := 32) (t := 14) ck_X_fewest_1 rfl) (gk (k := 32) (t := 15) ck_X_fewest_1 rfl) rfl
theorem d_X_fewest_48 : decode y_X_fewest.2.1 48 = .ok (.iload_n 3, 1) := op_iload_n3 (gk (k := 32) (t := 16) ck_X_fewest_1 rfl)
theorem d_X_fewest_49 : decode y_X_fewest.2.1 49 = .ok (.iload_n 2, 1) := op_iload_n2 (gk (k := 32) (t := 17) ck_X_fewest_1 rfl)
theorem d_X_fewest_50 : decode y_X_fewest.2.1 50 = .ok (.iastore, 1) := op_iastore (gk (k := 32) (t := 18) ck_X_fewest_1 rfl)
theorem d_X_fewest_51 : decode y_X_fewest.2.1 51 = .ok (.iload_n 2, 1) := op_iload_n2 (gk (k := 32) (t := 19) ck_X_fewest_1 rfl)
theorem d_X_fewest_52 : decode y_X_fewest.2.1 52 = .ok (.aload_n 0, 1) := op_aload_n0 (gk (k := 32) (t := 20) ck_X_fewest_1 rfl)
theorem d_X_fewest_53 : decode y_X_fewest.2.1 53 = .ok (.getfield 75, 3) := op_getfield (gk (k := 32) (t := 21) ck_X_fewest_1 rfl) (gk (k := 32) (t := 22) ck_X_fewest_1 rfl) (gk (k := 32) (t := 23) ck_X_fewest_1 rfl) rfl
theorem d_X_fewest_56 : decode y_X_fewest.2.1 56 = .ok (.iload_n 3, 1) := op_iload_n3 (gk (k := 32) (t := 24) ck_X_fewest_1 rfl)
theorem d_X_fewest_57 : decode y_X_fewest.2.1 57 = .ok (.iaload, 1) := op_iaload (gk (k := 32) (t := 25) ck_X_fewest_1 rfl)
theorem d_X_fewest_58 : decode y_X_fewest.2.1 58 = .ok (.iconst 1, 1) := op_iconst1 (gk (k := 32) (t := 26) ck_X_fewest_1 rfl)
theorem d_X_fewest_59 : decode y_X_fewest.2.1 59 = .ok (.iadd, 1) := op_iadd (gk (k := 32) (t := 27) ck_X_fewest_1 rfl)
theorem d_X_fewest_60 : decode y_X_fewest.2.1 60 = .ok (.imul, 1) := op_imul (gk (k := 32) (t := 28) ck_X_fewest_1 rfl)
theorem d_X_fewest_61 : decode y_X_fewest.2.1 61 = .ok (.istore_n 2, 1) := op_istore_n2 (gk (k := 32) (t := 29) ck_X_fewest_1 rfl)
theorem d_X_fewest_62 : decode y_X_fewest.2.1 62 = .ok (.aload_n 0, 1) := op_aload_n0 (gk (k := 32) (t := 30) ck_X_fewest_1 rfl)
theorem ck_X_fewest_2 : (y_X_fewest.2.1.data.toList.drop 64).take 32 = [0, 75, 29, 46, 158, 0, 15, 29, 42, 180, 0, 7, 4, 46, 164, 0, 5, 2, 172, 132, 3, 1, 167, 255, 186, 3, 62, 29, 28, 162, 0, 16] := by decide +kernel
theorem d_X_fewest_63 : decode y_X_fewest.2.1 63 = .ok (.getfield 75, 3) := op_getfield (gk (k := 32) (t := 31) ck_X_fewest_1 rfl) (gk (k := 64) (t := 0) ck_X_fewest_2 rfl) (gk (k := 64) (t := 1) ck_X_fewest_2 rfl) rfl
theorem d_X_fewest_66 : decode y_X_fewest.2.1 66 = .ok (.iload_n 3, 1) := op_iload_n3 (gk (k := 64) (t := 2) ck_X_fewest_2 rfl)
theorem d_X_fewest_67 : decode y_X_fewest.2.1 67 = .ok (.iaload, 1) := op_iaload (gk (k := 64) (t := 3) ck_X_fewest_2 rfl)
theorem d_X_fewest_83 : decode y_X_fewest.2.1 83 = .ok (.iinc 3 1, 3) := op_iinc (gk (k := 64) (t := 19) ck_X_fewest_2 rfl) (gk (k := 64) (t := 20) ck_X_fewest_2 rfl) (gk (k := 64) (t := 21) ck_X_fewest_2 rfl) rfl rfl
theorem d_X_fewest_86 : decode y_X_fewest.2.1 86 = .ok (.goto (-70), 3) := op_goto (gk (k := 64) (t := 22) ck_X_fewest_2 rfl) (gk (k := 64) (t := 23) ck_X_fewest_2 rfl) (gk (k := 64) (t := 24) ck_X_fewest_2 rfl) (by decide +kernel)
theorem d_X_fewest_68 : decode y_X_fewest.2.1 68 = .ok (.ifCond .le 15, 3) := op_if_le (gk (k := 64) (t := 4) ck_X_fewest_2 rfl) (gk (k := 64) (t := 5) ck_X_fewest_2 rfl) (gk (k := 64) (t := 6) ck_X_fewest_2 rfl) (by decide +kernel)
theorem d_X_fewest_71 : decode y_X_fewest.2.1 71 = .ok (.iload_n 3, 1) := op_iload_n3 (gk (k := 64) (t := 7) ck_X_fewest_2 rfl)
theorem d_X_fewest_72 : decode y_X_fewest.2.1 72 = .ok (.aload_n 0, 1) := op_aload_n0 (gk (k := 64) (t := 8) ck_X_fewest_2 rfl)
theorem d_X_fewest_73 : decode y_X_fewest.2.1 73 = .ok (.getfield 7, 3) := op_getfield (gk (k := 64) (t := 9) ck_X_fewest_2 rfl) (gk (k := 64) (t := 10) ck_X_fewest_2 rfl) (gk (k := 64) (t := 11) ck_X_fewest_2 rfl) rfl
theorem d_X_fewest_76 : decode y_X_fewest.2.1 76 = .ok (.iconst 1, 1) := op_iconst1 (gk (k := 64) (t := 12) ck_X_fewest_2 rfl)
theorem d_X_fewest_77 : decode y_X_fewest.2.1 77 = .ok (.iaload, 1) := op_iaload (gk (k := 64) (t := 13) ck_X_fewest_2 rfl)
theorem d_X_fewest_78 : decode y_X_fewest.2.1 78 = .ok (.if_icmp .le 5, 3) := op_icmp_le (gk (k := 64) (t := 14) ck_X_fewest_2 rfl) (gk (k := 64) (t := 15) ck_X_fewest_2 rfl) (gk (k := 64) (t := 16) ck_X_fewest_2 rfl) (by decide +kernel)
theorem d_X_fewest_81 : decode y_X_fewest.2.1 81 = .ok (.iconst (-1), 1) := op_iconstm1 (gk (k := 64) (t := 17) ck_X_fewest_2 rfl)
theorem d_X_fewest_82 : decode y_X_fewest.2.1 82 = .ok (.ireturn, 1) := op_ireturn (gk (k := 64) (t := 18) ck_X_fewest_2 rfl)
theorem d_X_fewest_89 : decode y_X_fewest.2.1 89 = .ok (.iconst 0, 1) := op_iconst0 (gk (k := 64) (t := 25) ck_X_fewest_2 rfl)
theorem d_X_fewest_90 : decode y_X_fewest.2.1 90 = .ok (.istore_n 3, 1) := op_istore_n3 (gk (k := 64) (t := 26) ck_X_fewest_2 rfl)
theorem d_X_fewest_91 : decode y_X_fewest.2.1 91 = .ok (.iload_n 3, 1) := op_iload_n3 (gk (k := 64) (t := 27) ck_X_fewest_2 rfl)
theorem d_X_fewest_92 : decode y_X_fewest.2.1 92 = .ok (.iload_n 2, 1) := op_iload_n2 (gk (k := 64) (t := 28) ck_X_fewest_2 rfl)
theorem d_X_fewest_93 : decode y_X_fewest.2.1 93 = .ok (.if_icmp .ge 16, 3) := op_icmp_ge (gk (k := 64) (t := 29) ck_X_fewest_2 rfl) (gk (k := 64) (t := 30) ck_X_fewest_2 rfl) (gk (k := 64) (t := 31) ck_X_fewest_2 rfl) (by decide +kernel)
theorem ck_X_fewest_3 : (y_X_fewest.2.1.data.toList.drop 96).take 32 = [42, 180, 0, 72, 29, 2, 79, 132, 3, 1, 167, 255, 241, 42, 182, 1, 121, 62, 27, 153, 0, 7, 29, 154, 0, 5, 29, 172, 42, 182, 1, 112] := by decide +kernel
theorem d_X_fewest_96 : decode y_X_fewest.2.1 96 = .ok (.aload_n 0, 1) := op_aload_n0 (gk (k := 96) (t := 0) ck_X_fewest_3 rfl)
theorem d_X_fewest_97 : decode y_X_fewest.2.1 97 = .ok (.getfield 72, 3) := op_getfield (gk (k := 96) (t := 1) ck_X_fewest_3 rfl) (gk (k := 96) (t := 2) ck_X_fewest_3 rfl) (gk (k := 96) (t := 3) ck_X_fewest_3 rfl) rfl
theorem d_X_fewest_100 : decode y_X_fewest.2.1 100 = .ok (.iload_n 3, 1) := op_iload_n3 (gk (k := 96) (t := 4) ck_X_fewest_3 rfl)
theorem d_X_fewest_101 : decode y_X_fewest.2.1 101 = .ok (.iconst (-1), 1) := op_iconstm1 (gk (k := 96) (t := 5) ck_X_fewest_3 rfl)
theorem d_X_fewest_102 : decode y_X_fewest.2.1 102 = .ok (.iastore, 1) := op_iastore (gk (k := 96) (t := 6) ck_X_fewest_3 rfl)
theorem d_X_fewest_103 : decode y_X_fewest.2.1 103 = .ok (.iinc 3 1, 3) := op_iinc (gk (k := 96) (t := 7) ck_X_fewest_3 rfl) (gk (k := 96) (t := 8) ck_X_fewest_3 rfl) (gk (k := 96) (t := 9) ck_X_fewest_3 rfl) rfl rfl
theorem d_X_fewest_106 : decode y_X_fewest.2.1 106 = .ok (.goto (-15), 3) := op_goto (gk (k := 96) (t := 10) ck_X_fewest_3 rfl) (gk (k := 96) (t := 11) ck_X_fewest_3 rfl) (gk (k := 96) (t := 12) ck_X_fewest_3 rfl) (by decide +kernel)
theorem d_X_fewest_109 : decode y_X_fewest.2.1 109 = .ok (.aload_n 0, 1) := op_aload_n0 (gk (k := 96) (t := 13) ck_X_fewest_3 rfl)
theorem d_X_fewest_110 : decode y_X_fewest.2.1 110 = .ok (.invokevirtual 377, 3) := op_invokevirtual (gk (k := 96) (t := 14) ck_X_fewest_3 rfl) (gk (k := 96) (t := 15) ck_X_fewest_3 rfl) (gk (k := 96) (t := 16) ck_X_fewest_3 rfl) rfl
theorem d_X_fewest_113 : decode y_X_fewest.2.1 113 = .ok (.istore_n 3, 1) := op_istore_n3 (gk (k := 96) (t := 17) ck_X_fewest_3 rfl)
theorem d_X_fewest_114 : decode y_X_fewest.2.1 114 = .ok (.iload_n 1, 1) := op_iload_n1 (gk (k := 96) (t := 18) ck_X_fewest_3 rfl)
theorem d_X_fewest_115 : decode y_X_fewest.2.1 115 = .ok (.ifCond .eq 7, 3) := op_if_eq (gk (k := 96) (t := 19) ck_X_fewest_3 rfl) (gk (k := 96) (t := 20) ck_X_fewest_3 rfl) (gk (k := 96) (t := 21) ck_X_fewest_3 rfl) (by decide +kernel)
theorem d_X_fewest_122 : decode y_X_fewest.2.1 122 = .ok (.iload_n 3, 1) := op_iload_n3 (gk (k := 96) (t := 26) ck_X_fewest_3 rfl)
theorem d_X_fewest_123 : decode y_X_fewest.2.1 123 = .ok (.ireturn, 1) := op_ireturn (gk (k := 96) (t := 27) ck_X_fewest_3 rfl)
theorem d_X_fewest_118 : decode y_X_fewest.2.1 118 = .ok (.iload_n 3, 1) := op_iload_n3 (gk (k := 96) (t := 22) ck_X_fewest_3 rfl)
theorem d_X_fewest_119 : decode y_X_fewest.2.1 119 = .ok (.ifCond .ne 5, 3) := op_if_ne (gk (k := 96) (t := 23) ck_X_fewest_3 rfl) (gk (k := 96) (t := 24) ck_X_fewest_3 rfl) (gk (k := 96) (t := 25) ck_X_fewest_3 rfl) (by decide +kernel)
theorem d_X_fewest_124 : decode y_X_fewest.2.1 124 = .ok (.aload_n 0, 1) := op_aload_n0 (gk (k := 96) (t := 28) ck_X_fewest_3 rfl)
theorem d_X_fewest_125 : decode y_X_fewest.2.1 125 = .ok (.invokevirtual 368, 3) := op_invokevirtual (gk (k := 96) (t := 29) ck_X_fewest_3 rfl) (gk (k := 96) (t := 30) ck_X_fewest_3 rfl) (gk (k := 96) (t := 31) ck_X_fewest_3 rfl) rfl
theorem ck_X_fewest_4 : (y_X_fewest.2.1.data.toList.drop 128).take 32 = [54, 4, 42, 180, 0, 75, 21, 4, 92, 46, 4, 100, 79, 42, 180, 0, 81, 21, 4, 4, 79, 42, 21, 4, 42, 180, 0, 7, 4, 46, 21, 4] := by decide +kernel
theorem d_X_fewest_128 : decode y_X_fewest.2.1 128 = .ok (.istore 4, 2) := op_istore (gk (k := 128) (t := 0) ck_X_fewest_4 rfl) (gk (k := 128) (t := 1) ck_X_fewest_4 rfl) rfl
theorem d_X_fewest_130 : decode y_X_fewest.2.1 130 = .ok (.aload_n 0, 1) := op_aload_n0 (gk (k := 128) (t := 2) ck_X_fewest_4 rfl)
theorem d_X_fewest_131 : decode y_X_fewest.2.1 131 = .ok (.getfield 75, 3) := op_getfield (gk (k := 128) (t := 3) ck_X_fewest_4 rfl) (gk (k := 128) (t := 4) ck_X_fewest_4 rfl) (gk (k := 128) (t := 5) ck_X_fewest_4 rfl) rfl
theorem d_X_fewest_134 : decode y_X_fewest.2.1 134 = .ok (.iload 4, 2) := op_iload (gk (k := 128) (t := 6) ck_X_fewest_4 rfl) (gk (k := 128) (t := 7) ck_X_fewest_4 rfl) rfl
theorem d_X_fewest_136 : decode y_X_fewest.2.1 136 = .ok (.dup2, 1) := op_dup2 (gk (k := 128) (t := 8) ck_X_fewest_4 rfl)
theorem d_X_fewest_137 : decode y_X_fewest.2.1 137 = .ok (.iaload, 1) := op_iaload (gk (k := 128) (t := 9) ck_X_fewest_4 rfl)
theorem d_X_fewest_138 : decode y_X_fewest.2.1 138 = .ok (.iconst 1, 1) := op_iconst1 (gk (k := 128) (t := 10) ck_X_fewest_4 rfl)
theorem d_X_fewest_139 : decode y_X_fewest.2.1 139 = .ok (.isub, 1) := op_isub (gk (k := 128) (t := 11) ck_X_fewest_4 rfl)
theorem d_X_fewest_140 : decode y_X_fewest.2.1 140 = .ok (.iastore, 1) := op_iastore (gk (k := 128) (t := 12) ck_X_fewest_4 rfl)
theorem d_X_fewest_141 : decode y_X_fewest.2.1 141 = .ok (.aload_n 0, 1) := op_aload_n0 (gk (k := 128) (t := 13) ck_X_fewest_4 rfl)
theorem d_X_fewest_142 : decode y_X_fewest.2.1 142 = .ok (.getfield 81, 3) := op_getfield (gk (k := 128) (t := 14) ck_X_fewest_4 rfl) (gk (k := 128) (t := 15) ck_X_fewest_4 rfl) (gk (k := 128) (t := 16) ck_X_fewest_4 rfl) rfl
theorem d_X_fewest_145 : decode y_X_fewest.2.1 145 = .ok (.iload 4, 2) := op_iload (gk (k := 128) (t := 17) ck_X_fewest_4 rfl) (gk (k := 128) (t := 18) ck_X_fewest_4 rfl) rfl
theorem d_X_fewest_147 : decode y_X_fewest.2.1 147 = .ok (.iconst 1, 1) := op_iconst1 (gk (k := 128) (t := 19) ck_X_fewest_4 rfl)
theorem d_X_fewest_148 : decode y_X_fewest.2.1 148 = .ok (.iastore, 1) := op_iastore (gk (k := 128) (t := 20) ck_X_fewest_4 rfl)
theorem d_X_fewest_149 : decode y_X_fewest.2.1 149 = .ok (.aload_n 0, 1) := op_aload_n0 (gk (k := 128) (t := 21) ck_X_fewest_4 rfl)
theorem d_X_fewest_150 : decode y_X_fewest.2.1 150 = .ok (.iload 4, 2) := op_iload (gk (k := 128) (t := 22) ck_X_fewest_4 rfl) (gk (k := 128) (t := 23) ck_X_fewest_4 rfl) rfl
theorem d_X_fewest_152 : decode y_X_fewest.2.1 152 = .ok (.aload_n 0, 1) := op_aload_n0 (gk (k := 128) (t := 24) ck_X_fewest_4 rfl)
theorem d_X_fewest_153 : decode y_X_fewest.2.1 153 = .ok (.getfield 7, 3) := op_getfield (gk (k := 128) (t := 25) ck_X_fewest_4 rfl) (gk (k := 128) (t := 26) ck_X_fewest_4 rfl) (gk (k := 128) (t := 27) ck_X_fewest_4 rfl) rfl
theorem d_X_fewest_156 : decode y_X_fewest.2.1 156 = .ok (.iconst 1, 1) := op_iconst1 (gk (k := 128) (t := 28) ck_X_fewest_4 rfl)
theorem d_X_fewest_157 : decode y_X_fewest.2.1 157 = .ok (.iaload, 1) := op_iaload (gk (k := 128) (t := 29) ck_X_fewest_4 rfl)
theorem d_X_fewest_158 : decode y_X_fewest.2.1 158 = .ok (.iload 4, 2) := op_iload (gk (k := 128) (t := 30) ck_X_fewest_4 rfl) (gk (k := 128) (t := 31) ck_X_fewest_4 rfl) rfl
theorem ck_X_fewest_5 : (y_X_fewest.2.1.data.toList.drop 160).take 32 = [100, 29, 4, 100, 182, 1, 124, 54, 5, 21, 5, 153, 0, 12, 42, 180, 0, 81, 27, 46, 167, 0, 4, 2, 172] := by decide +kernel
theorem d_X_fewest_160 : decode y_X_fewest.2.1 160 = .ok (.isub, 1) := op_isub (gk (k := 160) (t := 0) ck_X_fewest_5 rfl)
theorem d_X_fewest_161 : decode y_X_fewest.2.1 161 = .ok (.iload_n 3, 1) := op_iload_n3 (gk (k := 160) (t := 1) ck_X_fewest_5 rfl)
theorem d_X_fewest_162 : decode y_X_fewest.2.1 162 = .ok (.iconst 1, 1) := op_iconst1 (gk (k := 160) (t := 2) ck_X_fewest_5 rfl)
theorem d_X_fewest_163 : decode y_X_fewest.2.1 163 = .ok (.isub, 1) := op_isub (gk (k := 160) (t := 3) ck_X_fewest_5 rfl)
theorem d_X_fewest_164 : decode y_X_fewest.2.1 164 = .ok (.invokevirtual 380, 3) := op_invokevirtual (gk (k := 160) (t := 4) ck_X_fewest_5 rfl) (gk (k := 160) (t := 5) ck_X_fewest_5 rfl) (gk (k := 160) (t := 6) ck_X_fewest_5 rfl) rfl
theorem d_X_fewest_167 : decode y_X_fewest.2.1 167 = .ok (.istore 5, 2) := op_istore (gk (k := 160) (t := 7) ck_X_fewest_5 rfl) (gk (k := 160) (t := 8) ck_X_fewest_5 rfl) rfl
theorem d_X_fewest_169 : decode y_X_fewest.2.1 169 = .ok (.iload 5, 2) := op_iload (gk (k := 160) (t := 9) ck_X_fewest_5 rfl) (gk (k := 160) (t := 10) ck_X_fewest_5 rfl) rfl
theorem d_X_fewest_171 : decode y_X_fewest.2.1 171 = .ok (.ifCond .eq 12, 3) := op_if_eq (gk (k := 160) (t := 11) ck_X_fewest_5 rfl) (gk (k := 160) (t := 12) ck_X_fewest_5 rfl) (gk (k := 160) (t := 13) ck_X_fewest_5 rfl) (by decide +kernel)
theorem d_X_fewest_183 : decode y_X_fewest.2.1 183 = .ok (.iconst (-1), 1) := op_iconstm1 (gk (k := 160) (t := 23) ck_X_fewest_5 rfl)
theorem d_X_fewest_184 : decode y_X_fewest.2.1 184 = .ok (.ireturn, 1) := op_ireturn (gk (k := 160) (t := 24) ck_X_fewest_5 rfl)
theorem d_X_fewest_174 : decode y_X_fewest.2.1 174 = .ok (.aload_n 0, 1) := op_aload_n0 (gk (k := 160) (t := 14) ck_X_fewest_5 rfl)
theorem d_X_fewest_175 : decode y_X_fewest.2.1 175 = .ok (.getfield 81, 3) := op_getfield (gk (k := 160) (t := 15) ck_X_fewest_5 rfl) (gk (k := 160) (t := 16) ck_X_fewest_5 rfl) (gk (k := 160) (t := 17) ck_X_fewest_5 rfl) rfl
theorem d_X_fewest_178 : decode y_X_fewest.2.1 178 = .ok (.iload_n 1, 1) := op_iload_n1 (gk (k := 160) (t := 18) ck_X_fewest_5 rfl)
theorem d_X_fewest_179 : decode y_X_fewest.2.1 179 = .ok (.iaload, 1) := op_iaload (gk (k := 160) (t := 19) ck_X_fewest_5 rfl)
theorem d_X_fewest_180 : decode y_X_fewest.2.1 180 = .ok (.goto 4, 3) := op_goto (gk (k := 160) (t := 20) ck_X_fewest_5 rfl) (gk (k := 160) (t := 21) ck_X_fewest_5 rfl) (gk (k := 160) (t := 22) ck_X_fewest_5 rfl) (by decide +kernel)
theorem d_X_fewest_10 : decode y_X_fewest.2.1 10 = .ok (.iconst (-1), 1) := op_iconstm1 (gk (k := 0) (t := 10) ck_X_fewest_0 rfl)
theorem d_X_fewest_11 : decode y_X_fewest.2.1 11 = .ok (.ireturn, 1) := op_ireturn (gk (k := 0) (t := 11) ck_X_fewest_0 rfl)
abbrev y_X_comesBack : MI := (⟨"SinglesUpModel", "comesBack", "()V"⟩, prog_11_method_83_code, 2, none)
theorem ck_X_comesBack_0 : (y_X_comesBack.2.1.data.toList.drop 0).take 32 = [3, 60, 27, 17, 24, 46, 162, 0, 21, 42, 180, 0, 7, 27, 42, 180, 0, 16, 27, 46, 79, 132, 1, 1, 167, 255, 234, 3, 60, 27, 17, 0] := by decide +kernel
theorem d_X_comesBack_0 : decode y_X_comesBack.2.1 0 = .ok (.iconst 0, 1) := op_iconst0 (gk (k := 0) (t := 0) ck_X_comesBack_0 rfl)
theorem d_X_comesBack_1 : decode y_X_comesBack.2.1 1 = .ok (.istore_n 1, 1) := op_istore_n1 (gk (k := 0) (t := 1) ck_X_comesBack_0 rfl)
theorem d_X_comesBack_2 : decode y_X_comesBack.2.1 2 = .ok (.iload_n 1, 1) := op_iload_n1 (gk (k := 0) (t := 2) ck_X_comesBack_0 rfl)
theorem cs_6190 : (Int16.ofInt 6190).toInt32 = iv 6190 := by decide +kernel
theorem d_X_comesBack_3 : decode y_X_comesBack.2.1 3 = .ok (.sipush 6190, 3) := op_sipush (gk (k := 0) (t := 3) ck_X_comesBack_0 rfl) (gk (k := 0) (t := 4) ck_X_comesBack_0 rfl) (gk (k := 0) (t := 5) ck_X_comesBack_0 rfl) (by decide +kernel)
theorem in_6190 : inr (6190) := lit_in rfl
theorem d_X_comesBack_6 : decode y_X_comesBack.2.1 6 = .ok (.if_icmp .ge 21, 3) := op_icmp_ge (gk (k := 0) (t := 6) ck_X_comesBack_0 rfl) (gk (k := 0) (t := 7) ck_X_comesBack_0 rfl) (gk (k := 0) (t := 8) ck_X_comesBack_0 rfl) (by decide +kernel)
theorem d_X_comesBack_9 : decode y_X_comesBack.2.1 9 = .ok (.aload_n 0, 1) := op_aload_n0 (gk (k := 0) (t := 9) ck_X_comesBack_0 rfl)
theorem d_X_comesBack_10 : decode y_X_comesBack.2.1 10 = .ok (.getfield 7, 3) := op_getfield (gk (k := 0) (t := 10) ck_X_comesBack_0 rfl) (gk (k := 0) (t := 11) ck_X_comesBack_0 rfl) (gk (k := 0) (t := 12) ck_X_comesBack_0 rfl) rfl
theorem d_X_comesBack_13 : decode y_X_comesBack.2.1 13 = .ok (.iload_n 1, 1) := op_iload_n1 (gk (k := 0) (t := 13) ck_X_comesBack_0 rfl)
theorem d_X_comesBack_14 : decode y_X_comesBack.2.1 14 = .ok (.aload_n 0, 1) := op_aload_n0 (gk (k := 0) (t := 14) ck_X_comesBack_0 rfl)
theorem fl_X_16 : FL "SinglesUpModel" 16 9 2 := ⟨"SinglesUpModel", zT9, 51, rfl, by decide, rfl, Or.inl (tw_c5 95 (by decide +kernel) rfl)⟩
theorem rm_9_2 : ∀ o, KM[o]? = some (12, 51) → RM o 2 = some (o + 3) ∧ KM[o + 3]? = some (0, 6190) := by
  intro o h
  have hl : o < 26 := (List.getElem?_eq_some_iff.mp h).1
  exact (by decide +kernel : ∀ o, o < 26 → KM[o]? = some (12, 51) → RM o 2 = some (o + 3) ∧ KM[o + 3]? = some (0, 6190)) o hl h
theorem d_X_comesBack_15 : decode y_X_comesBack.2.1 15 = .ok (.getfield 16, 3) := op_getfield (gk (k := 0) (t := 15) ck_X_comesBack_0 rfl) (gk (k := 0) (t := 16) ck_X_comesBack_0 rfl) (gk (k := 0) (t := 17) ck_X_comesBack_0 rfl) rfl
theorem d_X_comesBack_18 : decode y_X_comesBack.2.1 18 = .ok (.iload_n 1, 1) := op_iload_n1 (gk (k := 0) (t := 18) ck_X_comesBack_0 rfl)
theorem d_X_comesBack_19 : decode y_X_comesBack.2.1 19 = .ok (.iaload, 1) := op_iaload (gk (k := 0) (t := 19) ck_X_comesBack_0 rfl)
theorem d_X_comesBack_20 : decode y_X_comesBack.2.1 20 = .ok (.iastore, 1) := op_iastore (gk (k := 0) (t := 20) ck_X_comesBack_0 rfl)
theorem d_X_comesBack_21 : decode y_X_comesBack.2.1 21 = .ok (.iinc 1 1, 3) := op_iinc (gk (k := 0) (t := 21) ck_X_comesBack_0 rfl) (gk (k := 0) (t := 22) ck_X_comesBack_0 rfl) (gk (k := 0) (t := 23) ck_X_comesBack_0 rfl) rfl rfl
theorem d_X_comesBack_24 : decode y_X_comesBack.2.1 24 = .ok (.goto (-22), 3) := op_goto (gk (k := 0) (t := 24) ck_X_comesBack_0 rfl) (gk (k := 0) (t := 25) ck_X_comesBack_0 rfl) (gk (k := 0) (t := 26) ck_X_comesBack_0 rfl) (by decide +kernel)
theorem d_X_comesBack_27 : decode y_X_comesBack.2.1 27 = .ok (.iconst 0, 1) := op_iconst0 (gk (k := 0) (t := 27) ck_X_comesBack_0 rfl)
theorem d_X_comesBack_28 : decode y_X_comesBack.2.1 28 = .ok (.istore_n 1, 1) := op_istore_n1 (gk (k := 0) (t := 28) ck_X_comesBack_0 rfl)
theorem d_X_comesBack_29 : decode y_X_comesBack.2.1 29 = .ok (.iload_n 1, 1) := op_iload_n1 (gk (k := 0) (t := 29) ck_X_comesBack_0 rfl)
theorem ck_X_comesBack_1 : (y_X_comesBack.2.1.data.toList.drop 32).take 32 = [240, 162, 0, 21, 42, 180, 0, 57, 27, 42, 180, 0, 87, 27, 51, 84, 132, 1, 1, 167, 255, 234, 3, 60, 27, 16, 8, 162, 0, 21, 42, 180] := by decide +kernel
theorem d_X_comesBack_30 : decode y_X_comesBack.2.1 30 = .ok (.sipush 240, 3) := op_sipush (gk (k := 0) (t := 30) ck_X_comesBack_0 rfl) (gk (k := 0) (t := 31) ck_X_comesBack_0 rfl) (gk (k := 32) (t := 0) ck_X_comesBack_1 rfl) (by decide +kernel)
theorem d_X_comesBack_33 : decode y_X_comesBack.2.1 33 = .ok (.if_icmp .ge 21, 3) := op_icmp_ge (gk (k := 32) (t := 1) ck_X_comesBack_1 rfl) (gk (k := 32) (t := 2) ck_X_comesBack_1 rfl) (gk (k := 32) (t := 3) ck_X_comesBack_1 rfl) (by decide +kernel)
theorem d_X_comesBack_36 : decode y_X_comesBack.2.1 36 = .ok (.aload_n 0, 1) := op_aload_n0 (gk (k := 32) (t := 4) ck_X_comesBack_1 rfl)
theorem d_X_comesBack_37 : decode y_X_comesBack.2.1 37 = .ok (.getfield 57, 3) := op_getfield (gk (k := 32) (t := 5) ck_X_comesBack_1 rfl) (gk (k := 32) (t := 6) ck_X_comesBack_1 rfl) (gk (k := 32) (t := 7) ck_X_comesBack_1 rfl) rfl
theorem d_X_comesBack_40 : decode y_X_comesBack.2.1 40 = .ok (.iload_n 1, 1) := op_iload_n1 (gk (k := 32) (t := 8) ck_X_comesBack_1 rfl)
theorem d_X_comesBack_41 : decode y_X_comesBack.2.1 41 = .ok (.aload_n 0, 1) := op_aload_n0 (gk (k := 32) (t := 9) ck_X_comesBack_1 rfl)
theorem fl_X_87 : FL "SinglesUpModel" 87 9 47 := ⟨"SinglesUpModel", zT9, 51, rfl, by decide, rfl, Or.inl (tw_c5 139 (by decide +kernel) rfl)⟩
theorem rm_9_47 : ∀ o, KM[o]? = some (12, 51) → RM o 47 = some (o + 23) ∧ KM[o + 23]? = some (1, 240) := by
  intro o h
  have hl : o < 26 := (List.getElem?_eq_some_iff.mp h).1
  exact (by decide +kernel : ∀ o, o < 26 → KM[o]? = some (12, 51) → RM o 47 = some (o + 23) ∧ KM[o + 23]? = some (1, 240)) o hl h
theorem d_X_comesBack_42 : decode y_X_comesBack.2.1 42 = .ok (.getfield 87, 3) := op_getfield (gk (k := 32) (t := 10) ck_X_comesBack_1 rfl) (gk (k := 32) (t := 11) ck_X_comesBack_1 rfl) (gk (k := 32) (t := 12) ck_X_comesBack_1 rfl) rfl
theorem d_X_comesBack_45 : decode y_X_comesBack.2.1 45 = .ok (.iload_n 1, 1) := op_iload_n1 (gk (k := 32) (t := 13) ck_X_comesBack_1 rfl)
theorem d_X_comesBack_46 : decode y_X_comesBack.2.1 46 = .ok (.baload, 1) := op_baload (gk (k := 32) (t := 14) ck_X_comesBack_1 rfl)
theorem d_X_comesBack_47 : decode y_X_comesBack.2.1 47 = .ok (.bastore, 1) := op_bastore (gk (k := 32) (t := 15) ck_X_comesBack_1 rfl)
theorem d_X_comesBack_48 : decode y_X_comesBack.2.1 48 = .ok (.iinc 1 1, 3) := op_iinc (gk (k := 32) (t := 16) ck_X_comesBack_1 rfl) (gk (k := 32) (t := 17) ck_X_comesBack_1 rfl) (gk (k := 32) (t := 18) ck_X_comesBack_1 rfl) rfl rfl
theorem d_X_comesBack_51 : decode y_X_comesBack.2.1 51 = .ok (.goto (-22), 3) := op_goto (gk (k := 32) (t := 19) ck_X_comesBack_1 rfl) (gk (k := 32) (t := 20) ck_X_comesBack_1 rfl) (gk (k := 32) (t := 21) ck_X_comesBack_1 rfl) (by decide +kernel)
theorem d_X_comesBack_54 : decode y_X_comesBack.2.1 54 = .ok (.iconst 0, 1) := op_iconst0 (gk (k := 32) (t := 22) ck_X_comesBack_1 rfl)
theorem d_X_comesBack_55 : decode y_X_comesBack.2.1 55 = .ok (.istore_n 1, 1) := op_istore_n1 (gk (k := 32) (t := 23) ck_X_comesBack_1 rfl)
theorem d_X_comesBack_56 : decode y_X_comesBack.2.1 56 = .ok (.iload_n 1, 1) := op_iload_n1 (gk (k := 32) (t := 24) ck_X_comesBack_1 rfl)
theorem d_X_comesBack_57 : decode y_X_comesBack.2.1 57 = .ok (.bipush 8, 2) := op_bipush (gk (k := 32) (t := 25) ck_X_comesBack_1 rfl) (gk (k := 32) (t := 26) ck_X_comesBack_1 rfl) rfl
theorem d_X_comesBack_59 : decode y_X_comesBack.2.1 59 = .ok (.if_icmp .ge 21, 3) := op_icmp_ge (gk (k := 32) (t := 27) ck_X_comesBack_1 rfl) (gk (k := 32) (t := 28) ck_X_comesBack_1 rfl) (gk (k := 32) (t := 29) ck_X_comesBack_1 rfl) (by decide +kernel)
theorem d_X_comesBack_62 : decode y_X_comesBack.2.1 62 = .ok (.aload_n 0, 1) := op_aload_n0 (gk (k := 32) (t := 30) ck_X_comesBack_1 rfl)
theorem ck_X_comesBack_2 : (y_X_comesBack.2.1.data.toList.drop 64).take 32 = [0, 63, 27, 42, 180, 0, 90, 27, 46, 79, 132, 1, 1, 167, 255, 235, 42, 42, 180, 1, 127, 181, 1, 88, 177] := by decide +kernel
theorem d_X_comesBack_63 : decode y_X_comesBack.2.1 63 = .ok (.getfield 63, 3) := op_getfield (gk (k := 32) (t := 31) ck_X_comesBack_1 rfl) (gk (k := 64) (t := 0) ck_X_comesBack_2 rfl) (gk (k := 64) (t := 1) ck_X_comesBack_2 rfl) rfl
theorem d_X_comesBack_66 : decode y_X_comesBack.2.1 66 = .ok (.iload_n 1, 1) := op_iload_n1 (gk (k := 64) (t := 2) ck_X_comesBack_2 rfl)
theorem d_X_comesBack_67 : decode y_X_comesBack.2.1 67 = .ok (.aload_n 0, 1) := op_aload_n0 (gk (k := 64) (t := 3) ck_X_comesBack_2 rfl)
theorem fl_X_90 : FL "SinglesUpModel" 90 9 48 := ⟨"SinglesUpModel", zT9, 51, rfl, by decide, rfl, Or.inl (tw_c5 140 (by decide +kernel) rfl)⟩
theorem rm_9_48 : ∀ o, KM[o]? = some (12, 51) → RM o 48 = some (o + 24) ∧ KM[o + 24]? = some (0, 8) := by
  intro o h
  have hl : o < 26 := (List.getElem?_eq_some_iff.mp h).1
  exact (by decide +kernel : ∀ o, o < 26 → KM[o]? = some (12, 51) → RM o 48 = some (o + 24) ∧ KM[o + 24]? = some (0, 8)) o hl h
theorem d_X_comesBack_68 : decode y_X_comesBack.2.1 68 = .ok (.getfield 90, 3) := op_getfield (gk (k := 64) (t := 4) ck_X_comesBack_2 rfl) (gk (k := 64) (t := 5) ck_X_comesBack_2 rfl) (gk (k := 64) (t := 6) ck_X_comesBack_2 rfl) rfl
theorem d_X_comesBack_71 : decode y_X_comesBack.2.1 71 = .ok (.iload_n 1, 1) := op_iload_n1 (gk (k := 64) (t := 7) ck_X_comesBack_2 rfl)
theorem d_X_comesBack_72 : decode y_X_comesBack.2.1 72 = .ok (.iaload, 1) := op_iaload (gk (k := 64) (t := 8) ck_X_comesBack_2 rfl)
theorem d_X_comesBack_73 : decode y_X_comesBack.2.1 73 = .ok (.iastore, 1) := op_iastore (gk (k := 64) (t := 9) ck_X_comesBack_2 rfl)
theorem d_X_comesBack_74 : decode y_X_comesBack.2.1 74 = .ok (.iinc 1 1, 3) := op_iinc (gk (k := 64) (t := 10) ck_X_comesBack_2 rfl) (gk (k := 64) (t := 11) ck_X_comesBack_2 rfl) (gk (k := 64) (t := 12) ck_X_comesBack_2 rfl) rfl rfl
theorem d_X_comesBack_77 : decode y_X_comesBack.2.1 77 = .ok (.goto (-21), 3) := op_goto (gk (k := 64) (t := 13) ck_X_comesBack_2 rfl) (gk (k := 64) (t := 14) ck_X_comesBack_2 rfl) (gk (k := 64) (t := 15) ck_X_comesBack_2 rfl) (by decide +kernel)
theorem d_X_comesBack_80 : decode y_X_comesBack.2.1 80 = .ok (.aload_n 0, 1) := op_aload_n0 (gk (k := 64) (t := 16) ck_X_comesBack_2 rfl)
theorem d_X_comesBack_81 : decode y_X_comesBack.2.1 81 = .ok (.aload_n 0, 1) := op_aload_n0 (gk (k := 64) (t := 17) ck_X_comesBack_2 rfl)
theorem fl_X_383 : FL "SinglesUpModel" 383 9 50 := ⟨"SinglesUpModel", zT9, 51, rfl, by decide, rfl, Or.inl (tw_c5 142 (by decide +kernel) rfl)⟩
theorem d_X_comesBack_82 : decode y_X_comesBack.2.1 82 = .ok (.getfield 383, 3) := op_getfield (gk (k := 64) (t := 18) ck_X_comesBack_2 rfl) (gk (k := 64) (t := 19) ck_X_comesBack_2 rfl) (gk (k := 64) (t := 20) ck_X_comesBack_2 rfl) rfl
theorem d_X_comesBack_85 : decode y_X_comesBack.2.1 85 = .ok (.putfield 344, 3) := op_putfield (gk (k := 64) (t := 21) ck_X_comesBack_2 rfl) (gk (k := 64) (t := 22) ck_X_comesBack_2 rfl) (gk (k := 64) (t := 23) ck_X_comesBack_2 rfl) rfl
theorem d_X_comesBack_88 : decode y_X_comesBack.2.1 88 = .ok (.return_, 1) := op_return_ (gk (k := 64) (t := 24) ck_X_comesBack_2 rfl)
abbrev y_X_longest : MI := (⟨"SinglesUpModel", "longest", "()I"⟩, prog_11_method_81_code, 3, some .int)
theorem ck_X_longest_0 : (y_X_longest.2.1.data.toList.drop 0).take 32 = [3, 60, 4, 61, 28, 16, 8, 163, 0, 36, 42, 180, 0, 7, 16, 100, 28, 96, 46, 27, 164, 0, 15, 42, 180, 0, 7, 16, 100, 28, 96, 46] := by decide +kernel
theorem d_X_longest_0 : decode y_X_longest.2.1 0 = .ok (.iconst 0, 1) := op_iconst0 (gk (k := 0) (t := 0) ck_X_longest_0 rfl)
theorem d_X_longest_1 : decode y_X_longest.2.1 1 = .ok (.istore_n 1, 1) := op_istore_n1 (gk (k := 0) (t := 1) ck_X_longest_0 rfl)
theorem d_X_longest_2 : decode y_X_longest.2.1 2 = .ok (.iconst 1, 1) := op_iconst1 (gk (k := 0) (t := 2) ck_X_longest_0 rfl)
theorem d_X_longest_3 : decode y_X_longest.2.1 3 = .ok (.istore_n 2, 1) := op_istore_n2 (gk (k := 0) (t := 3) ck_X_longest_0 rfl)
theorem d_X_longest_4 : decode y_X_longest.2.1 4 = .ok (.iload_n 2, 1) := op_iload_n2 (gk (k := 0) (t := 4) ck_X_longest_0 rfl)
theorem d_X_longest_5 : decode y_X_longest.2.1 5 = .ok (.bipush 8, 2) := op_bipush (gk (k := 0) (t := 5) ck_X_longest_0 rfl) (gk (k := 0) (t := 6) ck_X_longest_0 rfl) rfl
theorem d_X_longest_7 : decode y_X_longest.2.1 7 = .ok (.if_icmp .gt 36, 3) := op_icmp_gt (gk (k := 0) (t := 7) ck_X_longest_0 rfl) (gk (k := 0) (t := 8) ck_X_longest_0 rfl) (gk (k := 0) (t := 9) ck_X_longest_0 rfl) (by decide +kernel)
theorem ck_X_longest_1 : (y_X_longest.2.1.data.toList.drop 32).take 32 = [167, 0, 4, 27, 60, 132, 2, 1, 167, 255, 220, 27, 172] := by decide +kernel
theorem d_X_longest_43 : decode y_X_longest.2.1 43 = .ok (.iload_n 1, 1) := op_iload_n1 (gk (k := 32) (t := 11) ck_X_longest_1 rfl)
theorem d_X_longest_44 : decode y_X_longest.2.1 44 = .ok (.ireturn, 1) := op_ireturn (gk (k := 32) (t := 12) ck_X_longest_1 rfl)
theorem d_X_longest_10 : decode y_X_longest.2.1 10 = .ok (.aload_n 0, 1) := op_aload_n0 (gk (k := 0) (t := 10) ck_X_longest_0 rfl)
theorem d_X_longest_11 : decode y_X_longest.2.1 11 = .ok (.getfield 7, 3) := op_getfield (gk (k := 0) (t := 11) ck_X_longest_0 rfl) (gk (k := 0) (t := 12) ck_X_longest_0 rfl) (gk (k := 0) (t := 13) ck_X_longest_0 rfl) rfl
theorem d_X_longest_14 : decode y_X_longest.2.1 14 = .ok (.bipush 100, 2) := op_bipush (gk (k := 0) (t := 14) ck_X_longest_0 rfl) (gk (k := 0) (t := 15) ck_X_longest_0 rfl) rfl
theorem d_X_longest_16 : decode y_X_longest.2.1 16 = .ok (.iload_n 2, 1) := op_iload_n2 (gk (k := 0) (t := 16) ck_X_longest_0 rfl)
theorem d_X_longest_17 : decode y_X_longest.2.1 17 = .ok (.iadd, 1) := op_iadd (gk (k := 0) (t := 17) ck_X_longest_0 rfl)
theorem d_X_longest_18 : decode y_X_longest.2.1 18 = .ok (.iaload, 1) := op_iaload (gk (k := 0) (t := 18) ck_X_longest_0 rfl)
theorem d_X_longest_19 : decode y_X_longest.2.1 19 = .ok (.iload_n 1, 1) := op_iload_n1 (gk (k := 0) (t := 19) ck_X_longest_0 rfl)
theorem d_X_longest_36 : decode y_X_longest.2.1 36 = .ok (.istore_n 1, 1) := op_istore_n1 (gk (k := 32) (t := 4) ck_X_longest_1 rfl)
theorem d_X_longest_37 : decode y_X_longest.2.1 37 = .ok (.iinc 2 1, 3) := op_iinc (gk (k := 32) (t := 5) ck_X_longest_1 rfl) (gk (k := 32) (t := 6) ck_X_longest_1 rfl) (gk (k := 32) (t := 7) ck_X_longest_1 rfl) rfl rfl
theorem d_X_longest_40 : decode y_X_longest.2.1 40 = .ok (.goto (-36), 3) := op_goto (gk (k := 32) (t := 8) ck_X_longest_1 rfl) (gk (k := 32) (t := 9) ck_X_longest_1 rfl) (gk (k := 32) (t := 10) ck_X_longest_1 rfl) (by decide +kernel)
theorem d_X_longest_20 : decode y_X_longest.2.1 20 = .ok (.if_icmp .le 15, 3) := op_icmp_le (gk (k := 0) (t := 20) ck_X_longest_0 rfl) (gk (k := 0) (t := 21) ck_X_longest_0 rfl) (gk (k := 0) (t := 22) ck_X_longest_0 rfl) (by decide +kernel)
theorem d_X_longest_35 : decode y_X_longest.2.1 35 = .ok (.iload_n 1, 1) := op_iload_n1 (gk (k := 32) (t := 3) ck_X_longest_1 rfl)
theorem d_X_longest_23 : decode y_X_longest.2.1 23 = .ok (.aload_n 0, 1) := op_aload_n0 (gk (k := 0) (t := 23) ck_X_longest_0 rfl)
theorem d_X_longest_24 : decode y_X_longest.2.1 24 = .ok (.getfield 7, 3) := op_getfield (gk (k := 0) (t := 24) ck_X_longest_0 rfl) (gk (k := 0) (t := 25) ck_X_longest_0 rfl) (gk (k := 0) (t := 26) ck_X_longest_0 rfl) rfl
theorem d_X_longest_27 : decode y_X_longest.2.1 27 = .ok (.bipush 100, 2) := op_bipush (gk (k := 0) (t := 27) ck_X_longest_0 rfl) (gk (k := 0) (t := 28) ck_X_longest_0 rfl) rfl
theorem d_X_longest_29 : decode y_X_longest.2.1 29 = .ok (.iload_n 2, 1) := op_iload_n2 (gk (k := 0) (t := 29) ck_X_longest_0 rfl)
theorem d_X_longest_30 : decode y_X_longest.2.1 30 = .ok (.iadd, 1) := op_iadd (gk (k := 0) (t := 30) ck_X_longest_0 rfl)
theorem d_X_longest_31 : decode y_X_longest.2.1 31 = .ok (.iaload, 1) := op_iaload (gk (k := 0) (t := 31) ck_X_longest_0 rfl)
theorem d_X_longest_32 : decode y_X_longest.2.1 32 = .ok (.goto 4, 3) := op_goto (gk (k := 32) (t := 0) ck_X_longest_1 rfl) (gk (k := 32) (t := 1) ck_X_longest_1 rfl) (gk (k := 32) (t := 2) ck_X_longest_1 rfl) (by decide +kernel)
abbrev y_X_setsOut : MI := (⟨"SinglesUpModel", "setsOut", "()V"⟩, prog_11_method_82_code, 2, none)
theorem ck_X_setsOut_0 : (y_X_setsOut.2.1.data.toList.drop 0).take 32 = [3, 60, 27, 17, 24, 46, 162, 0, 21, 42, 180, 0, 16, 27, 42, 180, 0, 7, 27, 46, 79, 132, 1, 1, 167, 255, 234, 3, 60, 27, 17, 0] := by decide +kernel
theorem d_X_setsOut_0 : decode y_X_setsOut.2.1 0 = .ok (.iconst 0, 1) := op_iconst0 (gk (k := 0) (t := 0) ck_X_setsOut_0 rfl)
theorem d_X_setsOut_1 : decode y_X_setsOut.2.1 1 = .ok (.istore_n 1, 1) := op_istore_n1 (gk (k := 0) (t := 1) ck_X_setsOut_0 rfl)
theorem d_X_setsOut_2 : decode y_X_setsOut.2.1 2 = .ok (.iload_n 1, 1) := op_iload_n1 (gk (k := 0) (t := 2) ck_X_setsOut_0 rfl)
theorem d_X_setsOut_3 : decode y_X_setsOut.2.1 3 = .ok (.sipush 6190, 3) := op_sipush (gk (k := 0) (t := 3) ck_X_setsOut_0 rfl) (gk (k := 0) (t := 4) ck_X_setsOut_0 rfl) (gk (k := 0) (t := 5) ck_X_setsOut_0 rfl) (by decide +kernel)
theorem d_X_setsOut_6 : decode y_X_setsOut.2.1 6 = .ok (.if_icmp .ge 21, 3) := op_icmp_ge (gk (k := 0) (t := 6) ck_X_setsOut_0 rfl) (gk (k := 0) (t := 7) ck_X_setsOut_0 rfl) (gk (k := 0) (t := 8) ck_X_setsOut_0 rfl) (by decide +kernel)
theorem d_X_setsOut_9 : decode y_X_setsOut.2.1 9 = .ok (.aload_n 0, 1) := op_aload_n0 (gk (k := 0) (t := 9) ck_X_setsOut_0 rfl)
theorem d_X_setsOut_10 : decode y_X_setsOut.2.1 10 = .ok (.getfield 16, 3) := op_getfield (gk (k := 0) (t := 10) ck_X_setsOut_0 rfl) (gk (k := 0) (t := 11) ck_X_setsOut_0 rfl) (gk (k := 0) (t := 12) ck_X_setsOut_0 rfl) rfl
theorem d_X_setsOut_13 : decode y_X_setsOut.2.1 13 = .ok (.iload_n 1, 1) := op_iload_n1 (gk (k := 0) (t := 13) ck_X_setsOut_0 rfl)
theorem d_X_setsOut_14 : decode y_X_setsOut.2.1 14 = .ok (.aload_n 0, 1) := op_aload_n0 (gk (k := 0) (t := 14) ck_X_setsOut_0 rfl)
theorem d_X_setsOut_15 : decode y_X_setsOut.2.1 15 = .ok (.getfield 7, 3) := op_getfield (gk (k := 0) (t := 15) ck_X_setsOut_0 rfl) (gk (k := 0) (t := 16) ck_X_setsOut_0 rfl) (gk (k := 0) (t := 17) ck_X_setsOut_0 rfl) rfl
theorem d_X_setsOut_18 : decode y_X_setsOut.2.1 18 = .ok (.iload_n 1, 1) := op_iload_n1 (gk (k := 0) (t := 18) ck_X_setsOut_0 rfl)
theorem d_X_setsOut_19 : decode y_X_setsOut.2.1 19 = .ok (.iaload, 1) := op_iaload (gk (k := 0) (t := 19) ck_X_setsOut_0 rfl)
theorem d_X_setsOut_20 : decode y_X_setsOut.2.1 20 = .ok (.iastore, 1) := op_iastore (gk (k := 0) (t := 20) ck_X_setsOut_0 rfl)
theorem d_X_setsOut_21 : decode y_X_setsOut.2.1 21 = .ok (.iinc 1 1, 3) := op_iinc (gk (k := 0) (t := 21) ck_X_setsOut_0 rfl) (gk (k := 0) (t := 22) ck_X_setsOut_0 rfl) (gk (k := 0) (t := 23) ck_X_setsOut_0 rfl) rfl rfl
theorem d_X_setsOut_24 : decode y_X_setsOut.2.1 24 = .ok (.goto (-22), 3) := op_goto (gk (k := 0) (t := 24) ck_X_setsOut_0 rfl) (gk (k := 0) (t := 25) ck_X_setsOut_0 rfl) (gk (k := 0) (t := 26) ck_X_setsOut_0 rfl) (by decide +kernel)
theorem d_X_setsOut_27 : decode y_X_setsOut.2.1 27 = .ok (.iconst 0, 1) := op_iconst0 (gk (k := 0) (t := 27) ck_X_setsOut_0 rfl)
theorem d_X_setsOut_28 : decode y_X_setsOut.2.1 28 = .ok (.istore_n 1, 1) := op_istore_n1 (gk (k := 0) (t := 28) ck_X_setsOut_0 rfl)
theorem d_X_setsOut_29 : decode y_X_setsOut.2.1 29 = .ok (.iload_n 1, 1) := op_iload_n1 (gk (k := 0) (t := 29) ck_X_setsOut_0 rfl)
theorem ck_X_setsOut_1 : (y_X_setsOut.2.1.data.toList.drop 32).take 32 = [240, 162, 0, 21, 42, 180, 0, 87, 27, 42, 180, 0, 57, 27, 51, 84, 132, 1, 1, 167, 255, 234, 3, 60, 27, 16, 8, 162, 0, 21, 42, 180] := by decide +kernel
theorem d_X_setsOut_30 : decode y_X_setsOut.2.1 30 = .ok (.sipush 240, 3) := op_sipush (gk (k := 0) (t := 30) ck_X_setsOut_0 rfl) (gk (k := 0) (t := 31) ck_X_setsOut_0 rfl) (gk (k := 32) (t := 0) ck_X_setsOut_1 rfl) (by decide +kernel)
theorem d_X_setsOut_33 : decode y_X_setsOut.2.1 33 = .ok (.if_icmp .ge 21, 3) := op_icmp_ge (gk (k := 32) (t := 1) ck_X_setsOut_1 rfl) (gk (k := 32) (t := 2) ck_X_setsOut_1 rfl) (gk (k := 32) (t := 3) ck_X_setsOut_1 rfl) (by decide +kernel)
theorem d_X_setsOut_36 : decode y_X_setsOut.2.1 36 = .ok (.aload_n 0, 1) := op_aload_n0 (gk (k := 32) (t := 4) ck_X_setsOut_1 rfl)
theorem d_X_setsOut_37 : decode y_X_setsOut.2.1 37 = .ok (.getfield 87, 3) := op_getfield (gk (k := 32) (t := 5) ck_X_setsOut_1 rfl) (gk (k := 32) (t := 6) ck_X_setsOut_1 rfl) (gk (k := 32) (t := 7) ck_X_setsOut_1 rfl) rfl
theorem d_X_setsOut_40 : decode y_X_setsOut.2.1 40 = .ok (.iload_n 1, 1) := op_iload_n1 (gk (k := 32) (t := 8) ck_X_setsOut_1 rfl)
theorem d_X_setsOut_41 : decode y_X_setsOut.2.1 41 = .ok (.aload_n 0, 1) := op_aload_n0 (gk (k := 32) (t := 9) ck_X_setsOut_1 rfl)
theorem d_X_setsOut_42 : decode y_X_setsOut.2.1 42 = .ok (.getfield 57, 3) := op_getfield (gk (k := 32) (t := 10) ck_X_setsOut_1 rfl) (gk (k := 32) (t := 11) ck_X_setsOut_1 rfl) (gk (k := 32) (t := 12) ck_X_setsOut_1 rfl) rfl
theorem d_X_setsOut_45 : decode y_X_setsOut.2.1 45 = .ok (.iload_n 1, 1) := op_iload_n1 (gk (k := 32) (t := 13) ck_X_setsOut_1 rfl)
theorem d_X_setsOut_46 : decode y_X_setsOut.2.1 46 = .ok (.baload, 1) := op_baload (gk (k := 32) (t := 14) ck_X_setsOut_1 rfl)
theorem d_X_setsOut_47 : decode y_X_setsOut.2.1 47 = .ok (.bastore, 1) := op_bastore (gk (k := 32) (t := 15) ck_X_setsOut_1 rfl)
theorem d_X_setsOut_48 : decode y_X_setsOut.2.1 48 = .ok (.iinc 1 1, 3) := op_iinc (gk (k := 32) (t := 16) ck_X_setsOut_1 rfl) (gk (k := 32) (t := 17) ck_X_setsOut_1 rfl) (gk (k := 32) (t := 18) ck_X_setsOut_1 rfl) rfl rfl
theorem d_X_setsOut_51 : decode y_X_setsOut.2.1 51 = .ok (.goto (-22), 3) := op_goto (gk (k := 32) (t := 19) ck_X_setsOut_1 rfl) (gk (k := 32) (t := 20) ck_X_setsOut_1 rfl) (gk (k := 32) (t := 21) ck_X_setsOut_1 rfl) (by decide +kernel)
theorem d_X_setsOut_54 : decode y_X_setsOut.2.1 54 = .ok (.iconst 0, 1) := op_iconst0 (gk (k := 32) (t := 22) ck_X_setsOut_1 rfl)
theorem d_X_setsOut_55 : decode y_X_setsOut.2.1 55 = .ok (.istore_n 1, 1) := op_istore_n1 (gk (k := 32) (t := 23) ck_X_setsOut_1 rfl)
theorem d_X_setsOut_56 : decode y_X_setsOut.2.1 56 = .ok (.iload_n 1, 1) := op_iload_n1 (gk (k := 32) (t := 24) ck_X_setsOut_1 rfl)
theorem d_X_setsOut_57 : decode y_X_setsOut.2.1 57 = .ok (.bipush 8, 2) := op_bipush (gk (k := 32) (t := 25) ck_X_setsOut_1 rfl) (gk (k := 32) (t := 26) ck_X_setsOut_1 rfl) rfl
theorem d_X_setsOut_59 : decode y_X_setsOut.2.1 59 = .ok (.if_icmp .ge 21, 3) := op_icmp_ge (gk (k := 32) (t := 27) ck_X_setsOut_1 rfl) (gk (k := 32) (t := 28) ck_X_setsOut_1 rfl) (gk (k := 32) (t := 29) ck_X_setsOut_1 rfl) (by decide +kernel)
theorem d_X_setsOut_62 : decode y_X_setsOut.2.1 62 = .ok (.aload_n 0, 1) := op_aload_n0 (gk (k := 32) (t := 30) ck_X_setsOut_1 rfl)
theorem ck_X_setsOut_2 : (y_X_setsOut.2.1.data.toList.drop 64).take 32 = [0, 90, 27, 42, 180, 0, 63, 27, 46, 79, 132, 1, 1, 167, 255, 235, 42, 42, 180, 1, 88, 181, 1, 127, 177] := by decide +kernel
theorem d_X_setsOut_63 : decode y_X_setsOut.2.1 63 = .ok (.getfield 90, 3) := op_getfield (gk (k := 32) (t := 31) ck_X_setsOut_1 rfl) (gk (k := 64) (t := 0) ck_X_setsOut_2 rfl) (gk (k := 64) (t := 1) ck_X_setsOut_2 rfl) rfl
theorem d_X_setsOut_66 : decode y_X_setsOut.2.1 66 = .ok (.iload_n 1, 1) := op_iload_n1 (gk (k := 64) (t := 2) ck_X_setsOut_2 rfl)
theorem d_X_setsOut_67 : decode y_X_setsOut.2.1 67 = .ok (.aload_n 0, 1) := op_aload_n0 (gk (k := 64) (t := 3) ck_X_setsOut_2 rfl)
theorem d_X_setsOut_68 : decode y_X_setsOut.2.1 68 = .ok (.getfield 63, 3) := op_getfield (gk (k := 64) (t := 4) ck_X_setsOut_2 rfl) (gk (k := 64) (t := 5) ck_X_setsOut_2 rfl) (gk (k := 64) (t := 6) ck_X_setsOut_2 rfl) rfl
theorem d_X_setsOut_71 : decode y_X_setsOut.2.1 71 = .ok (.iload_n 1, 1) := op_iload_n1 (gk (k := 64) (t := 7) ck_X_setsOut_2 rfl)
theorem d_X_setsOut_72 : decode y_X_setsOut.2.1 72 = .ok (.iaload, 1) := op_iaload (gk (k := 64) (t := 8) ck_X_setsOut_2 rfl)
theorem d_X_setsOut_73 : decode y_X_setsOut.2.1 73 = .ok (.iastore, 1) := op_iastore (gk (k := 64) (t := 9) ck_X_setsOut_2 rfl)
theorem d_X_setsOut_74 : decode y_X_setsOut.2.1 74 = .ok (.iinc 1 1, 3) := op_iinc (gk (k := 64) (t := 10) ck_X_setsOut_2 rfl) (gk (k := 64) (t := 11) ck_X_setsOut_2 rfl) (gk (k := 64) (t := 12) ck_X_setsOut_2 rfl) rfl rfl
theorem d_X_setsOut_77 : decode y_X_setsOut.2.1 77 = .ok (.goto (-21), 3) := op_goto (gk (k := 64) (t := 13) ck_X_setsOut_2 rfl) (gk (k := 64) (t := 14) ck_X_setsOut_2 rfl) (gk (k := 64) (t := 15) ck_X_setsOut_2 rfl) (by decide +kernel)
theorem d_X_setsOut_80 : decode y_X_setsOut.2.1 80 = .ok (.aload_n 0, 1) := op_aload_n0 (gk (k := 64) (t := 16) ck_X_setsOut_2 rfl)
theorem d_X_setsOut_81 : decode y_X_setsOut.2.1 81 = .ok (.aload_n 0, 1) := op_aload_n0 (gk (k := 64) (t := 17) ck_X_setsOut_2 rfl)
theorem d_X_setsOut_82 : decode y_X_setsOut.2.1 82 = .ok (.getfield 344, 3) := op_getfield (gk (k := 64) (t := 18) ck_X_setsOut_2 rfl) (gk (k := 64) (t := 19) ck_X_setsOut_2 rfl) (gk (k := 64) (t := 20) ck_X_setsOut_2 rfl) rfl
theorem d_X_setsOut_85 : decode y_X_setsOut.2.1 85 = .ok (.putfield 383, 3) := op_putfield (gk (k := 64) (t := 21) ck_X_setsOut_2 rfl) (gk (k := 64) (t := 22) ck_X_setsOut_2 rfl) (gk (k := 64) (t := 23) ck_X_setsOut_2 rfl) rfl
theorem d_X_setsOut_88 : decode y_X_setsOut.2.1 88 = .ok (.return_, 1) := op_return_ (gk (k := 64) (t := 24) ck_X_setsOut_2 rfl)
abbrev y_X_sum : MI := (⟨"SinglesUpModel", "sum", "(I)I"⟩, prog_11_method_80_code, 4, some .int)
theorem ck_X_sum_0 : (y_X_sum.2.1.data.toList.drop 0).take 32 = [3, 61, 4, 62, 29, 16, 8, 163, 0, 20, 28, 42, 180, 0, 7, 27, 29, 96, 46, 96, 61, 132, 3, 1, 167, 255, 236, 28, 172] := by decide +kernel
theorem d_X_sum_0 : decode y_X_sum.2.1 0 = .ok (.iconst 0, 1) := op_iconst0 (gk (k := 0) (t := 0) ck_X_sum_0 rfl)
theorem d_X_sum_1 : decode y_X_sum.2.1 1 = .ok (.istore_n 2, 1) := op_istore_n2 (gk (k := 0) (t := 1) ck_X_sum_0 rfl)
theorem d_X_sum_2 : decode y_X_sum.2.1 2 = .ok (.iconst 1, 1) := op_iconst1 (gk (k := 0) (t := 2) ck_X_sum_0 rfl)
theorem d_X_sum_3 : decode y_X_sum.2.1 3 = .ok (.istore_n 3, 1) := op_istore_n3 (gk (k := 0) (t := 3) ck_X_sum_0 rfl)
theorem d_X_sum_4 : decode y_X_sum.2.1 4 = .ok (.iload_n 3, 1) := op_iload_n3 (gk (k := 0) (t := 4) ck_X_sum_0 rfl)
theorem d_X_sum_5 : decode y_X_sum.2.1 5 = .ok (.bipush 8, 2) := op_bipush (gk (k := 0) (t := 5) ck_X_sum_0 rfl) (gk (k := 0) (t := 6) ck_X_sum_0 rfl) rfl
theorem d_X_sum_7 : decode y_X_sum.2.1 7 = .ok (.if_icmp .gt 20, 3) := op_icmp_gt (gk (k := 0) (t := 7) ck_X_sum_0 rfl) (gk (k := 0) (t := 8) ck_X_sum_0 rfl) (gk (k := 0) (t := 9) ck_X_sum_0 rfl) (by decide +kernel)
theorem d_X_sum_27 : decode y_X_sum.2.1 27 = .ok (.iload_n 2, 1) := op_iload_n2 (gk (k := 0) (t := 27) ck_X_sum_0 rfl)
theorem d_X_sum_28 : decode y_X_sum.2.1 28 = .ok (.ireturn, 1) := op_ireturn (gk (k := 0) (t := 28) ck_X_sum_0 rfl)
theorem d_X_sum_10 : decode y_X_sum.2.1 10 = .ok (.iload_n 2, 1) := op_iload_n2 (gk (k := 0) (t := 10) ck_X_sum_0 rfl)
theorem d_X_sum_11 : decode y_X_sum.2.1 11 = .ok (.aload_n 0, 1) := op_aload_n0 (gk (k := 0) (t := 11) ck_X_sum_0 rfl)
theorem d_X_sum_12 : decode y_X_sum.2.1 12 = .ok (.getfield 7, 3) := op_getfield (gk (k := 0) (t := 12) ck_X_sum_0 rfl) (gk (k := 0) (t := 13) ck_X_sum_0 rfl) (gk (k := 0) (t := 14) ck_X_sum_0 rfl) rfl
theorem d_X_sum_15 : decode y_X_sum.2.1 15 = .ok (.iload_n 1, 1) := op_iload_n1 (gk (k := 0) (t := 15) ck_X_sum_0 rfl)
theorem d_X_sum_16 : decode y_X_sum.2.1 16 = .ok (.iload_n 3, 1) := op_iload_n3 (gk (k := 0) (t := 16) ck_X_sum_0 rfl)
theorem d_X_sum_17 : decode y_X_sum.2.1 17 = .ok (.iadd, 1) := op_iadd (gk (k := 0) (t := 17) ck_X_sum_0 rfl)
theorem d_X_sum_18 : decode y_X_sum.2.1 18 = .ok (.iaload, 1) := op_iaload (gk (k := 0) (t := 18) ck_X_sum_0 rfl)
theorem d_X_sum_19 : decode y_X_sum.2.1 19 = .ok (.iadd, 1) := op_iadd (gk (k := 0) (t := 19) ck_X_sum_0 rfl)
theorem d_X_sum_20 : decode y_X_sum.2.1 20 = .ok (.istore_n 2, 1) := op_istore_n2 (gk (k := 0) (t := 20) ck_X_sum_0 rfl)
theorem d_X_sum_21 : decode y_X_sum.2.1 21 = .ok (.iinc 3 1, 3) := op_iinc (gk (k := 0) (t := 21) ck_X_sum_0 rfl) (gk (k := 0) (t := 22) ck_X_sum_0 rfl) (gk (k := 0) (t := 23) ck_X_sum_0 rfl) rfl rfl
theorem d_X_sum_24 : decode y_X_sum.2.1 24 = .ok (.goto (-20), 3) := op_goto (gk (k := 0) (t := 24) ck_X_sum_0 rfl) (gk (k := 0) (t := 25) ck_X_sum_0 rfl) (gk (k := 0) (t := 26) ck_X_sum_0 rfl) (by decide +kernel)
abbrev y_X_leads : MI := (⟨"SinglesUpModel", "leads", "(IIII)V"⟩, prog_11_method_92_code, 7, none)
theorem ck_X_leads_0 : (y_X_leads.2.1.data.toList.drop 0).take 32 = [42, 182, 1, 136, 42, 16, 90, 182, 1, 154, 54, 5, 42, 180, 0, 7, 16, 6, 27, 79, 42, 180, 0, 7, 8, 28, 79, 42, 180, 0, 7, 4] := by decide +kernel
theorem d_X_leads_0 : decode y_X_leads.2.1 0 = .ok (.aload_n 0, 1) := op_aload_n0 (gk (k := 0) (t := 0) ck_X_leads_0 rfl)
theorem lk_X_392 : LkV "SinglesUpModel" 392 y_X_setsOut := ⟨tw_c7 104 (by decide +kernel) rfl, tw_in 87 (by decide +kernel) rfl, Or.inl (tw_c7 102 (by decide +kernel) rfl)⟩
set_option maxRecDepth 100000 in
theorem mo_X_setsOut : MOk y_X_setsOut 0 := ⟨by decide +kernel, tw_c7 105 rfl rfl, tw_c1 12 (by decide +kernel) rfl, by decide +kernel, by decide +kernel, by decide +kernel⟩
theorem d_X_leads_1 : decode y_X_leads.2.1 1 = .ok (.invokevirtual 392, 3) := op_invokevirtual (gk (k := 0) (t := 1) ck_X_leads_0 rfl) (gk (k := 0) (t := 2) ck_X_leads_0 rfl) (gk (k := 0) (t := 3) ck_X_leads_0 rfl) rfl
theorem d_X_leads_4 : decode y_X_leads.2.1 4 = .ok (.aload_n 0, 1) := op_aload_n0 (gk (k := 0) (t := 4) ck_X_leads_0 rfl)
theorem d_X_leads_5 : decode y_X_leads.2.1 5 = .ok (.bipush 90, 2) := op_bipush (gk (k := 0) (t := 5) ck_X_leads_0 rfl) (gk (k := 0) (t := 6) ck_X_leads_0 rfl) rfl
theorem lk_X_410 : LkV "SinglesUpModel" 410 y_X_sum := ⟨tw_c7 145 (by decide +kernel) rfl, tw_in 94 (by decide +kernel) rfl, Or.inl (tw_c7 143 (by decide +kernel) rfl)⟩
set_option maxRecDepth 100000 in
theorem mo_X_sum : MOk y_X_sum 1 := ⟨by decide +kernel, tw_c7 146 rfl rfl, tw_c1 12 (by decide +kernel) rfl, by decide +kernel, by decide +kernel, by decide +kernel⟩
theorem d_X_leads_7 : decode y_X_leads.2.1 7 = .ok (.invokevirtual 410, 3) := op_invokevirtual (gk (k := 0) (t := 7) ck_X_leads_0 rfl) (gk (k := 0) (t := 8) ck_X_leads_0 rfl) (gk (k := 0) (t := 9) ck_X_leads_0 rfl) rfl
theorem d_X_leads_10 : decode y_X_leads.2.1 10 = .ok (.istore 5, 2) := op_istore (gk (k := 0) (t := 10) ck_X_leads_0 rfl) (gk (k := 0) (t := 11) ck_X_leads_0 rfl) rfl
theorem d_X_leads_12 : decode y_X_leads.2.1 12 = .ok (.aload_n 0, 1) := op_aload_n0 (gk (k := 0) (t := 12) ck_X_leads_0 rfl)
theorem d_X_leads_13 : decode y_X_leads.2.1 13 = .ok (.getfield 7, 3) := op_getfield (gk (k := 0) (t := 13) ck_X_leads_0 rfl) (gk (k := 0) (t := 14) ck_X_leads_0 rfl) (gk (k := 0) (t := 15) ck_X_leads_0 rfl) rfl
theorem d_X_leads_16 : decode y_X_leads.2.1 16 = .ok (.bipush 6, 2) := op_bipush (gk (k := 0) (t := 16) ck_X_leads_0 rfl) (gk (k := 0) (t := 17) ck_X_leads_0 rfl) rfl
theorem d_X_leads_18 : decode y_X_leads.2.1 18 = .ok (.iload_n 1, 1) := op_iload_n1 (gk (k := 0) (t := 18) ck_X_leads_0 rfl)
theorem d_X_leads_19 : decode y_X_leads.2.1 19 = .ok (.iastore, 1) := op_iastore (gk (k := 0) (t := 19) ck_X_leads_0 rfl)
theorem d_X_leads_20 : decode y_X_leads.2.1 20 = .ok (.aload_n 0, 1) := op_aload_n0 (gk (k := 0) (t := 20) ck_X_leads_0 rfl)
theorem d_X_leads_21 : decode y_X_leads.2.1 21 = .ok (.getfield 7, 3) := op_getfield (gk (k := 0) (t := 21) ck_X_leads_0 rfl) (gk (k := 0) (t := 22) ck_X_leads_0 rfl) (gk (k := 0) (t := 23) ck_X_leads_0 rfl) rfl
theorem d_X_leads_24 : decode y_X_leads.2.1 24 = .ok (.iconst 5, 1) := op_iconst5 (gk (k := 0) (t := 24) ck_X_leads_0 rfl)
theorem d_X_leads_25 : decode y_X_leads.2.1 25 = .ok (.iload_n 2, 1) := op_iload_n2 (gk (k := 0) (t := 25) ck_X_leads_0 rfl)
theorem d_X_leads_26 : decode y_X_leads.2.1 26 = .ok (.iastore, 1) := op_iastore (gk (k := 0) (t := 26) ck_X_leads_0 rfl)
theorem d_X_leads_27 : decode y_X_leads.2.1 27 = .ok (.aload_n 0, 1) := op_aload_n0 (gk (k := 0) (t := 27) ck_X_leads_0 rfl)
theorem d_X_leads_28 : decode y_X_leads.2.1 28 = .ok (.getfield 7, 3) := op_getfield (gk (k := 0) (t := 28) ck_X_leads_0 rfl) (gk (k := 0) (t := 29) ck_X_leads_0 rfl) (gk (k := 0) (t := 30) ck_X_leads_0 rfl) rfl
theorem d_X_leads_31 : decode y_X_leads.2.1 31 = .ok (.iconst 1, 1) := op_iconst1 (gk (k := 0) (t := 31) ck_X_leads_0 rfl)
theorem ck_X_leads_1 : (y_X_leads.2.1.data.toList.drop 32).take 32 = [29, 79, 3, 54, 6, 21, 6, 21, 4, 162, 0, 14, 42, 182, 1, 85, 87, 132, 6, 1, 167, 255, 241, 42, 180, 0, 93, 3, 42, 180, 0, 7] := by decide +kernel
theorem d_X_leads_32 : decode y_X_leads.2.1 32 = .ok (.iload_n 3, 1) := op_iload_n3 (gk (k := 32) (t := 0) ck_X_leads_1 rfl)
theorem d_X_leads_33 : decode y_X_leads.2.1 33 = .ok (.iastore, 1) := op_iastore (gk (k := 32) (t := 1) ck_X_leads_1 rfl)
theorem d_X_leads_34 : decode y_X_leads.2.1 34 = .ok (.iconst 0, 1) := op_iconst0 (gk (k := 32) (t := 2) ck_X_leads_1 rfl)
theorem d_X_leads_35 : decode y_X_leads.2.1 35 = .ok (.istore 6, 2) := op_istore (gk (k := 32) (t := 3) ck_X_leads_1 rfl) (gk (k := 32) (t := 4) ck_X_leads_1 rfl) rfl
theorem d_X_leads_37 : decode y_X_leads.2.1 37 = .ok (.iload 6, 2) := op_iload (gk (k := 32) (t := 5) ck_X_leads_1 rfl) (gk (k := 32) (t := 6) ck_X_leads_1 rfl) rfl
theorem d_X_leads_39 : decode y_X_leads.2.1 39 = .ok (.iload 4, 2) := op_iload (gk (k := 32) (t := 7) ck_X_leads_1 rfl) (gk (k := 32) (t := 8) ck_X_leads_1 rfl) rfl
theorem d_X_leads_41 : decode y_X_leads.2.1 41 = .ok (.if_icmp .ge 14, 3) := op_icmp_ge (gk (k := 32) (t := 9) ck_X_leads_1 rfl) (gk (k := 32) (t := 10) ck_X_leads_1 rfl) (gk (k := 32) (t := 11) ck_X_leads_1 rfl) (by decide +kernel)
theorem d_X_leads_44 : decode y_X_leads.2.1 44 = .ok (.aload_n 0, 1) := op_aload_n0 (gk (k := 32) (t := 12) ck_X_leads_1 rfl)
theorem d_X_leads_45 : decode y_X_leads.2.1 45 = .ok (.invokevirtual 341, 3) := op_invokevirtual (gk (k := 32) (t := 13) ck_X_leads_1 rfl) (gk (k := 32) (t := 14) ck_X_leads_1 rfl) (gk (k := 32) (t := 15) ck_X_leads_1 rfl) rfl
theorem d_X_leads_48 : decode y_X_leads.2.1 48 = .ok (.pop, 1) := op_pop (gk (k := 32) (t := 16) ck_X_leads_1 rfl)
theorem d_X_leads_49 : decode y_X_leads.2.1 49 = .ok (.iinc 6 1, 3) := op_iinc (gk (k := 32) (t := 17) ck_X_leads_1 rfl) (gk (k := 32) (t := 18) ck_X_leads_1 rfl) (gk (k := 32) (t := 19) ck_X_leads_1 rfl) rfl rfl
theorem d_X_leads_52 : decode y_X_leads.2.1 52 = .ok (.goto (-15), 3) := op_goto (gk (k := 32) (t := 20) ck_X_leads_1 rfl) (gk (k := 32) (t := 21) ck_X_leads_1 rfl) (gk (k := 32) (t := 22) ck_X_leads_1 rfl) (by decide +kernel)
theorem d_X_leads_55 : decode y_X_leads.2.1 55 = .ok (.aload_n 0, 1) := op_aload_n0 (gk (k := 32) (t := 23) ck_X_leads_1 rfl)
theorem fl_X_93 : FL "SinglesUpModel" 93 9 49 := ⟨"SinglesUpModel", zT9, 51, rfl, by decide, rfl, Or.inl (tw_c5 141 (by decide +kernel) rfl)⟩
theorem rm_9_49 : ∀ o, KM[o]? = some (12, 51) → RM o 49 = some (o + 25) ∧ KM[o + 25]? = some (0, 6) := by
  intro o h
  have hl : o < 26 := (List.getElem?_eq_some_iff.mp h).1
  exact (by decide +kernel : ∀ o, o < 26 → KM[o]? = some (12, 51) → RM o 49 = some (o + 25) ∧ KM[o + 25]? = some (0, 6)) o hl h
theorem d_X_leads_56 : decode y_X_leads.2.1 56 = .ok (.getfield 93, 3) := op_getfield (gk (k := 32) (t := 24) ck_X_leads_1 rfl) (gk (k := 32) (t := 25) ck_X_leads_1 rfl) (gk (k := 32) (t := 26) ck_X_leads_1 rfl) rfl
theorem d_X_leads_59 : decode y_X_leads.2.1 59 = .ok (.iconst 0, 1) := op_iconst0 (gk (k := 32) (t := 27) ck_X_leads_1 rfl)
theorem d_X_leads_60 : decode y_X_leads.2.1 60 = .ok (.aload_n 0, 1) := op_aload_n0 (gk (k := 32) (t := 28) ck_X_leads_1 rfl)
theorem d_X_leads_61 : decode y_X_leads.2.1 61 = .ok (.getfield 7, 3) := op_getfield (gk (k := 32) (t := 29) ck_X_leads_1 rfl) (gk (k := 32) (t := 30) ck_X_leads_1 rfl) (gk (k := 32) (t := 31) ck_X_leads_1 rfl) rfl
theorem ck_X_leads_2 : (y_X_leads.2.1.data.toList.drop 64).take 32 = [16, 71, 46, 42, 180, 0, 16, 16, 71, 46, 100, 79, 42, 180, 0, 93, 4, 42, 180, 0, 7, 16, 72, 46, 42, 180, 0, 16, 16, 72, 46, 100] := by decide +kernel
theorem d_X_leads_64 : decode y_X_leads.2.1 64 = .ok (.bipush 71, 2) := op_bipush (gk (k := 64) (t := 0) ck_X_leads_2 rfl) (gk (k := 64) (t := 1) ck_X_leads_2 rfl) rfl
theorem d_X_leads_66 : decode y_X_leads.2.1 66 = .ok (.iaload, 1) := op_iaload (gk (k := 64) (t := 2) ck_X_leads_2 rfl)
theorem d_X_leads_67 : decode y_X_leads.2.1 67 = .ok (.aload_n 0, 1) := op_aload_n0 (gk (k := 64) (t := 3) ck_X_leads_2 rfl)
theorem d_X_leads_68 : decode y_X_leads.2.1 68 = .ok (.getfield 16, 3) := op_getfield (gk (k := 64) (t := 4) ck_X_leads_2 rfl) (gk (k := 64) (t := 5) ck_X_leads_2 rfl) (gk (k := 64) (t := 6) ck_X_leads_2 rfl) rfl
theorem d_X_leads_71 : decode y_X_leads.2.1 71 = .ok (.bipush 71, 2) := op_bipush (gk (k := 64) (t := 7) ck_X_leads_2 rfl) (gk (k := 64) (t := 8) ck_X_leads_2 rfl) rfl
theorem d_X_leads_73 : decode y_X_leads.2.1 73 = .ok (.iaload, 1) := op_iaload (gk (k := 64) (t := 9) ck_X_leads_2 rfl)
theorem d_X_leads_74 : decode y_X_leads.2.1 74 = .ok (.isub, 1) := op_isub (gk (k := 64) (t := 10) ck_X_leads_2 rfl)
theorem d_X_leads_75 : decode y_X_leads.2.1 75 = .ok (.iastore, 1) := op_iastore (gk (k := 64) (t := 11) ck_X_leads_2 rfl)
theorem d_X_leads_76 : decode y_X_leads.2.1 76 = .ok (.aload_n 0, 1) := op_aload_n0 (gk (k := 64) (t := 12) ck_X_leads_2 rfl)
theorem d_X_leads_77 : decode y_X_leads.2.1 77 = .ok (.getfield 93, 3) := op_getfield (gk (k := 64) (t := 13) ck_X_leads_2 rfl) (gk (k := 64) (t := 14) ck_X_leads_2 rfl) (gk (k := 64) (t := 15) ck_X_leads_2 rfl) rfl
theorem d_X_leads_80 : decode y_X_leads.2.1 80 = .ok (.iconst 1, 1) := op_iconst1 (gk (k := 64) (t := 16) ck_X_leads_2 rfl)
theorem d_X_leads_81 : decode y_X_leads.2.1 81 = .ok (.aload_n 0, 1) := op_aload_n0 (gk (k := 64) (t := 17) ck_X_leads_2 rfl)
theorem d_X_leads_82 : decode y_X_leads.2.1 82 = .ok (.getfield 7, 3) := op_getfield (gk (k := 64) (t := 18) ck_X_leads_2 rfl) (gk (k := 64) (t := 19) ck_X_leads_2 rfl) (gk (k := 64) (t := 20) ck_X_leads_2 rfl) rfl
theorem d_X_leads_85 : decode y_X_leads.2.1 85 = .ok (.bipush 72, 2) := op_bipush (gk (k := 64) (t := 21) ck_X_leads_2 rfl) (gk (k := 64) (t := 22) ck_X_leads_2 rfl) rfl
theorem d_X_leads_87 : decode y_X_leads.2.1 87 = .ok (.iaload, 1) := op_iaload (gk (k := 64) (t := 23) ck_X_leads_2 rfl)
theorem d_X_leads_88 : decode y_X_leads.2.1 88 = .ok (.aload_n 0, 1) := op_aload_n0 (gk (k := 64) (t := 24) ck_X_leads_2 rfl)
theorem d_X_leads_89 : decode y_X_leads.2.1 89 = .ok (.getfield 16, 3) := op_getfield (gk (k := 64) (t := 25) ck_X_leads_2 rfl) (gk (k := 64) (t := 26) ck_X_leads_2 rfl) (gk (k := 64) (t := 27) ck_X_leads_2 rfl) rfl
theorem d_X_leads_92 : decode y_X_leads.2.1 92 = .ok (.bipush 72, 2) := op_bipush (gk (k := 64) (t := 28) ck_X_leads_2 rfl) (gk (k := 64) (t := 29) ck_X_leads_2 rfl) rfl
theorem d_X_leads_94 : decode y_X_leads.2.1 94 = .ok (.iaload, 1) := op_iaload (gk (k := 64) (t := 30) ck_X_leads_2 rfl)
theorem d_X_leads_95 : decode y_X_leads.2.1 95 = .ok (.isub, 1) := op_isub (gk (k := 64) (t := 31) ck_X_leads_2 rfl)
theorem ck_X_leads_3 : (y_X_leads.2.1.data.toList.drop 96).take 32 = [79, 42, 180, 0, 93, 5, 42, 16, 90, 182, 1, 154, 21, 5, 100, 79, 42, 180, 0, 93, 6, 42, 180, 0, 7, 16, 76, 46, 42, 180, 0, 16] := by decide +kernel
theorem d_X_leads_96 : decode y_X_leads.2.1 96 = .ok (.iastore, 1) := op_iastore (gk (k := 96) (t := 0) ck_X_leads_3 rfl)
theorem d_X_leads_97 : decode y_X_leads.2.1 97 = .ok (.aload_n 0, 1) := op_aload_n0 (gk (k := 96) (t := 1) ck_X_leads_3 rfl)
theorem d_X_leads_98 : decode y_X_leads.2.1 98 = .ok (.getfield 93, 3) := op_getfield (gk (k := 96) (t := 2) ck_X_leads_3 rfl) (gk (k := 96) (t := 3) ck_X_leads_3 rfl) (gk (k := 96) (t := 4) ck_X_leads_3 rfl) rfl
theorem d_X_leads_101 : decode y_X_leads.2.1 101 = .ok (.iconst 2, 1) := op_iconst2 (gk (k := 96) (t := 5) ck_X_leads_3 rfl)
theorem d_X_leads_102 : decode y_X_leads.2.1 102 = .ok (.aload_n 0, 1) := op_aload_n0 (gk (k := 96) (t := 6) ck_X_leads_3 rfl)
theorem d_X_leads_103 : decode y_X_leads.2.1 103 = .ok (.bipush 90, 2) := op_bipush (gk (k := 96) (t := 7) ck_X_leads_3 rfl) (gk (k := 96) (t := 8) ck_X_leads_3 rfl) rfl
theorem d_X_leads_105 : decode y_X_leads.2.1 105 = .ok (.invokevirtual 410, 3) := op_invokevirtual (gk (k := 96) (t := 9) ck_X_leads_3 rfl) (gk (k := 96) (t := 10) ck_X_leads_3 rfl) (gk (k := 96) (t := 11) ck_X_leads_3 rfl) rfl
theorem d_X_leads_108 : decode y_X_leads.2.1 108 = .ok (.iload 5, 2) := op_iload (gk (k := 96) (t := 12) ck_X_leads_3 rfl) (gk (k := 96) (t := 13) ck_X_leads_3 rfl) rfl
theorem d_X_leads_110 : decode y_X_leads.2.1 110 = .ok (.isub, 1) := op_isub (gk (k := 96) (t := 14) ck_X_leads_3 rfl)
theorem d_X_leads_111 : decode y_X_leads.2.1 111 = .ok (.iastore, 1) := op_iastore (gk (k := 96) (t := 15) ck_X_leads_3 rfl)
theorem d_X_leads_112 : decode y_X_leads.2.1 112 = .ok (.aload_n 0, 1) := op_aload_n0 (gk (k := 96) (t := 16) ck_X_leads_3 rfl)
theorem d_X_leads_113 : decode y_X_leads.2.1 113 = .ok (.getfield 93, 3) := op_getfield (gk (k := 96) (t := 17) ck_X_leads_3 rfl) (gk (k := 96) (t := 18) ck_X_leads_3 rfl) (gk (k := 96) (t := 19) ck_X_leads_3 rfl) rfl
theorem d_X_leads_116 : decode y_X_leads.2.1 116 = .ok (.iconst 3, 1) := op_iconst3 (gk (k := 96) (t := 20) ck_X_leads_3 rfl)
theorem d_X_leads_117 : decode y_X_leads.2.1 117 = .ok (.aload_n 0, 1) := op_aload_n0 (gk (k := 96) (t := 21) ck_X_leads_3 rfl)
theorem d_X_leads_118 : decode y_X_leads.2.1 118 = .ok (.getfield 7, 3) := op_getfield (gk (k := 96) (t := 22) ck_X_leads_3 rfl) (gk (k := 96) (t := 23) ck_X_leads_3 rfl) (gk (k := 96) (t := 24) ck_X_leads_3 rfl) rfl
theorem d_X_leads_121 : decode y_X_leads.2.1 121 = .ok (.bipush 76, 2) := op_bipush (gk (k := 96) (t := 25) ck_X_leads_3 rfl) (gk (k := 96) (t := 26) ck_X_leads_3 rfl) rfl
theorem d_X_leads_123 : decode y_X_leads.2.1 123 = .ok (.iaload, 1) := op_iaload (gk (k := 96) (t := 27) ck_X_leads_3 rfl)
theorem d_X_leads_124 : decode y_X_leads.2.1 124 = .ok (.aload_n 0, 1) := op_aload_n0 (gk (k := 96) (t := 28) ck_X_leads_3 rfl)
theorem d_X_leads_125 : decode y_X_leads.2.1 125 = .ok (.getfield 16, 3) := op_getfield (gk (k := 96) (t := 29) ck_X_leads_3 rfl) (gk (k := 96) (t := 30) ck_X_leads_3 rfl) (gk (k := 96) (t := 31) ck_X_leads_3 rfl) rfl
theorem ck_X_leads_4 : (y_X_leads.2.1.data.toList.drop 128).take 32 = [16, 76, 46, 100, 79, 42, 180, 0, 93, 7, 42, 180, 0, 7, 16, 75, 46, 42, 180, 0, 16, 16, 75, 46, 100, 79, 42, 180, 0, 93, 8, 42] := by decide +kernel
theorem d_X_leads_128 : decode y_X_leads.2.1 128 = .ok (.bipush 76, 2) := op_bipush (gk (k := 128) (t := 0) ck_X_leads_4 rfl) (gk (k := 128) (t := 1) ck_X_leads_4 rfl) rfl
theorem d_X_leads_130 : decode y_X_leads.2.1 130 = .ok (.iaload, 1) := op_iaload (gk (k := 128) (t := 2) ck_X_leads_4 rfl)
theorem d_X_leads_131 : decode y_X_leads.2.1 131 = .ok (.isub, 1) := op_isub (gk (k := 128) (t := 3) ck_X_leads_4 rfl)
theorem d_X_leads_132 : decode y_X_leads.2.1 132 = .ok (.iastore, 1) := op_iastore (gk (k := 128) (t := 4) ck_X_leads_4 rfl)
theorem d_X_leads_133 : decode y_X_leads.2.1 133 = .ok (.aload_n 0, 1) := op_aload_n0 (gk (k := 128) (t := 5) ck_X_leads_4 rfl)
theorem d_X_leads_134 : decode y_X_leads.2.1 134 = .ok (.getfield 93, 3) := op_getfield (gk (k := 128) (t := 6) ck_X_leads_4 rfl) (gk (k := 128) (t := 7) ck_X_leads_4 rfl) (gk (k := 128) (t := 8) ck_X_leads_4 rfl) rfl
theorem d_X_leads_137 : decode y_X_leads.2.1 137 = .ok (.iconst 4, 1) := op_iconst4 (gk (k := 128) (t := 9) ck_X_leads_4 rfl)
theorem d_X_leads_138 : decode y_X_leads.2.1 138 = .ok (.aload_n 0, 1) := op_aload_n0 (gk (k := 128) (t := 10) ck_X_leads_4 rfl)
theorem d_X_leads_139 : decode y_X_leads.2.1 139 = .ok (.getfield 7, 3) := op_getfield (gk (k := 128) (t := 11) ck_X_leads_4 rfl) (gk (k := 128) (t := 12) ck_X_leads_4 rfl) (gk (k := 128) (t := 13) ck_X_leads_4 rfl) rfl
theorem d_X_leads_142 : decode y_X_leads.2.1 142 = .ok (.bipush 75, 2) := op_bipush (gk (k := 128) (t := 14) ck_X_leads_4 rfl) (gk (k := 128) (t := 15) ck_X_leads_4 rfl) rfl
theorem d_X_leads_144 : decode y_X_leads.2.1 144 = .ok (.iaload, 1) := op_iaload (gk (k := 128) (t := 16) ck_X_leads_4 rfl)
theorem d_X_leads_145 : decode y_X_leads.2.1 145 = .ok (.aload_n 0, 1) := op_aload_n0 (gk (k := 128) (t := 17) ck_X_leads_4 rfl)
theorem d_X_leads_146 : decode y_X_leads.2.1 146 = .ok (.getfield 16, 3) := op_getfield (gk (k := 128) (t := 18) ck_X_leads_4 rfl) (gk (k := 128) (t := 19) ck_X_leads_4 rfl) (gk (k := 128) (t := 20) ck_X_leads_4 rfl) rfl
theorem d_X_leads_149 : decode y_X_leads.2.1 149 = .ok (.bipush 75, 2) := op_bipush (gk (k := 128) (t := 21) ck_X_leads_4 rfl) (gk (k := 128) (t := 22) ck_X_leads_4 rfl) rfl
theorem d_X_leads_151 : decode y_X_leads.2.1 151 = .ok (.iaload, 1) := op_iaload (gk (k := 128) (t := 23) ck_X_leads_4 rfl)
theorem d_X_leads_152 : decode y_X_leads.2.1 152 = .ok (.isub, 1) := op_isub (gk (k := 128) (t := 24) ck_X_leads_4 rfl)
theorem d_X_leads_153 : decode y_X_leads.2.1 153 = .ok (.iastore, 1) := op_iastore (gk (k := 128) (t := 25) ck_X_leads_4 rfl)
theorem d_X_leads_154 : decode y_X_leads.2.1 154 = .ok (.aload_n 0, 1) := op_aload_n0 (gk (k := 128) (t := 26) ck_X_leads_4 rfl)
theorem d_X_leads_155 : decode y_X_leads.2.1 155 = .ok (.getfield 93, 3) := op_getfield (gk (k := 128) (t := 27) ck_X_leads_4 rfl) (gk (k := 128) (t := 28) ck_X_leads_4 rfl) (gk (k := 128) (t := 29) ck_X_leads_4 rfl) rfl
theorem d_X_leads_158 : decode y_X_leads.2.1 158 = .ok (.iconst 5, 1) := op_iconst5 (gk (k := 128) (t := 30) ck_X_leads_4 rfl)
theorem d_X_leads_159 : decode y_X_leads.2.1 159 = .ok (.aload_n 0, 1) := op_aload_n0 (gk (k := 128) (t := 31) ck_X_leads_4 rfl)
theorem lk_X_413 : LkV "SinglesUpModel" 413 y_X_longest := ⟨tw_c7 149 (by decide +kernel) rfl, tw_in 95 (by decide +kernel) rfl, Or.inl (tw_c7 147 (by decide +kernel) rfl)⟩
set_option maxRecDepth 100000 in
theorem mo_X_longest : MOk y_X_longest 0 := ⟨by decide +kernel, tw_c7 150 rfl rfl, tw_c1 12 (by decide +kernel) rfl, by decide +kernel, by decide +kernel, by decide +kernel⟩
theorem ck_X_leads_5 : (y_X_leads.2.1.data.toList.drop 160).take 32 = [182, 1, 157, 79, 42, 182, 1, 142, 177] := by decide +kernel
theorem d_X_leads_160 : decode y_X_leads.2.1 160 = .ok (.invokevirtual 413, 3) := op_invokevirtual (gk (k := 160) (t := 0) ck_X_leads_5 rfl) (gk (k := 160) (t := 1) ck_X_leads_5 rfl) (gk (k := 160) (t := 2) ck_X_leads_5 rfl) rfl
theorem d_X_leads_163 : decode y_X_leads.2.1 163 = .ok (.iastore, 1) := op_iastore (gk (k := 160) (t := 3) ck_X_leads_5 rfl)
theorem d_X_leads_164 : decode y_X_leads.2.1 164 = .ok (.aload_n 0, 1) := op_aload_n0 (gk (k := 160) (t := 4) ck_X_leads_5 rfl)
theorem lk_X_398 : LkV "SinglesUpModel" 398 y_X_comesBack := ⟨tw_c7 116 (by decide +kernel) rfl, tw_in 90 (by decide +kernel) rfl, Or.inl (tw_c7 114 (by decide +kernel) rfl)⟩
set_option maxRecDepth 100000 in
theorem mo_X_comesBack : MOk y_X_comesBack 0 := ⟨by decide +kernel, tw_c7 117 rfl rfl, tw_c1 12 (by decide +kernel) rfl, by decide +kernel, by decide +kernel, by decide +kernel⟩
theorem d_X_leads_165 : decode y_X_leads.2.1 165 = .ok (.invokevirtual 398, 3) := op_invokevirtual (gk (k := 160) (t := 5) ck_X_leads_5 rfl) (gk (k := 160) (t := 6) ck_X_leads_5 rfl) (gk (k := 160) (t := 7) ck_X_leads_5 rfl) rfl
theorem d_X_leads_168 : decode y_X_leads.2.1 168 = .ok (.return_, 1) := op_return_ (gk (k := 160) (t := 8) ck_X_leads_5 rfl)
abbrev y_X_thought : MI := (⟨"SinglesUpModel", "thought", "(IIIII)I"⟩, prog_11_method_93_code, 6, some .int)
theorem ck_X_thought_0 : (y_X_thought.2.1.data.toList.drop 0).take 32 = [27, 3, 6, 184, 0, 98, 153, 0, 44, 28, 3, 16, 99, 184, 0, 98, 153, 0, 34, 29, 5, 16, 8, 184, 0, 98, 153, 0, 24, 21, 4, 4] := by decide +kernel
theorem d_X_thought_0 : decode y_X_thought.2.1 0 = .ok (.iload_n 1, 1) := op_iload_n1 (gk (k := 0) (t := 0) ck_X_thought_0 rfl)
theorem d_X_thought_1 : decode y_X_thought.2.1 1 = .ok (.iconst 0, 1) := op_iconst0 (gk (k := 0) (t := 1) ck_X_thought_0 rfl)
theorem d_X_thought_2 : decode y_X_thought.2.1 2 = .ok (.iconst 3, 1) := op_iconst3 (gk (k := 0) (t := 2) ck_X_thought_0 rfl)
theorem d_X_thought_3 : decode y_X_thought.2.1 3 = .ok (.invokestatic 98, 3) := op_invokestatic (gk (k := 0) (t := 3) ck_X_thought_0 rfl) (gk (k := 0) (t := 4) ck_X_thought_0 rfl) (gk (k := 0) (t := 5) ck_X_thought_0 rfl) rfl
theorem d_X_thought_6 : decode y_X_thought.2.1 6 = .ok (.ifCond .eq 44, 3) := op_if_eq (gk (k := 0) (t := 6) ck_X_thought_0 rfl) (gk (k := 0) (t := 7) ck_X_thought_0 rfl) (gk (k := 0) (t := 8) ck_X_thought_0 rfl) (by decide +kernel)
theorem ck_X_thought_1 : (y_X_thought.2.1.data.toList.drop 32).take 32 = [16, 40, 184, 0, 98, 153, 0, 13, 21, 5, 3, 8, 184, 0, 98, 154, 0, 5, 2, 172, 42, 27, 28, 29, 21, 4, 182, 1, 160, 42, 180, 0] := by decide +kernel
theorem d_X_thought_50 : decode y_X_thought.2.1 50 = .ok (.iconst (-1), 1) := op_iconstm1 (gk (k := 32) (t := 18) ck_X_thought_1 rfl)
theorem d_X_thought_51 : decode y_X_thought.2.1 51 = .ok (.ireturn, 1) := op_ireturn (gk (k := 32) (t := 19) ck_X_thought_1 rfl)
theorem d_X_thought_9 : decode y_X_thought.2.1 9 = .ok (.iload_n 2, 1) := op_iload_n2 (gk (k := 0) (t := 9) ck_X_thought_0 rfl)
theorem d_X_thought_10 : decode y_X_thought.2.1 10 = .ok (.iconst 0, 1) := op_iconst0 (gk (k := 0) (t := 10) ck_X_thought_0 rfl)
theorem d_X_thought_11 : decode y_X_thought.2.1 11 = .ok (.bipush 99, 2) := op_bipush (gk (k := 0) (t := 11) ck_X_thought_0 rfl) (gk (k := 0) (t := 12) ck_X_thought_0 rfl) rfl
theorem d_X_thought_13 : decode y_X_thought.2.1 13 = .ok (.invokestatic 98, 3) := op_invokestatic (gk (k := 0) (t := 13) ck_X_thought_0 rfl) (gk (k := 0) (t := 14) ck_X_thought_0 rfl) (gk (k := 0) (t := 15) ck_X_thought_0 rfl) rfl
theorem d_X_thought_16 : decode y_X_thought.2.1 16 = .ok (.ifCond .eq 34, 3) := op_if_eq (gk (k := 0) (t := 16) ck_X_thought_0 rfl) (gk (k := 0) (t := 17) ck_X_thought_0 rfl) (gk (k := 0) (t := 18) ck_X_thought_0 rfl) (by decide +kernel)
theorem d_X_thought_19 : decode y_X_thought.2.1 19 = .ok (.iload_n 3, 1) := op_iload_n3 (gk (k := 0) (t := 19) ck_X_thought_0 rfl)
theorem d_X_thought_20 : decode y_X_thought.2.1 20 = .ok (.iconst 2, 1) := op_iconst2 (gk (k := 0) (t := 20) ck_X_thought_0 rfl)
theorem d_X_thought_21 : decode y_X_thought.2.1 21 = .ok (.bipush 8, 2) := op_bipush (gk (k := 0) (t := 21) ck_X_thought_0 rfl) (gk (k := 0) (t := 22) ck_X_thought_0 rfl) rfl
theorem d_X_thought_23 : decode y_X_thought.2.1 23 = .ok (.invokestatic 98, 3) := op_invokestatic (gk (k := 0) (t := 23) ck_X_thought_0 rfl) (gk (k := 0) (t := 24) ck_X_thought_0 rfl) (gk (k := 0) (t := 25) ck_X_thought_0 rfl) rfl
theorem d_X_thought_26 : decode y_X_thought.2.1 26 = .ok (.ifCond .eq 24, 3) := op_if_eq (gk (k := 0) (t := 26) ck_X_thought_0 rfl) (gk (k := 0) (t := 27) ck_X_thought_0 rfl) (gk (k := 0) (t := 28) ck_X_thought_0 rfl) (by decide +kernel)
theorem d_X_thought_29 : decode y_X_thought.2.1 29 = .ok (.iload 4, 2) := op_iload (gk (k := 0) (t := 29) ck_X_thought_0 rfl) (gk (k := 0) (t := 30) ck_X_thought_0 rfl) rfl
theorem d_X_thought_31 : decode y_X_thought.2.1 31 = .ok (.iconst 1, 1) := op_iconst1 (gk (k := 0) (t := 31) ck_X_thought_0 rfl)
theorem d_X_thought_32 : decode y_X_thought.2.1 32 = .ok (.bipush 40, 2) := op_bipush (gk (k := 32) (t := 0) ck_X_thought_1 rfl) (gk (k := 32) (t := 1) ck_X_thought_1 rfl) rfl
theorem d_X_thought_34 : decode y_X_thought.2.1 34 = .ok (.invokestatic 98, 3) := op_invokestatic (gk (k := 32) (t := 2) ck_X_thought_1 rfl) (gk (k := 32) (t := 3) ck_X_thought_1 rfl) (gk (k := 32) (t := 4) ck_X_thought_1 rfl) rfl
theorem d_X_thought_37 : decode y_X_thought.2.1 37 = .ok (.ifCond .eq 13, 3) := op_if_eq (gk (k := 32) (t := 5) ck_X_thought_1 rfl) (gk (k := 32) (t := 6) ck_X_thought_1 rfl) (gk (k := 32) (t := 7) ck_X_thought_1 rfl) (by decide +kernel)
theorem d_X_thought_40 : decode y_X_thought.2.1 40 = .ok (.iload 5, 2) := op_iload (gk (k := 32) (t := 8) ck_X_thought_1 rfl) (gk (k := 32) (t := 9) ck_X_thought_1 rfl) rfl
theorem d_X_thought_42 : decode y_X_thought.2.1 42 = .ok (.iconst 0, 1) := op_iconst0 (gk (k := 32) (t := 10) ck_X_thought_1 rfl)
theorem d_X_thought_43 : decode y_X_thought.2.1 43 = .ok (.iconst 5, 1) := op_iconst5 (gk (k := 32) (t := 11) ck_X_thought_1 rfl)
theorem d_X_thought_44 : decode y_X_thought.2.1 44 = .ok (.invokestatic 98, 3) := op_invokestatic (gk (k := 32) (t := 12) ck_X_thought_1 rfl) (gk (k := 32) (t := 13) ck_X_thought_1 rfl) (gk (k := 32) (t := 14) ck_X_thought_1 rfl) rfl
theorem d_X_thought_47 : decode y_X_thought.2.1 47 = .ok (.ifCond .ne 5, 3) := op_if_ne (gk (k := 32) (t := 15) ck_X_thought_1 rfl) (gk (k := 32) (t := 16) ck_X_thought_1 rfl) (gk (k := 32) (t := 17) ck_X_thought_1 rfl) (by decide +kernel)
theorem d_X_thought_52 : decode y_X_thought.2.1 52 = .ok (.aload_n 0, 1) := op_aload_n0 (gk (k := 32) (t := 20) ck_X_thought_1 rfl)
theorem d_X_thought_53 : decode y_X_thought.2.1 53 = .ok (.iload_n 1, 1) := op_iload_n1 (gk (k := 32) (t := 21) ck_X_thought_1 rfl)
theorem d_X_thought_54 : decode y_X_thought.2.1 54 = .ok (.iload_n 2, 1) := op_iload_n2 (gk (k := 32) (t := 22) ck_X_thought_1 rfl)
theorem d_X_thought_55 : decode y_X_thought.2.1 55 = .ok (.iload_n 3, 1) := op_iload_n3 (gk (k := 32) (t := 23) ck_X_thought_1 rfl)
theorem d_X_thought_56 : decode y_X_thought.2.1 56 = .ok (.iload 4, 2) := op_iload (gk (k := 32) (t := 24) ck_X_thought_1 rfl) (gk (k := 32) (t := 25) ck_X_thought_1 rfl) rfl
theorem lk_X_416 : LkV "SinglesUpModel" 416 y_X_leads := ⟨tw_c7 141 (by decide +kernel) rfl, tw_in 93 (by decide +kernel) rfl, Or.inl (tw_c7 139 (by decide +kernel) rfl)⟩
set_option maxRecDepth 100000 in
theorem mo_X_leads : MOk y_X_leads 4 := ⟨by decide +kernel, tw_c7 142 rfl rfl, tw_c1 12 (by decide +kernel) rfl, by decide +kernel, by decide +kernel, by decide +kernel⟩
theorem d_X_thought_58 : decode y_X_thought.2.1 58 = .ok (.invokevirtual 416, 3) := op_invokevirtual (gk (k := 32) (t := 26) ck_X_thought_1 rfl) (gk (k := 32) (t := 27) ck_X_thought_1 rfl) (gk (k := 32) (t := 28) ck_X_thought_1 rfl) rfl
theorem d_X_thought_61 : decode y_X_thought.2.1 61 = .ok (.aload_n 0, 1) := op_aload_n0 (gk (k := 32) (t := 29) ck_X_thought_1 rfl)
theorem ck_X_thought_2 : (y_X_thought.2.1.data.toList.drop 64).take 32 = [93, 21, 5, 46, 172] := by decide +kernel
theorem d_X_thought_62 : decode y_X_thought.2.1 62 = .ok (.getfield 93, 3) := op_getfield (gk (k := 32) (t := 30) ck_X_thought_1 rfl) (gk (k := 32) (t := 31) ck_X_thought_1 rfl) (gk (k := 64) (t := 0) ck_X_thought_2 rfl) rfl
theorem d_X_thought_65 : decode y_X_thought.2.1 65 = .ok (.iload 5, 2) := op_iload (gk (k := 64) (t := 1) ck_X_thought_2 rfl) (gk (k := 64) (t := 2) ck_X_thought_2 rfl) rfl
theorem d_X_thought_67 : decode y_X_thought.2.1 67 = .ok (.iaload, 1) := op_iaload (gk (k := 64) (t := 3) ck_X_thought_2 rfl)
theorem d_X_thought_68 : decode y_X_thought.2.1 68 = .ok (.ireturn, 1) := op_ireturn (gk (k := 64) (t := 4) ck_X_thought_2 rfl)
abbrev y_X_price : MI := (⟨"SinglesUpModel", "price", "(II)I"⟩, prog_11_method_94_code, 4, some .int)
theorem ck_X_price_0 : (y_X_price.2.1.data.toList.drop 0).take 32 = [27, 3, 16, 99, 184, 0, 98, 153, 0, 13, 28, 4, 16, 40, 184, 0, 98, 154, 0, 7, 19, 1, 28, 172, 42, 42, 180, 0, 7, 16, 6, 46] := by decide +kernel
theorem d_X_price_0 : decode y_X_price.2.1 0 = .ok (.iload_n 1, 1) := op_iload_n1 (gk (k := 0) (t := 0) ck_X_price_0 rfl)
theorem d_X_price_1 : decode y_X_price.2.1 1 = .ok (.iconst 0, 1) := op_iconst0 (gk (k := 0) (t := 1) ck_X_price_0 rfl)
theorem d_X_price_2 : decode y_X_price.2.1 2 = .ok (.bipush 99, 2) := op_bipush (gk (k := 0) (t := 2) ck_X_price_0 rfl) (gk (k := 0) (t := 3) ck_X_price_0 rfl) rfl
theorem d_X_price_4 : decode y_X_price.2.1 4 = .ok (.invokestatic 98, 3) := op_invokestatic (gk (k := 0) (t := 4) ck_X_price_0 rfl) (gk (k := 0) (t := 5) ck_X_price_0 rfl) (gk (k := 0) (t := 6) ck_X_price_0 rfl) rfl
theorem d_X_price_7 : decode y_X_price.2.1 7 = .ok (.ifCond .eq 13, 3) := op_if_eq (gk (k := 0) (t := 7) ck_X_price_0 rfl) (gk (k := 0) (t := 8) ck_X_price_0 rfl) (gk (k := 0) (t := 9) ck_X_price_0 rfl) (by decide +kernel)
theorem d_X_price_20 : decode y_X_price.2.1 20 = .ok (.ldc_w 284, 3) := by decide +kernel
theorem d_X_price_23 : decode y_X_price.2.1 23 = .ok (.ireturn, 1) := op_ireturn (gk (k := 0) (t := 23) ck_X_price_0 rfl)
theorem d_X_price_10 : decode y_X_price.2.1 10 = .ok (.iload_n 2, 1) := op_iload_n2 (gk (k := 0) (t := 10) ck_X_price_0 rfl)
theorem d_X_price_11 : decode y_X_price.2.1 11 = .ok (.iconst 1, 1) := op_iconst1 (gk (k := 0) (t := 11) ck_X_price_0 rfl)
theorem d_X_price_12 : decode y_X_price.2.1 12 = .ok (.bipush 40, 2) := op_bipush (gk (k := 0) (t := 12) ck_X_price_0 rfl) (gk (k := 0) (t := 13) ck_X_price_0 rfl) rfl
theorem d_X_price_14 : decode y_X_price.2.1 14 = .ok (.invokestatic 98, 3) := op_invokestatic (gk (k := 0) (t := 14) ck_X_price_0 rfl) (gk (k := 0) (t := 15) ck_X_price_0 rfl) (gk (k := 0) (t := 16) ck_X_price_0 rfl) rfl
theorem d_X_price_17 : decode y_X_price.2.1 17 = .ok (.ifCond .ne 7, 3) := op_if_ne (gk (k := 0) (t := 17) ck_X_price_0 rfl) (gk (k := 0) (t := 18) ck_X_price_0 rfl) (gk (k := 0) (t := 19) ck_X_price_0 rfl) (by decide +kernel)
theorem d_X_price_24 : decode y_X_price.2.1 24 = .ok (.aload_n 0, 1) := op_aload_n0 (gk (k := 0) (t := 24) ck_X_price_0 rfl)
theorem d_X_price_25 : decode y_X_price.2.1 25 = .ok (.aload_n 0, 1) := op_aload_n0 (gk (k := 0) (t := 25) ck_X_price_0 rfl)
theorem d_X_price_26 : decode y_X_price.2.1 26 = .ok (.getfield 7, 3) := op_getfield (gk (k := 0) (t := 26) ck_X_price_0 rfl) (gk (k := 0) (t := 27) ck_X_price_0 rfl) (gk (k := 0) (t := 28) ck_X_price_0 rfl) rfl
theorem d_X_price_29 : decode y_X_price.2.1 29 = .ok (.bipush 6, 2) := op_bipush (gk (k := 0) (t := 29) ck_X_price_0 rfl) (gk (k := 0) (t := 30) ck_X_price_0 rfl) rfl
theorem d_X_price_31 : decode y_X_price.2.1 31 = .ok (.iaload, 1) := op_iaload (gk (k := 0) (t := 31) ck_X_price_0 rfl)
theorem ck_X_price_1 : (y_X_price.2.1.data.toList.drop 32).take 32 = [27, 42, 180, 0, 7, 4, 46, 28, 182, 1, 160, 42, 180, 0, 93, 3, 46, 62, 42, 42, 180, 0, 7, 16, 6, 46, 3, 42, 180, 0, 7, 4] := by decide +kernel
theorem d_X_price_32 : decode y_X_price.2.1 32 = .ok (.iload_n 1, 1) := op_iload_n1 (gk (k := 32) (t := 0) ck_X_price_1 rfl)
theorem d_X_price_33 : decode y_X_price.2.1 33 = .ok (.aload_n 0, 1) := op_aload_n0 (gk (k := 32) (t := 1) ck_X_price_1 rfl)
theorem d_X_price_34 : decode y_X_price.2.1 34 = .ok (.getfield 7, 3) := op_getfield (gk (k := 32) (t := 2) ck_X_price_1 rfl) (gk (k := 32) (t := 3) ck_X_price_1 rfl) (gk (k := 32) (t := 4) ck_X_price_1 rfl) rfl
theorem d_X_price_37 : decode y_X_price.2.1 37 = .ok (.iconst 1, 1) := op_iconst1 (gk (k := 32) (t := 5) ck_X_price_1 rfl)
theorem d_X_price_38 : decode y_X_price.2.1 38 = .ok (.iaload, 1) := op_iaload (gk (k := 32) (t := 6) ck_X_price_1 rfl)
theorem d_X_price_39 : decode y_X_price.2.1 39 = .ok (.iload_n 2, 1) := op_iload_n2 (gk (k := 32) (t := 7) ck_X_price_1 rfl)
theorem d_X_price_40 : decode y_X_price.2.1 40 = .ok (.invokevirtual 416, 3) := op_invokevirtual (gk (k := 32) (t := 8) ck_X_price_1 rfl) (gk (k := 32) (t := 9) ck_X_price_1 rfl) (gk (k := 32) (t := 10) ck_X_price_1 rfl) rfl
theorem d_X_price_43 : decode y_X_price.2.1 43 = .ok (.aload_n 0, 1) := op_aload_n0 (gk (k := 32) (t := 11) ck_X_price_1 rfl)
theorem d_X_price_44 : decode y_X_price.2.1 44 = .ok (.getfield 93, 3) := op_getfield (gk (k := 32) (t := 12) ck_X_price_1 rfl) (gk (k := 32) (t := 13) ck_X_price_1 rfl) (gk (k := 32) (t := 14) ck_X_price_1 rfl) rfl
theorem d_X_price_47 : decode y_X_price.2.1 47 = .ok (.iconst 0, 1) := op_iconst0 (gk (k := 32) (t := 15) ck_X_price_1 rfl)
theorem d_X_price_48 : decode y_X_price.2.1 48 = .ok (.iaload, 1) := op_iaload (gk (k := 32) (t := 16) ck_X_price_1 rfl)
theorem d_X_price_49 : decode y_X_price.2.1 49 = .ok (.istore_n 3, 1) := op_istore_n3 (gk (k := 32) (t := 17) ck_X_price_1 rfl)
theorem d_X_price_50 : decode y_X_price.2.1 50 = .ok (.aload_n 0, 1) := op_aload_n0 (gk (k := 32) (t := 18) ck_X_price_1 rfl)
theorem d_X_price_51 : decode y_X_price.2.1 51 = .ok (.aload_n 0, 1) := op_aload_n0 (gk (k := 32) (t := 19) ck_X_price_1 rfl)
theorem d_X_price_52 : decode y_X_price.2.1 52 = .ok (.getfield 7, 3) := op_getfield (gk (k := 32) (t := 20) ck_X_price_1 rfl) (gk (k := 32) (t := 21) ck_X_price_1 rfl) (gk (k := 32) (t := 22) ck_X_price_1 rfl) rfl
theorem d_X_price_55 : decode y_X_price.2.1 55 = .ok (.bipush 6, 2) := op_bipush (gk (k := 32) (t := 23) ck_X_price_1 rfl) (gk (k := 32) (t := 24) ck_X_price_1 rfl) rfl
theorem d_X_price_57 : decode y_X_price.2.1 57 = .ok (.iaload, 1) := op_iaload (gk (k := 32) (t := 25) ck_X_price_1 rfl)
theorem d_X_price_58 : decode y_X_price.2.1 58 = .ok (.iconst 0, 1) := op_iconst0 (gk (k := 32) (t := 26) ck_X_price_1 rfl)
theorem d_X_price_59 : decode y_X_price.2.1 59 = .ok (.aload_n 0, 1) := op_aload_n0 (gk (k := 32) (t := 27) ck_X_price_1 rfl)
theorem d_X_price_60 : decode y_X_price.2.1 60 = .ok (.getfield 7, 3) := op_getfield (gk (k := 32) (t := 28) ck_X_price_1 rfl) (gk (k := 32) (t := 29) ck_X_price_1 rfl) (gk (k := 32) (t := 30) ck_X_price_1 rfl) rfl
theorem d_X_price_63 : decode y_X_price.2.1 63 = .ok (.iconst 1, 1) := op_iconst1 (gk (k := 32) (t := 31) ck_X_price_1 rfl)
theorem ck_X_price_2 : (y_X_price.2.1.data.toList.drop 64).take 32 = [46, 28, 182, 1, 160, 29, 42, 180, 0, 93, 3, 46, 100, 172] := by decide +kernel
theorem d_X_price_64 : decode y_X_price.2.1 64 = .ok (.iaload, 1) := op_iaload (gk (k := 64) (t := 0) ck_X_price_2 rfl)
theorem d_X_price_65 : decode y_X_price.2.1 65 = .ok (.iload_n 2, 1) := op_iload_n2 (gk (k := 64) (t := 1) ck_X_price_2 rfl)
theorem d_X_price_66 : decode y_X_price.2.1 66 = .ok (.invokevirtual 416, 3) := op_invokevirtual (gk (k := 64) (t := 2) ck_X_price_2 rfl) (gk (k := 64) (t := 3) ck_X_price_2 rfl) (gk (k := 64) (t := 4) ck_X_price_2 rfl) rfl
theorem d_X_price_69 : decode y_X_price.2.1 69 = .ok (.iload_n 3, 1) := op_iload_n3 (gk (k := 64) (t := 5) ck_X_price_2 rfl)
theorem d_X_price_70 : decode y_X_price.2.1 70 = .ok (.aload_n 0, 1) := op_aload_n0 (gk (k := 64) (t := 6) ck_X_price_2 rfl)
theorem d_X_price_71 : decode y_X_price.2.1 71 = .ok (.getfield 93, 3) := op_getfield (gk (k := 64) (t := 7) ck_X_price_2 rfl) (gk (k := 64) (t := 8) ck_X_price_2 rfl) (gk (k := 64) (t := 9) ck_X_price_2 rfl) rfl
theorem d_X_price_74 : decode y_X_price.2.1 74 = .ok (.iconst 0, 1) := op_iconst0 (gk (k := 64) (t := 10) ck_X_price_2 rfl)
theorem d_X_price_75 : decode y_X_price.2.1 75 = .ok (.iaload, 1) := op_iaload (gk (k := 64) (t := 11) ck_X_price_2 rfl)
theorem d_X_price_76 : decode y_X_price.2.1 76 = .ok (.isub, 1) := op_isub (gk (k := 64) (t := 12) ck_X_price_2 rfl)
theorem d_X_price_77 : decode y_X_price.2.1 77 = .ok (.ireturn, 1) := op_ireturn (gk (k := 64) (t := 13) ck_X_price_2 rfl)
abbrev y_X_isThere : MI := (⟨"SinglesUpModel", "isThere", "(II)Z"⟩, prog_11_method_86_code, 3, some .boolean)
theorem ck_X_isThere_0 : (y_X_isThere.2.1.data.toList.drop 0).take 32 = [27, 184, 0, 105, 153, 0, 27, 28, 3, 42, 180, 0, 7, 17, 0, 130, 27, 96, 46, 4, 100, 184, 0, 98, 153, 0, 7, 4, 167, 0, 4, 3] := by decide +kernel
theorem d_X_isThere_0 : decode y_X_isThere.2.1 0 = .ok (.iload_n 1, 1) := op_iload_n1 (gk (k := 0) (t := 0) ck_X_isThere_0 rfl)
theorem d_X_isThere_1 : decode y_X_isThere.2.1 1 = .ok (.invokestatic 105, 3) := op_invokestatic (gk (k := 0) (t := 1) ck_X_isThere_0 rfl) (gk (k := 0) (t := 2) ck_X_isThere_0 rfl) (gk (k := 0) (t := 3) ck_X_isThere_0 rfl) rfl
theorem d_X_isThere_4 : decode y_X_isThere.2.1 4 = .ok (.ifCond .eq 27, 3) := op_if_eq (gk (k := 0) (t := 4) ck_X_isThere_0 rfl) (gk (k := 0) (t := 5) ck_X_isThere_0 rfl) (gk (k := 0) (t := 6) ck_X_isThere_0 rfl) (by decide +kernel)
theorem d_X_isThere_31 : decode y_X_isThere.2.1 31 = .ok (.iconst 0, 1) := op_iconst0 (gk (k := 0) (t := 31) ck_X_isThere_0 rfl)
theorem ck_X_isThere_1 : (y_X_isThere.2.1.data.toList.drop 32).take 32 = [172] := by decide +kernel
theorem d_X_isThere_32 : decode y_X_isThere.2.1 32 = .ok (.ireturn, 1) := op_ireturn (gk (k := 32) (t := 0) ck_X_isThere_1 rfl)
theorem d_X_isThere_7 : decode y_X_isThere.2.1 7 = .ok (.iload_n 2, 1) := op_iload_n2 (gk (k := 0) (t := 7) ck_X_isThere_0 rfl)
theorem d_X_isThere_8 : decode y_X_isThere.2.1 8 = .ok (.iconst 0, 1) := op_iconst0 (gk (k := 0) (t := 8) ck_X_isThere_0 rfl)
theorem d_X_isThere_9 : decode y_X_isThere.2.1 9 = .ok (.aload_n 0, 1) := op_aload_n0 (gk (k := 0) (t := 9) ck_X_isThere_0 rfl)
theorem d_X_isThere_10 : decode y_X_isThere.2.1 10 = .ok (.getfield 7, 3) := op_getfield (gk (k := 0) (t := 10) ck_X_isThere_0 rfl) (gk (k := 0) (t := 11) ck_X_isThere_0 rfl) (gk (k := 0) (t := 12) ck_X_isThere_0 rfl) rfl
theorem d_X_isThere_13 : decode y_X_isThere.2.1 13 = .ok (.sipush 130, 3) := op_sipush (gk (k := 0) (t := 13) ck_X_isThere_0 rfl) (gk (k := 0) (t := 14) ck_X_isThere_0 rfl) (gk (k := 0) (t := 15) ck_X_isThere_0 rfl) (by decide +kernel)
theorem d_X_isThere_16 : decode y_X_isThere.2.1 16 = .ok (.iload_n 1, 1) := op_iload_n1 (gk (k := 0) (t := 16) ck_X_isThere_0 rfl)
theorem d_X_isThere_17 : decode y_X_isThere.2.1 17 = .ok (.iadd, 1) := op_iadd (gk (k := 0) (t := 17) ck_X_isThere_0 rfl)
theorem d_X_isThere_18 : decode y_X_isThere.2.1 18 = .ok (.iaload, 1) := op_iaload (gk (k := 0) (t := 18) ck_X_isThere_0 rfl)
theorem d_X_isThere_19 : decode y_X_isThere.2.1 19 = .ok (.iconst 1, 1) := op_iconst1 (gk (k := 0) (t := 19) ck_X_isThere_0 rfl)
theorem d_X_isThere_20 : decode y_X_isThere.2.1 20 = .ok (.isub, 1) := op_isub (gk (k := 0) (t := 20) ck_X_isThere_0 rfl)
theorem d_X_isThere_21 : decode y_X_isThere.2.1 21 = .ok (.invokestatic 98, 3) := op_invokestatic (gk (k := 0) (t := 21) ck_X_isThere_0 rfl) (gk (k := 0) (t := 22) ck_X_isThere_0 rfl) (gk (k := 0) (t := 23) ck_X_isThere_0 rfl) rfl
theorem d_X_isThere_24 : decode y_X_isThere.2.1 24 = .ok (.ifCond .eq 7, 3) := op_if_eq (gk (k := 0) (t := 24) ck_X_isThere_0 rfl) (gk (k := 0) (t := 25) ck_X_isThere_0 rfl) (gk (k := 0) (t := 26) ck_X_isThere_0 rfl) (by decide +kernel)
theorem d_X_isThere_27 : decode y_X_isThere.2.1 27 = .ok (.iconst 1, 1) := op_iconst1 (gk (k := 0) (t := 27) ck_X_isThere_0 rfl)
theorem d_X_isThere_28 : decode y_X_isThere.2.1 28 = .ok (.goto 4, 3) := op_goto (gk (k := 0) (t := 28) ck_X_isThere_0 rfl) (gk (k := 0) (t := 29) ck_X_isThere_0 rfl) (gk (k := 0) (t := 30) ck_X_isThere_0 rfl) (by decide +kernel)
def fb_X_best_35 (fu : Nat) (k_88 : Int → IMem → Res) (k_159 : Int → IMem → Res) (o0 : Nat) (p1 : Int) (R_ : Int → Int → Int → Int → IMem → Res) (w2 : Int) (w3 : Int) (w4 : Int) (w5 : Int) (I0 : IMem) : Res :=
  if w5 < I0 o0 40 then (
      zb (f_X_taking fu o0 w5 w2 w3 I0) fun y5 I6 =>
      zj (fun (x10 : Int) (x11 : Int) (x12 : Int) (I9 : IMem) =>
          zl (wr32 (w5 + 1)) fun x13 =>
          R_ x10 x11 x12 x13 I9) fun k8 =>
        if y5 < 0 then (
          k8 w2 w3 w4 I6)
        else (
          zb (f_X_spot fu w5 w2 w3 I6) fun y14 I15 =>
          zg (0 ≤ y14 ∧ y14 < 5440) (
          if y5 < I15 (o0 + 17) y14.toNat then (
            k8 w2 w3 w4 I15)
          else (
            if p1 = wr32 (10 + w4) then (
              k_88 w5 I15)
            else (
              zl (wr32 (w4 + 1)) fun x17 =>
              zg (0 ≤ w5 ∧ w5 < 150) (
              zb (f_X_with fu o0 w3 (I15 (o0 + 16) w5.toNat) I15) fun y18 I19 =>
              zg (0 ≤ w5 ∧ w5 < 150) (
              zl (wr32 ((wr32 (140 + (wr32 (6 * (I19 (o0 + 16) w5.toNat))))) + 1)) fun x21 =>
              zg (0 ≤ x21 ∧ x21 < 6190) (
              zl (wr32 (w2 - (I19 (o0 + 1) x21.toNat))) fun x22 =>
              k8 x22 y18 x17 I19))))))))
    else (
      k_159 w4 I0)
def f_X_best_35 (fu : Nat) (k_88 : Int → IMem → Res) (k_159 : Int → IMem → Res) (o0 : Nat) (p1 : Int) : Nat → Int → Int → Int → Int → IMem → Res
 | 0 => fun _ _ _ _ _ => none
 | n + 1 => fb_X_best_35 fu k_88 k_159 o0 p1 (f_X_best_35 fu k_88 k_159 o0 p1 n)
def f_X_best (fu : Nat) (o0 : Nat) (a1 : Int) (I0 : IMem) : Res :=
  zb (f_X_reckons fu o0 I0) fun _ I2 =>
    zl (I2 (o0 + 1) 1) fun x4 =>
    if a1 = 0 then (
      zb (f_X_spot fu 0 x4 0 I2) fun y27 I28 =>
      zg (0 ≤ y27 ∧ y27 < 5440) (
      zr (I28 (o0 + 17) y27.toNat) I28))
    else (
      f_X_best_35 fu (fun (x24 : Int) (I23 : IMem) =>
        zg (0 ≤ x24 ∧ x24 < 150) (
        zg (0 ≤ x24 ∧ x24 < 150) (
        zr (wr32 ((wr32 (100 * (wdiv (I23 (o0 + 16) x24.toNat) 40))) + (wrem (I23 (o0 + 16) x24.toNat) 40))) I23))) (fun (x26 : Int) (I25 : IMem) =>
        if a1 = 1 then (
          zr x26 I25)
        else (
          zr ((-1)) I25)) o0 a1 fu x4 0 0 0 I2)
def f_X_look (fu : Nat) (o0 : Nat) (a1 : Int) (I0 : IMem) : Res :=
  zb (f_X_isLine fu a1 I0) fun y1 I2 =>
    if y1 = 0 then (
      zr ((-1)) I2)
    else (
      zl (wr32 (10 + a1)) fun x4 =>
      zg (0 ≤ x4 ∧ x4 < 6190) (
      if I2 (o0 + 1) x4.toNat = 24 then (
        zr ((-1)) I2)
      else (
        zb (f_X_best fu o0 0 I2) fun y5 I6 =>
        zl (wr32 (10 + a1)) fun x8 =>
        zg (0 ≤ x8 ∧ x8 < 6190) (
        zg (0 ≤ x8 ∧ x8 < 6190) (zw I6 (o0 + 1) x8.toNat (wr32 ((I6 (o0 + 1) x8.toNat) + 1)) fun I9 =>
        zb (f_X_best fu o0 0 I9) fun y10 I11 =>
        zl (wr32 (10 + a1)) fun x13 =>
        zg (0 ≤ x13 ∧ x13 < 6190) (
        zg (0 ≤ x13 ∧ x13 < 6190) (zw I11 (o0 + 1) x13.toNat (wr32 ((I11 (o0 + 1) x13.toNat) - 1)) fun I14 =>
        zr (wr32 (y10 - y5)) I14)))))))
def fb_X_heap_27 (fu : Nat) (k_63 : Int → IMem → Res) (o0 : Nat) (p1 : Int) (p2 : Int) (R_ : Int → Int → IMem → Res) (w3 : Int) (w4 : Int) (I0 : IMem) : Res :=
  if 8 < w4 then (
      k_63 w3 I0)
    else (
      zj (fun (x9 : Int) (I8 : IMem) =>
          zl (wr32 (w3 + x9)) fun x10 =>
          zl (wr32 (w4 + 1)) fun x11 =>
          R_ x10 x11 I8) fun k7 =>
        if w4 = p1 then (
          k7 0 I0)
        else (
          zl (wr32 (60 + w4)) fun x12 =>
          zg (0 ≤ x12 ∧ x12 < 6190) (
          k7 (I0 (o0 + 1) x12.toNat) I0)))
def f_X_heap_27 (fu : Nat) (k_63 : Int → IMem → Res) (o0 : Nat) (p1 : Int) (p2 : Int) : Nat → Int → Int → IMem → Res
 | 0 => fun _ _ _ => none
 | n + 1 => fb_X_heap_27 fu k_63 o0 p1 p2 (f_X_heap_27 fu k_63 o0 p1 p2 n)
def f_X_heap (fu : Nat) (o0 : Nat) (a1 : Int) (a2 : Int) (I0 : IMem) : Res :=
  zb (f_X_isIn fu a1 1 8 I0) fun y1 I2 =>
    if y1 = 0 then (
      zr 0 I2)
    else (
      zb (f_X_isIn fu a2 0 9 I2) fun y4 I5 =>
      if y4 = 0 then (
        zr 0 I5)
      else (
        f_X_heap_27 fu (fun (x14 : Int) (I13 : IMem) =>
          if 12 < x14 then (
            zr 0 I13)
          else (
            zl (wr32 (60 + a1)) fun x16 =>
            zg (0 ≤ x16 ∧ x16 < 6190) (zw I13 (o0 + 1) x16.toNat a2 fun I15 =>
            zr 1 I15))) o0 a1 a2 fu a2 1 I5))
def fb_X_greatest_3 (fu : Nat) (o0 : Nat) (R_ : Int → IMem → Res) (w1 : Int) (I0 : IMem) : Res :=
  if 0 < w1 then (
      zg (0 ≤ w1 ∧ w1 < 9) (
      if 0 < I0 (o0 + 19) w1.toNat then (
        zr w1 I0)
      else (
        zl (wr32 (w1 + (-1))) fun x1 =>
        R_ x1 I0)))
    else (
      zr 0 I0)
def f_X_greatest_3 (fu : Nat) (o0 : Nat) : Nat → Int → IMem → Res
 | 0 => fun _ _ => none
 | n + 1 => fb_X_greatest_3 fu o0 (f_X_greatest_3 fu o0 n)
def f_X_greatest (fu : Nat) (o0 : Nat) (I0 : IMem) : Res :=
  f_X_greatest_3 fu  o0 fu 8 I0
def fb_X_number0_4 (fu : Nat) (o0 : Nat) (R_ : Int → Int → IMem → Res) (w1 : Int) (w2 : Int) (I0 : IMem) : Res :=
  if 8 < w2 then (
      zr w1 I0)
    else (
      zg (0 ≤ w2 ∧ w2 < 9) (
      zg (0 ≤ w2 ∧ w2 < 9) (
      zl (wr32 (w1 + (wr32 ((I0 (o0 + 20) w2.toNat) * (I0 (o0 + 19) w2.toNat))))) fun x1 =>
      zl (wr32 (w2 + 1)) fun x2 =>
      R_ x1 x2 I0)))
def f_X_number0_4 (fu : Nat) (o0 : Nat) : Nat → Int → Int → IMem → Res
 | 0 => fun _ _ _ => none
 | n + 1 => fb_X_number0_4 fu o0 (f_X_number0_4 fu o0 n)
def f_X_number0 (fu : Nat) (o0 : Nat) (I0 : IMem) : Res :=
  f_X_number0_4 fu  o0 fu 0 1 I0
def fb_X_needs (fu : Nat) (R : (Nat → IMem → Res) × (Nat → Int → Int → IMem → Res)) (o0 : Nat) (I0 : IMem) : Res :=
  zb (f_X_greatest fu o0 I0) fun y1 I2 =>
    if y1 = 0 then (
      zr 0 I2)
    else (
      zb (f_X_number0 fu o0 I2) fun y4 I5 =>
      zg (0 ≤ y4 ∧ y4 < 4100) (
      if I5 (o0 + 18) y4.toNat = (-1) then (
        zg (0 ≤ y1 ∧ y1 < 9) (
        zg (0 ≤ y1 ∧ y1 < 9) (zw I5 (o0 + 19) y1.toNat (wr32 ((I5 (o0 + 19) y1.toNat) - 1)) fun I7 =>
        zb (R.2 o0 y1 (wr32 ((I7 (o0 + 1) 1) - y1)) I7) fun y8 I9 =>
        zl (wr32 (1 + y8)) fun x11 =>
        zg (0 ≤ y1 ∧ y1 < 9) (
        zg (0 ≤ y1 ∧ y1 < 9) (zw I9 (o0 + 19) y1.toNat (wr32 ((I9 (o0 + 19) y1.toNat) + 1)) fun I12 =>
        zg (0 ≤ y4 ∧ y4 < 4100) (zw I12 (o0 + 18) y4.toNat x11 fun I13 =>
        zr x11 I13))))))
      else (
        zg (0 ≤ y4 ∧ y4 < 4100) (
        zr (I5 (o0 + 18) y4.toNat) I5))))
def fb_X_fewestBehind (fu : Nat) (R : (Nat → IMem → Res) × (Nat → Int → Int → IMem → Res)) (o0 : Nat) (a1 : Int) (a2 : Int) (I0 : IMem) : Res :=
  if a1 = 0 then (
      zb (R.1 o0 I0) fun y9 I10 =>
      zr y9 I10)
    else (
      zb (R.2 o0 (wr32 (a1 - 1)) a2 I0) fun y1 I2 =>
      zg (0 ≤ a1 ∧ a1 < 9) (
      if I2 (o0 + 19) a1.toNat = 0 then (
        zr y1 I2)
      else (
        if a2 < a1 then (
          zr y1 I2)
        else (
          zg (0 ≤ a1 ∧ a1 < 9) (
          zg (0 ≤ a1 ∧ a1 < 9) (zw I2 (o0 + 19) a1.toNat (wr32 ((I2 (o0 + 19) a1.toNat) - 1)) fun I4 =>
          zb (R.2 o0 a1 (wr32 (a2 - a1)) I4) fun y5 I6 =>
          zg (0 ≤ a1 ∧ a1 < 9) (
          zg (0 ≤ a1 ∧ a1 < 9) (zw I6 (o0 + 19) a1.toNat (wr32 ((I6 (o0 + 19) a1.toNat) + 1)) fun I8 =>
          if y5 < y1 then (
            zr y5 I8)
          else (
            zr y1 I8)))))))))
def gXN (fu : Nat) : Nat → (Nat → IMem → Res) × (Nat → Int → Int → IMem → Res)
  | 0 => (fun _ _ => none, fun _ _ _ _ => none)
  | n + 1 => (fb_X_needs fu (gXN fu n), fb_X_fewestBehind fu (gXN fu n))
def f_X_needs (fu : Nat) (o0 : Nat) (I0 : IMem) : Res := (gXN fu 300).1 o0 I0
def f_X_fewestBehind (fu : Nat) (o0 : Nat) (a1 : Int) (a2 : Int) (I0 : IMem) : Res := (gXN fu 300).2 o0 a1 a2 I0
def fb_X_fillsFirst_48 (fu : Nat) (R : (Nat → Int → Int → Int → IMem → Res)) (o0 : Nat) (p1 : Int) (p2 : Int) (p3 : Int) (R_ : Int → IMem → Res) (w5 : Int) (I0 : IMem) : Res :=
  if w5 < 0 then (
      zr 0 I0)
    else (
      zg (0 ≤ p1 ∧ p1 < 9) (
      zg (0 ≤ p1 ∧ p1 < 9) (zw I0 (o0 + 19) p1.toNat (wr32 ((I0 (o0 + 19) p1.toNat) - w5)) fun I4 =>
      zg (0 ≤ p1 ∧ p1 < 9) (
      zg (0 ≤ p1 ∧ p1 < 9) (zw I4 (o0 + 21) p1.toNat (wr32 ((I4 (o0 + 21) p1.toNat) + w5)) fun I5 =>
      zb (R o0 (wr32 (p1 - 1)) (wr32 (p2 - (wr32 (w5 * p1)))) p3 I5) fun y6 I7 =>
      zg (0 ≤ p1 ∧ p1 < 9) (
      zg (0 ≤ p1 ∧ p1 < 9) (zw I7 (o0 + 19) p1.toNat (wr32 ((I7 (o0 + 19) p1.toNat) + w5)) fun I9 =>
      if y6 = 0 then (
        zg (0 ≤ p1 ∧ p1 < 9) (
        zg (0 ≤ p1 ∧ p1 < 9) (zw I9 (o0 + 21) p1.toNat (wr32 ((I9 (o0 + 21) p1.toNat) - w5)) fun I10 =>
        zl (wr32 (w5 + (-1))) fun x11 =>
        R_ x11 I10)))
      else (
        zr 1 I9))))))))
def f_X_fillsFirst_48 (fu : Nat) (R : (Nat → Int → Int → Int → IMem → Res)) (o0 : Nat) (p1 : Int) (p2 : Int) (p3 : Int) : Nat → Int → IMem → Res
 | 0 => fun _ _ => none
 | n + 1 => fb_X_fillsFirst_48 fu R o0 p1 p2 p3 (f_X_fillsFirst_48 fu R o0 p1 p2 p3 n)
def fb_X_fillsFirst (fu : Nat) (R : (Nat → Int → Int → Int → IMem → Res)) (o0 : Nat) (a1 : Int) (a2 : Int) (a3 : Int) (I0 : IMem) : Res :=
  if a1 = 0 then (
      zb (f_X_needs fu o0 I0) fun y12 I13 =>
      if y12 = a3 then (
        zr 1 I13)
      else (
        zr 0 I13))
    else (
      zg (a1 ≠ 0) (
      zg (0 ≤ a1 ∧ a1 < 9) (
      zj (fun (x3 : Int) (I2 : IMem) =>
          f_X_fillsFirst_48 fu R  o0 a1 a2 a3 fu x3 I2) fun k1 =>
        if wdiv a2 a1 < I0 (o0 + 19) a1.toNat then (
          zg (a1 ≠ 0) (
          k1 (wdiv a2 a1) I0))
        else (
          zg (0 ≤ a1 ∧ a1 < 9) (
          k1 (I0 (o0 + 19) a1.toNat) I0)))))
def gXF (fu : Nat) : Nat → (Nat → Int → Int → Int → IMem → Res)
  | 0 => (fun _ _ _ _ _ => none)
  | n + 1 => (fb_X_fillsFirst fu (gXF fu n))
def f_X_fillsFirst (fu : Nat) (o0 : Nat) (a1 : Int) (a2 : Int) (a3 : Int) (I0 : IMem) : Res := (gXF fu 20) o0 a1 a2 a3 I0
def fb_X_fewest_16 (fu : Nat) (k_89 : Int → IMem → Res) (o0 : Nat) (p1 : Int) (R_ : Int → Int → IMem → Res) (w2 : Int) (w3 : Int) (I0 : IMem) : Res :=
  if 8 < w3 then (
      k_89 w2 I0)
    else (
      zl (wr32 (60 + w3)) fun x4 =>
      zg (0 ≤ x4 ∧ x4 < 6190) (
      zg (0 ≤ w3 ∧ w3 < 9) (zw I0 (o0 + 19) w3.toNat (I0 (o0 + 1) x4.toNat) fun I5 =>
      zg (0 ≤ w3 ∧ w3 < 9) (zw I5 (o0 + 21) w3.toNat 0 fun I6 =>
      zg (0 ≤ w3 ∧ w3 < 9) (zw I6 (o0 + 20) w3.toNat w2 fun I7 =>
      zg (0 ≤ w3 ∧ w3 < 9) (
      zl (wr32 (w2 * (wr32 ((I7 (o0 + 19) w3.toNat) + 1)))) fun x8 =>
      zg (0 ≤ w3 ∧ w3 < 9) (
      zj (fun  (I10 : IMem) =>
          zl (wr32 (w3 + 1)) fun x11 =>
          R_ x8 x11 I10) fun k9 =>
        if 0 < I7 (o0 + 19) w3.toNat then (
          if I7 (o0 + 1) 1 < w3 then (
            zr ((-1)) I7)
          else (
            k9 I7))
        else (
          k9 I7))))))))
def f_X_fewest_16 (fu : Nat) (k_89 : Int → IMem → Res) (o0 : Nat) (p1 : Int) : Nat → Int → Int → IMem → Res
 | 0 => fun _ _ _ => none
 | n + 1 => fb_X_fewest_16 fu k_89 o0 p1 (f_X_fewest_16 fu k_89 o0 p1 n)
def fb_X_fewest_91 (fu : Nat) (k_109 : IMem → Res) (o0 : Nat) (p1 : Int) (p2 : Int) (R_ : Int → IMem → Res) (w3 : Int) (I0 : IMem) : Res :=
  if w3 < p2 then (
      zg (0 ≤ w3 ∧ w3 < 4100) (zw I0 (o0 + 18) w3.toNat ((-1)) fun I14 =>
      zl (wr32 (w3 + 1)) fun x15 =>
      R_ x15 I14))
    else (
      k_109 I0)
def f_X_fewest_91 (fu : Nat) (k_109 : IMem → Res) (o0 : Nat) (p1 : Int) (p2 : Int) : Nat → Int → IMem → Res
 | 0 => fun _ _ => none
 | n + 1 => fb_X_fewest_91 fu k_109 o0 p1 p2 (f_X_fewest_91 fu k_109 o0 p1 p2 n)
def f_X_fewest (fu : Nat) (o0 : Nat) (a1 : Int) (I0 : IMem) : Res :=
  zb (f_X_isIn fu a1 0 8 I0) fun y1 I2 =>
    if y1 = 0 then (
      zr ((-1)) I2)
    else (
      f_X_fewest_16 fu (fun (x13 : Int) (I12 : IMem) =>
        f_X_fewest_91 fu (fun  (I16 : IMem) =>
          zb (f_X_needs fu o0 I16) fun y17 I18 =>
          if a1 = 0 then (
            zr y17 I18)
          else (
            if y17 = 0 then (
              zr y17 I18)
            else (
              zb (f_X_greatest fu o0 I18) fun y20 I21 =>
              zg (0 ≤ y20 ∧ y20 < 9) (
              zg (0 ≤ y20 ∧ y20 < 9) (zw I21 (o0 + 19) y20.toNat (wr32 ((I21 (o0 + 19) y20.toNat) - 1)) fun I23 =>
              zg (0 ≤ y20 ∧ y20 < 9) (zw I23 (o0 + 21) y20.toNat 1 fun I24 =>
              zb (f_X_fillsFirst fu o0 y20 (wr32 ((I24 (o0 + 1) 1) - y20)) (wr32 (y17 - 1)) I24) fun y25 I26 =>
              if y25 = 0 then (
                zr ((-1)) I26)
              else (
                zg (0 ≤ a1 ∧ a1 < 9) (
                zr (I26 (o0 + 21) a1.toNat) I26)))))))) o0 a1 x13 fu 0 I12) o0 a1 fu 1 1 I2)
def fb_X_comesBack_2 (fu : Nat) (k_27 : IMem → Res) (o0 : Nat) (R_ : Int → IMem → Res) (w1 : Int) (I0 : IMem) : Res :=
  if w1 < 6190 then (
      zg (0 ≤ w1 ∧ w1 < 6190) (
      zg (0 ≤ w1 ∧ w1 < 6190) (zw I0 (o0 + 1) w1.toNat (I0 (o0 + 3) w1.toNat) fun I1 =>
      zl (wr32 (w1 + 1)) fun x2 =>
      R_ x2 I1)))
    else (
      k_27 I0)
def f_X_comesBack_2 (fu : Nat) (k_27 : IMem → Res) (o0 : Nat) : Nat → Int → IMem → Res
 | 0 => fun _ _ => none
 | n + 1 => fb_X_comesBack_2 fu k_27 o0 (f_X_comesBack_2 fu k_27 o0 n)
def fb_X_comesBack_29 (fu : Nat) (k_54 : IMem → Res) (o0 : Nat) (R_ : Int → IMem → Res) (w1 : Int) (I0 : IMem) : Res :=
  if w1 < 240 then (
      zg (0 ≤ w1 ∧ w1 < 240) (
      zg (I0 (o0 + 23) w1.toNat = 0 ∨ I0 (o0 + 23) w1.toNat = 1) (
      zg (0 ≤ w1 ∧ w1 < 240) (zw I0 (o0 + 13) w1.toNat (I0 (o0 + 23) w1.toNat) fun I4 =>
      zl (wr32 (w1 + 1)) fun x6 =>
      R_ x6 I4))))
    else (
      k_54 I0)
def f_X_comesBack_29 (fu : Nat) (k_54 : IMem → Res) (o0 : Nat) : Nat → Int → IMem → Res
 | 0 => fun _ _ => none
 | n + 1 => fb_X_comesBack_29 fu k_54 o0 (f_X_comesBack_29 fu k_54 o0 n)
def fb_X_comesBack_56 (fu : Nat) (k_80 : IMem → Res) (o0 : Nat) (R_ : Int → IMem → Res) (w1 : Int) (I0 : IMem) : Res :=
  if w1 < 8 then (
      zg (0 ≤ w1 ∧ w1 < 8) (
      zg (0 ≤ w1 ∧ w1 < 8) (zw I0 (o0 + 15) w1.toNat (I0 (o0 + 24) w1.toNat) fun I8 =>
      zl (wr32 (w1 + 1)) fun x9 =>
      R_ x9 I8)))
    else (
      k_80 I0)
def f_X_comesBack_56 (fu : Nat) (k_80 : IMem → Res) (o0 : Nat) : Nat → Int → IMem → Res
 | 0 => fun _ _ => none
 | n + 1 => fb_X_comesBack_56 fu k_80 o0 (f_X_comesBack_56 fu k_80 o0 n)
def f_X_comesBack (fu : Nat) (o0 : Nat) (I0 : IMem) : Res :=
  f_X_comesBack_2 fu (fun  (I3 : IMem) =>
      f_X_comesBack_29 fu (fun  (I7 : IMem) =>
        f_X_comesBack_56 fu (fun  (I10 : IMem) =>
          zw I10 o0 35 (I10 o0 50) fun I11 =>
          zr 0 I11) o0 fu 0 I7) o0 fu 0 I3) o0 fu 0 I0
def fb_X_longest_4 (fu : Nat) (o0 : Nat) (R_ : Int → Int → IMem → Res) (w1 : Int) (w2 : Int) (I0 : IMem) : Res :=
  if 8 < w2 then (
      zr w1 I0)
    else (
      zl (wr32 (100 + w2)) fun x1 =>
      zg (0 ≤ x1 ∧ x1 < 6190) (
      zj (fun (x4 : Int) (I3 : IMem) =>
          zl (wr32 (w2 + 1)) fun x5 =>
          R_ x4 x5 I3) fun k2 =>
        if w1 < I0 (o0 + 1) x1.toNat then (
          zl (wr32 (100 + w2)) fun x6 =>
          zg (0 ≤ x6 ∧ x6 < 6190) (
          k2 (I0 (o0 + 1) x6.toNat) I0))
        else (
          k2 w1 I0)))
def f_X_longest_4 (fu : Nat) (o0 : Nat) : Nat → Int → Int → IMem → Res
 | 0 => fun _ _ _ => none
 | n + 1 => fb_X_longest_4 fu o0 (f_X_longest_4 fu o0 n)
def f_X_longest (fu : Nat) (o0 : Nat) (I0 : IMem) : Res :=
  f_X_longest_4 fu  o0 fu 0 1 I0
def fb_X_setsOut_2 (fu : Nat) (k_27 : IMem → Res) (o0 : Nat) (R_ : Int → IMem → Res) (w1 : Int) (I0 : IMem) : Res :=
  if w1 < 6190 then (
      zg (0 ≤ w1 ∧ w1 < 6190) (
      zg (0 ≤ w1 ∧ w1 < 6190) (zw I0 (o0 + 3) w1.toNat (I0 (o0 + 1) w1.toNat) fun I1 =>
      zl (wr32 (w1 + 1)) fun x2 =>
      R_ x2 I1)))
    else (
      k_27 I0)
def f_X_setsOut_2 (fu : Nat) (k_27 : IMem → Res) (o0 : Nat) : Nat → Int → IMem → Res
 | 0 => fun _ _ => none
 | n + 1 => fb_X_setsOut_2 fu k_27 o0 (f_X_setsOut_2 fu k_27 o0 n)
def fb_X_setsOut_29 (fu : Nat) (k_54 : IMem → Res) (o0 : Nat) (R_ : Int → IMem → Res) (w1 : Int) (I0 : IMem) : Res :=
  if w1 < 240 then (
      zg (0 ≤ w1 ∧ w1 < 240) (
      zg (I0 (o0 + 13) w1.toNat = 0 ∨ I0 (o0 + 13) w1.toNat = 1) (
      zg (0 ≤ w1 ∧ w1 < 240) (zw I0 (o0 + 23) w1.toNat (I0 (o0 + 13) w1.toNat) fun I4 =>
      zl (wr32 (w1 + 1)) fun x6 =>
      R_ x6 I4))))
    else (
      k_54 I0)
def f_X_setsOut_29 (fu : Nat) (k_54 : IMem → Res) (o0 : Nat) : Nat → Int → IMem → Res
 | 0 => fun _ _ => none
 | n + 1 => fb_X_setsOut_29 fu k_54 o0 (f_X_setsOut_29 fu k_54 o0 n)
def fb_X_setsOut_56 (fu : Nat) (k_80 : IMem → Res) (o0 : Nat) (R_ : Int → IMem → Res) (w1 : Int) (I0 : IMem) : Res :=
  if w1 < 8 then (
      zg (0 ≤ w1 ∧ w1 < 8) (
      zg (0 ≤ w1 ∧ w1 < 8) (zw I0 (o0 + 24) w1.toNat (I0 (o0 + 15) w1.toNat) fun I8 =>
      zl (wr32 (w1 + 1)) fun x9 =>
      R_ x9 I8)))
    else (
      k_80 I0)
def f_X_setsOut_56 (fu : Nat) (k_80 : IMem → Res) (o0 : Nat) : Nat → Int → IMem → Res
 | 0 => fun _ _ => none
 | n + 1 => fb_X_setsOut_56 fu k_80 o0 (f_X_setsOut_56 fu k_80 o0 n)
def f_X_setsOut (fu : Nat) (o0 : Nat) (I0 : IMem) : Res :=
  f_X_setsOut_2 fu (fun  (I3 : IMem) =>
      f_X_setsOut_29 fu (fun  (I7 : IMem) =>
        f_X_setsOut_56 fu (fun  (I10 : IMem) =>
          zw I10 o0 50 (I10 o0 35) fun I11 =>
          zr 0 I11) o0 fu 0 I7) o0 fu 0 I3) o0 fu 0 I0
def fb_X_sum_4 (fu : Nat) (o0 : Nat) (p1 : Int) (R_ : Int → Int → IMem → Res) (w2 : Int) (w3 : Int) (I0 : IMem) : Res :=
  if 8 < w3 then (
      zr w2 I0)
    else (
      zl (wr32 (p1 + w3)) fun x1 =>
      zg (0 ≤ x1 ∧ x1 < 6190) (
      zl (wr32 (w2 + (I0 (o0 + 1) x1.toNat))) fun x2 =>
      zl (wr32 (w3 + 1)) fun x3 =>
      R_ x2 x3 I0))
def f_X_sum_4 (fu : Nat) (o0 : Nat) (p1 : Int) : Nat → Int → Int → IMem → Res
 | 0 => fun _ _ _ => none
 | n + 1 => fb_X_sum_4 fu o0 p1 (f_X_sum_4 fu o0 p1 n)
def f_X_sum (fu : Nat) (o0 : Nat) (a1 : Int) (I0 : IMem) : Res :=
  f_X_sum_4 fu  o0 a1 fu 0 1 I0
def fb_X_leads_37 (fu : Nat) (k_55 : IMem → Res) (o0 : Nat) (p4 : Int) (p5 : Int) (R_ : Int → IMem → Res) (w6 : Int) (I0 : IMem) : Res :=
  if w6 < p4 then (
      zb (f_X_turn fu o0 I0) fun y10 I11 =>
      zl (wr32 (w6 + 1)) fun x13 =>
      R_ x13 I11)
    else (
      k_55 I0)
def f_X_leads_37 (fu : Nat) (k_55 : IMem → Res) (o0 : Nat) (p4 : Int) (p5 : Int) : Nat → Int → IMem → Res
 | 0 => fun _ _ => none
 | n + 1 => fb_X_leads_37 fu k_55 o0 p4 p5 (f_X_leads_37 fu k_55 o0 p4 p5 n)
def f_X_leads (fu : Nat) (o0 : Nat) (a1 : Int) (a2 : Int) (a3 : Int) (a4 : Int) (I0 : IMem) : Res :=
  zb (f_X_setsOut fu o0 I0) fun _ I2 =>
    zb (f_X_sum fu o0 90 I2) fun y4 I5 =>
    zw I5 (o0 + 1) 6 a1 fun I7 =>
    zw I7 (o0 + 1) 5 a2 fun I8 =>
    zw I8 (o0 + 1) 1 a3 fun I9 =>
    f_X_leads_37 fu (fun  (I14 : IMem) =>
      zw I14 (o0 + 25) 0 (wr32 ((I14 (o0 + 1) 71) - (I14 (o0 + 3) 71))) fun I15 =>
      zw I15 (o0 + 25) 1 (wr32 ((I15 (o0 + 1) 72) - (I15 (o0 + 3) 72))) fun I16 =>
      zb (f_X_sum fu o0 90 I16) fun y17 I18 =>
      zw I18 (o0 + 25) 2 (wr32 (y17 - y4)) fun I20 =>
      zw I20 (o0 + 25) 3 (wr32 ((I20 (o0 + 1) 76) - (I20 (o0 + 3) 76))) fun I21 =>
      zw I21 (o0 + 25) 4 (wr32 ((I21 (o0 + 1) 75) - (I21 (o0 + 3) 75))) fun I22 =>
      zb (f_X_longest fu o0 I22) fun y23 I24 =>
      zw I24 (o0 + 25) 5 y23 fun I26 =>
      zb (f_X_comesBack fu o0 I26) fun _ I28 =>
      zr 0 I28) o0 a4 y4 fu 0 I9
def f_X_thought (fu : Nat) (o0 : Nat) (a1 : Int) (a2 : Int) (a3 : Int) (a4 : Int) (a5 : Int) (I0 : IMem) : Res :=
  zb (f_X_isIn fu a1 0 3 I0) fun y1 I2 =>
    if y1 = 0 then (
      zr ((-1)) I2)
    else (
      zb (f_X_isIn fu a2 0 99 I2) fun y4 I5 =>
      if y4 = 0 then (
        zr ((-1)) I5)
      else (
        zb (f_X_isIn fu a3 2 8 I5) fun y7 I8 =>
        if y7 = 0 then (
          zr ((-1)) I8)
        else (
          zb (f_X_isIn fu a4 1 40 I8) fun y10 I11 =>
          if y10 = 0 then (
            zr ((-1)) I11)
          else (
            zb (f_X_isIn fu a5 0 5 I11) fun y13 I14 =>
            if y13 = 0 then (
              zr ((-1)) I14)
            else (
              zb (f_X_leads fu o0 a1 a2 a3 a4 I14) fun _ I17 =>
              zg (0 ≤ a5 ∧ a5 < 6) (
              zr (I17 (o0 + 25) a5.toNat) I17))))))
def f_X_price (fu : Nat) (o0 : Nat) (a1 : Int) (a2 : Int) (I0 : IMem) : Res :=
  zb (f_X_isIn fu a1 0 99 I0) fun y1 I2 =>
    if y1 = 0 then (
      zr ((-1000000)) I2)
    else (
      zb (f_X_isIn fu a2 1 40 I2) fun y4 I5 =>
      if y4 = 0 then (
        zr ((-1000000)) I5)
      else (
        zb (f_X_leads fu o0 (I5 (o0 + 1) 6) a1 (I5 (o0 + 1) 1) a2 I5) fun _ I8 =>
        zl (I8 (o0 + 25) 0) fun x10 =>
        zb (f_X_leads fu o0 (I8 (o0 + 1) 6) 0 (I8 (o0 + 1) 1) a2 I8) fun _ I12 =>
        zr (wr32 (x10 - (I12 (o0 + 25) 0))) I12))
def f_X_isThere (fu : Nat) (o0 : Nat) (a1 : Int) (a2 : Int) (I0 : IMem) : Res :=
  zb (f_X_isLine fu a1 I0) fun y1 I2 =>
    if y1 = 0 then (
      zr 0 I2)
    else (
      zl (wr32 (130 + a1)) fun x4 =>
      zg (0 ≤ x4 ∧ x4 < 6190) (
      zb (f_X_isIn fu a2 0 (wr32 ((I2 (o0 + 1) x4.toNat) - 1)) I2) fun y5 I6 =>
      if y5 = 0 then (
        zr 0 I6)
      else (
        zr 1 I6)))
section
variable {l : Launch} {b : PB}
set_option maxRecDepth 20000 in
theorem t_X_best_35 (fu : Nat) {r : Int × IMem} (k_88 : Int → IMem → Res) (k_159 : Int → IMem → Res) (o0 : Nat) (p1 : Int) (h_o0 : KM[o0]? = some (12, 51)) (h_p1 : inr p1) (hk_88 : ∀ (z5 : Int) (I9 : IMem), inr z5 → RG I9 → k_88 z5 I9 = some r → Ai l b 5 y_X_best KM RM (Ps r) I9 88 [.ref o0, uu, uu, uu, uu, .int (iv z5), uu] []) (hk_159 : ∀ (z4 : Int) (I9 : IMem), inr z4 → RG I9 → k_159 z4 I9 = some r → Ai l b 5 y_X_best KM RM (Ps r) I9 159 [uu, .int (iv p1), uu, uu, .int (iv z4), uu, uu] []) : ∀ (m : Nat) (w2 : Int) (w3 : Int) (w4 : Int) (w5 : Int) (I0 : IMem), inr w2 → inr w3 → inr w4 → inr w5 → RG I0 → f_X_best_35 fu k_88 k_159 o0 p1 m w2 w3 w4 w5 I0 = some r → Ai l b 5 y_X_best KM RM (Ps r) I0 35 [.ref o0, .int (iv p1), .int (iv w2), .int (iv w3), .int (iv w4), .int (iv w5), uu] [] := by
  intro m
  induction m with
  | zero => intro w2 w3 w4 w5 I0 h_w2 h_w3 h_w4 h_w5 h_I0 hf; cases hf
  | succ m ih =>
    intro w2 w3 w4 w5 I0 h_w2 h_w3 h_w4 h_w5 h_I0 hf
    replace hf : fb_X_best_35 fu k_88 k_159 o0 p1 (f_X_best_35 fu k_88 k_159 o0 p1 m) w2 w3 w4 w5 I0 = some r := hf
    unfold fb_X_best_35 at hf
    refine aw_iload rfl d_X_best_35 (aw_aload_n rfl rfl d_X_best_37 (ai_geti fl_X_347 h_o0 (by decide) rfl d_X_best_38 ?_))
    refine ai_icmp_ge h_w5 (h_I0 o0 40) hf (tgt := 159) (by decide) d_X_best_41 (fun hf => ?_) (fun hf => ?_)
    · refine aw_weakB (lv2 := [uu, .int (iv p1), uu, uu, .int (iv w4), uu, uu]) (wk_u (wk_s (wk_u (wk_u (wk_s (wk_u (wk_u wk_n))))))) ?_
      exact hk_159 w4 I0 h_w4 h_I0 hf
    · refine aw_aload_n rfl rfl d_X_best_44 (aw_iload rfl d_X_best_45 (aw_iload_n rfl rfl d_X_best_47 (aw_iload_n rfl rfl d_X_best_48 ?_)))
      obtain ⟨y5, I6, c7, hf⟩ := of_zb hf
      refine ai_callV (as := [.int (iv w5), .int (iv w2), .int (iv w3)]) (d' := 2) (q := ("SinglesUpModel", zT9, 51)) mo_X_taking lk_X_359 h_o0 rfl rfl rfl ⟨by decide, by decide⟩ rfl rfl (by decide) d_X_best_49 (t_X_taking fu o0 w5 w2 w3 I0 h_I0 h_o0 h_w5 h_w2 h_w3 c7) (fun h_y5 h_I6 => ?_)
      refine aw_istore (lv2 := [.ref o0, .int (iv p1), .int (iv w2), .int (iv w3), .int (iv w4), .int (iv w5), .int (iv y5)]) (Nat.le_of_ble_eq_true rfl) rfl d_X_best_52 (aw_iload rfl d_X_best_54 ?_)
      obtain ⟨k8, ek8, hf⟩ := of_zj hf
      have hk8 : ∀ (x10 : Int) (x11 : Int) (x12 : Int) (I9 : IMem), inr x10 → inr x11 → inr x12 → RG I9 → k8 x10 x11 x12 I9 = some r → Ai l b 5 y_X_best KM RM (Ps r) I9 153 [.ref o0, .int (iv p1), .int (iv x10), .int (iv x11), .int (iv x12), .int (iv w5), uu] [] := by
        intro x10 x11 x12 I9 h_x10 h_x11 h_x12 h_I9 hf
        subst ek8
        refine ai_iinc (n := 1) (lv2 := fun x13 => [.ref o0, .int (iv p1), .int (iv x10), .int (iv x11), .int (iv x12), .int (iv x13), uu]) hf rfl (Nat.le_of_ble_eq_true rfl) (fun _ => rfl) d_X_best_153 (fun x13 h_x13 hf => ?_)
        refine aw_goto (tgt := 35) (by decide) d_X_best_156 ?_
        exact ih x10 x11 x12 x13 I9 h_x10 h_x11 h_x12 h_x13 h_I9 hf
      refine ai_if_lt h_y5 hf (tgt := 153) (by decide) d_X_best_56 (fun hf => ?_) (fun hf => ?_)
      · refine aw_weakB (lv2 := [.ref o0, .int (iv p1), .int (iv w2), .int (iv w3), .int (iv w4), .int (iv w5), uu]) (wk_s (wk_s (wk_s (wk_s (wk_s (wk_s (wk_u wk_n))))))) ?_
        exact hk8 w2 w3 w4 I6 h_w2 h_w3 h_w4 h_I6 hf
      · refine aw_iload rfl d_X_best_59 (aw_aload_n rfl rfl d_X_best_61 (aw_getr (r := o0 + 17) fl_X_69 h_o0 (by decide) rfl (rm_9_39 _ h_o0).1 d_X_best_62 (aw_iload rfl d_X_best_65 (aw_iload_n rfl rfl d_X_best_67 (aw_iload_n rfl rfl d_X_best_68 ?_)))))
        obtain ⟨y14, I15, c16, hf⟩ := of_zb hf
        refine ai_callS (as := [.int (iv w5), .int (iv w2), .int (iv w3)]) (d' := 1) mo_X_spot lk_X_353 rfl ⟨by decide, by decide⟩ rfl rfl (by decide) d_X_best_69 (t_X_spot fu w5 w2 w3 I6 h_I6 h_w5 h_w2 h_w3 c16) (fun h_y14 h_I15 => ?_)
        refine ai_iald (rm_9_39 _ h_o0).2 rfl h_y14 hf d_X_best_72 (fun _ hf => ?_)
        refine ai_icmp_ge h_y5 (h_I15 (o0 + 17) y14.toNat) hf (tgt := 79) (by decide) d_X_best_73 (fun hf => ?_) (fun hf => ?_)
        · refine aw_iload_n rfl rfl d_X_best_79 (aw_bipush (v := iv 10) cb_10 d_X_best_80 (aw_iload rfl d_X_best_82 (ai_iadd d_X_best_84 ?_)))
          refine ai_icmp_ne h_p1 (wr32_in _) hf (tgt := 113) (by decide) d_X_best_85 (fun hf => ?_) (fun hf => ?_)
          · refine ai_iinc (n := 1) (lv2 := fun x17 => [.ref o0, .int (iv p1), .int (iv w2), .int (iv w3), .int (iv x17), .int (iv w5), .int (iv y5)]) hf rfl (Nat.le_of_ble_eq_true rfl) (fun _ => rfl) d_X_best_113 (fun x17 h_x17 hf => ?_)
            refine aw_aload_n rfl rfl d_X_best_116 (aw_iload_n rfl rfl d_X_best_117 (aw_aload_n rfl rfl d_X_best_118 (aw_getr (r := o0 + 16) fl_X_66 h_o0 (by decide) rfl (rm_9_38 _ h_o0).1 d_X_best_119 (aw_iload rfl d_X_best_122 ?_))))
            refine ai_iald (rm_9_38 _ h_o0).2 rfl h_w5 hf d_X_best_124 (fun _ hf => ?_)
            obtain ⟨y18, I19, c20, hf⟩ := of_zb hf
            refine ai_callV (as := [.int (iv w3), .int (iv (I15 (o0 + 16) w5.toNat))]) (d' := 1) (q := ("SinglesUpModel", zT9, 51)) mo_X_with lk_X_350 h_o0 rfl rfl rfl ⟨by decide, by decide⟩ rfl rfl (by decide) d_X_best_125 (t_X_with fu o0 w3 (I15 (o0 + 16) w5.toNat) I15 h_I15 h_o0 h_w3 (h_I15 (o0 + 16) w5.toNat) c20) (fun h_y18 h_I19 => ?_)
            refine aw_istore_n (lv2 := [.ref o0, .int (iv p1), .int (iv w2), .int (iv y18), .int (iv x17), .int (iv w5), .int (iv y5)]) rfl (Nat.le_of_ble_eq_true rfl) rfl d_X_best_128 (aw_iload_n rfl rfl d_X_best_129 (aw_aload_n rfl rfl d_X_best_130 (aw_getr (r := o0 + 1) fl_X_7 h_o0 (by decide) rfl (rm_9_0 _ h_o0).1 d_X_best_131 (aw_sipush (v := iv 140) cs_140 d_X_best_134 (aw_bipush (v := iv 6) cb_6 d_X_best_137 (aw_aload_n rfl rfl d_X_best_139 (aw_getr (r := o0 + 16) fl_X_66 h_o0 (by decide) rfl (rm_9_38 _ h_o0).1 d_X_best_140 (aw_iload rfl d_X_best_143 ?_))))))))
            refine ai_iald (rm_9_38 _ h_o0).2 rfl h_w5 hf d_X_best_145 (fun _ hf => ?_)
            refine ai_imul d_X_best_146 (ai_iadd d_X_best_147 (aw_iconst (v := iv 1) rfl d_X_best_148 (ai_iadd d_X_best_149 ?_)))
            refine ai_name hf (wr32_in _) (fun x21 h_x21 hf => ?_)
            refine ai_iald (rm_9_0 _ h_o0).2 rfl h_x21 hf d_X_best_150 (fun _ hf => ?_)
            refine ai_isub d_X_best_151 ?_
            refine ai_name hf (wr32_in _) (fun x22 h_x22 hf => ?_)
            refine aw_istore_n (lv2 := [.ref o0, .int (iv p1), .int (iv x22), .int (iv y18), .int (iv x17), .int (iv w5), .int (iv y5)]) rfl (Nat.le_of_ble_eq_true rfl) rfl d_X_best_152 ?_
            refine aw_weakB (lv2 := [.ref o0, .int (iv p1), .int (iv x22), .int (iv y18), .int (iv x17), .int (iv w5), uu]) (wk_s (wk_s (wk_s (wk_s (wk_s (wk_s (wk_u wk_n))))))) ?_
            exact hk8 x22 y18 x17 I19 h_x22 h_y18 h_x17 h_I19 hf
          · refine aw_weakB (lv2 := [.ref o0, uu, uu, uu, uu, .int (iv w5), uu]) (wk_s (wk_u (wk_u (wk_u (wk_u (wk_s (wk_u wk_n))))))) ?_
            exact hk_88 w5 I15 h_w5 h_I15 hf
        · refine aw_goto (tgt := 153) (by decide) d_X_best_76 ?_
          refine aw_weakB (lv2 := [.ref o0, .int (iv p1), .int (iv w2), .int (iv w3), .int (iv w4), .int (iv w5), uu]) (wk_s (wk_s (wk_s (wk_s (wk_s (wk_s (wk_u wk_n))))))) ?_
          exact hk8 w2 w3 w4 I15 h_w2 h_w3 h_w4 h_I15 hf
set_option maxRecDepth 20000 in
theorem t_X_best (fu : Nat) (o0 : Nat) (a1 : Int) (I0 : IMem) (hI : RG I0) (h_o0 : KM[o0]? = some (12, 51)) (h_a1 : inr a1) {r : Int × IMem} (hf : f_X_best fu o0 a1 I0 = some r) : Ss l b 5 y_X_best KM RM [.ref o0, .int (iv a1)] (ivm I0) (Ps r) := by
  unfold f_X_best at hf
  refine Ss.of (show Ai l b 5 y_X_best KM RM (Ps r) I0 0 [.ref o0, .int (iv a1), uu, uu, uu, uu, uu] [] from ?_)
  refine aw_aload_n rfl rfl d_X_best_0 ?_
  obtain ⟨y1, I2, c3, hf⟩ := of_zb hf
  refine ai_callVv (as := []) (d' := 4) (q := ("SinglesUpModel", zT9, 51)) mo_X_reckons lk_X_362 h_o0 rfl rfl rfl ⟨by decide, by decide⟩ rfl rfl (by decide) d_X_best_1 (t_X_reckons fu o0 I0 hI h_o0 c3) (fun h_I2 => ?_)
  refine aw_aload_n rfl rfl d_X_best_4 (aw_getr (r := o0 + 1) fl_X_7 h_o0 (by decide) rfl (rm_9_0 _ h_o0).1 d_X_best_5 (aw_iconst (v := iv 1) rfl d_X_best_8 (ai_ialdc (j := 1) (rm_9_0 _ h_o0).2 (by decide) (by decide) d_X_best_9 ?_)))
  refine ai_name hf (h_I2 (o0 + 1) 1) (fun x4 h_x4 hf => ?_)
  refine aw_istore_n (lv2 := [.ref o0, .int (iv a1), .int (iv x4), uu, uu, uu, uu]) rfl (Nat.le_of_ble_eq_true rfl) rfl d_X_best_10 ?_
  refine aw_iconst (v := iv 0) rfl d_X_best_11 (aw_istore_n (lv2 := [.ref o0, .int (iv a1), .int (iv x4), .int (iv 0), uu, uu, uu]) rfl (Nat.le_of_ble_eq_true rfl) rfl d_X_best_12 (aw_iconst (v := iv 0) rfl d_X_best_13 (aw_istore (lv2 := [.ref o0, .int (iv a1), .int (iv x4), .int (iv 0), .int (iv 0), uu, uu]) (Nat.le_of_ble_eq_true rfl) rfl d_X_best_14 (aw_iload_n rfl rfl d_X_best_16 ?_))))
  refine ai_if_ne h_a1 hf (tgt := 32) (by decide) d_X_best_17 (fun hf => ?_) (fun hf => ?_)
  · refine aw_iconst (v := iv 0) rfl d_X_best_32 (aw_istore (lv2 := [.ref o0, .int (iv a1), .int (iv x4), .int (iv 0), .int (iv 0), .int (iv 0), uu]) (Nat.le_of_ble_eq_true rfl) rfl d_X_best_33 ?_)
    refine t_X_best_35 fu _ _ o0 a1 h_o0 h_a1 ?_ ?_ fu x4 0 0 0 I2 h_x4 in_0 in_0 in_0 h_I2 hf
    · intro x24 I23 h_x24 h_I23 hf
      refine aw_bipush (v := iv 100) cb_100 d_X_best_88 (aw_aload_n rfl rfl d_X_best_90 (aw_getr (r := o0 + 16) fl_X_66 h_o0 (by decide) rfl (rm_9_38 _ h_o0).1 d_X_best_91 (aw_iload rfl d_X_best_94 ?_)))
      refine ai_iald (rm_9_38 _ h_o0).2 rfl h_x24 hf d_X_best_96 (fun _ hf => ?_)
      refine aw_bipush (v := iv 40) cb_40 d_X_best_97 (ai_idivc in_40 (by decide) d_X_best_99 (ai_imul d_X_best_100 (aw_aload_n rfl rfl d_X_best_101 (aw_getr (r := o0 + 16) fl_X_66 h_o0 (by decide) rfl (rm_9_38 _ h_o0).1 d_X_best_102 (aw_iload rfl d_X_best_105 ?_)))))
      refine ai_iald (rm_9_38 _ h_o0).2 rfl h_x24 hf d_X_best_107 (fun _ hf => ?_)
      refine aw_bipush (v := iv 40) cb_40 d_X_best_108 (ai_iremc in_40 (by decide) d_X_best_110 (ai_iadd d_X_best_111 ?_))
      exact ai_reti rfl d_X_best_112 hf (wr32_in _) h_I23
    · intro x26 I25 h_x26 h_I25 hf
      refine aw_iload_n rfl rfl d_X_best_159 (aw_iconst (v := iv 1) rfl d_X_best_160 ?_)
      refine ai_icmp_ne h_a1 in_1 hf (tgt := 169) (by decide) d_X_best_161 (fun hf => ?_) (fun hf => ?_)
      · refine aw_iconst (v := iv (-1)) rfl d_X_best_169 ?_
        exact ai_reti rfl d_X_best_170 hf in_m1 h_I25
      · refine aw_iload rfl d_X_best_164 (aw_goto (tgt := 170) (by decide) d_X_best_166 ?_)
        exact ai_reti rfl d_X_best_170 hf h_x26 h_I25
  · refine aw_aload_n rfl rfl d_X_best_20 (aw_getr (r := o0 + 17) fl_X_69 h_o0 (by decide) rfl (rm_9_39 _ h_o0).1 d_X_best_21 (aw_iconst (v := iv 0) rfl d_X_best_24 (aw_iload_n rfl rfl d_X_best_25 (aw_iconst (v := iv 0) rfl d_X_best_26 ?_))))
    obtain ⟨y27, I28, c29, hf⟩ := of_zb hf
    refine ai_callS (as := [.int (iv 0), .int (iv x4), .int (iv 0)]) (d' := 1) mo_X_spot lk_X_353 rfl ⟨by decide, by decide⟩ rfl rfl (by decide) d_X_best_27 (t_X_spot fu 0 x4 0 I2 h_I2 in_0 h_x4 in_0 c29) (fun h_y27 h_I28 => ?_)
    refine ai_iald (rm_9_39 _ h_o0).2 rfl h_y27 hf d_X_best_30 (fun _ hf => ?_)
    exact ai_reti rfl d_X_best_31 hf (h_I28 (o0 + 17) y27.toNat) h_I28
set_option maxRecDepth 20000 in
theorem t_X_look (fu : Nat) (o0 : Nat) (a1 : Int) (I0 : IMem) (hI : RG I0) (h_o0 : KM[o0]? = some (12, 51)) (h_a1 : inr a1) {r : Int × IMem} (hf : f_X_look fu o0 a1 I0 = some r) : Ss l b 6 y_X_look KM RM [.ref o0, .int (iv a1)] (ivm I0) (Ps r) := by
  unfold f_X_look at hf
  refine Ss.of (show Ai l b 6 y_X_look KM RM (Ps r) I0 0 [.ref o0, .int (iv a1), uu, uu] [] from ?_)
  refine aw_iload_n rfl rfl d_X_look_0 ?_
  obtain ⟨y1, I2, c3, hf⟩ := of_zb hf
  refine ai_callS (as := [.int (iv a1)]) (d' := 2) mo_X_isLine lk_X_105 rfl ⟨by decide, by decide⟩ rfl rfl (by decide) d_X_look_1 (t_X_isLine fu a1 I0 hI h_a1 c3) (fun h_y1 h_I2 => ?_)
  refine ai_if_eq h_y1 hf (tgt := 21) (by decide) d_X_look_4 (fun hf => ?_) (fun hf => ?_)
  · refine aw_iconst (v := iv (-1)) rfl d_X_look_21 ?_
    exact ai_reti rfl d_X_look_22 hf in_m1 h_I2
  · refine aw_aload_n rfl rfl d_X_look_7 (aw_getr (r := o0 + 1) fl_X_7 h_o0 (by decide) rfl (rm_9_0 _ h_o0).1 d_X_look_8 (aw_bipush (v := iv 10) cb_10 d_X_look_11 (aw_iload_n rfl rfl d_X_look_13 (ai_iadd d_X_look_14 ?_))))
    refine ai_name hf (wr32_in _) (fun x4 h_x4 hf => ?_)
    refine ai_iald (rm_9_0 _ h_o0).2 rfl h_x4 hf d_X_look_15 (fun _ hf => ?_)
    refine aw_bipush (v := iv 24) cb_24 d_X_look_16 ?_
    refine ai_icmp_ne (h_I2 (o0 + 1) x4.toNat) in_24 hf (tgt := 23) (by decide) d_X_look_18 (fun hf => ?_) (fun hf => ?_)
    · refine aw_aload_n rfl rfl d_X_look_23 (aw_iconst (v := iv 0) rfl d_X_look_24 ?_)
      obtain ⟨y5, I6, c7, hf⟩ := of_zb hf
      refine ai_callV (as := [.int (iv 0)]) (d' := 5) (q := ("SinglesUpModel", zT9, 51)) mo_X_best lk_X_365 h_o0 rfl rfl rfl ⟨by decide, by decide⟩ rfl rfl (by decide) d_X_look_25 (t_X_best fu o0 0 I2 h_I2 h_o0 in_0 c7) (fun h_y5 h_I6 => ?_)
      refine aw_istore_n (lv2 := [.ref o0, .int (iv a1), .int (iv y5), uu]) rfl (Nat.le_of_ble_eq_true rfl) rfl d_X_look_28 (aw_aload_n rfl rfl d_X_look_29 (aw_getr (r := o0 + 1) fl_X_7 h_o0 (by decide) rfl (rm_9_0 _ h_o0).1 d_X_look_30 (aw_bipush (v := iv 10) cb_10 d_X_look_33 (aw_iload_n rfl rfl d_X_look_35 (ai_iadd d_X_look_36 ?_)))))
      refine ai_name hf (wr32_in _) (fun x8 h_x8 hf => ?_)
      refine aw_dup2 rfl rfl d_X_look_37 ?_
      refine ai_iald (rm_9_0 _ h_o0).2 rfl h_x8 hf d_X_look_38 (fun _ hf => ?_)
      refine aw_iconst (v := iv 1) rfl d_X_look_39 (ai_iadd d_X_look_40 ?_)
      refine ai_iast (rm_9_0 _ h_o0).2 rfl h_x8 (wr32_in _) h_I6 hf d_X_look_41 (fun _ I9 h_I9 hf => ?_)
      refine aw_aload_n rfl rfl d_X_look_42 (aw_iconst (v := iv 0) rfl d_X_look_43 ?_)
      obtain ⟨y10, I11, c12, hf⟩ := of_zb hf
      refine ai_callV (as := [.int (iv 0)]) (d' := 5) (q := ("SinglesUpModel", zT9, 51)) mo_X_best lk_X_365 h_o0 rfl rfl rfl ⟨by decide, by decide⟩ rfl rfl (by decide) d_X_look_44 (t_X_best fu o0 0 I9 h_I9 h_o0 in_0 c12) (fun h_y10 h_I11 => ?_)
      refine aw_istore_n (lv2 := [.ref o0, .int (iv a1), .int (iv y5), .int (iv y10)]) rfl (Nat.le_of_ble_eq_true rfl) rfl d_X_look_47 (aw_aload_n rfl rfl d_X_look_48 (aw_getr (r := o0 + 1) fl_X_7 h_o0 (by decide) rfl (rm_9_0 _ h_o0).1 d_X_look_49 (aw_bipush (v := iv 10) cb_10 d_X_look_52 (aw_iload_n rfl rfl d_X_look_54 (ai_iadd d_X_look_55 ?_)))))
      refine ai_name hf (wr32_in _) (fun x13 h_x13 hf => ?_)
      refine aw_dup2 rfl rfl d_X_look_56 ?_
      refine ai_iald (rm_9_0 _ h_o0).2 rfl h_x13 hf d_X_look_57 (fun _ hf => ?_)
      refine aw_iconst (v := iv 1) rfl d_X_look_58 (ai_isub d_X_look_59 ?_)
      refine ai_iast (rm_9_0 _ h_o0).2 rfl h_x13 (wr32_in _) h_I11 hf d_X_look_60 (fun _ I14 h_I14 hf => ?_)
      refine aw_iload_n rfl rfl d_X_look_61 (aw_iload_n rfl rfl d_X_look_62 (ai_isub d_X_look_63 ?_))
      exact ai_reti rfl d_X_look_64 hf (wr32_in _) h_I14
    · refine aw_iconst (v := iv (-1)) rfl d_X_look_21 ?_
      exact ai_reti rfl d_X_look_22 hf in_m1 h_I2
set_option maxRecDepth 20000 in
theorem t_X_heap_27 (fu : Nat) {r : Int × IMem} (k_63 : Int → IMem → Res) (o0 : Nat) (p1 : Int) (p2 : Int) (h_o0 : KM[o0]? = some (12, 51)) (h_p1 : inr p1) (h_p2 : inr p2) (hk_63 : ∀ (z3 : Int) (I9 : IMem), inr z3 → RG I9 → k_63 z3 I9 = some r → Ai l b 2 y_X_heap KM RM (Ps r) I9 63 [.ref o0, .int (iv p1), .int (iv p2), .int (iv z3), uu] []) : ∀ (m : Nat) (w3 : Int) (w4 : Int) (I0 : IMem), inr w3 → inr w4 → RG I0 → f_X_heap_27 fu k_63 o0 p1 p2 m w3 w4 I0 = some r → Ai l b 2 y_X_heap KM RM (Ps r) I0 27 [.ref o0, .int (iv p1), .int (iv p2), .int (iv w3), .int (iv w4)] [] := by
  intro m
  induction m with
  | zero => intro w3 w4 I0 h_w3 h_w4 h_I0 hf; cases hf
  | succ m ih =>
    intro w3 w4 I0 h_w3 h_w4 h_I0 hf
    replace hf : fb_X_heap_27 fu k_63 o0 p1 p2 (f_X_heap_27 fu k_63 o0 p1 p2 m) w3 w4 I0 = some r := hf
    unfold fb_X_heap_27 at hf
    refine aw_iload rfl d_X_heap_27 (aw_bipush (v := iv 8) cb_8 d_X_heap_29 ?_)
    refine ai_icmp_gt h_w4 in_8 hf (tgt := 63) (by decide) d_X_heap_31 (fun hf => ?_) (fun hf => ?_)
    · refine aw_weakB (lv2 := [.ref o0, .int (iv p1), .int (iv p2), .int (iv w3), uu]) (wk_s (wk_s (wk_s (wk_s (wk_u wk_n))))) ?_
      exact hk_63 w3 I0 h_w3 h_I0 hf
    · refine aw_iload_n rfl rfl d_X_heap_34 (aw_iload rfl d_X_heap_35 (aw_iload_n rfl rfl d_X_heap_37 ?_))
      obtain ⟨k7, ek7, hf⟩ := of_zj hf
      have hk7 : ∀ (x9 : Int) (I8 : IMem), inr x9 → RG I8 → k7 x9 I8 = some r → Ai l b 2 y_X_heap KM RM (Ps r) I8 55 [.ref o0, .int (iv p1), .int (iv p2), uu, .int (iv w4)] [.int (iv x9), .int (iv w3)] := by
        intro x9 I8 h_x9 h_I8 hf
        subst ek7
        refine ai_iadd d_X_heap_55 ?_
        refine ai_name hf (wr32_in _) (fun x10 h_x10 hf => ?_)
        refine aw_istore_n (lv2 := [.ref o0, .int (iv p1), .int (iv p2), .int (iv x10), .int (iv w4)]) rfl (Nat.le_of_ble_eq_true rfl) rfl d_X_heap_56 ?_
        refine ai_iinc (n := 1) (lv2 := fun x11 => [.ref o0, .int (iv p1), .int (iv p2), .int (iv x10), .int (iv x11)]) hf rfl (Nat.le_of_ble_eq_true rfl) (fun _ => rfl) d_X_heap_57 (fun x11 h_x11 hf => ?_)
        refine aw_goto (tgt := 27) (by decide) d_X_heap_60 ?_
        exact ih x10 x11 I8 h_x10 h_x11 h_I8 hf
      refine ai_icmp_ne h_w4 h_p1 hf (tgt := 45) (by decide) d_X_heap_38 (fun hf => ?_) (fun hf => ?_)
      · refine aw_aload_n rfl rfl d_X_heap_45 (aw_getr (r := o0 + 1) fl_X_7 h_o0 (by decide) rfl (rm_9_0 _ h_o0).1 d_X_heap_46 (aw_bipush (v := iv 60) cb_60 d_X_heap_49 (aw_iload rfl d_X_heap_51 (ai_iadd d_X_heap_53 ?_))))
        refine ai_name hf (wr32_in _) (fun x12 h_x12 hf => ?_)
        refine ai_iald (rm_9_0 _ h_o0).2 rfl h_x12 hf d_X_heap_54 (fun _ hf => ?_)
        refine aw_weakB (lv2 := [.ref o0, .int (iv p1), .int (iv p2), uu, .int (iv w4)]) (wk_s (wk_s (wk_s (wk_u (wk_s wk_n))))) ?_
        exact hk7 (I0 (o0 + 1) x12.toNat) I0 (h_I0 (o0 + 1) x12.toNat) h_I0 hf
      · refine aw_iconst (v := iv 0) rfl d_X_heap_41 (aw_goto (tgt := 55) (by decide) d_X_heap_42 ?_)
        refine aw_weakB (lv2 := [.ref o0, .int (iv p1), .int (iv p2), uu, .int (iv w4)]) (wk_s (wk_s (wk_s (wk_u (wk_s wk_n))))) ?_
        exact hk7 0 I0 in_0 h_I0 hf
set_option maxRecDepth 20000 in
theorem t_X_heap (fu : Nat) (o0 : Nat) (a1 : Int) (a2 : Int) (I0 : IMem) (hI : RG I0) (h_o0 : KM[o0]? = some (12, 51)) (h_a1 : inr a1) (h_a2 : inr a2) {r : Int × IMem} (hf : f_X_heap fu o0 a1 a2 I0 = some r) : Ss l b 2 y_X_heap KM RM [.ref o0, .int (iv a1), .int (iv a2)] (ivm I0) (Ps r) := by
  unfold f_X_heap at hf
  refine Ss.of (show Ai l b 2 y_X_heap KM RM (Ps r) I0 0 [.ref o0, .int (iv a1), .int (iv a2), uu, uu] [] from ?_)
  refine aw_iload_n rfl rfl d_X_heap_0 (aw_iconst (v := iv 1) rfl d_X_heap_1 (aw_bipush (v := iv 8) cb_8 d_X_heap_2 ?_))
  obtain ⟨y1, I2, c3, hf⟩ := of_zb hf
  refine ai_callS (as := [.int (iv a1), .int (iv 1), .int (iv 8)]) (d' := 1) mo_X_isIn lk_X_98 rfl ⟨by decide, by decide⟩ rfl rfl (by decide) d_X_heap_4 (t_X_isIn fu a1 1 8 I0 hI h_a1 in_1 in_8 c3) (fun h_y1 h_I2 => ?_)
  refine ai_if_eq h_y1 hf (tgt := 20) (by decide) d_X_heap_7 (fun hf => ?_) (fun hf => ?_)
  · refine aw_iconst (v := iv 0) rfl d_X_heap_20 ?_
    exact ai_retn rfl (nar_z (Or.inl rfl)) d_X_heap_21 hf in_0 h_I2
  · refine aw_iload_n rfl rfl d_X_heap_10 (aw_iconst (v := iv 0) rfl d_X_heap_11 (aw_bipush (v := iv 9) cb_9 d_X_heap_12 ?_))
    obtain ⟨y4, I5, c6, hf⟩ := of_zb hf
    refine ai_callS (as := [.int (iv a2), .int (iv 0), .int (iv 9)]) (d' := 1) mo_X_isIn lk_X_98 rfl ⟨by decide, by decide⟩ rfl rfl (by decide) d_X_heap_14 (t_X_isIn fu a2 0 9 I2 h_I2 h_a2 in_0 in_9 c6) (fun h_y4 h_I5 => ?_)
    refine ai_if_ne h_y4 hf (tgt := 22) (by decide) d_X_heap_17 (fun hf => ?_) (fun hf => ?_)
    · refine aw_iload_n rfl rfl d_X_heap_22 (aw_istore_n (lv2 := [.ref o0, .int (iv a1), .int (iv a2), .int (iv a2), uu]) rfl (Nat.le_of_ble_eq_true rfl) rfl d_X_heap_23 (aw_iconst (v := iv 1) rfl d_X_heap_24 (aw_istore (lv2 := [.ref o0, .int (iv a1), .int (iv a2), .int (iv a2), .int (iv 1)]) (Nat.le_of_ble_eq_true rfl) rfl d_X_heap_25 ?_)))
      refine t_X_heap_27 fu _ o0 a1 a2 h_o0 h_a1 h_a2 ?_ fu a2 1 I5 h_a2 in_1 h_I5 hf
      · intro x14 I13 h_x14 h_I13 hf
        refine aw_iload_n rfl rfl d_X_heap_63 (aw_bipush (v := iv 12) cb_12 d_X_heap_64 ?_)
        refine ai_icmp_le h_x14 in_12 hf (tgt := 71) (by decide) d_X_heap_66 (fun hf => ?_) (fun hf => ?_)
        · refine aw_aload_n rfl rfl d_X_heap_71 (aw_getr (r := o0 + 1) fl_X_7 h_o0 (by decide) rfl (rm_9_0 _ h_o0).1 d_X_heap_72 (aw_bipush (v := iv 60) cb_60 d_X_heap_75 (aw_iload_n rfl rfl d_X_heap_77 (ai_iadd d_X_heap_78 (aw_iload_n rfl rfl d_X_heap_79 ?_)))))
          refine ai_nameU hf (wr32_in _) (fun x16 h_x16 hf => ?_)
          refine ai_iast (rm_9_0 _ h_o0).2 rfl h_x16 h_a2 h_I13 hf d_X_heap_80 (fun _ I15 h_I15 hf => ?_)
          refine aw_iconst (v := iv 1) rfl d_X_heap_81 ?_
          exact ai_retn rfl (nar_z (Or.inr rfl)) d_X_heap_82 hf in_1 h_I15
        · refine aw_iconst (v := iv 0) rfl d_X_heap_69 ?_
          exact ai_retn rfl (nar_z (Or.inl rfl)) d_X_heap_70 hf in_0 h_I13
    · refine aw_iconst (v := iv 0) rfl d_X_heap_20 ?_
      exact ai_retn rfl (nar_z (Or.inl rfl)) d_X_heap_21 hf in_0 h_I5
set_option maxRecDepth 20000 in
theorem t_X_greatest_3 (fu : Nat) {r : Int × IMem} (o0 : Nat) (h_o0 : KM[o0]? = some (12, 51)) : ∀ (m : Nat) (w1 : Int) (I0 : IMem), inr w1 → RG I0 → f_X_greatest_3 fu o0 m w1 I0 = some r → Ai l b 1 y_X_greatest KM RM (Ps r) I0 3 [.ref o0, .int (iv w1)] [] := by
  intro m
  induction m with
  | zero => intro w1 I0 h_w1 h_I0 hf; cases hf
  | succ m ih =>
    intro w1 I0 h_w1 h_I0 hf
    replace hf : fb_X_greatest_3 fu o0 (f_X_greatest_3 fu o0 m) w1 I0 = some r := hf
    unfold fb_X_greatest_3 at hf
    refine aw_iload_n rfl rfl d_X_greatest_3 ?_
    refine ai_if_le h_w1 hf (tgt := 24) (by decide) d_X_greatest_4 (fun hf => ?_) (fun hf => ?_)
    · refine aw_iconst (v := iv 0) rfl d_X_greatest_24 ?_
      exact ai_reti rfl d_X_greatest_25 hf in_0 h_I0
    · refine aw_aload_n rfl rfl d_X_greatest_7 (aw_getr (r := o0 + 19) fl_X_75 h_o0 (by decide) rfl (rm_9_42 _ h_o0).1 d_X_greatest_8 (aw_iload_n rfl rfl d_X_greatest_11 ?_))
      refine ai_iald (rm_9_42 _ h_o0).2 rfl h_w1 hf d_X_greatest_12 (fun _ hf => ?_)
      refine ai_if_le (h_I0 (o0 + 19) w1.toNat) hf (tgt := 18) (by decide) d_X_greatest_13 (fun hf => ?_) (fun hf => ?_)
      · refine ai_iinc (n := (-1)) (lv2 := fun x1 => [.ref o0, .int (iv x1)]) hf rfl (Nat.le_of_ble_eq_true rfl) (fun _ => rfl) d_X_greatest_18 (fun x1 h_x1 hf => ?_)
        refine aw_goto (tgt := 3) (by decide) d_X_greatest_21 ?_
        exact ih x1 I0 h_x1 h_I0 hf
      · refine aw_iload_n rfl rfl d_X_greatest_16 ?_
        exact ai_reti rfl d_X_greatest_17 hf h_w1 h_I0
set_option maxRecDepth 20000 in
theorem t_X_greatest (fu : Nat) (o0 : Nat) (I0 : IMem) (hI : RG I0) (h_o0 : KM[o0]? = some (12, 51)) {r : Int × IMem} (hf : f_X_greatest fu o0 I0 = some r) : Ss l b 1 y_X_greatest KM RM [.ref o0] (ivm I0) (Ps r) := by
  unfold f_X_greatest at hf
  refine Ss.of (show Ai l b 1 y_X_greatest KM RM (Ps r) I0 0 [.ref o0, uu] [] from ?_)
  refine aw_bipush (v := iv 8) cb_8 d_X_greatest_0 (aw_istore_n (lv2 := [.ref o0, .int (iv 8)]) rfl (Nat.le_of_ble_eq_true rfl) rfl d_X_greatest_2 ?_)
  refine t_X_greatest_3 fu o0 h_o0 fu 8 I0 in_8 hI hf
set_option maxRecDepth 20000 in
theorem t_X_number0_4 (fu : Nat) {r : Int × IMem} (o0 : Nat) (h_o0 : KM[o0]? = some (12, 51)) : ∀ (m : Nat) (w1 : Int) (w2 : Int) (I0 : IMem), inr w1 → inr w2 → RG I0 → f_X_number0_4 fu o0 m w1 w2 I0 = some r → Ai l b 1 y_X_number0 KM RM (Ps r) I0 4 [.ref o0, .int (iv w1), .int (iv w2)] [] := by
  intro m
  induction m with
  | zero => intro w1 w2 I0 h_w1 h_w2 h_I0 hf; cases hf
  | succ m ih =>
    intro w1 w2 I0 h_w1 h_w2 h_I0 hf
    replace hf : fb_X_number0_4 fu o0 (f_X_number0_4 fu o0 m) w1 w2 I0 = some r := hf
    unfold fb_X_number0_4 at hf
    refine aw_iload_n rfl rfl d_X_number0_4 (aw_bipush (v := iv 8) cb_8 d_X_number0_5 ?_)
    refine ai_icmp_gt h_w2 in_8 hf (tgt := 32) (by decide) d_X_number0_7 (fun hf => ?_) (fun hf => ?_)
    · refine aw_iload_n rfl rfl d_X_number0_32 ?_
      exact ai_reti rfl d_X_number0_33 hf h_w1 h_I0
    · refine aw_iload_n rfl rfl d_X_number0_10 (aw_aload_n rfl rfl d_X_number0_11 (aw_getr (r := o0 + 20) fl_X_78 h_o0 (by decide) rfl (rm_9_43 _ h_o0).1 d_X_number0_12 (aw_iload_n rfl rfl d_X_number0_15 ?_)))
      refine ai_iald (rm_9_43 _ h_o0).2 rfl h_w2 hf d_X_number0_16 (fun _ hf => ?_)
      refine aw_aload_n rfl rfl d_X_number0_17 (aw_getr (r := o0 + 19) fl_X_75 h_o0 (by decide) rfl (rm_9_42 _ h_o0).1 d_X_number0_18 (aw_iload_n rfl rfl d_X_number0_21 ?_))
      refine ai_iald (rm_9_42 _ h_o0).2 rfl h_w2 hf d_X_number0_22 (fun _ hf => ?_)
      refine ai_imul d_X_number0_23 (ai_iadd d_X_number0_24 ?_)
      refine ai_name hf (wr32_in _) (fun x1 h_x1 hf => ?_)
      refine aw_istore_n (lv2 := [.ref o0, .int (iv x1), .int (iv w2)]) rfl (Nat.le_of_ble_eq_true rfl) rfl d_X_number0_25 ?_
      refine ai_iinc (n := 1) (lv2 := fun x2 => [.ref o0, .int (iv x1), .int (iv x2)]) hf rfl (Nat.le_of_ble_eq_true rfl) (fun _ => rfl) d_X_number0_26 (fun x2 h_x2 hf => ?_)
      refine aw_goto (tgt := 4) (by decide) d_X_number0_29 ?_
      exact ih x1 x2 I0 h_x1 h_x2 h_I0 hf
set_option maxRecDepth 20000 in
theorem t_X_number0 (fu : Nat) (o0 : Nat) (I0 : IMem) (hI : RG I0) (h_o0 : KM[o0]? = some (12, 51)) {r : Int × IMem} (hf : f_X_number0 fu o0 I0 = some r) : Ss l b 1 y_X_number0 KM RM [.ref o0] (ivm I0) (Ps r) := by
  unfold f_X_number0 at hf
  refine Ss.of (show Ai l b 1 y_X_number0 KM RM (Ps r) I0 0 [.ref o0, uu, uu] [] from ?_)
  refine aw_iconst (v := iv 0) rfl d_X_number0_0 (aw_istore_n (lv2 := [.ref o0, .int (iv 0), uu]) rfl (Nat.le_of_ble_eq_true rfl) rfl d_X_number0_1 (aw_iconst (v := iv 1) rfl d_X_number0_2 (aw_istore_n (lv2 := [.ref o0, .int (iv 0), .int (iv 1)]) rfl (Nat.le_of_ble_eq_true rfl) rfl d_X_number0_3 ?_)))
  refine t_X_number0_4 fu o0 h_o0 fu 0 1 I0 in_0 in_1 hI hf
set_option maxRecDepth 20000 in
theorem t_gXN (fu : Nat) : ∀ n : Nat, (∀ (o0 : Nat) (I0 : IMem), RG I0 → KM[o0]? = some (12, 51) → ∀ (r : Int × IMem), (gXN fu n).1 o0 I0 = some r → Ss l b (2 + n) y_X_needs KM RM [.ref o0] (ivm I0) (Ps r)) ∧ (∀ (o0 : Nat) (a1 : Int) (a2 : Int) (I0 : IMem), RG I0 → KM[o0]? = some (12, 51) → inr a1 → inr a2 → ∀ (r : Int × IMem), (gXN fu n).2 o0 a1 a2 I0 = some r → Ss l b (2 + n) y_X_fewestBehind KM RM [.ref o0, .int (iv a1), .int (iv a2)] (ivm I0) (Ps r)) := by
  intro n
  induction n with
  | zero => exact ⟨(fun o0 I0 _ _ r hf => by cases hf), (fun o0 a1 a2 I0 _ _ _ _ r hf => by cases hf)⟩
  | succ n ihg =>
    refine ⟨?_, ?_⟩
    · intro o0 I0 hI h_o0 r hf
      replace hf : fb_X_needs fu (gXN fu n) o0 I0 = some r := hf
      unfold fb_X_needs at hf
      refine Ss.of (show Ai l b (2 + (n + 1)) y_X_needs KM RM (Ps r) I0 0 [.ref o0, uu, uu, uu] [] from ?_)
      refine aw_aload_n rfl rfl d_X_needs_0 ?_
      obtain ⟨y1, I2, c3, hf⟩ := of_zb hf
      refine ai_callV (as := []) (d' := 1) (q := ("SinglesUpModel", zT9, 51)) mo_X_greatest lk_X_368 h_o0 rfl rfl rfl ⟨by show 1 + 1 ≤ 2 + (n + 1); omega, by show 8 + (2 + 11) + 40 * 1 ≤ 40 * (2 + (n + 1)); omega⟩ rfl rfl (by decide) d_X_needs_1 (t_X_greatest fu o0 I0 hI h_o0 c3) (fun h_y1 h_I2 => ?_)
      refine aw_istore_n (lv2 := [.ref o0, .int (iv y1), uu, uu]) rfl (Nat.le_of_ble_eq_true rfl) rfl d_X_needs_4 (aw_iload_n rfl rfl d_X_needs_5 ?_)
      refine ai_if_ne h_y1 hf (tgt := 11) (by decide) d_X_needs_6 (fun hf => ?_) (fun hf => ?_)
      · refine aw_aload_n rfl rfl d_X_needs_11 ?_
        obtain ⟨y4, I5, c6, hf⟩ := of_zb hf
        refine ai_callV (as := []) (d' := 1) (q := ("SinglesUpModel", zT9, 51)) mo_X_number0 lk_X_371 h_o0 rfl rfl rfl ⟨by show 1 + 1 ≤ 2 + (n + 1); omega, by show 8 + (3 + 11) + 40 * 1 ≤ 40 * (2 + (n + 1)); omega⟩ rfl rfl (by decide) d_X_needs_12 (t_X_number0 fu o0 I2 h_I2 h_o0 c6) (fun h_y4 h_I5 => ?_)
        refine aw_istore_n (lv2 := [.ref o0, .int (iv y1), .int (iv y4), uu]) rfl (Nat.le_of_ble_eq_true rfl) rfl d_X_needs_15 (aw_aload_n rfl rfl d_X_needs_16 (aw_getr (r := o0 + 18) fl_X_72 h_o0 (by decide) rfl (rm_9_41 _ h_o0).1 d_X_needs_17 (aw_iload_n rfl rfl d_X_needs_20 ?_)))
        refine ai_iald (rm_9_41 _ h_o0).2 rfl h_y4 hf d_X_needs_21 (fun _ hf => ?_)
        refine aw_iconst (v := iv (-1)) rfl d_X_needs_22 ?_
        refine ai_icmp_eq (h_I5 (o0 + 18) y4.toNat) in_m1 hf (tgt := 33) (by decide) d_X_needs_23 (fun hf => ?_) (fun hf => ?_)
        · refine aw_aload_n rfl rfl d_X_needs_33 (aw_getr (r := o0 + 19) fl_X_75 h_o0 (by decide) rfl (rm_9_42 _ h_o0).1 d_X_needs_34 (aw_iload_n rfl rfl d_X_needs_37 (aw_dup2 rfl rfl d_X_needs_38 ?_)))
          refine ai_iald (rm_9_42 _ h_o0).2 rfl h_y1 hf d_X_needs_39 (fun _ hf => ?_)
          refine aw_iconst (v := iv 1) rfl d_X_needs_40 (ai_isub d_X_needs_41 ?_)
          refine ai_iast (rm_9_42 _ h_o0).2 rfl h_y1 (wr32_in _) h_I5 hf d_X_needs_42 (fun _ I7 h_I7 hf => ?_)
          refine aw_iconst (v := iv 1) rfl d_X_needs_43 (aw_aload_n rfl rfl d_X_needs_44 (aw_iload_n rfl rfl d_X_needs_45 (aw_aload_n rfl rfl d_X_needs_46 (aw_getr (r := o0 + 1) fl_X_7 h_o0 (by decide) rfl (rm_9_0 _ h_o0).1 d_X_needs_47 (aw_iconst (v := iv 1) rfl d_X_needs_50 (ai_ialdc (j := 1) (rm_9_0 _ h_o0).2 (by decide) (by decide) d_X_needs_51 (aw_iload_n rfl rfl d_X_needs_52 (ai_isub d_X_needs_53 ?_))))))))
          obtain ⟨y8, I9, c10, hf⟩ := of_zb hf
          refine ai_callV (as := [.int (iv y1), .int (iv (wr32 ((I7 (o0 + 1) 1) - y1)))]) (d' := (2 + n)) (q := ("SinglesUpModel", zT9, 51)) mo_X_fewestBehind lk_X_374 h_o0 rfl rfl rfl ⟨by show 2 + n + 1 ≤ 2 + (n + 1); omega, by show 8 + (5 + 11) + 40 * (2 + n) ≤ 40 * (2 + (n + 1)); omega⟩ rfl rfl (by decide) d_X_needs_54 (ihg.2 o0 y1 (wr32 ((I7 (o0 + 1) 1) - y1)) I7 h_I7 h_o0 h_y1 (wr32_in _) _ c10) (fun h_y8 h_I9 => ?_)
          refine ai_iadd d_X_needs_57 ?_
          refine ai_name hf (wr32_in _) (fun x11 h_x11 hf => ?_)
          refine aw_istore_n (lv2 := [.ref o0, .int (iv y1), .int (iv y4), .int (iv x11)]) rfl (Nat.le_of_ble_eq_true rfl) rfl d_X_needs_58 ?_
          refine aw_aload_n rfl rfl d_X_needs_59 (aw_getr (r := o0 + 19) fl_X_75 h_o0 (by decide) rfl (rm_9_42 _ h_o0).1 d_X_needs_60 (aw_iload_n rfl rfl d_X_needs_63 (aw_dup2 rfl rfl d_X_needs_64 ?_)))
          refine ai_iald (rm_9_42 _ h_o0).2 rfl h_y1 hf d_X_needs_65 (fun _ hf => ?_)
          refine aw_iconst (v := iv 1) rfl d_X_needs_66 (ai_iadd d_X_needs_67 ?_)
          refine ai_iast (rm_9_42 _ h_o0).2 rfl h_y1 (wr32_in _) h_I9 hf d_X_needs_68 (fun _ I12 h_I12 hf => ?_)
          refine aw_aload_n rfl rfl d_X_needs_69 (aw_getr (r := o0 + 18) fl_X_72 h_o0 (by decide) rfl (rm_9_41 _ h_o0).1 d_X_needs_70 (aw_iload_n rfl rfl d_X_needs_73 (aw_iload_n rfl rfl d_X_needs_74 ?_)))
          refine ai_iast (rm_9_41 _ h_o0).2 rfl h_y4 h_x11 h_I12 hf d_X_needs_75 (fun _ I13 h_I13 hf => ?_)
          refine aw_iload_n rfl rfl d_X_needs_76 ?_
          exact ai_reti rfl d_X_needs_77 hf h_x11 h_I13
        · refine aw_aload_n rfl rfl d_X_needs_26 (aw_getr (r := o0 + 18) fl_X_72 h_o0 (by decide) rfl (rm_9_41 _ h_o0).1 d_X_needs_27 (aw_iload_n rfl rfl d_X_needs_30 ?_))
          refine ai_iald (rm_9_41 _ h_o0).2 rfl h_y4 hf d_X_needs_31 (fun _ hf => ?_)
          exact ai_reti rfl d_X_needs_32 hf (h_I5 (o0 + 18) y4.toNat) h_I5
      · refine aw_iconst (v := iv 0) rfl d_X_needs_9 ?_
        exact ai_reti rfl d_X_needs_10 hf in_0 h_I2
    · intro o0 a1 a2 I0 hI h_o0 h_a1 h_a2 r hf
      replace hf : fb_X_fewestBehind fu (gXN fu n) o0 a1 a2 I0 = some r := hf
      unfold fb_X_fewestBehind at hf
      refine Ss.of (show Ai l b (2 + (n + 1)) y_X_fewestBehind KM RM (Ps r) I0 0 [.ref o0, .int (iv a1), .int (iv a2), uu, uu] [] from ?_)
      refine aw_iload_n rfl rfl d_X_fewestBehind_0 ?_
      refine ai_if_ne h_a1 hf (tgt := 9) (by decide) d_X_fewestBehind_1 (fun hf => ?_) (fun hf => ?_)
      · refine aw_aload_n rfl rfl d_X_fewestBehind_9 (aw_iload_n rfl rfl d_X_fewestBehind_10 (aw_iconst (v := iv 1) rfl d_X_fewestBehind_11 (ai_isub d_X_fewestBehind_12 (aw_iload_n rfl rfl d_X_fewestBehind_13 ?_))))
        obtain ⟨y1, I2, c3, hf⟩ := of_zb hf
        refine ai_callV (as := [.int (iv (wr32 (a1 - 1))), .int (iv a2)]) (d' := (2 + n)) (q := ("SinglesUpModel", zT9, 51)) mo_X_fewestBehind lk_X_374 h_o0 rfl rfl rfl ⟨by show 2 + n + 1 ≤ 2 + (n + 1); omega, by show 8 + (5 + 11) + 40 * (2 + n) ≤ 40 * (2 + (n + 1)); omega⟩ rfl rfl (by decide) d_X_fewestBehind_14 (ihg.2 o0 (wr32 (a1 - 1)) a2 I0 hI h_o0 (wr32_in _) h_a2 _ c3) (fun h_y1 h_I2 => ?_)
        refine aw_istore_n (lv2 := [.ref o0, .int (iv a1), .int (iv a2), .int (iv y1), uu]) rfl (Nat.le_of_ble_eq_true rfl) rfl d_X_fewestBehind_17 (aw_aload_n rfl rfl d_X_fewestBehind_18 (aw_getr (r := o0 + 19) fl_X_75 h_o0 (by decide) rfl (rm_9_42 _ h_o0).1 d_X_fewestBehind_19 (aw_iload_n rfl rfl d_X_fewestBehind_22 ?_)))
        refine ai_iald (rm_9_42 _ h_o0).2 rfl h_a1 hf d_X_fewestBehind_23 (fun _ hf => ?_)
        refine ai_if_eq (h_I2 (o0 + 19) a1.toNat) hf (tgt := 32) (by decide) d_X_fewestBehind_24 (fun hf => ?_) (fun hf => ?_)
        · refine aw_iload_n rfl rfl d_X_fewestBehind_32 ?_
          exact ai_reti rfl d_X_fewestBehind_33 hf h_y1 h_I2
        · refine aw_iload_n rfl rfl d_X_fewestBehind_27 (aw_iload_n rfl rfl d_X_fewestBehind_28 ?_)
          refine ai_icmp_le h_a1 h_a2 hf (tgt := 34) (by decide) d_X_fewestBehind_29 (fun hf => ?_) (fun hf => ?_)
          · refine aw_aload_n rfl rfl d_X_fewestBehind_34 (aw_getr (r := o0 + 19) fl_X_75 h_o0 (by decide) rfl (rm_9_42 _ h_o0).1 d_X_fewestBehind_35 (aw_iload_n rfl rfl d_X_fewestBehind_38 (aw_dup2 rfl rfl d_X_fewestBehind_39 ?_)))
            refine ai_iald (rm_9_42 _ h_o0).2 rfl h_a1 hf d_X_fewestBehind_40 (fun _ hf => ?_)
            refine aw_iconst (v := iv 1) rfl d_X_fewestBehind_41 (ai_isub d_X_fewestBehind_42 ?_)
            refine ai_iast (rm_9_42 _ h_o0).2 rfl h_a1 (wr32_in _) h_I2 hf d_X_fewestBehind_43 (fun _ I4 h_I4 hf => ?_)
            refine aw_aload_n rfl rfl d_X_fewestBehind_44 (aw_iload_n rfl rfl d_X_fewestBehind_45 (aw_iload_n rfl rfl d_X_fewestBehind_46 (aw_iload_n rfl rfl d_X_fewestBehind_47 (ai_isub d_X_fewestBehind_48 ?_))))
            obtain ⟨y5, I6, c7, hf⟩ := of_zb hf
            refine ai_callV (as := [.int (iv a1), .int (iv (wr32 (a2 - a1)))]) (d' := (2 + n)) (q := ("SinglesUpModel", zT9, 51)) mo_X_fewestBehind lk_X_374 h_o0 rfl rfl rfl ⟨by show 2 + n + 1 ≤ 2 + (n + 1); omega, by show 8 + (5 + 11) + 40 * (2 + n) ≤ 40 * (2 + (n + 1)); omega⟩ rfl rfl (by decide) d_X_fewestBehind_49 (ihg.2 o0 a1 (wr32 (a2 - a1)) I4 h_I4 h_o0 h_a1 (wr32_in _) _ c7) (fun h_y5 h_I6 => ?_)
            refine aw_istore (lv2 := [.ref o0, .int (iv a1), .int (iv a2), .int (iv y1), .int (iv y5)]) (Nat.le_of_ble_eq_true rfl) rfl d_X_fewestBehind_52 (aw_aload_n rfl rfl d_X_fewestBehind_54 (aw_getr (r := o0 + 19) fl_X_75 h_o0 (by decide) rfl (rm_9_42 _ h_o0).1 d_X_fewestBehind_55 (aw_iload_n rfl rfl d_X_fewestBehind_58 (aw_dup2 rfl rfl d_X_fewestBehind_59 ?_))))
            refine ai_iald (rm_9_42 _ h_o0).2 rfl h_a1 hf d_X_fewestBehind_60 (fun _ hf => ?_)
            refine aw_iconst (v := iv 1) rfl d_X_fewestBehind_61 (ai_iadd d_X_fewestBehind_62 ?_)
            refine ai_iast (rm_9_42 _ h_o0).2 rfl h_a1 (wr32_in _) h_I6 hf d_X_fewestBehind_63 (fun _ I8 h_I8 hf => ?_)
            refine aw_iload rfl d_X_fewestBehind_64 (aw_iload_n rfl rfl d_X_fewestBehind_66 ?_)
            refine ai_icmp_ge h_y5 h_y1 hf (tgt := 75) (by decide) d_X_fewestBehind_67 (fun hf => ?_) (fun hf => ?_)
            · refine aw_iload_n rfl rfl d_X_fewestBehind_75 ?_
              exact ai_reti rfl d_X_fewestBehind_76 hf h_y1 h_I8
            · refine aw_iload rfl d_X_fewestBehind_70 (aw_goto (tgt := 76) (by decide) d_X_fewestBehind_72 ?_)
              exact ai_reti rfl d_X_fewestBehind_76 hf h_y5 h_I8
          · refine aw_iload_n rfl rfl d_X_fewestBehind_32 ?_
            exact ai_reti rfl d_X_fewestBehind_33 hf h_y1 h_I2
      · refine aw_aload_n rfl rfl d_X_fewestBehind_4 ?_
        obtain ⟨y9, I10, c11, hf⟩ := of_zb hf
        refine ai_callV (as := []) (d' := (2 + n)) (q := ("SinglesUpModel", zT9, 51)) mo_X_needs lk_X_377 h_o0 rfl rfl rfl ⟨by show 2 + n + 1 ≤ 2 + (n + 1); omega, by show 8 + (4 + 11) + 40 * (2 + n) ≤ 40 * (2 + (n + 1)); omega⟩ rfl rfl (by decide) d_X_fewestBehind_5 (ihg.1 o0 I0 hI h_o0 _ c11) (fun h_y9 h_I10 => ?_)
        exact ai_reti rfl d_X_fewestBehind_8 hf h_y9 h_I10
set_option maxRecDepth 20000 in
theorem t_X_needs (fu : Nat) (o0 : Nat) (I0 : IMem) (hI : RG I0) (h_o0 : KM[o0]? = some (12, 51)) {r : Int × IMem} (hf : f_X_needs fu o0 I0 = some r) : Ss l b 302 y_X_needs KM RM [.ref o0] (ivm I0) (Ps r) := (t_gXN fu 300).1 o0 I0 hI h_o0 r hf
set_option maxRecDepth 20000 in
theorem t_X_fewestBehind (fu : Nat) (o0 : Nat) (a1 : Int) (a2 : Int) (I0 : IMem) (hI : RG I0) (h_o0 : KM[o0]? = some (12, 51)) (h_a1 : inr a1) (h_a2 : inr a2) {r : Int × IMem} (hf : f_X_fewestBehind fu o0 a1 a2 I0 = some r) : Ss l b 302 y_X_fewestBehind KM RM [.ref o0, .int (iv a1), .int (iv a2)] (ivm I0) (Ps r) := (t_gXN fu 300).2 o0 a1 a2 I0 hI h_o0 h_a1 h_a2 r hf
set_option maxRecDepth 20000 in
theorem t_X_fillsFirst_48 (fu : Nat) (n : Nat) {R : (Nat → Int → Int → Int → IMem → Res)} (ihg : (∀ (o0 : Nat) (a1 : Int) (a2 : Int) (a3 : Int) (I0 : IMem), RG I0 → KM[o0]? = some (12, 51) → inr a1 → inr a2 → inr a3 → ∀ (r : Int × IMem), R o0 a1 a2 a3 I0 = some r → Ss l b (303 + n) y_X_fillsFirst KM RM [.ref o0, .int (iv a1), .int (iv a2), .int (iv a3)] (ivm I0) (Ps r))) {r : Int × IMem} (o0 : Nat) (p1 : Int) (p2 : Int) (p3 : Int) (h_o0 : KM[o0]? = some (12, 51)) (h_p1 : inr p1) (h_p2 : inr p2) (h_p3 : inr p3) : ∀ (m : Nat) (w5 : Int) (I0 : IMem), inr w5 → RG I0 → f_X_fillsFirst_48 fu R o0 p1 p2 p3 m w5 I0 = some r → Ai l b (303 + (n + 1)) y_X_fillsFirst KM RM (Ps r) I0 48 [.ref o0, .int (iv p1), .int (iv p2), .int (iv p3), uu, .int (iv w5), uu] [] := by
  intro m
  induction m with
  | zero => intro w5 I0 h_w5 h_I0 hf; cases hf
  | succ m ih =>
    intro w5 I0 h_w5 h_I0 hf
    replace hf : fb_X_fillsFirst_48 fu R o0 p1 p2 p3 (f_X_fillsFirst_48 fu R o0 p1 p2 p3 m) w5 I0 = some r := hf
    unfold fb_X_fillsFirst_48 at hf
    refine aw_iload rfl d_X_fillsFirst_48 ?_
    refine ai_if_lt h_w5 hf (tgt := 126) (by decide) d_X_fillsFirst_50 (fun hf => ?_) (fun hf => ?_)
    · refine aw_iconst (v := iv 0) rfl d_X_fillsFirst_126 ?_
      exact ai_retn rfl (nar_z (Or.inl rfl)) d_X_fillsFirst_127 hf in_0 h_I0
    · refine aw_aload_n rfl rfl d_X_fillsFirst_53 (aw_getr (r := o0 + 19) fl_X_75 h_o0 (by decide) rfl (rm_9_42 _ h_o0).1 d_X_fillsFirst_54 (aw_iload_n rfl rfl d_X_fillsFirst_57 (aw_dup2 rfl rfl d_X_fillsFirst_58 ?_)))
      refine ai_iald (rm_9_42 _ h_o0).2 rfl h_p1 hf d_X_fillsFirst_59 (fun _ hf => ?_)
      refine aw_iload rfl d_X_fillsFirst_60 (ai_isub d_X_fillsFirst_62 ?_)
      refine ai_iast (rm_9_42 _ h_o0).2 rfl h_p1 (wr32_in _) h_I0 hf d_X_fillsFirst_63 (fun _ I4 h_I4 hf => ?_)
      refine aw_aload_n rfl rfl d_X_fillsFirst_64 (aw_getr (r := o0 + 21) fl_X_81 h_o0 (by decide) rfl (rm_9_44 _ h_o0).1 d_X_fillsFirst_65 (aw_iload_n rfl rfl d_X_fillsFirst_68 (aw_dup2 rfl rfl d_X_fillsFirst_69 ?_)))
      refine ai_iald (rm_9_44 _ h_o0).2 rfl h_p1 hf d_X_fillsFirst_70 (fun _ hf => ?_)
      refine aw_iload rfl d_X_fillsFirst_71 (ai_iadd d_X_fillsFirst_73 ?_)
      refine ai_iast (rm_9_44 _ h_o0).2 rfl h_p1 (wr32_in _) h_I4 hf d_X_fillsFirst_74 (fun _ I5 h_I5 hf => ?_)
      refine aw_aload_n rfl rfl d_X_fillsFirst_75 (aw_iload_n rfl rfl d_X_fillsFirst_76 (aw_iconst (v := iv 1) rfl d_X_fillsFirst_77 (ai_isub d_X_fillsFirst_78 (aw_iload_n rfl rfl d_X_fillsFirst_79 (aw_iload rfl d_X_fillsFirst_80 (aw_iload_n rfl rfl d_X_fillsFirst_82 (ai_imul d_X_fillsFirst_83 (ai_isub d_X_fillsFirst_84 (aw_iload_n rfl rfl d_X_fillsFirst_85 ?_)))))))))
      obtain ⟨y6, I7, c8, hf⟩ := of_zb hf
      refine ai_callV (as := [.int (iv (wr32 (p1 - 1))), .int (iv (wr32 (p2 - (wr32 (w5 * p1))))), .int (iv p3)]) (d' := (303 + n)) (q := ("SinglesUpModel", zT9, 51)) mo_X_fillsFirst lk_X_380 h_o0 rfl rfl rfl ⟨by show 303 + n + 1 ≤ 303 + (n + 1); omega, by show 8 + (7 + 11) + 40 * (303 + n) ≤ 40 * (303 + (n + 1)); omega⟩ rfl rfl (by decide) d_X_fillsFirst_86 (ihg o0 (wr32 (p1 - 1)) (wr32 (p2 - (wr32 (w5 * p1)))) p3 I5 h_I5 h_o0 (wr32_in _) (wr32_in _) h_p3 _ c8) (fun h_y6 h_I7 => ?_)
      refine aw_istore (lv2 := [.ref o0, .int (iv p1), .int (iv p2), .int (iv p3), uu, .int (iv w5), .int (iv y6)]) (Nat.le_of_ble_eq_true rfl) rfl d_X_fillsFirst_89 (aw_aload_n rfl rfl d_X_fillsFirst_91 (aw_getr (r := o0 + 19) fl_X_75 h_o0 (by decide) rfl (rm_9_42 _ h_o0).1 d_X_fillsFirst_92 (aw_iload_n rfl rfl d_X_fillsFirst_95 (aw_dup2 rfl rfl d_X_fillsFirst_96 ?_))))
      refine ai_iald (rm_9_42 _ h_o0).2 rfl h_p1 hf d_X_fillsFirst_97 (fun _ hf => ?_)
      refine aw_iload rfl d_X_fillsFirst_98 (ai_iadd d_X_fillsFirst_100 ?_)
      refine ai_iast (rm_9_42 _ h_o0).2 rfl h_p1 (wr32_in _) h_I7 hf d_X_fillsFirst_101 (fun _ I9 h_I9 hf => ?_)
      refine aw_iload rfl d_X_fillsFirst_102 ?_
      refine ai_if_eq h_y6 hf (tgt := 109) (by decide) d_X_fillsFirst_104 (fun hf => ?_) (fun hf => ?_)
      · refine aw_aload_n rfl rfl d_X_fillsFirst_109 (aw_getr (r := o0 + 21) fl_X_81 h_o0 (by decide) rfl (rm_9_44 _ h_o0).1 d_X_fillsFirst_110 (aw_iload_n rfl rfl d_X_fillsFirst_113 (aw_dup2 rfl rfl d_X_fillsFirst_114 ?_)))
        refine ai_iald (rm_9_44 _ h_o0).2 rfl h_p1 hf d_X_fillsFirst_115 (fun _ hf => ?_)
        refine aw_iload rfl d_X_fillsFirst_116 (ai_isub d_X_fillsFirst_118 ?_)
        refine ai_iast (rm_9_44 _ h_o0).2 rfl h_p1 (wr32_in _) h_I9 hf d_X_fillsFirst_119 (fun _ I10 h_I10 hf => ?_)
        refine ai_iinc (n := (-1)) (lv2 := fun x11 => [.ref o0, .int (iv p1), .int (iv p2), .int (iv p3), uu, .int (iv x11), .int (iv y6)]) hf rfl (Nat.le_of_ble_eq_true rfl) (fun _ => rfl) d_X_fillsFirst_120 (fun x11 h_x11 hf => ?_)
        refine aw_goto (tgt := 48) (by decide) d_X_fillsFirst_123 ?_
        refine aw_weakB (lv2 := [.ref o0, .int (iv p1), .int (iv p2), .int (iv p3), uu, .int (iv x11), uu]) (wk_s (wk_s (wk_s (wk_s (wk_u (wk_s (wk_u wk_n))))))) ?_
        exact ih x11 I10 h_x11 h_I10 hf
      · refine aw_iconst (v := iv 1) rfl d_X_fillsFirst_107 ?_
        exact ai_retn rfl (nar_z (Or.inr rfl)) d_X_fillsFirst_108 hf in_1 h_I9
set_option maxRecDepth 20000 in
theorem t_gXF (fu : Nat) : ∀ n : Nat, (∀ (o0 : Nat) (a1 : Int) (a2 : Int) (a3 : Int) (I0 : IMem), RG I0 → KM[o0]? = some (12, 51) → inr a1 → inr a2 → inr a3 → ∀ (r : Int × IMem), (gXF fu n) o0 a1 a2 a3 I0 = some r → Ss l b (303 + n) y_X_fillsFirst KM RM [.ref o0, .int (iv a1), .int (iv a2), .int (iv a3)] (ivm I0) (Ps r)) := by
  intro n
  induction n with
  | zero => exact (fun o0 a1 a2 a3 I0 _ _ _ _ _ r hf => by cases hf)
  | succ n ihg =>
    · intro o0 a1 a2 a3 I0 hI h_o0 h_a1 h_a2 h_a3 r hf
      replace hf : fb_X_fillsFirst fu (gXF fu n) o0 a1 a2 a3 I0 = some r := hf
      unfold fb_X_fillsFirst at hf
      refine Ss.of (show Ai l b (303 + (n + 1)) y_X_fillsFirst KM RM (Ps r) I0 0 [.ref o0, .int (iv a1), .int (iv a2), .int (iv a3), uu, uu, uu] [] from ?_)
      refine aw_iload_n rfl rfl d_X_fillsFirst_0 ?_
      refine ai_if_ne h_a1 hf (tgt := 18) (by decide) d_X_fillsFirst_1 (fun hf => ?_) (fun hf => ?_)
      · refine aw_iload_n rfl rfl d_X_fillsFirst_18 (aw_iload_n rfl rfl d_X_fillsFirst_19 ?_)
        refine ai_idiv h_a1 hf d_X_fillsFirst_20 (fun _ hf => ?_)
        refine aw_aload_n rfl rfl d_X_fillsFirst_21 (aw_getr (r := o0 + 19) fl_X_75 h_o0 (by decide) rfl (rm_9_42 _ h_o0).1 d_X_fillsFirst_22 (aw_iload_n rfl rfl d_X_fillsFirst_25 ?_))
        refine ai_iald (rm_9_42 _ h_o0).2 rfl h_a1 hf d_X_fillsFirst_26 (fun _ hf => ?_)
        obtain ⟨k1, ek1, hf⟩ := of_zj hf
        have hk1 : ∀ (x3 : Int) (I2 : IMem), inr x3 → RG I2 → k1 x3 I2 = some r → Ai l b (303 + (n + 1)) y_X_fillsFirst KM RM (Ps r) I2 42 [.ref o0, .int (iv a1), .int (iv a2), .int (iv a3), uu, uu, uu] [.int (iv x3)] := by
          intro x3 I2 h_x3 h_I2 hf
          subst ek1
          refine aw_istore (lv2 := [.ref o0, .int (iv a1), .int (iv a2), .int (iv a3), .int (iv x3), uu, uu]) (Nat.le_of_ble_eq_true rfl) rfl d_X_fillsFirst_42 (aw_iload rfl d_X_fillsFirst_44 (aw_istore (lv2 := [.ref o0, .int (iv a1), .int (iv a2), .int (iv a3), .int (iv x3), .int (iv x3), uu]) (Nat.le_of_ble_eq_true rfl) rfl d_X_fillsFirst_46 ?_))
          refine aw_weakB (lv2 := [.ref o0, .int (iv a1), .int (iv a2), .int (iv a3), uu, .int (iv x3), uu]) (wk_s (wk_s (wk_s (wk_s (wk_u (wk_s (wk_u wk_n))))))) ?_
          refine t_X_fillsFirst_48 fu n ihg o0 a1 a2 a3 h_o0 h_a1 h_a2 h_a3 fu x3 I2 h_x3 h_I2 hf
        refine ai_icmp_ge (wdiv_in _ _) (hI (o0 + 19) a1.toNat) hf (tgt := 36) (by decide) d_X_fillsFirst_27 (fun hf => ?_) (fun hf => ?_)
        · refine aw_aload_n rfl rfl d_X_fillsFirst_36 (aw_getr (r := o0 + 19) fl_X_75 h_o0 (by decide) rfl (rm_9_42 _ h_o0).1 d_X_fillsFirst_37 (aw_iload_n rfl rfl d_X_fillsFirst_40 ?_))
          refine ai_iald (rm_9_42 _ h_o0).2 rfl h_a1 hf d_X_fillsFirst_41 (fun _ hf => ?_)
          exact hk1 (I0 (o0 + 19) a1.toNat) I0 (hI (o0 + 19) a1.toNat) hI hf
        · refine aw_iload_n rfl rfl d_X_fillsFirst_30 (aw_iload_n rfl rfl d_X_fillsFirst_31 ?_)
          refine ai_idiv h_a1 hf d_X_fillsFirst_32 (fun _ hf => ?_)
          refine aw_goto (tgt := 42) (by decide) d_X_fillsFirst_33 ?_
          exact hk1 (wdiv a2 a1) I0 (wdiv_in _ _) hI hf
      · refine aw_aload_n rfl rfl d_X_fillsFirst_4 ?_
        obtain ⟨y12, I13, c14, hf⟩ := of_zb hf
        refine ai_callV (as := []) (d' := 302) (q := ("SinglesUpModel", zT9, 51)) mo_X_needs lk_X_377 h_o0 rfl rfl rfl ⟨by show 302 + 1 ≤ 303 + (n + 1); omega, by show 8 + (4 + 11) + 40 * 302 ≤ 40 * (303 + (n + 1)); omega⟩ rfl rfl (by decide) d_X_fillsFirst_5 (t_X_needs fu o0 I0 hI h_o0 c14) (fun h_y12 h_I13 => ?_)
        refine aw_iload_n rfl rfl d_X_fillsFirst_8 ?_
        refine ai_icmp_ne h_y12 h_a3 hf (tgt := 16) (by decide) d_X_fillsFirst_9 (fun hf => ?_) (fun hf => ?_)
        · refine aw_iconst (v := iv 0) rfl d_X_fillsFirst_16 ?_
          exact ai_retn rfl (nar_z (Or.inl rfl)) d_X_fillsFirst_17 hf in_0 h_I13
        · refine aw_iconst (v := iv 1) rfl d_X_fillsFirst_12 (aw_goto (tgt := 17) (by decide) d_X_fillsFirst_13 ?_)
          exact ai_retn rfl (nar_z (Or.inr rfl)) d_X_fillsFirst_17 hf in_1 h_I13
set_option maxRecDepth 20000 in
theorem t_X_fillsFirst (fu : Nat) (o0 : Nat) (a1 : Int) (a2 : Int) (a3 : Int) (I0 : IMem) (hI : RG I0) (h_o0 : KM[o0]? = some (12, 51)) (h_a1 : inr a1) (h_a2 : inr a2) (h_a3 : inr a3) {r : Int × IMem} (hf : f_X_fillsFirst fu o0 a1 a2 a3 I0 = some r) : Ss l b 323 y_X_fillsFirst KM RM [.ref o0, .int (iv a1), .int (iv a2), .int (iv a3)] (ivm I0) (Ps r) := (t_gXF fu 20) o0 a1 a2 a3 I0 hI h_o0 h_a1 h_a2 h_a3 r hf
set_option maxRecDepth 20000 in
theorem t_X_fewest_16 (fu : Nat) {r : Int × IMem} (k_89 : Int → IMem → Res) (o0 : Nat) (p1 : Int) (h_o0 : KM[o0]? = some (12, 51)) (h_p1 : inr p1) (hk_89 : ∀ (z2 : Int) (I9 : IMem), inr z2 → RG I9 → k_89 z2 I9 = some r → Ai l b 324 y_X_fewest KM RM (Ps r) I9 89 [.ref o0, .int (iv p1), .int (iv z2), uu, uu, uu] []) : ∀ (m : Nat) (w2 : Int) (w3 : Int) (I0 : IMem), inr w2 → inr w3 → RG I0 → f_X_fewest_16 fu k_89 o0 p1 m w2 w3 I0 = some r → Ai l b 324 y_X_fewest KM RM (Ps r) I0 16 [.ref o0, .int (iv p1), .int (iv w2), .int (iv w3), uu, uu] [] := by
  intro m
  induction m with
  | zero => intro w2 w3 I0 h_w2 h_w3 h_I0 hf; cases hf
  | succ m ih =>
    intro w2 w3 I0 h_w2 h_w3 h_I0 hf
    replace hf : fb_X_fewest_16 fu k_89 o0 p1 (f_X_fewest_16 fu k_89 o0 p1 m) w2 w3 I0 = some r := hf
    unfold fb_X_fewest_16 at hf
    refine aw_iload_n rfl rfl d_X_fewest_16 (aw_bipush (v := iv 8) cb_8 d_X_fewest_17 ?_)
    refine ai_icmp_gt h_w3 in_8 hf (tgt := 89) (by decide) d_X_fewest_19 (fun hf => ?_) (fun hf => ?_)
    · refine aw_weakB (lv2 := [.ref o0, .int (iv p1), .int (iv w2), uu, uu, uu]) (wk_s (wk_s (wk_s (wk_u (wk_u (wk_u wk_n)))))) ?_
      exact hk_89 w2 I0 h_w2 h_I0 hf
    · refine aw_aload_n rfl rfl d_X_fewest_22 (aw_getr (r := o0 + 19) fl_X_75 h_o0 (by decide) rfl (rm_9_42 _ h_o0).1 d_X_fewest_23 (aw_iload_n rfl rfl d_X_fewest_26 (aw_aload_n rfl rfl d_X_fewest_27 (aw_getr (r := o0 + 1) fl_X_7 h_o0 (by decide) rfl (rm_9_0 _ h_o0).1 d_X_fewest_28 (aw_bipush (v := iv 60) cb_60 d_X_fewest_31 (aw_iload_n rfl rfl d_X_fewest_33 (ai_iadd d_X_fewest_34 ?_)))))))
      refine ai_name hf (wr32_in _) (fun x4 h_x4 hf => ?_)
      refine ai_iald (rm_9_0 _ h_o0).2 rfl h_x4 hf d_X_fewest_35 (fun _ hf => ?_)
      refine ai_iast (rm_9_42 _ h_o0).2 rfl h_w3 (h_I0 (o0 + 1) x4.toNat) h_I0 hf d_X_fewest_36 (fun _ I5 h_I5 hf => ?_)
      refine aw_aload_n rfl rfl d_X_fewest_37 (aw_getr (r := o0 + 21) fl_X_81 h_o0 (by decide) rfl (rm_9_44 _ h_o0).1 d_X_fewest_38 (aw_iload_n rfl rfl d_X_fewest_41 (aw_iconst (v := iv 0) rfl d_X_fewest_42 ?_)))
      refine ai_iast (rm_9_44 _ h_o0).2 rfl h_w3 in_0 h_I5 hf d_X_fewest_43 (fun _ I6 h_I6 hf => ?_)
      refine aw_aload_n rfl rfl d_X_fewest_44 (aw_getr (r := o0 + 20) fl_X_78 h_o0 (by decide) rfl (rm_9_43 _ h_o0).1 d_X_fewest_45 (aw_iload_n rfl rfl d_X_fewest_48 (aw_iload_n rfl rfl d_X_fewest_49 ?_)))
      refine ai_iast (rm_9_43 _ h_o0).2 rfl h_w3 h_w2 h_I6 hf d_X_fewest_50 (fun _ I7 h_I7 hf => ?_)
      refine aw_iload_n rfl rfl d_X_fewest_51 (aw_aload_n rfl rfl d_X_fewest_52 (aw_getr (r := o0 + 19) fl_X_75 h_o0 (by decide) rfl (rm_9_42 _ h_o0).1 d_X_fewest_53 (aw_iload_n rfl rfl d_X_fewest_56 ?_)))
      refine ai_iald (rm_9_42 _ h_o0).2 rfl h_w3 hf d_X_fewest_57 (fun _ hf => ?_)
      refine aw_iconst (v := iv 1) rfl d_X_fewest_58 (ai_iadd d_X_fewest_59 (ai_imul d_X_fewest_60 ?_))
      refine ai_name hf (wr32_in _) (fun x8 h_x8 hf => ?_)
      refine aw_istore_n (lv2 := [.ref o0, .int (iv p1), .int (iv x8), .int (iv w3), uu, uu]) rfl (Nat.le_of_ble_eq_true rfl) rfl d_X_fewest_61 ?_
      refine aw_aload_n rfl rfl d_X_fewest_62 (aw_getr (r := o0 + 19) fl_X_75 h_o0 (by decide) rfl (rm_9_42 _ h_o0).1 d_X_fewest_63 (aw_iload_n rfl rfl d_X_fewest_66 ?_))
      refine ai_iald (rm_9_42 _ h_o0).2 rfl h_w3 hf d_X_fewest_67 (fun _ hf => ?_)
      obtain ⟨k9, ek9, hf⟩ := of_zj hf
      have hk9 : ∀  (I10 : IMem), RG I10 → k9 I10 = some r → Ai l b 324 y_X_fewest KM RM (Ps r) I10 83 [.ref o0, .int (iv p1), .int (iv x8), .int (iv w3), uu, uu] [] := by
        intro I10 h_I10 hf
        subst ek9
        refine ai_iinc (n := 1) (lv2 := fun x11 => [.ref o0, .int (iv p1), .int (iv x8), .int (iv x11), uu, uu]) hf rfl (Nat.le_of_ble_eq_true rfl) (fun _ => rfl) d_X_fewest_83 (fun x11 h_x11 hf => ?_)
        refine aw_goto (tgt := 16) (by decide) d_X_fewest_86 ?_
        exact ih x8 x11 I10 h_x8 h_x11 h_I10 hf
      refine ai_if_le (h_I7 (o0 + 19) w3.toNat) hf (tgt := 83) (by decide) d_X_fewest_68 (fun hf => ?_) (fun hf => ?_)
      · exact hk9 I7 h_I7 hf
      · refine aw_iload_n rfl rfl d_X_fewest_71 (aw_aload_n rfl rfl d_X_fewest_72 (aw_getr (r := o0 + 1) fl_X_7 h_o0 (by decide) rfl (rm_9_0 _ h_o0).1 d_X_fewest_73 (aw_iconst (v := iv 1) rfl d_X_fewest_76 (ai_ialdc (j := 1) (rm_9_0 _ h_o0).2 (by decide) (by decide) d_X_fewest_77 ?_))))
        refine ai_icmp_le h_w3 (h_I7 (o0 + 1) 1) hf (tgt := 83) (by decide) d_X_fewest_78 (fun hf => ?_) (fun hf => ?_)
        · exact hk9 I7 h_I7 hf
        · refine aw_iconst (v := iv (-1)) rfl d_X_fewest_81 ?_
          exact ai_reti rfl d_X_fewest_82 hf in_m1 h_I7
set_option maxRecDepth 20000 in
theorem t_X_fewest_91 (fu : Nat) {r : Int × IMem} (k_109 : IMem → Res) (o0 : Nat) (p1 : Int) (p2 : Int) (h_o0 : KM[o0]? = some (12, 51)) (h_p1 : inr p1) (h_p2 : inr p2) (hk_109 : ∀ (I9 : IMem), RG I9 → k_109 I9 = some r → Ai l b 324 y_X_fewest KM RM (Ps r) I9 109 [.ref o0, .int (iv p1), uu, uu, uu, uu] []) : ∀ (m : Nat) (w3 : Int) (I0 : IMem), inr w3 → RG I0 → f_X_fewest_91 fu k_109 o0 p1 p2 m w3 I0 = some r → Ai l b 324 y_X_fewest KM RM (Ps r) I0 91 [.ref o0, .int (iv p1), .int (iv p2), .int (iv w3), uu, uu] [] := by
  intro m
  induction m with
  | zero => intro w3 I0 h_w3 h_I0 hf; cases hf
  | succ m ih =>
    intro w3 I0 h_w3 h_I0 hf
    replace hf : fb_X_fewest_91 fu k_109 o0 p1 p2 (f_X_fewest_91 fu k_109 o0 p1 p2 m) w3 I0 = some r := hf
    unfold fb_X_fewest_91 at hf
    refine aw_iload_n rfl rfl d_X_fewest_91 (aw_iload_n rfl rfl d_X_fewest_92 ?_)
    refine ai_icmp_ge h_w3 h_p2 hf (tgt := 109) (by decide) d_X_fewest_93 (fun hf => ?_) (fun hf => ?_)
    · refine aw_weakB (lv2 := [.ref o0, .int (iv p1), uu, uu, uu, uu]) (wk_s (wk_s (wk_u (wk_u (wk_u (wk_u wk_n)))))) ?_
      exact hk_109 I0 h_I0 hf
    · refine aw_aload_n rfl rfl d_X_fewest_96 (aw_getr (r := o0 + 18) fl_X_72 h_o0 (by decide) rfl (rm_9_41 _ h_o0).1 d_X_fewest_97 (aw_iload_n rfl rfl d_X_fewest_100 (aw_iconst (v := iv (-1)) rfl d_X_fewest_101 ?_)))
      refine ai_iast (rm_9_41 _ h_o0).2 rfl h_w3 in_m1 h_I0 hf d_X_fewest_102 (fun _ I14 h_I14 hf => ?_)
      refine ai_iinc (n := 1) (lv2 := fun x15 => [.ref o0, .int (iv p1), .int (iv p2), .int (iv x15), uu, uu]) hf rfl (Nat.le_of_ble_eq_true rfl) (fun _ => rfl) d_X_fewest_103 (fun x15 h_x15 hf => ?_)
      refine aw_goto (tgt := 91) (by decide) d_X_fewest_106 ?_
      exact ih x15 I14 h_x15 h_I14 hf
set_option maxRecDepth 20000 in
theorem t_X_fewest (fu : Nat) (o0 : Nat) (a1 : Int) (I0 : IMem) (hI : RG I0) (h_o0 : KM[o0]? = some (12, 51)) (h_a1 : inr a1) {r : Int × IMem} (hf : f_X_fewest fu o0 a1 I0 = some r) : Ss l b 324 y_X_fewest KM RM [.ref o0, .int (iv a1)] (ivm I0) (Ps r) := by
  unfold f_X_fewest at hf
  refine Ss.of (show Ai l b 324 y_X_fewest KM RM (Ps r) I0 0 [.ref o0, .int (iv a1), uu, uu, uu, uu] [] from ?_)
  refine aw_iload_n rfl rfl d_X_fewest_0 (aw_iconst (v := iv 0) rfl d_X_fewest_1 (aw_bipush (v := iv 8) cb_8 d_X_fewest_2 ?_))
  obtain ⟨y1, I2, c3, hf⟩ := of_zb hf
  refine ai_callS (as := [.int (iv a1), .int (iv 0), .int (iv 8)]) (d' := 1) mo_X_isIn lk_X_98 rfl ⟨by decide, by decide⟩ rfl rfl (by decide) d_X_fewest_4 (t_X_isIn fu a1 0 8 I0 hI h_a1 in_0 in_8 c3) (fun h_y1 h_I2 => ?_)
  refine ai_if_ne h_y1 hf (tgt := 12) (by decide) d_X_fewest_7 (fun hf => ?_) (fun hf => ?_)
  · refine aw_iconst (v := iv 1) rfl d_X_fewest_12 (aw_istore_n (lv2 := [.ref o0, .int (iv a1), .int (iv 1), uu, uu, uu]) rfl (Nat.le_of_ble_eq_true rfl) rfl d_X_fewest_13 (aw_iconst (v := iv 1) rfl d_X_fewest_14 (aw_istore_n (lv2 := [.ref o0, .int (iv a1), .int (iv 1), .int (iv 1), uu, uu]) rfl (Nat.le_of_ble_eq_true rfl) rfl d_X_fewest_15 ?_)))
    refine t_X_fewest_16 fu _ o0 a1 h_o0 h_a1 ?_ fu 1 1 I2 in_1 in_1 h_I2 hf
    · intro x13 I12 h_x13 h_I12 hf
      refine aw_iconst (v := iv 0) rfl d_X_fewest_89 (aw_istore_n (lv2 := [.ref o0, .int (iv a1), .int (iv x13), .int (iv 0), uu, uu]) rfl (Nat.le_of_ble_eq_true rfl) rfl d_X_fewest_90 ?_)
      refine t_X_fewest_91 fu _ o0 a1 x13 h_o0 h_a1 h_x13 ?_ fu 0 I12 in_0 h_I12 hf
      · intro I16 h_I16 hf
        refine aw_aload_n rfl rfl d_X_fewest_109 ?_
        obtain ⟨y17, I18, c19, hf⟩ := of_zb hf
        refine ai_callV (as := []) (d' := 302) (q := ("SinglesUpModel", zT9, 51)) mo_X_needs lk_X_377 h_o0 rfl rfl rfl ⟨by decide, by decide⟩ rfl rfl (by decide) d_X_fewest_110 (t_X_needs fu o0 I16 h_I16 h_o0 c19) (fun h_y17 h_I18 => ?_)
        refine aw_istore_n (lv2 := [.ref o0, .int (iv a1), uu, .int (iv y17), uu, uu]) rfl (Nat.le_of_ble_eq_true rfl) rfl d_X_fewest_113 (aw_iload_n rfl rfl d_X_fewest_114 ?_)
        refine ai_if_eq h_a1 hf (tgt := 122) (by decide) d_X_fewest_115 (fun hf => ?_) (fun hf => ?_)
        · refine aw_iload_n rfl rfl d_X_fewest_122 ?_
          exact ai_reti rfl d_X_fewest_123 hf h_y17 h_I18
        · refine aw_iload_n rfl rfl d_X_fewest_118 ?_
          refine ai_if_ne h_y17 hf (tgt := 124) (by decide) d_X_fewest_119 (fun hf => ?_) (fun hf => ?_)
          · refine aw_aload_n rfl rfl d_X_fewest_124 ?_
            obtain ⟨y20, I21, c22, hf⟩ := of_zb hf
            refine ai_callV (as := []) (d' := 1) (q := ("SinglesUpModel", zT9, 51)) mo_X_greatest lk_X_368 h_o0 rfl rfl rfl ⟨by decide, by decide⟩ rfl rfl (by decide) d_X_fewest_125 (t_X_greatest fu o0 I18 h_I18 h_o0 c22) (fun h_y20 h_I21 => ?_)
            refine aw_istore (lv2 := [.ref o0, .int (iv a1), uu, .int (iv y17), .int (iv y20), uu]) (Nat.le_of_ble_eq_true rfl) rfl d_X_fewest_128 (aw_aload_n rfl rfl d_X_fewest_130 (aw_getr (r := o0 + 19) fl_X_75 h_o0 (by decide) rfl (rm_9_42 _ h_o0).1 d_X_fewest_131 (aw_iload rfl d_X_fewest_134 (aw_dup2 rfl rfl d_X_fewest_136 ?_))))
            refine ai_iald (rm_9_42 _ h_o0).2 rfl h_y20 hf d_X_fewest_137 (fun _ hf => ?_)
            refine aw_iconst (v := iv 1) rfl d_X_fewest_138 (ai_isub d_X_fewest_139 ?_)
            refine ai_iast (rm_9_42 _ h_o0).2 rfl h_y20 (wr32_in _) h_I21 hf d_X_fewest_140 (fun _ I23 h_I23 hf => ?_)
            refine aw_aload_n rfl rfl d_X_fewest_141 (aw_getr (r := o0 + 21) fl_X_81 h_o0 (by decide) rfl (rm_9_44 _ h_o0).1 d_X_fewest_142 (aw_iload rfl d_X_fewest_145 (aw_iconst (v := iv 1) rfl d_X_fewest_147 ?_)))
            refine ai_iast (rm_9_44 _ h_o0).2 rfl h_y20 in_1 h_I23 hf d_X_fewest_148 (fun _ I24 h_I24 hf => ?_)
            refine aw_aload_n rfl rfl d_X_fewest_149 (aw_iload rfl d_X_fewest_150 (aw_aload_n rfl rfl d_X_fewest_152 (aw_getr (r := o0 + 1) fl_X_7 h_o0 (by decide) rfl (rm_9_0 _ h_o0).1 d_X_fewest_153 (aw_iconst (v := iv 1) rfl d_X_fewest_156 (ai_ialdc (j := 1) (rm_9_0 _ h_o0).2 (by decide) (by decide) d_X_fewest_157 (aw_iload rfl d_X_fewest_158 (ai_isub d_X_fewest_160 (aw_iload_n rfl rfl d_X_fewest_161 (aw_iconst (v := iv 1) rfl d_X_fewest_162 (ai_isub d_X_fewest_163 ?_))))))))))
            obtain ⟨y25, I26, c27, hf⟩ := of_zb hf
            refine ai_callV (as := [.int (iv y20), .int (iv (wr32 ((I24 (o0 + 1) 1) - y20))), .int (iv (wr32 (y17 - 1)))]) (d' := 323) (q := ("SinglesUpModel", zT9, 51)) mo_X_fillsFirst lk_X_380 h_o0 rfl rfl rfl ⟨by decide, by decide⟩ rfl rfl (by decide) d_X_fewest_164 (t_X_fillsFirst fu o0 y20 (wr32 ((I24 (o0 + 1) 1) - y20)) (wr32 (y17 - 1)) I24 h_I24 h_o0 h_y20 (wr32_in _) (wr32_in _) c27) (fun h_y25 h_I26 => ?_)
            refine aw_istore (lv2 := [.ref o0, .int (iv a1), uu, .int (iv y17), .int (iv y20), .int (iv y25)]) (Nat.le_of_ble_eq_true rfl) rfl d_X_fewest_167 (aw_iload rfl d_X_fewest_169 ?_)
            refine ai_if_eq h_y25 hf (tgt := 183) (by decide) d_X_fewest_171 (fun hf => ?_) (fun hf => ?_)
            · refine aw_iconst (v := iv (-1)) rfl d_X_fewest_183 ?_
              exact ai_reti rfl d_X_fewest_184 hf in_m1 h_I26
            · refine aw_aload_n rfl rfl d_X_fewest_174 (aw_getr (r := o0 + 21) fl_X_81 h_o0 (by decide) rfl (rm_9_44 _ h_o0).1 d_X_fewest_175 (aw_iload_n rfl rfl d_X_fewest_178 ?_))
              refine ai_iald (rm_9_44 _ h_o0).2 rfl h_a1 hf d_X_fewest_179 (fun _ hf => ?_)
              refine aw_goto (tgt := 184) (by decide) d_X_fewest_180 ?_
              exact ai_reti rfl d_X_fewest_184 hf (h_I26 (o0 + 21) a1.toNat) h_I26
          · refine aw_iload_n rfl rfl d_X_fewest_122 ?_
            exact ai_reti rfl d_X_fewest_123 hf h_y17 h_I18
  · refine aw_iconst (v := iv (-1)) rfl d_X_fewest_10 ?_
    exact ai_reti rfl d_X_fewest_11 hf in_m1 h_I2
set_option maxRecDepth 20000 in
theorem t_X_comesBack_2 (fu : Nat) {r : Int × IMem} (k_27 : IMem → Res) (o0 : Nat) (h_o0 : KM[o0]? = some (12, 51)) (hk_27 : ∀ (I9 : IMem), RG I9 → k_27 I9 = some r → Ai l b 1 y_X_comesBack KM RM (Pv r) I9 27 [.ref o0, uu] []) : ∀ (m : Nat) (w1 : Int) (I0 : IMem), inr w1 → RG I0 → f_X_comesBack_2 fu k_27 o0 m w1 I0 = some r → Ai l b 1 y_X_comesBack KM RM (Pv r) I0 2 [.ref o0, .int (iv w1)] [] := by
  intro m
  induction m with
  | zero => intro w1 I0 h_w1 h_I0 hf; cases hf
  | succ m ih =>
    intro w1 I0 h_w1 h_I0 hf
    replace hf : fb_X_comesBack_2 fu k_27 o0 (f_X_comesBack_2 fu k_27 o0 m) w1 I0 = some r := hf
    unfold fb_X_comesBack_2 at hf
    refine aw_iload_n rfl rfl d_X_comesBack_2 (aw_sipush (v := iv 6190) cs_6190 d_X_comesBack_3 ?_)
    refine ai_icmp_ge h_w1 in_6190 hf (tgt := 27) (by decide) d_X_comesBack_6 (fun hf => ?_) (fun hf => ?_)
    · refine aw_weakB (lv2 := [.ref o0, uu]) (wk_s (wk_u wk_n)) ?_
      exact hk_27 I0 h_I0 hf
    · refine aw_aload_n rfl rfl d_X_comesBack_9 (aw_getr (r := o0 + 1) fl_X_7 h_o0 (by decide) rfl (rm_9_0 _ h_o0).1 d_X_comesBack_10 (aw_iload_n rfl rfl d_X_comesBack_13 (aw_aload_n rfl rfl d_X_comesBack_14 (aw_getr (r := o0 + 3) fl_X_16 h_o0 (by decide) rfl (rm_9_2 _ h_o0).1 d_X_comesBack_15 (aw_iload_n rfl rfl d_X_comesBack_18 ?_)))))
      refine ai_iald (rm_9_2 _ h_o0).2 rfl h_w1 hf d_X_comesBack_19 (fun _ hf => ?_)
      refine ai_iast (rm_9_0 _ h_o0).2 rfl h_w1 (h_I0 (o0 + 3) w1.toNat) h_I0 hf d_X_comesBack_20 (fun _ I1 h_I1 hf => ?_)
      refine ai_iinc (n := 1) (lv2 := fun x2 => [.ref o0, .int (iv x2)]) hf rfl (Nat.le_of_ble_eq_true rfl) (fun _ => rfl) d_X_comesBack_21 (fun x2 h_x2 hf => ?_)
      refine aw_goto (tgt := 2) (by decide) d_X_comesBack_24 ?_
      exact ih x2 I1 h_x2 h_I1 hf
set_option maxRecDepth 20000 in
theorem t_X_comesBack_29 (fu : Nat) {r : Int × IMem} (k_54 : IMem → Res) (o0 : Nat) (h_o0 : KM[o0]? = some (12, 51)) (hk_54 : ∀ (I9 : IMem), RG I9 → k_54 I9 = some r → Ai l b 1 y_X_comesBack KM RM (Pv r) I9 54 [.ref o0, uu] []) : ∀ (m : Nat) (w1 : Int) (I0 : IMem), inr w1 → RG I0 → f_X_comesBack_29 fu k_54 o0 m w1 I0 = some r → Ai l b 1 y_X_comesBack KM RM (Pv r) I0 29 [.ref o0, .int (iv w1)] [] := by
  intro m
  induction m with
  | zero => intro w1 I0 h_w1 h_I0 hf; cases hf
  | succ m ih =>
    intro w1 I0 h_w1 h_I0 hf
    replace hf : fb_X_comesBack_29 fu k_54 o0 (f_X_comesBack_29 fu k_54 o0 m) w1 I0 = some r := hf
    unfold fb_X_comesBack_29 at hf
    refine aw_iload_n rfl rfl d_X_comesBack_29 (aw_sipush (v := iv 240) cs_240 d_X_comesBack_30 ?_)
    refine ai_icmp_ge h_w1 in_240 hf (tgt := 54) (by decide) d_X_comesBack_33 (fun hf => ?_) (fun hf => ?_)
    · refine aw_weakB (lv2 := [.ref o0, uu]) (wk_s (wk_u wk_n)) ?_
      exact hk_54 I0 h_I0 hf
    · refine aw_aload_n rfl rfl d_X_comesBack_36 (aw_getr (r := o0 + 13) fl_X_57 h_o0 (by decide) rfl (rm_9_29 _ h_o0).1 d_X_comesBack_37 (aw_iload_n rfl rfl d_X_comesBack_40 (aw_aload_n rfl rfl d_X_comesBack_41 (aw_getr (r := o0 + 23) fl_X_87 h_o0 (by decide) rfl (rm_9_47 _ h_o0).1 d_X_comesBack_42 (aw_iload_n rfl rfl d_X_comesBack_45 ?_)))))
      refine ai_zald (rm_9_47 _ h_o0).2 rfl h_w1 hf d_X_comesBack_46 (fun _ hf => ?_)
      obtain ⟨g5, hf⟩ := of_zg hf
      refine ai_zast g5 (rm_9_29 _ h_o0).2 rfl h_w1 (h_I0 (o0 + 23) w1.toNat) h_I0 hf d_X_comesBack_47 (fun _ I4 h_I4 hf => ?_)
      refine ai_iinc (n := 1) (lv2 := fun x6 => [.ref o0, .int (iv x6)]) hf rfl (Nat.le_of_ble_eq_true rfl) (fun _ => rfl) d_X_comesBack_48 (fun x6 h_x6 hf => ?_)
      refine aw_goto (tgt := 29) (by decide) d_X_comesBack_51 ?_
      exact ih x6 I4 h_x6 h_I4 hf
set_option maxRecDepth 20000 in
theorem t_X_comesBack_56 (fu : Nat) {r : Int × IMem} (k_80 : IMem → Res) (o0 : Nat) (h_o0 : KM[o0]? = some (12, 51)) (hk_80 : ∀ (I9 : IMem), RG I9 → k_80 I9 = some r → Ai l b 1 y_X_comesBack KM RM (Pv r) I9 80 [.ref o0, uu] []) : ∀ (m : Nat) (w1 : Int) (I0 : IMem), inr w1 → RG I0 → f_X_comesBack_56 fu k_80 o0 m w1 I0 = some r → Ai l b 1 y_X_comesBack KM RM (Pv r) I0 56 [.ref o0, .int (iv w1)] [] := by
  intro m
  induction m with
  | zero => intro w1 I0 h_w1 h_I0 hf; cases hf
  | succ m ih =>
    intro w1 I0 h_w1 h_I0 hf
    replace hf : fb_X_comesBack_56 fu k_80 o0 (f_X_comesBack_56 fu k_80 o0 m) w1 I0 = some r := hf
    unfold fb_X_comesBack_56 at hf
    refine aw_iload_n rfl rfl d_X_comesBack_56 (aw_bipush (v := iv 8) cb_8 d_X_comesBack_57 ?_)
    refine ai_icmp_ge h_w1 in_8 hf (tgt := 80) (by decide) d_X_comesBack_59 (fun hf => ?_) (fun hf => ?_)
    · refine aw_weakB (lv2 := [.ref o0, uu]) (wk_s (wk_u wk_n)) ?_
      exact hk_80 I0 h_I0 hf
    · refine aw_aload_n rfl rfl d_X_comesBack_62 (aw_getr (r := o0 + 15) fl_X_63 h_o0 (by decide) rfl (rm_9_37 _ h_o0).1 d_X_comesBack_63 (aw_iload_n rfl rfl d_X_comesBack_66 (aw_aload_n rfl rfl d_X_comesBack_67 (aw_getr (r := o0 + 24) fl_X_90 h_o0 (by decide) rfl (rm_9_48 _ h_o0).1 d_X_comesBack_68 (aw_iload_n rfl rfl d_X_comesBack_71 ?_)))))
      refine ai_iald (rm_9_48 _ h_o0).2 rfl h_w1 hf d_X_comesBack_72 (fun _ hf => ?_)
      refine ai_iast (rm_9_37 _ h_o0).2 rfl h_w1 (h_I0 (o0 + 24) w1.toNat) h_I0 hf d_X_comesBack_73 (fun _ I8 h_I8 hf => ?_)
      refine ai_iinc (n := 1) (lv2 := fun x9 => [.ref o0, .int (iv x9)]) hf rfl (Nat.le_of_ble_eq_true rfl) (fun _ => rfl) d_X_comesBack_74 (fun x9 h_x9 hf => ?_)
      refine aw_goto (tgt := 56) (by decide) d_X_comesBack_77 ?_
      exact ih x9 I8 h_x9 h_I8 hf
set_option maxRecDepth 20000 in
theorem t_X_comesBack (fu : Nat) (o0 : Nat) (I0 : IMem) (hI : RG I0) (h_o0 : KM[o0]? = some (12, 51)) {r : Int × IMem} (hf : f_X_comesBack fu o0 I0 = some r) : Ss l b 1 y_X_comesBack KM RM [.ref o0] (ivm I0) (Pv r) := by
  unfold f_X_comesBack at hf
  refine Ss.of (show Ai l b 1 y_X_comesBack KM RM (Pv r) I0 0 [.ref o0, uu] [] from ?_)
  refine aw_iconst (v := iv 0) rfl d_X_comesBack_0 (aw_istore_n (lv2 := [.ref o0, .int (iv 0)]) rfl (Nat.le_of_ble_eq_true rfl) rfl d_X_comesBack_1 ?_)
  refine t_X_comesBack_2 fu _ o0 h_o0 ?_ fu 0 I0 in_0 hI hf
  · intro I3 h_I3 hf
    refine aw_iconst (v := iv 0) rfl d_X_comesBack_27 (aw_istore_n (lv2 := [.ref o0, .int (iv 0)]) rfl (Nat.le_of_ble_eq_true rfl) rfl d_X_comesBack_28 ?_)
    refine t_X_comesBack_29 fu _ o0 h_o0 ?_ fu 0 I3 in_0 h_I3 hf
    · intro I7 h_I7 hf
      refine aw_iconst (v := iv 0) rfl d_X_comesBack_54 (aw_istore_n (lv2 := [.ref o0, .int (iv 0)]) rfl (Nat.le_of_ble_eq_true rfl) rfl d_X_comesBack_55 ?_)
      refine t_X_comesBack_56 fu _ o0 h_o0 ?_ fu 0 I7 in_0 h_I7 hf
      · intro I10 h_I10 hf
        refine aw_aload_n rfl rfl d_X_comesBack_80 (aw_aload_n rfl rfl d_X_comesBack_81 (ai_geti fl_X_383 h_o0 (by decide) rfl d_X_comesBack_82 ?_))
        refine ai_puti hf h_I10 (h_I10 o0 50) fl_X_344 h_o0 (by decide) rfl rfl rfl rfl d_X_comesBack_85 (fun I11 h_I11 hf => ?_)
        exact ai_retv rfl d_X_comesBack_88 hf h_I11
set_option maxRecDepth 20000 in
theorem t_X_longest_4 (fu : Nat) {r : Int × IMem} (o0 : Nat) (h_o0 : KM[o0]? = some (12, 51)) : ∀ (m : Nat) (w1 : Int) (w2 : Int) (I0 : IMem), inr w1 → inr w2 → RG I0 → f_X_longest_4 fu o0 m w1 w2 I0 = some r → Ai l b 1 y_X_longest KM RM (Ps r) I0 4 [.ref o0, .int (iv w1), .int (iv w2)] [] := by
  intro m
  induction m with
  | zero => intro w1 w2 I0 h_w1 h_w2 h_I0 hf; cases hf
  | succ m ih =>
    intro w1 w2 I0 h_w1 h_w2 h_I0 hf
    replace hf : fb_X_longest_4 fu o0 (f_X_longest_4 fu o0 m) w1 w2 I0 = some r := hf
    unfold fb_X_longest_4 at hf
    refine aw_iload_n rfl rfl d_X_longest_4 (aw_bipush (v := iv 8) cb_8 d_X_longest_5 ?_)
    refine ai_icmp_gt h_w2 in_8 hf (tgt := 43) (by decide) d_X_longest_7 (fun hf => ?_) (fun hf => ?_)
    · refine aw_iload_n rfl rfl d_X_longest_43 ?_
      exact ai_reti rfl d_X_longest_44 hf h_w1 h_I0
    · refine aw_aload_n rfl rfl d_X_longest_10 (aw_getr (r := o0 + 1) fl_X_7 h_o0 (by decide) rfl (rm_9_0 _ h_o0).1 d_X_longest_11 (aw_bipush (v := iv 100) cb_100 d_X_longest_14 (aw_iload_n rfl rfl d_X_longest_16 (ai_iadd d_X_longest_17 ?_))))
      refine ai_name hf (wr32_in _) (fun x1 h_x1 hf => ?_)
      refine ai_iald (rm_9_0 _ h_o0).2 rfl h_x1 hf d_X_longest_18 (fun _ hf => ?_)
      refine aw_iload_n rfl rfl d_X_longest_19 ?_
      obtain ⟨k2, ek2, hf⟩ := of_zj hf
      have hk2 : ∀ (x4 : Int) (I3 : IMem), inr x4 → RG I3 → k2 x4 I3 = some r → Ai l b 1 y_X_longest KM RM (Ps r) I3 36 [.ref o0, uu, .int (iv w2)] [.int (iv x4)] := by
        intro x4 I3 h_x4 h_I3 hf
        subst ek2
        refine aw_istore_n (lv2 := [.ref o0, .int (iv x4), .int (iv w2)]) rfl (Nat.le_of_ble_eq_true rfl) rfl d_X_longest_36 ?_
        refine ai_iinc (n := 1) (lv2 := fun x5 => [.ref o0, .int (iv x4), .int (iv x5)]) hf rfl (Nat.le_of_ble_eq_true rfl) (fun _ => rfl) d_X_longest_37 (fun x5 h_x5 hf => ?_)
        refine aw_goto (tgt := 4) (by decide) d_X_longest_40 ?_
        exact ih x4 x5 I3 h_x4 h_x5 h_I3 hf
      refine ai_icmp_le (h_I0 (o0 + 1) x1.toNat) h_w1 hf (tgt := 35) (by decide) d_X_longest_20 (fun hf => ?_) (fun hf => ?_)
      · refine aw_iload_n rfl rfl d_X_longest_35 ?_
        refine aw_weakB (lv2 := [.ref o0, uu, .int (iv w2)]) (wk_s (wk_u (wk_s wk_n))) ?_
        exact hk2 w1 I0 h_w1 h_I0 hf
      · refine aw_aload_n rfl rfl d_X_longest_23 (aw_getr (r := o0 + 1) fl_X_7 h_o0 (by decide) rfl (rm_9_0 _ h_o0).1 d_X_longest_24 (aw_bipush (v := iv 100) cb_100 d_X_longest_27 (aw_iload_n rfl rfl d_X_longest_29 (ai_iadd d_X_longest_30 ?_))))
        refine ai_name hf (wr32_in _) (fun x6 h_x6 hf => ?_)
        refine ai_iald (rm_9_0 _ h_o0).2 rfl h_x6 hf d_X_longest_31 (fun _ hf => ?_)
        refine aw_goto (tgt := 36) (by decide) d_X_longest_32 ?_
        refine aw_weakB (lv2 := [.ref o0, uu, .int (iv w2)]) (wk_s (wk_u (wk_s wk_n))) ?_
        exact hk2 (I0 (o0 + 1) x6.toNat) I0 (h_I0 (o0 + 1) x6.toNat) h_I0 hf
set_option maxRecDepth 20000 in
theorem t_X_longest (fu : Nat) (o0 : Nat) (I0 : IMem) (hI : RG I0) (h_o0 : KM[o0]? = some (12, 51)) {r : Int × IMem} (hf : f_X_longest fu o0 I0 = some r) : Ss l b 1 y_X_longest KM RM [.ref o0] (ivm I0) (Ps r) := by
  unfold f_X_longest at hf
  refine Ss.of (show Ai l b 1 y_X_longest KM RM (Ps r) I0 0 [.ref o0, uu, uu] [] from ?_)
  refine aw_iconst (v := iv 0) rfl d_X_longest_0 (aw_istore_n (lv2 := [.ref o0, .int (iv 0), uu]) rfl (Nat.le_of_ble_eq_true rfl) rfl d_X_longest_1 (aw_iconst (v := iv 1) rfl d_X_longest_2 (aw_istore_n (lv2 := [.ref o0, .int (iv 0), .int (iv 1)]) rfl (Nat.le_of_ble_eq_true rfl) rfl d_X_longest_3 ?_)))
  refine t_X_longest_4 fu o0 h_o0 fu 0 1 I0 in_0 in_1 hI hf
set_option maxRecDepth 20000 in
theorem t_X_setsOut_2 (fu : Nat) {r : Int × IMem} (k_27 : IMem → Res) (o0 : Nat) (h_o0 : KM[o0]? = some (12, 51)) (hk_27 : ∀ (I9 : IMem), RG I9 → k_27 I9 = some r → Ai l b 1 y_X_setsOut KM RM (Pv r) I9 27 [.ref o0, uu] []) : ∀ (m : Nat) (w1 : Int) (I0 : IMem), inr w1 → RG I0 → f_X_setsOut_2 fu k_27 o0 m w1 I0 = some r → Ai l b 1 y_X_setsOut KM RM (Pv r) I0 2 [.ref o0, .int (iv w1)] [] := by
  intro m
  induction m with
  | zero => intro w1 I0 h_w1 h_I0 hf; cases hf
  | succ m ih =>
    intro w1 I0 h_w1 h_I0 hf
    replace hf : fb_X_setsOut_2 fu k_27 o0 (f_X_setsOut_2 fu k_27 o0 m) w1 I0 = some r := hf
    unfold fb_X_setsOut_2 at hf
    refine aw_iload_n rfl rfl d_X_setsOut_2 (aw_sipush (v := iv 6190) cs_6190 d_X_setsOut_3 ?_)
    refine ai_icmp_ge h_w1 in_6190 hf (tgt := 27) (by decide) d_X_setsOut_6 (fun hf => ?_) (fun hf => ?_)
    · refine aw_weakB (lv2 := [.ref o0, uu]) (wk_s (wk_u wk_n)) ?_
      exact hk_27 I0 h_I0 hf
    · refine aw_aload_n rfl rfl d_X_setsOut_9 (aw_getr (r := o0 + 3) fl_X_16 h_o0 (by decide) rfl (rm_9_2 _ h_o0).1 d_X_setsOut_10 (aw_iload_n rfl rfl d_X_setsOut_13 (aw_aload_n rfl rfl d_X_setsOut_14 (aw_getr (r := o0 + 1) fl_X_7 h_o0 (by decide) rfl (rm_9_0 _ h_o0).1 d_X_setsOut_15 (aw_iload_n rfl rfl d_X_setsOut_18 ?_)))))
      refine ai_iald (rm_9_0 _ h_o0).2 rfl h_w1 hf d_X_setsOut_19 (fun _ hf => ?_)
      refine ai_iast (rm_9_2 _ h_o0).2 rfl h_w1 (h_I0 (o0 + 1) w1.toNat) h_I0 hf d_X_setsOut_20 (fun _ I1 h_I1 hf => ?_)
      refine ai_iinc (n := 1) (lv2 := fun x2 => [.ref o0, .int (iv x2)]) hf rfl (Nat.le_of_ble_eq_true rfl) (fun _ => rfl) d_X_setsOut_21 (fun x2 h_x2 hf => ?_)
      refine aw_goto (tgt := 2) (by decide) d_X_setsOut_24 ?_
      exact ih x2 I1 h_x2 h_I1 hf
set_option maxRecDepth 20000 in
theorem t_X_setsOut_29 (fu : Nat) {r : Int × IMem} (k_54 : IMem → Res) (o0 : Nat) (h_o0 : KM[o0]? = some (12, 51)) (hk_54 : ∀ (I9 : IMem), RG I9 → k_54 I9 = some r → Ai l b 1 y_X_setsOut KM RM (Pv r) I9 54 [.ref o0, uu] []) : ∀ (m : Nat) (w1 : Int) (I0 : IMem), inr w1 → RG I0 → f_X_setsOut_29 fu k_54 o0 m w1 I0 = some r → Ai l b 1 y_X_setsOut KM RM (Pv r) I0 29 [.ref o0, .int (iv w1)] [] := by
  intro m
  induction m with
  | zero => intro w1 I0 h_w1 h_I0 hf; cases hf
  | succ m ih =>
    intro w1 I0 h_w1 h_I0 hf
    replace hf : fb_X_setsOut_29 fu k_54 o0 (f_X_setsOut_29 fu k_54 o0 m) w1 I0 = some r := hf
    unfold fb_X_setsOut_29 at hf
    refine aw_iload_n rfl rfl d_X_setsOut_29 (aw_sipush (v := iv 240) cs_240 d_X_setsOut_30 ?_)
    refine ai_icmp_ge h_w1 in_240 hf (tgt := 54) (by decide) d_X_setsOut_33 (fun hf => ?_) (fun hf => ?_)
    · refine aw_weakB (lv2 := [.ref o0, uu]) (wk_s (wk_u wk_n)) ?_
      exact hk_54 I0 h_I0 hf
    · refine aw_aload_n rfl rfl d_X_setsOut_36 (aw_getr (r := o0 + 23) fl_X_87 h_o0 (by decide) rfl (rm_9_47 _ h_o0).1 d_X_setsOut_37 (aw_iload_n rfl rfl d_X_setsOut_40 (aw_aload_n rfl rfl d_X_setsOut_41 (aw_getr (r := o0 + 13) fl_X_57 h_o0 (by decide) rfl (rm_9_29 _ h_o0).1 d_X_setsOut_42 (aw_iload_n rfl rfl d_X_setsOut_45 ?_)))))
      refine ai_zald (rm_9_29 _ h_o0).2 rfl h_w1 hf d_X_setsOut_46 (fun _ hf => ?_)
      obtain ⟨g5, hf⟩ := of_zg hf
      refine ai_zast g5 (rm_9_47 _ h_o0).2 rfl h_w1 (h_I0 (o0 + 13) w1.toNat) h_I0 hf d_X_setsOut_47 (fun _ I4 h_I4 hf => ?_)
      refine ai_iinc (n := 1) (lv2 := fun x6 => [.ref o0, .int (iv x6)]) hf rfl (Nat.le_of_ble_eq_true rfl) (fun _ => rfl) d_X_setsOut_48 (fun x6 h_x6 hf => ?_)
      refine aw_goto (tgt := 29) (by decide) d_X_setsOut_51 ?_
      exact ih x6 I4 h_x6 h_I4 hf
set_option maxRecDepth 20000 in
theorem t_X_setsOut_56 (fu : Nat) {r : Int × IMem} (k_80 : IMem → Res) (o0 : Nat) (h_o0 : KM[o0]? = some (12, 51)) (hk_80 : ∀ (I9 : IMem), RG I9 → k_80 I9 = some r → Ai l b 1 y_X_setsOut KM RM (Pv r) I9 80 [.ref o0, uu] []) : ∀ (m : Nat) (w1 : Int) (I0 : IMem), inr w1 → RG I0 → f_X_setsOut_56 fu k_80 o0 m w1 I0 = some r → Ai l b 1 y_X_setsOut KM RM (Pv r) I0 56 [.ref o0, .int (iv w1)] [] := by
  intro m
  induction m with
  | zero => intro w1 I0 h_w1 h_I0 hf; cases hf
  | succ m ih =>
    intro w1 I0 h_w1 h_I0 hf
    replace hf : fb_X_setsOut_56 fu k_80 o0 (f_X_setsOut_56 fu k_80 o0 m) w1 I0 = some r := hf
    unfold fb_X_setsOut_56 at hf
    refine aw_iload_n rfl rfl d_X_setsOut_56 (aw_bipush (v := iv 8) cb_8 d_X_setsOut_57 ?_)
    refine ai_icmp_ge h_w1 in_8 hf (tgt := 80) (by decide) d_X_setsOut_59 (fun hf => ?_) (fun hf => ?_)
    · refine aw_weakB (lv2 := [.ref o0, uu]) (wk_s (wk_u wk_n)) ?_
      exact hk_80 I0 h_I0 hf
    · refine aw_aload_n rfl rfl d_X_setsOut_62 (aw_getr (r := o0 + 24) fl_X_90 h_o0 (by decide) rfl (rm_9_48 _ h_o0).1 d_X_setsOut_63 (aw_iload_n rfl rfl d_X_setsOut_66 (aw_aload_n rfl rfl d_X_setsOut_67 (aw_getr (r := o0 + 15) fl_X_63 h_o0 (by decide) rfl (rm_9_37 _ h_o0).1 d_X_setsOut_68 (aw_iload_n rfl rfl d_X_setsOut_71 ?_)))))
      refine ai_iald (rm_9_37 _ h_o0).2 rfl h_w1 hf d_X_setsOut_72 (fun _ hf => ?_)
      refine ai_iast (rm_9_48 _ h_o0).2 rfl h_w1 (h_I0 (o0 + 15) w1.toNat) h_I0 hf d_X_setsOut_73 (fun _ I8 h_I8 hf => ?_)
      refine ai_iinc (n := 1) (lv2 := fun x9 => [.ref o0, .int (iv x9)]) hf rfl (Nat.le_of_ble_eq_true rfl) (fun _ => rfl) d_X_setsOut_74 (fun x9 h_x9 hf => ?_)
      refine aw_goto (tgt := 56) (by decide) d_X_setsOut_77 ?_
      exact ih x9 I8 h_x9 h_I8 hf
set_option maxRecDepth 20000 in
theorem t_X_setsOut (fu : Nat) (o0 : Nat) (I0 : IMem) (hI : RG I0) (h_o0 : KM[o0]? = some (12, 51)) {r : Int × IMem} (hf : f_X_setsOut fu o0 I0 = some r) : Ss l b 1 y_X_setsOut KM RM [.ref o0] (ivm I0) (Pv r) := by
  unfold f_X_setsOut at hf
  refine Ss.of (show Ai l b 1 y_X_setsOut KM RM (Pv r) I0 0 [.ref o0, uu] [] from ?_)
  refine aw_iconst (v := iv 0) rfl d_X_setsOut_0 (aw_istore_n (lv2 := [.ref o0, .int (iv 0)]) rfl (Nat.le_of_ble_eq_true rfl) rfl d_X_setsOut_1 ?_)
  refine t_X_setsOut_2 fu _ o0 h_o0 ?_ fu 0 I0 in_0 hI hf
  · intro I3 h_I3 hf
    refine aw_iconst (v := iv 0) rfl d_X_setsOut_27 (aw_istore_n (lv2 := [.ref o0, .int (iv 0)]) rfl (Nat.le_of_ble_eq_true rfl) rfl d_X_setsOut_28 ?_)
    refine t_X_setsOut_29 fu _ o0 h_o0 ?_ fu 0 I3 in_0 h_I3 hf
    · intro I7 h_I7 hf
      refine aw_iconst (v := iv 0) rfl d_X_setsOut_54 (aw_istore_n (lv2 := [.ref o0, .int (iv 0)]) rfl (Nat.le_of_ble_eq_true rfl) rfl d_X_setsOut_55 ?_)
      refine t_X_setsOut_56 fu _ o0 h_o0 ?_ fu 0 I7 in_0 h_I7 hf
      · intro I10 h_I10 hf
        refine aw_aload_n rfl rfl d_X_setsOut_80 (aw_aload_n rfl rfl d_X_setsOut_81 (ai_geti fl_X_344 h_o0 (by decide) rfl d_X_setsOut_82 ?_))
        refine ai_puti hf h_I10 (h_I10 o0 35) fl_X_383 h_o0 (by decide) rfl rfl rfl rfl d_X_setsOut_85 (fun I11 h_I11 hf => ?_)
        exact ai_retv rfl d_X_setsOut_88 hf h_I11
set_option maxRecDepth 20000 in
theorem t_X_sum_4 (fu : Nat) {r : Int × IMem} (o0 : Nat) (p1 : Int) (h_o0 : KM[o0]? = some (12, 51)) (h_p1 : inr p1) : ∀ (m : Nat) (w2 : Int) (w3 : Int) (I0 : IMem), inr w2 → inr w3 → RG I0 → f_X_sum_4 fu o0 p1 m w2 w3 I0 = some r → Ai l b 1 y_X_sum KM RM (Ps r) I0 4 [.ref o0, .int (iv p1), .int (iv w2), .int (iv w3)] [] := by
  intro m
  induction m with
  | zero => intro w2 w3 I0 h_w2 h_w3 h_I0 hf; cases hf
  | succ m ih =>
    intro w2 w3 I0 h_w2 h_w3 h_I0 hf
    replace hf : fb_X_sum_4 fu o0 p1 (f_X_sum_4 fu o0 p1 m) w2 w3 I0 = some r := hf
    unfold fb_X_sum_4 at hf
    refine aw_iload_n rfl rfl d_X_sum_4 (aw_bipush (v := iv 8) cb_8 d_X_sum_5 ?_)
    refine ai_icmp_gt h_w3 in_8 hf (tgt := 27) (by decide) d_X_sum_7 (fun hf => ?_) (fun hf => ?_)
    · refine aw_iload_n rfl rfl d_X_sum_27 ?_
      exact ai_reti rfl d_X_sum_28 hf h_w2 h_I0
    · refine aw_iload_n rfl rfl d_X_sum_10 (aw_aload_n rfl rfl d_X_sum_11 (aw_getr (r := o0 + 1) fl_X_7 h_o0 (by decide) rfl (rm_9_0 _ h_o0).1 d_X_sum_12 (aw_iload_n rfl rfl d_X_sum_15 (aw_iload_n rfl rfl d_X_sum_16 (ai_iadd d_X_sum_17 ?_)))))
      refine ai_name hf (wr32_in _) (fun x1 h_x1 hf => ?_)
      refine ai_iald (rm_9_0 _ h_o0).2 rfl h_x1 hf d_X_sum_18 (fun _ hf => ?_)
      refine ai_iadd d_X_sum_19 ?_
      refine ai_name hf (wr32_in _) (fun x2 h_x2 hf => ?_)
      refine aw_istore_n (lv2 := [.ref o0, .int (iv p1), .int (iv x2), .int (iv w3)]) rfl (Nat.le_of_ble_eq_true rfl) rfl d_X_sum_20 ?_
      refine ai_iinc (n := 1) (lv2 := fun x3 => [.ref o0, .int (iv p1), .int (iv x2), .int (iv x3)]) hf rfl (Nat.le_of_ble_eq_true rfl) (fun _ => rfl) d_X_sum_21 (fun x3 h_x3 hf => ?_)
      refine aw_goto (tgt := 4) (by decide) d_X_sum_24 ?_
      exact ih x2 x3 I0 h_x2 h_x3 h_I0 hf
set_option maxRecDepth 20000 in
theorem t_X_sum (fu : Nat) (o0 : Nat) (a1 : Int) (I0 : IMem) (hI : RG I0) (h_o0 : KM[o0]? = some (12, 51)) (h_a1 : inr a1) {r : Int × IMem} (hf : f_X_sum fu o0 a1 I0 = some r) : Ss l b 1 y_X_sum KM RM [.ref o0, .int (iv a1)] (ivm I0) (Ps r) := by
  unfold f_X_sum at hf
  refine Ss.of (show Ai l b 1 y_X_sum KM RM (Ps r) I0 0 [.ref o0, .int (iv a1), uu, uu] [] from ?_)
  refine aw_iconst (v := iv 0) rfl d_X_sum_0 (aw_istore_n (lv2 := [.ref o0, .int (iv a1), .int (iv 0), uu]) rfl (Nat.le_of_ble_eq_true rfl) rfl d_X_sum_1 (aw_iconst (v := iv 1) rfl d_X_sum_2 (aw_istore_n (lv2 := [.ref o0, .int (iv a1), .int (iv 0), .int (iv 1)]) rfl (Nat.le_of_ble_eq_true rfl) rfl d_X_sum_3 ?_)))
  refine t_X_sum_4 fu o0 a1 h_o0 h_a1 fu 0 1 I0 in_0 in_1 hI hf
set_option maxRecDepth 20000 in
theorem t_X_leads_37 (fu : Nat) {r : Int × IMem} (k_55 : IMem → Res) (o0 : Nat) (p4 : Int) (p5 : Int) (h_o0 : KM[o0]? = some (12, 51)) (h_p4 : inr p4) (h_p5 : inr p5) (hk_55 : ∀ (I9 : IMem), RG I9 → k_55 I9 = some r → Ai l b 9 y_X_leads KM RM (Pv r) I9 55 [.ref o0, uu, uu, uu, uu, .int (iv p5), uu] []) : ∀ (m : Nat) (w6 : Int) (I0 : IMem), inr w6 → RG I0 → f_X_leads_37 fu k_55 o0 p4 p5 m w6 I0 = some r → Ai l b 9 y_X_leads KM RM (Pv r) I0 37 [.ref o0, uu, uu, uu, .int (iv p4), .int (iv p5), .int (iv w6)] [] := by
  intro m
  induction m with
  | zero => intro w6 I0 h_w6 h_I0 hf; cases hf
  | succ m ih =>
    intro w6 I0 h_w6 h_I0 hf
    replace hf : fb_X_leads_37 fu k_55 o0 p4 p5 (f_X_leads_37 fu k_55 o0 p4 p5 m) w6 I0 = some r := hf
    unfold fb_X_leads_37 at hf
    refine aw_iload rfl d_X_leads_37 (aw_iload rfl d_X_leads_39 ?_)
    refine ai_icmp_ge h_w6 h_p4 hf (tgt := 55) (by decide) d_X_leads_41 (fun hf => ?_) (fun hf => ?_)
    · refine aw_weakB (lv2 := [.ref o0, uu, uu, uu, uu, .int (iv p5), uu]) (wk_s (wk_u (wk_u (wk_u (wk_u (wk_s (wk_u wk_n))))))) ?_
      exact hk_55 I0 h_I0 hf
    · refine aw_aload_n rfl rfl d_X_leads_44 ?_
      obtain ⟨y10, I11, c12, hf⟩ := of_zb hf
      refine ai_callV (as := []) (d' := 8) (q := ("SinglesUpModel", zT9, 51)) mo_X_turn lk_X_341 h_o0 rfl rfl rfl ⟨by decide, by decide⟩ rfl rfl (by decide) d_X_leads_45 (t_X_turn fu o0 I0 h_I0 h_o0 c12) (fun h_y10 h_I11 => ?_)
      refine aw_pop rfl d_X_leads_48 ?_
      refine ai_iinc (n := 1) (lv2 := fun x13 => [.ref o0, uu, uu, uu, .int (iv p4), .int (iv p5), .int (iv x13)]) hf rfl (Nat.le_of_ble_eq_true rfl) (fun _ => rfl) d_X_leads_49 (fun x13 h_x13 hf => ?_)
      refine aw_goto (tgt := 37) (by decide) d_X_leads_52 ?_
      exact ih x13 I11 h_x13 h_I11 hf
set_option maxRecDepth 20000 in
theorem t_X_leads (fu : Nat) (o0 : Nat) (a1 : Int) (a2 : Int) (a3 : Int) (a4 : Int) (I0 : IMem) (hI : RG I0) (h_o0 : KM[o0]? = some (12, 51)) (h_a1 : inr a1) (h_a2 : inr a2) (h_a3 : inr a3) (h_a4 : inr a4) {r : Int × IMem} (hf : f_X_leads fu o0 a1 a2 a3 a4 I0 = some r) : Ss l b 9 y_X_leads KM RM [.ref o0, .int (iv a1), .int (iv a2), .int (iv a3), .int (iv a4)] (ivm I0) (Pv r) := by
  unfold f_X_leads at hf
  refine Ss.of (show Ai l b 9 y_X_leads KM RM (Pv r) I0 0 [.ref o0, .int (iv a1), .int (iv a2), .int (iv a3), .int (iv a4), uu, uu] [] from ?_)
  refine aw_aload_n rfl rfl d_X_leads_0 ?_
  obtain ⟨y1, I2, c3, hf⟩ := of_zb hf
  refine ai_callVv (as := []) (d' := 1) (q := ("SinglesUpModel", zT9, 51)) mo_X_setsOut lk_X_392 h_o0 rfl rfl rfl ⟨by decide, by decide⟩ rfl rfl (by decide) d_X_leads_1 (t_X_setsOut fu o0 I0 hI h_o0 c3) (fun h_I2 => ?_)
  refine aw_aload_n rfl rfl d_X_leads_4 (aw_bipush (v := iv 90) cb_90 d_X_leads_5 ?_)
  obtain ⟨y4, I5, c6, hf⟩ := of_zb hf
  refine ai_callV (as := [.int (iv 90)]) (d' := 1) (q := ("SinglesUpModel", zT9, 51)) mo_X_sum lk_X_410 h_o0 rfl rfl rfl ⟨by decide, by decide⟩ rfl rfl (by decide) d_X_leads_7 (t_X_sum fu o0 90 I2 h_I2 h_o0 in_90 c6) (fun h_y4 h_I5 => ?_)
  refine aw_istore (lv2 := [.ref o0, .int (iv a1), .int (iv a2), .int (iv a3), .int (iv a4), .int (iv y4), uu]) (Nat.le_of_ble_eq_true rfl) rfl d_X_leads_10 (aw_aload_n rfl rfl d_X_leads_12 (aw_getr (r := o0 + 1) fl_X_7 h_o0 (by decide) rfl (rm_9_0 _ h_o0).1 d_X_leads_13 (aw_bipush (v := iv 6) cb_6 d_X_leads_16 (aw_iload_n rfl rfl d_X_leads_18 ?_))))
  refine ai_iastc (j := 6) (rm_9_0 _ h_o0).2 (by decide) (by decide) h_a1 h_I5 hf d_X_leads_19 (fun I7 h_I7 hf => ?_)
  refine aw_aload_n rfl rfl d_X_leads_20 (aw_getr (r := o0 + 1) fl_X_7 h_o0 (by decide) rfl (rm_9_0 _ h_o0).1 d_X_leads_21 (aw_iconst (v := iv 5) rfl d_X_leads_24 (aw_iload_n rfl rfl d_X_leads_25 ?_)))
  refine ai_iastc (j := 5) (rm_9_0 _ h_o0).2 (by decide) (by decide) h_a2 h_I7 hf d_X_leads_26 (fun I8 h_I8 hf => ?_)
  refine aw_aload_n rfl rfl d_X_leads_27 (aw_getr (r := o0 + 1) fl_X_7 h_o0 (by decide) rfl (rm_9_0 _ h_o0).1 d_X_leads_28 (aw_iconst (v := iv 1) rfl d_X_leads_31 (aw_iload_n rfl rfl d_X_leads_32 ?_)))
  refine ai_iastc (j := 1) (rm_9_0 _ h_o0).2 (by decide) (by decide) h_a3 h_I8 hf d_X_leads_33 (fun I9 h_I9 hf => ?_)
  refine aw_iconst (v := iv 0) rfl d_X_leads_34 (aw_istore (lv2 := [.ref o0, .int (iv a1), .int (iv a2), .int (iv a3), .int (iv a4), .int (iv y4), .int (iv 0)]) (Nat.le_of_ble_eq_true rfl) rfl d_X_leads_35 ?_)
  refine aw_weakB (lv2 := [.ref o0, uu, uu, uu, .int (iv a4), .int (iv y4), .int (iv 0)]) (wk_s (wk_u (wk_u (wk_u (wk_s (wk_s (wk_s wk_n))))))) ?_
  refine t_X_leads_37 fu _ o0 a4 y4 h_o0 h_a4 h_y4 ?_ fu 0 I9 in_0 h_I9 hf
  · intro I14 h_I14 hf
    refine aw_aload_n rfl rfl d_X_leads_55 (aw_getr (r := o0 + 25) fl_X_93 h_o0 (by decide) rfl (rm_9_49 _ h_o0).1 d_X_leads_56 (aw_iconst (v := iv 0) rfl d_X_leads_59 (aw_aload_n rfl rfl d_X_leads_60 (aw_getr (r := o0 + 1) fl_X_7 h_o0 (by decide) rfl (rm_9_0 _ h_o0).1 d_X_leads_61 (aw_bipush (v := iv 71) cb_71 d_X_leads_64 (ai_ialdc (j := 71) (rm_9_0 _ h_o0).2 (by decide) (by decide) d_X_leads_66 (aw_aload_n rfl rfl d_X_leads_67 (aw_getr (r := o0 + 3) fl_X_16 h_o0 (by decide) rfl (rm_9_2 _ h_o0).1 d_X_leads_68 (aw_bipush (v := iv 71) cb_71 d_X_leads_71 (ai_ialdc (j := 71) (rm_9_2 _ h_o0).2 (by decide) (by decide) d_X_leads_73 (ai_isub d_X_leads_74 ?_)))))))))))
    refine ai_iastc (j := 0) (rm_9_49 _ h_o0).2 (by decide) (by decide) (wr32_in _) h_I14 hf d_X_leads_75 (fun I15 h_I15 hf => ?_)
    refine aw_aload_n rfl rfl d_X_leads_76 (aw_getr (r := o0 + 25) fl_X_93 h_o0 (by decide) rfl (rm_9_49 _ h_o0).1 d_X_leads_77 (aw_iconst (v := iv 1) rfl d_X_leads_80 (aw_aload_n rfl rfl d_X_leads_81 (aw_getr (r := o0 + 1) fl_X_7 h_o0 (by decide) rfl (rm_9_0 _ h_o0).1 d_X_leads_82 (aw_bipush (v := iv 72) cb_72 d_X_leads_85 (ai_ialdc (j := 72) (rm_9_0 _ h_o0).2 (by decide) (by decide) d_X_leads_87 (aw_aload_n rfl rfl d_X_leads_88 (aw_getr (r := o0 + 3) fl_X_16 h_o0 (by decide) rfl (rm_9_2 _ h_o0).1 d_X_leads_89 (aw_bipush (v := iv 72) cb_72 d_X_leads_92 (ai_ialdc (j := 72) (rm_9_2 _ h_o0).2 (by decide) (by decide) d_X_leads_94 (ai_isub d_X_leads_95 ?_)))))))))))
    refine ai_iastc (j := 1) (rm_9_49 _ h_o0).2 (by decide) (by decide) (wr32_in _) h_I15 hf d_X_leads_96 (fun I16 h_I16 hf => ?_)
    refine aw_aload_n rfl rfl d_X_leads_97 (aw_getr (r := o0 + 25) fl_X_93 h_o0 (by decide) rfl (rm_9_49 _ h_o0).1 d_X_leads_98 (aw_iconst (v := iv 2) rfl d_X_leads_101 (aw_aload_n rfl rfl d_X_leads_102 (aw_bipush (v := iv 90) cb_90 d_X_leads_103 ?_))))
    obtain ⟨y17, I18, c19, hf⟩ := of_zb hf
    refine ai_callV (as := [.int (iv 90)]) (d' := 1) (q := ("SinglesUpModel", zT9, 51)) mo_X_sum lk_X_410 h_o0 rfl rfl rfl ⟨by decide, by decide⟩ rfl rfl (by decide) d_X_leads_105 (t_X_sum fu o0 90 I16 h_I16 h_o0 in_90 c19) (fun h_y17 h_I18 => ?_)
    refine aw_iload rfl d_X_leads_108 (ai_isub d_X_leads_110 ?_)
    refine ai_iastc (j := 2) (rm_9_49 _ h_o0).2 (by decide) (by decide) (wr32_in _) h_I18 hf d_X_leads_111 (fun I20 h_I20 hf => ?_)
    refine aw_aload_n rfl rfl d_X_leads_112 (aw_getr (r := o0 + 25) fl_X_93 h_o0 (by decide) rfl (rm_9_49 _ h_o0).1 d_X_leads_113 (aw_iconst (v := iv 3) rfl d_X_leads_116 (aw_aload_n rfl rfl d_X_leads_117 (aw_getr (r := o0 + 1) fl_X_7 h_o0 (by decide) rfl (rm_9_0 _ h_o0).1 d_X_leads_118 (aw_bipush (v := iv 76) cb_76 d_X_leads_121 (ai_ialdc (j := 76) (rm_9_0 _ h_o0).2 (by decide) (by decide) d_X_leads_123 (aw_aload_n rfl rfl d_X_leads_124 (aw_getr (r := o0 + 3) fl_X_16 h_o0 (by decide) rfl (rm_9_2 _ h_o0).1 d_X_leads_125 (aw_bipush (v := iv 76) cb_76 d_X_leads_128 (ai_ialdc (j := 76) (rm_9_2 _ h_o0).2 (by decide) (by decide) d_X_leads_130 (ai_isub d_X_leads_131 ?_)))))))))))
    refine ai_iastc (j := 3) (rm_9_49 _ h_o0).2 (by decide) (by decide) (wr32_in _) h_I20 hf d_X_leads_132 (fun I21 h_I21 hf => ?_)
    refine aw_aload_n rfl rfl d_X_leads_133 (aw_getr (r := o0 + 25) fl_X_93 h_o0 (by decide) rfl (rm_9_49 _ h_o0).1 d_X_leads_134 (aw_iconst (v := iv 4) rfl d_X_leads_137 (aw_aload_n rfl rfl d_X_leads_138 (aw_getr (r := o0 + 1) fl_X_7 h_o0 (by decide) rfl (rm_9_0 _ h_o0).1 d_X_leads_139 (aw_bipush (v := iv 75) cb_75 d_X_leads_142 (ai_ialdc (j := 75) (rm_9_0 _ h_o0).2 (by decide) (by decide) d_X_leads_144 (aw_aload_n rfl rfl d_X_leads_145 (aw_getr (r := o0 + 3) fl_X_16 h_o0 (by decide) rfl (rm_9_2 _ h_o0).1 d_X_leads_146 (aw_bipush (v := iv 75) cb_75 d_X_leads_149 (ai_ialdc (j := 75) (rm_9_2 _ h_o0).2 (by decide) (by decide) d_X_leads_151 (ai_isub d_X_leads_152 ?_)))))))))))
    refine ai_iastc (j := 4) (rm_9_49 _ h_o0).2 (by decide) (by decide) (wr32_in _) h_I21 hf d_X_leads_153 (fun I22 h_I22 hf => ?_)
    refine aw_aload_n rfl rfl d_X_leads_154 (aw_getr (r := o0 + 25) fl_X_93 h_o0 (by decide) rfl (rm_9_49 _ h_o0).1 d_X_leads_155 (aw_iconst (v := iv 5) rfl d_X_leads_158 (aw_aload_n rfl rfl d_X_leads_159 ?_)))
    obtain ⟨y23, I24, c25, hf⟩ := of_zb hf
    refine ai_callV (as := []) (d' := 1) (q := ("SinglesUpModel", zT9, 51)) mo_X_longest lk_X_413 h_o0 rfl rfl rfl ⟨by decide, by decide⟩ rfl rfl (by decide) d_X_leads_160 (t_X_longest fu o0 I22 h_I22 h_o0 c25) (fun h_y23 h_I24 => ?_)
    refine ai_iastc (j := 5) (rm_9_49 _ h_o0).2 (by decide) (by decide) h_y23 h_I24 hf d_X_leads_163 (fun I26 h_I26 hf => ?_)
    refine aw_aload_n rfl rfl d_X_leads_164 ?_
    obtain ⟨y27, I28, c29, hf⟩ := of_zb hf
    refine ai_callVv (as := []) (d' := 1) (q := ("SinglesUpModel", zT9, 51)) mo_X_comesBack lk_X_398 h_o0 rfl rfl rfl ⟨by decide, by decide⟩ rfl rfl (by decide) d_X_leads_165 (t_X_comesBack fu o0 I26 h_I26 h_o0 c29) (fun h_I28 => ?_)
    exact ai_retv rfl d_X_leads_168 hf h_I28
set_option maxRecDepth 20000 in
theorem t_X_thought (fu : Nat) (o0 : Nat) (a1 : Int) (a2 : Int) (a3 : Int) (a4 : Int) (a5 : Int) (I0 : IMem) (hI : RG I0) (h_o0 : KM[o0]? = some (12, 51)) (h_a1 : inr a1) (h_a2 : inr a2) (h_a3 : inr a3) (h_a4 : inr a4) (h_a5 : inr a5) {r : Int × IMem} (hf : f_X_thought fu o0 a1 a2 a3 a4 a5 I0 = some r) : Ss l b 10 y_X_thought KM RM [.ref o0, .int (iv a1), .int (iv a2), .int (iv a3), .int (iv a4), .int (iv a5)] (ivm I0) (Ps r) := by
  unfold f_X_thought at hf
  refine Ss.of (show Ai l b 10 y_X_thought KM RM (Ps r) I0 0 [.ref o0, .int (iv a1), .int (iv a2), .int (iv a3), .int (iv a4), .int (iv a5)] [] from ?_)
  refine aw_iload_n rfl rfl d_X_thought_0 (aw_iconst (v := iv 0) rfl d_X_thought_1 (aw_iconst (v := iv 3) rfl d_X_thought_2 ?_))
  obtain ⟨y1, I2, c3, hf⟩ := of_zb hf
  refine ai_callS (as := [.int (iv a1), .int (iv 0), .int (iv 3)]) (d' := 1) mo_X_isIn lk_X_98 rfl ⟨by decide, by decide⟩ rfl rfl (by decide) d_X_thought_3 (t_X_isIn fu a1 0 3 I0 hI h_a1 in_0 in_3 c3) (fun h_y1 h_I2 => ?_)
  refine ai_if_eq h_y1 hf (tgt := 50) (by decide) d_X_thought_6 (fun hf => ?_) (fun hf => ?_)
  · refine aw_iconst (v := iv (-1)) rfl d_X_thought_50 ?_
    exact ai_reti rfl d_X_thought_51 hf in_m1 h_I2
  · refine aw_iload_n rfl rfl d_X_thought_9 (aw_iconst (v := iv 0) rfl d_X_thought_10 (aw_bipush (v := iv 99) cb_99 d_X_thought_11 ?_))
    obtain ⟨y4, I5, c6, hf⟩ := of_zb hf
    refine ai_callS (as := [.int (iv a2), .int (iv 0), .int (iv 99)]) (d' := 1) mo_X_isIn lk_X_98 rfl ⟨by decide, by decide⟩ rfl rfl (by decide) d_X_thought_13 (t_X_isIn fu a2 0 99 I2 h_I2 h_a2 in_0 in_99 c6) (fun h_y4 h_I5 => ?_)
    refine ai_if_eq h_y4 hf (tgt := 50) (by decide) d_X_thought_16 (fun hf => ?_) (fun hf => ?_)
    · refine aw_iconst (v := iv (-1)) rfl d_X_thought_50 ?_
      exact ai_reti rfl d_X_thought_51 hf in_m1 h_I5
    · refine aw_iload_n rfl rfl d_X_thought_19 (aw_iconst (v := iv 2) rfl d_X_thought_20 (aw_bipush (v := iv 8) cb_8 d_X_thought_21 ?_))
      obtain ⟨y7, I8, c9, hf⟩ := of_zb hf
      refine ai_callS (as := [.int (iv a3), .int (iv 2), .int (iv 8)]) (d' := 1) mo_X_isIn lk_X_98 rfl ⟨by decide, by decide⟩ rfl rfl (by decide) d_X_thought_23 (t_X_isIn fu a3 2 8 I5 h_I5 h_a3 in_2 in_8 c9) (fun h_y7 h_I8 => ?_)
      refine ai_if_eq h_y7 hf (tgt := 50) (by decide) d_X_thought_26 (fun hf => ?_) (fun hf => ?_)
      · refine aw_iconst (v := iv (-1)) rfl d_X_thought_50 ?_
        exact ai_reti rfl d_X_thought_51 hf in_m1 h_I8
      · refine aw_iload rfl d_X_thought_29 (aw_iconst (v := iv 1) rfl d_X_thought_31 (aw_bipush (v := iv 40) cb_40 d_X_thought_32 ?_))
        obtain ⟨y10, I11, c12, hf⟩ := of_zb hf
        refine ai_callS (as := [.int (iv a4), .int (iv 1), .int (iv 40)]) (d' := 1) mo_X_isIn lk_X_98 rfl ⟨by decide, by decide⟩ rfl rfl (by decide) d_X_thought_34 (t_X_isIn fu a4 1 40 I8 h_I8 h_a4 in_1 in_40 c12) (fun h_y10 h_I11 => ?_)
        refine ai_if_eq h_y10 hf (tgt := 50) (by decide) d_X_thought_37 (fun hf => ?_) (fun hf => ?_)
        · refine aw_iconst (v := iv (-1)) rfl d_X_thought_50 ?_
          exact ai_reti rfl d_X_thought_51 hf in_m1 h_I11
        · refine aw_iload rfl d_X_thought_40 (aw_iconst (v := iv 0) rfl d_X_thought_42 (aw_iconst (v := iv 5) rfl d_X_thought_43 ?_))
          obtain ⟨y13, I14, c15, hf⟩ := of_zb hf
          refine ai_callS (as := [.int (iv a5), .int (iv 0), .int (iv 5)]) (d' := 1) mo_X_isIn lk_X_98 rfl ⟨by decide, by decide⟩ rfl rfl (by decide) d_X_thought_44 (t_X_isIn fu a5 0 5 I11 h_I11 h_a5 in_0 in_5 c15) (fun h_y13 h_I14 => ?_)
          refine ai_if_ne h_y13 hf (tgt := 52) (by decide) d_X_thought_47 (fun hf => ?_) (fun hf => ?_)
          · refine aw_aload_n rfl rfl d_X_thought_52 (aw_iload_n rfl rfl d_X_thought_53 (aw_iload_n rfl rfl d_X_thought_54 (aw_iload_n rfl rfl d_X_thought_55 (aw_iload rfl d_X_thought_56 ?_))))
            obtain ⟨y16, I17, c18, hf⟩ := of_zb hf
            refine ai_callVv (as := [.int (iv a1), .int (iv a2), .int (iv a3), .int (iv a4)]) (d' := 9) (q := ("SinglesUpModel", zT9, 51)) mo_X_leads lk_X_416 h_o0 rfl rfl rfl ⟨by decide, by decide⟩ rfl rfl (by decide) d_X_thought_58 (t_X_leads fu o0 a1 a2 a3 a4 I14 h_I14 h_o0 h_a1 h_a2 h_a3 h_a4 c18) (fun h_I17 => ?_)
            refine aw_aload_n rfl rfl d_X_thought_61 (aw_getr (r := o0 + 25) fl_X_93 h_o0 (by decide) rfl (rm_9_49 _ h_o0).1 d_X_thought_62 (aw_iload rfl d_X_thought_65 ?_))
            refine ai_iald (rm_9_49 _ h_o0).2 rfl h_a5 hf d_X_thought_67 (fun _ hf => ?_)
            exact ai_reti rfl d_X_thought_68 hf (h_I17 (o0 + 25) a5.toNat) h_I17
          · refine aw_iconst (v := iv (-1)) rfl d_X_thought_50 ?_
            exact ai_reti rfl d_X_thought_51 hf in_m1 h_I14
set_option maxRecDepth 20000 in
theorem t_X_price (fu : Nat) (o0 : Nat) (a1 : Int) (a2 : Int) (I0 : IMem) (hI : RG I0) (h_o0 : KM[o0]? = some (12, 51)) (h_a1 : inr a1) (h_a2 : inr a2) {r : Int × IMem} (hf : f_X_price fu o0 a1 a2 I0 = some r) : Ss l b 10 y_X_price KM RM [.ref o0, .int (iv a1), .int (iv a2)] (ivm I0) (Ps r) := by
  unfold f_X_price at hf
  refine Ss.of (show Ai l b 10 y_X_price KM RM (Ps r) I0 0 [.ref o0, .int (iv a1), .int (iv a2), uu] [] from ?_)
  refine aw_iload_n rfl rfl d_X_price_0 (aw_iconst (v := iv 0) rfl d_X_price_1 (aw_bipush (v := iv 99) cb_99 d_X_price_2 ?_))
  obtain ⟨y1, I2, c3, hf⟩ := of_zb hf
  refine ai_callS (as := [.int (iv a1), .int (iv 0), .int (iv 99)]) (d' := 1) mo_X_isIn lk_X_98 rfl ⟨by decide, by decide⟩ rfl rfl (by decide) d_X_price_4 (t_X_isIn fu a1 0 99 I0 hI h_a1 in_0 in_99 c3) (fun h_y1 h_I2 => ?_)
  refine ai_if_eq h_y1 hf (tgt := 20) (by decide) d_X_price_7 (fun hf => ?_) (fun hf => ?_)
  · refine ai_ldcw kc_X_284e kc_X_284 d_X_price_20 ?_
    exact ai_reti rfl d_X_price_23 hf in_m1000000 h_I2
  · refine aw_iload_n rfl rfl d_X_price_10 (aw_iconst (v := iv 1) rfl d_X_price_11 (aw_bipush (v := iv 40) cb_40 d_X_price_12 ?_))
    obtain ⟨y4, I5, c6, hf⟩ := of_zb hf
    refine ai_callS (as := [.int (iv a2), .int (iv 1), .int (iv 40)]) (d' := 1) mo_X_isIn lk_X_98 rfl ⟨by decide, by decide⟩ rfl rfl (by decide) d_X_price_14 (t_X_isIn fu a2 1 40 I2 h_I2 h_a2 in_1 in_40 c6) (fun h_y4 h_I5 => ?_)
    refine ai_if_ne h_y4 hf (tgt := 24) (by decide) d_X_price_17 (fun hf => ?_) (fun hf => ?_)
    · refine aw_aload_n rfl rfl d_X_price_24 (aw_aload_n rfl rfl d_X_price_25 (aw_getr (r := o0 + 1) fl_X_7 h_o0 (by decide) rfl (rm_9_0 _ h_o0).1 d_X_price_26 (aw_bipush (v := iv 6) cb_6 d_X_price_29 (ai_ialdc (j := 6) (rm_9_0 _ h_o0).2 (by decide) (by decide) d_X_price_31 (aw_iload_n rfl rfl d_X_price_32 (aw_aload_n rfl rfl d_X_price_33 (aw_getr (r := o0 + 1) fl_X_7 h_o0 (by decide) rfl (rm_9_0 _ h_o0).1 d_X_price_34 (aw_iconst (v := iv 1) rfl d_X_price_37 (ai_ialdc (j := 1) (rm_9_0 _ h_o0).2 (by decide) (by decide) d_X_price_38 (aw_iload_n rfl rfl d_X_price_39 ?_))))))))))
      obtain ⟨y7, I8, c9, hf⟩ := of_zb hf
      refine ai_callVv (as := [.int (iv (I5 (o0 + 1) 6)), .int (iv a1), .int (iv (I5 (o0 + 1) 1)), .int (iv a2)]) (d' := 9) (q := ("SinglesUpModel", zT9, 51)) mo_X_leads lk_X_416 h_o0 rfl rfl rfl ⟨by decide, by decide⟩ rfl rfl (by decide) d_X_price_40 (t_X_leads fu o0 (I5 (o0 + 1) 6) a1 (I5 (o0 + 1) 1) a2 I5 h_I5 h_o0 (h_I5 (o0 + 1) 6) h_a1 (h_I5 (o0 + 1) 1) h_a2 c9) (fun h_I8 => ?_)
      refine aw_aload_n rfl rfl d_X_price_43 (aw_getr (r := o0 + 25) fl_X_93 h_o0 (by decide) rfl (rm_9_49 _ h_o0).1 d_X_price_44 (aw_iconst (v := iv 0) rfl d_X_price_47 (ai_ialdc (j := 0) (rm_9_49 _ h_o0).2 (by decide) (by decide) d_X_price_48 ?_)))
      refine ai_name hf (h_I8 (o0 + 25) 0) (fun x10 h_x10 hf => ?_)
      refine aw_istore_n (lv2 := [.ref o0, .int (iv a1), .int (iv a2), .int (iv x10)]) rfl (Nat.le_of_ble_eq_true rfl) rfl d_X_price_49 ?_
      refine aw_aload_n rfl rfl d_X_price_50 (aw_aload_n rfl rfl d_X_price_51 (aw_getr (r := o0 + 1) fl_X_7 h_o0 (by decide) rfl (rm_9_0 _ h_o0).1 d_X_price_52 (aw_bipush (v := iv 6) cb_6 d_X_price_55 (ai_ialdc (j := 6) (rm_9_0 _ h_o0).2 (by decide) (by decide) d_X_price_57 (aw_iconst (v := iv 0) rfl d_X_price_58 (aw_aload_n rfl rfl d_X_price_59 (aw_getr (r := o0 + 1) fl_X_7 h_o0 (by decide) rfl (rm_9_0 _ h_o0).1 d_X_price_60 (aw_iconst (v := iv 1) rfl d_X_price_63 (ai_ialdc (j := 1) (rm_9_0 _ h_o0).2 (by decide) (by decide) d_X_price_64 (aw_iload_n rfl rfl d_X_price_65 ?_))))))))))
      obtain ⟨y11, I12, c13, hf⟩ := of_zb hf
      refine ai_callVv (as := [.int (iv (I8 (o0 + 1) 6)), .int (iv 0), .int (iv (I8 (o0 + 1) 1)), .int (iv a2)]) (d' := 9) (q := ("SinglesUpModel", zT9, 51)) mo_X_leads lk_X_416 h_o0 rfl rfl rfl ⟨by decide, by decide⟩ rfl rfl (by decide) d_X_price_66 (t_X_leads fu o0 (I8 (o0 + 1) 6) 0 (I8 (o0 + 1) 1) a2 I8 h_I8 h_o0 (h_I8 (o0 + 1) 6) in_0 (h_I8 (o0 + 1) 1) h_a2 c13) (fun h_I12 => ?_)
      refine aw_iload_n rfl rfl d_X_price_69 (aw_aload_n rfl rfl d_X_price_70 (aw_getr (r := o0 + 25) fl_X_93 h_o0 (by decide) rfl (rm_9_49 _ h_o0).1 d_X_price_71 (aw_iconst (v := iv 0) rfl d_X_price_74 (ai_ialdc (j := 0) (rm_9_49 _ h_o0).2 (by decide) (by decide) d_X_price_75 (ai_isub d_X_price_76 ?_)))))
      exact ai_reti rfl d_X_price_77 hf (wr32_in _) h_I12
    · refine ai_ldcw kc_X_284e kc_X_284 d_X_price_20 ?_
      exact ai_reti rfl d_X_price_23 hf in_m1000000 h_I5
set_option maxRecDepth 20000 in
theorem t_X_isThere (fu : Nat) (o0 : Nat) (a1 : Int) (a2 : Int) (I0 : IMem) (hI : RG I0) (h_o0 : KM[o0]? = some (12, 51)) (h_a1 : inr a1) (h_a2 : inr a2) {r : Int × IMem} (hf : f_X_isThere fu o0 a1 a2 I0 = some r) : Ss l b 3 y_X_isThere KM RM [.ref o0, .int (iv a1), .int (iv a2)] (ivm I0) (Ps r) := by
  unfold f_X_isThere at hf
  refine Ss.of (show Ai l b 3 y_X_isThere KM RM (Ps r) I0 0 [.ref o0, .int (iv a1), .int (iv a2)] [] from ?_)
  refine aw_iload_n rfl rfl d_X_isThere_0 ?_
  obtain ⟨y1, I2, c3, hf⟩ := of_zb hf
  refine ai_callS (as := [.int (iv a1)]) (d' := 2) mo_X_isLine lk_X_105 rfl ⟨by decide, by decide⟩ rfl rfl (by decide) d_X_isThere_1 (t_X_isLine fu a1 I0 hI h_a1 c3) (fun h_y1 h_I2 => ?_)
  refine ai_if_eq h_y1 hf (tgt := 31) (by decide) d_X_isThere_4 (fun hf => ?_) (fun hf => ?_)
  · refine aw_iconst (v := iv 0) rfl d_X_isThere_31 ?_
    exact ai_retn rfl (nar_z (Or.inl rfl)) d_X_isThere_32 hf in_0 h_I2
  · refine aw_iload_n rfl rfl d_X_isThere_7 (aw_iconst (v := iv 0) rfl d_X_isThere_8 (aw_aload_n rfl rfl d_X_isThere_9 (aw_getr (r := o0 + 1) fl_X_7 h_o0 (by decide) rfl (rm_9_0 _ h_o0).1 d_X_isThere_10 (aw_sipush (v := iv 130) cs_130 d_X_isThere_13 (aw_iload_n rfl rfl d_X_isThere_16 (ai_iadd d_X_isThere_17 ?_))))))
    refine ai_name hf (wr32_in _) (fun x4 h_x4 hf => ?_)
    refine ai_iald (rm_9_0 _ h_o0).2 rfl h_x4 hf d_X_isThere_18 (fun _ hf => ?_)
    refine aw_iconst (v := iv 1) rfl d_X_isThere_19 (ai_isub d_X_isThere_20 ?_)
    obtain ⟨y5, I6, c7, hf⟩ := of_zb hf
    refine ai_callS (as := [.int (iv a2), .int (iv 0), .int (iv (wr32 ((I2 (o0 + 1) x4.toNat) - 1)))]) (d' := 1) mo_X_isIn lk_X_98 rfl ⟨by decide, by decide⟩ rfl rfl (by decide) d_X_isThere_21 (t_X_isIn fu a2 0 (wr32 ((I2 (o0 + 1) x4.toNat) - 1)) I2 h_I2 h_a2 in_0 (wr32_in _) c7) (fun h_y5 h_I6 => ?_)
    refine ai_if_eq h_y5 hf (tgt := 31) (by decide) d_X_isThere_24 (fun hf => ?_) (fun hf => ?_)
    · refine aw_iconst (v := iv 0) rfl d_X_isThere_31 ?_
      exact ai_retn rfl (nar_z (Or.inl rfl)) d_X_isThere_32 hf in_0 h_I6
    · refine aw_iconst (v := iv 1) rfl d_X_isThere_27 (aw_goto (tgt := 32) (by decide) d_X_isThere_28 ?_)
      exact ai_retn rfl (nar_z (Or.inr rfl)) d_X_isThere_32 hf in_1 h_I6
end
