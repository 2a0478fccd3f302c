/-! the class: shallow functions and the machine -/
abbrev y_R_wordAt : MI := (⟨"SinglesUp$Reader", "wordAt", "(II)I"⟩, prog_9_method_11_code, 8, some .int)
theorem ck_R_wordAt_0 : (y_R_wordAt.2.1.data.toList.drop 0).take 32 = [3, 62, 27, 54, 4, 4, 54, 5, 3, 54, 6, 21, 6, 18, 95, 182, 0, 97, 162, 0, 95, 18, 95, 21, 6, 182, 0, 100, 54, 7, 21, 7] := by decide +kernel
theorem d_R_wordAt_0 : decode y_R_wordAt.2.1 0 = .ok (.iconst 0, 1) := op_iconst0 (gk (k := 0) (t := 0) ck_R_wordAt_0 rfl)
theorem d_R_wordAt_1 : decode y_R_wordAt.2.1 1 = .ok (.istore_n 3, 1) := op_istore_n3 (gk (k := 0) (t := 1) ck_R_wordAt_0 rfl)
theorem d_R_wordAt_2 : decode y_R_wordAt.2.1 2 = .ok (.iload_n 1, 1) := op_iload_n1 (gk (k := 0) (t := 2) ck_R_wordAt_0 rfl)
theorem d_R_wordAt_3 : decode y_R_wordAt.2.1 3 = .ok (.istore 4, 2) := op_istore (gk (k := 0) (t := 3) ck_R_wordAt_0 rfl) (gk (k := 0) (t := 4) ck_R_wordAt_0 rfl) rfl
theorem d_R_wordAt_5 : decode y_R_wordAt.2.1 5 = .ok (.iconst 1, 1) := op_iconst1 (gk (k := 0) (t := 5) ck_R_wordAt_0 rfl)
theorem d_R_wordAt_6 : decode y_R_wordAt.2.1 6 = .ok (.istore 5, 2) := op_istore (gk (k := 0) (t := 6) ck_R_wordAt_0 rfl) (gk (k := 0) (t := 7) ck_R_wordAt_0 rfl) rfl
theorem d_R_wordAt_8 : decode y_R_wordAt.2.1 8 = .ok (.iconst 0, 1) := op_iconst0 (gk (k := 0) (t := 8) ck_R_wordAt_0 rfl)
theorem d_R_wordAt_9 : decode y_R_wordAt.2.1 9 = .ok (.istore 6, 2) := op_istore (gk (k := 0) (t := 9) ck_R_wordAt_0 rfl) (gk (k := 0) (t := 10) ck_R_wordAt_0 rfl) rfl
theorem d_R_wordAt_11 : decode y_R_wordAt.2.1 11 = .ok (.iload 6, 2) := op_iload (gk (k := 0) (t := 11) ck_R_wordAt_0 rfl) (gk (k := 0) (t := 12) ck_R_wordAt_0 rfl) rfl
theorem d_R_wordAt_13 : decode y_R_wordAt.2.1 13 = .ok (.ldc 95, 2) := op_ldc (gk (k := 0) (t := 13) ck_R_wordAt_0 rfl) (gk (k := 0) (t := 14) ck_R_wordAt_0 rfl) rfl
theorem lk_R_97 : LkV "SinglesUp$Reader" 97 y_JS_length := ⟨tw_c2 207 (by decide +kernel) rfl, tw_c2 208 (by decide +kernel) rfl, Or.inl (tw_c2 206 (by decide +kernel) rfl)⟩
theorem d_R_wordAt_15 : decode y_R_wordAt.2.1 15 = .ok (.invokevirtual 97, 3) := op_invokevirtual (gk (k := 0) (t := 15) ck_R_wordAt_0 rfl) (gk (k := 0) (t := 16) ck_R_wordAt_0 rfl) (gk (k := 0) (t := 17) ck_R_wordAt_0 rfl) rfl
theorem d_R_wordAt_18 : decode y_R_wordAt.2.1 18 = .ok (.if_icmp .ge 95, 3) := op_icmp_ge (gk (k := 0) (t := 18) ck_R_wordAt_0 rfl) (gk (k := 0) (t := 19) ck_R_wordAt_0 rfl) (gk (k := 0) (t := 20) ck_R_wordAt_0 rfl) (by decide +kernel)
theorem cb_18 : (Int8.ofInt 18).toInt32 = iv 18 := by decide +kernel
theorem ck_R_wordAt_3 : (y_R_wordAt.2.1.data.toList.drop 96).take 32 = [0, 9, 132, 4, 1, 167, 0, 6, 3, 54, 5, 132, 6, 1, 167, 255, 157, 16, 18, 172] := by decide +kernel
theorem d_R_wordAt_113 : decode y_R_wordAt.2.1 113 = .ok (.bipush 18, 2) := op_bipush (gk (k := 96) (t := 17) ck_R_wordAt_3 rfl) (gk (k := 96) (t := 18) ck_R_wordAt_3 rfl) rfl
theorem d_R_wordAt_115 : decode y_R_wordAt.2.1 115 = .ok (.ireturn, 1) := op_ireturn (gk (k := 96) (t := 19) ck_R_wordAt_3 rfl)
theorem in_18 : inr (18) := lit_in rfl
theorem d_R_wordAt_21 : decode y_R_wordAt.2.1 21 = .ok (.ldc 95, 2) := op_ldc (gk (k := 0) (t := 21) ck_R_wordAt_0 rfl) (gk (k := 0) (t := 22) ck_R_wordAt_0 rfl) rfl
theorem d_R_wordAt_23 : decode y_R_wordAt.2.1 23 = .ok (.iload 6, 2) := op_iload (gk (k := 0) (t := 23) ck_R_wordAt_0 rfl) (gk (k := 0) (t := 24) ck_R_wordAt_0 rfl) rfl
theorem lk_R_100 : LkV "SinglesUp$Reader" 100 y_JS_charAt := ⟨tw_c2 217 (by decide +kernel) rfl, tw_c2 218 (by decide +kernel) rfl, Or.inl (tw_c2 216 (by decide +kernel) rfl)⟩
set_option maxRecDepth 100000 in
theorem mo_JS_charAt : MOk y_JS_charAt 1 := ⟨by decide +kernel, tw_c2 219 rfl rfl, tw_c1 13 (by decide +kernel) rfl, by decide +kernel, by decide +kernel, by decide +kernel⟩
theorem d_R_wordAt_25 : decode y_R_wordAt.2.1 25 = .ok (.invokevirtual 100, 3) := op_invokevirtual (gk (k := 0) (t := 25) ck_R_wordAt_0 rfl) (gk (k := 0) (t := 26) ck_R_wordAt_0 rfl) (gk (k := 0) (t := 27) ck_R_wordAt_0 rfl) rfl
theorem d_R_wordAt_28 : decode y_R_wordAt.2.1 28 = .ok (.istore 7, 2) := op_istore (gk (k := 0) (t := 28) ck_R_wordAt_0 rfl) (gk (k := 0) (t := 29) ck_R_wordAt_0 rfl) rfl
theorem d_R_wordAt_30 : decode y_R_wordAt.2.1 30 = .ok (.iload 7, 2) := op_iload (gk (k := 0) (t := 30) ck_R_wordAt_0 rfl) (gk (k := 0) (t := 31) ck_R_wordAt_0 rfl) rfl
theorem cb_32 : (Int8.ofInt 32).toInt32 = iv 32 := by decide +kernel
theorem ck_R_wordAt_1 : (y_R_wordAt.2.1.data.toList.drop 32).take 32 = [16, 32, 160, 0, 28, 21, 5, 153, 0, 11, 21, 4, 28, 160, 0, 5, 29, 172, 132, 3, 1, 27, 54, 4, 4, 54, 5, 167, 0, 48, 21, 5] := by decide +kernel
theorem d_R_wordAt_32 : decode y_R_wordAt.2.1 32 = .ok (.bipush 32, 2) := op_bipush (gk (k := 32) (t := 0) ck_R_wordAt_1 rfl) (gk (k := 32) (t := 1) ck_R_wordAt_1 rfl) rfl
theorem d_R_wordAt_107 : decode y_R_wordAt.2.1 107 = .ok (.iinc 6 1, 3) := op_iinc (gk (k := 96) (t := 11) ck_R_wordAt_3 rfl) (gk (k := 96) (t := 12) ck_R_wordAt_3 rfl) (gk (k := 96) (t := 13) ck_R_wordAt_3 rfl) rfl rfl
theorem d_R_wordAt_110 : decode y_R_wordAt.2.1 110 = .ok (.goto (-99), 3) := op_goto (gk (k := 96) (t := 14) ck_R_wordAt_3 rfl) (gk (k := 96) (t := 15) ck_R_wordAt_3 rfl) (gk (k := 96) (t := 16) ck_R_wordAt_3 rfl) (by decide +kernel)
theorem in_32 : inr (32) := lit_in rfl
theorem d_R_wordAt_34 : decode y_R_wordAt.2.1 34 = .ok (.if_icmp .ne 28, 3) := op_icmp_ne (gk (k := 32) (t := 2) ck_R_wordAt_1 rfl) (gk (k := 32) (t := 3) ck_R_wordAt_1 rfl) (gk (k := 32) (t := 4) ck_R_wordAt_1 rfl) (by decide +kernel)
theorem d_R_wordAt_62 : decode y_R_wordAt.2.1 62 = .ok (.iload 5, 2) := op_iload (gk (k := 32) (t := 30) ck_R_wordAt_1 rfl) (gk (k := 32) (t := 31) ck_R_wordAt_1 rfl) rfl
theorem ck_R_wordAt_2 : (y_R_wordAt.2.1.data.toList.drop 64).take 32 = [153, 0, 40, 21, 4, 155, 0, 35, 21, 4, 28, 162, 0, 29, 21, 4, 17, 1, 144, 162, 0, 21, 42, 180, 0, 11, 21, 4, 46, 21, 7, 160] := by decide +kernel
theorem d_R_wordAt_64 : decode y_R_wordAt.2.1 64 = .ok (.ifCond .eq 40, 3) := op_if_eq (gk (k := 64) (t := 0) ck_R_wordAt_2 rfl) (gk (k := 64) (t := 1) ck_R_wordAt_2 rfl) (gk (k := 64) (t := 2) ck_R_wordAt_2 rfl) (by decide +kernel)
theorem d_R_wordAt_104 : decode y_R_wordAt.2.1 104 = .ok (.iconst 0, 1) := op_iconst0 (gk (k := 96) (t := 8) ck_R_wordAt_3 rfl)
theorem d_R_wordAt_105 : decode y_R_wordAt.2.1 105 = .ok (.istore 5, 2) := op_istore (gk (k := 96) (t := 9) ck_R_wordAt_3 rfl) (gk (k := 96) (t := 10) ck_R_wordAt_3 rfl) rfl
theorem d_R_wordAt_67 : decode y_R_wordAt.2.1 67 = .ok (.iload 4, 2) := op_iload (gk (k := 64) (t := 3) ck_R_wordAt_2 rfl) (gk (k := 64) (t := 4) ck_R_wordAt_2 rfl) rfl
theorem d_R_wordAt_69 : decode y_R_wordAt.2.1 69 = .ok (.ifCond .lt 35, 3) := op_if_lt (gk (k := 64) (t := 5) ck_R_wordAt_2 rfl) (gk (k := 64) (t := 6) ck_R_wordAt_2 rfl) (gk (k := 64) (t := 7) ck_R_wordAt_2 rfl) (by decide +kernel)
theorem d_R_wordAt_72 : decode y_R_wordAt.2.1 72 = .ok (.iload 4, 2) := op_iload (gk (k := 64) (t := 8) ck_R_wordAt_2 rfl) (gk (k := 64) (t := 9) ck_R_wordAt_2 rfl) rfl
theorem d_R_wordAt_74 : decode y_R_wordAt.2.1 74 = .ok (.iload_n 2, 1) := op_iload_n2 (gk (k := 64) (t := 10) ck_R_wordAt_2 rfl)
theorem d_R_wordAt_75 : decode y_R_wordAt.2.1 75 = .ok (.if_icmp .ge 29, 3) := op_icmp_ge (gk (k := 64) (t := 11) ck_R_wordAt_2 rfl) (gk (k := 64) (t := 12) ck_R_wordAt_2 rfl) (gk (k := 64) (t := 13) ck_R_wordAt_2 rfl) (by decide +kernel)
theorem d_R_wordAt_78 : decode y_R_wordAt.2.1 78 = .ok (.iload 4, 2) := op_iload (gk (k := 64) (t := 14) ck_R_wordAt_2 rfl) (gk (k := 64) (t := 15) ck_R_wordAt_2 rfl) rfl
theorem d_R_wordAt_80 : decode y_R_wordAt.2.1 80 = .ok (.sipush 400, 3) := op_sipush (gk (k := 64) (t := 16) ck_R_wordAt_2 rfl) (gk (k := 64) (t := 17) ck_R_wordAt_2 rfl) (gk (k := 64) (t := 18) ck_R_wordAt_2 rfl) (by decide +kernel)
theorem d_R_wordAt_83 : decode y_R_wordAt.2.1 83 = .ok (.if_icmp .ge 21, 3) := op_icmp_ge (gk (k := 64) (t := 19) ck_R_wordAt_2 rfl) (gk (k := 64) (t := 20) ck_R_wordAt_2 rfl) (gk (k := 64) (t := 21) ck_R_wordAt_2 rfl) (by decide +kernel)
theorem d_R_wordAt_86 : decode y_R_wordAt.2.1 86 = .ok (.aload_n 0, 1) := op_aload_n0 (gk (k := 64) (t := 22) ck_R_wordAt_2 rfl)
theorem d_R_wordAt_87 : decode y_R_wordAt.2.1 87 = .ok (.getfield 11, 3) := op_getfield (gk (k := 64) (t := 23) ck_R_wordAt_2 rfl) (gk (k := 64) (t := 24) ck_R_wordAt_2 rfl) (gk (k := 64) (t := 25) ck_R_wordAt_2 rfl) rfl
theorem d_R_wordAt_90 : decode y_R_wordAt.2.1 90 = .ok (.iload 4, 2) := op_iload (gk (k := 64) (t := 26) ck_R_wordAt_2 rfl) (gk (k := 64) (t := 27) ck_R_wordAt_2 rfl) rfl
theorem d_R_wordAt_92 : decode y_R_wordAt.2.1 92 = .ok (.iaload, 1) := op_iaload (gk (k := 64) (t := 28) ck_R_wordAt_2 rfl)
theorem d_R_wordAt_93 : decode y_R_wordAt.2.1 93 = .ok (.iload 7, 2) := op_iload (gk (k := 64) (t := 29) ck_R_wordAt_2 rfl) (gk (k := 64) (t := 30) ck_R_wordAt_2 rfl) rfl
theorem d_R_wordAt_95 : decode y_R_wordAt.2.1 95 = .ok (.if_icmp .ne 9, 3) := op_icmp_ne (gk (k := 64) (t := 31) ck_R_wordAt_2 rfl) (gk (k := 96) (t := 0) ck_R_wordAt_3 rfl) (gk (k := 96) (t := 1) ck_R_wordAt_3 rfl) (by decide +kernel)
theorem d_R_wordAt_98 : decode y_R_wordAt.2.1 98 = .ok (.iinc 4 1, 3) := op_iinc (gk (k := 96) (t := 2) ck_R_wordAt_3 rfl) (gk (k := 96) (t := 3) ck_R_wordAt_3 rfl) (gk (k := 96) (t := 4) ck_R_wordAt_3 rfl) rfl rfl
theorem d_R_wordAt_101 : decode y_R_wordAt.2.1 101 = .ok (.goto 6, 3) := op_goto (gk (k := 96) (t := 5) ck_R_wordAt_3 rfl) (gk (k := 96) (t := 6) ck_R_wordAt_3 rfl) (gk (k := 96) (t := 7) ck_R_wordAt_3 rfl) (by decide +kernel)
theorem d_R_wordAt_37 : decode y_R_wordAt.2.1 37 = .ok (.iload 5, 2) := op_iload (gk (k := 32) (t := 5) ck_R_wordAt_1 rfl) (gk (k := 32) (t := 6) ck_R_wordAt_1 rfl) rfl
theorem d_R_wordAt_50 : decode y_R_wordAt.2.1 50 = .ok (.iinc 3 1, 3) := op_iinc (gk (k := 32) (t := 18) ck_R_wordAt_1 rfl) (gk (k := 32) (t := 19) ck_R_wordAt_1 rfl) (gk (k := 32) (t := 20) ck_R_wordAt_1 rfl) rfl rfl
theorem d_R_wordAt_53 : decode y_R_wordAt.2.1 53 = .ok (.iload_n 1, 1) := op_iload_n1 (gk (k := 32) (t := 21) ck_R_wordAt_1 rfl)
theorem d_R_wordAt_54 : decode y_R_wordAt.2.1 54 = .ok (.istore 4, 2) := op_istore (gk (k := 32) (t := 22) ck_R_wordAt_1 rfl) (gk (k := 32) (t := 23) ck_R_wordAt_1 rfl) rfl
theorem d_R_wordAt_56 : decode y_R_wordAt.2.1 56 = .ok (.iconst 1, 1) := op_iconst1 (gk (k := 32) (t := 24) ck_R_wordAt_1 rfl)
theorem d_R_wordAt_57 : decode y_R_wordAt.2.1 57 = .ok (.istore 5, 2) := op_istore (gk (k := 32) (t := 25) ck_R_wordAt_1 rfl) (gk (k := 32) (t := 26) ck_R_wordAt_1 rfl) rfl
theorem d_R_wordAt_59 : decode y_R_wordAt.2.1 59 = .ok (.goto 48, 3) := op_goto (gk (k := 32) (t := 27) ck_R_wordAt_1 rfl) (gk (k := 32) (t := 28) ck_R_wordAt_1 rfl) (gk (k := 32) (t := 29) ck_R_wordAt_1 rfl) (by decide +kernel)
theorem d_R_wordAt_39 : decode y_R_wordAt.2.1 39 = .ok (.ifCond .eq 11, 3) := op_if_eq (gk (k := 32) (t := 7) ck_R_wordAt_1 rfl) (gk (k := 32) (t := 8) ck_R_wordAt_1 rfl) (gk (k := 32) (t := 9) ck_R_wordAt_1 rfl) (by decide +kernel)
theorem d_R_wordAt_42 : decode y_R_wordAt.2.1 42 = .ok (.iload 4, 2) := op_iload (gk (k := 32) (t := 10) ck_R_wordAt_1 rfl) (gk (k := 32) (t := 11) ck_R_wordAt_1 rfl) rfl
theorem d_R_wordAt_44 : decode y_R_wordAt.2.1 44 = .ok (.iload_n 2, 1) := op_iload_n2 (gk (k := 32) (t := 12) ck_R_wordAt_1 rfl)
theorem d_R_wordAt_45 : decode y_R_wordAt.2.1 45 = .ok (.if_icmp .ne 5, 3) := op_icmp_ne (gk (k := 32) (t := 13) ck_R_wordAt_1 rfl) (gk (k := 32) (t := 14) ck_R_wordAt_1 rfl) (gk (k := 32) (t := 15) ck_R_wordAt_1 rfl) (by decide +kernel)
theorem d_R_wordAt_48 : decode y_R_wordAt.2.1 48 = .ok (.iload_n 3, 1) := op_iload_n3 (gk (k := 32) (t := 16) ck_R_wordAt_1 rfl)
theorem d_R_wordAt_49 : decode y_R_wordAt.2.1 49 = .ok (.ireturn, 1) := op_ireturn (gk (k := 32) (t := 17) ck_R_wordAt_1 rfl)
abbrev y_R_scan : MI := (⟨"SinglesUp$Reader", "scan", "()V"⟩, prog_9_method_7_code, 4, none)
theorem ck_R_scan_0 : (y_R_scan.2.1.data.toList.drop 0).take 32 = [42, 3, 181, 0, 66, 3, 60, 27, 42, 180, 0, 35, 162, 0, 182, 27, 17, 1, 144, 162, 0, 175, 27, 61, 42, 180, 0, 11, 27, 46, 62, 132] := by decide +kernel
theorem d_R_scan_0 : decode y_R_scan.2.1 0 = .ok (.aload_n 0, 1) := op_aload_n0 (gk (k := 0) (t := 0) ck_R_scan_0 rfl)
theorem d_R_scan_1 : decode y_R_scan.2.1 1 = .ok (.iconst 0, 1) := op_iconst0 (gk (k := 0) (t := 1) ck_R_scan_0 rfl)
theorem d_R_scan_2 : decode y_R_scan.2.1 2 = .ok (.putfield 66, 3) := op_putfield (gk (k := 0) (t := 2) ck_R_scan_0 rfl) (gk (k := 0) (t := 3) ck_R_scan_0 rfl) (gk (k := 0) (t := 4) ck_R_scan_0 rfl) rfl
theorem d_R_scan_5 : decode y_R_scan.2.1 5 = .ok (.iconst 0, 1) := op_iconst0 (gk (k := 0) (t := 5) ck_R_scan_0 rfl)
theorem d_R_scan_6 : decode y_R_scan.2.1 6 = .ok (.istore_n 1, 1) := op_istore_n1 (gk (k := 0) (t := 6) ck_R_scan_0 rfl)
theorem d_R_scan_7 : decode y_R_scan.2.1 7 = .ok (.iload_n 1, 1) := op_iload_n1 (gk (k := 0) (t := 7) ck_R_scan_0 rfl)
theorem d_R_scan_8 : decode y_R_scan.2.1 8 = .ok (.aload_n 0, 1) := op_aload_n0 (gk (k := 0) (t := 8) ck_R_scan_0 rfl)
theorem d_R_scan_9 : decode y_R_scan.2.1 9 = .ok (.getfield 35, 3) := op_getfield (gk (k := 0) (t := 9) ck_R_scan_0 rfl) (gk (k := 0) (t := 10) ck_R_scan_0 rfl) (gk (k := 0) (t := 11) ck_R_scan_0 rfl) rfl
theorem d_R_scan_12 : decode y_R_scan.2.1 12 = .ok (.if_icmp .ge 182, 3) := op_icmp_ge (gk (k := 0) (t := 12) ck_R_scan_0 rfl) (gk (k := 0) (t := 13) ck_R_scan_0 rfl) (gk (k := 0) (t := 14) ck_R_scan_0 rfl) (by decide +kernel)
theorem d_R_scan_15 : decode y_R_scan.2.1 15 = .ok (.iload_n 1, 1) := op_iload_n1 (gk (k := 0) (t := 15) ck_R_scan_0 rfl)
theorem d_R_scan_16 : decode y_R_scan.2.1 16 = .ok (.sipush 400, 3) := op_sipush (gk (k := 0) (t := 16) ck_R_scan_0 rfl) (gk (k := 0) (t := 17) ck_R_scan_0 rfl) (gk (k := 0) (t := 18) ck_R_scan_0 rfl) (by decide +kernel)
theorem d_R_scan_19 : decode y_R_scan.2.1 19 = .ok (.if_icmp .ge 175, 3) := op_icmp_ge (gk (k := 0) (t := 19) ck_R_scan_0 rfl) (gk (k := 0) (t := 20) ck_R_scan_0 rfl) (gk (k := 0) (t := 21) ck_R_scan_0 rfl) (by decide +kernel)
theorem d_R_scan_22 : decode y_R_scan.2.1 22 = .ok (.iload_n 1, 1) := op_iload_n1 (gk (k := 0) (t := 22) ck_R_scan_0 rfl)
theorem d_R_scan_23 : decode y_R_scan.2.1 23 = .ok (.istore_n 2, 1) := op_istore_n2 (gk (k := 0) (t := 23) ck_R_scan_0 rfl)
theorem d_R_scan_24 : decode y_R_scan.2.1 24 = .ok (.aload_n 0, 1) := op_aload_n0 (gk (k := 0) (t := 24) ck_R_scan_0 rfl)
theorem d_R_scan_25 : decode y_R_scan.2.1 25 = .ok (.getfield 11, 3) := op_getfield (gk (k := 0) (t := 25) ck_R_scan_0 rfl) (gk (k := 0) (t := 26) ck_R_scan_0 rfl) (gk (k := 0) (t := 27) ck_R_scan_0 rfl) rfl
theorem d_R_scan_28 : decode y_R_scan.2.1 28 = .ok (.iload_n 1, 1) := op_iload_n1 (gk (k := 0) (t := 28) ck_R_scan_0 rfl)
theorem d_R_scan_29 : decode y_R_scan.2.1 29 = .ok (.iaload, 1) := op_iaload (gk (k := 0) (t := 29) ck_R_scan_0 rfl)
theorem d_R_scan_30 : decode y_R_scan.2.1 30 = .ok (.istore_n 3, 1) := op_istore_n3 (gk (k := 0) (t := 30) ck_R_scan_0 rfl)
theorem ck_R_scan_1 : (y_R_scan.2.1.data.toList.drop 32).take 32 = [1, 1, 29, 184, 0, 69, 153, 0, 51, 27, 42, 180, 0, 35, 162, 0, 28, 27, 17, 1, 144, 162, 0, 21, 42, 180, 0, 11, 27, 46, 184, 0] := by decide +kernel
theorem d_R_scan_31 : decode y_R_scan.2.1 31 = .ok (.iinc 1 1, 3) := op_iinc (gk (k := 0) (t := 31) ck_R_scan_0 rfl) (gk (k := 32) (t := 0) ck_R_scan_1 rfl) (gk (k := 32) (t := 1) ck_R_scan_1 rfl) rfl rfl
theorem d_R_scan_34 : decode y_R_scan.2.1 34 = .ok (.iload_n 3, 1) := op_iload_n3 (gk (k := 32) (t := 2) ck_R_scan_1 rfl)
theorem lk_R_69 : LkS "SinglesUp$Reader" 69 y_R_isLetter := ⟨tw_c2 199 (by decide +kernel) rfl, Or.inl (tw_c2 198 (by decide +kernel) rfl)⟩
set_option maxRecDepth 100000 in
theorem mo_R_isLetter : MOk y_R_isLetter 1 := ⟨by decide +kernel, tw_c2 200 rfl rfl, tw_c1 8 (by decide +kernel) rfl, by decide +kernel, by decide +kernel, by decide +kernel⟩
theorem d_R_scan_35 : decode y_R_scan.2.1 35 = .ok (.invokestatic 69, 3) := op_invokestatic (gk (k := 32) (t := 3) ck_R_scan_1 rfl) (gk (k := 32) (t := 4) ck_R_scan_1 rfl) (gk (k := 32) (t := 5) ck_R_scan_1 rfl) rfl
theorem d_R_scan_38 : decode y_R_scan.2.1 38 = .ok (.ifCond .eq 51, 3) := op_if_eq (gk (k := 32) (t := 6) ck_R_scan_1 rfl) (gk (k := 32) (t := 7) ck_R_scan_1 rfl) (gk (k := 32) (t := 8) ck_R_scan_1 rfl) (by decide +kernel)
theorem ck_R_scan_2 : (y_R_scan.2.1.data.toList.drop 64).take 32 = [69, 153, 0, 9, 132, 1, 1, 167, 255, 226, 42, 42, 28, 27, 182, 0, 73, 28, 3, 182, 0, 77, 167, 0, 105, 29, 184, 0, 81, 153, 0, 64] := by decide +kernel
theorem d_R_scan_89 : decode y_R_scan.2.1 89 = .ok (.iload_n 3, 1) := op_iload_n3 (gk (k := 64) (t := 25) ck_R_scan_2 rfl)
theorem lk_R_81 : LkS "SinglesUp$Reader" 81 y_R_isDigit := ⟨tw_c3 19 (by decide +kernel) rfl, Or.inl (tw_c3 18 (by decide +kernel) rfl)⟩
set_option maxRecDepth 100000 in
theorem mo_R_isDigit : MOk y_R_isDigit 1 := ⟨by decide +kernel, tw_c3 20 rfl rfl, tw_c1 8 (by decide +kernel) rfl, by decide +kernel, by decide +kernel, by decide +kernel⟩
theorem d_R_scan_90 : decode y_R_scan.2.1 90 = .ok (.invokestatic 81, 3) := op_invokestatic (gk (k := 64) (t := 26) ck_R_scan_2 rfl) (gk (k := 64) (t := 27) ck_R_scan_2 rfl) (gk (k := 64) (t := 28) ck_R_scan_2 rfl) rfl
theorem d_R_scan_93 : decode y_R_scan.2.1 93 = .ok (.ifCond .eq 64, 3) := op_if_eq (gk (k := 64) (t := 29) ck_R_scan_2 rfl) (gk (k := 64) (t := 30) ck_R_scan_2 rfl) (gk (k := 64) (t := 31) ck_R_scan_2 rfl) (by decide +kernel)
theorem ck_R_scan_4 : (y_R_scan.2.1.data.toList.drop 128).take 32 = [226, 42, 27, 28, 100, 7, 164, 0, 8, 16, 18, 167, 0, 5, 16, 16, 28, 42, 28, 27, 182, 0, 84, 182, 0, 77, 167, 0, 37, 29, 16, 32] := by decide +kernel
theorem d_R_scan_157 : decode y_R_scan.2.1 157 = .ok (.iload_n 3, 1) := op_iload_n3 (gk (k := 128) (t := 29) ck_R_scan_4 rfl)
theorem d_R_scan_158 : decode y_R_scan.2.1 158 = .ok (.bipush 32, 2) := op_bipush (gk (k := 128) (t := 30) ck_R_scan_4 rfl) (gk (k := 128) (t := 31) ck_R_scan_4 rfl) rfl
theorem ck_R_scan_5 : (y_R_scan.2.1.data.toList.drop 160).take 32 = [159, 0, 31, 29, 16, 10, 159, 0, 25, 42, 18, 87, 29, 146, 182, 0, 89, 155, 0, 7, 29, 167, 0, 5, 16, 18, 28, 3, 182, 0, 77, 167] := by decide +kernel
theorem d_R_scan_160 : decode y_R_scan.2.1 160 = .ok (.if_icmp .eq 31, 3) := op_icmp_eq (gk (k := 160) (t := 0) ck_R_scan_5 rfl) (gk (k := 160) (t := 1) ck_R_scan_5 rfl) (gk (k := 160) (t := 2) ck_R_scan_5 rfl) (by decide +kernel)
theorem ck_R_scan_6 : (y_R_scan.2.1.data.toList.drop 192).take 32 = [255, 72, 42, 16, 17, 42, 180, 0, 35, 3, 182, 0, 77, 177] := by decide +kernel
theorem d_R_scan_191 : decode y_R_scan.2.1 191 = .ok (.goto (-184), 3) := op_goto (gk (k := 160) (t := 31) ck_R_scan_5 rfl) (gk (k := 192) (t := 0) ck_R_scan_6 rfl) (gk (k := 192) (t := 1) ck_R_scan_6 rfl) (by decide +kernel)
theorem d_R_scan_163 : decode y_R_scan.2.1 163 = .ok (.iload_n 3, 1) := op_iload_n3 (gk (k := 160) (t := 3) ck_R_scan_5 rfl)
theorem d_R_scan_164 : decode y_R_scan.2.1 164 = .ok (.bipush 10, 2) := op_bipush (gk (k := 160) (t := 4) ck_R_scan_5 rfl) (gk (k := 160) (t := 5) ck_R_scan_5 rfl) rfl
theorem in_10 : inr (10) := lit_in rfl
theorem d_R_scan_166 : decode y_R_scan.2.1 166 = .ok (.if_icmp .eq 25, 3) := op_icmp_eq (gk (k := 160) (t := 6) ck_R_scan_5 rfl) (gk (k := 160) (t := 7) ck_R_scan_5 rfl) (gk (k := 160) (t := 8) ck_R_scan_5 rfl) (by decide +kernel)
theorem d_R_scan_169 : decode y_R_scan.2.1 169 = .ok (.aload_n 0, 1) := op_aload_n0 (gk (k := 160) (t := 9) ck_R_scan_5 rfl)
theorem d_R_scan_170 : decode y_R_scan.2.1 170 = .ok (.ldc 87, 2) := op_ldc (gk (k := 160) (t := 10) ck_R_scan_5 rfl) (gk (k := 160) (t := 11) ck_R_scan_5 rfl) rfl
theorem d_R_scan_172 : decode y_R_scan.2.1 172 = .ok (.iload_n 3, 1) := op_iload_n3 (gk (k := 160) (t := 12) ck_R_scan_5 rfl)
theorem d_R_scan_173 : decode y_R_scan.2.1 173 = .ok (.i2c, 1) := by decide +kernel
theorem lk_R_89 : LkV "SinglesUp$Reader" 89 y_JS_indexOf := ⟨tw_c3 30 (by decide +kernel) rfl, tw_c3 31 (by decide +kernel) rfl, Or.inl (tw_c3 29 (by decide +kernel) rfl)⟩
set_option maxRecDepth 100000 in
theorem mo_JS_indexOf : MOk y_JS_indexOf 1 := ⟨by decide +kernel, tw_c3 32 rfl rfl, tw_c1 13 (by decide +kernel) rfl, by decide +kernel, by decide +kernel, by decide +kernel⟩
theorem d_R_scan_174 : decode y_R_scan.2.1 174 = .ok (.invokevirtual 89, 3) := op_invokevirtual (gk (k := 160) (t := 14) ck_R_scan_5 rfl) (gk (k := 160) (t := 15) ck_R_scan_5 rfl) (gk (k := 160) (t := 16) ck_R_scan_5 rfl) rfl
theorem d_R_scan_186 : decode y_R_scan.2.1 186 = .ok (.iload_n 2, 1) := op_iload_n2 (gk (k := 160) (t := 26) ck_R_scan_5 rfl)
theorem d_R_scan_187 : decode y_R_scan.2.1 187 = .ok (.iconst 0, 1) := op_iconst0 (gk (k := 160) (t := 27) ck_R_scan_5 rfl)
theorem lk_R_77 : LkV "SinglesUp$Reader" 77 y_R_addToken := ⟨tw_c3 16 (by decide +kernel) rfl, tw_in 4 (by decide +kernel) rfl, Or.inl (tw_c3 14 (by decide +kernel) rfl)⟩
set_option maxRecDepth 100000 in
theorem mo_R_addToken : MOk y_R_addToken 3 := ⟨by decide +kernel, tw_c3 17 rfl rfl, tw_c1 8 (by decide +kernel) rfl, by decide +kernel, by decide +kernel, by decide +kernel⟩
theorem d_R_scan_188 : decode y_R_scan.2.1 188 = .ok (.invokevirtual 77, 3) := op_invokevirtual (gk (k := 160) (t := 28) ck_R_scan_5 rfl) (gk (k := 160) (t := 29) ck_R_scan_5 rfl) (gk (k := 160) (t := 30) ck_R_scan_5 rfl) rfl
theorem d_R_scan_177 : decode y_R_scan.2.1 177 = .ok (.ifCond .lt 7, 3) := op_if_lt (gk (k := 160) (t := 17) ck_R_scan_5 rfl) (gk (k := 160) (t := 18) ck_R_scan_5 rfl) (gk (k := 160) (t := 19) ck_R_scan_5 rfl) (by decide +kernel)
theorem d_R_scan_184 : decode y_R_scan.2.1 184 = .ok (.bipush 18, 2) := op_bipush (gk (k := 160) (t := 24) ck_R_scan_5 rfl) (gk (k := 160) (t := 25) ck_R_scan_5 rfl) rfl
theorem d_R_scan_180 : decode y_R_scan.2.1 180 = .ok (.iload_n 3, 1) := op_iload_n3 (gk (k := 160) (t := 20) ck_R_scan_5 rfl)
theorem d_R_scan_181 : decode y_R_scan.2.1 181 = .ok (.goto 5, 3) := op_goto (gk (k := 160) (t := 21) ck_R_scan_5 rfl) (gk (k := 160) (t := 22) ck_R_scan_5 rfl) (gk (k := 160) (t := 23) ck_R_scan_5 rfl) (by decide +kernel)
theorem ck_R_scan_3 : (y_R_scan.2.1.data.toList.drop 96).take 32 = [27, 42, 180, 0, 35, 162, 0, 28, 27, 17, 1, 144, 162, 0, 21, 42, 180, 0, 11, 27, 46, 184, 0, 81, 153, 0, 9, 132, 1, 1, 167, 255] := by decide +kernel
theorem d_R_scan_96 : decode y_R_scan.2.1 96 = .ok (.iload_n 1, 1) := op_iload_n1 (gk (k := 96) (t := 0) ck_R_scan_3 rfl)
theorem d_R_scan_97 : decode y_R_scan.2.1 97 = .ok (.aload_n 0, 1) := op_aload_n0 (gk (k := 96) (t := 1) ck_R_scan_3 rfl)
theorem d_R_scan_98 : decode y_R_scan.2.1 98 = .ok (.getfield 35, 3) := op_getfield (gk (k := 96) (t := 2) ck_R_scan_3 rfl) (gk (k := 96) (t := 3) ck_R_scan_3 rfl) (gk (k := 96) (t := 4) ck_R_scan_3 rfl) rfl
theorem d_R_scan_101 : decode y_R_scan.2.1 101 = .ok (.if_icmp .ge 28, 3) := op_icmp_ge (gk (k := 96) (t := 5) ck_R_scan_3 rfl) (gk (k := 96) (t := 6) ck_R_scan_3 rfl) (gk (k := 96) (t := 7) ck_R_scan_3 rfl) (by decide +kernel)
theorem d_R_scan_104 : decode y_R_scan.2.1 104 = .ok (.iload_n 1, 1) := op_iload_n1 (gk (k := 96) (t := 8) ck_R_scan_3 rfl)
theorem d_R_scan_105 : decode y_R_scan.2.1 105 = .ok (.sipush 400, 3) := op_sipush (gk (k := 96) (t := 9) ck_R_scan_3 rfl) (gk (k := 96) (t := 10) ck_R_scan_3 rfl) (gk (k := 96) (t := 11) ck_R_scan_3 rfl) (by decide +kernel)
theorem d_R_scan_108 : decode y_R_scan.2.1 108 = .ok (.if_icmp .ge 21, 3) := op_icmp_ge (gk (k := 96) (t := 12) ck_R_scan_3 rfl) (gk (k := 96) (t := 13) ck_R_scan_3 rfl) (gk (k := 96) (t := 14) ck_R_scan_3 rfl) (by decide +kernel)
theorem d_R_scan_111 : decode y_R_scan.2.1 111 = .ok (.aload_n 0, 1) := op_aload_n0 (gk (k := 96) (t := 15) ck_R_scan_3 rfl)
theorem d_R_scan_112 : decode y_R_scan.2.1 112 = .ok (.getfield 11, 3) := op_getfield (gk (k := 96) (t := 16) ck_R_scan_3 rfl) (gk (k := 96) (t := 17) ck_R_scan_3 rfl) (gk (k := 96) (t := 18) ck_R_scan_3 rfl) rfl
theorem d_R_scan_115 : decode y_R_scan.2.1 115 = .ok (.iload_n 1, 1) := op_iload_n1 (gk (k := 96) (t := 19) ck_R_scan_3 rfl)
theorem d_R_scan_116 : decode y_R_scan.2.1 116 = .ok (.iaload, 1) := op_iaload (gk (k := 96) (t := 20) ck_R_scan_3 rfl)
theorem d_R_scan_117 : decode y_R_scan.2.1 117 = .ok (.invokestatic 81, 3) := op_invokestatic (gk (k := 96) (t := 21) ck_R_scan_3 rfl) (gk (k := 96) (t := 22) ck_R_scan_3 rfl) (gk (k := 96) (t := 23) ck_R_scan_3 rfl) rfl
theorem d_R_scan_120 : decode y_R_scan.2.1 120 = .ok (.ifCond .eq 9, 3) := op_if_eq (gk (k := 96) (t := 24) ck_R_scan_3 rfl) (gk (k := 96) (t := 25) ck_R_scan_3 rfl) (gk (k := 96) (t := 26) ck_R_scan_3 rfl) (by decide +kernel)
theorem d_R_scan_123 : decode y_R_scan.2.1 123 = .ok (.iinc 1 1, 3) := op_iinc (gk (k := 96) (t := 27) ck_R_scan_3 rfl) (gk (k := 96) (t := 28) ck_R_scan_3 rfl) (gk (k := 96) (t := 29) ck_R_scan_3 rfl) rfl rfl
theorem d_R_scan_126 : decode y_R_scan.2.1 126 = .ok (.goto (-30), 3) := op_goto (gk (k := 96) (t := 30) ck_R_scan_3 rfl) (gk (k := 96) (t := 31) ck_R_scan_3 rfl) (gk (k := 128) (t := 0) ck_R_scan_4 rfl) (by decide +kernel)
theorem d_R_scan_129 : decode y_R_scan.2.1 129 = .ok (.aload_n 0, 1) := op_aload_n0 (gk (k := 128) (t := 1) ck_R_scan_4 rfl)
theorem d_R_scan_130 : decode y_R_scan.2.1 130 = .ok (.iload_n 1, 1) := op_iload_n1 (gk (k := 128) (t := 2) ck_R_scan_4 rfl)
theorem d_R_scan_131 : decode y_R_scan.2.1 131 = .ok (.iload_n 2, 1) := op_iload_n2 (gk (k := 128) (t := 3) ck_R_scan_4 rfl)
theorem d_R_scan_132 : decode y_R_scan.2.1 132 = .ok (.isub, 1) := op_isub (gk (k := 128) (t := 4) ck_R_scan_4 rfl)
theorem d_R_scan_133 : decode y_R_scan.2.1 133 = .ok (.iconst 4, 1) := op_iconst4 (gk (k := 128) (t := 5) ck_R_scan_4 rfl)
theorem d_R_scan_144 : decode y_R_scan.2.1 144 = .ok (.iload_n 2, 1) := op_iload_n2 (gk (k := 128) (t := 16) ck_R_scan_4 rfl)
theorem d_R_scan_145 : decode y_R_scan.2.1 145 = .ok (.aload_n 0, 1) := op_aload_n0 (gk (k := 128) (t := 17) ck_R_scan_4 rfl)
theorem d_R_scan_146 : decode y_R_scan.2.1 146 = .ok (.iload_n 2, 1) := op_iload_n2 (gk (k := 128) (t := 18) ck_R_scan_4 rfl)
theorem d_R_scan_147 : decode y_R_scan.2.1 147 = .ok (.iload_n 1, 1) := op_iload_n1 (gk (k := 128) (t := 19) ck_R_scan_4 rfl)
theorem lk_R_84 : LkV "SinglesUp$Reader" 84 y_R_numberAt := ⟨tw_c3 23 (by decide +kernel) rfl, tw_in 5 (by decide +kernel) rfl, Or.inl (tw_c3 21 (by decide +kernel) rfl)⟩
set_option maxRecDepth 100000 in
theorem mo_R_numberAt : MOk y_R_numberAt 2 := ⟨by decide +kernel, tw_c3 24 rfl rfl, tw_c1 8 (by decide +kernel) rfl, by decide +kernel, by decide +kernel, by decide +kernel⟩
theorem d_R_scan_148 : decode y_R_scan.2.1 148 = .ok (.invokevirtual 84, 3) := op_invokevirtual (gk (k := 128) (t := 20) ck_R_scan_4 rfl) (gk (k := 128) (t := 21) ck_R_scan_4 rfl) (gk (k := 128) (t := 22) ck_R_scan_4 rfl) rfl
theorem d_R_scan_151 : decode y_R_scan.2.1 151 = .ok (.invokevirtual 77, 3) := op_invokevirtual (gk (k := 128) (t := 23) ck_R_scan_4 rfl) (gk (k := 128) (t := 24) ck_R_scan_4 rfl) (gk (k := 128) (t := 25) ck_R_scan_4 rfl) rfl
theorem d_R_scan_154 : decode y_R_scan.2.1 154 = .ok (.goto 37, 3) := op_goto (gk (k := 128) (t := 26) ck_R_scan_4 rfl) (gk (k := 128) (t := 27) ck_R_scan_4 rfl) (gk (k := 128) (t := 28) ck_R_scan_4 rfl) (by decide +kernel)
theorem d_R_scan_134 : decode y_R_scan.2.1 134 = .ok (.if_icmp .le 8, 3) := op_icmp_le (gk (k := 128) (t := 6) ck_R_scan_4 rfl) (gk (k := 128) (t := 7) ck_R_scan_4 rfl) (gk (k := 128) (t := 8) ck_R_scan_4 rfl) (by decide +kernel)
theorem d_R_scan_142 : decode y_R_scan.2.1 142 = .ok (.bipush 16, 2) := op_bipush (gk (k := 128) (t := 14) ck_R_scan_4 rfl) (gk (k := 128) (t := 15) ck_R_scan_4 rfl) rfl
theorem d_R_scan_137 : decode y_R_scan.2.1 137 = .ok (.bipush 18, 2) := op_bipush (gk (k := 128) (t := 9) ck_R_scan_4 rfl) (gk (k := 128) (t := 10) ck_R_scan_4 rfl) rfl
theorem d_R_scan_139 : decode y_R_scan.2.1 139 = .ok (.goto 5, 3) := op_goto (gk (k := 128) (t := 11) ck_R_scan_4 rfl) (gk (k := 128) (t := 12) ck_R_scan_4 rfl) (gk (k := 128) (t := 13) ck_R_scan_4 rfl) (by decide +kernel)
theorem d_R_scan_41 : decode y_R_scan.2.1 41 = .ok (.iload_n 1, 1) := op_iload_n1 (gk (k := 32) (t := 9) ck_R_scan_1 rfl)
theorem d_R_scan_42 : decode y_R_scan.2.1 42 = .ok (.aload_n 0, 1) := op_aload_n0 (gk (k := 32) (t := 10) ck_R_scan_1 rfl)
theorem d_R_scan_43 : decode y_R_scan.2.1 43 = .ok (.getfield 35, 3) := op_getfield (gk (k := 32) (t := 11) ck_R_scan_1 rfl) (gk (k := 32) (t := 12) ck_R_scan_1 rfl) (gk (k := 32) (t := 13) ck_R_scan_1 rfl) rfl
theorem d_R_scan_46 : decode y_R_scan.2.1 46 = .ok (.if_icmp .ge 28, 3) := op_icmp_ge (gk (k := 32) (t := 14) ck_R_scan_1 rfl) (gk (k := 32) (t := 15) ck_R_scan_1 rfl) (gk (k := 32) (t := 16) ck_R_scan_1 rfl) (by decide +kernel)
theorem d_R_scan_49 : decode y_R_scan.2.1 49 = .ok (.iload_n 1, 1) := op_iload_n1 (gk (k := 32) (t := 17) ck_R_scan_1 rfl)
theorem d_R_scan_50 : decode y_R_scan.2.1 50 = .ok (.sipush 400, 3) := op_sipush (gk (k := 32) (t := 18) ck_R_scan_1 rfl) (gk (k := 32) (t := 19) ck_R_scan_1 rfl) (gk (k := 32) (t := 20) ck_R_scan_1 rfl) (by decide +kernel)
theorem d_R_scan_53 : decode y_R_scan.2.1 53 = .ok (.if_icmp .ge 21, 3) := op_icmp_ge (gk (k := 32) (t := 21) ck_R_scan_1 rfl) (gk (k := 32) (t := 22) ck_R_scan_1 rfl) (gk (k := 32) (t := 23) ck_R_scan_1 rfl) (by decide +kernel)
theorem d_R_scan_56 : decode y_R_scan.2.1 56 = .ok (.aload_n 0, 1) := op_aload_n0 (gk (k := 32) (t := 24) ck_R_scan_1 rfl)
theorem d_R_scan_57 : decode y_R_scan.2.1 57 = .ok (.getfield 11, 3) := op_getfield (gk (k := 32) (t := 25) ck_R_scan_1 rfl) (gk (k := 32) (t := 26) ck_R_scan_1 rfl) (gk (k := 32) (t := 27) ck_R_scan_1 rfl) rfl
theorem d_R_scan_60 : decode y_R_scan.2.1 60 = .ok (.iload_n 1, 1) := op_iload_n1 (gk (k := 32) (t := 28) ck_R_scan_1 rfl)
theorem d_R_scan_61 : decode y_R_scan.2.1 61 = .ok (.iaload, 1) := op_iaload (gk (k := 32) (t := 29) ck_R_scan_1 rfl)
theorem d_R_scan_62 : decode y_R_scan.2.1 62 = .ok (.invokestatic 69, 3) := op_invokestatic (gk (k := 32) (t := 30) ck_R_scan_1 rfl) (gk (k := 32) (t := 31) ck_R_scan_1 rfl) (gk (k := 64) (t := 0) ck_R_scan_2 rfl) rfl
theorem d_R_scan_65 : decode y_R_scan.2.1 65 = .ok (.ifCond .eq 9, 3) := op_if_eq (gk (k := 64) (t := 1) ck_R_scan_2 rfl) (gk (k := 64) (t := 2) ck_R_scan_2 rfl) (gk (k := 64) (t := 3) ck_R_scan_2 rfl) (by decide +kernel)
theorem d_R_scan_68 : decode y_R_scan.2.1 68 = .ok (.iinc 1 1, 3) := op_iinc (gk (k := 64) (t := 4) ck_R_scan_2 rfl) (gk (k := 64) (t := 5) ck_R_scan_2 rfl) (gk (k := 64) (t := 6) ck_R_scan_2 rfl) rfl rfl
theorem d_R_scan_71 : decode y_R_scan.2.1 71 = .ok (.goto (-30), 3) := op_goto (gk (k := 64) (t := 7) ck_R_scan_2 rfl) (gk (k := 64) (t := 8) ck_R_scan_2 rfl) (gk (k := 64) (t := 9) ck_R_scan_2 rfl) (by decide +kernel)
theorem d_R_scan_74 : decode y_R_scan.2.1 74 = .ok (.aload_n 0, 1) := op_aload_n0 (gk (k := 64) (t := 10) ck_R_scan_2 rfl)
theorem d_R_scan_75 : decode y_R_scan.2.1 75 = .ok (.aload_n 0, 1) := op_aload_n0 (gk (k := 64) (t := 11) ck_R_scan_2 rfl)
theorem d_R_scan_76 : decode y_R_scan.2.1 76 = .ok (.iload_n 2, 1) := op_iload_n2 (gk (k := 64) (t := 12) ck_R_scan_2 rfl)
theorem d_R_scan_77 : decode y_R_scan.2.1 77 = .ok (.iload_n 1, 1) := op_iload_n1 (gk (k := 64) (t := 13) ck_R_scan_2 rfl)
theorem lk_R_73 : LkV "SinglesUp$Reader" 73 y_R_wordAt := ⟨tw_c2 203 (by decide +kernel) rfl, tw_in 3 (by decide +kernel) rfl, Or.inl (tw_c2 201 (by decide +kernel) rfl)⟩
set_option maxRecDepth 100000 in
theorem mo_R_wordAt : MOk y_R_wordAt 2 := ⟨by decide +kernel, tw_c2 204 rfl rfl, tw_c1 8 (by decide +kernel) rfl, by decide +kernel, by decide +kernel, by decide +kernel⟩
theorem d_R_scan_78 : decode y_R_scan.2.1 78 = .ok (.invokevirtual 73, 3) := op_invokevirtual (gk (k := 64) (t := 14) ck_R_scan_2 rfl) (gk (k := 64) (t := 15) ck_R_scan_2 rfl) (gk (k := 64) (t := 16) ck_R_scan_2 rfl) rfl
theorem d_R_scan_81 : decode y_R_scan.2.1 81 = .ok (.iload_n 2, 1) := op_iload_n2 (gk (k := 64) (t := 17) ck_R_scan_2 rfl)
theorem d_R_scan_82 : decode y_R_scan.2.1 82 = .ok (.iconst 0, 1) := op_iconst0 (gk (k := 64) (t := 18) ck_R_scan_2 rfl)
theorem d_R_scan_83 : decode y_R_scan.2.1 83 = .ok (.invokevirtual 77, 3) := op_invokevirtual (gk (k := 64) (t := 19) ck_R_scan_2 rfl) (gk (k := 64) (t := 20) ck_R_scan_2 rfl) (gk (k := 64) (t := 21) ck_R_scan_2 rfl) rfl
theorem d_R_scan_86 : decode y_R_scan.2.1 86 = .ok (.goto 105, 3) := op_goto (gk (k := 64) (t := 22) ck_R_scan_2 rfl) (gk (k := 64) (t := 23) ck_R_scan_2 rfl) (gk (k := 64) (t := 24) ck_R_scan_2 rfl) (by decide +kernel)
theorem d_R_scan_194 : decode y_R_scan.2.1 194 = .ok (.aload_n 0, 1) := op_aload_n0 (gk (k := 192) (t := 2) ck_R_scan_6 rfl)
theorem cb_17 : (Int8.ofInt 17).toInt32 = iv 17 := by decide +kernel
theorem d_R_scan_195 : decode y_R_scan.2.1 195 = .ok (.bipush 17, 2) := op_bipush (gk (k := 192) (t := 3) ck_R_scan_6 rfl) (gk (k := 192) (t := 4) ck_R_scan_6 rfl) rfl
theorem d_R_scan_197 : decode y_R_scan.2.1 197 = .ok (.aload_n 0, 1) := op_aload_n0 (gk (k := 192) (t := 5) ck_R_scan_6 rfl)
theorem d_R_scan_198 : decode y_R_scan.2.1 198 = .ok (.getfield 35, 3) := op_getfield (gk (k := 192) (t := 6) ck_R_scan_6 rfl) (gk (k := 192) (t := 7) ck_R_scan_6 rfl) (gk (k := 192) (t := 8) ck_R_scan_6 rfl) rfl
theorem d_R_scan_201 : decode y_R_scan.2.1 201 = .ok (.iconst 0, 1) := op_iconst0 (gk (k := 192) (t := 9) ck_R_scan_6 rfl)
theorem in_17 : inr (17) := lit_in rfl
theorem d_R_scan_202 : decode y_R_scan.2.1 202 = .ok (.invokevirtual 77, 3) := op_invokevirtual (gk (k := 192) (t := 10) ck_R_scan_6 rfl) (gk (k := 192) (t := 11) ck_R_scan_6 rfl) (gk (k := 192) (t := 12) ck_R_scan_6 rfl) rfl
theorem d_R_scan_205 : decode y_R_scan.2.1 205 = .ok (.return_, 1) := op_return_ (gk (k := 192) (t := 13) ck_R_scan_6 rfl)
abbrev y_W_clear : MI := (⟨"SinglesUp$Law", "clear", "()V"⟩, prog_5_method_2_code, 1, none)
theorem ck_W_clear_0 : (y_W_clear.2.1.data.toList.drop 0).take 32 = [42, 3, 181, 0, 22, 42, 3, 181, 0, 26, 177] := by decide +kernel
theorem d_W_clear_0 : decode y_W_clear.2.1 0 = .ok (.aload_n 0, 1) := op_aload_n0 (gk (k := 0) (t := 0) ck_W_clear_0 rfl)
theorem d_W_clear_1 : decode y_W_clear.2.1 1 = .ok (.iconst 0, 1) := op_iconst0 (gk (k := 0) (t := 1) ck_W_clear_0 rfl)
theorem d_W_clear_2 : decode y_W_clear.2.1 2 = .ok (.putfield 22, 3) := op_putfield (gk (k := 0) (t := 2) ck_W_clear_0 rfl) (gk (k := 0) (t := 3) ck_W_clear_0 rfl) (gk (k := 0) (t := 4) ck_W_clear_0 rfl) rfl
theorem d_W_clear_5 : decode y_W_clear.2.1 5 = .ok (.aload_n 0, 1) := op_aload_n0 (gk (k := 0) (t := 5) ck_W_clear_0 rfl)
theorem d_W_clear_6 : decode y_W_clear.2.1 6 = .ok (.iconst 0, 1) := op_iconst0 (gk (k := 0) (t := 6) ck_W_clear_0 rfl)
theorem d_W_clear_7 : decode y_W_clear.2.1 7 = .ok (.putfield 26, 3) := op_putfield (gk (k := 0) (t := 7) ck_W_clear_0 rfl) (gk (k := 0) (t := 8) ck_W_clear_0 rfl) (gk (k := 0) (t := 9) ck_W_clear_0 rfl) rfl
theorem d_W_clear_10 : decode y_W_clear.2.1 10 = .ok (.return_, 1) := op_return_ (gk (k := 0) (t := 10) ck_W_clear_0 rfl)
abbrev y_R_understand : MI := (⟨"SinglesUp$Reader", "understand", "(Z)Z"⟩, prog_9_method_6_code, 3, some .boolean)
theorem ck_R_understand_0 : (y_R_understand.2.1.data.toList.drop 0).take 32 = [42, 182, 0, 41, 42, 182, 0, 44, 42, 27, 181, 0, 47, 42, 180, 0, 31, 182, 0, 51, 42, 2, 181, 0, 54, 42, 182, 0, 57, 3, 61, 28] := by decide +kernel
theorem d_R_understand_0 : decode y_R_understand.2.1 0 = .ok (.aload_n 0, 1) := op_aload_n0 (gk (k := 0) (t := 0) ck_R_understand_0 rfl)
theorem lk_R_41 : LkV "SinglesUp$Reader" 41 y_R_scan := ⟨tw_c2 196 (by decide +kernel) rfl, tw_in 2 (by decide +kernel) rfl, Or.inl (tw_c2 194 (by decide +kernel) rfl)⟩
set_option maxRecDepth 100000 in
theorem mo_R_scan : MOk y_R_scan 0 := ⟨by decide +kernel, tw_c2 197 rfl rfl, tw_c1 8 (by decide +kernel) rfl, by decide +kernel, by decide +kernel, by decide +kernel⟩
theorem d_R_understand_1 : decode y_R_understand.2.1 1 = .ok (.invokevirtual 41, 3) := op_invokevirtual (gk (k := 0) (t := 1) ck_R_understand_0 rfl) (gk (k := 0) (t := 2) ck_R_understand_0 rfl) (gk (k := 0) (t := 3) ck_R_understand_0 rfl) rfl
theorem d_R_understand_4 : decode y_R_understand.2.1 4 = .ok (.aload_n 0, 1) := op_aload_n0 (gk (k := 0) (t := 4) ck_R_understand_0 rfl)
theorem lk_R_44 : LkV "SinglesUp$Reader" 44 y_R_forget := ⟨tw_c2 187 (by decide +kernel) rfl, tw_c2 188 (by decide +kernel) rfl, Or.inl (tw_c3 86 (by decide +kernel) rfl)⟩
set_option maxRecDepth 100000 in
theorem mo_R_forget : MOk y_R_forget 0 := ⟨by decide +kernel, tw_c2 189 rfl rfl, tw_c1 8 (by decide +kernel) rfl, by decide +kernel, by decide +kernel, by decide +kernel⟩
theorem d_R_understand_5 : decode y_R_understand.2.1 5 = .ok (.invokevirtual 44, 3) := op_invokevirtual (gk (k := 0) (t := 5) ck_R_understand_0 rfl) (gk (k := 0) (t := 6) ck_R_understand_0 rfl) (gk (k := 0) (t := 7) ck_R_understand_0 rfl) rfl
theorem d_R_understand_8 : decode y_R_understand.2.1 8 = .ok (.aload_n 0, 1) := op_aload_n0 (gk (k := 0) (t := 8) ck_R_understand_0 rfl)
theorem d_R_understand_9 : decode y_R_understand.2.1 9 = .ok (.iload_n 1, 1) := op_iload_n1 (gk (k := 0) (t := 9) ck_R_understand_0 rfl)
theorem d_R_understand_10 : decode y_R_understand.2.1 10 = .ok (.putfield 47, 3) := op_putfield (gk (k := 0) (t := 10) ck_R_understand_0 rfl) (gk (k := 0) (t := 11) ck_R_understand_0 rfl) (gk (k := 0) (t := 12) ck_R_understand_0 rfl) rfl
theorem d_R_understand_13 : decode y_R_understand.2.1 13 = .ok (.aload_n 0, 1) := op_aload_n0 (gk (k := 0) (t := 13) ck_R_understand_0 rfl)
theorem d_R_understand_14 : decode y_R_understand.2.1 14 = .ok (.getfield 31, 3) := op_getfield (gk (k := 0) (t := 14) ck_R_understand_0 rfl) (gk (k := 0) (t := 15) ck_R_understand_0 rfl) (gk (k := 0) (t := 16) ck_R_understand_0 rfl) rfl
theorem lk_R_51 : LkV "SinglesUp$Reader" 51 y_W_clear := ⟨tw_c3 88 (by decide +kernel) rfl, tw_c3 89 (by decide +kernel) rfl, Or.inl (tw_c3 87 (by decide +kernel) rfl)⟩
set_option maxRecDepth 100000 in
theorem mo_W_clear : MOk y_W_clear 0 := ⟨by decide +kernel, tw_c3 90 rfl rfl, tw_c1 5 (by decide +kernel) rfl, by decide +kernel, by decide +kernel, by decide +kernel⟩
theorem d_R_understand_17 : decode y_R_understand.2.1 17 = .ok (.invokevirtual 51, 3) := op_invokevirtual (gk (k := 0) (t := 17) ck_R_understand_0 rfl) (gk (k := 0) (t := 18) ck_R_understand_0 rfl) (gk (k := 0) (t := 19) ck_R_understand_0 rfl) rfl
theorem d_R_understand_20 : decode y_R_understand.2.1 20 = .ok (.aload_n 0, 1) := op_aload_n0 (gk (k := 0) (t := 20) ck_R_understand_0 rfl)
theorem d_R_understand_21 : decode y_R_understand.2.1 21 = .ok (.iconst (-1), 1) := op_iconstm1 (gk (k := 0) (t := 21) ck_R_understand_0 rfl)
theorem d_R_understand_22 : decode y_R_understand.2.1 22 = .ok (.putfield 54, 3) := op_putfield (gk (k := 0) (t := 22) ck_R_understand_0 rfl) (gk (k := 0) (t := 23) ck_R_understand_0 rfl) (gk (k := 0) (t := 24) ck_R_understand_0 rfl) rfl
theorem d_R_understand_25 : decode y_R_understand.2.1 25 = .ok (.aload_n 0, 1) := op_aload_n0 (gk (k := 0) (t := 25) ck_R_understand_0 rfl)
theorem d_R_understand_26 : decode y_R_understand.2.1 26 = .ok (.invokevirtual 57, 3) := op_invokevirtual (gk (k := 0) (t := 26) ck_R_understand_0 rfl) (gk (k := 0) (t := 27) ck_R_understand_0 rfl) (gk (k := 0) (t := 28) ck_R_understand_0 rfl) rfl
theorem d_R_understand_29 : decode y_R_understand.2.1 29 = .ok (.iconst 0, 1) := op_iconst0 (gk (k := 0) (t := 29) ck_R_understand_0 rfl)
theorem d_R_understand_30 : decode y_R_understand.2.1 30 = .ok (.istore_n 2, 1) := op_istore_n2 (gk (k := 0) (t := 30) ck_R_understand_0 rfl)
theorem d_R_understand_31 : decode y_R_understand.2.1 31 = .ok (.iload_n 2, 1) := op_iload_n2 (gk (k := 0) (t := 31) ck_R_understand_0 rfl)
theorem ck_R_understand_1 : (y_R_understand.2.1.data.toList.drop 32).take 32 = [17, 1, 144, 162, 0, 29, 42, 180, 0, 38, 154, 0, 22, 42, 180, 0, 60, 16, 17, 159, 0, 13, 42, 182, 0, 63, 132, 2, 1, 167, 255, 226] := by decide +kernel
theorem d_R_understand_32 : decode y_R_understand.2.1 32 = .ok (.sipush 400, 3) := op_sipush (gk (k := 32) (t := 0) ck_R_understand_1 rfl) (gk (k := 32) (t := 1) ck_R_understand_1 rfl) (gk (k := 32) (t := 2) ck_R_understand_1 rfl) (by decide +kernel)
theorem d_R_understand_35 : decode y_R_understand.2.1 35 = .ok (.if_icmp .ge 29, 3) := op_icmp_ge (gk (k := 32) (t := 3) ck_R_understand_1 rfl) (gk (k := 32) (t := 4) ck_R_understand_1 rfl) (gk (k := 32) (t := 5) ck_R_understand_1 rfl) (by decide +kernel)
theorem d_R_understand_38 : decode y_R_understand.2.1 38 = .ok (.aload_n 0, 1) := op_aload_n0 (gk (k := 32) (t := 6) ck_R_understand_1 rfl)
theorem d_R_understand_39 : decode y_R_understand.2.1 39 = .ok (.getfield 38, 3) := op_getfield (gk (k := 32) (t := 7) ck_R_understand_1 rfl) (gk (k := 32) (t := 8) ck_R_understand_1 rfl) (gk (k := 32) (t := 9) ck_R_understand_1 rfl) rfl
theorem d_R_understand_42 : decode y_R_understand.2.1 42 = .ok (.ifCond .ne 22, 3) := op_if_ne (gk (k := 32) (t := 10) ck_R_understand_1 rfl) (gk (k := 32) (t := 11) ck_R_understand_1 rfl) (gk (k := 32) (t := 12) ck_R_understand_1 rfl) (by decide +kernel)
theorem d_R_understand_45 : decode y_R_understand.2.1 45 = .ok (.aload_n 0, 1) := op_aload_n0 (gk (k := 32) (t := 13) ck_R_understand_1 rfl)
theorem d_R_understand_46 : decode y_R_understand.2.1 46 = .ok (.getfield 60, 3) := op_getfield (gk (k := 32) (t := 14) ck_R_understand_1 rfl) (gk (k := 32) (t := 15) ck_R_understand_1 rfl) (gk (k := 32) (t := 16) ck_R_understand_1 rfl) rfl
theorem d_R_understand_49 : decode y_R_understand.2.1 49 = .ok (.bipush 17, 2) := op_bipush (gk (k := 32) (t := 17) ck_R_understand_1 rfl) (gk (k := 32) (t := 18) ck_R_understand_1 rfl) rfl
theorem d_R_understand_51 : decode y_R_understand.2.1 51 = .ok (.if_icmp .eq 13, 3) := op_icmp_eq (gk (k := 32) (t := 19) ck_R_understand_1 rfl) (gk (k := 32) (t := 20) ck_R_understand_1 rfl) (gk (k := 32) (t := 21) ck_R_understand_1 rfl) (by decide +kernel)
theorem d_R_understand_54 : decode y_R_understand.2.1 54 = .ok (.aload_n 0, 1) := op_aload_n0 (gk (k := 32) (t := 22) ck_R_understand_1 rfl)
theorem lk_R_63 : LkV "SinglesUp$Reader" 63 y_R_readLine := ⟨tw_c3 97 (by decide +kernel) rfl, tw_in 7 (by decide +kernel) rfl, Or.inl (tw_c3 95 (by decide +kernel) rfl)⟩
set_option maxRecDepth 100000 in
theorem mo_R_readLine : MOk y_R_readLine 0 := ⟨by decide +kernel, tw_c3 98 rfl rfl, tw_c1 8 (by decide +kernel) rfl, by decide +kernel, by decide +kernel, by decide +kernel⟩
theorem d_R_understand_55 : decode y_R_understand.2.1 55 = .ok (.invokevirtual 63, 3) := op_invokevirtual (gk (k := 32) (t := 23) ck_R_understand_1 rfl) (gk (k := 32) (t := 24) ck_R_understand_1 rfl) (gk (k := 32) (t := 25) ck_R_understand_1 rfl) rfl
theorem d_R_understand_58 : decode y_R_understand.2.1 58 = .ok (.iinc 2 1, 3) := op_iinc (gk (k := 32) (t := 26) ck_R_understand_1 rfl) (gk (k := 32) (t := 27) ck_R_understand_1 rfl) (gk (k := 32) (t := 28) ck_R_understand_1 rfl) rfl rfl
theorem d_R_understand_61 : decode y_R_understand.2.1 61 = .ok (.goto (-30), 3) := op_goto (gk (k := 32) (t := 29) ck_R_understand_1 rfl) (gk (k := 32) (t := 30) ck_R_understand_1 rfl) (gk (k := 32) (t := 31) ck_R_understand_1 rfl) (by decide +kernel)
theorem ck_R_understand_2 : (y_R_understand.2.1.data.toList.drop 64).take 32 = [42, 180, 0, 38, 154, 0, 7, 4, 167, 0, 4, 3, 172] := by decide +kernel
theorem d_R_understand_64 : decode y_R_understand.2.1 64 = .ok (.aload_n 0, 1) := op_aload_n0 (gk (k := 64) (t := 0) ck_R_understand_2 rfl)
theorem d_R_understand_65 : decode y_R_understand.2.1 65 = .ok (.getfield 38, 3) := op_getfield (gk (k := 64) (t := 1) ck_R_understand_2 rfl) (gk (k := 64) (t := 2) ck_R_understand_2 rfl) (gk (k := 64) (t := 3) ck_R_understand_2 rfl) rfl
theorem d_R_understand_68 : decode y_R_understand.2.1 68 = .ok (.ifCond .ne 7, 3) := op_if_ne (gk (k := 64) (t := 4) ck_R_understand_2 rfl) (gk (k := 64) (t := 5) ck_R_understand_2 rfl) (gk (k := 64) (t := 6) ck_R_understand_2 rfl) (by decide +kernel)
theorem d_R_understand_75 : decode y_R_understand.2.1 75 = .ok (.iconst 0, 1) := op_iconst0 (gk (k := 64) (t := 11) ck_R_understand_2 rfl)
theorem d_R_understand_76 : decode y_R_understand.2.1 76 = .ok (.ireturn, 1) := op_ireturn (gk (k := 64) (t := 12) ck_R_understand_2 rfl)
theorem d_R_understand_71 : decode y_R_understand.2.1 71 = .ok (.iconst 1, 1) := op_iconst1 (gk (k := 64) (t := 7) ck_R_understand_2 rfl)
theorem d_R_understand_72 : decode y_R_understand.2.1 72 = .ok (.goto 4, 3) := op_goto (gk (k := 64) (t := 8) ck_R_understand_2 rfl) (gk (k := 64) (t := 9) ck_R_understand_2 rfl) (gk (k := 64) (t := 10) ck_R_understand_2 rfl) (by decide +kernel)
abbrev y_W_copyFrom : MI := (⟨"SinglesUp$Law", "copyFrom", "(LSinglesUp$Law;)V"⟩, prog_5_method_7_code, 2, none)
theorem ck_W_copyFrom_0 : (y_W_copyFrom.2.1.data.toList.drop 0).take 32 = [42, 43, 180, 0, 22, 181, 0, 22, 42, 43, 180, 0, 26, 181, 0, 26, 43, 180, 0, 9, 3, 42, 180, 0, 9, 3, 17, 1, 144, 184, 0, 29] := by decide +kernel
theorem d_W_copyFrom_0 : decode y_W_copyFrom.2.1 0 = .ok (.aload_n 0, 1) := op_aload_n0 (gk (k := 0) (t := 0) ck_W_copyFrom_0 rfl)
theorem d_W_copyFrom_1 : decode y_W_copyFrom.2.1 1 = .ok (.aload_n 1, 1) := op_aload_n1 (gk (k := 0) (t := 1) ck_W_copyFrom_0 rfl)
theorem d_W_copyFrom_2 : decode y_W_copyFrom.2.1 2 = .ok (.getfield 22, 3) := op_getfield (gk (k := 0) (t := 2) ck_W_copyFrom_0 rfl) (gk (k := 0) (t := 3) ck_W_copyFrom_0 rfl) (gk (k := 0) (t := 4) ck_W_copyFrom_0 rfl) rfl
theorem d_W_copyFrom_5 : decode y_W_copyFrom.2.1 5 = .ok (.putfield 22, 3) := op_putfield (gk (k := 0) (t := 5) ck_W_copyFrom_0 rfl) (gk (k := 0) (t := 6) ck_W_copyFrom_0 rfl) (gk (k := 0) (t := 7) ck_W_copyFrom_0 rfl) rfl
theorem d_W_copyFrom_8 : decode y_W_copyFrom.2.1 8 = .ok (.aload_n 0, 1) := op_aload_n0 (gk (k := 0) (t := 8) ck_W_copyFrom_0 rfl)
theorem d_W_copyFrom_9 : decode y_W_copyFrom.2.1 9 = .ok (.aload_n 1, 1) := op_aload_n1 (gk (k := 0) (t := 9) ck_W_copyFrom_0 rfl)
theorem d_W_copyFrom_10 : decode y_W_copyFrom.2.1 10 = .ok (.getfield 26, 3) := op_getfield (gk (k := 0) (t := 10) ck_W_copyFrom_0 rfl) (gk (k := 0) (t := 11) ck_W_copyFrom_0 rfl) (gk (k := 0) (t := 12) ck_W_copyFrom_0 rfl) rfl
theorem d_W_copyFrom_13 : decode y_W_copyFrom.2.1 13 = .ok (.putfield 26, 3) := op_putfield (gk (k := 0) (t := 13) ck_W_copyFrom_0 rfl) (gk (k := 0) (t := 14) ck_W_copyFrom_0 rfl) (gk (k := 0) (t := 15) ck_W_copyFrom_0 rfl) rfl
theorem d_W_copyFrom_16 : decode y_W_copyFrom.2.1 16 = .ok (.aload_n 1, 1) := op_aload_n1 (gk (k := 0) (t := 16) ck_W_copyFrom_0 rfl)
theorem d_W_copyFrom_17 : decode y_W_copyFrom.2.1 17 = .ok (.getfield 9, 3) := op_getfield (gk (k := 0) (t := 17) ck_W_copyFrom_0 rfl) (gk (k := 0) (t := 18) ck_W_copyFrom_0 rfl) (gk (k := 0) (t := 19) ck_W_copyFrom_0 rfl) rfl
theorem d_W_copyFrom_20 : decode y_W_copyFrom.2.1 20 = .ok (.iconst 0, 1) := op_iconst0 (gk (k := 0) (t := 20) ck_W_copyFrom_0 rfl)
theorem d_W_copyFrom_21 : decode y_W_copyFrom.2.1 21 = .ok (.aload_n 0, 1) := op_aload_n0 (gk (k := 0) (t := 21) ck_W_copyFrom_0 rfl)
theorem d_W_copyFrom_22 : decode y_W_copyFrom.2.1 22 = .ok (.getfield 9, 3) := op_getfield (gk (k := 0) (t := 22) ck_W_copyFrom_0 rfl) (gk (k := 0) (t := 23) ck_W_copyFrom_0 rfl) (gk (k := 0) (t := 24) ck_W_copyFrom_0 rfl) rfl
theorem d_W_copyFrom_25 : decode y_W_copyFrom.2.1 25 = .ok (.iconst 0, 1) := op_iconst0 (gk (k := 0) (t := 25) ck_W_copyFrom_0 rfl)
theorem d_W_copyFrom_26 : decode y_W_copyFrom.2.1 26 = .ok (.sipush 400, 3) := op_sipush (gk (k := 0) (t := 26) ck_W_copyFrom_0 rfl) (gk (k := 0) (t := 27) ck_W_copyFrom_0 rfl) (gk (k := 0) (t := 28) ck_W_copyFrom_0 rfl) (by decide +kernel)
theorem lka_W_29 : Cond.methodLink "SinglesUp$Law" 29 arraycopyName ∈ TW := tw_c3 151 (by decide +kernel) rfl
theorem ac_nat : Cond.native arraycopyName ∈ TW := tw_c2 69 (by decide +kernel) rfl
theorem ac_sta : Cond.static arraycopyName ∈ TW := tw_c2 68 (by decide +kernel) rfl
theorem ac_ini : Cond.initialized "java/lang/System" ∈ TW := tw_c1 11 (by decide +kernel) rfl
theorem d_W_copyFrom_29 : decode y_W_copyFrom.2.1 29 = .ok (.invokestatic 29, 3) := op_invokestatic (gk (k := 0) (t := 29) ck_W_copyFrom_0 rfl) (gk (k := 0) (t := 30) ck_W_copyFrom_0 rfl) (gk (k := 0) (t := 31) ck_W_copyFrom_0 rfl) rfl
theorem ck_W_copyFrom_1 : (y_W_copyFrom.2.1.data.toList.drop 32).take 32 = [43, 180, 0, 13, 3, 42, 180, 0, 13, 3, 16, 17, 184, 0, 29, 43, 180, 0, 16, 3, 42, 180, 0, 16, 3, 16, 16, 184, 0, 29, 177] := by decide +kernel
theorem d_W_copyFrom_32 : decode y_W_copyFrom.2.1 32 = .ok (.aload_n 1, 1) := op_aload_n1 (gk (k := 32) (t := 0) ck_W_copyFrom_1 rfl)
theorem d_W_copyFrom_33 : decode y_W_copyFrom.2.1 33 = .ok (.getfield 13, 3) := op_getfield (gk (k := 32) (t := 1) ck_W_copyFrom_1 rfl) (gk (k := 32) (t := 2) ck_W_copyFrom_1 rfl) (gk (k := 32) (t := 3) ck_W_copyFrom_1 rfl) rfl
theorem d_W_copyFrom_36 : decode y_W_copyFrom.2.1 36 = .ok (.iconst 0, 1) := op_iconst0 (gk (k := 32) (t := 4) ck_W_copyFrom_1 rfl)
theorem d_W_copyFrom_37 : decode y_W_copyFrom.2.1 37 = .ok (.aload_n 0, 1) := op_aload_n0 (gk (k := 32) (t := 5) ck_W_copyFrom_1 rfl)
theorem d_W_copyFrom_38 : decode y_W_copyFrom.2.1 38 = .ok (.getfield 13, 3) := op_getfield (gk (k := 32) (t := 6) ck_W_copyFrom_1 rfl) (gk (k := 32) (t := 7) ck_W_copyFrom_1 rfl) (gk (k := 32) (t := 8) ck_W_copyFrom_1 rfl) rfl
theorem d_W_copyFrom_41 : decode y_W_copyFrom.2.1 41 = .ok (.iconst 0, 1) := op_iconst0 (gk (k := 32) (t := 9) ck_W_copyFrom_1 rfl)
theorem d_W_copyFrom_42 : decode y_W_copyFrom.2.1 42 = .ok (.bipush 17, 2) := op_bipush (gk (k := 32) (t := 10) ck_W_copyFrom_1 rfl) (gk (k := 32) (t := 11) ck_W_copyFrom_1 rfl) rfl
theorem d_W_copyFrom_44 : decode y_W_copyFrom.2.1 44 = .ok (.invokestatic 29, 3) := op_invokestatic (gk (k := 32) (t := 12) ck_W_copyFrom_1 rfl) (gk (k := 32) (t := 13) ck_W_copyFrom_1 rfl) (gk (k := 32) (t := 14) ck_W_copyFrom_1 rfl) rfl
theorem d_W_copyFrom_47 : decode y_W_copyFrom.2.1 47 = .ok (.aload_n 1, 1) := op_aload_n1 (gk (k := 32) (t := 15) ck_W_copyFrom_1 rfl)
theorem d_W_copyFrom_48 : decode y_W_copyFrom.2.1 48 = .ok (.getfield 16, 3) := op_getfield (gk (k := 32) (t := 16) ck_W_copyFrom_1 rfl) (gk (k := 32) (t := 17) ck_W_copyFrom_1 rfl) (gk (k := 32) (t := 18) ck_W_copyFrom_1 rfl) rfl
theorem d_W_copyFrom_51 : decode y_W_copyFrom.2.1 51 = .ok (.iconst 0, 1) := op_iconst0 (gk (k := 32) (t := 19) ck_W_copyFrom_1 rfl)
theorem d_W_copyFrom_52 : decode y_W_copyFrom.2.1 52 = .ok (.aload_n 0, 1) := op_aload_n0 (gk (k := 32) (t := 20) ck_W_copyFrom_1 rfl)
theorem d_W_copyFrom_53 : decode y_W_copyFrom.2.1 53 = .ok (.getfield 16, 3) := op_getfield (gk (k := 32) (t := 21) ck_W_copyFrom_1 rfl) (gk (k := 32) (t := 22) ck_W_copyFrom_1 rfl) (gk (k := 32) (t := 23) ck_W_copyFrom_1 rfl) rfl
theorem d_W_copyFrom_56 : decode y_W_copyFrom.2.1 56 = .ok (.iconst 0, 1) := op_iconst0 (gk (k := 32) (t := 24) ck_W_copyFrom_1 rfl)
theorem d_W_copyFrom_57 : decode y_W_copyFrom.2.1 57 = .ok (.bipush 16, 2) := op_bipush (gk (k := 32) (t := 25) ck_W_copyFrom_1 rfl) (gk (k := 32) (t := 26) ck_W_copyFrom_1 rfl) rfl
theorem d_W_copyFrom_59 : decode y_W_copyFrom.2.1 59 = .ok (.invokestatic 29, 3) := op_invokestatic (gk (k := 32) (t := 27) ck_W_copyFrom_1 rfl) (gk (k := 32) (t := 28) ck_W_copyFrom_1 rfl) (gk (k := 32) (t := 29) ck_W_copyFrom_1 rfl) rfl
theorem d_W_copyFrom_62 : decode y_W_copyFrom.2.1 62 = .ok (.return_, 1) := op_return_ (gk (k := 32) (t := 30) ck_W_copyFrom_1 rfl)
abbrev y_S_text : MI := (⟨"SinglesUp", "text", "(I)I"⟩, prog_1_method_9_code, 2, some .int)
theorem ck_S_text_0 : (y_S_text.2.1.data.toList.drop 0).take 32 = [27, 155, 0, 8, 27, 7, 164, 0, 12, 42, 180, 0, 39, 182, 0, 110, 2, 172, 42, 180, 0, 39, 27, 7, 160, 0, 7, 4, 167, 0, 4, 3] := by decide +kernel
theorem d_S_text_0 : decode y_S_text.2.1 0 = .ok (.iload_n 1, 1) := op_iload_n1 (gk (k := 0) (t := 0) ck_S_text_0 rfl)
theorem d_S_text_9 : decode y_S_text.2.1 9 = .ok (.aload_n 0, 1) := op_aload_n0 (gk (k := 0) (t := 9) ck_S_text_0 rfl)
theorem d_S_text_10 : decode y_S_text.2.1 10 = .ok (.getfield 39, 3) := op_getfield (gk (k := 0) (t := 10) ck_S_text_0 rfl) (gk (k := 0) (t := 11) ck_S_text_0 rfl) (gk (k := 0) (t := 12) ck_S_text_0 rfl) rfl
theorem lk_S_110 : LkV "SinglesUp" 110 y_R_forget := ⟨tw_c2 187 (by decide +kernel) rfl, tw_c2 188 (by decide +kernel) rfl, Or.inl (tw_c2 186 (by decide +kernel) rfl)⟩
theorem d_S_text_13 : decode y_S_text.2.1 13 = .ok (.invokevirtual 110, 3) := op_invokevirtual (gk (k := 0) (t := 13) ck_S_text_0 rfl) (gk (k := 0) (t := 14) ck_S_text_0 rfl) (gk (k := 0) (t := 15) ck_S_text_0 rfl) rfl
theorem d_S_text_16 : decode y_S_text.2.1 16 = .ok (.iconst (-1), 1) := op_iconstm1 (gk (k := 0) (t := 16) ck_S_text_0 rfl)
theorem d_S_text_17 : decode y_S_text.2.1 17 = .ok (.ireturn, 1) := op_ireturn (gk (k := 0) (t := 17) ck_S_text_0 rfl)
theorem d_S_text_1 : decode y_S_text.2.1 1 = .ok (.ifCond .lt 8, 3) := op_if_lt (gk (k := 0) (t := 1) ck_S_text_0 rfl) (gk (k := 0) (t := 2) ck_S_text_0 rfl) (gk (k := 0) (t := 3) ck_S_text_0 rfl) (by decide +kernel)
theorem d_S_text_4 : decode y_S_text.2.1 4 = .ok (.iload_n 1, 1) := op_iload_n1 (gk (k := 0) (t := 4) ck_S_text_0 rfl)
theorem d_S_text_5 : decode y_S_text.2.1 5 = .ok (.iconst 4, 1) := op_iconst4 (gk (k := 0) (t := 5) ck_S_text_0 rfl)
theorem d_S_text_6 : decode y_S_text.2.1 6 = .ok (.if_icmp .le 12, 3) := op_icmp_le (gk (k := 0) (t := 6) ck_S_text_0 rfl) (gk (k := 0) (t := 7) ck_S_text_0 rfl) (gk (k := 0) (t := 8) ck_S_text_0 rfl) (by decide +kernel)
theorem d_S_text_18 : decode y_S_text.2.1 18 = .ok (.aload_n 0, 1) := op_aload_n0 (gk (k := 0) (t := 18) ck_S_text_0 rfl)
theorem d_S_text_19 : decode y_S_text.2.1 19 = .ok (.getfield 39, 3) := op_getfield (gk (k := 0) (t := 19) ck_S_text_0 rfl) (gk (k := 0) (t := 20) ck_S_text_0 rfl) (gk (k := 0) (t := 21) ck_S_text_0 rfl) rfl
theorem d_S_text_22 : decode y_S_text.2.1 22 = .ok (.iload_n 1, 1) := op_iload_n1 (gk (k := 0) (t := 22) ck_S_text_0 rfl)
theorem d_S_text_23 : decode y_S_text.2.1 23 = .ok (.iconst 4, 1) := op_iconst4 (gk (k := 0) (t := 23) ck_S_text_0 rfl)
theorem lk_S_113 : LkV "SinglesUp" 113 y_R_understand := ⟨tw_c2 191 (by decide +kernel) rfl, tw_c2 192 (by decide +kernel) rfl, Or.inl (tw_c2 190 (by decide +kernel) rfl)⟩
set_option maxRecDepth 100000 in
theorem mo_R_understand : MOk y_R_understand 1 := ⟨by decide +kernel, tw_c2 193 rfl rfl, tw_c1 8 (by decide +kernel) rfl, by decide +kernel, by decide +kernel, by decide +kernel⟩
theorem ck_S_text_1 : (y_S_text.2.1.data.toList.drop 32).take 32 = [182, 0, 113, 154, 0, 5, 2, 172, 42, 180, 0, 12, 180, 0, 117, 27, 50, 42, 180, 0, 39, 180, 0, 121, 182, 0, 125, 42, 180, 0, 39, 180] := by decide +kernel
theorem d_S_text_32 : decode y_S_text.2.1 32 = .ok (.invokevirtual 113, 3) := op_invokevirtual (gk (k := 32) (t := 0) ck_S_text_1 rfl) (gk (k := 32) (t := 1) ck_S_text_1 rfl) (gk (k := 32) (t := 2) ck_S_text_1 rfl) rfl
theorem d_S_text_35 : decode y_S_text.2.1 35 = .ok (.ifCond .ne 5, 3) := op_if_ne (gk (k := 32) (t := 3) ck_S_text_1 rfl) (gk (k := 32) (t := 4) ck_S_text_1 rfl) (gk (k := 32) (t := 5) ck_S_text_1 rfl) (by decide +kernel)
theorem d_S_text_40 : decode y_S_text.2.1 40 = .ok (.aload_n 0, 1) := op_aload_n0 (gk (k := 32) (t := 8) ck_S_text_1 rfl)
theorem d_S_text_41 : decode y_S_text.2.1 41 = .ok (.getfield 12, 3) := op_getfield (gk (k := 32) (t := 9) ck_S_text_1 rfl) (gk (k := 32) (t := 10) ck_S_text_1 rfl) (gk (k := 32) (t := 11) ck_S_text_1 rfl) rfl
theorem fl_S_117 : FL "SinglesUp" 117 2 1 := ⟨"SinglesUp$Hill", zT2, 14, rfl, by decide, rfl, Or.inr ⟨"SinglesUp", nw_in 90 (by decide +kernel) rfl⟩⟩
theorem rc_2_1 : ∀ o, KC[o]? = some (5, 14) → RC o 1 = some (o + 2) ∧ KC[o + 2]? = some (2, 5) := by
  intro o h
  have hl : o < 166 := (List.getElem?_eq_some_iff.mp h).1
  exact (by decide +kernel : ∀ o, o < 166 → KC[o]? = some (5, 14) → RC o 1 = some (o + 2) ∧ KC[o + 2]? = some (2, 5)) o hl h
theorem d_S_text_44 : decode y_S_text.2.1 44 = .ok (.getfield 117, 3) := op_getfield (gk (k := 32) (t := 12) ck_S_text_1 rfl) (gk (k := 32) (t := 13) ck_S_text_1 rfl) (gk (k := 32) (t := 14) ck_S_text_1 rfl) rfl
theorem d_S_text_47 : decode y_S_text.2.1 47 = .ok (.iload_n 1, 1) := op_iload_n1 (gk (k := 32) (t := 15) ck_S_text_1 rfl)
theorem la_at : ∀ o, KC[o]? = some (2, 5) → ∀ k, k < 5 → RC o k = some (o + 13 + 5 * k) ∧ KC[o + 13 + 5 * k]? = some (6, 6) := by
  intro o h
  have hl : o < 166 := (List.getElem?_eq_some_iff.mp h).1
  exact (by decide +kernel : ∀ o, o < 166 → KC[o]? = some (2, 5) → ∀ k, k < 5 → RC o k = some (o + 13 + 5 * k) ∧ KC[o + 13 + 5 * k]? = some (6, 6)) o hl h
theorem d_S_text_48 : decode y_S_text.2.1 48 = .ok (.aaload, 1) := op_aaload (gk (k := 32) (t := 16) ck_S_text_1 rfl)
theorem d_S_text_49 : decode y_S_text.2.1 49 = .ok (.aload_n 0, 1) := op_aload_n0 (gk (k := 32) (t := 17) ck_S_text_1 rfl)
theorem d_S_text_50 : decode y_S_text.2.1 50 = .ok (.getfield 39, 3) := op_getfield (gk (k := 32) (t := 18) ck_S_text_1 rfl) (gk (k := 32) (t := 19) ck_S_text_1 rfl) (gk (k := 32) (t := 20) ck_S_text_1 rfl) rfl
theorem fl_S_121 : FL "SinglesUp" 121 7 12 := ⟨"SinglesUp$Reader", zT7, 13, rfl, by decide, rfl, Or.inr ⟨"SinglesUp", nw_in 236 (by decide +kernel) rfl⟩⟩
theorem d_S_text_53 : decode y_S_text.2.1 53 = .ok (.getfield 121, 3) := op_getfield (gk (k := 32) (t := 21) ck_S_text_1 rfl) (gk (k := 32) (t := 22) ck_S_text_1 rfl) (gk (k := 32) (t := 23) ck_S_text_1 rfl) rfl
theorem lk_S_125 : LkV "SinglesUp" 125 y_W_copyFrom := ⟨tw_c3 148 (by decide +kernel) rfl, tw_c3 149 (by decide +kernel) rfl, Or.inl (tw_c3 147 (by decide +kernel) rfl)⟩
set_option maxRecDepth 100000 in
theorem mo_W_copyFrom : MOk y_W_copyFrom 1 := ⟨by decide +kernel, tw_c3 150 rfl rfl, tw_c1 5 (by decide +kernel) rfl, by decide +kernel, by decide +kernel, by decide +kernel⟩
theorem d_S_text_56 : decode y_S_text.2.1 56 = .ok (.invokevirtual 125, 3) := op_invokevirtual (gk (k := 32) (t := 24) ck_S_text_1 rfl) (gk (k := 32) (t := 25) ck_S_text_1 rfl) (gk (k := 32) (t := 26) ck_S_text_1 rfl) rfl
theorem d_S_text_59 : decode y_S_text.2.1 59 = .ok (.aload_n 0, 1) := op_aload_n0 (gk (k := 32) (t := 27) ck_S_text_1 rfl)
theorem d_S_text_60 : decode y_S_text.2.1 60 = .ok (.getfield 39, 3) := op_getfield (gk (k := 32) (t := 28) ck_S_text_1 rfl) (gk (k := 32) (t := 29) ck_S_text_1 rfl) (gk (k := 32) (t := 30) ck_S_text_1 rfl) rfl
theorem ck_S_text_2 : (y_S_text.2.1.data.toList.drop 64).take 32 = [0, 121, 180, 0, 131, 172] := by decide +kernel
theorem d_S_text_63 : decode y_S_text.2.1 63 = .ok (.getfield 121, 3) := op_getfield (gk (k := 32) (t := 31) ck_S_text_1 rfl) (gk (k := 64) (t := 0) ck_S_text_2 rfl) (gk (k := 64) (t := 1) ck_S_text_2 rfl) rfl
theorem fl_S_131 : FL "SinglesUp" 131 3 4 := ⟨"SinglesUp$Law", zT3, 6, rfl, by decide, rfl, Or.inr ⟨"SinglesUp", nw_in 69 (by decide +kernel) rfl⟩⟩
theorem d_S_text_66 : decode y_S_text.2.1 66 = .ok (.getfield 131, 3) := op_getfield (gk (k := 64) (t := 2) ck_S_text_2 rfl) (gk (k := 64) (t := 3) ck_S_text_2 rfl) (gk (k := 64) (t := 4) ck_S_text_2 rfl) rfl
theorem d_S_text_69 : decode y_S_text.2.1 69 = .ok (.ireturn, 1) := op_ireturn (gk (k := 64) (t := 5) ck_S_text_2 rfl)
theorem d_S_text_38 : decode y_S_text.2.1 38 = .ok (.iconst (-1), 1) := op_iconstm1 (gk (k := 32) (t := 6) ck_S_text_1 rfl)
theorem d_S_text_39 : decode y_S_text.2.1 39 = .ok (.ireturn, 1) := op_ireturn (gk (k := 32) (t := 7) ck_S_text_1 rfl)
theorem d_S_text_24 : decode y_S_text.2.1 24 = .ok (.if_icmp .ne 7, 3) := op_icmp_ne (gk (k := 0) (t := 24) ck_S_text_0 rfl) (gk (k := 0) (t := 25) ck_S_text_0 rfl) (gk (k := 0) (t := 26) ck_S_text_0 rfl) (by decide +kernel)
theorem d_S_text_31 : decode y_S_text.2.1 31 = .ok (.iconst 0, 1) := op_iconst0 (gk (k := 0) (t := 31) ck_S_text_0 rfl)
theorem d_S_text_27 : decode y_S_text.2.1 27 = .ok (.iconst 1, 1) := op_iconst1 (gk (k := 0) (t := 27) ck_S_text_0 rfl)
theorem d_S_text_28 : decode y_S_text.2.1 28 = .ok (.goto 4, 3) := op_goto (gk (k := 0) (t := 28) ck_S_text_0 rfl) (gk (k := 0) (t := 29) ck_S_text_0 rfl) (gk (k := 0) (t := 30) ck_S_text_0 rfl) (by decide +kernel)
abbrev y_S_fault : MI := (⟨"SinglesUp", "fault", "(I)I"⟩, prog_1_method_10_code, 2, some .int)
theorem ck_S_fault_0 : (y_S_fault.2.1.data.toList.drop 0).take 32 = [27, 154, 0, 11, 42, 180, 0, 39, 180, 0, 133, 172, 27, 4, 160, 0, 13, 42, 180, 0, 39, 180, 0, 136, 167, 0, 4, 2, 172] := by decide +kernel
theorem d_S_fault_0 : decode y_S_fault.2.1 0 = .ok (.iload_n 1, 1) := op_iload_n1 (gk (k := 0) (t := 0) ck_S_fault_0 rfl)
theorem d_S_fault_1 : decode y_S_fault.2.1 1 = .ok (.ifCond .ne 11, 3) := op_if_ne (gk (k := 0) (t := 1) ck_S_fault_0 rfl) (gk (k := 0) (t := 2) ck_S_fault_0 rfl) (gk (k := 0) (t := 3) ck_S_fault_0 rfl) (by decide +kernel)
theorem d_S_fault_12 : decode y_S_fault.2.1 12 = .ok (.iload_n 1, 1) := op_iload_n1 (gk (k := 0) (t := 12) ck_S_fault_0 rfl)
theorem d_S_fault_13 : decode y_S_fault.2.1 13 = .ok (.iconst 1, 1) := op_iconst1 (gk (k := 0) (t := 13) ck_S_fault_0 rfl)
theorem d_S_fault_14 : decode y_S_fault.2.1 14 = .ok (.if_icmp .ne 13, 3) := op_icmp_ne (gk (k := 0) (t := 14) ck_S_fault_0 rfl) (gk (k := 0) (t := 15) ck_S_fault_0 rfl) (gk (k := 0) (t := 16) ck_S_fault_0 rfl) (by decide +kernel)
theorem d_S_fault_27 : decode y_S_fault.2.1 27 = .ok (.iconst (-1), 1) := op_iconstm1 (gk (k := 0) (t := 27) ck_S_fault_0 rfl)
theorem d_S_fault_28 : decode y_S_fault.2.1 28 = .ok (.ireturn, 1) := op_ireturn (gk (k := 0) (t := 28) ck_S_fault_0 rfl)
theorem d_S_fault_17 : decode y_S_fault.2.1 17 = .ok (.aload_n 0, 1) := op_aload_n0 (gk (k := 0) (t := 17) ck_S_fault_0 rfl)
theorem d_S_fault_18 : decode y_S_fault.2.1 18 = .ok (.getfield 39, 3) := op_getfield (gk (k := 0) (t := 18) ck_S_fault_0 rfl) (gk (k := 0) (t := 19) ck_S_fault_0 rfl) (gk (k := 0) (t := 20) ck_S_fault_0 rfl) rfl
theorem fl_S_136 : FL "SinglesUp" 136 7 11 := ⟨"SinglesUp$Reader", zT7, 13, rfl, by decide, rfl, Or.inr ⟨"SinglesUp", nw_in 234 (by decide +kernel) rfl⟩⟩
theorem d_S_fault_21 : decode y_S_fault.2.1 21 = .ok (.getfield 136, 3) := op_getfield (gk (k := 0) (t := 21) ck_S_fault_0 rfl) (gk (k := 0) (t := 22) ck_S_fault_0 rfl) (gk (k := 0) (t := 23) ck_S_fault_0 rfl) rfl
theorem d_S_fault_24 : decode y_S_fault.2.1 24 = .ok (.goto 4, 3) := op_goto (gk (k := 0) (t := 24) ck_S_fault_0 rfl) (gk (k := 0) (t := 25) ck_S_fault_0 rfl) (gk (k := 0) (t := 26) ck_S_fault_0 rfl) (by decide +kernel)
theorem d_S_fault_4 : decode y_S_fault.2.1 4 = .ok (.aload_n 0, 1) := op_aload_n0 (gk (k := 0) (t := 4) ck_S_fault_0 rfl)
theorem d_S_fault_5 : decode y_S_fault.2.1 5 = .ok (.getfield 39, 3) := op_getfield (gk (k := 0) (t := 5) ck_S_fault_0 rfl) (gk (k := 0) (t := 6) ck_S_fault_0 rfl) (gk (k := 0) (t := 7) ck_S_fault_0 rfl) rfl
theorem fl_S_133 : FL "SinglesUp" 133 7 10 := ⟨"SinglesUp$Reader", zT7, 13, rfl, by decide, rfl, Or.inr ⟨"SinglesUp", nw_in 232 (by decide +kernel) rfl⟩⟩
theorem d_S_fault_8 : decode y_S_fault.2.1 8 = .ok (.getfield 133, 3) := op_getfield (gk (k := 0) (t := 8) ck_S_fault_0 rfl) (gk (k := 0) (t := 9) ck_S_fault_0 rfl) (gk (k := 0) (t := 10) ck_S_fault_0 rfl) rfl
theorem d_S_fault_11 : decode y_S_fault.2.1 11 = .ok (.ireturn, 1) := op_ireturn (gk (k := 0) (t := 11) ck_S_fault_0 rfl)
abbrev y_L_shortest : MI := (⟨"SinglesUp$Lines", "shortest", "()I"⟩, prog_6_method_14_code, 3, some .int)
theorem ck_L_shortest_0 : (y_L_shortest.2.1.data.toList.drop 0).take 32 = [3, 60, 4, 61, 28, 16, 6, 162, 0, 26, 42, 180, 0, 15, 28, 46, 42, 180, 0, 15, 27, 46, 162, 0, 5, 28, 60, 132, 2, 1, 167, 255] := by decide +kernel
theorem d_L_shortest_0 : decode y_L_shortest.2.1 0 = .ok (.iconst 0, 1) := op_iconst0 (gk (k := 0) (t := 0) ck_L_shortest_0 rfl)
theorem d_L_shortest_1 : decode y_L_shortest.2.1 1 = .ok (.istore_n 1, 1) := op_istore_n1 (gk (k := 0) (t := 1) ck_L_shortest_0 rfl)
theorem d_L_shortest_2 : decode y_L_shortest.2.1 2 = .ok (.iconst 1, 1) := op_iconst1 (gk (k := 0) (t := 2) ck_L_shortest_0 rfl)
theorem d_L_shortest_3 : decode y_L_shortest.2.1 3 = .ok (.istore_n 2, 1) := op_istore_n2 (gk (k := 0) (t := 3) ck_L_shortest_0 rfl)
theorem d_L_shortest_4 : decode y_L_shortest.2.1 4 = .ok (.iload_n 2, 1) := op_iload_n2 (gk (k := 0) (t := 4) ck_L_shortest_0 rfl)
theorem d_L_shortest_5 : decode y_L_shortest.2.1 5 = .ok (.bipush 6, 2) := op_bipush (gk (k := 0) (t := 5) ck_L_shortest_0 rfl) (gk (k := 0) (t := 6) ck_L_shortest_0 rfl) rfl
theorem d_L_shortest_7 : decode y_L_shortest.2.1 7 = .ok (.if_icmp .ge 26, 3) := op_icmp_ge (gk (k := 0) (t := 7) ck_L_shortest_0 rfl) (gk (k := 0) (t := 8) ck_L_shortest_0 rfl) (gk (k := 0) (t := 9) ck_L_shortest_0 rfl) (by decide +kernel)
theorem ck_L_shortest_1 : (y_L_shortest.2.1.data.toList.drop 32).take 32 = [230, 27, 172] := by decide +kernel
theorem d_L_shortest_33 : decode y_L_shortest.2.1 33 = .ok (.iload_n 1, 1) := op_iload_n1 (gk (k := 32) (t := 1) ck_L_shortest_1 rfl)
theorem d_L_shortest_34 : decode y_L_shortest.2.1 34 = .ok (.ireturn, 1) := op_ireturn (gk (k := 32) (t := 2) ck_L_shortest_1 rfl)
theorem d_L_shortest_10 : decode y_L_shortest.2.1 10 = .ok (.aload_n 0, 1) := op_aload_n0 (gk (k := 0) (t := 10) ck_L_shortest_0 rfl)
theorem fl_L_15 : FL "SinglesUp$Lines" 15 4 1 := ⟨"SinglesUp$Lines", zT4, 3, rfl, by decide, rfl, Or.inl (tw_c1 46 (by decide +kernel) rfl)⟩
theorem rc_4_1 : ∀ o, KC[o]? = some (7, 3) → RC o 1 = some (o + 2) ∧ KC[o + 2]? = some (0, 6) := by
  intro o h
  have hl : o < 166 := (List.getElem?_eq_some_iff.mp h).1
  exact (by decide +kernel : ∀ o, o < 166 → KC[o]? = some (7, 3) → RC o 1 = some (o + 2) ∧ KC[o + 2]? = some (0, 6)) o hl h
theorem d_L_shortest_11 : decode y_L_shortest.2.1 11 = .ok (.getfield 15, 3) := op_getfield (gk (k := 0) (t := 11) ck_L_shortest_0 rfl) (gk (k := 0) (t := 12) ck_L_shortest_0 rfl) (gk (k := 0) (t := 13) ck_L_shortest_0 rfl) rfl
theorem d_L_shortest_14 : decode y_L_shortest.2.1 14 = .ok (.iload_n 2, 1) := op_iload_n2 (gk (k := 0) (t := 14) ck_L_shortest_0 rfl)
theorem d_L_shortest_15 : decode y_L_shortest.2.1 15 = .ok (.iaload, 1) := op_iaload (gk (k := 0) (t := 15) ck_L_shortest_0 rfl)
theorem d_L_shortest_16 : decode y_L_shortest.2.1 16 = .ok (.aload_n 0, 1) := op_aload_n0 (gk (k := 0) (t := 16) ck_L_shortest_0 rfl)
theorem d_L_shortest_17 : decode y_L_shortest.2.1 17 = .ok (.getfield 15, 3) := op_getfield (gk (k := 0) (t := 17) ck_L_shortest_0 rfl) (gk (k := 0) (t := 18) ck_L_shortest_0 rfl) (gk (k := 0) (t := 19) ck_L_shortest_0 rfl) rfl
theorem d_L_shortest_20 : decode y_L_shortest.2.1 20 = .ok (.iload_n 1, 1) := op_iload_n1 (gk (k := 0) (t := 20) ck_L_shortest_0 rfl)
theorem d_L_shortest_21 : decode y_L_shortest.2.1 21 = .ok (.iaload, 1) := op_iaload (gk (k := 0) (t := 21) ck_L_shortest_0 rfl)
theorem d_L_shortest_27 : decode y_L_shortest.2.1 27 = .ok (.iinc 2 1, 3) := op_iinc (gk (k := 0) (t := 27) ck_L_shortest_0 rfl) (gk (k := 0) (t := 28) ck_L_shortest_0 rfl) (gk (k := 0) (t := 29) ck_L_shortest_0 rfl) rfl rfl
theorem d_L_shortest_30 : decode y_L_shortest.2.1 30 = .ok (.goto (-26), 3) := op_goto (gk (k := 0) (t := 30) ck_L_shortest_0 rfl) (gk (k := 0) (t := 31) ck_L_shortest_0 rfl) (gk (k := 32) (t := 0) ck_L_shortest_1 rfl) (by decide +kernel)
theorem d_L_shortest_22 : decode y_L_shortest.2.1 22 = .ok (.if_icmp .ge 5, 3) := op_icmp_ge (gk (k := 0) (t := 22) ck_L_shortest_0 rfl) (gk (k := 0) (t := 23) ck_L_shortest_0 rfl) (gk (k := 0) (t := 24) ck_L_shortest_0 rfl) (by decide +kernel)
theorem d_L_shortest_25 : decode y_L_shortest.2.1 25 = .ok (.iload_n 2, 1) := op_iload_n2 (gk (k := 0) (t := 25) ck_L_shortest_0 rfl)
theorem d_L_shortest_26 : decode y_L_shortest.2.1 26 = .ok (.istore_n 1, 1) := op_istore_n1 (gk (k := 0) (t := 26) ck_L_shortest_0 rfl)
abbrev y_W_reckon : MI := (⟨"SinglesUp$Law", "reckon", "(II[I)I"⟩, prog_5_method_9_code, 10, some .int)
theorem ck_W_reckon_0 : (y_W_reckon.2.1.data.toList.drop 0).take 32 = [2, 54, 4, 27, 54, 5, 21, 5, 155, 1, 114, 21, 5, 28, 162, 1, 108, 21, 5, 17, 1, 144, 162, 1, 100, 42, 180, 0, 9, 21, 5, 46] := by decide +kernel
theorem d_W_reckon_0 : decode y_W_reckon.2.1 0 = .ok (.iconst (-1), 1) := op_iconstm1 (gk (k := 0) (t := 0) ck_W_reckon_0 rfl)
theorem d_W_reckon_1 : decode y_W_reckon.2.1 1 = .ok (.istore 4, 2) := op_istore (gk (k := 0) (t := 1) ck_W_reckon_0 rfl) (gk (k := 0) (t := 2) ck_W_reckon_0 rfl) rfl
theorem d_W_reckon_3 : decode y_W_reckon.2.1 3 = .ok (.iload_n 1, 1) := op_iload_n1 (gk (k := 0) (t := 3) ck_W_reckon_0 rfl)
theorem d_W_reckon_4 : decode y_W_reckon.2.1 4 = .ok (.istore 5, 2) := op_istore (gk (k := 0) (t := 4) ck_W_reckon_0 rfl) (gk (k := 0) (t := 5) ck_W_reckon_0 rfl) rfl
theorem d_W_reckon_6 : decode y_W_reckon.2.1 6 = .ok (.iload 5, 2) := op_iload (gk (k := 0) (t := 6) ck_W_reckon_0 rfl) (gk (k := 0) (t := 7) ck_W_reckon_0 rfl) rfl
theorem d_W_reckon_8 : decode y_W_reckon.2.1 8 = .ok (.ifCond .lt 370, 3) := op_if_lt (gk (k := 0) (t := 8) ck_W_reckon_0 rfl) (gk (k := 0) (t := 9) ck_W_reckon_0 rfl) (gk (k := 0) (t := 10) ck_W_reckon_0 rfl) (by decide +kernel)
theorem d_W_reckon_11 : decode y_W_reckon.2.1 11 = .ok (.iload 5, 2) := op_iload (gk (k := 0) (t := 11) ck_W_reckon_0 rfl) (gk (k := 0) (t := 12) ck_W_reckon_0 rfl) rfl
theorem d_W_reckon_13 : decode y_W_reckon.2.1 13 = .ok (.iload_n 2, 1) := op_iload_n2 (gk (k := 0) (t := 13) ck_W_reckon_0 rfl)
theorem d_W_reckon_14 : decode y_W_reckon.2.1 14 = .ok (.if_icmp .ge 364, 3) := op_icmp_ge (gk (k := 0) (t := 14) ck_W_reckon_0 rfl) (gk (k := 0) (t := 15) ck_W_reckon_0 rfl) (gk (k := 0) (t := 16) ck_W_reckon_0 rfl) (by decide +kernel)
theorem d_W_reckon_17 : decode y_W_reckon.2.1 17 = .ok (.iload 5, 2) := op_iload (gk (k := 0) (t := 17) ck_W_reckon_0 rfl) (gk (k := 0) (t := 18) ck_W_reckon_0 rfl) rfl
theorem d_W_reckon_19 : decode y_W_reckon.2.1 19 = .ok (.sipush 400, 3) := op_sipush (gk (k := 0) (t := 19) ck_W_reckon_0 rfl) (gk (k := 0) (t := 20) ck_W_reckon_0 rfl) (gk (k := 0) (t := 21) ck_W_reckon_0 rfl) (by decide +kernel)
theorem d_W_reckon_22 : decode y_W_reckon.2.1 22 = .ok (.if_icmp .ge 356, 3) := op_icmp_ge (gk (k := 0) (t := 22) ck_W_reckon_0 rfl) (gk (k := 0) (t := 23) ck_W_reckon_0 rfl) (gk (k := 0) (t := 24) ck_W_reckon_0 rfl) (by decide +kernel)
theorem d_W_reckon_25 : decode y_W_reckon.2.1 25 = .ok (.aload_n 0, 1) := op_aload_n0 (gk (k := 0) (t := 25) ck_W_reckon_0 rfl)
theorem d_W_reckon_26 : decode y_W_reckon.2.1 26 = .ok (.getfield 9, 3) := op_getfield (gk (k := 0) (t := 26) ck_W_reckon_0 rfl) (gk (k := 0) (t := 27) ck_W_reckon_0 rfl) (gk (k := 0) (t := 28) ck_W_reckon_0 rfl) rfl
theorem d_W_reckon_29 : decode y_W_reckon.2.1 29 = .ok (.iload 5, 2) := op_iload (gk (k := 0) (t := 29) ck_W_reckon_0 rfl) (gk (k := 0) (t := 30) ck_W_reckon_0 rfl) rfl
theorem d_W_reckon_31 : decode y_W_reckon.2.1 31 = .ok (.iaload, 1) := op_iaload (gk (k := 0) (t := 31) ck_W_reckon_0 rfl)
theorem ck_W_reckon_1 : (y_W_reckon.2.1.data.toList.drop 32).take 32 = [54, 6, 21, 6, 17, 39, 16, 100, 54, 7, 21, 4, 21, 6, 155, 0, 7, 4, 167, 0, 15, 21, 6, 16, 246, 160, 0, 7, 3, 167, 0, 4] := by decide +kernel
theorem d_W_reckon_32 : decode y_W_reckon.2.1 32 = .ok (.istore 6, 2) := op_istore (gk (k := 32) (t := 0) ck_W_reckon_1 rfl) (gk (k := 32) (t := 1) ck_W_reckon_1 rfl) rfl
theorem d_W_reckon_34 : decode y_W_reckon.2.1 34 = .ok (.iload 6, 2) := op_iload (gk (k := 32) (t := 2) ck_W_reckon_1 rfl) (gk (k := 32) (t := 3) ck_W_reckon_1 rfl) rfl
theorem d_W_reckon_36 : decode y_W_reckon.2.1 36 = .ok (.sipush 10000, 3) := op_sipush (gk (k := 32) (t := 4) ck_W_reckon_1 rfl) (gk (k := 32) (t := 5) ck_W_reckon_1 rfl) (gk (k := 32) (t := 6) ck_W_reckon_1 rfl) (by decide +kernel)
theorem d_W_reckon_39 : decode y_W_reckon.2.1 39 = .ok (.isub, 1) := op_isub (gk (k := 32) (t := 7) ck_W_reckon_1 rfl)
theorem d_W_reckon_40 : decode y_W_reckon.2.1 40 = .ok (.istore 7, 2) := op_istore (gk (k := 32) (t := 8) ck_W_reckon_1 rfl) (gk (k := 32) (t := 9) ck_W_reckon_1 rfl) rfl
theorem d_W_reckon_42 : decode y_W_reckon.2.1 42 = .ok (.iload 4, 2) := op_iload (gk (k := 32) (t := 10) ck_W_reckon_1 rfl) (gk (k := 32) (t := 11) ck_W_reckon_1 rfl) rfl
theorem d_W_reckon_44 : decode y_W_reckon.2.1 44 = .ok (.iload 6, 2) := op_iload (gk (k := 32) (t := 12) ck_W_reckon_1 rfl) (gk (k := 32) (t := 13) ck_W_reckon_1 rfl) rfl
theorem ck_W_reckon_2 : (y_W_reckon.2.1.data.toList.drop 64).take 32 = [2, 96, 54, 4, 21, 4, 155, 0, 22, 21, 4, 4, 96, 42, 180, 0, 19, 190, 162, 0, 10, 21, 7, 45, 190, 161, 0, 5, 3, 172, 42, 180] := by decide +kernel
theorem d_W_reckon_65 : decode y_W_reckon.2.1 65 = .ok (.iadd, 1) := op_iadd (gk (k := 64) (t := 1) ck_W_reckon_2 rfl)
theorem d_W_reckon_66 : decode y_W_reckon.2.1 66 = .ok (.istore 4, 2) := op_istore (gk (k := 64) (t := 2) ck_W_reckon_2 rfl) (gk (k := 64) (t := 3) ck_W_reckon_2 rfl) rfl
theorem d_W_reckon_68 : decode y_W_reckon.2.1 68 = .ok (.iload 4, 2) := op_iload (gk (k := 64) (t := 4) ck_W_reckon_2 rfl) (gk (k := 64) (t := 5) ck_W_reckon_2 rfl) rfl
theorem d_W_reckon_70 : decode y_W_reckon.2.1 70 = .ok (.ifCond .lt 22, 3) := op_if_lt (gk (k := 64) (t := 6) ck_W_reckon_2 rfl) (gk (k := 64) (t := 7) ck_W_reckon_2 rfl) (gk (k := 64) (t := 8) ck_W_reckon_2 rfl) (by decide +kernel)
theorem d_W_reckon_92 : decode y_W_reckon.2.1 92 = .ok (.iconst 0, 1) := op_iconst0 (gk (k := 64) (t := 28) ck_W_reckon_2 rfl)
theorem d_W_reckon_93 : decode y_W_reckon.2.1 93 = .ok (.ireturn, 1) := op_ireturn (gk (k := 64) (t := 29) ck_W_reckon_2 rfl)
theorem d_W_reckon_73 : decode y_W_reckon.2.1 73 = .ok (.iload 4, 2) := op_iload (gk (k := 64) (t := 9) ck_W_reckon_2 rfl) (gk (k := 64) (t := 10) ck_W_reckon_2 rfl) rfl
theorem d_W_reckon_75 : decode y_W_reckon.2.1 75 = .ok (.iconst 1, 1) := op_iconst1 (gk (k := 64) (t := 11) ck_W_reckon_2 rfl)
theorem d_W_reckon_76 : decode y_W_reckon.2.1 76 = .ok (.iadd, 1) := op_iadd (gk (k := 64) (t := 12) ck_W_reckon_2 rfl)
theorem d_W_reckon_77 : decode y_W_reckon.2.1 77 = .ok (.aload_n 0, 1) := op_aload_n0 (gk (k := 64) (t := 13) ck_W_reckon_2 rfl)
theorem fl_W_19 : FL "SinglesUp$Law" 19 3 5 := ⟨"SinglesUp$Law", zT3, 6, rfl, by decide, rfl, Or.inl (tw_c1 70 (by decide +kernel) rfl)⟩
theorem rc_3_5 : ∀ o, KC[o]? = some (6, 6) → RC o 5 = some (o + 4) ∧ KC[o + 4]? = some (0, 64) := by
  intro o h
  have hl : o < 166 := (List.getElem?_eq_some_iff.mp h).1
  exact (by decide +kernel : ∀ o, o < 166 → KC[o]? = some (6, 6) → RC o 5 = some (o + 4) ∧ KC[o + 4]? = some (0, 64)) o hl h
theorem d_W_reckon_78 : decode y_W_reckon.2.1 78 = .ok (.getfield 19, 3) := op_getfield (gk (k := 64) (t := 14) ck_W_reckon_2 rfl) (gk (k := 64) (t := 15) ck_W_reckon_2 rfl) (gk (k := 64) (t := 16) ck_W_reckon_2 rfl) rfl
theorem d_W_reckon_81 : decode y_W_reckon.2.1 81 = .ok (.arraylength, 1) := op_arraylength (gk (k := 64) (t := 17) ck_W_reckon_2 rfl)
theorem in_64 : inr (64) := lit_in rfl
theorem d_W_reckon_82 : decode y_W_reckon.2.1 82 = .ok (.if_icmp .ge 10, 3) := op_icmp_ge (gk (k := 64) (t := 18) ck_W_reckon_2 rfl) (gk (k := 64) (t := 19) ck_W_reckon_2 rfl) (gk (k := 64) (t := 20) ck_W_reckon_2 rfl) (by decide +kernel)
theorem d_W_reckon_85 : decode y_W_reckon.2.1 85 = .ok (.iload 7, 2) := op_iload (gk (k := 64) (t := 21) ck_W_reckon_2 rfl) (gk (k := 64) (t := 22) ck_W_reckon_2 rfl) rfl
theorem d_W_reckon_87 : decode y_W_reckon.2.1 87 = .ok (.aload_n 3, 1) := op_aload_n3 (gk (k := 64) (t := 23) ck_W_reckon_2 rfl)
theorem d_W_reckon_88 : decode y_W_reckon.2.1 88 = .ok (.arraylength, 1) := op_arraylength (gk (k := 64) (t := 24) ck_W_reckon_2 rfl)
theorem d_W_reckon_89 : decode y_W_reckon.2.1 89 = .ok (.if_icmp .lt 5, 3) := op_icmp_lt (gk (k := 64) (t := 25) ck_W_reckon_2 rfl) (gk (k := 64) (t := 26) ck_W_reckon_2 rfl) (gk (k := 64) (t := 27) ck_W_reckon_2 rfl) (by decide +kernel)
theorem d_W_reckon_94 : decode y_W_reckon.2.1 94 = .ok (.aload_n 0, 1) := op_aload_n0 (gk (k := 64) (t := 30) ck_W_reckon_2 rfl)
theorem ck_W_reckon_3 : (y_W_reckon.2.1.data.toList.drop 96).take 32 = [0, 19, 21, 4, 46, 54, 8, 42, 180, 0, 19, 21, 4, 4, 96, 46, 54, 9, 21, 6, 170, 0, 0, 0, 0, 0, 0, 235, 255, 255, 255, 246] := by decide +kernel
theorem d_W_reckon_95 : decode y_W_reckon.2.1 95 = .ok (.getfield 19, 3) := op_getfield (gk (k := 64) (t := 31) ck_W_reckon_2 rfl) (gk (k := 96) (t := 0) ck_W_reckon_3 rfl) (gk (k := 96) (t := 1) ck_W_reckon_3 rfl) rfl
theorem d_W_reckon_98 : decode y_W_reckon.2.1 98 = .ok (.iload 4, 2) := op_iload (gk (k := 96) (t := 2) ck_W_reckon_3 rfl) (gk (k := 96) (t := 3) ck_W_reckon_3 rfl) rfl
theorem d_W_reckon_100 : decode y_W_reckon.2.1 100 = .ok (.iaload, 1) := op_iaload (gk (k := 96) (t := 4) ck_W_reckon_3 rfl)
theorem d_W_reckon_101 : decode y_W_reckon.2.1 101 = .ok (.istore 8, 2) := op_istore (gk (k := 96) (t := 5) ck_W_reckon_3 rfl) (gk (k := 96) (t := 6) ck_W_reckon_3 rfl) rfl
theorem d_W_reckon_103 : decode y_W_reckon.2.1 103 = .ok (.aload_n 0, 1) := op_aload_n0 (gk (k := 96) (t := 7) ck_W_reckon_3 rfl)
theorem d_W_reckon_104 : decode y_W_reckon.2.1 104 = .ok (.getfield 19, 3) := op_getfield (gk (k := 96) (t := 8) ck_W_reckon_3 rfl) (gk (k := 96) (t := 9) ck_W_reckon_3 rfl) (gk (k := 96) (t := 10) ck_W_reckon_3 rfl) rfl
theorem d_W_reckon_107 : decode y_W_reckon.2.1 107 = .ok (.iload 4, 2) := op_iload (gk (k := 96) (t := 11) ck_W_reckon_3 rfl) (gk (k := 96) (t := 12) ck_W_reckon_3 rfl) rfl
theorem d_W_reckon_109 : decode y_W_reckon.2.1 109 = .ok (.iconst 1, 1) := op_iconst1 (gk (k := 96) (t := 13) ck_W_reckon_3 rfl)
theorem d_W_reckon_110 : decode y_W_reckon.2.1 110 = .ok (.iadd, 1) := op_iadd (gk (k := 96) (t := 14) ck_W_reckon_3 rfl)
theorem d_W_reckon_111 : decode y_W_reckon.2.1 111 = .ok (.iaload, 1) := op_iaload (gk (k := 96) (t := 15) ck_W_reckon_3 rfl)
theorem d_W_reckon_112 : decode y_W_reckon.2.1 112 = .ok (.istore 9, 2) := op_istore (gk (k := 96) (t := 16) ck_W_reckon_3 rfl) (gk (k := 96) (t := 17) ck_W_reckon_3 rfl) rfl
theorem d_W_reckon_114 : decode y_W_reckon.2.1 114 = .ok (.iload 6, 2) := op_iload (gk (k := 96) (t := 18) ck_W_reckon_3 rfl) (gk (k := 96) (t := 19) ck_W_reckon_3 rfl) rfl
theorem ck_W_reckon_11 : (y_W_reckon.2.1.data.toList.drop 352).take 32 = [180, 0, 19, 21, 4, 21, 7, 156, 0, 8, 21, 6, 167, 0, 7, 45, 21, 7, 46, 79, 132, 5, 1, 167, 254, 143, 21, 4, 155, 0, 13, 42] := by decide +kernel
theorem d_W_reckon_372 : decode y_W_reckon.2.1 372 = .ok (.iinc 5 1, 3) := op_iinc (gk (k := 352) (t := 20) ck_W_reckon_11 rfl) (gk (k := 352) (t := 21) ck_W_reckon_11 rfl) (gk (k := 352) (t := 22) ck_W_reckon_11 rfl) rfl rfl
theorem d_W_reckon_375 : decode y_W_reckon.2.1 375 = .ok (.goto (-369), 3) := op_goto (gk (k := 352) (t := 23) ck_W_reckon_11 rfl) (gk (k := 352) (t := 24) ck_W_reckon_11 rfl) (gk (k := 352) (t := 25) ck_W_reckon_11 rfl) (by decide +kernel)
theorem d_W_reckon_116 : decode y_W_reckon.2.1 116 = .ok (.tableswitch 235 (-10) (-1) #[221, 206, 191, 169, 147, 125, 101, 86, 71, 56], 56) := by decide +kernel
theorem ck_W_reckon_10 : (y_W_reckon.2.1.data.toList.drop 320).take 32 = [0, 53, 42, 180, 0, 19, 21, 4, 21, 8, 21, 9, 128, 79, 167, 0, 38, 42, 180, 0, 19, 21, 4, 4, 21, 8, 100, 79, 167, 0, 24, 42] := by decide +kernel
theorem d_W_reckon_337 : decode y_W_reckon.2.1 337 = .ok (.aload_n 0, 1) := op_aload_n0 (gk (k := 320) (t := 17) ck_W_reckon_10 rfl)
theorem d_W_reckon_338 : decode y_W_reckon.2.1 338 = .ok (.getfield 19, 3) := op_getfield (gk (k := 320) (t := 18) ck_W_reckon_10 rfl) (gk (k := 320) (t := 19) ck_W_reckon_10 rfl) (gk (k := 320) (t := 20) ck_W_reckon_10 rfl) rfl
theorem d_W_reckon_341 : decode y_W_reckon.2.1 341 = .ok (.iload 4, 2) := op_iload (gk (k := 320) (t := 21) ck_W_reckon_10 rfl) (gk (k := 320) (t := 22) ck_W_reckon_10 rfl) rfl
theorem d_W_reckon_343 : decode y_W_reckon.2.1 343 = .ok (.iconst 1, 1) := op_iconst1 (gk (k := 320) (t := 23) ck_W_reckon_10 rfl)
theorem d_W_reckon_344 : decode y_W_reckon.2.1 344 = .ok (.iload 8, 2) := op_iload (gk (k := 320) (t := 24) ck_W_reckon_10 rfl) (gk (k := 320) (t := 25) ck_W_reckon_10 rfl) rfl
theorem d_W_reckon_346 : decode y_W_reckon.2.1 346 = .ok (.isub, 1) := op_isub (gk (k := 320) (t := 26) ck_W_reckon_10 rfl)
theorem d_W_reckon_347 : decode y_W_reckon.2.1 347 = .ok (.iastore, 1) := op_iastore (gk (k := 320) (t := 27) ck_W_reckon_10 rfl)
theorem d_W_reckon_348 : decode y_W_reckon.2.1 348 = .ok (.goto 24, 3) := op_goto (gk (k := 320) (t := 28) ck_W_reckon_10 rfl) (gk (k := 320) (t := 29) ck_W_reckon_10 rfl) (gk (k := 320) (t := 30) ck_W_reckon_10 rfl) (by decide +kernel)
theorem d_W_reckon_322 : decode y_W_reckon.2.1 322 = .ok (.aload_n 0, 1) := op_aload_n0 (gk (k := 320) (t := 2) ck_W_reckon_10 rfl)
theorem d_W_reckon_323 : decode y_W_reckon.2.1 323 = .ok (.getfield 19, 3) := op_getfield (gk (k := 320) (t := 3) ck_W_reckon_10 rfl) (gk (k := 320) (t := 4) ck_W_reckon_10 rfl) (gk (k := 320) (t := 5) ck_W_reckon_10 rfl) rfl
theorem d_W_reckon_326 : decode y_W_reckon.2.1 326 = .ok (.iload 4, 2) := op_iload (gk (k := 320) (t := 6) ck_W_reckon_10 rfl) (gk (k := 320) (t := 7) ck_W_reckon_10 rfl) rfl
theorem d_W_reckon_328 : decode y_W_reckon.2.1 328 = .ok (.iload 8, 2) := op_iload (gk (k := 320) (t := 8) ck_W_reckon_10 rfl) (gk (k := 320) (t := 9) ck_W_reckon_10 rfl) rfl
theorem d_W_reckon_330 : decode y_W_reckon.2.1 330 = .ok (.iload 9, 2) := op_iload (gk (k := 320) (t := 10) ck_W_reckon_10 rfl) (gk (k := 320) (t := 11) ck_W_reckon_10 rfl) rfl
theorem d_W_reckon_332 : decode y_W_reckon.2.1 332 = .ok (.ior, 1) := op_ior (gk (k := 320) (t := 12) ck_W_reckon_10 rfl)
theorem d_W_reckon_333 : decode y_W_reckon.2.1 333 = .ok (.iastore, 1) := op_iastore (gk (k := 320) (t := 13) ck_W_reckon_10 rfl)
theorem d_W_reckon_334 : decode y_W_reckon.2.1 334 = .ok (.goto 38, 3) := op_goto (gk (k := 320) (t := 14) ck_W_reckon_10 rfl) (gk (k := 320) (t := 15) ck_W_reckon_10 rfl) (gk (k := 320) (t := 16) ck_W_reckon_10 rfl) (by decide +kernel)
theorem ck_W_reckon_9 : (y_W_reckon.2.1.data.toList.drop 288).take 32 = [19, 21, 4, 21, 8, 21, 9, 164, 0, 7, 4, 167, 0, 4, 3, 79, 167, 0, 68, 42, 180, 0, 19, 21, 4, 21, 8, 21, 9, 126, 79, 167] := by decide +kernel
theorem d_W_reckon_307 : decode y_W_reckon.2.1 307 = .ok (.aload_n 0, 1) := op_aload_n0 (gk (k := 288) (t := 19) ck_W_reckon_9 rfl)
theorem d_W_reckon_308 : decode y_W_reckon.2.1 308 = .ok (.getfield 19, 3) := op_getfield (gk (k := 288) (t := 20) ck_W_reckon_9 rfl) (gk (k := 288) (t := 21) ck_W_reckon_9 rfl) (gk (k := 288) (t := 22) ck_W_reckon_9 rfl) rfl
theorem d_W_reckon_311 : decode y_W_reckon.2.1 311 = .ok (.iload 4, 2) := op_iload (gk (k := 288) (t := 23) ck_W_reckon_9 rfl) (gk (k := 288) (t := 24) ck_W_reckon_9 rfl) rfl
theorem d_W_reckon_313 : decode y_W_reckon.2.1 313 = .ok (.iload 8, 2) := op_iload (gk (k := 288) (t := 25) ck_W_reckon_9 rfl) (gk (k := 288) (t := 26) ck_W_reckon_9 rfl) rfl
theorem d_W_reckon_315 : decode y_W_reckon.2.1 315 = .ok (.iload 9, 2) := op_iload (gk (k := 288) (t := 27) ck_W_reckon_9 rfl) (gk (k := 288) (t := 28) ck_W_reckon_9 rfl) rfl
theorem d_W_reckon_317 : decode y_W_reckon.2.1 317 = .ok (.iand, 1) := op_iand (gk (k := 288) (t := 29) ck_W_reckon_9 rfl)
theorem d_W_reckon_318 : decode y_W_reckon.2.1 318 = .ok (.iastore, 1) := op_iastore (gk (k := 288) (t := 30) ck_W_reckon_9 rfl)
theorem d_W_reckon_319 : decode y_W_reckon.2.1 319 = .ok (.goto 53, 3) := op_goto (gk (k := 288) (t := 31) ck_W_reckon_9 rfl) (gk (k := 320) (t := 0) ck_W_reckon_10 rfl) (gk (k := 320) (t := 1) ck_W_reckon_10 rfl) (by decide +kernel)
theorem ck_W_reckon_8 : (y_W_reckon.2.1.data.toList.drop 256).take 32 = [0, 4, 3, 79, 167, 0, 112, 42, 180, 0, 19, 21, 4, 21, 8, 21, 9, 160, 0, 7, 4, 167, 0, 4, 3, 79, 167, 0, 90, 42, 180, 0] := by decide +kernel
theorem d_W_reckon_285 : decode y_W_reckon.2.1 285 = .ok (.aload_n 0, 1) := op_aload_n0 (gk (k := 256) (t := 29) ck_W_reckon_8 rfl)
theorem d_W_reckon_286 : decode y_W_reckon.2.1 286 = .ok (.getfield 19, 3) := op_getfield (gk (k := 256) (t := 30) ck_W_reckon_8 rfl) (gk (k := 256) (t := 31) ck_W_reckon_8 rfl) (gk (k := 288) (t := 0) ck_W_reckon_9 rfl) rfl
theorem d_W_reckon_289 : decode y_W_reckon.2.1 289 = .ok (.iload 4, 2) := op_iload (gk (k := 288) (t := 1) ck_W_reckon_9 rfl) (gk (k := 288) (t := 2) ck_W_reckon_9 rfl) rfl
theorem d_W_reckon_291 : decode y_W_reckon.2.1 291 = .ok (.iload 8, 2) := op_iload (gk (k := 288) (t := 3) ck_W_reckon_9 rfl) (gk (k := 288) (t := 4) ck_W_reckon_9 rfl) rfl
theorem d_W_reckon_293 : decode y_W_reckon.2.1 293 = .ok (.iload 9, 2) := op_iload (gk (k := 288) (t := 5) ck_W_reckon_9 rfl) (gk (k := 288) (t := 6) ck_W_reckon_9 rfl) rfl
theorem d_W_reckon_303 : decode y_W_reckon.2.1 303 = .ok (.iastore, 1) := op_iastore (gk (k := 288) (t := 15) ck_W_reckon_9 rfl)
theorem d_W_reckon_304 : decode y_W_reckon.2.1 304 = .ok (.goto 68, 3) := op_goto (gk (k := 288) (t := 16) ck_W_reckon_9 rfl) (gk (k := 288) (t := 17) ck_W_reckon_9 rfl) (gk (k := 288) (t := 18) ck_W_reckon_9 rfl) (by decide +kernel)
theorem d_W_reckon_295 : decode y_W_reckon.2.1 295 = .ok (.if_icmp .le 7, 3) := op_icmp_le (gk (k := 288) (t := 7) ck_W_reckon_9 rfl) (gk (k := 288) (t := 8) ck_W_reckon_9 rfl) (gk (k := 288) (t := 9) ck_W_reckon_9 rfl) (by decide +kernel)
theorem d_W_reckon_302 : decode y_W_reckon.2.1 302 = .ok (.iconst 0, 1) := op_iconst0 (gk (k := 288) (t := 14) ck_W_reckon_9 rfl)
theorem d_W_reckon_298 : decode y_W_reckon.2.1 298 = .ok (.iconst 1, 1) := op_iconst1 (gk (k := 288) (t := 10) ck_W_reckon_9 rfl)
theorem d_W_reckon_299 : decode y_W_reckon.2.1 299 = .ok (.goto 4, 3) := op_goto (gk (k := 288) (t := 11) ck_W_reckon_9 rfl) (gk (k := 288) (t := 12) ck_W_reckon_9 rfl) (gk (k := 288) (t := 13) ck_W_reckon_9 rfl) (by decide +kernel)
theorem d_W_reckon_263 : decode y_W_reckon.2.1 263 = .ok (.aload_n 0, 1) := op_aload_n0 (gk (k := 256) (t := 7) ck_W_reckon_8 rfl)
theorem d_W_reckon_264 : decode y_W_reckon.2.1 264 = .ok (.getfield 19, 3) := op_getfield (gk (k := 256) (t := 8) ck_W_reckon_8 rfl) (gk (k := 256) (t := 9) ck_W_reckon_8 rfl) (gk (k := 256) (t := 10) ck_W_reckon_8 rfl) rfl
theorem d_W_reckon_267 : decode y_W_reckon.2.1 267 = .ok (.iload 4, 2) := op_iload (gk (k := 256) (t := 11) ck_W_reckon_8 rfl) (gk (k := 256) (t := 12) ck_W_reckon_8 rfl) rfl
theorem d_W_reckon_269 : decode y_W_reckon.2.1 269 = .ok (.iload 8, 2) := op_iload (gk (k := 256) (t := 13) ck_W_reckon_8 rfl) (gk (k := 256) (t := 14) ck_W_reckon_8 rfl) rfl
theorem d_W_reckon_271 : decode y_W_reckon.2.1 271 = .ok (.iload 9, 2) := op_iload (gk (k := 256) (t := 15) ck_W_reckon_8 rfl) (gk (k := 256) (t := 16) ck_W_reckon_8 rfl) rfl
theorem d_W_reckon_281 : decode y_W_reckon.2.1 281 = .ok (.iastore, 1) := op_iastore (gk (k := 256) (t := 25) ck_W_reckon_8 rfl)
theorem d_W_reckon_282 : decode y_W_reckon.2.1 282 = .ok (.goto 90, 3) := op_goto (gk (k := 256) (t := 26) ck_W_reckon_8 rfl) (gk (k := 256) (t := 27) ck_W_reckon_8 rfl) (gk (k := 256) (t := 28) ck_W_reckon_8 rfl) (by decide +kernel)
theorem d_W_reckon_273 : decode y_W_reckon.2.1 273 = .ok (.if_icmp .ne 7, 3) := op_icmp_ne (gk (k := 256) (t := 17) ck_W_reckon_8 rfl) (gk (k := 256) (t := 18) ck_W_reckon_8 rfl) (gk (k := 256) (t := 19) ck_W_reckon_8 rfl) (by decide +kernel)
theorem d_W_reckon_280 : decode y_W_reckon.2.1 280 = .ok (.iconst 0, 1) := op_iconst0 (gk (k := 256) (t := 24) ck_W_reckon_8 rfl)
theorem d_W_reckon_276 : decode y_W_reckon.2.1 276 = .ok (.iconst 1, 1) := op_iconst1 (gk (k := 256) (t := 20) ck_W_reckon_8 rfl)
theorem d_W_reckon_277 : decode y_W_reckon.2.1 277 = .ok (.goto 4, 3) := op_goto (gk (k := 256) (t := 21) ck_W_reckon_8 rfl) (gk (k := 256) (t := 22) ck_W_reckon_8 rfl) (gk (k := 256) (t := 23) ck_W_reckon_8 rfl) (by decide +kernel)
theorem ck_W_reckon_7 : (y_W_reckon.2.1.data.toList.drop 224).take 32 = [9, 154, 0, 7, 3, 167, 0, 8, 21, 8, 21, 9, 108, 79, 167, 0, 134, 42, 180, 0, 19, 21, 4, 21, 8, 21, 9, 162, 0, 7, 4, 167] := by decide +kernel
theorem d_W_reckon_241 : decode y_W_reckon.2.1 241 = .ok (.aload_n 0, 1) := op_aload_n0 (gk (k := 224) (t := 17) ck_W_reckon_7 rfl)
theorem d_W_reckon_242 : decode y_W_reckon.2.1 242 = .ok (.getfield 19, 3) := op_getfield (gk (k := 224) (t := 18) ck_W_reckon_7 rfl) (gk (k := 224) (t := 19) ck_W_reckon_7 rfl) (gk (k := 224) (t := 20) ck_W_reckon_7 rfl) rfl
theorem d_W_reckon_245 : decode y_W_reckon.2.1 245 = .ok (.iload 4, 2) := op_iload (gk (k := 224) (t := 21) ck_W_reckon_7 rfl) (gk (k := 224) (t := 22) ck_W_reckon_7 rfl) rfl
theorem d_W_reckon_247 : decode y_W_reckon.2.1 247 = .ok (.iload 8, 2) := op_iload (gk (k := 224) (t := 23) ck_W_reckon_7 rfl) (gk (k := 224) (t := 24) ck_W_reckon_7 rfl) rfl
theorem d_W_reckon_249 : decode y_W_reckon.2.1 249 = .ok (.iload 9, 2) := op_iload (gk (k := 224) (t := 25) ck_W_reckon_7 rfl) (gk (k := 224) (t := 26) ck_W_reckon_7 rfl) rfl
theorem d_W_reckon_259 : decode y_W_reckon.2.1 259 = .ok (.iastore, 1) := op_iastore (gk (k := 256) (t := 3) ck_W_reckon_8 rfl)
theorem d_W_reckon_260 : decode y_W_reckon.2.1 260 = .ok (.goto 112, 3) := op_goto (gk (k := 256) (t := 4) ck_W_reckon_8 rfl) (gk (k := 256) (t := 5) ck_W_reckon_8 rfl) (gk (k := 256) (t := 6) ck_W_reckon_8 rfl) (by decide +kernel)
theorem d_W_reckon_251 : decode y_W_reckon.2.1 251 = .ok (.if_icmp .ge 7, 3) := op_icmp_ge (gk (k := 224) (t := 27) ck_W_reckon_7 rfl) (gk (k := 224) (t := 28) ck_W_reckon_7 rfl) (gk (k := 224) (t := 29) ck_W_reckon_7 rfl) (by decide +kernel)
theorem d_W_reckon_258 : decode y_W_reckon.2.1 258 = .ok (.iconst 0, 1) := op_iconst0 (gk (k := 256) (t := 2) ck_W_reckon_8 rfl)
theorem d_W_reckon_254 : decode y_W_reckon.2.1 254 = .ok (.iconst 1, 1) := op_iconst1 (gk (k := 224) (t := 30) ck_W_reckon_7 rfl)
theorem d_W_reckon_255 : decode y_W_reckon.2.1 255 = .ok (.goto 4, 3) := op_goto (gk (k := 224) (t := 31) ck_W_reckon_7 rfl) (gk (k := 256) (t := 0) ck_W_reckon_8 rfl) (gk (k := 256) (t := 1) ck_W_reckon_8 rfl) (by decide +kernel)
theorem ck_W_reckon_6 : (y_W_reckon.2.1.data.toList.drop 192).take 32 = [4, 21, 8, 21, 9, 100, 79, 167, 0, 173, 42, 180, 0, 19, 21, 4, 21, 8, 21, 9, 104, 79, 167, 0, 158, 42, 180, 0, 19, 21, 4, 21] := by decide +kernel
theorem d_W_reckon_217 : decode y_W_reckon.2.1 217 = .ok (.aload_n 0, 1) := op_aload_n0 (gk (k := 192) (t := 25) ck_W_reckon_6 rfl)
theorem d_W_reckon_218 : decode y_W_reckon.2.1 218 = .ok (.getfield 19, 3) := op_getfield (gk (k := 192) (t := 26) ck_W_reckon_6 rfl) (gk (k := 192) (t := 27) ck_W_reckon_6 rfl) (gk (k := 192) (t := 28) ck_W_reckon_6 rfl) rfl
theorem d_W_reckon_221 : decode y_W_reckon.2.1 221 = .ok (.iload 4, 2) := op_iload (gk (k := 192) (t := 29) ck_W_reckon_6 rfl) (gk (k := 192) (t := 30) ck_W_reckon_6 rfl) rfl
theorem d_W_reckon_223 : decode y_W_reckon.2.1 223 = .ok (.iload 9, 2) := op_iload (gk (k := 192) (t := 31) ck_W_reckon_6 rfl) (gk (k := 224) (t := 0) ck_W_reckon_7 rfl) rfl
theorem d_W_reckon_237 : decode y_W_reckon.2.1 237 = .ok (.iastore, 1) := op_iastore (gk (k := 224) (t := 13) ck_W_reckon_7 rfl)
theorem d_W_reckon_238 : decode y_W_reckon.2.1 238 = .ok (.goto 134, 3) := op_goto (gk (k := 224) (t := 14) ck_W_reckon_7 rfl) (gk (k := 224) (t := 15) ck_W_reckon_7 rfl) (gk (k := 224) (t := 16) ck_W_reckon_7 rfl) (by decide +kernel)
theorem d_W_reckon_225 : decode y_W_reckon.2.1 225 = .ok (.ifCond .ne 7, 3) := op_if_ne (gk (k := 224) (t := 1) ck_W_reckon_7 rfl) (gk (k := 224) (t := 2) ck_W_reckon_7 rfl) (gk (k := 224) (t := 3) ck_W_reckon_7 rfl) (by decide +kernel)
theorem d_W_reckon_232 : decode y_W_reckon.2.1 232 = .ok (.iload 8, 2) := op_iload (gk (k := 224) (t := 8) ck_W_reckon_7 rfl) (gk (k := 224) (t := 9) ck_W_reckon_7 rfl) rfl
theorem d_W_reckon_234 : decode y_W_reckon.2.1 234 = .ok (.iload 9, 2) := op_iload (gk (k := 224) (t := 10) ck_W_reckon_7 rfl) (gk (k := 224) (t := 11) ck_W_reckon_7 rfl) rfl
theorem d_W_reckon_236 : decode y_W_reckon.2.1 236 = .ok (.idiv, 1) := op_idiv (gk (k := 224) (t := 12) ck_W_reckon_7 rfl)
theorem d_W_reckon_228 : decode y_W_reckon.2.1 228 = .ok (.iconst 0, 1) := op_iconst0 (gk (k := 224) (t := 4) ck_W_reckon_7 rfl)
theorem d_W_reckon_229 : decode y_W_reckon.2.1 229 = .ok (.goto 8, 3) := op_goto (gk (k := 224) (t := 5) ck_W_reckon_7 rfl) (gk (k := 224) (t := 6) ck_W_reckon_7 rfl) (gk (k := 224) (t := 7) ck_W_reckon_7 rfl) (by decide +kernel)
theorem d_W_reckon_202 : decode y_W_reckon.2.1 202 = .ok (.aload_n 0, 1) := op_aload_n0 (gk (k := 192) (t := 10) ck_W_reckon_6 rfl)
theorem d_W_reckon_203 : decode y_W_reckon.2.1 203 = .ok (.getfield 19, 3) := op_getfield (gk (k := 192) (t := 11) ck_W_reckon_6 rfl) (gk (k := 192) (t := 12) ck_W_reckon_6 rfl) (gk (k := 192) (t := 13) ck_W_reckon_6 rfl) rfl
theorem d_W_reckon_206 : decode y_W_reckon.2.1 206 = .ok (.iload 4, 2) := op_iload (gk (k := 192) (t := 14) ck_W_reckon_6 rfl) (gk (k := 192) (t := 15) ck_W_reckon_6 rfl) rfl
theorem d_W_reckon_208 : decode y_W_reckon.2.1 208 = .ok (.iload 8, 2) := op_iload (gk (k := 192) (t := 16) ck_W_reckon_6 rfl) (gk (k := 192) (t := 17) ck_W_reckon_6 rfl) rfl
theorem d_W_reckon_210 : decode y_W_reckon.2.1 210 = .ok (.iload 9, 2) := op_iload (gk (k := 192) (t := 18) ck_W_reckon_6 rfl) (gk (k := 192) (t := 19) ck_W_reckon_6 rfl) rfl
theorem d_W_reckon_212 : decode y_W_reckon.2.1 212 = .ok (.imul, 1) := op_imul (gk (k := 192) (t := 20) ck_W_reckon_6 rfl)
theorem d_W_reckon_213 : decode y_W_reckon.2.1 213 = .ok (.iastore, 1) := op_iastore (gk (k := 192) (t := 21) ck_W_reckon_6 rfl)
theorem d_W_reckon_214 : decode y_W_reckon.2.1 214 = .ok (.goto 158, 3) := op_goto (gk (k := 192) (t := 22) ck_W_reckon_6 rfl) (gk (k := 192) (t := 23) ck_W_reckon_6 rfl) (gk (k := 192) (t := 24) ck_W_reckon_6 rfl) (by decide +kernel)
theorem ck_W_reckon_5 : (y_W_reckon.2.1.data.toList.drop 160).take 32 = [0, 0, 0, 86, 0, 0, 0, 71, 0, 0, 0, 56, 42, 180, 0, 19, 21, 4, 21, 8, 21, 9, 96, 79, 167, 0, 188, 42, 180, 0, 19, 21] := by decide +kernel
theorem d_W_reckon_187 : decode y_W_reckon.2.1 187 = .ok (.aload_n 0, 1) := op_aload_n0 (gk (k := 160) (t := 27) ck_W_reckon_5 rfl)
theorem d_W_reckon_188 : decode y_W_reckon.2.1 188 = .ok (.getfield 19, 3) := op_getfield (gk (k := 160) (t := 28) ck_W_reckon_5 rfl) (gk (k := 160) (t := 29) ck_W_reckon_5 rfl) (gk (k := 160) (t := 30) ck_W_reckon_5 rfl) rfl
theorem d_W_reckon_191 : decode y_W_reckon.2.1 191 = .ok (.iload 4, 2) := op_iload (gk (k := 160) (t := 31) ck_W_reckon_5 rfl) (gk (k := 192) (t := 0) ck_W_reckon_6 rfl) rfl
theorem d_W_reckon_193 : decode y_W_reckon.2.1 193 = .ok (.iload 8, 2) := op_iload (gk (k := 192) (t := 1) ck_W_reckon_6 rfl) (gk (k := 192) (t := 2) ck_W_reckon_6 rfl) rfl
theorem d_W_reckon_195 : decode y_W_reckon.2.1 195 = .ok (.iload 9, 2) := op_iload (gk (k := 192) (t := 3) ck_W_reckon_6 rfl) (gk (k := 192) (t := 4) ck_W_reckon_6 rfl) rfl
theorem d_W_reckon_197 : decode y_W_reckon.2.1 197 = .ok (.isub, 1) := op_isub (gk (k := 192) (t := 5) ck_W_reckon_6 rfl)
theorem d_W_reckon_198 : decode y_W_reckon.2.1 198 = .ok (.iastore, 1) := op_iastore (gk (k := 192) (t := 6) ck_W_reckon_6 rfl)
theorem d_W_reckon_199 : decode y_W_reckon.2.1 199 = .ok (.goto 173, 3) := op_goto (gk (k := 192) (t := 7) ck_W_reckon_6 rfl) (gk (k := 192) (t := 8) ck_W_reckon_6 rfl) (gk (k := 192) (t := 9) ck_W_reckon_6 rfl) (by decide +kernel)
theorem d_W_reckon_172 : decode y_W_reckon.2.1 172 = .ok (.aload_n 0, 1) := op_aload_n0 (gk (k := 160) (t := 12) ck_W_reckon_5 rfl)
theorem d_W_reckon_173 : decode y_W_reckon.2.1 173 = .ok (.getfield 19, 3) := op_getfield (gk (k := 160) (t := 13) ck_W_reckon_5 rfl) (gk (k := 160) (t := 14) ck_W_reckon_5 rfl) (gk (k := 160) (t := 15) ck_W_reckon_5 rfl) rfl
theorem d_W_reckon_176 : decode y_W_reckon.2.1 176 = .ok (.iload 4, 2) := op_iload (gk (k := 160) (t := 16) ck_W_reckon_5 rfl) (gk (k := 160) (t := 17) ck_W_reckon_5 rfl) rfl
theorem d_W_reckon_178 : decode y_W_reckon.2.1 178 = .ok (.iload 8, 2) := op_iload (gk (k := 160) (t := 18) ck_W_reckon_5 rfl) (gk (k := 160) (t := 19) ck_W_reckon_5 rfl) rfl
theorem d_W_reckon_180 : decode y_W_reckon.2.1 180 = .ok (.iload 9, 2) := op_iload (gk (k := 160) (t := 20) ck_W_reckon_5 rfl) (gk (k := 160) (t := 21) ck_W_reckon_5 rfl) rfl
theorem d_W_reckon_182 : decode y_W_reckon.2.1 182 = .ok (.iadd, 1) := op_iadd (gk (k := 160) (t := 22) ck_W_reckon_5 rfl)
theorem d_W_reckon_183 : decode y_W_reckon.2.1 183 = .ok (.iastore, 1) := op_iastore (gk (k := 160) (t := 23) ck_W_reckon_5 rfl)
theorem d_W_reckon_184 : decode y_W_reckon.2.1 184 = .ok (.goto 188, 3) := op_goto (gk (k := 160) (t := 24) ck_W_reckon_5 rfl) (gk (k := 160) (t := 25) ck_W_reckon_5 rfl) (gk (k := 160) (t := 26) ck_W_reckon_5 rfl) (by decide +kernel)
theorem d_W_reckon_351 : decode y_W_reckon.2.1 351 = .ok (.aload_n 0, 1) := op_aload_n0 (gk (k := 320) (t := 31) ck_W_reckon_10 rfl)
theorem d_W_reckon_352 : decode y_W_reckon.2.1 352 = .ok (.getfield 19, 3) := op_getfield (gk (k := 352) (t := 0) ck_W_reckon_11 rfl) (gk (k := 352) (t := 1) ck_W_reckon_11 rfl) (gk (k := 352) (t := 2) ck_W_reckon_11 rfl) rfl
theorem d_W_reckon_355 : decode y_W_reckon.2.1 355 = .ok (.iload 4, 2) := op_iload (gk (k := 352) (t := 3) ck_W_reckon_11 rfl) (gk (k := 352) (t := 4) ck_W_reckon_11 rfl) rfl
theorem d_W_reckon_357 : decode y_W_reckon.2.1 357 = .ok (.iload 7, 2) := op_iload (gk (k := 352) (t := 5) ck_W_reckon_11 rfl) (gk (k := 352) (t := 6) ck_W_reckon_11 rfl) rfl
theorem d_W_reckon_371 : decode y_W_reckon.2.1 371 = .ok (.iastore, 1) := op_iastore (gk (k := 352) (t := 19) ck_W_reckon_11 rfl)
theorem d_W_reckon_359 : decode y_W_reckon.2.1 359 = .ok (.ifCond .ge 8, 3) := op_if_ge (gk (k := 352) (t := 7) ck_W_reckon_11 rfl) (gk (k := 352) (t := 8) ck_W_reckon_11 rfl) (gk (k := 352) (t := 9) ck_W_reckon_11 rfl) (by decide +kernel)
theorem d_W_reckon_367 : decode y_W_reckon.2.1 367 = .ok (.aload_n 3, 1) := op_aload_n3 (gk (k := 352) (t := 15) ck_W_reckon_11 rfl)
theorem d_W_reckon_368 : decode y_W_reckon.2.1 368 = .ok (.iload 7, 2) := op_iload (gk (k := 352) (t := 16) ck_W_reckon_11 rfl) (gk (k := 352) (t := 17) ck_W_reckon_11 rfl) rfl
theorem d_W_reckon_370 : decode y_W_reckon.2.1 370 = .ok (.iaload, 1) := op_iaload (gk (k := 352) (t := 18) ck_W_reckon_11 rfl)
theorem d_W_reckon_362 : decode y_W_reckon.2.1 362 = .ok (.iload 6, 2) := op_iload (gk (k := 352) (t := 10) ck_W_reckon_11 rfl) (gk (k := 352) (t := 11) ck_W_reckon_11 rfl) rfl
theorem d_W_reckon_364 : decode y_W_reckon.2.1 364 = .ok (.goto 7, 3) := op_goto (gk (k := 352) (t := 12) ck_W_reckon_11 rfl) (gk (k := 352) (t := 13) ck_W_reckon_11 rfl) (gk (k := 352) (t := 14) ck_W_reckon_11 rfl) (by decide +kernel)
theorem d_W_reckon_46 : decode y_W_reckon.2.1 46 = .ok (.ifCond .lt 7, 3) := op_if_lt (gk (k := 32) (t := 14) ck_W_reckon_1 rfl) (gk (k := 32) (t := 15) ck_W_reckon_1 rfl) (gk (k := 32) (t := 16) ck_W_reckon_1 rfl) (by decide +kernel)
theorem d_W_reckon_53 : decode y_W_reckon.2.1 53 = .ok (.iload 6, 2) := op_iload (gk (k := 32) (t := 21) ck_W_reckon_1 rfl) (gk (k := 32) (t := 22) ck_W_reckon_1 rfl) rfl
theorem d_W_reckon_55 : decode y_W_reckon.2.1 55 = .ok (.bipush (-10), 2) := op_bipush (gk (k := 32) (t := 23) ck_W_reckon_1 rfl) (gk (k := 32) (t := 24) ck_W_reckon_1 rfl) rfl
theorem d_W_reckon_57 : decode y_W_reckon.2.1 57 = .ok (.if_icmp .ne 7, 3) := op_icmp_ne (gk (k := 32) (t := 25) ck_W_reckon_1 rfl) (gk (k := 32) (t := 26) ck_W_reckon_1 rfl) (gk (k := 32) (t := 27) ck_W_reckon_1 rfl) (by decide +kernel)
theorem d_W_reckon_64 : decode y_W_reckon.2.1 64 = .ok (.iconst (-1), 1) := op_iconstm1 (gk (k := 64) (t := 0) ck_W_reckon_2 rfl)
theorem d_W_reckon_60 : decode y_W_reckon.2.1 60 = .ok (.iconst 0, 1) := op_iconst0 (gk (k := 32) (t := 28) ck_W_reckon_1 rfl)
theorem d_W_reckon_61 : decode y_W_reckon.2.1 61 = .ok (.goto 4, 3) := op_goto (gk (k := 32) (t := 29) ck_W_reckon_1 rfl) (gk (k := 32) (t := 30) ck_W_reckon_1 rfl) (gk (k := 32) (t := 31) ck_W_reckon_1 rfl) (by decide +kernel)
theorem d_W_reckon_49 : decode y_W_reckon.2.1 49 = .ok (.iconst 1, 1) := op_iconst1 (gk (k := 32) (t := 17) ck_W_reckon_1 rfl)
theorem d_W_reckon_50 : decode y_W_reckon.2.1 50 = .ok (.goto 15, 3) := op_goto (gk (k := 32) (t := 18) ck_W_reckon_1 rfl) (gk (k := 32) (t := 19) ck_W_reckon_1 rfl) (gk (k := 32) (t := 20) ck_W_reckon_1 rfl) (by decide +kernel)
theorem d_W_reckon_378 : decode y_W_reckon.2.1 378 = .ok (.iload 4, 2) := op_iload (gk (k := 352) (t := 26) ck_W_reckon_11 rfl) (gk (k := 352) (t := 27) ck_W_reckon_11 rfl) rfl
theorem d_W_reckon_380 : decode y_W_reckon.2.1 380 = .ok (.ifCond .lt 13, 3) := op_if_lt (gk (k := 352) (t := 28) ck_W_reckon_11 rfl) (gk (k := 352) (t := 29) ck_W_reckon_11 rfl) (gk (k := 352) (t := 30) ck_W_reckon_11 rfl) (by decide +kernel)
theorem ck_W_reckon_12 : (y_W_reckon.2.1.data.toList.drop 384).take 32 = [180, 0, 19, 21, 4, 46, 167, 0, 4, 3, 172] := by decide +kernel
theorem d_W_reckon_393 : decode y_W_reckon.2.1 393 = .ok (.iconst 0, 1) := op_iconst0 (gk (k := 384) (t := 9) ck_W_reckon_12 rfl)
theorem d_W_reckon_394 : decode y_W_reckon.2.1 394 = .ok (.ireturn, 1) := op_ireturn (gk (k := 384) (t := 10) ck_W_reckon_12 rfl)
theorem d_W_reckon_383 : decode y_W_reckon.2.1 383 = .ok (.aload_n 0, 1) := op_aload_n0 (gk (k := 352) (t := 31) ck_W_reckon_11 rfl)
theorem d_W_reckon_384 : decode y_W_reckon.2.1 384 = .ok (.getfield 19, 3) := op_getfield (gk (k := 384) (t := 0) ck_W_reckon_12 rfl) (gk (k := 384) (t := 1) ck_W_reckon_12 rfl) (gk (k := 384) (t := 2) ck_W_reckon_12 rfl) rfl
theorem d_W_reckon_387 : decode y_W_reckon.2.1 387 = .ok (.iload 4, 2) := op_iload (gk (k := 384) (t := 3) ck_W_reckon_12 rfl) (gk (k := 384) (t := 4) ck_W_reckon_12 rfl) rfl
theorem d_W_reckon_389 : decode y_W_reckon.2.1 389 = .ok (.iaload, 1) := op_iaload (gk (k := 384) (t := 5) ck_W_reckon_12 rfl)
theorem d_W_reckon_390 : decode y_W_reckon.2.1 390 = .ok (.goto 4, 3) := op_goto (gk (k := 384) (t := 6) ck_W_reckon_12 rfl) (gk (k := 384) (t := 7) ck_W_reckon_12 rfl) (gk (k := 384) (t := 8) ck_W_reckon_12 rfl) (by decide +kernel)
abbrev y_W_value : MI := (⟨"SinglesUp$Law", "value", "([I)I"⟩, prog_5_method_8_code, 5, some .int)
theorem ck_W_value_0 : (y_W_value.2.1.data.toList.drop 0).take 32 = [3, 61, 28, 42, 180, 0, 26, 162, 0, 62, 28, 16, 16, 162, 0, 56, 42, 180, 0, 16, 28, 46, 62, 42, 180, 0, 13, 28, 4, 96, 46, 54] := by decide +kernel
theorem d_W_value_0 : decode y_W_value.2.1 0 = .ok (.iconst 0, 1) := op_iconst0 (gk (k := 0) (t := 0) ck_W_value_0 rfl)
theorem d_W_value_1 : decode y_W_value.2.1 1 = .ok (.istore_n 2, 1) := op_istore_n2 (gk (k := 0) (t := 1) ck_W_value_0 rfl)
theorem d_W_value_2 : decode y_W_value.2.1 2 = .ok (.iload_n 2, 1) := op_iload_n2 (gk (k := 0) (t := 2) ck_W_value_0 rfl)
theorem d_W_value_3 : decode y_W_value.2.1 3 = .ok (.aload_n 0, 1) := op_aload_n0 (gk (k := 0) (t := 3) ck_W_value_0 rfl)
theorem d_W_value_4 : decode y_W_value.2.1 4 = .ok (.getfield 26, 3) := op_getfield (gk (k := 0) (t := 4) ck_W_value_0 rfl) (gk (k := 0) (t := 5) ck_W_value_0 rfl) (gk (k := 0) (t := 6) ck_W_value_0 rfl) rfl
theorem d_W_value_7 : decode y_W_value.2.1 7 = .ok (.if_icmp .ge 62, 3) := op_icmp_ge (gk (k := 0) (t := 7) ck_W_value_0 rfl) (gk (k := 0) (t := 8) ck_W_value_0 rfl) (gk (k := 0) (t := 9) ck_W_value_0 rfl) (by decide +kernel)
theorem ck_W_value_2 : (y_W_value.2.1.data.toList.drop 64).take 32 = [2, 1, 167, 255, 192, 3, 172] := by decide +kernel
theorem d_W_value_69 : decode y_W_value.2.1 69 = .ok (.iconst 0, 1) := op_iconst0 (gk (k := 64) (t := 5) ck_W_value_2 rfl)
theorem d_W_value_70 : decode y_W_value.2.1 70 = .ok (.ireturn, 1) := op_ireturn (gk (k := 64) (t := 6) ck_W_value_2 rfl)
theorem d_W_value_10 : decode y_W_value.2.1 10 = .ok (.iload_n 2, 1) := op_iload_n2 (gk (k := 0) (t := 10) ck_W_value_0 rfl)
theorem d_W_value_11 : decode y_W_value.2.1 11 = .ok (.bipush 16, 2) := op_bipush (gk (k := 0) (t := 11) ck_W_value_0 rfl) (gk (k := 0) (t := 12) ck_W_value_0 rfl) rfl
theorem d_W_value_13 : decode y_W_value.2.1 13 = .ok (.if_icmp .ge 56, 3) := op_icmp_ge (gk (k := 0) (t := 13) ck_W_value_0 rfl) (gk (k := 0) (t := 14) ck_W_value_0 rfl) (gk (k := 0) (t := 15) ck_W_value_0 rfl) (by decide +kernel)
theorem d_W_value_16 : decode y_W_value.2.1 16 = .ok (.aload_n 0, 1) := op_aload_n0 (gk (k := 0) (t := 16) ck_W_value_0 rfl)
theorem d_W_value_17 : decode y_W_value.2.1 17 = .ok (.getfield 16, 3) := op_getfield (gk (k := 0) (t := 17) ck_W_value_0 rfl) (gk (k := 0) (t := 18) ck_W_value_0 rfl) (gk (k := 0) (t := 19) ck_W_value_0 rfl) rfl
theorem d_W_value_20 : decode y_W_value.2.1 20 = .ok (.iload_n 2, 1) := op_iload_n2 (gk (k := 0) (t := 20) ck_W_value_0 rfl)
theorem d_W_value_21 : decode y_W_value.2.1 21 = .ok (.iaload, 1) := op_iaload (gk (k := 0) (t := 21) ck_W_value_0 rfl)
theorem d_W_value_22 : decode y_W_value.2.1 22 = .ok (.istore_n 3, 1) := op_istore_n3 (gk (k := 0) (t := 22) ck_W_value_0 rfl)
theorem d_W_value_23 : decode y_W_value.2.1 23 = .ok (.aload_n 0, 1) := op_aload_n0 (gk (k := 0) (t := 23) ck_W_value_0 rfl)
theorem d_W_value_24 : decode y_W_value.2.1 24 = .ok (.getfield 13, 3) := op_getfield (gk (k := 0) (t := 24) ck_W_value_0 rfl) (gk (k := 0) (t := 25) ck_W_value_0 rfl) (gk (k := 0) (t := 26) ck_W_value_0 rfl) rfl
theorem d_W_value_27 : decode y_W_value.2.1 27 = .ok (.iload_n 2, 1) := op_iload_n2 (gk (k := 0) (t := 27) ck_W_value_0 rfl)
theorem d_W_value_28 : decode y_W_value.2.1 28 = .ok (.iconst 1, 1) := op_iconst1 (gk (k := 0) (t := 28) ck_W_value_0 rfl)
theorem d_W_value_29 : decode y_W_value.2.1 29 = .ok (.iadd, 1) := op_iadd (gk (k := 0) (t := 29) ck_W_value_0 rfl)
theorem d_W_value_30 : decode y_W_value.2.1 30 = .ok (.iaload, 1) := op_iaload (gk (k := 0) (t := 30) ck_W_value_0 rfl)
theorem ck_W_value_1 : (y_W_value.2.1.data.toList.drop 32).take 32 = [4, 29, 21, 4, 159, 0, 14, 42, 29, 21, 4, 43, 182, 0, 35, 153, 0, 16, 42, 42, 180, 0, 13, 28, 46, 29, 43, 182, 0, 35, 172, 132] := by decide +kernel
theorem d_W_value_31 : decode y_W_value.2.1 31 = .ok (.istore 4, 2) := op_istore (gk (k := 0) (t := 31) ck_W_value_0 rfl) (gk (k := 32) (t := 0) ck_W_value_1 rfl) rfl
theorem d_W_value_33 : decode y_W_value.2.1 33 = .ok (.iload_n 3, 1) := op_iload_n3 (gk (k := 32) (t := 1) ck_W_value_1 rfl)
theorem d_W_value_34 : decode y_W_value.2.1 34 = .ok (.iload 4, 2) := op_iload (gk (k := 32) (t := 2) ck_W_value_1 rfl) (gk (k := 32) (t := 3) ck_W_value_1 rfl) rfl
theorem d_W_value_36 : decode y_W_value.2.1 36 = .ok (.if_icmp .eq 14, 3) := op_icmp_eq (gk (k := 32) (t := 4) ck_W_value_1 rfl) (gk (k := 32) (t := 5) ck_W_value_1 rfl) (gk (k := 32) (t := 6) ck_W_value_1 rfl) (by decide +kernel)
theorem d_W_value_39 : decode y_W_value.2.1 39 = .ok (.aload_n 0, 1) := op_aload_n0 (gk (k := 32) (t := 7) ck_W_value_1 rfl)
theorem d_W_value_40 : decode y_W_value.2.1 40 = .ok (.iload_n 3, 1) := op_iload_n3 (gk (k := 32) (t := 8) ck_W_value_1 rfl)
theorem d_W_value_41 : decode y_W_value.2.1 41 = .ok (.iload 4, 2) := op_iload (gk (k := 32) (t := 9) ck_W_value_1 rfl) (gk (k := 32) (t := 10) ck_W_value_1 rfl) rfl
theorem d_W_value_43 : decode y_W_value.2.1 43 = .ok (.aload_n 1, 1) := op_aload_n1 (gk (k := 32) (t := 11) ck_W_value_1 rfl)
theorem lk_W_35 : LkV "SinglesUp$Law" 35 y_W_reckon := ⟨tw_c3 179 (by decide +kernel) rfl, tw_in 17 (by decide +kernel) rfl, Or.inl (tw_c3 177 (by decide +kernel) rfl)⟩
set_option maxRecDepth 100000 in
theorem mo_W_reckon : MOk y_W_reckon 3 := ⟨by decide +kernel, tw_c3 180 rfl rfl, tw_c1 5 (by decide +kernel) rfl, by decide +kernel, by decide +kernel, by decide +kernel⟩
theorem d_W_value_44 : decode y_W_value.2.1 44 = .ok (.invokevirtual 35, 3) := op_invokevirtual (gk (k := 32) (t := 12) ck_W_value_1 rfl) (gk (k := 32) (t := 13) ck_W_value_1 rfl) (gk (k := 32) (t := 14) ck_W_value_1 rfl) rfl
theorem d_W_value_47 : decode y_W_value.2.1 47 = .ok (.ifCond .eq 16, 3) := op_if_eq (gk (k := 32) (t := 15) ck_W_value_1 rfl) (gk (k := 32) (t := 16) ck_W_value_1 rfl) (gk (k := 32) (t := 17) ck_W_value_1 rfl) (by decide +kernel)
theorem d_W_value_63 : decode y_W_value.2.1 63 = .ok (.iinc 2 1, 3) := op_iinc (gk (k := 32) (t := 31) ck_W_value_1 rfl) (gk (k := 64) (t := 0) ck_W_value_2 rfl) (gk (k := 64) (t := 1) ck_W_value_2 rfl) rfl rfl
theorem d_W_value_66 : decode y_W_value.2.1 66 = .ok (.goto (-64), 3) := op_goto (gk (k := 64) (t := 2) ck_W_value_2 rfl) (gk (k := 64) (t := 3) ck_W_value_2 rfl) (gk (k := 64) (t := 4) ck_W_value_2 rfl) (by decide +kernel)
theorem d_W_value_50 : decode y_W_value.2.1 50 = .ok (.aload_n 0, 1) := op_aload_n0 (gk (k := 32) (t := 18) ck_W_value_1 rfl)
theorem d_W_value_51 : decode y_W_value.2.1 51 = .ok (.aload_n 0, 1) := op_aload_n0 (gk (k := 32) (t := 19) ck_W_value_1 rfl)
theorem d_W_value_52 : decode y_W_value.2.1 52 = .ok (.getfield 13, 3) := op_getfield (gk (k := 32) (t := 20) ck_W_value_1 rfl) (gk (k := 32) (t := 21) ck_W_value_1 rfl) (gk (k := 32) (t := 22) ck_W_value_1 rfl) rfl
theorem d_W_value_55 : decode y_W_value.2.1 55 = .ok (.iload_n 2, 1) := op_iload_n2 (gk (k := 32) (t := 23) ck_W_value_1 rfl)
theorem d_W_value_56 : decode y_W_value.2.1 56 = .ok (.iaload, 1) := op_iaload (gk (k := 32) (t := 24) ck_W_value_1 rfl)
theorem d_W_value_57 : decode y_W_value.2.1 57 = .ok (.iload_n 3, 1) := op_iload_n3 (gk (k := 32) (t := 25) ck_W_value_1 rfl)
theorem d_W_value_58 : decode y_W_value.2.1 58 = .ok (.aload_n 1, 1) := op_aload_n1 (gk (k := 32) (t := 26) ck_W_value_1 rfl)
theorem d_W_value_59 : decode y_W_value.2.1 59 = .ok (.invokevirtual 35, 3) := op_invokevirtual (gk (k := 32) (t := 27) ck_W_value_1 rfl) (gk (k := 32) (t := 28) ck_W_value_1 rfl) (gk (k := 32) (t := 29) ck_W_value_1 rfl) rfl
theorem d_W_value_62 : decode y_W_value.2.1 62 = .ok (.ireturn, 1) := op_ireturn (gk (k := 32) (t := 30) ck_W_value_1 rfl)
abbrev y_H_lineFor : MI := (⟨"SinglesUp$Hill", "lineFor", "(II)I"⟩, prog_4_method_7_code, 3, some .int)
theorem ck_H_lineFor_0 : (y_H_lineFor.2.1.data.toList.drop 0).take 32 = [42, 180, 0, 46, 2, 159, 0, 23, 27, 7, 163, 0, 16, 42, 180, 0, 46, 27, 4, 100, 122, 4, 126, 167, 0, 4, 3, 172, 42, 180, 0, 50] := by decide +kernel
theorem d_H_lineFor_0 : decode y_H_lineFor.2.1 0 = .ok (.aload_n 0, 1) := op_aload_n0 (gk (k := 0) (t := 0) ck_H_lineFor_0 rfl)
theorem fl_H_46 : FL "SinglesUp$Hill" 46 2 11 := ⟨"SinglesUp$Hill", zT2, 14, rfl, by decide, rfl, Or.inl (tw_c1 113 (by decide +kernel) rfl)⟩
theorem d_H_lineFor_1 : decode y_H_lineFor.2.1 1 = .ok (.getfield 46, 3) := op_getfield (gk (k := 0) (t := 1) ck_H_lineFor_0 rfl) (gk (k := 0) (t := 2) ck_H_lineFor_0 rfl) (gk (k := 0) (t := 3) ck_H_lineFor_0 rfl) rfl
theorem d_H_lineFor_4 : decode y_H_lineFor.2.1 4 = .ok (.iconst (-1), 1) := op_iconstm1 (gk (k := 0) (t := 4) ck_H_lineFor_0 rfl)
theorem d_H_lineFor_5 : decode y_H_lineFor.2.1 5 = .ok (.if_icmp .eq 23, 3) := op_icmp_eq (gk (k := 0) (t := 5) ck_H_lineFor_0 rfl) (gk (k := 0) (t := 6) ck_H_lineFor_0 rfl) (gk (k := 0) (t := 7) ck_H_lineFor_0 rfl) (by decide +kernel)
theorem d_H_lineFor_28 : decode y_H_lineFor.2.1 28 = .ok (.aload_n 0, 1) := op_aload_n0 (gk (k := 0) (t := 28) ck_H_lineFor_0 rfl)
theorem fl_H_50 : FL "SinglesUp$Hill" 50 2 12 := ⟨"SinglesUp$Hill", zT2, 14, rfl, by decide, rfl, Or.inl (tw_c1 115 (by decide +kernel) rfl)⟩
theorem rc_2_12 : ∀ o, KC[o]? = some (5, 14) → RC o 12 = some (o + 13) ∧ KC[o + 13]? = some (0, 16) := by
  intro o h
  have hl : o < 166 := (List.getElem?_eq_some_iff.mp h).1
  exact (by decide +kernel : ∀ o, o < 166 → KC[o]? = some (5, 14) → RC o 12 = some (o + 13) ∧ KC[o + 13]? = some (0, 16)) o hl h
theorem d_H_lineFor_29 : decode y_H_lineFor.2.1 29 = .ok (.getfield 50, 3) := op_getfield (gk (k := 0) (t := 29) ck_H_lineFor_0 rfl) (gk (k := 0) (t := 30) ck_H_lineFor_0 rfl) (gk (k := 0) (t := 31) ck_H_lineFor_0 rfl) rfl
theorem ck_H_lineFor_1 : (y_H_lineFor.2.1.data.toList.drop 32).take 32 = [16, 7, 27, 79, 42, 180, 0, 50, 16, 8, 28, 79, 42, 180, 0, 50, 8, 42, 180, 0, 33, 182, 0, 94, 79, 42, 180, 0, 50, 16, 6, 42] := by decide +kernel
theorem d_H_lineFor_32 : decode y_H_lineFor.2.1 32 = .ok (.bipush 7, 2) := op_bipush (gk (k := 32) (t := 0) ck_H_lineFor_1 rfl) (gk (k := 32) (t := 1) ck_H_lineFor_1 rfl) rfl
theorem d_H_lineFor_34 : decode y_H_lineFor.2.1 34 = .ok (.iload_n 1, 1) := op_iload_n1 (gk (k := 32) (t := 2) ck_H_lineFor_1 rfl)
theorem d_H_lineFor_35 : decode y_H_lineFor.2.1 35 = .ok (.iastore, 1) := op_iastore (gk (k := 32) (t := 3) ck_H_lineFor_1 rfl)
theorem d_H_lineFor_36 : decode y_H_lineFor.2.1 36 = .ok (.aload_n 0, 1) := op_aload_n0 (gk (k := 32) (t := 4) ck_H_lineFor_1 rfl)
theorem d_H_lineFor_37 : decode y_H_lineFor.2.1 37 = .ok (.getfield 50, 3) := op_getfield (gk (k := 32) (t := 5) ck_H_lineFor_1 rfl) (gk (k := 32) (t := 6) ck_H_lineFor_1 rfl) (gk (k := 32) (t := 7) ck_H_lineFor_1 rfl) rfl
theorem d_H_lineFor_40 : decode y_H_lineFor.2.1 40 = .ok (.bipush 8, 2) := op_bipush (gk (k := 32) (t := 8) ck_H_lineFor_1 rfl) (gk (k := 32) (t := 9) ck_H_lineFor_1 rfl) rfl
theorem d_H_lineFor_42 : decode y_H_lineFor.2.1 42 = .ok (.iload_n 2, 1) := op_iload_n2 (gk (k := 32) (t := 10) ck_H_lineFor_1 rfl)
theorem d_H_lineFor_43 : decode y_H_lineFor.2.1 43 = .ok (.iastore, 1) := op_iastore (gk (k := 32) (t := 11) ck_H_lineFor_1 rfl)
theorem d_H_lineFor_44 : decode y_H_lineFor.2.1 44 = .ok (.aload_n 0, 1) := op_aload_n0 (gk (k := 32) (t := 12) ck_H_lineFor_1 rfl)
theorem d_H_lineFor_45 : decode y_H_lineFor.2.1 45 = .ok (.getfield 50, 3) := op_getfield (gk (k := 32) (t := 13) ck_H_lineFor_1 rfl) (gk (k := 32) (t := 14) ck_H_lineFor_1 rfl) (gk (k := 32) (t := 15) ck_H_lineFor_1 rfl) rfl
theorem d_H_lineFor_48 : decode y_H_lineFor.2.1 48 = .ok (.iconst 5, 1) := op_iconst5 (gk (k := 32) (t := 16) ck_H_lineFor_1 rfl)
theorem d_H_lineFor_49 : decode y_H_lineFor.2.1 49 = .ok (.aload_n 0, 1) := op_aload_n0 (gk (k := 32) (t := 17) ck_H_lineFor_1 rfl)
theorem fl_H_33 : FL "SinglesUp$Hill" 33 2 5 := ⟨"SinglesUp$Hill", zT2, 14, rfl, by decide, rfl, Or.inl (tw_c1 97 (by decide +kernel) rfl)⟩
theorem d_H_lineFor_50 : decode y_H_lineFor.2.1 50 = .ok (.getfield 33, 3) := op_getfield (gk (k := 32) (t := 18) ck_H_lineFor_1 rfl) (gk (k := 32) (t := 19) ck_H_lineFor_1 rfl) (gk (k := 32) (t := 20) ck_H_lineFor_1 rfl) rfl
theorem lk_H_94 : LkV "SinglesUp$Hill" 94 y_L_shortest := ⟨tw_c3 170 (by decide +kernel) rfl, tw_c3 171 (by decide +kernel) rfl, Or.inl (tw_c3 169 (by decide +kernel) rfl)⟩
set_option maxRecDepth 100000 in
theorem mo_L_shortest : MOk y_L_shortest 0 := ⟨by decide +kernel, tw_c3 172 rfl rfl, tw_c1 3 (by decide +kernel) rfl, by decide +kernel, by decide +kernel, by decide +kernel⟩
theorem d_H_lineFor_53 : decode y_H_lineFor.2.1 53 = .ok (.invokevirtual 94, 3) := op_invokevirtual (gk (k := 32) (t := 21) ck_H_lineFor_1 rfl) (gk (k := 32) (t := 22) ck_H_lineFor_1 rfl) (gk (k := 32) (t := 23) ck_H_lineFor_1 rfl) rfl
theorem d_H_lineFor_56 : decode y_H_lineFor.2.1 56 = .ok (.iastore, 1) := op_iastore (gk (k := 32) (t := 24) ck_H_lineFor_1 rfl)
theorem d_H_lineFor_57 : decode y_H_lineFor.2.1 57 = .ok (.aload_n 0, 1) := op_aload_n0 (gk (k := 32) (t := 25) ck_H_lineFor_1 rfl)
theorem d_H_lineFor_58 : decode y_H_lineFor.2.1 58 = .ok (.getfield 50, 3) := op_getfield (gk (k := 32) (t := 26) ck_H_lineFor_1 rfl) (gk (k := 32) (t := 27) ck_H_lineFor_1 rfl) (gk (k := 32) (t := 28) ck_H_lineFor_1 rfl) rfl
theorem d_H_lineFor_61 : decode y_H_lineFor.2.1 61 = .ok (.bipush 6, 2) := op_bipush (gk (k := 32) (t := 29) ck_H_lineFor_1 rfl) (gk (k := 32) (t := 30) ck_H_lineFor_1 rfl) rfl
theorem d_H_lineFor_63 : decode y_H_lineFor.2.1 63 = .ok (.aload_n 0, 1) := op_aload_n0 (gk (k := 32) (t := 31) ck_H_lineFor_1 rfl)
theorem ck_H_lineFor_2 : (y_H_lineFor.2.1.data.toList.drop 64).take 32 = [180, 0, 33, 180, 0, 98, 3, 46, 79, 42, 180, 0, 17, 7, 50, 42, 180, 0, 50, 182, 0, 101, 172] := by decide +kernel
theorem d_H_lineFor_64 : decode y_H_lineFor.2.1 64 = .ok (.getfield 33, 3) := op_getfield (gk (k := 64) (t := 0) ck_H_lineFor_2 rfl) (gk (k := 64) (t := 1) ck_H_lineFor_2 rfl) (gk (k := 64) (t := 2) ck_H_lineFor_2 rfl) rfl
theorem fl_H_98 : FL "SinglesUp$Hill" 98 4 1 := ⟨"SinglesUp$Lines", zT4, 3, rfl, by decide, rfl, Or.inr ⟨"SinglesUp", nw_in 47 (by decide +kernel) rfl⟩⟩
theorem d_H_lineFor_67 : decode y_H_lineFor.2.1 67 = .ok (.getfield 98, 3) := op_getfield (gk (k := 64) (t := 3) ck_H_lineFor_2 rfl) (gk (k := 64) (t := 4) ck_H_lineFor_2 rfl) (gk (k := 64) (t := 5) ck_H_lineFor_2 rfl) rfl
theorem d_H_lineFor_70 : decode y_H_lineFor.2.1 70 = .ok (.iconst 0, 1) := op_iconst0 (gk (k := 64) (t := 6) ck_H_lineFor_2 rfl)
theorem d_H_lineFor_71 : decode y_H_lineFor.2.1 71 = .ok (.iaload, 1) := op_iaload (gk (k := 64) (t := 7) ck_H_lineFor_2 rfl)
theorem d_H_lineFor_72 : decode y_H_lineFor.2.1 72 = .ok (.iastore, 1) := op_iastore (gk (k := 64) (t := 8) ck_H_lineFor_2 rfl)
theorem d_H_lineFor_73 : decode y_H_lineFor.2.1 73 = .ok (.aload_n 0, 1) := op_aload_n0 (gk (k := 64) (t := 9) ck_H_lineFor_2 rfl)
theorem fl_H_17 : FL "SinglesUp$Hill" 17 2 1 := ⟨"SinglesUp$Hill", zT2, 14, rfl, by decide, rfl, Or.inl (tw_c1 89 (by decide +kernel) rfl)⟩
theorem d_H_lineFor_74 : decode y_H_lineFor.2.1 74 = .ok (.getfield 17, 3) := op_getfield (gk (k := 64) (t := 10) ck_H_lineFor_2 rfl) (gk (k := 64) (t := 11) ck_H_lineFor_2 rfl) (gk (k := 64) (t := 12) ck_H_lineFor_2 rfl) rfl
theorem d_H_lineFor_77 : decode y_H_lineFor.2.1 77 = .ok (.iconst 4, 1) := op_iconst4 (gk (k := 64) (t := 13) ck_H_lineFor_2 rfl)
theorem d_H_lineFor_78 : decode y_H_lineFor.2.1 78 = .ok (.aaload, 1) := op_aaload (gk (k := 64) (t := 14) ck_H_lineFor_2 rfl)
theorem d_H_lineFor_79 : decode y_H_lineFor.2.1 79 = .ok (.aload_n 0, 1) := op_aload_n0 (gk (k := 64) (t := 15) ck_H_lineFor_2 rfl)
theorem d_H_lineFor_80 : decode y_H_lineFor.2.1 80 = .ok (.getfield 50, 3) := op_getfield (gk (k := 64) (t := 16) ck_H_lineFor_2 rfl) (gk (k := 64) (t := 17) ck_H_lineFor_2 rfl) (gk (k := 64) (t := 18) ck_H_lineFor_2 rfl) rfl
theorem lk_H_101 : LkV "SinglesUp$Hill" 101 y_W_value := ⟨tw_c3 174 (by decide +kernel) rfl, tw_c3 175 (by decide +kernel) rfl, Or.inl (tw_c3 173 (by decide +kernel) rfl)⟩
set_option maxRecDepth 100000 in
theorem mo_W_value : MOk y_W_value 1 := ⟨by decide +kernel, tw_c3 176 rfl rfl, tw_c1 5 (by decide +kernel) rfl, by decide +kernel, by decide +kernel, by decide +kernel⟩
theorem d_H_lineFor_83 : decode y_H_lineFor.2.1 83 = .ok (.invokevirtual 101, 3) := op_invokevirtual (gk (k := 64) (t := 19) ck_H_lineFor_2 rfl) (gk (k := 64) (t := 20) ck_H_lineFor_2 rfl) (gk (k := 64) (t := 21) ck_H_lineFor_2 rfl) rfl
theorem d_H_lineFor_86 : decode y_H_lineFor.2.1 86 = .ok (.ireturn, 1) := op_ireturn (gk (k := 64) (t := 22) ck_H_lineFor_2 rfl)
theorem d_H_lineFor_8 : decode y_H_lineFor.2.1 8 = .ok (.iload_n 1, 1) := op_iload_n1 (gk (k := 0) (t := 8) ck_H_lineFor_0 rfl)
theorem d_H_lineFor_9 : decode y_H_lineFor.2.1 9 = .ok (.iconst 4, 1) := op_iconst4 (gk (k := 0) (t := 9) ck_H_lineFor_0 rfl)
theorem d_H_lineFor_10 : decode y_H_lineFor.2.1 10 = .ok (.if_icmp .gt 16, 3) := op_icmp_gt (gk (k := 0) (t := 10) ck_H_lineFor_0 rfl) (gk (k := 0) (t := 11) ck_H_lineFor_0 rfl) (gk (k := 0) (t := 12) ck_H_lineFor_0 rfl) (by decide +kernel)
theorem d_H_lineFor_26 : decode y_H_lineFor.2.1 26 = .ok (.iconst 0, 1) := op_iconst0 (gk (k := 0) (t := 26) ck_H_lineFor_0 rfl)
theorem d_H_lineFor_27 : decode y_H_lineFor.2.1 27 = .ok (.ireturn, 1) := op_ireturn (gk (k := 0) (t := 27) ck_H_lineFor_0 rfl)
theorem d_H_lineFor_13 : decode y_H_lineFor.2.1 13 = .ok (.aload_n 0, 1) := op_aload_n0 (gk (k := 0) (t := 13) ck_H_lineFor_0 rfl)
theorem d_H_lineFor_14 : decode y_H_lineFor.2.1 14 = .ok (.getfield 46, 3) := op_getfield (gk (k := 0) (t := 14) ck_H_lineFor_0 rfl) (gk (k := 0) (t := 15) ck_H_lineFor_0 rfl) (gk (k := 0) (t := 16) ck_H_lineFor_0 rfl) rfl
theorem d_H_lineFor_17 : decode y_H_lineFor.2.1 17 = .ok (.iload_n 1, 1) := op_iload_n1 (gk (k := 0) (t := 17) ck_H_lineFor_0 rfl)
theorem d_H_lineFor_18 : decode y_H_lineFor.2.1 18 = .ok (.iconst 1, 1) := op_iconst1 (gk (k := 0) (t := 18) ck_H_lineFor_0 rfl)
theorem d_H_lineFor_19 : decode y_H_lineFor.2.1 19 = .ok (.isub, 1) := op_isub (gk (k := 0) (t := 19) ck_H_lineFor_0 rfl)
theorem d_H_lineFor_20 : decode y_H_lineFor.2.1 20 = .ok (.ishr, 1) := op_ishr (gk (k := 0) (t := 20) ck_H_lineFor_0 rfl)
theorem d_H_lineFor_21 : decode y_H_lineFor.2.1 21 = .ok (.iconst 1, 1) := op_iconst1 (gk (k := 0) (t := 21) ck_H_lineFor_0 rfl)
theorem d_H_lineFor_22 : decode y_H_lineFor.2.1 22 = .ok (.iand, 1) := op_iand (gk (k := 0) (t := 22) ck_H_lineFor_0 rfl)
theorem d_H_lineFor_23 : decode y_H_lineFor.2.1 23 = .ok (.goto 4, 3) := op_goto (gk (k := 0) (t := 23) ck_H_lineFor_0 rfl) (gk (k := 0) (t := 24) ck_H_lineFor_0 rfl) (gk (k := 0) (t := 25) ck_H_lineFor_0 rfl) (by decide +kernel)
abbrev y_L_append : MI := (⟨"SinglesUp$Lines", "append", "(I[II)Z"⟩, prog_6_method_9_code, 5, some .boolean)
theorem ck_L_append_0 : (y_L_append.2.1.data.toList.drop 0).take 32 = [27, 184, 0, 33, 153, 0, 27, 42, 180, 0, 15, 27, 46, 16, 40, 162, 0, 16, 29, 155, 0, 12, 29, 44, 190, 16, 6, 100, 164, 0, 5, 3] := by decide +kernel
theorem d_L_append_0 : decode y_L_append.2.1 0 = .ok (.iload_n 1, 1) := op_iload_n1 (gk (k := 0) (t := 0) ck_L_append_0 rfl)
theorem lk_L_33 : LkS "SinglesUp$Lines" 33 y_S_isLine := ⟨tw_c2 145 (by decide +kernel) rfl, Or.inr ⟨"SinglesUp", nw_in 665 (by decide +kernel) rfl⟩⟩
theorem d_L_append_1 : decode y_L_append.2.1 1 = .ok (.invokestatic 33, 3) := op_invokestatic (gk (k := 0) (t := 1) ck_L_append_0 rfl) (gk (k := 0) (t := 2) ck_L_append_0 rfl) (gk (k := 0) (t := 3) ck_L_append_0 rfl) rfl
theorem d_L_append_4 : decode y_L_append.2.1 4 = .ok (.ifCond .eq 27, 3) := op_if_eq (gk (k := 0) (t := 4) ck_L_append_0 rfl) (gk (k := 0) (t := 5) ck_L_append_0 rfl) (gk (k := 0) (t := 6) ck_L_append_0 rfl) (by decide +kernel)
theorem d_L_append_31 : decode y_L_append.2.1 31 = .ok (.iconst 0, 1) := op_iconst0 (gk (k := 0) (t := 31) ck_L_append_0 rfl)
theorem ck_L_append_1 : (y_L_append.2.1.data.toList.drop 32).take 32 = [172, 27, 16, 40, 104, 42, 180, 0, 15, 27, 46, 96, 54, 4, 44, 29, 42, 180, 0, 9, 21, 4, 16, 6, 104, 16, 6, 184, 0, 27, 42, 180] := by decide +kernel
theorem d_L_append_32 : decode y_L_append.2.1 32 = .ok (.ireturn, 1) := op_ireturn (gk (k := 32) (t := 0) ck_L_append_1 rfl)
theorem d_L_append_7 : decode y_L_append.2.1 7 = .ok (.aload_n 0, 1) := op_aload_n0 (gk (k := 0) (t := 7) ck_L_append_0 rfl)
theorem d_L_append_8 : decode y_L_append.2.1 8 = .ok (.getfield 15, 3) := op_getfield (gk (k := 0) (t := 8) ck_L_append_0 rfl) (gk (k := 0) (t := 9) ck_L_append_0 rfl) (gk (k := 0) (t := 10) ck_L_append_0 rfl) rfl
theorem d_L_append_11 : decode y_L_append.2.1 11 = .ok (.iload_n 1, 1) := op_iload_n1 (gk (k := 0) (t := 11) ck_L_append_0 rfl)
theorem d_L_append_12 : decode y_L_append.2.1 12 = .ok (.iaload, 1) := op_iaload (gk (k := 0) (t := 12) ck_L_append_0 rfl)
theorem d_L_append_13 : decode y_L_append.2.1 13 = .ok (.bipush 40, 2) := op_bipush (gk (k := 0) (t := 13) ck_L_append_0 rfl) (gk (k := 0) (t := 14) ck_L_append_0 rfl) rfl
theorem d_L_append_15 : decode y_L_append.2.1 15 = .ok (.if_icmp .ge 16, 3) := op_icmp_ge (gk (k := 0) (t := 15) ck_L_append_0 rfl) (gk (k := 0) (t := 16) ck_L_append_0 rfl) (gk (k := 0) (t := 17) ck_L_append_0 rfl) (by decide +kernel)
theorem d_L_append_18 : decode y_L_append.2.1 18 = .ok (.iload_n 3, 1) := op_iload_n3 (gk (k := 0) (t := 18) ck_L_append_0 rfl)
theorem d_L_append_19 : decode y_L_append.2.1 19 = .ok (.ifCond .lt 12, 3) := op_if_lt (gk (k := 0) (t := 19) ck_L_append_0 rfl) (gk (k := 0) (t := 20) ck_L_append_0 rfl) (gk (k := 0) (t := 21) ck_L_append_0 rfl) (by decide +kernel)
theorem d_L_append_22 : decode y_L_append.2.1 22 = .ok (.iload_n 3, 1) := op_iload_n3 (gk (k := 0) (t := 22) ck_L_append_0 rfl)
theorem d_L_append_23 : decode y_L_append.2.1 23 = .ok (.aload_n 2, 1) := op_aload_n2 (gk (k := 0) (t := 23) ck_L_append_0 rfl)
theorem d_L_append_24 : decode y_L_append.2.1 24 = .ok (.arraylength, 1) := op_arraylength (gk (k := 0) (t := 24) ck_L_append_0 rfl)
theorem d_L_append_25 : decode y_L_append.2.1 25 = .ok (.bipush 6, 2) := op_bipush (gk (k := 0) (t := 25) ck_L_append_0 rfl) (gk (k := 0) (t := 26) ck_L_append_0 rfl) rfl
theorem d_L_append_27 : decode y_L_append.2.1 27 = .ok (.isub, 1) := op_isub (gk (k := 0) (t := 27) ck_L_append_0 rfl)
theorem d_L_append_28 : decode y_L_append.2.1 28 = .ok (.if_icmp .le 5, 3) := op_icmp_le (gk (k := 0) (t := 28) ck_L_append_0 rfl) (gk (k := 0) (t := 29) ck_L_append_0 rfl) (gk (k := 0) (t := 30) ck_L_append_0 rfl) (by decide +kernel)
theorem d_L_append_33 : decode y_L_append.2.1 33 = .ok (.iload_n 1, 1) := op_iload_n1 (gk (k := 32) (t := 1) ck_L_append_1 rfl)
theorem d_L_append_34 : decode y_L_append.2.1 34 = .ok (.bipush 40, 2) := op_bipush (gk (k := 32) (t := 2) ck_L_append_1 rfl) (gk (k := 32) (t := 3) ck_L_append_1 rfl) rfl
theorem d_L_append_36 : decode y_L_append.2.1 36 = .ok (.imul, 1) := op_imul (gk (k := 32) (t := 4) ck_L_append_1 rfl)
theorem d_L_append_37 : decode y_L_append.2.1 37 = .ok (.aload_n 0, 1) := op_aload_n0 (gk (k := 32) (t := 5) ck_L_append_1 rfl)
theorem d_L_append_38 : decode y_L_append.2.1 38 = .ok (.getfield 15, 3) := op_getfield (gk (k := 32) (t := 6) ck_L_append_1 rfl) (gk (k := 32) (t := 7) ck_L_append_1 rfl) (gk (k := 32) (t := 8) ck_L_append_1 rfl) rfl
theorem d_L_append_41 : decode y_L_append.2.1 41 = .ok (.iload_n 1, 1) := op_iload_n1 (gk (k := 32) (t := 9) ck_L_append_1 rfl)
theorem d_L_append_42 : decode y_L_append.2.1 42 = .ok (.iaload, 1) := op_iaload (gk (k := 32) (t := 10) ck_L_append_1 rfl)
theorem d_L_append_43 : decode y_L_append.2.1 43 = .ok (.iadd, 1) := op_iadd (gk (k := 32) (t := 11) ck_L_append_1 rfl)
theorem d_L_append_44 : decode y_L_append.2.1 44 = .ok (.istore 4, 2) := op_istore (gk (k := 32) (t := 12) ck_L_append_1 rfl) (gk (k := 32) (t := 13) ck_L_append_1 rfl) rfl
theorem d_L_append_46 : decode y_L_append.2.1 46 = .ok (.aload_n 2, 1) := op_aload_n2 (gk (k := 32) (t := 14) ck_L_append_1 rfl)
theorem d_L_append_47 : decode y_L_append.2.1 47 = .ok (.iload_n 3, 1) := op_iload_n3 (gk (k := 32) (t := 15) ck_L_append_1 rfl)
theorem d_L_append_48 : decode y_L_append.2.1 48 = .ok (.aload_n 0, 1) := op_aload_n0 (gk (k := 32) (t := 16) ck_L_append_1 rfl)
theorem fl_L_9 : FL "SinglesUp$Lines" 9 4 0 := ⟨"SinglesUp$Lines", zT4, 3, rfl, by decide, rfl, Or.inl (tw_c1 44 (by decide +kernel) rfl)⟩
theorem rc_4_0 : ∀ o, KC[o]? = some (7, 3) → RC o 0 = some (o + 1) ∧ KC[o + 1]? = some (0, 1440) := by
  intro o h
  have hl : o < 166 := (List.getElem?_eq_some_iff.mp h).1
  exact (by decide +kernel : ∀ o, o < 166 → KC[o]? = some (7, 3) → RC o 0 = some (o + 1) ∧ KC[o + 1]? = some (0, 1440)) o hl h
theorem d_L_append_49 : decode y_L_append.2.1 49 = .ok (.getfield 9, 3) := op_getfield (gk (k := 32) (t := 17) ck_L_append_1 rfl) (gk (k := 32) (t := 18) ck_L_append_1 rfl) (gk (k := 32) (t := 19) ck_L_append_1 rfl) rfl
theorem d_L_append_52 : decode y_L_append.2.1 52 = .ok (.iload 4, 2) := op_iload (gk (k := 32) (t := 20) ck_L_append_1 rfl) (gk (k := 32) (t := 21) ck_L_append_1 rfl) rfl
theorem d_L_append_54 : decode y_L_append.2.1 54 = .ok (.bipush 6, 2) := op_bipush (gk (k := 32) (t := 22) ck_L_append_1 rfl) (gk (k := 32) (t := 23) ck_L_append_1 rfl) rfl
theorem d_L_append_56 : decode y_L_append.2.1 56 = .ok (.imul, 1) := op_imul (gk (k := 32) (t := 24) ck_L_append_1 rfl)
theorem d_L_append_57 : decode y_L_append.2.1 57 = .ok (.bipush 6, 2) := op_bipush (gk (k := 32) (t := 25) ck_L_append_1 rfl) (gk (k := 32) (t := 26) ck_L_append_1 rfl) rfl
theorem lka_L_27 : Cond.methodLink "SinglesUp$Lines" 27 arraycopyName ∈ TW := tw_c3 186 (by decide +kernel) rfl
theorem d_L_append_59 : decode y_L_append.2.1 59 = .ok (.invokestatic 27, 3) := op_invokestatic (gk (k := 32) (t := 27) ck_L_append_1 rfl) (gk (k := 32) (t := 28) ck_L_append_1 rfl) (gk (k := 32) (t := 29) ck_L_append_1 rfl) rfl
theorem d_L_append_62 : decode y_L_append.2.1 62 = .ok (.aload_n 0, 1) := op_aload_n0 (gk (k := 32) (t := 30) ck_L_append_1 rfl)
theorem ck_L_append_2 : (y_L_append.2.1.data.toList.drop 64).take 32 = [0, 15, 27, 92, 46, 4, 96, 79, 4, 172] := by decide +kernel
theorem d_L_append_63 : decode y_L_append.2.1 63 = .ok (.getfield 15, 3) := op_getfield (gk (k := 32) (t := 31) ck_L_append_1 rfl) (gk (k := 64) (t := 0) ck_L_append_2 rfl) (gk (k := 64) (t := 1) ck_L_append_2 rfl) rfl
theorem d_L_append_66 : decode y_L_append.2.1 66 = .ok (.iload_n 1, 1) := op_iload_n1 (gk (k := 64) (t := 2) ck_L_append_2 rfl)
theorem d_L_append_67 : decode y_L_append.2.1 67 = .ok (.dup2, 1) := op_dup2 (gk (k := 64) (t := 3) ck_L_append_2 rfl)
theorem d_L_append_68 : decode y_L_append.2.1 68 = .ok (.iaload, 1) := op_iaload (gk (k := 64) (t := 4) ck_L_append_2 rfl)
theorem d_L_append_69 : decode y_L_append.2.1 69 = .ok (.iconst 1, 1) := op_iconst1 (gk (k := 64) (t := 5) ck_L_append_2 rfl)
theorem d_L_append_70 : decode y_L_append.2.1 70 = .ok (.iadd, 1) := op_iadd (gk (k := 64) (t := 6) ck_L_append_2 rfl)
theorem d_L_append_71 : decode y_L_append.2.1 71 = .ok (.iastore, 1) := op_iastore (gk (k := 64) (t := 7) ck_L_append_2 rfl)
theorem d_L_append_72 : decode y_L_append.2.1 72 = .ok (.iconst 1, 1) := op_iconst1 (gk (k := 64) (t := 8) ck_L_append_2 rfl)
theorem d_L_append_73 : decode y_L_append.2.1 73 = .ok (.ireturn, 1) := op_ireturn (gk (k := 64) (t := 9) ck_L_append_2 rfl)
abbrev y_H_enter : MI := (⟨"SinglesUp$Hill", "enter", "(III)I"⟩, prog_4_method_6_code, 5, some .int)
theorem ck_H_enter_0 : (y_H_enter.2.1.data.toList.drop 0).take 32 = [42, 180, 0, 53, 3, 42, 180, 0, 73, 79, 42, 180, 0, 53, 4, 27, 79, 42, 180, 0, 53, 5, 28, 79, 42, 180, 0, 53, 6, 29, 79, 42] := by decide +kernel
theorem d_H_enter_0 : decode y_H_enter.2.1 0 = .ok (.aload_n 0, 1) := op_aload_n0 (gk (k := 0) (t := 0) ck_H_enter_0 rfl)
theorem fl_H_53 : FL "SinglesUp$Hill" 53 2 13 := ⟨"SinglesUp$Hill", zT2, 14, rfl, by decide, rfl, Or.inl (tw_c1 118 (by decide +kernel) rfl)⟩
theorem rc_2_13 : ∀ o, KC[o]? = some (5, 14) → RC o 13 = some (o + 14) ∧ KC[o + 14]? = some (0, 6) := by
  intro o h
  have hl : o < 166 := (List.getElem?_eq_some_iff.mp h).1
  exact (by decide +kernel : ∀ o, o < 166 → KC[o]? = some (5, 14) → RC o 13 = some (o + 14) ∧ KC[o + 14]? = some (0, 6)) o hl h
theorem d_H_enter_1 : decode y_H_enter.2.1 1 = .ok (.getfield 53, 3) := op_getfield (gk (k := 0) (t := 1) ck_H_enter_0 rfl) (gk (k := 0) (t := 2) ck_H_enter_0 rfl) (gk (k := 0) (t := 3) ck_H_enter_0 rfl) rfl
theorem d_H_enter_4 : decode y_H_enter.2.1 4 = .ok (.iconst 0, 1) := op_iconst0 (gk (k := 0) (t := 4) ck_H_enter_0 rfl)
theorem d_H_enter_5 : decode y_H_enter.2.1 5 = .ok (.aload_n 0, 1) := op_aload_n0 (gk (k := 0) (t := 5) ck_H_enter_0 rfl)
theorem fl_H_73 : FL "SinglesUp$Hill" 73 2 7 := ⟨"SinglesUp$Hill", zT2, 14, rfl, by decide, rfl, Or.inl (tw_c1 104 (by decide +kernel) rfl)⟩
theorem d_H_enter_6 : decode y_H_enter.2.1 6 = .ok (.getfield 73, 3) := op_getfield (gk (k := 0) (t := 6) ck_H_enter_0 rfl) (gk (k := 0) (t := 7) ck_H_enter_0 rfl) (gk (k := 0) (t := 8) ck_H_enter_0 rfl) rfl
theorem d_H_enter_9 : decode y_H_enter.2.1 9 = .ok (.iastore, 1) := op_iastore (gk (k := 0) (t := 9) ck_H_enter_0 rfl)
theorem d_H_enter_10 : decode y_H_enter.2.1 10 = .ok (.aload_n 0, 1) := op_aload_n0 (gk (k := 0) (t := 10) ck_H_enter_0 rfl)
theorem d_H_enter_11 : decode y_H_enter.2.1 11 = .ok (.getfield 53, 3) := op_getfield (gk (k := 0) (t := 11) ck_H_enter_0 rfl) (gk (k := 0) (t := 12) ck_H_enter_0 rfl) (gk (k := 0) (t := 13) ck_H_enter_0 rfl) rfl
theorem d_H_enter_14 : decode y_H_enter.2.1 14 = .ok (.iconst 1, 1) := op_iconst1 (gk (k := 0) (t := 14) ck_H_enter_0 rfl)
theorem d_H_enter_15 : decode y_H_enter.2.1 15 = .ok (.iload_n 1, 1) := op_iload_n1 (gk (k := 0) (t := 15) ck_H_enter_0 rfl)
theorem d_H_enter_16 : decode y_H_enter.2.1 16 = .ok (.iastore, 1) := op_iastore (gk (k := 0) (t := 16) ck_H_enter_0 rfl)
theorem d_H_enter_17 : decode y_H_enter.2.1 17 = .ok (.aload_n 0, 1) := op_aload_n0 (gk (k := 0) (t := 17) ck_H_enter_0 rfl)
theorem d_H_enter_18 : decode y_H_enter.2.1 18 = .ok (.getfield 53, 3) := op_getfield (gk (k := 0) (t := 18) ck_H_enter_0 rfl) (gk (k := 0) (t := 19) ck_H_enter_0 rfl) (gk (k := 0) (t := 20) ck_H_enter_0 rfl) rfl
theorem d_H_enter_21 : decode y_H_enter.2.1 21 = .ok (.iconst 2, 1) := op_iconst2 (gk (k := 0) (t := 21) ck_H_enter_0 rfl)
theorem d_H_enter_22 : decode y_H_enter.2.1 22 = .ok (.iload_n 2, 1) := op_iload_n2 (gk (k := 0) (t := 22) ck_H_enter_0 rfl)
theorem d_H_enter_23 : decode y_H_enter.2.1 23 = .ok (.iastore, 1) := op_iastore (gk (k := 0) (t := 23) ck_H_enter_0 rfl)
theorem d_H_enter_24 : decode y_H_enter.2.1 24 = .ok (.aload_n 0, 1) := op_aload_n0 (gk (k := 0) (t := 24) ck_H_enter_0 rfl)
theorem d_H_enter_25 : decode y_H_enter.2.1 25 = .ok (.getfield 53, 3) := op_getfield (gk (k := 0) (t := 25) ck_H_enter_0 rfl) (gk (k := 0) (t := 26) ck_H_enter_0 rfl) (gk (k := 0) (t := 27) ck_H_enter_0 rfl) rfl
theorem d_H_enter_28 : decode y_H_enter.2.1 28 = .ok (.iconst 3, 1) := op_iconst3 (gk (k := 0) (t := 28) ck_H_enter_0 rfl)
theorem d_H_enter_29 : decode y_H_enter.2.1 29 = .ok (.iload_n 3, 1) := op_iload_n3 (gk (k := 0) (t := 29) ck_H_enter_0 rfl)
theorem d_H_enter_30 : decode y_H_enter.2.1 30 = .ok (.iastore, 1) := op_iastore (gk (k := 0) (t := 30) ck_H_enter_0 rfl)
theorem d_H_enter_31 : decode y_H_enter.2.1 31 = .ok (.aload_n 0, 1) := op_aload_n0 (gk (k := 0) (t := 31) ck_H_enter_0 rfl)
theorem ck_H_enter_1 : (y_H_enter.2.1.data.toList.drop 32).take 32 = [89, 180, 0, 73, 4, 96, 181, 0, 73, 42, 28, 29, 182, 0, 86, 54, 4, 42, 180, 0, 33, 21, 4, 42, 180, 0, 53, 3, 182, 0, 90, 153] := by decide +kernel
theorem d_H_enter_32 : decode y_H_enter.2.1 32 = .ok (.dup, 1) := op_dup (gk (k := 32) (t := 0) ck_H_enter_1 rfl)
theorem d_H_enter_33 : decode y_H_enter.2.1 33 = .ok (.getfield 73, 3) := op_getfield (gk (k := 32) (t := 1) ck_H_enter_1 rfl) (gk (k := 32) (t := 2) ck_H_enter_1 rfl) (gk (k := 32) (t := 3) ck_H_enter_1 rfl) rfl
theorem d_H_enter_36 : decode y_H_enter.2.1 36 = .ok (.iconst 1, 1) := op_iconst1 (gk (k := 32) (t := 4) ck_H_enter_1 rfl)
theorem d_H_enter_37 : decode y_H_enter.2.1 37 = .ok (.iadd, 1) := op_iadd (gk (k := 32) (t := 5) ck_H_enter_1 rfl)
theorem d_H_enter_38 : decode y_H_enter.2.1 38 = .ok (.putfield 73, 3) := op_putfield (gk (k := 32) (t := 6) ck_H_enter_1 rfl) (gk (k := 32) (t := 7) ck_H_enter_1 rfl) (gk (k := 32) (t := 8) ck_H_enter_1 rfl) rfl
theorem d_H_enter_41 : decode y_H_enter.2.1 41 = .ok (.aload_n 0, 1) := op_aload_n0 (gk (k := 32) (t := 9) ck_H_enter_1 rfl)
theorem d_H_enter_42 : decode y_H_enter.2.1 42 = .ok (.iload_n 2, 1) := op_iload_n2 (gk (k := 32) (t := 10) ck_H_enter_1 rfl)
theorem d_H_enter_43 : decode y_H_enter.2.1 43 = .ok (.iload_n 3, 1) := op_iload_n3 (gk (k := 32) (t := 11) ck_H_enter_1 rfl)
theorem lk_H_86 : LkV "SinglesUp$Hill" 86 y_H_lineFor := ⟨tw_c3 167 (by decide +kernel) rfl, tw_in 16 (by decide +kernel) rfl, Or.inl (tw_c3 165 (by decide +kernel) rfl)⟩
set_option maxRecDepth 100000 in
theorem mo_H_lineFor : MOk y_H_lineFor 2 := ⟨by decide +kernel, tw_c3 168 rfl rfl, tw_c1 2 (by decide +kernel) rfl, by decide +kernel, by decide +kernel, by decide +kernel⟩
theorem d_H_enter_44 : decode y_H_enter.2.1 44 = .ok (.invokevirtual 86, 3) := op_invokevirtual (gk (k := 32) (t := 12) ck_H_enter_1 rfl) (gk (k := 32) (t := 13) ck_H_enter_1 rfl) (gk (k := 32) (t := 14) ck_H_enter_1 rfl) rfl
theorem d_H_enter_47 : decode y_H_enter.2.1 47 = .ok (.istore 4, 2) := op_istore (gk (k := 32) (t := 15) ck_H_enter_1 rfl) (gk (k := 32) (t := 16) ck_H_enter_1 rfl) rfl
theorem d_H_enter_49 : decode y_H_enter.2.1 49 = .ok (.aload_n 0, 1) := op_aload_n0 (gk (k := 32) (t := 17) ck_H_enter_1 rfl)
theorem d_H_enter_50 : decode y_H_enter.2.1 50 = .ok (.getfield 33, 3) := op_getfield (gk (k := 32) (t := 18) ck_H_enter_1 rfl) (gk (k := 32) (t := 19) ck_H_enter_1 rfl) (gk (k := 32) (t := 20) ck_H_enter_1 rfl) rfl
theorem d_H_enter_53 : decode y_H_enter.2.1 53 = .ok (.iload 4, 2) := op_iload (gk (k := 32) (t := 21) ck_H_enter_1 rfl) (gk (k := 32) (t := 22) ck_H_enter_1 rfl) rfl
theorem d_H_enter_55 : decode y_H_enter.2.1 55 = .ok (.aload_n 0, 1) := op_aload_n0 (gk (k := 32) (t := 23) ck_H_enter_1 rfl)
theorem d_H_enter_56 : decode y_H_enter.2.1 56 = .ok (.getfield 53, 3) := op_getfield (gk (k := 32) (t := 24) ck_H_enter_1 rfl) (gk (k := 32) (t := 25) ck_H_enter_1 rfl) (gk (k := 32) (t := 26) ck_H_enter_1 rfl) rfl
theorem d_H_enter_59 : decode y_H_enter.2.1 59 = .ok (.iconst 0, 1) := op_iconst0 (gk (k := 32) (t := 27) ck_H_enter_1 rfl)
theorem lk_H_90 : LkV "SinglesUp$Hill" 90 y_L_append := ⟨tw_c3 182 (by decide +kernel) rfl, tw_c3 183 (by decide +kernel) rfl, Or.inl (tw_c3 181 (by decide +kernel) rfl)⟩
set_option maxRecDepth 100000 in
theorem mo_L_append : MOk y_L_append 3 := ⟨by decide +kernel, tw_c3 184 rfl rfl, tw_c1 3 (by decide +kernel) rfl, by decide +kernel, by decide +kernel, by decide +kernel⟩
theorem d_H_enter_60 : decode y_H_enter.2.1 60 = .ok (.invokevirtual 90, 3) := op_invokevirtual (gk (k := 32) (t := 28) ck_H_enter_1 rfl) (gk (k := 32) (t := 29) ck_H_enter_1 rfl) (gk (k := 32) (t := 30) ck_H_enter_1 rfl) rfl
theorem ck_H_enter_2 : (y_H_enter.2.1.data.toList.drop 64).take 32 = [0, 6, 21, 4, 172, 42, 180, 0, 37, 16, 6, 92, 46, 4, 96, 79, 2, 172] := by decide +kernel
theorem d_H_enter_63 : decode y_H_enter.2.1 63 = .ok (.ifCond .eq 6, 3) := op_if_eq (gk (k := 32) (t := 31) ck_H_enter_1 rfl) (gk (k := 64) (t := 0) ck_H_enter_2 rfl) (gk (k := 64) (t := 1) ck_H_enter_2 rfl) (by decide +kernel)
theorem d_H_enter_69 : decode y_H_enter.2.1 69 = .ok (.aload_n 0, 1) := op_aload_n0 (gk (k := 64) (t := 5) ck_H_enter_2 rfl)
theorem fl_H_37 : FL "SinglesUp$Hill" 37 2 8 := ⟨"SinglesUp$Hill", zT2, 14, rfl, by decide, rfl, Or.inl (tw_c1 106 (by decide +kernel) rfl)⟩
theorem rc_2_8 : ∀ o, KC[o]? = some (5, 14) → RC o 8 = some (o + 10) ∧ KC[o + 10]? = some (0, 40) := by
  intro o h
  have hl : o < 166 := (List.getElem?_eq_some_iff.mp h).1
  exact (by decide +kernel : ∀ o, o < 166 → KC[o]? = some (5, 14) → RC o 8 = some (o + 10) ∧ KC[o + 10]? = some (0, 40)) o hl h
theorem d_H_enter_70 : decode y_H_enter.2.1 70 = .ok (.getfield 37, 3) := op_getfield (gk (k := 64) (t := 6) ck_H_enter_2 rfl) (gk (k := 64) (t := 7) ck_H_enter_2 rfl) (gk (k := 64) (t := 8) ck_H_enter_2 rfl) rfl
theorem d_H_enter_73 : decode y_H_enter.2.1 73 = .ok (.bipush 6, 2) := op_bipush (gk (k := 64) (t := 9) ck_H_enter_2 rfl) (gk (k := 64) (t := 10) ck_H_enter_2 rfl) rfl
theorem d_H_enter_75 : decode y_H_enter.2.1 75 = .ok (.dup2, 1) := op_dup2 (gk (k := 64) (t := 11) ck_H_enter_2 rfl)
theorem d_H_enter_76 : decode y_H_enter.2.1 76 = .ok (.iaload, 1) := op_iaload (gk (k := 64) (t := 12) ck_H_enter_2 rfl)
theorem d_H_enter_77 : decode y_H_enter.2.1 77 = .ok (.iconst 1, 1) := op_iconst1 (gk (k := 64) (t := 13) ck_H_enter_2 rfl)
theorem d_H_enter_78 : decode y_H_enter.2.1 78 = .ok (.iadd, 1) := op_iadd (gk (k := 64) (t := 14) ck_H_enter_2 rfl)
theorem d_H_enter_79 : decode y_H_enter.2.1 79 = .ok (.iastore, 1) := op_iastore (gk (k := 64) (t := 15) ck_H_enter_2 rfl)
theorem d_H_enter_80 : decode y_H_enter.2.1 80 = .ok (.iconst (-1), 1) := op_iconstm1 (gk (k := 64) (t := 16) ck_H_enter_2 rfl)
theorem d_H_enter_81 : decode y_H_enter.2.1 81 = .ok (.ireturn, 1) := op_ireturn (gk (k := 64) (t := 17) ck_H_enter_2 rfl)
theorem d_H_enter_66 : decode y_H_enter.2.1 66 = .ok (.iload 4, 2) := op_iload (gk (k := 64) (t := 2) ck_H_enter_2 rfl) (gk (k := 64) (t := 3) ck_H_enter_2 rfl) rfl
theorem d_H_enter_68 : decode y_H_enter.2.1 68 = .ok (.ireturn, 1) := op_ireturn (gk (k := 64) (t := 4) ck_H_enter_2 rfl)
abbrev y_S_come : MI := (⟨"SinglesUp", "come", "(III)I"⟩, prog_1_method_11_code, 4, some .int)
theorem ck_S_come_0 : (y_S_come.2.1.data.toList.drop 0).take 32 = [27, 28, 29, 184, 0, 89, 153, 0, 16, 42, 180, 0, 12, 27, 28, 29, 182, 0, 139, 167, 0, 5, 16, 254, 172] := by decide +kernel
theorem d_S_come_0 : decode y_S_come.2.1 0 = .ok (.iload_n 1, 1) := op_iload_n1 (gk (k := 0) (t := 0) ck_S_come_0 rfl)
theorem d_S_come_1 : decode y_S_come.2.1 1 = .ok (.iload_n 2, 1) := op_iload_n2 (gk (k := 0) (t := 1) ck_S_come_0 rfl)
theorem d_S_come_2 : decode y_S_come.2.1 2 = .ok (.iload_n 3, 1) := op_iload_n3 (gk (k := 0) (t := 2) ck_S_come_0 rfl)
theorem d_S_come_3 : decode y_S_come.2.1 3 = .ok (.invokestatic 89, 3) := op_invokestatic (gk (k := 0) (t := 3) ck_S_come_0 rfl) (gk (k := 0) (t := 4) ck_S_come_0 rfl) (gk (k := 0) (t := 5) ck_S_come_0 rfl) rfl
theorem d_S_come_6 : decode y_S_come.2.1 6 = .ok (.ifCond .eq 16, 3) := op_if_eq (gk (k := 0) (t := 6) ck_S_come_0 rfl) (gk (k := 0) (t := 7) ck_S_come_0 rfl) (gk (k := 0) (t := 8) ck_S_come_0 rfl) (by decide +kernel)
theorem d_S_come_22 : decode y_S_come.2.1 22 = .ok (.bipush (-2), 2) := op_bipush (gk (k := 0) (t := 22) ck_S_come_0 rfl) (gk (k := 0) (t := 23) ck_S_come_0 rfl) rfl
theorem d_S_come_24 : decode y_S_come.2.1 24 = .ok (.ireturn, 1) := op_ireturn (gk (k := 0) (t := 24) ck_S_come_0 rfl)
theorem d_S_come_9 : decode y_S_come.2.1 9 = .ok (.aload_n 0, 1) := op_aload_n0 (gk (k := 0) (t := 9) ck_S_come_0 rfl)
theorem d_S_come_10 : decode y_S_come.2.1 10 = .ok (.getfield 12, 3) := op_getfield (gk (k := 0) (t := 10) ck_S_come_0 rfl) (gk (k := 0) (t := 11) ck_S_come_0 rfl) (gk (k := 0) (t := 12) ck_S_come_0 rfl) rfl
theorem d_S_come_13 : decode y_S_come.2.1 13 = .ok (.iload_n 1, 1) := op_iload_n1 (gk (k := 0) (t := 13) ck_S_come_0 rfl)
theorem d_S_come_14 : decode y_S_come.2.1 14 = .ok (.iload_n 2, 1) := op_iload_n2 (gk (k := 0) (t := 14) ck_S_come_0 rfl)
theorem d_S_come_15 : decode y_S_come.2.1 15 = .ok (.iload_n 3, 1) := op_iload_n3 (gk (k := 0) (t := 15) ck_S_come_0 rfl)
theorem lk_S_139 : LkV "SinglesUp" 139 y_H_enter := ⟨tw_c3 162 (by decide +kernel) rfl, tw_c3 163 (by decide +kernel) rfl, Or.inl (tw_c3 161 (by decide +kernel) rfl)⟩
set_option maxRecDepth 100000 in
theorem mo_H_enter : MOk y_H_enter 3 := ⟨by decide +kernel, tw_c3 164 rfl rfl, tw_c1 2 (by decide +kernel) rfl, by decide +kernel, by decide +kernel, by decide +kernel⟩
theorem d_S_come_16 : decode y_S_come.2.1 16 = .ok (.invokevirtual 139, 3) := op_invokevirtual (gk (k := 0) (t := 16) ck_S_come_0 rfl) (gk (k := 0) (t := 17) ck_S_come_0 rfl) (gk (k := 0) (t := 18) ck_S_come_0 rfl) rfl
theorem d_S_come_19 : decode y_S_come.2.1 19 = .ok (.goto 5, 3) := op_goto (gk (k := 0) (t := 19) ck_S_come_0 rfl) (gk (k := 0) (t := 20) ck_S_come_0 rfl) (gk (k := 0) (t := 21) ck_S_come_0 rfl) (by decide +kernel)
abbrev y_H_lawInForce : MI := (⟨"SinglesUp$Hill", "lawInForce", "()LSinglesUp$Law;"⟩, prog_4_method_8_code, 2, some (.object "SinglesUp$Law"))
theorem ck_H_lawInForce_0 : (y_H_lawInForce.2.1.data.toList.drop 0).take 32 = [42, 180, 0, 9, 8, 46, 60, 42, 180, 0, 17, 27, 155, 0, 12, 27, 7, 162, 0, 7, 27, 167, 0, 4, 3, 50, 176] := by decide +kernel
theorem d_H_lawInForce_0 : decode y_H_lawInForce.2.1 0 = .ok (.aload_n 0, 1) := op_aload_n0 (gk (k := 0) (t := 0) ck_H_lawInForce_0 rfl)
theorem fl_H_9 : FL "SinglesUp$Hill" 9 2 0 := ⟨"SinglesUp$Hill", zT2, 14, rfl, by decide, rfl, Or.inl (tw_c1 84 (by decide +kernel) rfl)⟩
theorem d_H_lawInForce_1 : decode y_H_lawInForce.2.1 1 = .ok (.getfield 9, 3) := op_getfield (gk (k := 0) (t := 1) ck_H_lawInForce_0 rfl) (gk (k := 0) (t := 2) ck_H_lawInForce_0 rfl) (gk (k := 0) (t := 3) ck_H_lawInForce_0 rfl) rfl
theorem d_H_lawInForce_4 : decode y_H_lawInForce.2.1 4 = .ok (.iconst 5, 1) := op_iconst5 (gk (k := 0) (t := 4) ck_H_lawInForce_0 rfl)
theorem d_H_lawInForce_5 : decode y_H_lawInForce.2.1 5 = .ok (.iaload, 1) := op_iaload (gk (k := 0) (t := 5) ck_H_lawInForce_0 rfl)
theorem d_H_lawInForce_6 : decode y_H_lawInForce.2.1 6 = .ok (.istore_n 1, 1) := op_istore_n1 (gk (k := 0) (t := 6) ck_H_lawInForce_0 rfl)
theorem d_H_lawInForce_7 : decode y_H_lawInForce.2.1 7 = .ok (.aload_n 0, 1) := op_aload_n0 (gk (k := 0) (t := 7) ck_H_lawInForce_0 rfl)
theorem d_H_lawInForce_8 : decode y_H_lawInForce.2.1 8 = .ok (.getfield 17, 3) := op_getfield (gk (k := 0) (t := 8) ck_H_lawInForce_0 rfl) (gk (k := 0) (t := 9) ck_H_lawInForce_0 rfl) (gk (k := 0) (t := 10) ck_H_lawInForce_0 rfl) rfl
theorem d_H_lawInForce_11 : decode y_H_lawInForce.2.1 11 = .ok (.iload_n 1, 1) := op_iload_n1 (gk (k := 0) (t := 11) ck_H_lawInForce_0 rfl)
theorem d_H_lawInForce_12 : decode y_H_lawInForce.2.1 12 = .ok (.ifCond .lt 12, 3) := op_if_lt (gk (k := 0) (t := 12) ck_H_lawInForce_0 rfl) (gk (k := 0) (t := 13) ck_H_lawInForce_0 rfl) (gk (k := 0) (t := 14) ck_H_lawInForce_0 rfl) (by decide +kernel)
theorem d_H_lawInForce_24 : decode y_H_lawInForce.2.1 24 = .ok (.iconst 0, 1) := op_iconst0 (gk (k := 0) (t := 24) ck_H_lawInForce_0 rfl)
theorem d_H_lawInForce_25 : decode y_H_lawInForce.2.1 25 = .ok (.aaload, 1) := op_aaload (gk (k := 0) (t := 25) ck_H_lawInForce_0 rfl)
theorem d_H_lawInForce_26 : decode y_H_lawInForce.2.1 26 = .ok (.areturn, 1) := op_areturn (gk (k := 0) (t := 26) ck_H_lawInForce_0 rfl)
theorem d_H_lawInForce_15 : decode y_H_lawInForce.2.1 15 = .ok (.iload_n 1, 1) := op_iload_n1 (gk (k := 0) (t := 15) ck_H_lawInForce_0 rfl)
theorem d_H_lawInForce_16 : decode y_H_lawInForce.2.1 16 = .ok (.iconst 4, 1) := op_iconst4 (gk (k := 0) (t := 16) ck_H_lawInForce_0 rfl)
theorem d_H_lawInForce_17 : decode y_H_lawInForce.2.1 17 = .ok (.if_icmp .ge 7, 3) := op_icmp_ge (gk (k := 0) (t := 17) ck_H_lawInForce_0 rfl) (gk (k := 0) (t := 18) ck_H_lawInForce_0 rfl) (gk (k := 0) (t := 19) ck_H_lawInForce_0 rfl) (by decide +kernel)
theorem d_H_lawInForce_20 : decode y_H_lawInForce.2.1 20 = .ok (.iload_n 1, 1) := op_iload_n1 (gk (k := 0) (t := 20) ck_H_lawInForce_0 rfl)
theorem d_H_lawInForce_21 : decode y_H_lawInForce.2.1 21 = .ok (.goto 4, 3) := op_goto (gk (k := 0) (t := 21) ck_H_lawInForce_0 rfl) (gk (k := 0) (t := 22) ck_H_lawInForce_0 rfl) (gk (k := 0) (t := 23) ck_H_lawInForce_0 rfl) (by decide +kernel)
abbrev y_L_countOf : MI := (⟨"SinglesUp$Lines", "countOf", "(I)I"⟩, prog_6_method_4_code, 2, some .int)
theorem ck_L_countOf_0 : (y_L_countOf.2.1.data.toList.drop 0).take 32 = [27, 184, 0, 33, 153, 0, 17, 42, 180, 0, 15, 27, 46, 16, 40, 184, 0, 37, 167, 0, 4, 3, 172] := by decide +kernel
theorem d_L_countOf_0 : decode y_L_countOf.2.1 0 = .ok (.iload_n 1, 1) := op_iload_n1 (gk (k := 0) (t := 0) ck_L_countOf_0 rfl)
theorem d_L_countOf_1 : decode y_L_countOf.2.1 1 = .ok (.invokestatic 33, 3) := op_invokestatic (gk (k := 0) (t := 1) ck_L_countOf_0 rfl) (gk (k := 0) (t := 2) ck_L_countOf_0 rfl) (gk (k := 0) (t := 3) ck_L_countOf_0 rfl) rfl
theorem d_L_countOf_4 : decode y_L_countOf.2.1 4 = .ok (.ifCond .eq 17, 3) := op_if_eq (gk (k := 0) (t := 4) ck_L_countOf_0 rfl) (gk (k := 0) (t := 5) ck_L_countOf_0 rfl) (gk (k := 0) (t := 6) ck_L_countOf_0 rfl) (by decide +kernel)
theorem d_L_countOf_21 : decode y_L_countOf.2.1 21 = .ok (.iconst 0, 1) := op_iconst0 (gk (k := 0) (t := 21) ck_L_countOf_0 rfl)
theorem d_L_countOf_22 : decode y_L_countOf.2.1 22 = .ok (.ireturn, 1) := op_ireturn (gk (k := 0) (t := 22) ck_L_countOf_0 rfl)
theorem d_L_countOf_7 : decode y_L_countOf.2.1 7 = .ok (.aload_n 0, 1) := op_aload_n0 (gk (k := 0) (t := 7) ck_L_countOf_0 rfl)
theorem d_L_countOf_8 : decode y_L_countOf.2.1 8 = .ok (.getfield 15, 3) := op_getfield (gk (k := 0) (t := 8) ck_L_countOf_0 rfl) (gk (k := 0) (t := 9) ck_L_countOf_0 rfl) (gk (k := 0) (t := 10) ck_L_countOf_0 rfl) rfl
theorem d_L_countOf_11 : decode y_L_countOf.2.1 11 = .ok (.iload_n 1, 1) := op_iload_n1 (gk (k := 0) (t := 11) ck_L_countOf_0 rfl)
theorem d_L_countOf_12 : decode y_L_countOf.2.1 12 = .ok (.iaload, 1) := op_iaload (gk (k := 0) (t := 12) ck_L_countOf_0 rfl)
theorem d_L_countOf_13 : decode y_L_countOf.2.1 13 = .ok (.bipush 40, 2) := op_bipush (gk (k := 0) (t := 13) ck_L_countOf_0 rfl) (gk (k := 0) (t := 14) ck_L_countOf_0 rfl) rfl
theorem lk_L_37 : LkS "SinglesUp$Lines" 37 y_JM_min := ⟨tw_c3 46 (by decide +kernel) rfl, Or.inl (tw_c3 209 (by decide +kernel) rfl)⟩
theorem d_L_countOf_15 : decode y_L_countOf.2.1 15 = .ok (.invokestatic 37, 3) := op_invokestatic (gk (k := 0) (t := 15) ck_L_countOf_0 rfl) (gk (k := 0) (t := 16) ck_L_countOf_0 rfl) (gk (k := 0) (t := 17) ck_L_countOf_0 rfl) rfl
theorem d_L_countOf_18 : decode y_L_countOf.2.1 18 = .ok (.goto 4, 3) := op_goto (gk (k := 0) (t := 18) ck_L_countOf_0 rfl) (gk (k := 0) (t := 19) ck_L_countOf_0 rfl) (gk (k := 0) (t := 20) ck_L_countOf_0 rfl) (by decide +kernel)
abbrev y_L_get : MI := (⟨"SinglesUp$Lines", "get", "(II)I"⟩, prog_6_method_7_code, 4, some .int)
theorem ck_L_get_0 : (y_L_get.2.1.data.toList.drop 0).take 32 = [27, 16, 6, 104, 28, 96, 62, 29, 155, 0, 21, 29, 42, 180, 0, 9, 190, 162, 0, 12, 42, 180, 0, 9, 29, 46, 167, 0, 4, 3, 172] := by decide +kernel
theorem d_L_get_0 : decode y_L_get.2.1 0 = .ok (.iload_n 1, 1) := op_iload_n1 (gk (k := 0) (t := 0) ck_L_get_0 rfl)
theorem d_L_get_1 : decode y_L_get.2.1 1 = .ok (.bipush 6, 2) := op_bipush (gk (k := 0) (t := 1) ck_L_get_0 rfl) (gk (k := 0) (t := 2) ck_L_get_0 rfl) rfl
theorem d_L_get_3 : decode y_L_get.2.1 3 = .ok (.imul, 1) := op_imul (gk (k := 0) (t := 3) ck_L_get_0 rfl)
theorem d_L_get_4 : decode y_L_get.2.1 4 = .ok (.iload_n 2, 1) := op_iload_n2 (gk (k := 0) (t := 4) ck_L_get_0 rfl)
theorem d_L_get_5 : decode y_L_get.2.1 5 = .ok (.iadd, 1) := op_iadd (gk (k := 0) (t := 5) ck_L_get_0 rfl)
theorem d_L_get_6 : decode y_L_get.2.1 6 = .ok (.istore_n 3, 1) := op_istore_n3 (gk (k := 0) (t := 6) ck_L_get_0 rfl)
theorem d_L_get_7 : decode y_L_get.2.1 7 = .ok (.iload_n 3, 1) := op_iload_n3 (gk (k := 0) (t := 7) ck_L_get_0 rfl)
theorem d_L_get_8 : decode y_L_get.2.1 8 = .ok (.ifCond .lt 21, 3) := op_if_lt (gk (k := 0) (t := 8) ck_L_get_0 rfl) (gk (k := 0) (t := 9) ck_L_get_0 rfl) (gk (k := 0) (t := 10) ck_L_get_0 rfl) (by decide +kernel)
theorem d_L_get_29 : decode y_L_get.2.1 29 = .ok (.iconst 0, 1) := op_iconst0 (gk (k := 0) (t := 29) ck_L_get_0 rfl)
theorem d_L_get_30 : decode y_L_get.2.1 30 = .ok (.ireturn, 1) := op_ireturn (gk (k := 0) (t := 30) ck_L_get_0 rfl)
theorem d_L_get_11 : decode y_L_get.2.1 11 = .ok (.iload_n 3, 1) := op_iload_n3 (gk (k := 0) (t := 11) ck_L_get_0 rfl)
theorem d_L_get_12 : decode y_L_get.2.1 12 = .ok (.aload_n 0, 1) := op_aload_n0 (gk (k := 0) (t := 12) ck_L_get_0 rfl)
theorem d_L_get_13 : decode y_L_get.2.1 13 = .ok (.getfield 9, 3) := op_getfield (gk (k := 0) (t := 13) ck_L_get_0 rfl) (gk (k := 0) (t := 14) ck_L_get_0 rfl) (gk (k := 0) (t := 15) ck_L_get_0 rfl) rfl
theorem d_L_get_16 : decode y_L_get.2.1 16 = .ok (.arraylength, 1) := op_arraylength (gk (k := 0) (t := 16) ck_L_get_0 rfl)
theorem in_1440 : inr (1440) := lit_in rfl
theorem d_L_get_17 : decode y_L_get.2.1 17 = .ok (.if_icmp .ge 12, 3) := op_icmp_ge (gk (k := 0) (t := 17) ck_L_get_0 rfl) (gk (k := 0) (t := 18) ck_L_get_0 rfl) (gk (k := 0) (t := 19) ck_L_get_0 rfl) (by decide +kernel)
theorem d_L_get_20 : decode y_L_get.2.1 20 = .ok (.aload_n 0, 1) := op_aload_n0 (gk (k := 0) (t := 20) ck_L_get_0 rfl)
theorem d_L_get_21 : decode y_L_get.2.1 21 = .ok (.getfield 9, 3) := op_getfield (gk (k := 0) (t := 21) ck_L_get_0 rfl) (gk (k := 0) (t := 22) ck_L_get_0 rfl) (gk (k := 0) (t := 23) ck_L_get_0 rfl) rfl
theorem d_L_get_24 : decode y_L_get.2.1 24 = .ok (.iload_n 3, 1) := op_iload_n3 (gk (k := 0) (t := 24) ck_L_get_0 rfl)
theorem d_L_get_25 : decode y_L_get.2.1 25 = .ok (.iaload, 1) := op_iaload (gk (k := 0) (t := 25) ck_L_get_0 rfl)
theorem d_L_get_26 : decode y_L_get.2.1 26 = .ok (.goto 4, 3) := op_goto (gk (k := 0) (t := 26) ck_L_get_0 rfl) (gk (k := 0) (t := 27) ck_L_get_0 rfl) (gk (k := 0) (t := 28) ck_L_get_0 rfl) (by decide +kernel)
abbrev y_H_weigh : MI := (⟨"SinglesUp$Hill", "weigh", "(III)V"⟩, prog_4_method_9_code, 6, none)
theorem ck_H_weigh_0 : (y_H_weigh.2.1.data.toList.drop 0).take 32 = [27, 16, 40, 108, 54, 4, 27, 16, 40, 112, 54, 5, 42, 180, 0, 50, 16, 7, 42, 180, 0, 33, 27, 5, 182, 0, 105, 79, 42, 180, 0, 50] := by decide +kernel
theorem d_H_weigh_0 : decode y_H_weigh.2.1 0 = .ok (.iload_n 1, 1) := op_iload_n1 (gk (k := 0) (t := 0) ck_H_weigh_0 rfl)
theorem d_H_weigh_1 : decode y_H_weigh.2.1 1 = .ok (.bipush 40, 2) := op_bipush (gk (k := 0) (t := 1) ck_H_weigh_0 rfl) (gk (k := 0) (t := 2) ck_H_weigh_0 rfl) rfl
theorem d_H_weigh_3 : decode y_H_weigh.2.1 3 = .ok (.idiv, 1) := op_idiv (gk (k := 0) (t := 3) ck_H_weigh_0 rfl)
theorem d_H_weigh_4 : decode y_H_weigh.2.1 4 = .ok (.istore 4, 2) := op_istore (gk (k := 0) (t := 4) ck_H_weigh_0 rfl) (gk (k := 0) (t := 5) ck_H_weigh_0 rfl) rfl
theorem d_H_weigh_6 : decode y_H_weigh.2.1 6 = .ok (.iload_n 1, 1) := op_iload_n1 (gk (k := 0) (t := 6) ck_H_weigh_0 rfl)
theorem d_H_weigh_7 : decode y_H_weigh.2.1 7 = .ok (.bipush 40, 2) := op_bipush (gk (k := 0) (t := 7) ck_H_weigh_0 rfl) (gk (k := 0) (t := 8) ck_H_weigh_0 rfl) rfl
theorem d_H_weigh_9 : decode y_H_weigh.2.1 9 = .ok (.irem, 1) := op_irem (gk (k := 0) (t := 9) ck_H_weigh_0 rfl)
theorem d_H_weigh_10 : decode y_H_weigh.2.1 10 = .ok (.istore 5, 2) := op_istore (gk (k := 0) (t := 10) ck_H_weigh_0 rfl) (gk (k := 0) (t := 11) ck_H_weigh_0 rfl) rfl
theorem d_H_weigh_12 : decode y_H_weigh.2.1 12 = .ok (.aload_n 0, 1) := op_aload_n0 (gk (k := 0) (t := 12) ck_H_weigh_0 rfl)
theorem d_H_weigh_13 : decode y_H_weigh.2.1 13 = .ok (.getfield 50, 3) := op_getfield (gk (k := 0) (t := 13) ck_H_weigh_0 rfl) (gk (k := 0) (t := 14) ck_H_weigh_0 rfl) (gk (k := 0) (t := 15) ck_H_weigh_0 rfl) rfl
theorem d_H_weigh_16 : decode y_H_weigh.2.1 16 = .ok (.bipush 7, 2) := op_bipush (gk (k := 0) (t := 16) ck_H_weigh_0 rfl) (gk (k := 0) (t := 17) ck_H_weigh_0 rfl) rfl
theorem d_H_weigh_18 : decode y_H_weigh.2.1 18 = .ok (.aload_n 0, 1) := op_aload_n0 (gk (k := 0) (t := 18) ck_H_weigh_0 rfl)
theorem d_H_weigh_19 : decode y_H_weigh.2.1 19 = .ok (.getfield 33, 3) := op_getfield (gk (k := 0) (t := 19) ck_H_weigh_0 rfl) (gk (k := 0) (t := 20) ck_H_weigh_0 rfl) (gk (k := 0) (t := 21) ck_H_weigh_0 rfl) rfl
theorem d_H_weigh_22 : decode y_H_weigh.2.1 22 = .ok (.iload_n 1, 1) := op_iload_n1 (gk (k := 0) (t := 22) ck_H_weigh_0 rfl)
theorem d_H_weigh_23 : decode y_H_weigh.2.1 23 = .ok (.iconst 2, 1) := op_iconst2 (gk (k := 0) (t := 23) ck_H_weigh_0 rfl)
theorem lk_H_105 : LkV "SinglesUp$Hill" 105 y_L_get := ⟨tw_c3 197 (by decide +kernel) rfl, tw_c3 198 (by decide +kernel) rfl, Or.inl (tw_c3 204 (by decide +kernel) rfl)⟩
set_option maxRecDepth 100000 in
theorem mo_L_get : MOk y_L_get 2 := ⟨by decide +kernel, tw_c3 199 rfl rfl, tw_c1 3 (by decide +kernel) rfl, by decide +kernel, by decide +kernel, by decide +kernel⟩
theorem d_H_weigh_24 : decode y_H_weigh.2.1 24 = .ok (.invokevirtual 105, 3) := op_invokevirtual (gk (k := 0) (t := 24) ck_H_weigh_0 rfl) (gk (k := 0) (t := 25) ck_H_weigh_0 rfl) (gk (k := 0) (t := 26) ck_H_weigh_0 rfl) rfl
theorem d_H_weigh_27 : decode y_H_weigh.2.1 27 = .ok (.iastore, 1) := op_iastore (gk (k := 0) (t := 27) ck_H_weigh_0 rfl)
theorem d_H_weigh_28 : decode y_H_weigh.2.1 28 = .ok (.aload_n 0, 1) := op_aload_n0 (gk (k := 0) (t := 28) ck_H_weigh_0 rfl)
theorem d_H_weigh_29 : decode y_H_weigh.2.1 29 = .ok (.getfield 50, 3) := op_getfield (gk (k := 0) (t := 29) ck_H_weigh_0 rfl) (gk (k := 0) (t := 30) ck_H_weigh_0 rfl) (gk (k := 0) (t := 31) ck_H_weigh_0 rfl) rfl
theorem cb_9 : (Int8.ofInt 9).toInt32 = iv 9 := by decide +kernel
theorem ck_H_weigh_1 : (y_H_weigh.2.1.data.toList.drop 32).take 32 = [16, 9, 28, 79, 42, 180, 0, 50, 16, 10, 21, 5, 79, 42, 180, 0, 50, 16, 11, 21, 4, 79, 42, 180, 0, 50, 16, 12, 42, 180, 0, 33] := by decide +kernel
theorem d_H_weigh_32 : decode y_H_weigh.2.1 32 = .ok (.bipush 9, 2) := op_bipush (gk (k := 32) (t := 0) ck_H_weigh_1 rfl) (gk (k := 32) (t := 1) ck_H_weigh_1 rfl) rfl
theorem d_H_weigh_34 : decode y_H_weigh.2.1 34 = .ok (.iload_n 2, 1) := op_iload_n2 (gk (k := 32) (t := 2) ck_H_weigh_1 rfl)
theorem d_H_weigh_35 : decode y_H_weigh.2.1 35 = .ok (.iastore, 1) := op_iastore (gk (k := 32) (t := 3) ck_H_weigh_1 rfl)
theorem d_H_weigh_36 : decode y_H_weigh.2.1 36 = .ok (.aload_n 0, 1) := op_aload_n0 (gk (k := 32) (t := 4) ck_H_weigh_1 rfl)
theorem d_H_weigh_37 : decode y_H_weigh.2.1 37 = .ok (.getfield 50, 3) := op_getfield (gk (k := 32) (t := 5) ck_H_weigh_1 rfl) (gk (k := 32) (t := 6) ck_H_weigh_1 rfl) (gk (k := 32) (t := 7) ck_H_weigh_1 rfl) rfl
theorem d_H_weigh_40 : decode y_H_weigh.2.1 40 = .ok (.bipush 10, 2) := op_bipush (gk (k := 32) (t := 8) ck_H_weigh_1 rfl) (gk (k := 32) (t := 9) ck_H_weigh_1 rfl) rfl
theorem d_H_weigh_42 : decode y_H_weigh.2.1 42 = .ok (.iload 5, 2) := op_iload (gk (k := 32) (t := 10) ck_H_weigh_1 rfl) (gk (k := 32) (t := 11) ck_H_weigh_1 rfl) rfl
theorem d_H_weigh_44 : decode y_H_weigh.2.1 44 = .ok (.iastore, 1) := op_iastore (gk (k := 32) (t := 12) ck_H_weigh_1 rfl)
theorem d_H_weigh_45 : decode y_H_weigh.2.1 45 = .ok (.aload_n 0, 1) := op_aload_n0 (gk (k := 32) (t := 13) ck_H_weigh_1 rfl)
theorem d_H_weigh_46 : decode y_H_weigh.2.1 46 = .ok (.getfield 50, 3) := op_getfield (gk (k := 32) (t := 14) ck_H_weigh_1 rfl) (gk (k := 32) (t := 15) ck_H_weigh_1 rfl) (gk (k := 32) (t := 16) ck_H_weigh_1 rfl) rfl
theorem d_H_weigh_49 : decode y_H_weigh.2.1 49 = .ok (.bipush 11, 2) := op_bipush (gk (k := 32) (t := 17) ck_H_weigh_1 rfl) (gk (k := 32) (t := 18) ck_H_weigh_1 rfl) rfl
theorem d_H_weigh_51 : decode y_H_weigh.2.1 51 = .ok (.iload 4, 2) := op_iload (gk (k := 32) (t := 19) ck_H_weigh_1 rfl) (gk (k := 32) (t := 20) ck_H_weigh_1 rfl) rfl
theorem d_H_weigh_53 : decode y_H_weigh.2.1 53 = .ok (.iastore, 1) := op_iastore (gk (k := 32) (t := 21) ck_H_weigh_1 rfl)
theorem d_H_weigh_54 : decode y_H_weigh.2.1 54 = .ok (.aload_n 0, 1) := op_aload_n0 (gk (k := 32) (t := 22) ck_H_weigh_1 rfl)
theorem d_H_weigh_55 : decode y_H_weigh.2.1 55 = .ok (.getfield 50, 3) := op_getfield (gk (k := 32) (t := 23) ck_H_weigh_1 rfl) (gk (k := 32) (t := 24) ck_H_weigh_1 rfl) (gk (k := 32) (t := 25) ck_H_weigh_1 rfl) rfl
theorem cb_12 : (Int8.ofInt 12).toInt32 = iv 12 := by decide +kernel
theorem d_H_weigh_58 : decode y_H_weigh.2.1 58 = .ok (.bipush 12, 2) := op_bipush (gk (k := 32) (t := 26) ck_H_weigh_1 rfl) (gk (k := 32) (t := 27) ck_H_weigh_1 rfl) rfl
theorem d_H_weigh_60 : decode y_H_weigh.2.1 60 = .ok (.aload_n 0, 1) := op_aload_n0 (gk (k := 32) (t := 28) ck_H_weigh_1 rfl)
theorem d_H_weigh_61 : decode y_H_weigh.2.1 61 = .ok (.getfield 33, 3) := op_getfield (gk (k := 32) (t := 29) ck_H_weigh_1 rfl) (gk (k := 32) (t := 30) ck_H_weigh_1 rfl) (gk (k := 32) (t := 31) ck_H_weigh_1 rfl) rfl
theorem ck_H_weigh_2 : (y_H_weigh.2.1.data.toList.drop 64).take 32 = [27, 8, 182, 0, 105, 79, 42, 180, 0, 50, 16, 13, 42, 180, 0, 33, 27, 7, 182, 0, 105, 79, 42, 180, 0, 50, 16, 8, 42, 180, 0, 33] := by decide +kernel
theorem d_H_weigh_64 : decode y_H_weigh.2.1 64 = .ok (.iload_n 1, 1) := op_iload_n1 (gk (k := 64) (t := 0) ck_H_weigh_2 rfl)
theorem d_H_weigh_65 : decode y_H_weigh.2.1 65 = .ok (.iconst 5, 1) := op_iconst5 (gk (k := 64) (t := 1) ck_H_weigh_2 rfl)
theorem d_H_weigh_66 : decode y_H_weigh.2.1 66 = .ok (.invokevirtual 105, 3) := op_invokevirtual (gk (k := 64) (t := 2) ck_H_weigh_2 rfl) (gk (k := 64) (t := 3) ck_H_weigh_2 rfl) (gk (k := 64) (t := 4) ck_H_weigh_2 rfl) rfl
theorem d_H_weigh_69 : decode y_H_weigh.2.1 69 = .ok (.iastore, 1) := op_iastore (gk (k := 64) (t := 5) ck_H_weigh_2 rfl)
theorem d_H_weigh_70 : decode y_H_weigh.2.1 70 = .ok (.aload_n 0, 1) := op_aload_n0 (gk (k := 64) (t := 6) ck_H_weigh_2 rfl)
theorem d_H_weigh_71 : decode y_H_weigh.2.1 71 = .ok (.getfield 50, 3) := op_getfield (gk (k := 64) (t := 7) ck_H_weigh_2 rfl) (gk (k := 64) (t := 8) ck_H_weigh_2 rfl) (gk (k := 64) (t := 9) ck_H_weigh_2 rfl) rfl
theorem cb_13 : (Int8.ofInt 13).toInt32 = iv 13 := by decide +kernel
theorem d_H_weigh_74 : decode y_H_weigh.2.1 74 = .ok (.bipush 13, 2) := op_bipush (gk (k := 64) (t := 10) ck_H_weigh_2 rfl) (gk (k := 64) (t := 11) ck_H_weigh_2 rfl) rfl
theorem d_H_weigh_76 : decode y_H_weigh.2.1 76 = .ok (.aload_n 0, 1) := op_aload_n0 (gk (k := 64) (t := 12) ck_H_weigh_2 rfl)
theorem d_H_weigh_77 : decode y_H_weigh.2.1 77 = .ok (.getfield 33, 3) := op_getfield (gk (k := 64) (t := 13) ck_H_weigh_2 rfl) (gk (k := 64) (t := 14) ck_H_weigh_2 rfl) (gk (k := 64) (t := 15) ck_H_weigh_2 rfl) rfl
theorem d_H_weigh_80 : decode y_H_weigh.2.1 80 = .ok (.iload_n 1, 1) := op_iload_n1 (gk (k := 64) (t := 16) ck_H_weigh_2 rfl)
theorem d_H_weigh_81 : decode y_H_weigh.2.1 81 = .ok (.iconst 4, 1) := op_iconst4 (gk (k := 64) (t := 17) ck_H_weigh_2 rfl)
theorem d_H_weigh_82 : decode y_H_weigh.2.1 82 = .ok (.invokevirtual 105, 3) := op_invokevirtual (gk (k := 64) (t := 18) ck_H_weigh_2 rfl) (gk (k := 64) (t := 19) ck_H_weigh_2 rfl) (gk (k := 64) (t := 20) ck_H_weigh_2 rfl) rfl
theorem d_H_weigh_85 : decode y_H_weigh.2.1 85 = .ok (.iastore, 1) := op_iastore (gk (k := 64) (t := 21) ck_H_weigh_2 rfl)
theorem d_H_weigh_86 : decode y_H_weigh.2.1 86 = .ok (.aload_n 0, 1) := op_aload_n0 (gk (k := 64) (t := 22) ck_H_weigh_2 rfl)
theorem d_H_weigh_87 : decode y_H_weigh.2.1 87 = .ok (.getfield 50, 3) := op_getfield (gk (k := 64) (t := 23) ck_H_weigh_2 rfl) (gk (k := 64) (t := 24) ck_H_weigh_2 rfl) (gk (k := 64) (t := 25) ck_H_weigh_2 rfl) rfl
theorem d_H_weigh_90 : decode y_H_weigh.2.1 90 = .ok (.bipush 8, 2) := op_bipush (gk (k := 64) (t := 26) ck_H_weigh_2 rfl) (gk (k := 64) (t := 27) ck_H_weigh_2 rfl) rfl
theorem d_H_weigh_92 : decode y_H_weigh.2.1 92 = .ok (.aload_n 0, 1) := op_aload_n0 (gk (k := 64) (t := 28) ck_H_weigh_2 rfl)
theorem d_H_weigh_93 : decode y_H_weigh.2.1 93 = .ok (.getfield 33, 3) := op_getfield (gk (k := 64) (t := 29) ck_H_weigh_2 rfl) (gk (k := 64) (t := 30) ck_H_weigh_2 rfl) (gk (k := 64) (t := 31) ck_H_weigh_2 rfl) rfl
theorem ck_H_weigh_3 : (y_H_weigh.2.1.data.toList.drop 96).take 32 = [27, 6, 182, 0, 105, 79, 42, 180, 0, 50, 16, 14, 29, 79, 42, 180, 0, 50, 16, 15, 42, 180, 0, 33, 21, 4, 182, 0, 108, 21, 5, 100] := by decide +kernel
theorem d_H_weigh_96 : decode y_H_weigh.2.1 96 = .ok (.iload_n 1, 1) := op_iload_n1 (gk (k := 96) (t := 0) ck_H_weigh_3 rfl)
theorem d_H_weigh_97 : decode y_H_weigh.2.1 97 = .ok (.iconst 3, 1) := op_iconst3 (gk (k := 96) (t := 1) ck_H_weigh_3 rfl)
theorem d_H_weigh_98 : decode y_H_weigh.2.1 98 = .ok (.invokevirtual 105, 3) := op_invokevirtual (gk (k := 96) (t := 2) ck_H_weigh_3 rfl) (gk (k := 96) (t := 3) ck_H_weigh_3 rfl) (gk (k := 96) (t := 4) ck_H_weigh_3 rfl) rfl
theorem d_H_weigh_101 : decode y_H_weigh.2.1 101 = .ok (.iastore, 1) := op_iastore (gk (k := 96) (t := 5) ck_H_weigh_3 rfl)
theorem d_H_weigh_102 : decode y_H_weigh.2.1 102 = .ok (.aload_n 0, 1) := op_aload_n0 (gk (k := 96) (t := 6) ck_H_weigh_3 rfl)
theorem d_H_weigh_103 : decode y_H_weigh.2.1 103 = .ok (.getfield 50, 3) := op_getfield (gk (k := 96) (t := 7) ck_H_weigh_3 rfl) (gk (k := 96) (t := 8) ck_H_weigh_3 rfl) (gk (k := 96) (t := 9) ck_H_weigh_3 rfl) rfl
theorem cb_14 : (Int8.ofInt 14).toInt32 = iv 14 := by decide +kernel
theorem d_H_weigh_106 : decode y_H_weigh.2.1 106 = .ok (.bipush 14, 2) := op_bipush (gk (k := 96) (t := 10) ck_H_weigh_3 rfl) (gk (k := 96) (t := 11) ck_H_weigh_3 rfl) rfl
theorem d_H_weigh_108 : decode y_H_weigh.2.1 108 = .ok (.iload_n 3, 1) := op_iload_n3 (gk (k := 96) (t := 12) ck_H_weigh_3 rfl)
theorem d_H_weigh_109 : decode y_H_weigh.2.1 109 = .ok (.iastore, 1) := op_iastore (gk (k := 96) (t := 13) ck_H_weigh_3 rfl)
theorem d_H_weigh_110 : decode y_H_weigh.2.1 110 = .ok (.aload_n 0, 1) := op_aload_n0 (gk (k := 96) (t := 14) ck_H_weigh_3 rfl)
theorem d_H_weigh_111 : decode y_H_weigh.2.1 111 = .ok (.getfield 50, 3) := op_getfield (gk (k := 96) (t := 15) ck_H_weigh_3 rfl) (gk (k := 96) (t := 16) ck_H_weigh_3 rfl) (gk (k := 96) (t := 17) ck_H_weigh_3 rfl) rfl
theorem d_H_weigh_114 : decode y_H_weigh.2.1 114 = .ok (.bipush 15, 2) := op_bipush (gk (k := 96) (t := 18) ck_H_weigh_3 rfl) (gk (k := 96) (t := 19) ck_H_weigh_3 rfl) rfl
theorem d_H_weigh_116 : decode y_H_weigh.2.1 116 = .ok (.aload_n 0, 1) := op_aload_n0 (gk (k := 96) (t := 20) ck_H_weigh_3 rfl)
theorem d_H_weigh_117 : decode y_H_weigh.2.1 117 = .ok (.getfield 33, 3) := op_getfield (gk (k := 96) (t := 21) ck_H_weigh_3 rfl) (gk (k := 96) (t := 22) ck_H_weigh_3 rfl) (gk (k := 96) (t := 23) ck_H_weigh_3 rfl) rfl
theorem d_H_weigh_120 : decode y_H_weigh.2.1 120 = .ok (.iload 4, 2) := op_iload (gk (k := 96) (t := 24) ck_H_weigh_3 rfl) (gk (k := 96) (t := 25) ck_H_weigh_3 rfl) rfl
theorem lk_H_108 : LkV "SinglesUp$Hill" 108 y_L_countOf := ⟨tw_c3 206 (by decide +kernel) rfl, tw_c3 207 (by decide +kernel) rfl, Or.inl (tw_c3 205 (by decide +kernel) rfl)⟩
set_option maxRecDepth 100000 in
theorem mo_L_countOf : MOk y_L_countOf 1 := ⟨by decide +kernel, tw_c3 208 rfl rfl, tw_c1 3 (by decide +kernel) rfl, by decide +kernel, by decide +kernel, by decide +kernel⟩
theorem d_H_weigh_122 : decode y_H_weigh.2.1 122 = .ok (.invokevirtual 108, 3) := op_invokevirtual (gk (k := 96) (t := 26) ck_H_weigh_3 rfl) (gk (k := 96) (t := 27) ck_H_weigh_3 rfl) (gk (k := 96) (t := 28) ck_H_weigh_3 rfl) rfl
theorem d_H_weigh_125 : decode y_H_weigh.2.1 125 = .ok (.iload 5, 2) := op_iload (gk (k := 96) (t := 29) ck_H_weigh_3 rfl) (gk (k := 96) (t := 30) ck_H_weigh_3 rfl) rfl
theorem d_H_weigh_127 : decode y_H_weigh.2.1 127 = .ok (.isub, 1) := op_isub (gk (k := 96) (t := 31) ck_H_weigh_3 rfl)
theorem ck_H_weigh_4 : (y_H_weigh.2.1.data.toList.drop 128).take 32 = [4, 100, 79, 177] := by decide +kernel
theorem d_H_weigh_128 : decode y_H_weigh.2.1 128 = .ok (.iconst 1, 1) := op_iconst1 (gk (k := 128) (t := 0) ck_H_weigh_4 rfl)
theorem d_H_weigh_129 : decode y_H_weigh.2.1 129 = .ok (.isub, 1) := op_isub (gk (k := 128) (t := 1) ck_H_weigh_4 rfl)
theorem d_H_weigh_130 : decode y_H_weigh.2.1 130 = .ok (.iastore, 1) := op_iastore (gk (k := 128) (t := 2) ck_H_weigh_4 rfl)
theorem d_H_weigh_131 : decode y_H_weigh.2.1 131 = .ok (.return_, 1) := op_return_ (gk (k := 128) (t := 3) ck_H_weigh_4 rfl)
abbrev y_L_has : MI := (⟨"SinglesUp$Lines", "has", "(II)Z"⟩, prog_6_method_3_code, 3, some .boolean)
theorem ck_L_has_0 : (y_L_has.2.1.data.toList.drop 0).take 32 = [27, 184, 0, 33, 153, 0, 21, 28, 155, 0, 17, 28, 42, 180, 0, 15, 27, 46, 162, 0, 7, 4, 167, 0, 4, 3, 172] := by decide +kernel
theorem d_L_has_0 : decode y_L_has.2.1 0 = .ok (.iload_n 1, 1) := op_iload_n1 (gk (k := 0) (t := 0) ck_L_has_0 rfl)
theorem d_L_has_1 : decode y_L_has.2.1 1 = .ok (.invokestatic 33, 3) := op_invokestatic (gk (k := 0) (t := 1) ck_L_has_0 rfl) (gk (k := 0) (t := 2) ck_L_has_0 rfl) (gk (k := 0) (t := 3) ck_L_has_0 rfl) rfl
theorem d_L_has_4 : decode y_L_has.2.1 4 = .ok (.ifCond .eq 21, 3) := op_if_eq (gk (k := 0) (t := 4) ck_L_has_0 rfl) (gk (k := 0) (t := 5) ck_L_has_0 rfl) (gk (k := 0) (t := 6) ck_L_has_0 rfl) (by decide +kernel)
theorem d_L_has_25 : decode y_L_has.2.1 25 = .ok (.iconst 0, 1) := op_iconst0 (gk (k := 0) (t := 25) ck_L_has_0 rfl)
theorem d_L_has_26 : decode y_L_has.2.1 26 = .ok (.ireturn, 1) := op_ireturn (gk (k := 0) (t := 26) ck_L_has_0 rfl)
theorem d_L_has_7 : decode y_L_has.2.1 7 = .ok (.iload_n 2, 1) := op_iload_n2 (gk (k := 0) (t := 7) ck_L_has_0 rfl)
theorem d_L_has_8 : decode y_L_has.2.1 8 = .ok (.ifCond .lt 17, 3) := op_if_lt (gk (k := 0) (t := 8) ck_L_has_0 rfl) (gk (k := 0) (t := 9) ck_L_has_0 rfl) (gk (k := 0) (t := 10) ck_L_has_0 rfl) (by decide +kernel)
theorem d_L_has_11 : decode y_L_has.2.1 11 = .ok (.iload_n 2, 1) := op_iload_n2 (gk (k := 0) (t := 11) ck_L_has_0 rfl)
theorem d_L_has_12 : decode y_L_has.2.1 12 = .ok (.aload_n 0, 1) := op_aload_n0 (gk (k := 0) (t := 12) ck_L_has_0 rfl)
theorem d_L_has_13 : decode y_L_has.2.1 13 = .ok (.getfield 15, 3) := op_getfield (gk (k := 0) (t := 13) ck_L_has_0 rfl) (gk (k := 0) (t := 14) ck_L_has_0 rfl) (gk (k := 0) (t := 15) ck_L_has_0 rfl) rfl
theorem d_L_has_16 : decode y_L_has.2.1 16 = .ok (.iload_n 1, 1) := op_iload_n1 (gk (k := 0) (t := 16) ck_L_has_0 rfl)
theorem d_L_has_17 : decode y_L_has.2.1 17 = .ok (.iaload, 1) := op_iaload (gk (k := 0) (t := 17) ck_L_has_0 rfl)
theorem d_L_has_18 : decode y_L_has.2.1 18 = .ok (.if_icmp .ge 7, 3) := op_icmp_ge (gk (k := 0) (t := 18) ck_L_has_0 rfl) (gk (k := 0) (t := 19) ck_L_has_0 rfl) (gk (k := 0) (t := 20) ck_L_has_0 rfl) (by decide +kernel)
theorem d_L_has_21 : decode y_L_has.2.1 21 = .ok (.iconst 1, 1) := op_iconst1 (gk (k := 0) (t := 21) ck_L_has_0 rfl)
theorem d_L_has_22 : decode y_L_has.2.1 22 = .ok (.goto 4, 3) := op_goto (gk (k := 0) (t := 22) ck_L_has_0 rfl) (gk (k := 0) (t := 23) ck_L_has_0 rfl) (gk (k := 0) (t := 24) ck_L_has_0 rfl) (by decide +kernel)
abbrev y_S_group : MI := (⟨"SinglesUp", "group", "(III)I"⟩, prog_1_method_12_code, 5, some .int)
theorem ck_S_group_0 : (y_S_group.2.1.data.toList.drop 0).take 32 = [27, 184, 0, 73, 153, 0, 23, 28, 155, 0, 19, 28, 16, 40, 162, 0, 13, 29, 155, 0, 9, 29, 16, 6, 164, 0, 6, 18, 143, 172, 42, 180] := by decide +kernel
theorem d_S_group_0 : decode y_S_group.2.1 0 = .ok (.iload_n 1, 1) := op_iload_n1 (gk (k := 0) (t := 0) ck_S_group_0 rfl)
theorem d_S_group_1 : decode y_S_group.2.1 1 = .ok (.invokestatic 73, 3) := op_invokestatic (gk (k := 0) (t := 1) ck_S_group_0 rfl) (gk (k := 0) (t := 2) ck_S_group_0 rfl) (gk (k := 0) (t := 3) ck_S_group_0 rfl) rfl
theorem d_S_group_4 : decode y_S_group.2.1 4 = .ok (.ifCond .eq 23, 3) := op_if_eq (gk (k := 0) (t := 4) ck_S_group_0 rfl) (gk (k := 0) (t := 5) ck_S_group_0 rfl) (gk (k := 0) (t := 6) ck_S_group_0 rfl) (by decide +kernel)
theorem kc_S_143 : Cond.constant "SinglesUp" 143 (-1000000) ∈ TW := tw_c3 191 (by decide +kernel) rfl
theorem kc_S_143e : (-1000000 : Int32) = iv (-1000000) := by decide +kernel
theorem d_S_group_27 : decode y_S_group.2.1 27 = .ok (.ldc 143, 2) := op_ldc (gk (k := 0) (t := 27) ck_S_group_0 rfl) (gk (k := 0) (t := 28) ck_S_group_0 rfl) rfl
theorem d_S_group_29 : decode y_S_group.2.1 29 = .ok (.ireturn, 1) := op_ireturn (gk (k := 0) (t := 29) ck_S_group_0 rfl)
theorem in_m1000000 : inr (-1000000) := lit_in rfl
theorem d_S_group_7 : decode y_S_group.2.1 7 = .ok (.iload_n 2, 1) := op_iload_n2 (gk (k := 0) (t := 7) ck_S_group_0 rfl)
theorem d_S_group_8 : decode y_S_group.2.1 8 = .ok (.ifCond .lt 19, 3) := op_if_lt (gk (k := 0) (t := 8) ck_S_group_0 rfl) (gk (k := 0) (t := 9) ck_S_group_0 rfl) (gk (k := 0) (t := 10) ck_S_group_0 rfl) (by decide +kernel)
theorem d_S_group_11 : decode y_S_group.2.1 11 = .ok (.iload_n 2, 1) := op_iload_n2 (gk (k := 0) (t := 11) ck_S_group_0 rfl)
theorem d_S_group_12 : decode y_S_group.2.1 12 = .ok (.bipush 40, 2) := op_bipush (gk (k := 0) (t := 12) ck_S_group_0 rfl) (gk (k := 0) (t := 13) ck_S_group_0 rfl) rfl
theorem d_S_group_14 : decode y_S_group.2.1 14 = .ok (.if_icmp .ge 13, 3) := op_icmp_ge (gk (k := 0) (t := 14) ck_S_group_0 rfl) (gk (k := 0) (t := 15) ck_S_group_0 rfl) (gk (k := 0) (t := 16) ck_S_group_0 rfl) (by decide +kernel)
theorem d_S_group_17 : decode y_S_group.2.1 17 = .ok (.iload_n 3, 1) := op_iload_n3 (gk (k := 0) (t := 17) ck_S_group_0 rfl)
theorem d_S_group_18 : decode y_S_group.2.1 18 = .ok (.ifCond .lt 9, 3) := op_if_lt (gk (k := 0) (t := 18) ck_S_group_0 rfl) (gk (k := 0) (t := 19) ck_S_group_0 rfl) (gk (k := 0) (t := 20) ck_S_group_0 rfl) (by decide +kernel)
theorem d_S_group_21 : decode y_S_group.2.1 21 = .ok (.iload_n 3, 1) := op_iload_n3 (gk (k := 0) (t := 21) ck_S_group_0 rfl)
theorem d_S_group_22 : decode y_S_group.2.1 22 = .ok (.bipush 6, 2) := op_bipush (gk (k := 0) (t := 22) ck_S_group_0 rfl) (gk (k := 0) (t := 23) ck_S_group_0 rfl) rfl
theorem d_S_group_24 : decode y_S_group.2.1 24 = .ok (.if_icmp .le 6, 3) := op_icmp_le (gk (k := 0) (t := 24) ck_S_group_0 rfl) (gk (k := 0) (t := 25) ck_S_group_0 rfl) (gk (k := 0) (t := 26) ck_S_group_0 rfl) (by decide +kernel)
theorem d_S_group_30 : decode y_S_group.2.1 30 = .ok (.aload_n 0, 1) := op_aload_n0 (gk (k := 0) (t := 30) ck_S_group_0 rfl)
theorem ck_S_group_1 : (y_S_group.2.1.data.toList.drop 32).take 32 = [0, 12, 180, 0, 77, 27, 28, 182, 0, 144, 154, 0, 5, 2, 172, 27, 16, 40, 104, 28, 96, 54, 4, 29, 16, 6, 159, 0, 17, 42, 180, 0] := by decide +kernel
theorem d_S_group_31 : decode y_S_group.2.1 31 = .ok (.getfield 12, 3) := op_getfield (gk (k := 0) (t := 31) ck_S_group_0 rfl) (gk (k := 32) (t := 0) ck_S_group_1 rfl) (gk (k := 32) (t := 1) ck_S_group_1 rfl) rfl
theorem d_S_group_34 : decode y_S_group.2.1 34 = .ok (.getfield 77, 3) := op_getfield (gk (k := 32) (t := 2) ck_S_group_1 rfl) (gk (k := 32) (t := 3) ck_S_group_1 rfl) (gk (k := 32) (t := 4) ck_S_group_1 rfl) rfl
theorem d_S_group_37 : decode y_S_group.2.1 37 = .ok (.iload_n 1, 1) := op_iload_n1 (gk (k := 32) (t := 5) ck_S_group_1 rfl)
theorem d_S_group_38 : decode y_S_group.2.1 38 = .ok (.iload_n 2, 1) := op_iload_n2 (gk (k := 32) (t := 6) ck_S_group_1 rfl)
theorem lk_S_144 : LkV "SinglesUp" 144 y_L_has := ⟨tw_c3 193 (by decide +kernel) rfl, tw_c3 194 (by decide +kernel) rfl, Or.inl (tw_c3 192 (by decide +kernel) rfl)⟩
set_option maxRecDepth 100000 in
theorem mo_L_has : MOk y_L_has 2 := ⟨by decide +kernel, tw_c3 195 rfl rfl, tw_c1 3 (by decide +kernel) rfl, by decide +kernel, by decide +kernel, by decide +kernel⟩
theorem d_S_group_39 : decode y_S_group.2.1 39 = .ok (.invokevirtual 144, 3) := op_invokevirtual (gk (k := 32) (t := 7) ck_S_group_1 rfl) (gk (k := 32) (t := 8) ck_S_group_1 rfl) (gk (k := 32) (t := 9) ck_S_group_1 rfl) rfl
theorem d_S_group_42 : decode y_S_group.2.1 42 = .ok (.ifCond .ne 5, 3) := op_if_ne (gk (k := 32) (t := 10) ck_S_group_1 rfl) (gk (k := 32) (t := 11) ck_S_group_1 rfl) (gk (k := 32) (t := 12) ck_S_group_1 rfl) (by decide +kernel)
theorem d_S_group_47 : decode y_S_group.2.1 47 = .ok (.iload_n 1, 1) := op_iload_n1 (gk (k := 32) (t := 15) ck_S_group_1 rfl)
theorem d_S_group_48 : decode y_S_group.2.1 48 = .ok (.bipush 40, 2) := op_bipush (gk (k := 32) (t := 16) ck_S_group_1 rfl) (gk (k := 32) (t := 17) ck_S_group_1 rfl) rfl
theorem d_S_group_50 : decode y_S_group.2.1 50 = .ok (.imul, 1) := op_imul (gk (k := 32) (t := 18) ck_S_group_1 rfl)
theorem d_S_group_51 : decode y_S_group.2.1 51 = .ok (.iload_n 2, 1) := op_iload_n2 (gk (k := 32) (t := 19) ck_S_group_1 rfl)
theorem d_S_group_52 : decode y_S_group.2.1 52 = .ok (.iadd, 1) := op_iadd (gk (k := 32) (t := 20) ck_S_group_1 rfl)
theorem d_S_group_53 : decode y_S_group.2.1 53 = .ok (.istore 4, 2) := op_istore (gk (k := 32) (t := 21) ck_S_group_1 rfl) (gk (k := 32) (t := 22) ck_S_group_1 rfl) rfl
theorem d_S_group_55 : decode y_S_group.2.1 55 = .ok (.iload_n 3, 1) := op_iload_n3 (gk (k := 32) (t := 23) ck_S_group_1 rfl)
theorem d_S_group_56 : decode y_S_group.2.1 56 = .ok (.bipush 6, 2) := op_bipush (gk (k := 32) (t := 24) ck_S_group_1 rfl) (gk (k := 32) (t := 25) ck_S_group_1 rfl) rfl
theorem d_S_group_58 : decode y_S_group.2.1 58 = .ok (.if_icmp .eq 17, 3) := op_icmp_eq (gk (k := 32) (t := 26) ck_S_group_1 rfl) (gk (k := 32) (t := 27) ck_S_group_1 rfl) (gk (k := 32) (t := 28) ck_S_group_1 rfl) (by decide +kernel)
theorem ck_S_group_2 : (y_S_group.2.1.data.toList.drop 64).take 32 = [12, 180, 0, 77, 21, 4, 29, 182, 0, 147, 172, 42, 180, 0, 12, 21, 4, 42, 180, 0, 12, 180, 0, 65, 3, 46, 3, 182, 0, 151, 42, 180] := by decide +kernel
theorem d_S_group_75 : decode y_S_group.2.1 75 = .ok (.aload_n 0, 1) := op_aload_n0 (gk (k := 64) (t := 11) ck_S_group_2 rfl)
theorem d_S_group_76 : decode y_S_group.2.1 76 = .ok (.getfield 12, 3) := op_getfield (gk (k := 64) (t := 12) ck_S_group_2 rfl) (gk (k := 64) (t := 13) ck_S_group_2 rfl) (gk (k := 64) (t := 14) ck_S_group_2 rfl) rfl
theorem d_S_group_79 : decode y_S_group.2.1 79 = .ok (.iload 4, 2) := op_iload (gk (k := 64) (t := 15) ck_S_group_2 rfl) (gk (k := 64) (t := 16) ck_S_group_2 rfl) rfl
theorem d_S_group_81 : decode y_S_group.2.1 81 = .ok (.aload_n 0, 1) := op_aload_n0 (gk (k := 64) (t := 17) ck_S_group_2 rfl)
theorem d_S_group_82 : decode y_S_group.2.1 82 = .ok (.getfield 12, 3) := op_getfield (gk (k := 64) (t := 18) ck_S_group_2 rfl) (gk (k := 64) (t := 19) ck_S_group_2 rfl) (gk (k := 64) (t := 20) ck_S_group_2 rfl) rfl
theorem d_S_group_85 : decode y_S_group.2.1 85 = .ok (.getfield 65, 3) := op_getfield (gk (k := 64) (t := 21) ck_S_group_2 rfl) (gk (k := 64) (t := 22) ck_S_group_2 rfl) (gk (k := 64) (t := 23) ck_S_group_2 rfl) rfl
theorem d_S_group_88 : decode y_S_group.2.1 88 = .ok (.iconst 0, 1) := op_iconst0 (gk (k := 64) (t := 24) ck_S_group_2 rfl)
theorem d_S_group_89 : decode y_S_group.2.1 89 = .ok (.iaload, 1) := op_iaload (gk (k := 64) (t := 25) ck_S_group_2 rfl)
theorem d_S_group_90 : decode y_S_group.2.1 90 = .ok (.iconst 0, 1) := op_iconst0 (gk (k := 64) (t := 26) ck_S_group_2 rfl)
theorem lk_S_151 : LkV "SinglesUp" 151 y_H_weigh := ⟨tw_c3 201 (by decide +kernel) rfl, tw_c3 202 (by decide +kernel) rfl, Or.inl (tw_c3 200 (by decide +kernel) rfl)⟩
set_option maxRecDepth 100000 in
theorem mo_H_weigh : MOk y_H_weigh 3 := ⟨by decide +kernel, tw_c3 203 rfl rfl, tw_c1 2 (by decide +kernel) rfl, by decide +kernel, by decide +kernel, by decide +kernel⟩
theorem d_S_group_91 : decode y_S_group.2.1 91 = .ok (.invokevirtual 151, 3) := op_invokevirtual (gk (k := 64) (t := 27) ck_S_group_2 rfl) (gk (k := 64) (t := 28) ck_S_group_2 rfl) (gk (k := 64) (t := 29) ck_S_group_2 rfl) rfl
theorem d_S_group_94 : decode y_S_group.2.1 94 = .ok (.aload_n 0, 1) := op_aload_n0 (gk (k := 64) (t := 30) ck_S_group_2 rfl)
theorem ck_S_group_3 : (y_S_group.2.1.data.toList.drop 96).take 32 = [0, 12, 182, 0, 155, 42, 180, 0, 12, 180, 0, 159, 182, 0, 162, 172] := by decide +kernel
theorem d_S_group_95 : decode y_S_group.2.1 95 = .ok (.getfield 12, 3) := op_getfield (gk (k := 64) (t := 31) ck_S_group_2 rfl) (gk (k := 96) (t := 0) ck_S_group_3 rfl) (gk (k := 96) (t := 1) ck_S_group_3 rfl) rfl
theorem lk_S_155 : LkV "SinglesUp" 155 y_H_lawInForce := ⟨tw_c3 211 (by decide +kernel) rfl, tw_c3 212 (by decide +kernel) rfl, Or.inl (tw_c3 210 (by decide +kernel) rfl)⟩
set_option maxRecDepth 100000 in
theorem mo_H_lawInForce : MOk y_H_lawInForce 0 := ⟨by decide +kernel, tw_c3 213 rfl rfl, tw_c1 2 (by decide +kernel) rfl, by decide +kernel, by decide +kernel, by decide +kernel⟩
theorem d_S_group_98 : decode y_S_group.2.1 98 = .ok (.invokevirtual 155, 3) := op_invokevirtual (gk (k := 96) (t := 2) ck_S_group_3 rfl) (gk (k := 96) (t := 3) ck_S_group_3 rfl) (gk (k := 96) (t := 4) ck_S_group_3 rfl) rfl
theorem d_S_group_101 : decode y_S_group.2.1 101 = .ok (.aload_n 0, 1) := op_aload_n0 (gk (k := 96) (t := 5) ck_S_group_3 rfl)
theorem d_S_group_102 : decode y_S_group.2.1 102 = .ok (.getfield 12, 3) := op_getfield (gk (k := 96) (t := 6) ck_S_group_3 rfl) (gk (k := 96) (t := 7) ck_S_group_3 rfl) (gk (k := 96) (t := 8) ck_S_group_3 rfl) rfl
theorem fl_S_159 : FL "SinglesUp" 159 2 12 := ⟨"SinglesUp$Hill", zT2, 14, rfl, by decide, rfl, Or.inr ⟨"SinglesUp", nw_in 117 (by decide +kernel) rfl⟩⟩
theorem d_S_group_105 : decode y_S_group.2.1 105 = .ok (.getfield 159, 3) := op_getfield (gk (k := 96) (t := 9) ck_S_group_3 rfl) (gk (k := 96) (t := 10) ck_S_group_3 rfl) (gk (k := 96) (t := 11) ck_S_group_3 rfl) rfl
theorem lk_S_162 : LkV "SinglesUp" 162 y_W_value := ⟨tw_c3 174 (by decide +kernel) rfl, tw_c3 175 (by decide +kernel) rfl, Or.inl (tw_c3 214 (by decide +kernel) rfl)⟩
theorem d_S_group_108 : decode y_S_group.2.1 108 = .ok (.invokevirtual 162, 3) := op_invokevirtual (gk (k := 96) (t := 12) ck_S_group_3 rfl) (gk (k := 96) (t := 13) ck_S_group_3 rfl) (gk (k := 96) (t := 14) ck_S_group_3 rfl) rfl
theorem d_S_group_111 : decode y_S_group.2.1 111 = .ok (.ireturn, 1) := op_ireturn (gk (k := 96) (t := 15) ck_S_group_3 rfl)
theorem d_S_group_61 : decode y_S_group.2.1 61 = .ok (.aload_n 0, 1) := op_aload_n0 (gk (k := 32) (t := 29) ck_S_group_1 rfl)
theorem d_S_group_62 : decode y_S_group.2.1 62 = .ok (.getfield 12, 3) := op_getfield (gk (k := 32) (t := 30) ck_S_group_1 rfl) (gk (k := 32) (t := 31) ck_S_group_1 rfl) (gk (k := 64) (t := 0) ck_S_group_2 rfl) rfl
theorem d_S_group_65 : decode y_S_group.2.1 65 = .ok (.getfield 77, 3) := op_getfield (gk (k := 64) (t := 1) ck_S_group_2 rfl) (gk (k := 64) (t := 2) ck_S_group_2 rfl) (gk (k := 64) (t := 3) ck_S_group_2 rfl) rfl
theorem d_S_group_68 : decode y_S_group.2.1 68 = .ok (.iload 4, 2) := op_iload (gk (k := 64) (t := 4) ck_S_group_2 rfl) (gk (k := 64) (t := 5) ck_S_group_2 rfl) rfl
theorem d_S_group_70 : decode y_S_group.2.1 70 = .ok (.iload_n 3, 1) := op_iload_n3 (gk (k := 64) (t := 6) ck_S_group_2 rfl)
theorem lk_S_147 : LkV "SinglesUp" 147 y_L_get := ⟨tw_c3 197 (by decide +kernel) rfl, tw_c3 198 (by decide +kernel) rfl, Or.inl (tw_c3 196 (by decide +kernel) rfl)⟩
theorem d_S_group_71 : decode y_S_group.2.1 71 = .ok (.invokevirtual 147, 3) := op_invokevirtual (gk (k := 64) (t := 7) ck_S_group_2 rfl) (gk (k := 64) (t := 8) ck_S_group_2 rfl) (gk (k := 64) (t := 9) ck_S_group_2 rfl) rfl
theorem d_S_group_74 : decode y_S_group.2.1 74 = .ok (.ireturn, 1) := op_ireturn (gk (k := 64) (t := 10) ck_S_group_2 rfl)
theorem d_S_group_45 : decode y_S_group.2.1 45 = .ok (.iconst (-1), 1) := op_iconstm1 (gk (k := 32) (t := 13) ck_S_group_1 rfl)
theorem d_S_group_46 : decode y_S_group.2.1 46 = .ok (.ireturn, 1) := op_ireturn (gk (k := 32) (t := 14) ck_S_group_1 rfl)
def fb_R_wordAt_11 (fu : Nat) (o0 : Nat) (p1 : Int) (p2 : Int) (R_ : Int → Int → Int → Int → IMem → Res) (w3 : Int) (w4 : Int) (w5 : Int) (w6 : Int) (I0 : IMem) : Res :=
  zb (f_JS_length fu 0 I0) fun y1 I2 =>
    if w6 < y1 then (
      zb (f_JS_charAt fu 0 w6 I2) fun y4 I5 =>
      zj (fun (x9 : Int) (x10 : Int) (x11 : Int) (I8 : IMem) =>
          zl (wr32 (w6 + 1)) fun x12 =>
          R_ x9 x10 x11 x12 I8) fun k7 =>
        if y4 = 32 then (
          zj (fun  (I15 : IMem) =>
              zl (wr32 (w3 + 1)) fun x16 =>
              k7 x16 p1 1 I15) fun k14 =>
            if w5 = 0 then (
              k14 I5)
            else (
              if w4 = p2 then (
                zr w3 I5)
              else (
                k14 I5)))
        else (
          if w5 = 0 then (
            k7 w3 w4 0 I5)
          else (
            if w4 < 0 then (
              k7 w3 w4 0 I5)
            else (
              if w4 < p2 then (
                if w4 < 400 then (
                  zg (0 ≤ w4 ∧ w4 < 400) (
                  if I5 (o0 + 1) w4.toNat = y4 then (
                    zl (wr32 (w4 + 1)) fun x13 =>
                    k7 w3 x13 w5 I5)
                  else (
                    k7 w3 w4 0 I5)))
                else (
                  k7 w3 w4 0 I5))
              else (
                k7 w3 w4 0 I5)))))
    else (
      zr 18 I2)
def f_R_wordAt_11 (fu : Nat) (o0 : Nat) (p1 : Int) (p2 : Int) : Nat → Int → Int → Int → Int → IMem → Res
 | 0 => fun _ _ _ _ _ => none
 | n + 1 => fb_R_wordAt_11 fu o0 p1 p2 (f_R_wordAt_11 fu o0 p1 p2 n)
def f_R_wordAt (fu : Nat) (o0 : Nat) (a1 : Int) (a2 : Int) (I0 : IMem) : Res :=
  f_R_wordAt_11 fu  o0 a1 a2 fu 0 a1 1 0 I0
def fb_R_scan_96 (fu : Nat) (k_129 : Int → IMem → Res) (o0 : Nat) (p2 : Int) (R_ : Int → IMem → Res) (w1 : Int) (I0 : IMem) : Res :=
  if w1 < I0 o0 1 then (
      if w1 < 400 then (
        zg (0 ≤ w1 ∧ w1 < 400) (
        zb (f_R_isDigit fu (I0 (o0 + 1) w1.toNat) I0) fun y19 I20 =>
        if y19 = 0 then (
          k_129 w1 I20)
        else (
          zl (wr32 (w1 + 1)) fun x22 =>
          R_ x22 I20)))
      else (
        k_129 w1 I0))
    else (
      k_129 w1 I0)
def f_R_scan_96 (fu : Nat) (k_129 : Int → IMem → Res) (o0 : Nat) (p2 : Int) : Nat → Int → IMem → Res
 | 0 => fun _ _ => none
 | n + 1 => fb_R_scan_96 fu k_129 o0 p2 (f_R_scan_96 fu k_129 o0 p2 n)
def fb_R_scan_41 (fu : Nat) (k_74 : Int → IMem → Res) (o0 : Nat) (p2 : Int) (R_ : Int → IMem → Res) (w1 : Int) (I0 : IMem) : Res :=
  if w1 < I0 o0 1 then (
      if w1 < 400 then (
        zg (0 ≤ w1 ∧ w1 < 400) (
        zb (f_R_isLetter fu (I0 (o0 + 1) w1.toNat) I0) fun y34 I35 =>
        if y34 = 0 then (
          k_74 w1 I35)
        else (
          zl (wr32 (w1 + 1)) fun x37 =>
          R_ x37 I35)))
      else (
        k_74 w1 I0))
    else (
      k_74 w1 I0)
def f_R_scan_41 (fu : Nat) (k_74 : Int → IMem → Res) (o0 : Nat) (p2 : Int) : Nat → Int → IMem → Res
 | 0 => fun _ _ => none
 | n + 1 => fb_R_scan_41 fu k_74 o0 p2 (f_R_scan_41 fu k_74 o0 p2 n)
def fb_R_scan_7 (fu : Nat) (k_194 : IMem → Res) (o0 : Nat) (R_ : Int → IMem → Res) (w1 : Int) (I0 : IMem) : Res :=
  if w1 < I0 o0 1 then (
      if w1 < 400 then (
        zg (0 ≤ w1 ∧ w1 < 400) (
        zl (I0 (o0 + 1) w1.toNat) fun x2 =>
        zl (wr32 (w1 + 1)) fun x3 =>
        zb (f_R_isLetter fu x2 I0) fun y4 I5 =>
        if y4 = 0 then (
          zb (f_R_isDigit fu x2 I5) fun y7 I8 =>
          if y7 = 0 then (
            if x2 = 32 then (
              R_ x3 I8)
            else (
              if x2 = 10 then (
                R_ x3 I8)
              else (
                zb (f_JS_indexOf fu 1 (wi2c x2) I8) fun y10 I11 =>
                zj (fun (x15 : Int) (I14 : IMem) =>
                    zb (f_R_addToken fu o0 x15 w1 0 I14) fun _ I17 =>
                    R_ x3 I17) fun k13 =>
                  if y10 < 0 then (
                    k13 18 I11)
                  else (
                    k13 x2 I11))))
          else (
            f_R_scan_96 fu (fun (x24 : Int) (I23 : IMem) =>
              zj (fun (x27 : Int) (I26 : IMem) =>
                  zb (f_R_numberAt fu o0 w1 x24 I26) fun y28 I29 =>
                  zb (f_R_addToken fu o0 x27 w1 y28 I29) fun _ I32 =>
                  R_ x24 I32) fun k25 =>
                if 4 < wr32 (x24 - w1) then (
                  k25 18 I23)
                else (
                  k25 16 I23)) o0 w1 fu x3 I8))
        else (
          f_R_scan_41 fu (fun (x39 : Int) (I38 : IMem) =>
            zb (f_R_wordAt fu o0 w1 x39 I38) fun y40 I41 =>
            zb (f_R_addToken fu o0 y40 w1 0 I41) fun _ I44 =>
            R_ x39 I44) o0 w1 fu x3 I5)))
      else (
        k_194 I0))
    else (
      k_194 I0)
def f_R_scan_7 (fu : Nat) (k_194 : IMem → Res) (o0 : Nat) : Nat → Int → IMem → Res
 | 0 => fun _ _ => none
 | n + 1 => fb_R_scan_7 fu k_194 o0 (f_R_scan_7 fu k_194 o0 n)
def f_R_scan (fu : Nat) (o0 : Nat) (I0 : IMem) : Res :=
  zw I0 o0 5 0 fun I1 =>
    f_R_scan_7 fu (fun  (I46 : IMem) =>
      zb (f_R_addToken fu o0 17 (I46 o0 1) 0 I46) fun _ I48 =>
      zr 0 I48) o0 fu 0 I1
def f_W_clear (fu : Nat) (o0 : Nat) (I0 : IMem) : Res :=
  zw I0 o0 1 0 fun I1 =>
    zw I1 o0 4 0 fun I2 =>
    zr 0 I2
def fb_R_understand_31 (fu : Nat) (k_64 : IMem → Res) (o0 : Nat) (R_ : Int → IMem → Res) (w2 : Int) (I0 : IMem) : Res :=
  if w2 < 400 then (
      if I0 o0 10 = 0 then (
        if I0 o0 7 = 17 then (
          k_64 I0)
        else (
          zb (f_R_readLine fu o0 I0) fun _ I17 =>
          zl (wr32 (w2 + 1)) fun x19 =>
          R_ x19 I17))
      else (
        k_64 I0))
    else (
      k_64 I0)
def f_R_understand_31 (fu : Nat) (k_64 : IMem → Res) (o0 : Nat) : Nat → Int → IMem → Res
 | 0 => fun _ _ => none
 | n + 1 => fb_R_understand_31 fu k_64 o0 (f_R_understand_31 fu k_64 o0 n)
def f_R_understand (fu : Nat) (o0 : Nat) (a1 : Int) (I0 : IMem) : Res :=
  zb (f_R_scan fu o0 I0) fun _ I2 =>
    zb (f_R_forget fu o0 I2) fun _ I5 =>
    zg (a1 = 0 ∨ a1 = 1) (
    zw I5 o0 9 a1 fun I7 =>
    zb (f_W_clear fu (o0 + 5) I7) fun _ I10 =>
    zw I10 o0 6 ((-1)) fun I12 =>
    zb (f_R_advance fu o0 I12) fun _ I14 =>
    f_R_understand_31 fu (fun  (I20 : IMem) =>
      if I20 o0 10 = 0 then (
        zr 1 I20)
      else (
        zr 0 I20)) o0 fu 0 I14)
def f_W_copyFrom (fu : Nat) (o0 : Nat) (o1 : Nat) (I0 : IMem) : Res :=
  zw I0 o0 1 (I0 o1 1) fun I1 =>
    zw I1 o0 4 (I1 o1 4) fun I2 =>
    zg ((0 : Int) ≤ 0 ∧ (0 : Int) ≤ 0 ∧ (0 : Int) ≤ 400 ∧ (0 : Int) + 400 ≤ 400 ∧ (0 : Int) + 400 ≤ 400) (zc I2 (o1 + 1) 0 (o0 + 1) 0 400 fun I3 =>
    zg ((0 : Int) ≤ 0 ∧ (0 : Int) ≤ 0 ∧ (0 : Int) ≤ 17 ∧ (0 : Int) + 17 ≤ 17 ∧ (0 : Int) + 17 ≤ 17) (zc I3 (o1 + 2) 0 (o0 + 2) 0 17 fun I4 =>
    zg ((0 : Int) ≤ 0 ∧ (0 : Int) ≤ 0 ∧ (0 : Int) ≤ 16 ∧ (0 : Int) + 16 ≤ 16 ∧ (0 : Int) + 16 ≤ 16) (zc I4 (o1 + 3) 0 (o0 + 3) 0 16 fun I5 =>
    zr 0 I5)))
def f_S_text (fu : Nat) (o0 : Nat) (a1 : Int) (I0 : IMem) : Res :=
  zj (fun  (I2 : IMem) =>
        zb (f_R_forget fu (o0 + 144) I2) fun _ I4 =>
        zr ((-1)) I4) fun k1 =>
      if a1 < 0 then (
        k1 I0)
      else (
        if 4 < a1 then (
          k1 I0)
        else (
          zj (fun (x8 : Int) (I7 : IMem) =>
              zb (f_R_understand fu (o0 + 144) x8 I7) fun y9 I10 =>
              if y9 = 0 then (
                zr ((-1)) I10)
              else (
                zg (0 ≤ a1 ∧ a1 < 5) (
                zb (f_W_copyFrom fu (o0 + 16 + 5 * a1.toNat) (o0 + 149) I10) fun _ I14 =>
                zr (I14 (o0 + 149) 4) I14))) fun k6 =>
            if a1 = 4 then (
              k6 1 I0)
            else (
              k6 0 I0)))
def f_S_fault (fu : Nat) (o0 : Nat) (a1 : Int) (I0 : IMem) : Res :=
  if a1 = 0 then (
      zr (I0 (o0 + 144) 10) I0)
    else (
      if a1 = 1 then (
        zr (I0 (o0 + 144) 11) I0)
      else (
        zr ((-1)) I0))
def fb_L_shortest_4 (fu : Nat) (o0 : Nat) (R_ : Int → Int → IMem → Res) (w1 : Int) (w2 : Int) (I0 : IMem) : Res :=
  if w2 < 6 then (
      zg (0 ≤ w2 ∧ w2 < 6) (
      zg (0 ≤ w1 ∧ w1 < 6) (
      zj (fun (x3 : Int) (I2 : IMem) =>
          zl (wr32 (w2 + 1)) fun x4 =>
          R_ x3 x4 I2) fun k1 =>
        if I0 (o0 + 2) w2.toNat < I0 (o0 + 2) w1.toNat then (
          k1 w2 I0)
        else (
          k1 w1 I0))))
    else (
      zr w1 I0)
def f_L_shortest_4 (fu : Nat) (o0 : Nat) : Nat → Int → Int → IMem → Res
 | 0 => fun _ _ _ => none
 | n + 1 => fb_L_shortest_4 fu o0 (f_L_shortest_4 fu o0 n)
def f_L_shortest (fu : Nat) (o0 : Nat) (I0 : IMem) : Res :=
  f_L_shortest_4 fu  o0 fu 0 1 I0
def fb_W_reckon_6 (fu : Nat) (k_378 : Int → IMem → Res) (o0 : Nat) (p2 : Int) (o3 n3 : Nat) (R_ : Int → Int → IMem → Res) (w4 : Int) (w5 : Int) (I0 : IMem) : Res :=
  if w5 < 0 then (
      k_378 w4 I0)
    else (
      if w5 < p2 then (
        if w5 < 400 then (
          zg (0 ≤ w5 ∧ w5 < 400) (
          zl (I0 (o0 + 1) w5.toNat) fun x1 =>
          zl (wr32 (x1 - 10000)) fun x2 =>
          zj (fun (x5 : Int) (I4 : IMem) =>
              zl (wr32 (w4 + x5)) fun x6 =>
              if x6 < 0 then (
                zr 0 I4)
              else (
                if wr32 (x6 + 1) < 64 then (
                  if x2 < (n3 : Int) then (
                    zg (0 ≤ x6 ∧ x6 < 64) (
                    zl (I4 (o0 + 4) x6.toNat) fun x7 =>
                    zl (wr32 (x6 + 1)) fun x8 =>
                    zg (0 ≤ x8 ∧ x8 < 64) (
                    zl (I4 (o0 + 4) x8.toNat) fun x9 =>
                    zj (fun  (I11 : IMem) =>
                        zl (wr32 (w5 + 1)) fun x12 =>
                        R_ x6 x12 I11) fun k10 =>
                      if x1 = (-10) then (
                        zg (0 ≤ x6 ∧ x6 < 64) (zw I4 (o0 + 4) x6.toNat (wr32 (1 - x7)) fun I14 =>
                        k10 I14))
                      else if x1 = (-9) then (
                        zg (0 ≤ x6 ∧ x6 < 64) (zw I4 (o0 + 4) x6.toNat (wor x7 x9) fun I16 =>
                        k10 I16))
                      else if x1 = (-8) then (
                        zg (0 ≤ x6 ∧ x6 < 64) (zw I4 (o0 + 4) x6.toNat (wand x7 x9) fun I18 =>
                        k10 I18))
                      else if x1 = (-7) then (
                        zj (fun (x22 : Int) (I21 : IMem) =>
                            zg (0 ≤ x6 ∧ x6 < 64) (zw I21 (o0 + 4) x6.toNat x22 fun I23 =>
                            k10 I23)) fun k20 =>
                          if x9 < x7 then (
                            k20 1 I4)
                          else (
                            k20 0 I4))
                      else if x1 = (-6) then (
                        zj (fun (x27 : Int) (I26 : IMem) =>
                            zg (0 ≤ x6 ∧ x6 < 64) (zw I26 (o0 + 4) x6.toNat x27 fun I28 =>
                            k10 I28)) fun k25 =>
                          if x7 = x9 then (
                            k25 1 I4)
                          else (
                            k25 0 I4))
                      else if x1 = (-5) then (
                        zj (fun (x32 : Int) (I31 : IMem) =>
                            zg (0 ≤ x6 ∧ x6 < 64) (zw I31 (o0 + 4) x6.toNat x32 fun I33 =>
                            k10 I33)) fun k30 =>
                          if x7 < x9 then (
                            k30 1 I4)
                          else (
                            k30 0 I4))
                      else if x1 = (-4) then (
                        zj (fun (x37 : Int) (I36 : IMem) =>
                            zg (0 ≤ x6 ∧ x6 < 64) (zw I36 (o0 + 4) x6.toNat x37 fun I38 =>
                            k10 I38)) fun k35 =>
                          if x9 = 0 then (
                            k35 0 I4)
                          else (
                            zg (x9 ≠ 0) (
                            k35 (wdiv x7 x9) I4)))
                      else if x1 = (-3) then (
                        zg (0 ≤ x6 ∧ x6 < 64) (zw I4 (o0 + 4) x6.toNat (wr32 (x7 * x9)) fun I40 =>
                        k10 I40))
                      else if x1 = (-2) then (
                        zg (0 ≤ x6 ∧ x6 < 64) (zw I4 (o0 + 4) x6.toNat (wr32 (x7 - x9)) fun I42 =>
                        k10 I42))
                      else if x1 = (-1) then (
                        zg (0 ≤ x6 ∧ x6 < 64) (zw I4 (o0 + 4) x6.toNat (wr32 (x7 + x9)) fun I44 =>
                        k10 I44))
                      else (
                        zj (fun (x47 : Int) (I46 : IMem) =>
                            zg (0 ≤ x6 ∧ x6 < 64) (zw I46 (o0 + 4) x6.toNat x47 fun I48 =>
                            k10 I48)) fun k45 =>
                          if x2 < 0 then (
                            k45 x1 I4)
                          else (
                            zg (0 ≤ x2 ∧ x2 < n3) (
                            k45 (I4 o3 x2.toNat) I4))))))
                  else (
                    zr 0 I4))
                else (
                  zr 0 I4))) fun k3 =>
            if x1 < 0 then (
              if x1 = (-10) then (
                k3 0 I0)
              else (
                k3 ((-1)) I0))
            else (
              k3 1 I0)))
        else (
          k_378 w4 I0))
      else (
        k_378 w4 I0))
def f_W_reckon_6 (fu : Nat) (k_378 : Int → IMem → Res) (o0 : Nat) (p2 : Int) (o3 n3 : Nat) : Nat → Int → Int → IMem → Res
 | 0 => fun _ _ _ => none
 | n + 1 => fb_W_reckon_6 fu k_378 o0 p2 o3 n3 (f_W_reckon_6 fu k_378 o0 p2 o3 n3 n)
def f_W_reckon (fu : Nat) (o0 : Nat) (a1 : Int) (a2 : Int) (o3 n3 : Nat) (I0 : IMem) : Res :=
  f_W_reckon_6 fu (fun (x50 : Int) (I49 : IMem) =>
      if x50 < 0 then (
        zr 0 I49)
      else (
        zg (0 ≤ x50 ∧ x50 < 64) (
        zr (I49 (o0 + 4) x50.toNat) I49))) o0 a2 o3 n3 fu ((-1)) a1 I0
def fb_W_value_2 (fu : Nat) (k_50 : Int → Int → IMem → Res) (o0 : Nat) (o1 n1 : Nat) (R_ : Int → IMem → Res) (w2 : Int) (I0 : IMem) : Res :=
  if w2 < I0 o0 4 then (
      if w2 < 16 then (
        zg (0 ≤ w2 ∧ w2 < 16) (
        zl (I0 (o0 + 3) w2.toNat) fun x1 =>
        zl (wr32 (w2 + 1)) fun x2 =>
        zg (0 ≤ x2 ∧ x2 < 17) (
        zl (I0 (o0 + 2) x2.toNat) fun x3 =>
        if x1 = x3 then (
          k_50 w2 x1 I0)
        else (
          zb (f_W_reckon fu o0 x1 x3 o1 n1 I0) fun y4 I5 =>
          if y4 = 0 then (
            zl (wr32 (w2 + 1)) fun x7 =>
            R_ x7 I5)
          else (
            k_50 w2 x1 I5)))))
      else (
        zr 0 I0))
    else (
      zr 0 I0)
def f_W_value_2 (fu : Nat) (k_50 : Int → Int → IMem → Res) (o0 : Nat) (o1 n1 : Nat) : Nat → Int → IMem → Res
 | 0 => fun _ _ => none
 | n + 1 => fb_W_value_2 fu k_50 o0 o1 n1 (f_W_value_2 fu k_50 o0 o1 n1 n)
def f_W_value (fu : Nat) (o0 : Nat) (o1 n1 : Nat) (I0 : IMem) : Res :=
  f_W_value_2 fu (fun (x9 : Int) (x10 : Int) (I8 : IMem) =>
      zg (0 ≤ x9 ∧ x9 < 17) (
      zb (f_W_reckon fu o0 (I8 (o0 + 2) x9.toNat) x10 o1 n1 I8) fun y11 I12 =>
      zr y11 I12)) o0 o1 n1 fu 0 I0
def f_H_lineFor (fu : Nat) (o0 : Nat) (a1 : Int) (a2 : Int) (I0 : IMem) : Res :=
  if I0 o0 11 = (-1) then (
      zw I0 (o0 + 13) 7 a1 fun I1 =>
      zw I1 (o0 + 13) 8 a2 fun I2 =>
      zb (f_L_shortest fu (o0 + 6) I2) fun y3 I4 =>
      zw I4 (o0 + 13) 5 y3 fun I6 =>
      zw I6 (o0 + 13) 6 (I6 (o0 + 8) 0) fun I7 =>
      zb (f_W_value fu (o0 + 35) (o0 + 13) 16 I7) fun y8 I9 =>
      zr y8 I9)
    else (
      if 4 < a1 then (
        zr 0 I0)
      else (
        zr (wand (wshr (I0 o0 11) (wr32 (a1 - 1))) 1) I0))
def f_L_append (fu : Nat) (o0 : Nat) (a1 : Int) (o2 n2 : Nat) (a3 : Int) (I0 : IMem) : Res :=
  zb (f_S_isLine fu a1 I0) fun y1 I2 =>
    if y1 = 0 then (
      zr 0 I2)
    else (
      zg (0 ≤ a1 ∧ a1 < 6) (
      if I2 (o0 + 2) a1.toNat < 40 then (
        if a3 < 0 then (
          zr 0 I2)
        else (
          if wr32 (((n2 : Int)) - 6) < a3 then (
            zr 0 I2)
          else (
            zg (0 ≤ a1 ∧ a1 < 6) (
            zl (wr32 ((wr32 (a1 * 40)) + (I2 (o0 + 2) a1.toNat))) fun x4 =>
            zg ((0 : Int) ≤ a3 ∧ (0 : Int) ≤ wr32 (x4 * 6) ∧ (0 : Int) ≤ 6 ∧ (a3 : Int) + 6 ≤ n2 ∧ (wr32 (x4 * 6) : Int) + 6 ≤ 1440) (zc I2 o2 a3 (o0 + 1) (wr32 (x4 * 6)) 6 fun I5 =>
            zg (0 ≤ a1 ∧ a1 < 6) (
            zg (0 ≤ a1 ∧ a1 < 6) (zw I5 (o0 + 2) a1.toNat (wr32 ((I5 (o0 + 2) a1.toNat) + 1)) fun I6 =>
            zr 1 I6)))))))
      else (
        zr 0 I2)))
def f_H_enter (fu : Nat) (o0 : Nat) (a1 : Int) (a2 : Int) (a3 : Int) (I0 : IMem) : Res :=
  zw I0 (o0 + 14) 0 (I0 o0 7) fun I1 =>
    zw I1 (o0 + 14) 1 a1 fun I2 =>
    zw I2 (o0 + 14) 2 a2 fun I3 =>
    zw I3 (o0 + 14) 3 a3 fun I4 =>
    zw I4 o0 7 (wr32 ((I4 o0 7) + 1)) fun I5 =>
    zb (f_H_lineFor fu o0 a2 a3 I5) fun y6 I7 =>
    zb (f_L_append fu (o0 + 6) y6 (o0 + 14) 6 0 I7) fun y9 I10 =>
    if y9 = 0 then (
      zw I10 (o0 + 10) 6 (wr32 ((I10 (o0 + 10) 6) + 1)) fun I12 =>
      zr ((-1)) I12)
    else (
      zr y6 I10)
def f_S_come (fu : Nat) (o0 : Nat) (a1 : Int) (a2 : Int) (a3 : Int) (I0 : IMem) : Res :=
  zb (f_S_canBe fu a1 a2 a3 I0) fun y1 I2 =>
    if y1 = 0 then (
      zr ((-2)) I2)
    else (
      zb (f_H_enter fu (o0 + 1) a1 a2 a3 I2) fun y4 I5 =>
      zr y4 I5)
def f_H_lawInForce (fu : Nat) (o0 : Nat) (I0 : IMem) : Res :=
  zl (I0 (o0 + 1) 5) fun x1 =>
    if x1 < 0 then (
      zr ((o0 + 15 : Nat) : Int) I0)
    else (
      if x1 < 4 then (
        zg (0 ≤ x1 ∧ x1 < 5) (
        zr ((o0 + 15 + 5 * x1.toNat : Nat) : Int) I0))
      else (
        zr ((o0 + 15 : Nat) : Int) I0))
def f_L_countOf (fu : Nat) (o0 : Nat) (a1 : Int) (I0 : IMem) : Res :=
  zb (f_S_isLine fu a1 I0) fun y1 I2 =>
    if y1 = 0 then (
      zr 0 I2)
    else (
      zg (0 ≤ a1 ∧ a1 < 6) (
      zb (f_JM_min fu (I2 (o0 + 2) a1.toNat) 40 I2) fun y4 I5 =>
      zr y4 I5))
def f_L_get (fu : Nat) (o0 : Nat) (a1 : Int) (a2 : Int) (I0 : IMem) : Res :=
  zl (wr32 ((wr32 (a1 * 6)) + a2)) fun x1 =>
    if x1 < 0 then (
      zr 0 I0)
    else (
      if x1 < 1440 then (
        zg (0 ≤ x1 ∧ x1 < 1440) (
        zr (I0 (o0 + 1) x1.toNat) I0))
      else (
        zr 0 I0))
def f_H_weigh (fu : Nat) (o0 : Nat) (a1 : Int) (a2 : Int) (a3 : Int) (I0 : IMem) : Res :=
  zl (wdiv a1 40) fun x1 =>
    zl (wrem a1 40) fun x2 =>
    zb (f_L_get fu (o0 + 6) a1 2 I0) fun y3 I4 =>
    zw I4 (o0 + 13) 7 y3 fun I6 =>
    zw I6 (o0 + 13) 9 a2 fun I7 =>
    zw I7 (o0 + 13) 10 x2 fun I8 =>
    zw I8 (o0 + 13) 11 x1 fun I9 =>
    zb (f_L_get fu (o0 + 6) a1 5 I9) fun y10 I11 =>
    zw I11 (o0 + 13) 12 y10 fun I13 =>
    zb (f_L_get fu (o0 + 6) a1 4 I13) fun y14 I15 =>
    zw I15 (o0 + 13) 13 y14 fun I17 =>
    zb (f_L_get fu (o0 + 6) a1 3 I17) fun y18 I19 =>
    zw I19 (o0 + 13) 8 y18 fun I21 =>
    zw I21 (o0 + 13) 14 a3 fun I22 =>
    zb (f_L_countOf fu (o0 + 6) x1 I22) fun y23 I24 =>
    zw I24 (o0 + 13) 15 (wr32 ((wr32 (y23 - x2)) - 1)) fun I26 =>
    zr 0 I26
def f_L_has (fu : Nat) (o0 : Nat) (a1 : Int) (a2 : Int) (I0 : IMem) : Res :=
  zb (f_S_isLine fu a1 I0) fun y1 I2 =>
    if y1 = 0 then (
      zr 0 I2)
    else (
      if a2 < 0 then (
        zr 0 I2)
      else (
        zg (0 ≤ a1 ∧ a1 < 6) (
        if a2 < I2 (o0 + 2) a1.toNat then (
          zr 1 I2)
        else (
          zr 0 I2))))
def f_S_group (fu : Nat) (o0 : Nat) (a1 : Int) (a2 : Int) (a3 : Int) (I0 : IMem) : Res :=
  zb (f_S_isLine fu a1 I0) fun y1 I2 =>
    if y1 = 0 then (
      zr ((-1000000)) I2)
    else (
      if a2 < 0 then (
        zr ((-1000000)) I2)
      else (
        if a2 < 40 then (
          if a3 < 0 then (
            zr ((-1000000)) I2)
          else (
            if 6 < a3 then (
              zr ((-1000000)) I2)
            else (
              zb (f_L_has fu (o0 + 7) a1 a2 I2) fun y4 I5 =>
              if y4 = 0 then (
                zr ((-1)) I5)
              else (
                zl (wr32 ((wr32 (a1 * 40)) + a2)) fun x7 =>
                if a3 = 6 then (
                  zb (f_H_weigh fu (o0 + 1) x7 (I5 (o0 + 2) 0) 0 I5) fun _ I9 =>
                  zb (f_H_lawInForce fu (o0 + 1) I9) fun y11 I12 =>
                  zb (f_W_value fu (y11.toNat) (o0 + 14) 16 I12) fun y14 I15 =>
                  zr y14 I15)
                else (
                  zb (f_L_get fu (o0 + 7) x7 a3 I5) fun y17 I18 =>
                  zr y17 I18)))))
        else (
          zr ((-1000000)) I2)))
section
variable {l : Launch} {b : PB}
set_option maxRecDepth 20000 in
theorem t_R_wordAt_11 (fu : Nat) {r : Int × IMem} (o0 : Nat) (p1 : Int) (p2 : Int) (h_o0 : KC[o0]? = some (10, 13)) (h_p1 : inr p1) (h_p2 : inr p2) : ∀ (m : Nat) (w3 : Int) (w4 : Int) (w5 : Int) (w6 : Int) (I0 : IMem), inr w3 → inr w4 → inr w5 → inr w6 → RG I0 → f_R_wordAt_11 fu o0 p1 p2 m w3 w4 w5 w6 I0 = some r → Ai l b 5 y_R_wordAt KC RC (Ps r) I0 11 [.ref o0, .int (iv p1), .int (iv p2), .int (iv w3), .int (iv w4), .int (iv w5), .int (iv w6), uu] [] := by
  intro m
  induction m with
  | zero => intro w3 w4 w5 w6 I0 h_w3 h_w4 h_w5 h_w6 h_I0 hf; cases hf
  | succ m ih =>
    intro w3 w4 w5 w6 I0 h_w3 h_w4 h_w5 h_w6 h_I0 hf
    replace hf : fb_R_wordAt_11 fu o0 p1 p2 (f_R_wordAt_11 fu o0 p1 p2 m) w3 w4 w5 w6 I0 = some r := hf
    unfold fb_R_wordAt_11 at hf
    refine aw_iload rfl d_R_wordAt_11 (aw_ldcS (i := 0) (by decide) rfl d_R_wordAt_13 ?_)
    obtain ⟨y1, I2, c3, hf⟩ := of_zb hf
    refine ai_callVS (as := []) (d' := 2) mo_JS_length lk_R_97 (by decide) rfl rfl ⟨by decide, by decide⟩ rfl rfl (by decide) d_R_wordAt_15 (t_JS_length fu 0 I0 h_I0 (by decide) c3) (fun h_y1 h_I2 => ?_)
    refine ai_icmp_ge h_w6 h_y1 hf (tgt := 113) (by decide) d_R_wordAt_18 (fun hf => ?_) (fun hf => ?_)
    · refine aw_bipush (v := iv 18) cb_18 d_R_wordAt_113 ?_
      exact ai_reti rfl d_R_wordAt_115 hf in_18 h_I2
    · refine aw_ldcS (i := 0) (by decide) rfl d_R_wordAt_21 (aw_iload rfl d_R_wordAt_23 ?_)
      obtain ⟨y4, I5, c6, hf⟩ := of_zb hf
      refine ai_callVS (as := [.int (iv w6)]) (d' := 4) mo_JS_charAt lk_R_100 (by decide) rfl rfl ⟨by decide, by decide⟩ rfl rfl (by decide) d_R_wordAt_25 (t_JS_charAt fu 0 w6 I2 h_I2 (by decide) h_w6 c6) (fun h_y4 h_I5 => ?_)
      refine aw_istore (lv2 := [.ref o0, .int (iv p1), .int (iv p2), .int (iv w3), .int (iv w4), .int (iv w5), .int (iv w6), .int (iv y4)]) (Nat.le_of_ble_eq_true rfl) rfl d_R_wordAt_28 (aw_iload rfl d_R_wordAt_30 (aw_bipush (v := iv 32) cb_32 d_R_wordAt_32 ?_))
      obtain ⟨k7, ek7, hf⟩ := of_zj hf
      have hk7 : ∀ (x9 : Int) (x10 : Int) (x11 : Int) (I8 : IMem), inr x9 → inr x10 → inr x11 → RG I8 → k7 x9 x10 x11 I8 = some r → Ai l b 5 y_R_wordAt KC RC (Ps r) I8 107 [.ref o0, .int (iv p1), .int (iv p2), .int (iv x9), .int (iv x10), .int (iv x11), .int (iv w6), uu] [] := by
        intro x9 x10 x11 I8 h_x9 h_x10 h_x11 h_I8 hf
        subst ek7
        refine ai_iinc (n := 1) (lv2 := fun x12 => [.ref o0, .int (iv p1), .int (iv p2), .int (iv x9), .int (iv x10), .int (iv x11), .int (iv x12), uu]) hf rfl (Nat.le_of_ble_eq_true rfl) (fun _ => rfl) d_R_wordAt_107 (fun x12 h_x12 hf => ?_)
        refine aw_goto (tgt := 11) (by decide) d_R_wordAt_110 ?_
        exact ih x9 x10 x11 x12 I8 h_x9 h_x10 h_x11 h_x12 h_I8 hf
      refine ai_icmp_ne h_y4 in_32 hf (tgt := 62) (by decide) d_R_wordAt_34 (fun hf => ?_) (fun hf => ?_)
      · refine aw_iload rfl d_R_wordAt_62 ?_
        refine ai_if_eq h_w5 hf (tgt := 104) (by decide) d_R_wordAt_64 (fun hf => ?_) (fun hf => ?_)
        · refine aw_iconst (v := iv 0) rfl d_R_wordAt_104 (aw_istore (lv2 := [.ref o0, .int (iv p1), .int (iv p2), .int (iv w3), .int (iv w4), .int (iv 0), .int (iv w6), .int (iv y4)]) (Nat.le_of_ble_eq_true rfl) rfl d_R_wordAt_105 ?_)
          refine aw_weakB (lv2 := [.ref o0, .int (iv p1), .int (iv p2), .int (iv w3), .int (iv w4), .int (iv 0), .int (iv w6), uu]) (wk_s (wk_s (wk_s (wk_s (wk_s (wk_s (wk_s (wk_u wk_n)))))))) ?_
          exact hk7 w3 w4 0 I5 h_w3 h_w4 in_0 h_I5 hf
        · refine aw_iload rfl d_R_wordAt_67 ?_
          refine ai_if_lt h_w4 hf (tgt := 104) (by decide) d_R_wordAt_69 (fun hf => ?_) (fun hf => ?_)
          · refine aw_iconst (v := iv 0) rfl d_R_wordAt_104 (aw_istore (lv2 := [.ref o0, .int (iv p1), .int (iv p2), .int (iv w3), .int (iv w4), .int (iv 0), .int (iv w6), .int (iv y4)]) (Nat.le_of_ble_eq_true rfl) rfl d_R_wordAt_105 ?_)
            refine aw_weakB (lv2 := [.ref o0, .int (iv p1), .int (iv p2), .int (iv w3), .int (iv w4), .int (iv 0), .int (iv w6), uu]) (wk_s (wk_s (wk_s (wk_s (wk_s (wk_s (wk_s (wk_u wk_n)))))))) ?_
            exact hk7 w3 w4 0 I5 h_w3 h_w4 in_0 h_I5 hf
          · refine aw_iload rfl d_R_wordAt_72 (aw_iload_n rfl rfl d_R_wordAt_74 ?_)
            refine ai_icmp_ge h_w4 h_p2 hf (tgt := 104) (by decide) d_R_wordAt_75 (fun hf => ?_) (fun hf => ?_)
            · refine aw_iconst (v := iv 0) rfl d_R_wordAt_104 (aw_istore (lv2 := [.ref o0, .int (iv p1), .int (iv p2), .int (iv w3), .int (iv w4), .int (iv 0), .int (iv w6), .int (iv y4)]) (Nat.le_of_ble_eq_true rfl) rfl d_R_wordAt_105 ?_)
              refine aw_weakB (lv2 := [.ref o0, .int (iv p1), .int (iv p2), .int (iv w3), .int (iv w4), .int (iv 0), .int (iv w6), uu]) (wk_s (wk_s (wk_s (wk_s (wk_s (wk_s (wk_s (wk_u wk_n)))))))) ?_
              exact hk7 w3 w4 0 I5 h_w3 h_w4 in_0 h_I5 hf
            · refine aw_iload rfl d_R_wordAt_78 (aw_sipush (v := iv 400) cs_400 d_R_wordAt_80 ?_)
              refine ai_icmp_ge h_w4 in_400 hf (tgt := 104) (by decide) d_R_wordAt_83 (fun hf => ?_) (fun hf => ?_)
              · refine aw_iconst (v := iv 0) rfl d_R_wordAt_104 (aw_istore (lv2 := [.ref o0, .int (iv p1), .int (iv p2), .int (iv w3), .int (iv w4), .int (iv 0), .int (iv w6), .int (iv y4)]) (Nat.le_of_ble_eq_true rfl) rfl d_R_wordAt_105 ?_)
                refine aw_weakB (lv2 := [.ref o0, .int (iv p1), .int (iv p2), .int (iv w3), .int (iv w4), .int (iv 0), .int (iv w6), uu]) (wk_s (wk_s (wk_s (wk_s (wk_s (wk_s (wk_s (wk_u wk_n)))))))) ?_
                exact hk7 w3 w4 0 I5 h_w3 h_w4 in_0 h_I5 hf
              · refine aw_aload_n rfl rfl d_R_wordAt_86 (aw_getr (r := o0 + 1) fl_R_11 h_o0 (by decide) rfl (rc_7_0 _ h_o0).1 d_R_wordAt_87 (aw_iload rfl d_R_wordAt_90 ?_))
                refine ai_iald (rc_7_0 _ h_o0).2 rfl h_w4 hf d_R_wordAt_92 (fun _ hf => ?_)
                refine aw_iload rfl d_R_wordAt_93 ?_
                refine ai_icmp_ne (h_I5 (o0 + 1) w4.toNat) h_y4 hf (tgt := 104) (by decide) d_R_wordAt_95 (fun hf => ?_) (fun hf => ?_)
                · refine aw_iconst (v := iv 0) rfl d_R_wordAt_104 (aw_istore (lv2 := [.ref o0, .int (iv p1), .int (iv p2), .int (iv w3), .int (iv w4), .int (iv 0), .int (iv w6), .int (iv y4)]) (Nat.le_of_ble_eq_true rfl) rfl d_R_wordAt_105 ?_)
                  refine aw_weakB (lv2 := [.ref o0, .int (iv p1), .int (iv p2), .int (iv w3), .int (iv w4), .int (iv 0), .int (iv w6), uu]) (wk_s (wk_s (wk_s (wk_s (wk_s (wk_s (wk_s (wk_u wk_n)))))))) ?_
                  exact hk7 w3 w4 0 I5 h_w3 h_w4 in_0 h_I5 hf
                · refine ai_iinc (n := 1) (lv2 := fun x13 => [.ref o0, .int (iv p1), .int (iv p2), .int (iv w3), .int (iv x13), .int (iv w5), .int (iv w6), .int (iv y4)]) hf rfl (Nat.le_of_ble_eq_true rfl) (fun _ => rfl) d_R_wordAt_98 (fun x13 h_x13 hf => ?_)
                  refine aw_goto (tgt := 107) (by decide) d_R_wordAt_101 ?_
                  refine aw_weakB (lv2 := [.ref o0, .int (iv p1), .int (iv p2), .int (iv w3), .int (iv x13), .int (iv w5), .int (iv w6), uu]) (wk_s (wk_s (wk_s (wk_s (wk_s (wk_s (wk_s (wk_u wk_n)))))))) ?_
                  exact hk7 w3 x13 w5 I5 h_w3 h_x13 h_w5 h_I5 hf
      · refine aw_iload rfl d_R_wordAt_37 ?_
        obtain ⟨k14, ek14, hf⟩ := of_zj hf
        have hk14 : ∀  (I15 : IMem), RG I15 → k14 I15 = some r → Ai l b 5 y_R_wordAt KC RC (Ps r) I15 50 [.ref o0, .int (iv p1), .int (iv p2), .int (iv w3), uu, uu, .int (iv w6), uu] [] := by
          intro I15 h_I15 hf
          subst ek14
          refine ai_iinc (n := 1) (lv2 := fun x16 => [.ref o0, .int (iv p1), .int (iv p2), .int (iv x16), uu, uu, .int (iv w6), uu]) hf rfl (Nat.le_of_ble_eq_true rfl) (fun _ => rfl) d_R_wordAt_50 (fun x16 h_x16 hf => ?_)
          refine aw_iload_n rfl rfl d_R_wordAt_53 (aw_istore (lv2 := [.ref o0, .int (iv p1), .int (iv p2), .int (iv x16), .int (iv p1), uu, .int (iv w6), uu]) (Nat.le_of_ble_eq_true rfl) rfl d_R_wordAt_54 (aw_iconst (v := iv 1) rfl d_R_wordAt_56 (aw_istore (lv2 := [.ref o0, .int (iv p1), .int (iv p2), .int (iv x16), .int (iv p1), .int (iv 1), .int (iv w6), uu]) (Nat.le_of_ble_eq_true rfl) rfl d_R_wordAt_57 (aw_goto (tgt := 107) (by decide) d_R_wordAt_59 ?_))))
          exact hk7 x16 p1 1 I15 h_x16 h_p1 in_1 h_I15 hf
        refine ai_if_eq h_w5 hf (tgt := 50) (by decide) d_R_wordAt_39 (fun hf => ?_) (fun hf => ?_)
        · refine aw_weakB (lv2 := [.ref o0, .int (iv p1), .int (iv p2), .int (iv w3), uu, uu, .int (iv w6), uu]) (wk_s (wk_s (wk_s (wk_s (wk_u (wk_u (wk_s (wk_u wk_n)))))))) ?_
          exact hk14 I5 h_I5 hf
        · refine aw_iload rfl d_R_wordAt_42 (aw_iload_n rfl rfl d_R_wordAt_44 ?_)
          refine ai_icmp_ne h_w4 h_p2 hf (tgt := 50) (by decide) d_R_wordAt_45 (fun hf => ?_) (fun hf => ?_)
          · refine aw_weakB (lv2 := [.ref o0, .int (iv p1), .int (iv p2), .int (iv w3), uu, uu, .int (iv w6), uu]) (wk_s (wk_s (wk_s (wk_s (wk_u (wk_u (wk_s (wk_u wk_n)))))))) ?_
            exact hk14 I5 h_I5 hf
          · refine aw_iload_n rfl rfl d_R_wordAt_48 ?_
            exact ai_reti rfl d_R_wordAt_49 hf h_w3 h_I5
set_option maxRecDepth 20000 in
theorem t_R_wordAt (fu : Nat) (o0 : Nat) (a1 : Int) (a2 : Int) (I0 : IMem) (hI : RG I0) (h_o0 : KC[o0]? = some (10, 13)) (h_a1 : inr a1) (h_a2 : inr a2) {r : Int × IMem} (hf : f_R_wordAt fu o0 a1 a2 I0 = some r) : Ss l b 5 y_R_wordAt KC RC [.ref o0, .int (iv a1), .int (iv a2)] (ivm I0) (Ps r) := by
  unfold f_R_wordAt at hf
  refine Ss.of (show Ai l b 5 y_R_wordAt KC RC (Ps r) I0 0 [.ref o0, .int (iv a1), .int (iv a2), uu, uu, uu, uu, uu] [] from ?_)
  refine aw_iconst (v := iv 0) rfl d_R_wordAt_0 (aw_istore_n (lv2 := [.ref o0, .int (iv a1), .int (iv a2), .int (iv 0), uu, uu, uu, uu]) rfl (Nat.le_of_ble_eq_true rfl) rfl d_R_wordAt_1 (aw_iload_n rfl rfl d_R_wordAt_2 (aw_istore (lv2 := [.ref o0, .int (iv a1), .int (iv a2), .int (iv 0), .int (iv a1), uu, uu, uu]) (Nat.le_of_ble_eq_true rfl) rfl d_R_wordAt_3 (aw_iconst (v := iv 1) rfl d_R_wordAt_5 (aw_istore (lv2 := [.ref o0, .int (iv a1), .int (iv a2), .int (iv 0), .int (iv a1), .int (iv 1), uu, uu]) (Nat.le_of_ble_eq_true rfl) rfl d_R_wordAt_6 (aw_iconst (v := iv 0) rfl d_R_wordAt_8 (aw_istore (lv2 := [.ref o0, .int (iv a1), .int (iv a2), .int (iv 0), .int (iv a1), .int (iv 1), .int (iv 0), uu]) (Nat.le_of_ble_eq_true rfl) rfl d_R_wordAt_9 ?_)))))))
  refine t_R_wordAt_11 fu o0 a1 a2 h_o0 h_a1 h_a2 fu 0 a1 1 0 I0 in_0 h_a1 in_1 in_0 hI hf
set_option maxRecDepth 20000 in
theorem t_R_scan_96 (fu : Nat) {r : Int × IMem} (k_129 : Int → IMem → Res) (o0 : Nat) (p2 : Int) (h_o0 : KC[o0]? = some (10, 13)) (h_p2 : inr p2) (hk_129 : ∀ (z1 : Int) (I9 : IMem), inr z1 → RG I9 → k_129 z1 I9 = some r → Ai l b 6 y_R_scan KC RC (Pv r) I9 129 [.ref o0, .int (iv z1), .int (iv p2), uu] []) : ∀ (m : Nat) (w1 : Int) (I0 : IMem), inr w1 → RG I0 → f_R_scan_96 fu k_129 o0 p2 m w1 I0 = some r → Ai l b 6 y_R_scan KC RC (Pv r) I0 96 [.ref o0, .int (iv w1), .int (iv p2), uu] [] := by
  intro m
  induction m with
  | zero => intro w1 I0 h_w1 h_I0 hf; cases hf
  | succ m ih =>
    intro w1 I0 h_w1 h_I0 hf
    replace hf : fb_R_scan_96 fu k_129 o0 p2 (f_R_scan_96 fu k_129 o0 p2 m) w1 I0 = some r := hf
    unfold fb_R_scan_96 at hf
    refine aw_iload_n rfl rfl d_R_scan_96 (aw_aload_n rfl rfl d_R_scan_97 (ai_geti fl_R_35 h_o0 (by decide) rfl d_R_scan_98 ?_))
    refine ai_icmp_ge h_w1 (h_I0 o0 1) hf (tgt := 129) (by decide) d_R_scan_101 (fun hf => ?_) (fun hf => ?_)
    · exact hk_129 w1 I0 h_w1 h_I0 hf
    · refine aw_iload_n rfl rfl d_R_scan_104 (aw_sipush (v := iv 400) cs_400 d_R_scan_105 ?_)
      refine ai_icmp_ge h_w1 in_400 hf (tgt := 129) (by decide) d_R_scan_108 (fun hf => ?_) (fun hf => ?_)
      · exact hk_129 w1 I0 h_w1 h_I0 hf
      · refine aw_aload_n rfl rfl d_R_scan_111 (aw_getr (r := o0 + 1) fl_R_11 h_o0 (by decide) rfl (rc_7_0 _ h_o0).1 d_R_scan_112 (aw_iload_n rfl rfl d_R_scan_115 ?_))
        refine ai_iald (rc_7_0 _ h_o0).2 rfl h_w1 hf d_R_scan_116 (fun _ hf => ?_)
        obtain ⟨y19, I20, c21, hf⟩ := of_zb hf
        refine ai_callS (as := [.int (iv (I0 (o0 + 1) w1.toNat))]) (d' := 1) mo_R_isDigit lk_R_81 rfl ⟨by decide, by decide⟩ rfl rfl (by decide) d_R_scan_117 (t_R_isDigit fu (I0 (o0 + 1) w1.toNat) I0 h_I0 (h_I0 (o0 + 1) w1.toNat) c21) (fun h_y19 h_I20 => ?_)
        refine ai_if_eq h_y19 hf (tgt := 129) (by decide) d_R_scan_120 (fun hf => ?_) (fun hf => ?_)
        · exact hk_129 w1 I20 h_w1 h_I20 hf
        · refine ai_iinc (n := 1) (lv2 := fun x22 => [.ref o0, .int (iv x22), .int (iv p2), uu]) hf rfl (Nat.le_of_ble_eq_true rfl) (fun _ => rfl) d_R_scan_123 (fun x22 h_x22 hf => ?_)
          refine aw_goto (tgt := 96) (by decide) d_R_scan_126 ?_
          exact ih x22 I20 h_x22 h_I20 hf
set_option maxRecDepth 20000 in
theorem t_R_scan_41 (fu : Nat) {r : Int × IMem} (k_74 : Int → IMem → Res) (o0 : Nat) (p2 : Int) (h_o0 : KC[o0]? = some (10, 13)) (h_p2 : inr p2) (hk_74 : ∀ (z1 : Int) (I9 : IMem), inr z1 → RG I9 → k_74 z1 I9 = some r → Ai l b 6 y_R_scan KC RC (Pv r) I9 74 [.ref o0, .int (iv z1), .int (iv p2), uu] []) : ∀ (m : Nat) (w1 : Int) (I0 : IMem), inr w1 → RG I0 → f_R_scan_41 fu k_74 o0 p2 m w1 I0 = some r → Ai l b 6 y_R_scan KC RC (Pv r) I0 41 [.ref o0, .int (iv w1), .int (iv p2), uu] [] := by
  intro m
  induction m with
  | zero => intro w1 I0 h_w1 h_I0 hf; cases hf
  | succ m ih =>
    intro w1 I0 h_w1 h_I0 hf
    replace hf : fb_R_scan_41 fu k_74 o0 p2 (f_R_scan_41 fu k_74 o0 p2 m) w1 I0 = some r := hf
    unfold fb_R_scan_41 at hf
    refine aw_iload_n rfl rfl d_R_scan_41 (aw_aload_n rfl rfl d_R_scan_42 (ai_geti fl_R_35 h_o0 (by decide) rfl d_R_scan_43 ?_))
    refine ai_icmp_ge h_w1 (h_I0 o0 1) hf (tgt := 74) (by decide) d_R_scan_46 (fun hf => ?_) (fun hf => ?_)
    · exact hk_74 w1 I0 h_w1 h_I0 hf
    · refine aw_iload_n rfl rfl d_R_scan_49 (aw_sipush (v := iv 400) cs_400 d_R_scan_50 ?_)
      refine ai_icmp_ge h_w1 in_400 hf (tgt := 74) (by decide) d_R_scan_53 (fun hf => ?_) (fun hf => ?_)
      · exact hk_74 w1 I0 h_w1 h_I0 hf
      · refine aw_aload_n rfl rfl d_R_scan_56 (aw_getr (r := o0 + 1) fl_R_11 h_o0 (by decide) rfl (rc_7_0 _ h_o0).1 d_R_scan_57 (aw_iload_n rfl rfl d_R_scan_60 ?_))
        refine ai_iald (rc_7_0 _ h_o0).2 rfl h_w1 hf d_R_scan_61 (fun _ hf => ?_)
        obtain ⟨y34, I35, c36, hf⟩ := of_zb hf
        refine ai_callS (as := [.int (iv (I0 (o0 + 1) w1.toNat))]) (d' := 1) mo_R_isLetter lk_R_69 rfl ⟨by decide, by decide⟩ rfl rfl (by decide) d_R_scan_62 (t_R_isLetter fu (I0 (o0 + 1) w1.toNat) I0 h_I0 (h_I0 (o0 + 1) w1.toNat) c36) (fun h_y34 h_I35 => ?_)
        refine ai_if_eq h_y34 hf (tgt := 74) (by decide) d_R_scan_65 (fun hf => ?_) (fun hf => ?_)
        · exact hk_74 w1 I35 h_w1 h_I35 hf
        · refine ai_iinc (n := 1) (lv2 := fun x37 => [.ref o0, .int (iv x37), .int (iv p2), uu]) hf rfl (Nat.le_of_ble_eq_true rfl) (fun _ => rfl) d_R_scan_68 (fun x37 h_x37 hf => ?_)
          refine aw_goto (tgt := 41) (by decide) d_R_scan_71 ?_
          exact ih x37 I35 h_x37 h_I35 hf
set_option maxRecDepth 20000 in
theorem t_R_scan_7 (fu : Nat) {r : Int × IMem} (k_194 : IMem → Res) (o0 : Nat) (h_o0 : KC[o0]? = some (10, 13)) (hk_194 : ∀ (I9 : IMem), RG I9 → k_194 I9 = some r → Ai l b 6 y_R_scan KC RC (Pv r) I9 194 [.ref o0, uu, uu, uu] []) : ∀ (m : Nat) (w1 : Int) (I0 : IMem), inr w1 → RG I0 → f_R_scan_7 fu k_194 o0 m w1 I0 = some r → Ai l b 6 y_R_scan KC RC (Pv r) I0 7 [.ref o0, .int (iv w1), uu, uu] [] := by
  intro m
  induction m with
  | zero => intro w1 I0 h_w1 h_I0 hf; cases hf
  | succ m ih =>
    intro w1 I0 h_w1 h_I0 hf
    replace hf : fb_R_scan_7 fu k_194 o0 (f_R_scan_7 fu k_194 o0 m) w1 I0 = some r := hf
    unfold fb_R_scan_7 at hf
    refine aw_iload_n rfl rfl d_R_scan_7 (aw_aload_n rfl rfl d_R_scan_8 (ai_geti fl_R_35 h_o0 (by decide) rfl d_R_scan_9 ?_))
    refine ai_icmp_ge h_w1 (h_I0 o0 1) hf (tgt := 194) (by decide) d_R_scan_12 (fun hf => ?_) (fun hf => ?_)
    · refine aw_weakB (lv2 := [.ref o0, uu, uu, uu]) (wk_s (wk_u (wk_u (wk_u wk_n)))) ?_
      exact hk_194 I0 h_I0 hf
    · refine aw_iload_n rfl rfl d_R_scan_15 (aw_sipush (v := iv 400) cs_400 d_R_scan_16 ?_)
      refine ai_icmp_ge h_w1 in_400 hf (tgt := 194) (by decide) d_R_scan_19 (fun hf => ?_) (fun hf => ?_)
      · refine aw_weakB (lv2 := [.ref o0, uu, uu, uu]) (wk_s (wk_u (wk_u (wk_u wk_n)))) ?_
        exact hk_194 I0 h_I0 hf
      · refine aw_iload_n rfl rfl d_R_scan_22 (aw_istore_n (lv2 := [.ref o0, .int (iv w1), .int (iv w1), uu]) rfl (Nat.le_of_ble_eq_true rfl) rfl d_R_scan_23 (aw_aload_n rfl rfl d_R_scan_24 (aw_getr (r := o0 + 1) fl_R_11 h_o0 (by decide) rfl (rc_7_0 _ h_o0).1 d_R_scan_25 (aw_iload_n rfl rfl d_R_scan_28 ?_))))
        refine ai_iald (rc_7_0 _ h_o0).2 rfl h_w1 hf d_R_scan_29 (fun _ hf => ?_)
        refine ai_name hf (h_I0 (o0 + 1) w1.toNat) (fun x2 h_x2 hf => ?_)
        refine aw_istore_n (lv2 := [.ref o0, .int (iv w1), .int (iv w1), .int (iv x2)]) rfl (Nat.le_of_ble_eq_true rfl) rfl d_R_scan_30 ?_
        refine ai_iinc (n := 1) (lv2 := fun x3 => [.ref o0, .int (iv x3), .int (iv w1), .int (iv x2)]) hf rfl (Nat.le_of_ble_eq_true rfl) (fun _ => rfl) d_R_scan_31 (fun x3 h_x3 hf => ?_)
        refine aw_iload_n rfl rfl d_R_scan_34 ?_
        obtain ⟨y4, I5, c6, hf⟩ := of_zb hf
        refine ai_callS (as := [.int (iv x2)]) (d' := 1) mo_R_isLetter lk_R_69 rfl ⟨by decide, by decide⟩ rfl rfl (by decide) d_R_scan_35 (t_R_isLetter fu x2 I0 h_I0 h_x2 c6) (fun h_y4 h_I5 => ?_)
        refine ai_if_eq h_y4 hf (tgt := 89) (by decide) d_R_scan_38 (fun hf => ?_) (fun hf => ?_)
        · refine aw_iload_n rfl rfl d_R_scan_89 ?_
          obtain ⟨y7, I8, c9, hf⟩ := of_zb hf
          refine ai_callS (as := [.int (iv x2)]) (d' := 1) mo_R_isDigit lk_R_81 rfl ⟨by decide, by decide⟩ rfl rfl (by decide) d_R_scan_90 (t_R_isDigit fu x2 I5 h_I5 h_x2 c9) (fun h_y7 h_I8 => ?_)
          refine ai_if_eq h_y7 hf (tgt := 157) (by decide) d_R_scan_93 (fun hf => ?_) (fun hf => ?_)
          · refine aw_iload_n rfl rfl d_R_scan_157 (aw_bipush (v := iv 32) cb_32 d_R_scan_158 ?_)
            refine ai_icmp_eq h_x2 in_32 hf (tgt := 191) (by decide) d_R_scan_160 (fun hf => ?_) (fun hf => ?_)
            · refine aw_goto (tgt := 7) (by decide) d_R_scan_191 ?_
              refine aw_weakB (lv2 := [.ref o0, .int (iv x3), uu, uu]) (wk_s (wk_s (wk_u (wk_u wk_n)))) ?_
              exact ih x3 I8 h_x3 h_I8 hf
            · refine aw_iload_n rfl rfl d_R_scan_163 (aw_bipush (v := iv 10) cb_10 d_R_scan_164 ?_)
              refine ai_icmp_eq h_x2 in_10 hf (tgt := 191) (by decide) d_R_scan_166 (fun hf => ?_) (fun hf => ?_)
              · refine aw_goto (tgt := 7) (by decide) d_R_scan_191 ?_
                refine aw_weakB (lv2 := [.ref o0, .int (iv x3), uu, uu]) (wk_s (wk_s (wk_u (wk_u wk_n)))) ?_
                exact ih x3 I8 h_x3 h_I8 hf
              · refine aw_aload_n rfl rfl d_R_scan_169 (aw_ldcS (i := 1) (by decide) rfl d_R_scan_170 (aw_iload_n rfl rfl d_R_scan_172 (ai_i2c d_R_scan_173 ?_)))
                obtain ⟨y10, I11, c12, hf⟩ := of_zb hf
                refine ai_callVS (as := [.int (iv (wi2c x2))]) (d' := 4) mo_JS_indexOf lk_R_89 (by decide) rfl rfl ⟨by decide, by decide⟩ rfl rfl (by decide) d_R_scan_174 (t_JS_indexOf fu 1 (wi2c x2) I8 h_I8 (by decide) (wi2c_in _) c12) (fun h_y10 h_I11 => ?_)
                obtain ⟨k13, ek13, hf⟩ := of_zj hf
                have hk13 : ∀ (x15 : Int) (I14 : IMem), inr x15 → RG I14 → k13 x15 I14 = some r → Ai l b 6 y_R_scan KC RC (Pv r) I14 186 [.ref o0, .int (iv x3), .int (iv w1), uu] [.int (iv x15), .ref o0] := by
                  intro x15 I14 h_x15 h_I14 hf
                  subst ek13
                  refine aw_iload_n rfl rfl d_R_scan_186 (aw_iconst (v := iv 0) rfl d_R_scan_187 ?_)
                  obtain ⟨y16, I17, c18, hf⟩ := of_zb hf
                  refine ai_callVv (as := [.int (iv x15), .int (iv w1), .int (iv 0)]) (d' := 1) (q := ("SinglesUp$Reader", zT7, 13)) mo_R_addToken lk_R_77 h_o0 rfl rfl rfl ⟨by decide, by decide⟩ rfl rfl (by decide) d_R_scan_188 (t_R_addToken fu o0 x15 w1 0 I14 h_I14 h_o0 h_x15 h_w1 in_0 c18) (fun h_I17 => ?_)
                  refine aw_goto (tgt := 7) (by decide) d_R_scan_191 ?_
                  refine aw_weakB (lv2 := [.ref o0, .int (iv x3), uu, uu]) (wk_s (wk_s (wk_u (wk_u wk_n)))) ?_
                  exact ih x3 I17 h_x3 h_I17 hf
                refine ai_if_lt h_y10 hf (tgt := 184) (by decide) d_R_scan_177 (fun hf => ?_) (fun hf => ?_)
                · refine aw_bipush (v := iv 18) cb_18 d_R_scan_184 ?_
                  refine aw_weakB (lv2 := [.ref o0, .int (iv x3), .int (iv w1), uu]) (wk_s (wk_s (wk_s (wk_u wk_n)))) ?_
                  exact hk13 18 I11 in_18 h_I11 hf
                · refine aw_iload_n rfl rfl d_R_scan_180 (aw_goto (tgt := 186) (by decide) d_R_scan_181 ?_)
                  refine aw_weakB (lv2 := [.ref o0, .int (iv x3), .int (iv w1), uu]) (wk_s (wk_s (wk_s (wk_u wk_n)))) ?_
                  exact hk13 x2 I11 h_x2 h_I11 hf
          · refine aw_weakB (lv2 := [.ref o0, .int (iv x3), .int (iv w1), uu]) (wk_s (wk_s (wk_s (wk_u wk_n)))) ?_
            refine t_R_scan_96 fu _ o0 w1 h_o0 h_w1 ?_ fu x3 I8 h_x3 h_I8 hf
            · intro x24 I23 h_x24 h_I23 hf
              refine aw_aload_n rfl rfl d_R_scan_129 (aw_iload_n rfl rfl d_R_scan_130 (aw_iload_n rfl rfl d_R_scan_131 (ai_isub d_R_scan_132 (aw_iconst (v := iv 4) rfl d_R_scan_133 ?_))))
              obtain ⟨k25, ek25, hf⟩ := of_zj hf
              have hk25 : ∀ (x27 : Int) (I26 : IMem), inr x27 → RG I26 → k25 x27 I26 = some r → Ai l b 6 y_R_scan KC RC (Pv r) I26 144 [.ref o0, .int (iv x24), .int (iv w1), uu] [.int (iv x27), .ref o0] := by
                intro x27 I26 h_x27 h_I26 hf
                subst ek25
                refine aw_iload_n rfl rfl d_R_scan_144 (aw_aload_n rfl rfl d_R_scan_145 (aw_iload_n rfl rfl d_R_scan_146 (aw_iload_n rfl rfl d_R_scan_147 ?_)))
                obtain ⟨y28, I29, c30, hf⟩ := of_zb hf
                refine ai_callV (as := [.int (iv w1), .int (iv x24)]) (d' := 2) (q := ("SinglesUp$Reader", zT7, 13)) mo_R_numberAt lk_R_84 h_o0 rfl rfl rfl ⟨by decide, by decide⟩ rfl rfl (by decide) d_R_scan_148 (t_R_numberAt fu o0 w1 x24 I26 h_I26 h_o0 h_w1 h_x24 c30) (fun h_y28 h_I29 => ?_)
                obtain ⟨y31, I32, c33, hf⟩ := of_zb hf
                refine ai_callVv (as := [.int (iv x27), .int (iv w1), .int (iv y28)]) (d' := 1) (q := ("SinglesUp$Reader", zT7, 13)) mo_R_addToken lk_R_77 h_o0 rfl rfl rfl ⟨by decide, by decide⟩ rfl rfl (by decide) d_R_scan_151 (t_R_addToken fu o0 x27 w1 y28 I29 h_I29 h_o0 h_x27 h_w1 h_y28 c33) (fun h_I32 => ?_)
                refine aw_goto (tgt := 191) (by decide) d_R_scan_154 (aw_goto (tgt := 7) (by decide) d_R_scan_191 ?_)
                refine aw_weakB (lv2 := [.ref o0, .int (iv x24), uu, uu]) (wk_s (wk_s (wk_u (wk_u wk_n)))) ?_
                exact ih x24 I32 h_x24 h_I32 hf
              refine ai_icmp_le (wr32_in _) in_4 hf (tgt := 142) (by decide) d_R_scan_134 (fun hf => ?_) (fun hf => ?_)
              · refine aw_bipush (v := iv 16) cb_16 d_R_scan_142 ?_
                exact hk25 16 I23 in_16 h_I23 hf
              · refine aw_bipush (v := iv 18) cb_18 d_R_scan_137 (aw_goto (tgt := 144) (by decide) d_R_scan_139 ?_)
                exact hk25 18 I23 in_18 h_I23 hf
        · refine aw_weakB (lv2 := [.ref o0, .int (iv x3), .int (iv w1), uu]) (wk_s (wk_s (wk_s (wk_u wk_n)))) ?_
          refine t_R_scan_41 fu _ o0 w1 h_o0 h_w1 ?_ fu x3 I5 h_x3 h_I5 hf
          · intro x39 I38 h_x39 h_I38 hf
            refine aw_aload_n rfl rfl d_R_scan_74 (aw_aload_n rfl rfl d_R_scan_75 (aw_iload_n rfl rfl d_R_scan_76 (aw_iload_n rfl rfl d_R_scan_77 ?_)))
            obtain ⟨y40, I41, c42, hf⟩ := of_zb hf
            refine ai_callV (as := [.int (iv w1), .int (iv x39)]) (d' := 5) (q := ("SinglesUp$Reader", zT7, 13)) mo_R_wordAt lk_R_73 h_o0 rfl rfl rfl ⟨by decide, by decide⟩ rfl rfl (by decide) d_R_scan_78 (t_R_wordAt fu o0 w1 x39 I38 h_I38 h_o0 h_w1 h_x39 c42) (fun h_y40 h_I41 => ?_)
            refine aw_iload_n rfl rfl d_R_scan_81 (aw_iconst (v := iv 0) rfl d_R_scan_82 ?_)
            obtain ⟨y43, I44, c45, hf⟩ := of_zb hf
            refine ai_callVv (as := [.int (iv y40), .int (iv w1), .int (iv 0)]) (d' := 1) (q := ("SinglesUp$Reader", zT7, 13)) mo_R_addToken lk_R_77 h_o0 rfl rfl rfl ⟨by decide, by decide⟩ rfl rfl (by decide) d_R_scan_83 (t_R_addToken fu o0 y40 w1 0 I41 h_I41 h_o0 h_y40 h_w1 in_0 c45) (fun h_I44 => ?_)
            refine aw_goto (tgt := 191) (by decide) d_R_scan_86 (aw_goto (tgt := 7) (by decide) d_R_scan_191 ?_)
            refine aw_weakB (lv2 := [.ref o0, .int (iv x39), uu, uu]) (wk_s (wk_s (wk_u (wk_u wk_n)))) ?_
            exact ih x39 I44 h_x39 h_I44 hf
set_option maxRecDepth 20000 in
theorem t_R_scan (fu : Nat) (o0 : Nat) (I0 : IMem) (hI : RG I0) (h_o0 : KC[o0]? = some (10, 13)) {r : Int × IMem} (hf : f_R_scan fu o0 I0 = some r) : Ss l b 6 y_R_scan KC RC [.ref o0] (ivm I0) (Pv r) := by
  unfold f_R_scan at hf
  refine Ss.of (show Ai l b 6 y_R_scan KC RC (Pv r) I0 0 [.ref o0, uu, uu, uu] [] from ?_)
  refine aw_aload_n rfl rfl d_R_scan_0 (aw_iconst (v := iv 0) rfl d_R_scan_1 ?_)
  refine ai_puti hf hI in_0 fl_R_66 h_o0 (by decide) rfl rfl rfl rfl d_R_scan_2 (fun I1 h_I1 hf => ?_)
  refine aw_iconst (v := iv 0) rfl d_R_scan_5 (aw_istore_n (lv2 := [.ref o0, .int (iv 0), uu, uu]) rfl (Nat.le_of_ble_eq_true rfl) rfl d_R_scan_6 ?_)
  refine t_R_scan_7 fu _ o0 h_o0 ?_ fu 0 I1 in_0 h_I1 hf
  · intro I46 h_I46 hf
    refine aw_aload_n rfl rfl d_R_scan_194 (aw_bipush (v := iv 17) cb_17 d_R_scan_195 (aw_aload_n rfl rfl d_R_scan_197 (ai_geti fl_R_35 h_o0 (by decide) rfl d_R_scan_198 (aw_iconst (v := iv 0) rfl d_R_scan_201 ?_))))
    obtain ⟨y47, I48, c49, hf⟩ := of_zb hf
    refine ai_callVv (as := [.int (iv 17), .int (iv (I46 o0 1)), .int (iv 0)]) (d' := 1) (q := ("SinglesUp$Reader", zT7, 13)) mo_R_addToken lk_R_77 h_o0 rfl rfl rfl ⟨by decide, by decide⟩ rfl rfl (by decide) d_R_scan_202 (t_R_addToken fu o0 17 (I46 o0 1) 0 I46 h_I46 h_o0 in_17 (h_I46 o0 1) in_0 c49) (fun h_I48 => ?_)
    exact ai_retv rfl d_R_scan_205 hf h_I48
set_option maxRecDepth 20000 in
theorem t_W_clear (fu : Nat) (o0 : Nat) (I0 : IMem) (hI : RG I0) (h_o0 : KC[o0]? = some (6, 6)) {r : Int × IMem} (hf : f_W_clear fu o0 I0 = some r) : Ss l b 1 y_W_clear KC RC [.ref o0] (ivm I0) (Pv r) := by
  unfold f_W_clear at hf
  refine Ss.of (show Ai l b 1 y_W_clear KC RC (Pv r) I0 0 [.ref o0] [] from ?_)
  refine aw_aload_n rfl rfl d_W_clear_0 (aw_iconst (v := iv 0) rfl d_W_clear_1 ?_)
  refine ai_puti hf hI in_0 fl_W_22 h_o0 (by decide) rfl rfl rfl rfl d_W_clear_2 (fun I1 h_I1 hf => ?_)
  refine aw_aload_n rfl rfl d_W_clear_5 (aw_iconst (v := iv 0) rfl d_W_clear_6 ?_)
  refine ai_puti hf h_I1 in_0 fl_W_26 h_o0 (by decide) rfl rfl rfl rfl d_W_clear_7 (fun I2 h_I2 hf => ?_)
  exact ai_retv rfl d_W_clear_10 hf h_I2
set_option maxRecDepth 20000 in
theorem t_R_understand_31 (fu : Nat) {r : Int × IMem} (k_64 : IMem → Res) (o0 : Nat) (h_o0 : KC[o0]? = some (10, 13)) (hk_64 : ∀ (I9 : IMem), RG I9 → k_64 I9 = some r → Ai l b 46 y_R_understand KC RC (Ps r) I9 64 [.ref o0, uu, uu] []) : ∀ (m : Nat) (w2 : Int) (I0 : IMem), inr w2 → RG I0 → f_R_understand_31 fu k_64 o0 m w2 I0 = some r → Ai l b 46 y_R_understand KC RC (Ps r) I0 31 [.ref o0, uu, .int (iv w2)] [] := by
  intro m
  induction m with
  | zero => intro w2 I0 h_w2 h_I0 hf; cases hf
  | succ m ih =>
    intro w2 I0 h_w2 h_I0 hf
    replace hf : fb_R_understand_31 fu k_64 o0 (f_R_understand_31 fu k_64 o0 m) w2 I0 = some r := hf
    unfold fb_R_understand_31 at hf
    refine aw_iload_n rfl rfl d_R_understand_31 (aw_sipush (v := iv 400) cs_400 d_R_understand_32 ?_)
    refine ai_icmp_ge h_w2 in_400 hf (tgt := 64) (by decide) d_R_understand_35 (fun hf => ?_) (fun hf => ?_)
    · refine aw_weakB (lv2 := [.ref o0, uu, uu]) (wk_s (wk_u (wk_u wk_n))) ?_
      exact hk_64 I0 h_I0 hf
    · refine aw_aload_n rfl rfl d_R_understand_38 (ai_geti fl_R_38 h_o0 (by decide) rfl d_R_understand_39 ?_)
      refine ai_if_ne (h_I0 o0 10) hf (tgt := 64) (by decide) d_R_understand_42 (fun hf => ?_) (fun hf => ?_)
      · refine aw_weakB (lv2 := [.ref o0, uu, uu]) (wk_s (wk_u (wk_u wk_n))) ?_
        exact hk_64 I0 h_I0 hf
      · refine aw_aload_n rfl rfl d_R_understand_45 (ai_geti fl_R_60 h_o0 (by decide) rfl d_R_understand_46 (aw_bipush (v := iv 17) cb_17 d_R_understand_49 ?_))
        refine ai_icmp_eq (h_I0 o0 7) in_17 hf (tgt := 64) (by decide) d_R_understand_51 (fun hf => ?_) (fun hf => ?_)
        · refine aw_weakB (lv2 := [.ref o0, uu, uu]) (wk_s (wk_u (wk_u wk_n))) ?_
          exact hk_64 I0 h_I0 hf
        · refine aw_aload_n rfl rfl d_R_understand_54 ?_
          obtain ⟨y16, I17, c18, hf⟩ := of_zb hf
          refine ai_callVv (as := []) (d' := 45) (q := ("SinglesUp$Reader", zT7, 13)) mo_R_readLine lk_R_63 h_o0 rfl rfl rfl ⟨by decide, by decide⟩ rfl rfl (by decide) d_R_understand_55 (t_R_readLine fu o0 I0 h_I0 h_o0 c18) (fun h_I17 => ?_)
          refine ai_iinc (n := 1) (lv2 := fun x19 => [.ref o0, uu, .int (iv x19)]) hf rfl (Nat.le_of_ble_eq_true rfl) (fun _ => rfl) d_R_understand_58 (fun x19 h_x19 hf => ?_)
          refine aw_goto (tgt := 31) (by decide) d_R_understand_61 ?_
          exact ih x19 I17 h_x19 h_I17 hf
set_option maxRecDepth 20000 in
theorem t_R_understand (fu : Nat) (o0 : Nat) (a1 : Int) (I0 : IMem) (hI : RG I0) (h_o0 : KC[o0]? = some (10, 13)) (h_a1 : inr a1) {r : Int × IMem} (hf : f_R_understand fu o0 a1 I0 = some r) : Ss l b 46 y_R_understand KC RC [.ref o0, .int (iv a1)] (ivm I0) (Ps r) := by
  unfold f_R_understand at hf
  refine Ss.of (show Ai l b 46 y_R_understand KC RC (Ps r) I0 0 [.ref o0, .int (iv a1), uu] [] from ?_)
  refine aw_aload_n rfl rfl d_R_understand_0 ?_
  obtain ⟨y1, I2, c3, hf⟩ := of_zb hf
  refine ai_callVv (as := []) (d' := 6) (q := ("SinglesUp$Reader", zT7, 13)) mo_R_scan lk_R_41 h_o0 rfl rfl rfl ⟨by decide, by decide⟩ rfl rfl (by decide) d_R_understand_1 (t_R_scan fu o0 I0 hI h_o0 c3) (fun h_I2 => ?_)
  refine aw_aload_n rfl rfl d_R_understand_4 ?_
  obtain ⟨y4, I5, c6, hf⟩ := of_zb hf
  refine ai_callVv (as := []) (d' := 1) (q := ("SinglesUp$Reader", zT7, 13)) mo_R_forget lk_R_44 h_o0 rfl rfl rfl ⟨by decide, by decide⟩ rfl rfl (by decide) d_R_understand_5 (t_R_forget fu o0 I2 h_I2 h_o0 c6) (fun h_I5 => ?_)
  refine aw_aload_n rfl rfl d_R_understand_8 (aw_iload_n rfl rfl d_R_understand_9 ?_)
  obtain ⟨g8, hf⟩ := of_zg hf
  refine ai_puti hf h_I5 h_a1 fl_R_47 h_o0 (by decide) rfl (nar_z g8) (fit_z g8) rfl d_R_understand_10 (fun I7 h_I7 hf => ?_)
  refine aw_aload_n rfl rfl d_R_understand_13 (aw_getr (r := o0 + 5) fl_R_31 h_o0 (by decide) rfl (rc_7_12 _ h_o0).1 d_R_understand_14 ?_)
  obtain ⟨y9, I10, c11, hf⟩ := of_zb hf
  refine ai_callVv (as := []) (d' := 1) (q := ("SinglesUp$Law", zT3, 6)) mo_W_clear lk_R_51 (rc_7_12 _ h_o0).2 rfl rfl rfl ⟨by decide, by decide⟩ rfl rfl (by decide) d_R_understand_17 (t_W_clear fu (o0 + 5) I7 h_I7 (rc_7_12 _ h_o0).2 c11) (fun h_I10 => ?_)
  refine aw_aload_n rfl rfl d_R_understand_20 (aw_iconst (v := iv (-1)) rfl d_R_understand_21 ?_)
  refine ai_puti hf h_I10 in_m1 fl_R_54 h_o0 (by decide) rfl rfl rfl rfl d_R_understand_22 (fun I12 h_I12 hf => ?_)
  refine aw_aload_n rfl rfl d_R_understand_25 ?_
  obtain ⟨y13, I14, c15, hf⟩ := of_zb hf
  refine ai_callVv (as := []) (d' := 1) (q := ("SinglesUp$Reader", zT7, 13)) mo_R_advance lk_R_57 h_o0 rfl rfl rfl ⟨by decide, by decide⟩ rfl rfl (by decide) d_R_understand_26 (t_R_advance fu o0 I12 h_I12 h_o0 c15) (fun h_I14 => ?_)
  refine aw_iconst (v := iv 0) rfl d_R_understand_29 (aw_istore_n (lv2 := [.ref o0, .int (iv a1), .int (iv 0)]) rfl (Nat.le_of_ble_eq_true rfl) rfl d_R_understand_30 ?_)
  refine aw_weakB (lv2 := [.ref o0, uu, .int (iv 0)]) (wk_s (wk_u (wk_s wk_n))) ?_
  refine t_R_understand_31 fu _ o0 h_o0 ?_ fu 0 I14 in_0 h_I14 hf
  · intro I20 h_I20 hf
    refine aw_aload_n rfl rfl d_R_understand_64 (ai_geti fl_R_38 h_o0 (by decide) rfl d_R_understand_65 ?_)
    refine ai_if_ne (h_I20 o0 10) hf (tgt := 75) (by decide) d_R_understand_68 (fun hf => ?_) (fun hf => ?_)
    · refine aw_iconst (v := iv 0) rfl d_R_understand_75 ?_
      exact ai_retn rfl (nar_z (Or.inl rfl)) d_R_understand_76 hf in_0 h_I20
    · refine aw_iconst (v := iv 1) rfl d_R_understand_71 (aw_goto (tgt := 76) (by decide) d_R_understand_72 ?_)
      exact ai_retn rfl (nar_z (Or.inr rfl)) d_R_understand_76 hf in_1 h_I20
set_option maxRecDepth 20000 in
theorem t_W_copyFrom (fu : Nat) (o0 : Nat) (o1 : Nat) (I0 : IMem) (hI : RG I0) (h_o0 : KC[o0]? = some (6, 6)) (h_o1 : KC[o1]? = some (6, 6)) {r : Int × IMem} (hf : f_W_copyFrom fu o0 o1 I0 = some r) : Ss l b 1 y_W_copyFrom KC RC [.ref o0, .ref o1] (ivm I0) (Pv r) := by
  unfold f_W_copyFrom at hf
  refine Ss.of (show Ai l b 1 y_W_copyFrom KC RC (Pv r) I0 0 [.ref o0, .ref o1] [] from ?_)
  refine aw_aload_n rfl rfl d_W_copyFrom_0 (aw_aload_n rfl rfl d_W_copyFrom_1 (ai_geti fl_W_22 h_o1 (by decide) rfl d_W_copyFrom_2 ?_))
  refine ai_puti hf hI (hI o1 1) fl_W_22 h_o0 (by decide) rfl rfl rfl rfl d_W_copyFrom_5 (fun I1 h_I1 hf => ?_)
  refine aw_aload_n rfl rfl d_W_copyFrom_8 (aw_aload_n rfl rfl d_W_copyFrom_9 (ai_geti fl_W_26 h_o1 (by decide) rfl d_W_copyFrom_10 ?_))
  refine ai_puti hf h_I1 (h_I1 o1 4) fl_W_26 h_o0 (by decide) rfl rfl rfl rfl d_W_copyFrom_13 (fun I2 h_I2 hf => ?_)
  refine aw_aload_n rfl rfl d_W_copyFrom_16 (aw_getr (r := o1 + 1) fl_W_9 h_o1 (by decide) rfl (rc_3_0 _ h_o1).1 d_W_copyFrom_17 (aw_iconst (v := iv 0) rfl d_W_copyFrom_20 (aw_aload_n rfl rfl d_W_copyFrom_21 (aw_getr (r := o0 + 1) fl_W_9 h_o0 (by decide) rfl (rc_3_0 _ h_o0).1 d_W_copyFrom_22 (aw_iconst (v := iv 0) rfl d_W_copyFrom_25 (aw_sipush (v := iv 400) cs_400 d_W_copyFrom_26 ?_))))))
  refine ai_copy lka_W_29 ac_nat ac_sta ac_ini (rc_3_0 _ h_o1).2 (rc_3_0 _ h_o0).2 rfl rfl in_0 in_0 in_400 h_I2 (by decide) rfl hf d_W_copyFrom_29 (fun I3 h_I3 hf => ?_)
  refine aw_aload_n rfl rfl d_W_copyFrom_32 (aw_getr (r := o1 + 2) fl_W_13 h_o1 (by decide) rfl (rc_3_2 _ h_o1).1 d_W_copyFrom_33 (aw_iconst (v := iv 0) rfl d_W_copyFrom_36 (aw_aload_n rfl rfl d_W_copyFrom_37 (aw_getr (r := o0 + 2) fl_W_13 h_o0 (by decide) rfl (rc_3_2 _ h_o0).1 d_W_copyFrom_38 (aw_iconst (v := iv 0) rfl d_W_copyFrom_41 (aw_bipush (v := iv 17) cb_17 d_W_copyFrom_42 ?_))))))
  refine ai_copy lka_W_29 ac_nat ac_sta ac_ini (rc_3_2 _ h_o1).2 (rc_3_2 _ h_o0).2 rfl rfl in_0 in_0 in_17 h_I3 (by decide) rfl hf d_W_copyFrom_44 (fun I4 h_I4 hf => ?_)
  refine aw_aload_n rfl rfl d_W_copyFrom_47 (aw_getr (r := o1 + 3) fl_W_16 h_o1 (by decide) rfl (rc_3_3 _ h_o1).1 d_W_copyFrom_48 (aw_iconst (v := iv 0) rfl d_W_copyFrom_51 (aw_aload_n rfl rfl d_W_copyFrom_52 (aw_getr (r := o0 + 3) fl_W_16 h_o0 (by decide) rfl (rc_3_3 _ h_o0).1 d_W_copyFrom_53 (aw_iconst (v := iv 0) rfl d_W_copyFrom_56 (aw_bipush (v := iv 16) cb_16 d_W_copyFrom_57 ?_))))))
  refine ai_copy lka_W_29 ac_nat ac_sta ac_ini (rc_3_3 _ h_o1).2 (rc_3_3 _ h_o0).2 rfl rfl in_0 in_0 in_16 h_I4 (by decide) rfl hf d_W_copyFrom_59 (fun I5 h_I5 hf => ?_)
  exact ai_retv rfl d_W_copyFrom_62 hf h_I5
set_option maxRecDepth 20000 in
theorem t_S_text (fu : Nat) (o0 : Nat) (a1 : Int) (I0 : IMem) (hI : RG I0) (h_o0 : KC[o0]? = some (11, 9)) (h_a1 : inr a1) {r : Int × IMem} (hf : f_S_text fu o0 a1 I0 = some r) : Ss l b 47 y_S_text KC RC [.ref o0, .int (iv a1)] (ivm I0) (Ps r) := by
  unfold f_S_text at hf
  refine Ss.of (show Ai l b 47 y_S_text KC RC (Ps r) I0 0 [.ref o0, .int (iv a1)] [] from ?_)
  refine aw_iload_n rfl rfl d_S_text_0 ?_
  obtain ⟨k1, ek1, hf⟩ := of_zj hf
  have hk1 : ∀  (I2 : IMem), RG I2 → k1 I2 = some r → Ai l b 47 y_S_text KC RC (Ps r) I2 9 [.ref o0, uu] [] := by
    intro I2 h_I2 hf
    subst ek1
    refine aw_aload_n rfl rfl d_S_text_9 (aw_getr (r := o0 + 144) fl_S_39 h_o0 (by decide) rfl (rc_8_5 _ h_o0).1 d_S_text_10 ?_)
    obtain ⟨y3, I4, c5, hf⟩ := of_zb hf
    refine ai_callVv (as := []) (d' := 1) (q := ("SinglesUp$Reader", zT7, 13)) mo_R_forget lk_S_110 (rc_8_5 _ h_o0).2 rfl rfl rfl ⟨by decide, by decide⟩ rfl rfl (by decide) d_S_text_13 (t_R_forget fu (o0 + 144) I2 h_I2 (rc_8_5 _ h_o0).2 c5) (fun h_I4 => ?_)
    refine aw_iconst (v := iv (-1)) rfl d_S_text_16 ?_
    exact ai_reti rfl d_S_text_17 hf in_m1 h_I4
  refine ai_if_lt h_a1 hf (tgt := 9) (by decide) d_S_text_1 (fun hf => ?_) (fun hf => ?_)
  · refine aw_weakB (lv2 := [.ref o0, uu]) (wk_s (wk_u wk_n)) ?_
    exact hk1 I0 hI hf
  · refine aw_iload_n rfl rfl d_S_text_4 (aw_iconst (v := iv 4) rfl d_S_text_5 ?_)
    refine ai_icmp_le h_a1 in_4 hf (tgt := 18) (by decide) d_S_text_6 (fun hf => ?_) (fun hf => ?_)
    · refine aw_aload_n rfl rfl d_S_text_18 (aw_getr (r := o0 + 144) fl_S_39 h_o0 (by decide) rfl (rc_8_5 _ h_o0).1 d_S_text_19 (aw_iload_n rfl rfl d_S_text_22 (aw_iconst (v := iv 4) rfl d_S_text_23 ?_)))
      obtain ⟨k6, ek6, hf⟩ := of_zj hf
      have hk6 : ∀ (x8 : Int) (I7 : IMem), inr x8 → RG I7 → k6 x8 I7 = some r → Ai l b 47 y_S_text KC RC (Ps r) I7 32 [.ref o0, .int (iv a1)] [.int (iv x8), .ref (o0 + 144)] := by
        intro x8 I7 h_x8 h_I7 hf
        subst ek6
        obtain ⟨y9, I10, c11, hf⟩ := of_zb hf
        refine ai_callV (as := [.int (iv x8)]) (d' := 46) (q := ("SinglesUp$Reader", zT7, 13)) mo_R_understand lk_S_113 (rc_8_5 _ h_o0).2 rfl rfl rfl ⟨by decide, by decide⟩ rfl rfl (by decide) d_S_text_32 (t_R_understand fu (o0 + 144) x8 I7 h_I7 (rc_8_5 _ h_o0).2 h_x8 c11) (fun h_y9 h_I10 => ?_)
        refine ai_if_ne h_y9 hf (tgt := 40) (by decide) d_S_text_35 (fun hf => ?_) (fun hf => ?_)
        · refine aw_aload_n rfl rfl d_S_text_40 (aw_getr (r := o0 + 1) fl_S_12 h_o0 (by decide) rfl (rc_8_0 _ h_o0).1 d_S_text_41 (aw_getr (r := o0 + 3) fl_S_117 ((rc_8_0 _ h_o0).2) (by decide) rfl (rc_2_1 _ (rc_8_0 _ h_o0).2).1 d_S_text_44 (aw_iload_n rfl rfl d_S_text_47 ?_)))
          refine ai_aald (q := o0 + 16 + 5 * a1.toNat) (rc_2_1 _ (rc_8_0 _ h_o0).2).2 rfl h_a1 hf (fun g => (la_at _ (rc_2_1 _ (rc_8_0 _ h_o0).2).2 a1.toNat (by omega)).1) d_S_text_48 (fun g12 hf => ?_)
          refine aw_aload_n rfl rfl d_S_text_49 (aw_getr (r := o0 + 144) fl_S_39 h_o0 (by decide) rfl (rc_8_5 _ h_o0).1 d_S_text_50 (aw_getr (r := o0 + 149) fl_S_121 ((rc_8_5 _ h_o0).2) (by decide) rfl (rc_7_12 _ (rc_8_5 _ h_o0).2).1 d_S_text_53 ?_))
          obtain ⟨y13, I14, c15, hf⟩ := of_zb hf
          refine ai_callVv (as := [.ref (o0 + 149)]) (d' := 1) (q := ("SinglesUp$Law", zT3, 6)) mo_W_copyFrom lk_S_125 (la_at _ (rc_2_1 _ (rc_8_0 _ h_o0).2).2 a1.toNat (by omega)).2 rfl rfl rfl ⟨by decide, by decide⟩ rfl rfl (by decide) d_S_text_56 (t_W_copyFrom fu (o0 + 16 + 5 * a1.toNat) (o0 + 149) I10 h_I10 (la_at _ (rc_2_1 _ (rc_8_0 _ h_o0).2).2 a1.toNat (by omega)).2 (rc_7_12 _ (rc_8_5 _ h_o0).2).2 c15) (fun h_I14 => ?_)
          refine aw_aload_n rfl rfl d_S_text_59 (aw_getr (r := o0 + 144) fl_S_39 h_o0 (by decide) rfl (rc_8_5 _ h_o0).1 d_S_text_60 (aw_getr (r := o0 + 149) fl_S_121 ((rc_8_5 _ h_o0).2) (by decide) rfl (rc_7_12 _ (rc_8_5 _ h_o0).2).1 d_S_text_63 (ai_geti fl_S_131 (rc_7_12 _ (rc_8_5 _ h_o0).2).2 (by decide) rfl d_S_text_66 ?_)))
          exact ai_reti rfl d_S_text_69 hf (h_I14 (o0 + 149) 4) h_I14
        · refine aw_iconst (v := iv (-1)) rfl d_S_text_38 ?_
          exact ai_reti rfl d_S_text_39 hf in_m1 h_I10
      refine ai_icmp_ne h_a1 in_4 hf (tgt := 31) (by decide) d_S_text_24 (fun hf => ?_) (fun hf => ?_)
      · refine aw_iconst (v := iv 0) rfl d_S_text_31 ?_
        exact hk6 0 I0 in_0 hI hf
      · refine aw_iconst (v := iv 1) rfl d_S_text_27 (aw_goto (tgt := 32) (by decide) d_S_text_28 ?_)
        exact hk6 1 I0 in_1 hI hf
    · refine aw_weakB (lv2 := [.ref o0, uu]) (wk_s (wk_u wk_n)) ?_
      exact hk1 I0 hI hf
set_option maxRecDepth 20000 in
theorem t_S_fault (fu : Nat) (o0 : Nat) (a1 : Int) (I0 : IMem) (hI : RG I0) (h_o0 : KC[o0]? = some (11, 9)) (h_a1 : inr a1) {r : Int × IMem} (hf : f_S_fault fu o0 a1 I0 = some r) : Ss l b 1 y_S_fault KC RC [.ref o0, .int (iv a1)] (ivm I0) (Ps r) := by
  unfold f_S_fault at hf
  refine Ss.of (show Ai l b 1 y_S_fault KC RC (Ps r) I0 0 [.ref o0, .int (iv a1)] [] from ?_)
  refine aw_iload_n rfl rfl d_S_fault_0 ?_
  refine ai_if_ne h_a1 hf (tgt := 12) (by decide) d_S_fault_1 (fun hf => ?_) (fun hf => ?_)
  · refine aw_iload_n rfl rfl d_S_fault_12 (aw_iconst (v := iv 1) rfl d_S_fault_13 ?_)
    refine ai_icmp_ne h_a1 in_1 hf (tgt := 27) (by decide) d_S_fault_14 (fun hf => ?_) (fun hf => ?_)
    · refine aw_iconst (v := iv (-1)) rfl d_S_fault_27 ?_
      exact ai_reti rfl d_S_fault_28 hf in_m1 hI
    · refine aw_aload_n rfl rfl d_S_fault_17 (aw_getr (r := o0 + 144) fl_S_39 h_o0 (by decide) rfl (rc_8_5 _ h_o0).1 d_S_fault_18 (ai_geti fl_S_136 (rc_8_5 _ h_o0).2 (by decide) rfl d_S_fault_21 (aw_goto (tgt := 28) (by decide) d_S_fault_24 ?_)))
      exact ai_reti rfl d_S_fault_28 hf (hI (o0 + 144) 11) hI
  · refine aw_aload_n rfl rfl d_S_fault_4 (aw_getr (r := o0 + 144) fl_S_39 h_o0 (by decide) rfl (rc_8_5 _ h_o0).1 d_S_fault_5 (ai_geti fl_S_133 (rc_8_5 _ h_o0).2 (by decide) rfl d_S_fault_8 ?_))
    exact ai_reti rfl d_S_fault_11 hf (hI (o0 + 144) 10) hI
set_option maxRecDepth 20000 in
theorem t_L_shortest_4 (fu : Nat) {r : Int × IMem} (o0 : Nat) (h_o0 : KC[o0]? = some (7, 3)) : ∀ (m : Nat) (w1 : Int) (w2 : Int) (I0 : IMem), inr w1 → inr w2 → RG I0 → f_L_shortest_4 fu o0 m w1 w2 I0 = some r → Ai l b 1 y_L_shortest KC RC (Ps r) I0 4 [.ref o0, .int (iv w1), .int (iv w2)] [] := by
  intro m
  induction m with
  | zero => intro w1 w2 I0 h_w1 h_w2 h_I0 hf; cases hf
  | succ m ih =>
    intro w1 w2 I0 h_w1 h_w2 h_I0 hf
    replace hf : fb_L_shortest_4 fu o0 (f_L_shortest_4 fu o0 m) w1 w2 I0 = some r := hf
    unfold fb_L_shortest_4 at hf
    refine aw_iload_n rfl rfl d_L_shortest_4 (aw_bipush (v := iv 6) cb_6 d_L_shortest_5 ?_)
    refine ai_icmp_ge h_w2 in_6 hf (tgt := 33) (by decide) d_L_shortest_7 (fun hf => ?_) (fun hf => ?_)
    · refine aw_iload_n rfl rfl d_L_shortest_33 ?_
      exact ai_reti rfl d_L_shortest_34 hf h_w1 h_I0
    · refine aw_aload_n rfl rfl d_L_shortest_10 (aw_getr (r := o0 + 2) fl_L_15 h_o0 (by decide) rfl (rc_4_1 _ h_o0).1 d_L_shortest_11 (aw_iload_n rfl rfl d_L_shortest_14 ?_))
      refine ai_iald (rc_4_1 _ h_o0).2 rfl h_w2 hf d_L_shortest_15 (fun _ hf => ?_)
      refine aw_aload_n rfl rfl d_L_shortest_16 (aw_getr (r := o0 + 2) fl_L_15 h_o0 (by decide) rfl (rc_4_1 _ h_o0).1 d_L_shortest_17 (aw_iload_n rfl rfl d_L_shortest_20 ?_))
      refine ai_iald (rc_4_1 _ h_o0).2 rfl h_w1 hf d_L_shortest_21 (fun _ hf => ?_)
      obtain ⟨k1, ek1, hf⟩ := of_zj hf
      have hk1 : ∀ (x3 : Int) (I2 : IMem), inr x3 → RG I2 → k1 x3 I2 = some r → Ai l b 1 y_L_shortest KC RC (Ps r) I2 27 [.ref o0, .int (iv x3), .int (iv w2)] [] := by
        intro x3 I2 h_x3 h_I2 hf
        subst ek1
        refine ai_iinc (n := 1) (lv2 := fun x4 => [.ref o0, .int (iv x3), .int (iv x4)]) hf rfl (Nat.le_of_ble_eq_true rfl) (fun _ => rfl) d_L_shortest_27 (fun x4 h_x4 hf => ?_)
        refine aw_goto (tgt := 4) (by decide) d_L_shortest_30 ?_
        exact ih x3 x4 I2 h_x3 h_x4 h_I2 hf
      refine ai_icmp_ge (h_I0 (o0 + 2) w2.toNat) (h_I0 (o0 + 2) w1.toNat) hf (tgt := 27) (by decide) d_L_shortest_22 (fun hf => ?_) (fun hf => ?_)
      · exact hk1 w1 I0 h_w1 h_I0 hf
      · refine aw_iload_n rfl rfl d_L_shortest_25 (aw_istore_n (lv2 := [.ref o0, .int (iv w2), .int (iv w2)]) rfl (Nat.le_of_ble_eq_true rfl) rfl d_L_shortest_26 ?_)
        exact hk1 w2 I0 h_w2 h_I0 hf
set_option maxRecDepth 20000 in
theorem t_L_shortest (fu : Nat) (o0 : Nat) (I0 : IMem) (hI : RG I0) (h_o0 : KC[o0]? = some (7, 3)) {r : Int × IMem} (hf : f_L_shortest fu o0 I0 = some r) : Ss l b 1 y_L_shortest KC RC [.ref o0] (ivm I0) (Ps r) := by
  unfold f_L_shortest at hf
  refine Ss.of (show Ai l b 1 y_L_shortest KC RC (Ps r) I0 0 [.ref o0, uu, uu] [] from ?_)
  refine aw_iconst (v := iv 0) rfl d_L_shortest_0 (aw_istore_n (lv2 := [.ref o0, .int (iv 0), uu]) rfl (Nat.le_of_ble_eq_true rfl) rfl d_L_shortest_1 (aw_iconst (v := iv 1) rfl d_L_shortest_2 (aw_istore_n (lv2 := [.ref o0, .int (iv 0), .int (iv 1)]) rfl (Nat.le_of_ble_eq_true rfl) rfl d_L_shortest_3 ?_)))
  refine t_L_shortest_4 fu o0 h_o0 fu 0 1 I0 in_0 in_1 hI hf
set_option maxRecDepth 20000 in
theorem t_W_reckon_6 (fu : Nat) {r : Int × IMem} (k_378 : Int → IMem → Res) (o0 : Nat) (p2 : Int) (o3 n3 : Nat) (h_o0 : KC[o0]? = some (6, 6)) (h_p2 : inr p2) (h_o3 : KC[o3]? = some (0, n3) ∧ n3 < 1000000) (hk_378 : ∀ (z4 : Int) (I9 : IMem), inr z4 → RG I9 → k_378 z4 I9 = some r → Ai l b 1 y_W_reckon KC RC (Ps r) I9 378 [.ref o0, uu, uu, uu, .int (iv z4), uu, uu, uu, uu, uu] []) : ∀ (m : Nat) (w4 : Int) (w5 : Int) (I0 : IMem), inr w4 → inr w5 → RG I0 → f_W_reckon_6 fu k_378 o0 p2 o3 n3 m w4 w5 I0 = some r → Ai l b 1 y_W_reckon KC RC (Ps r) I0 6 [.ref o0, uu, .int (iv p2), .ref o3, .int (iv w4), .int (iv w5), uu, uu, uu, uu] [] := by
  intro m
  induction m with
  | zero => intro w4 w5 I0 h_w4 h_w5 h_I0 hf; cases hf
  | succ m ih =>
    intro w4 w5 I0 h_w4 h_w5 h_I0 hf
    replace hf : fb_W_reckon_6 fu k_378 o0 p2 o3 n3 (f_W_reckon_6 fu k_378 o0 p2 o3 n3 m) w4 w5 I0 = some r := hf
    unfold fb_W_reckon_6 at hf
    refine aw_iload rfl d_W_reckon_6 ?_
    refine ai_if_lt h_w5 hf (tgt := 378) (by decide) d_W_reckon_8 (fun hf => ?_) (fun hf => ?_)
    · refine aw_weakB (lv2 := [.ref o0, uu, uu, uu, .int (iv w4), uu, uu, uu, uu, uu]) (wk_s (wk_u (wk_u (wk_u (wk_s (wk_u (wk_u (wk_u (wk_u (wk_u wk_n)))))))))) ?_
      exact hk_378 w4 I0 h_w4 h_I0 hf
    · refine aw_iload rfl d_W_reckon_11 (aw_iload_n rfl rfl d_W_reckon_13 ?_)
      refine ai_icmp_ge h_w5 h_p2 hf (tgt := 378) (by decide) d_W_reckon_14 (fun hf => ?_) (fun hf => ?_)
      · refine aw_weakB (lv2 := [.ref o0, uu, uu, uu, .int (iv w4), uu, uu, uu, uu, uu]) (wk_s (wk_u (wk_u (wk_u (wk_s (wk_u (wk_u (wk_u (wk_u (wk_u wk_n)))))))))) ?_
        exact hk_378 w4 I0 h_w4 h_I0 hf
      · refine aw_iload rfl d_W_reckon_17 (aw_sipush (v := iv 400) cs_400 d_W_reckon_19 ?_)
        refine ai_icmp_ge h_w5 in_400 hf (tgt := 378) (by decide) d_W_reckon_22 (fun hf => ?_) (fun hf => ?_)
        · refine aw_weakB (lv2 := [.ref o0, uu, uu, uu, .int (iv w4), uu, uu, uu, uu, uu]) (wk_s (wk_u (wk_u (wk_u (wk_s (wk_u (wk_u (wk_u (wk_u (wk_u wk_n)))))))))) ?_
          exact hk_378 w4 I0 h_w4 h_I0 hf
        · refine aw_aload_n rfl rfl d_W_reckon_25 (aw_getr (r := o0 + 1) fl_W_9 h_o0 (by decide) rfl (rc_3_0 _ h_o0).1 d_W_reckon_26 (aw_iload rfl d_W_reckon_29 ?_))
          refine ai_iald (rc_3_0 _ h_o0).2 rfl h_w5 hf d_W_reckon_31 (fun _ hf => ?_)
          refine ai_name hf (h_I0 (o0 + 1) w5.toNat) (fun x1 h_x1 hf => ?_)
          refine aw_istore (lv2 := [.ref o0, uu, .int (iv p2), .ref o3, .int (iv w4), .int (iv w5), .int (iv x1), uu, uu, uu]) (Nat.le_of_ble_eq_true rfl) rfl d_W_reckon_32 ?_
          refine aw_iload rfl d_W_reckon_34 (aw_sipush (v := iv 10000) cs_10000 d_W_reckon_36 (ai_isub d_W_reckon_39 ?_))
          refine ai_name hf (wr32_in _) (fun x2 h_x2 hf => ?_)
          refine aw_istore (lv2 := [.ref o0, uu, .int (iv p2), .ref o3, .int (iv w4), .int (iv w5), .int (iv x1), .int (iv x2), uu, uu]) (Nat.le_of_ble_eq_true rfl) rfl d_W_reckon_40 ?_
          refine aw_iload rfl d_W_reckon_42 (aw_iload rfl d_W_reckon_44 ?_)
          obtain ⟨k3, ek3, hf⟩ := of_zj hf
          have hk3 : ∀ (x5 : Int) (I4 : IMem), inr x5 → RG I4 → k3 x5 I4 = some r → Ai l b 1 y_W_reckon KC RC (Ps r) I4 65 [.ref o0, uu, .int (iv p2), .ref o3, uu, .int (iv w5), .int (iv x1), .int (iv x2), uu, uu] [.int (iv x5), .int (iv w4)] := by
            intro x5 I4 h_x5 h_I4 hf
            subst ek3
            refine ai_iadd d_W_reckon_65 ?_
            refine ai_name hf (wr32_in _) (fun x6 h_x6 hf => ?_)
            refine aw_istore (lv2 := [.ref o0, uu, .int (iv p2), .ref o3, .int (iv x6), .int (iv w5), .int (iv x1), .int (iv x2), uu, uu]) (Nat.le_of_ble_eq_true rfl) rfl d_W_reckon_66 ?_
            refine aw_iload rfl d_W_reckon_68 ?_
            refine ai_if_lt h_x6 hf (tgt := 92) (by decide) d_W_reckon_70 (fun hf => ?_) (fun hf => ?_)
            · refine aw_iconst (v := iv 0) rfl d_W_reckon_92 ?_
              exact ai_reti rfl d_W_reckon_93 hf in_0 h_I4
            · refine aw_iload rfl d_W_reckon_73 (aw_iconst (v := iv 1) rfl d_W_reckon_75 (ai_iadd d_W_reckon_76 (aw_aload_n rfl rfl d_W_reckon_77 (aw_getr (r := o0 + 4) fl_W_19 h_o0 (by decide) rfl (rc_3_5 _ h_o0).1 d_W_reckon_78 (ai_alen (N := 64) (rc_3_5 _ h_o0).2 (by decide) rfl (by decide) d_W_reckon_81 ?_)))))
              refine ai_icmp_ge (wr32_in _) in_64 hf (tgt := 92) (by decide) d_W_reckon_82 (fun hf => ?_) (fun hf => ?_)
              · refine aw_iconst (v := iv 0) rfl d_W_reckon_92 ?_
                exact ai_reti rfl d_W_reckon_93 hf in_0 h_I4
              · refine aw_iload rfl d_W_reckon_85 (aw_aload_n rfl rfl d_W_reckon_87 (ai_alen (N := n3) h_o3.1 (by decide) rfl h_o3.2 d_W_reckon_88 ?_))
                refine ai_icmp_lt h_x2 (nat_in h_o3.2) hf (tgt := 94) (by decide) d_W_reckon_89 (fun hf => ?_) (fun hf => ?_)
                · refine aw_aload_n rfl rfl d_W_reckon_94 (aw_getr (r := o0 + 4) fl_W_19 h_o0 (by decide) rfl (rc_3_5 _ h_o0).1 d_W_reckon_95 (aw_iload rfl d_W_reckon_98 ?_))
                  refine ai_iald (rc_3_5 _ h_o0).2 rfl h_x6 hf d_W_reckon_100 (fun _ hf => ?_)
                  refine ai_name hf (h_I4 (o0 + 4) x6.toNat) (fun x7 h_x7 hf => ?_)
                  refine aw_istore (lv2 := [.ref o0, uu, .int (iv p2), .ref o3, .int (iv x6), .int (iv w5), .int (iv x1), .int (iv x2), .int (iv x7), uu]) (Nat.le_of_ble_eq_true rfl) rfl d_W_reckon_101 ?_
                  refine aw_aload_n rfl rfl d_W_reckon_103 (aw_getr (r := o0 + 4) fl_W_19 h_o0 (by decide) rfl (rc_3_5 _ h_o0).1 d_W_reckon_104 (aw_iload rfl d_W_reckon_107 (aw_iconst (v := iv 1) rfl d_W_reckon_109 (ai_iadd d_W_reckon_110 ?_))))
                  refine ai_name hf (wr32_in _) (fun x8 h_x8 hf => ?_)
                  refine ai_iald (rc_3_5 _ h_o0).2 rfl h_x8 hf d_W_reckon_111 (fun _ hf => ?_)
                  refine ai_name hf (h_I4 (o0 + 4) x8.toNat) (fun x9 h_x9 hf => ?_)
                  refine aw_istore (lv2 := [.ref o0, uu, .int (iv p2), .ref o3, .int (iv x6), .int (iv w5), .int (iv x1), .int (iv x2), .int (iv x7), .int (iv x9)]) (Nat.le_of_ble_eq_true rfl) rfl d_W_reckon_112 ?_
                  refine aw_iload rfl d_W_reckon_114 ?_
                  obtain ⟨k10, ek10, hf⟩ := of_zj hf
                  have hk10 : ∀  (I11 : IMem), RG I11 → k10 I11 = some r → Ai l b 1 y_W_reckon KC RC (Ps r) I11 372 [.ref o0, uu, .int (iv p2), .ref o3, .int (iv x6), .int (iv w5), uu, uu, uu, uu] [] := by
                    intro I11 h_I11 hf
                    subst ek10
                    refine ai_iinc (n := 1) (lv2 := fun x12 => [.ref o0, uu, .int (iv p2), .ref o3, .int (iv x6), .int (iv x12), uu, uu, uu, uu]) hf rfl (Nat.le_of_ble_eq_true rfl) (fun _ => rfl) d_W_reckon_372 (fun x12 h_x12 hf => ?_)
                    refine aw_goto (tgt := 6) (by decide) d_W_reckon_375 ?_
                    exact ih x6 x12 I11 h_x6 h_x12 h_I11 hf
                  rcases of_ite hf with ⟨q13, hf⟩ | ⟨q13, hf⟩
                  · refine ai_tabIn 0 h_x1 q13 (by decide) rfl (tgt := 337) (by decide) d_W_reckon_116 ?_
                    refine aw_aload_n rfl rfl d_W_reckon_337 (aw_getr (r := o0 + 4) fl_W_19 h_o0 (by decide) rfl (rc_3_5 _ h_o0).1 d_W_reckon_338 (aw_iload rfl d_W_reckon_341 (aw_iconst (v := iv 1) rfl d_W_reckon_343 (aw_iload rfl d_W_reckon_344 (ai_isub d_W_reckon_346 ?_)))))
                    refine ai_iast (rc_3_5 _ h_o0).2 rfl h_x6 (wr32_in _) h_I4 hf d_W_reckon_347 (fun _ I14 h_I14 hf => ?_)
                    refine aw_goto (tgt := 372) (by decide) d_W_reckon_348 ?_
                    refine aw_weakB (lv2 := [.ref o0, uu, .int (iv p2), .ref o3, .int (iv x6), .int (iv w5), uu, uu, uu, uu]) (wk_s (wk_u (wk_s (wk_s (wk_s (wk_s (wk_u (wk_u (wk_u (wk_u wk_n)))))))))) ?_
                    exact hk10 I14 h_I14 hf
                  rcases of_ite hf with ⟨q15, hf⟩ | ⟨q15, hf⟩
                  · refine ai_tabIn 1 h_x1 q15 (by decide) rfl (tgt := 322) (by decide) d_W_reckon_116 ?_
                    refine aw_aload_n rfl rfl d_W_reckon_322 (aw_getr (r := o0 + 4) fl_W_19 h_o0 (by decide) rfl (rc_3_5 _ h_o0).1 d_W_reckon_323 (aw_iload rfl d_W_reckon_326 (aw_iload rfl d_W_reckon_328 (aw_iload rfl d_W_reckon_330 (ai_ior d_W_reckon_332 ?_)))))
                    refine ai_iast (rc_3_5 _ h_o0).2 rfl h_x6 (wor_in _ _) h_I4 hf d_W_reckon_333 (fun _ I16 h_I16 hf => ?_)
                    refine aw_goto (tgt := 372) (by decide) d_W_reckon_334 ?_
                    refine aw_weakB (lv2 := [.ref o0, uu, .int (iv p2), .ref o3, .int (iv x6), .int (iv w5), uu, uu, uu, uu]) (wk_s (wk_u (wk_s (wk_s (wk_s (wk_s (wk_u (wk_u (wk_u (wk_u wk_n)))))))))) ?_
                    exact hk10 I16 h_I16 hf
                  rcases of_ite hf with ⟨q17, hf⟩ | ⟨q17, hf⟩
                  · refine ai_tabIn 2 h_x1 q17 (by decide) rfl (tgt := 307) (by decide) d_W_reckon_116 ?_
                    refine aw_aload_n rfl rfl d_W_reckon_307 (aw_getr (r := o0 + 4) fl_W_19 h_o0 (by decide) rfl (rc_3_5 _ h_o0).1 d_W_reckon_308 (aw_iload rfl d_W_reckon_311 (aw_iload rfl d_W_reckon_313 (aw_iload rfl d_W_reckon_315 (ai_iand d_W_reckon_317 ?_)))))
                    refine ai_iast (rc_3_5 _ h_o0).2 rfl h_x6 (wand_in _ _) h_I4 hf d_W_reckon_318 (fun _ I18 h_I18 hf => ?_)
                    refine aw_goto (tgt := 372) (by decide) d_W_reckon_319 ?_
                    refine aw_weakB (lv2 := [.ref o0, uu, .int (iv p2), .ref o3, .int (iv x6), .int (iv w5), uu, uu, uu, uu]) (wk_s (wk_u (wk_s (wk_s (wk_s (wk_s (wk_u (wk_u (wk_u (wk_u wk_n)))))))))) ?_
                    exact hk10 I18 h_I18 hf
                  rcases of_ite hf with ⟨q19, hf⟩ | ⟨q19, hf⟩
                  · refine ai_tabIn 3 h_x1 q19 (by decide) rfl (tgt := 285) (by decide) d_W_reckon_116 ?_
                    refine aw_aload_n rfl rfl d_W_reckon_285 (aw_getr (r := o0 + 4) fl_W_19 h_o0 (by decide) rfl (rc_3_5 _ h_o0).1 d_W_reckon_286 (aw_iload rfl d_W_reckon_289 (aw_iload rfl d_W_reckon_291 (aw_iload rfl d_W_reckon_293 ?_))))
                    obtain ⟨k20, ek20, hf⟩ := of_zj hf
                    have hk20 : ∀ (x22 : Int) (I21 : IMem), inr x22 → RG I21 → k20 x22 I21 = some r → Ai l b 1 y_W_reckon KC RC (Ps r) I21 303 [.ref o0, uu, .int (iv p2), .ref o3, .int (iv x6), .int (iv w5), uu, uu, uu, uu] [.int (iv x22), .int (iv x6), .ref (o0 + 4)] := by
                      intro x22 I21 h_x22 h_I21 hf
                      subst ek20
                      refine ai_iast (rc_3_5 _ h_o0).2 rfl h_x6 h_x22 h_I21 hf d_W_reckon_303 (fun _ I23 h_I23 hf => ?_)
                      refine aw_goto (tgt := 372) (by decide) d_W_reckon_304 ?_
                      exact hk10 I23 h_I23 hf
                    refine ai_icmp_le h_x7 h_x9 hf (tgt := 302) (by decide) d_W_reckon_295 (fun hf => ?_) (fun hf => ?_)
                    · refine aw_iconst (v := iv 0) rfl d_W_reckon_302 ?_
                      refine aw_weakB (lv2 := [.ref o0, uu, .int (iv p2), .ref o3, .int (iv x6), .int (iv w5), uu, uu, uu, uu]) (wk_s (wk_u (wk_s (wk_s (wk_s (wk_s (wk_u (wk_u (wk_u (wk_u wk_n)))))))))) ?_
                      exact hk20 0 I4 in_0 h_I4 hf
                    · refine aw_iconst (v := iv 1) rfl d_W_reckon_298 (aw_goto (tgt := 303) (by decide) d_W_reckon_299 ?_)
                      refine aw_weakB (lv2 := [.ref o0, uu, .int (iv p2), .ref o3, .int (iv x6), .int (iv w5), uu, uu, uu, uu]) (wk_s (wk_u (wk_s (wk_s (wk_s (wk_s (wk_u (wk_u (wk_u (wk_u wk_n)))))))))) ?_
                      exact hk20 1 I4 in_1 h_I4 hf
                  rcases of_ite hf with ⟨q24, hf⟩ | ⟨q24, hf⟩
                  · refine ai_tabIn 4 h_x1 q24 (by decide) rfl (tgt := 263) (by decide) d_W_reckon_116 ?_
                    refine aw_aload_n rfl rfl d_W_reckon_263 (aw_getr (r := o0 + 4) fl_W_19 h_o0 (by decide) rfl (rc_3_5 _ h_o0).1 d_W_reckon_264 (aw_iload rfl d_W_reckon_267 (aw_iload rfl d_W_reckon_269 (aw_iload rfl d_W_reckon_271 ?_))))
                    obtain ⟨k25, ek25, hf⟩ := of_zj hf
                    have hk25 : ∀ (x27 : Int) (I26 : IMem), inr x27 → RG I26 → k25 x27 I26 = some r → Ai l b 1 y_W_reckon KC RC (Ps r) I26 281 [.ref o0, uu, .int (iv p2), .ref o3, .int (iv x6), .int (iv w5), uu, uu, uu, uu] [.int (iv x27), .int (iv x6), .ref (o0 + 4)] := by
                      intro x27 I26 h_x27 h_I26 hf
                      subst ek25
                      refine ai_iast (rc_3_5 _ h_o0).2 rfl h_x6 h_x27 h_I26 hf d_W_reckon_281 (fun _ I28 h_I28 hf => ?_)
                      refine aw_goto (tgt := 372) (by decide) d_W_reckon_282 ?_
                      exact hk10 I28 h_I28 hf
                    refine ai_icmp_ne h_x7 h_x9 hf (tgt := 280) (by decide) d_W_reckon_273 (fun hf => ?_) (fun hf => ?_)
                    · refine aw_iconst (v := iv 0) rfl d_W_reckon_280 ?_
                      refine aw_weakB (lv2 := [.ref o0, uu, .int (iv p2), .ref o3, .int (iv x6), .int (iv w5), uu, uu, uu, uu]) (wk_s (wk_u (wk_s (wk_s (wk_s (wk_s (wk_u (wk_u (wk_u (wk_u wk_n)))))))))) ?_
                      exact hk25 0 I4 in_0 h_I4 hf
                    · refine aw_iconst (v := iv 1) rfl d_W_reckon_276 (aw_goto (tgt := 281) (by decide) d_W_reckon_277 ?_)
                      refine aw_weakB (lv2 := [.ref o0, uu, .int (iv p2), .ref o3, .int (iv x6), .int (iv w5), uu, uu, uu, uu]) (wk_s (wk_u (wk_s (wk_s (wk_s (wk_s (wk_u (wk_u (wk_u (wk_u wk_n)))))))))) ?_
                      exact hk25 1 I4 in_1 h_I4 hf
                  rcases of_ite hf with ⟨q29, hf⟩ | ⟨q29, hf⟩
                  · refine ai_tabIn 5 h_x1 q29 (by decide) rfl (tgt := 241) (by decide) d_W_reckon_116 ?_
                    refine aw_aload_n rfl rfl d_W_reckon_241 (aw_getr (r := o0 + 4) fl_W_19 h_o0 (by decide) rfl (rc_3_5 _ h_o0).1 d_W_reckon_242 (aw_iload rfl d_W_reckon_245 (aw_iload rfl d_W_reckon_247 (aw_iload rfl d_W_reckon_249 ?_))))
                    obtain ⟨k30, ek30, hf⟩ := of_zj hf
                    have hk30 : ∀ (x32 : Int) (I31 : IMem), inr x32 → RG I31 → k30 x32 I31 = some r → Ai l b 1 y_W_reckon KC RC (Ps r) I31 259 [.ref o0, uu, .int (iv p2), .ref o3, .int (iv x6), .int (iv w5), uu, uu, uu, uu] [.int (iv x32), .int (iv x6), .ref (o0 + 4)] := by
                      intro x32 I31 h_x32 h_I31 hf
                      subst ek30
                      refine ai_iast (rc_3_5 _ h_o0).2 rfl h_x6 h_x32 h_I31 hf d_W_reckon_259 (fun _ I33 h_I33 hf => ?_)
                      refine aw_goto (tgt := 372) (by decide) d_W_reckon_260 ?_
                      exact hk10 I33 h_I33 hf
                    refine ai_icmp_ge h_x7 h_x9 hf (tgt := 258) (by decide) d_W_reckon_251 (fun hf => ?_) (fun hf => ?_)
                    · refine aw_iconst (v := iv 0) rfl d_W_reckon_258 ?_
                      refine aw_weakB (lv2 := [.ref o0, uu, .int (iv p2), .ref o3, .int (iv x6), .int (iv w5), uu, uu, uu, uu]) (wk_s (wk_u (wk_s (wk_s (wk_s (wk_s (wk_u (wk_u (wk_u (wk_u wk_n)))))))))) ?_
                      exact hk30 0 I4 in_0 h_I4 hf
                    · refine aw_iconst (v := iv 1) rfl d_W_reckon_254 (aw_goto (tgt := 259) (by decide) d_W_reckon_255 ?_)
                      refine aw_weakB (lv2 := [.ref o0, uu, .int (iv p2), .ref o3, .int (iv x6), .int (iv w5), uu, uu, uu, uu]) (wk_s (wk_u (wk_s (wk_s (wk_s (wk_s (wk_u (wk_u (wk_u (wk_u wk_n)))))))))) ?_
                      exact hk30 1 I4 in_1 h_I4 hf
                  rcases of_ite hf with ⟨q34, hf⟩ | ⟨q34, hf⟩
                  · refine ai_tabIn 6 h_x1 q34 (by decide) rfl (tgt := 217) (by decide) d_W_reckon_116 ?_
                    refine aw_aload_n rfl rfl d_W_reckon_217 (aw_getr (r := o0 + 4) fl_W_19 h_o0 (by decide) rfl (rc_3_5 _ h_o0).1 d_W_reckon_218 (aw_iload rfl d_W_reckon_221 (aw_iload rfl d_W_reckon_223 ?_)))
                    obtain ⟨k35, ek35, hf⟩ := of_zj hf
                    have hk35 : ∀ (x37 : Int) (I36 : IMem), inr x37 → RG I36 → k35 x37 I36 = some r → Ai l b 1 y_W_reckon KC RC (Ps r) I36 237 [.ref o0, uu, .int (iv p2), .ref o3, .int (iv x6), .int (iv w5), uu, uu, uu, uu] [.int (iv x37), .int (iv x6), .ref (o0 + 4)] := by
                      intro x37 I36 h_x37 h_I36 hf
                      subst ek35
                      refine ai_iast (rc_3_5 _ h_o0).2 rfl h_x6 h_x37 h_I36 hf d_W_reckon_237 (fun _ I38 h_I38 hf => ?_)
                      refine aw_goto (tgt := 372) (by decide) d_W_reckon_238 ?_
                      exact hk10 I38 h_I38 hf
                    refine ai_if_ne h_x9 hf (tgt := 232) (by decide) d_W_reckon_225 (fun hf => ?_) (fun hf => ?_)
                    · refine aw_iload rfl d_W_reckon_232 (aw_iload rfl d_W_reckon_234 ?_)
                      refine ai_idiv h_x9 hf d_W_reckon_236 (fun _ hf => ?_)
                      refine aw_weakB (lv2 := [.ref o0, uu, .int (iv p2), .ref o3, .int (iv x6), .int (iv w5), uu, uu, uu, uu]) (wk_s (wk_u (wk_s (wk_s (wk_s (wk_s (wk_u (wk_u (wk_u (wk_u wk_n)))))))))) ?_
                      exact hk35 (wdiv x7 x9) I4 (wdiv_in _ _) h_I4 hf
                    · refine aw_iconst (v := iv 0) rfl d_W_reckon_228 (aw_goto (tgt := 237) (by decide) d_W_reckon_229 ?_)
                      refine aw_weakB (lv2 := [.ref o0, uu, .int (iv p2), .ref o3, .int (iv x6), .int (iv w5), uu, uu, uu, uu]) (wk_s (wk_u (wk_s (wk_s (wk_s (wk_s (wk_u (wk_u (wk_u (wk_u wk_n)))))))))) ?_
                      exact hk35 0 I4 in_0 h_I4 hf
                  rcases of_ite hf with ⟨q39, hf⟩ | ⟨q39, hf⟩
                  · refine ai_tabIn 7 h_x1 q39 (by decide) rfl (tgt := 202) (by decide) d_W_reckon_116 ?_
                    refine aw_aload_n rfl rfl d_W_reckon_202 (aw_getr (r := o0 + 4) fl_W_19 h_o0 (by decide) rfl (rc_3_5 _ h_o0).1 d_W_reckon_203 (aw_iload rfl d_W_reckon_206 (aw_iload rfl d_W_reckon_208 (aw_iload rfl d_W_reckon_210 (ai_imul d_W_reckon_212 ?_)))))
                    refine ai_iast (rc_3_5 _ h_o0).2 rfl h_x6 (wr32_in _) h_I4 hf d_W_reckon_213 (fun _ I40 h_I40 hf => ?_)
                    refine aw_goto (tgt := 372) (by decide) d_W_reckon_214 ?_
                    refine aw_weakB (lv2 := [.ref o0, uu, .int (iv p2), .ref o3, .int (iv x6), .int (iv w5), uu, uu, uu, uu]) (wk_s (wk_u (wk_s (wk_s (wk_s (wk_s (wk_u (wk_u (wk_u (wk_u wk_n)))))))))) ?_
                    exact hk10 I40 h_I40 hf
                  rcases of_ite hf with ⟨q41, hf⟩ | ⟨q41, hf⟩
                  · refine ai_tabIn 8 h_x1 q41 (by decide) rfl (tgt := 187) (by decide) d_W_reckon_116 ?_
                    refine aw_aload_n rfl rfl d_W_reckon_187 (aw_getr (r := o0 + 4) fl_W_19 h_o0 (by decide) rfl (rc_3_5 _ h_o0).1 d_W_reckon_188 (aw_iload rfl d_W_reckon_191 (aw_iload rfl d_W_reckon_193 (aw_iload rfl d_W_reckon_195 (ai_isub d_W_reckon_197 ?_)))))
                    refine ai_iast (rc_3_5 _ h_o0).2 rfl h_x6 (wr32_in _) h_I4 hf d_W_reckon_198 (fun _ I42 h_I42 hf => ?_)
                    refine aw_goto (tgt := 372) (by decide) d_W_reckon_199 ?_
                    refine aw_weakB (lv2 := [.ref o0, uu, .int (iv p2), .ref o3, .int (iv x6), .int (iv w5), uu, uu, uu, uu]) (wk_s (wk_u (wk_s (wk_s (wk_s (wk_s (wk_u (wk_u (wk_u (wk_u wk_n)))))))))) ?_
                    exact hk10 I42 h_I42 hf
                  rcases of_ite hf with ⟨q43, hf⟩ | ⟨q43, hf⟩
                  · refine ai_tabIn 9 h_x1 q43 (by decide) rfl (tgt := 172) (by decide) d_W_reckon_116 ?_
                    refine aw_aload_n rfl rfl d_W_reckon_172 (aw_getr (r := o0 + 4) fl_W_19 h_o0 (by decide) rfl (rc_3_5 _ h_o0).1 d_W_reckon_173 (aw_iload rfl d_W_reckon_176 (aw_iload rfl d_W_reckon_178 (aw_iload rfl d_W_reckon_180 (ai_iadd d_W_reckon_182 ?_)))))
                    refine ai_iast (rc_3_5 _ h_o0).2 rfl h_x6 (wr32_in _) h_I4 hf d_W_reckon_183 (fun _ I44 h_I44 hf => ?_)
                    refine aw_goto (tgt := 372) (by decide) d_W_reckon_184 ?_
                    refine aw_weakB (lv2 := [.ref o0, uu, .int (iv p2), .ref o3, .int (iv x6), .int (iv w5), uu, uu, uu, uu]) (wk_s (wk_u (wk_s (wk_s (wk_s (wk_s (wk_u (wk_u (wk_u (wk_u wk_n)))))))))) ?_
                    exact hk10 I44 h_I44 hf
                  by_cases qr : x1 < (-10) ∨ (-1) < x1
                  · refine ai_tabOut h_x1 qr (tgt := 351) (by decide) d_W_reckon_116 ?_
                    refine aw_aload_n rfl rfl d_W_reckon_351 (aw_getr (r := o0 + 4) fl_W_19 h_o0 (by decide) rfl (rc_3_5 _ h_o0).1 d_W_reckon_352 (aw_iload rfl d_W_reckon_355 (aw_iload rfl d_W_reckon_357 ?_)))
                    obtain ⟨k45, ek45, hf⟩ := of_zj hf
                    have hk45 : ∀ (x47 : Int) (I46 : IMem), inr x47 → RG I46 → k45 x47 I46 = some r → Ai l b 1 y_W_reckon KC RC (Ps r) I46 371 [.ref o0, uu, .int (iv p2), .ref o3, .int (iv x6), .int (iv w5), uu, uu, uu, uu] [.int (iv x47), .int (iv x6), .ref (o0 + 4)] := by
                      intro x47 I46 h_x47 h_I46 hf
                      subst ek45
                      refine ai_iast (rc_3_5 _ h_o0).2 rfl h_x6 h_x47 h_I46 hf d_W_reckon_371 (fun _ I48 h_I48 hf => ?_)
                      exact hk10 I48 h_I48 hf
                    refine ai_if_ge h_x2 hf (tgt := 367) (by decide) d_W_reckon_359 (fun hf => ?_) (fun hf => ?_)
                    · refine aw_aload_n rfl rfl d_W_reckon_367 (aw_iload rfl d_W_reckon_368 ?_)
                      refine ai_iald h_o3.1 rfl h_x2 hf d_W_reckon_370 (fun _ hf => ?_)
                      refine aw_weakB (lv2 := [.ref o0, uu, .int (iv p2), .ref o3, .int (iv x6), .int (iv w5), uu, uu, uu, uu]) (wk_s (wk_u (wk_s (wk_s (wk_s (wk_s (wk_u (wk_u (wk_u (wk_u wk_n)))))))))) ?_
                      exact hk45 (I4 o3 x2.toNat) I4 (h_I4 o3 x2.toNat) h_I4 hf
                    · refine aw_iload rfl d_W_reckon_362 (aw_goto (tgt := 371) (by decide) d_W_reckon_364 ?_)
                      refine aw_weakB (lv2 := [.ref o0, uu, .int (iv p2), .ref o3, .int (iv x6), .int (iv w5), uu, uu, uu, uu]) (wk_s (wk_u (wk_s (wk_s (wk_s (wk_s (wk_u (wk_u (wk_u (wk_u wk_n)))))))))) ?_
                      exact hk45 x1 I4 h_x1 h_I4 hf
                  exact absurd qr (by omega)
                · refine aw_iconst (v := iv 0) rfl d_W_reckon_92 ?_
                  exact ai_reti rfl d_W_reckon_93 hf in_0 h_I4
          refine ai_if_lt h_x1 hf (tgt := 53) (by decide) d_W_reckon_46 (fun hf => ?_) (fun hf => ?_)
          · refine aw_iload rfl d_W_reckon_53 (aw_bipush (v := iv (-10)) cb_m10 d_W_reckon_55 ?_)
            refine ai_icmp_ne h_x1 in_m10 hf (tgt := 64) (by decide) d_W_reckon_57 (fun hf => ?_) (fun hf => ?_)
            · refine aw_iconst (v := iv (-1)) rfl d_W_reckon_64 ?_
              refine aw_weakB (lv2 := [.ref o0, uu, .int (iv p2), .ref o3, uu, .int (iv w5), .int (iv x1), .int (iv x2), uu, uu]) (wk_s (wk_u (wk_s (wk_s (wk_u (wk_s (wk_s (wk_s (wk_u (wk_u wk_n)))))))))) ?_
              exact hk3 ((-1)) I0 in_m1 h_I0 hf
            · refine aw_iconst (v := iv 0) rfl d_W_reckon_60 (aw_goto (tgt := 65) (by decide) d_W_reckon_61 ?_)
              refine aw_weakB (lv2 := [.ref o0, uu, .int (iv p2), .ref o3, uu, .int (iv w5), .int (iv x1), .int (iv x2), uu, uu]) (wk_s (wk_u (wk_s (wk_s (wk_u (wk_s (wk_s (wk_s (wk_u (wk_u wk_n)))))))))) ?_
              exact hk3 0 I0 in_0 h_I0 hf
          · refine aw_iconst (v := iv 1) rfl d_W_reckon_49 (aw_goto (tgt := 65) (by decide) d_W_reckon_50 ?_)
            refine aw_weakB (lv2 := [.ref o0, uu, .int (iv p2), .ref o3, uu, .int (iv w5), .int (iv x1), .int (iv x2), uu, uu]) (wk_s (wk_u (wk_s (wk_s (wk_u (wk_s (wk_s (wk_s (wk_u (wk_u wk_n)))))))))) ?_
            exact hk3 1 I0 in_1 h_I0 hf
set_option maxRecDepth 20000 in
theorem t_W_reckon (fu : Nat) (o0 : Nat) (a1 : Int) (a2 : Int) (o3 n3 : Nat) (I0 : IMem) (hI : RG I0) (h_o0 : KC[o0]? = some (6, 6)) (h_a1 : inr a1) (h_a2 : inr a2) (h_o3 : KC[o3]? = some (0, n3) ∧ n3 < 1000000) {r : Int × IMem} (hf : f_W_reckon fu o0 a1 a2 o3 n3 I0 = some r) : Ss l b 1 y_W_reckon KC RC [.ref o0, .int (iv a1), .int (iv a2), .ref o3] (ivm I0) (Ps r) := by
  unfold f_W_reckon at hf
  refine Ss.of (show Ai l b 1 y_W_reckon KC RC (Ps r) I0 0 [.ref o0, .int (iv a1), .int (iv a2), .ref o3, uu, uu, uu, uu, uu, uu] [] from ?_)
  refine aw_iconst (v := iv (-1)) rfl d_W_reckon_0 (aw_istore (lv2 := [.ref o0, .int (iv a1), .int (iv a2), .ref o3, .int (iv ((-1))), uu, uu, uu, uu, uu]) (Nat.le_of_ble_eq_true rfl) rfl d_W_reckon_1 (aw_iload_n rfl rfl d_W_reckon_3 (aw_istore (lv2 := [.ref o0, .int (iv a1), .int (iv a2), .ref o3, .int (iv ((-1))), .int (iv a1), uu, uu, uu, uu]) (Nat.le_of_ble_eq_true rfl) rfl d_W_reckon_4 ?_)))
  refine aw_weakB (lv2 := [.ref o0, uu, .int (iv a2), .ref o3, .int (iv ((-1))), .int (iv a1), uu, uu, uu, uu]) (wk_s (wk_u (wk_s (wk_s (wk_s (wk_s (wk_u (wk_u (wk_u (wk_u wk_n)))))))))) ?_
  refine t_W_reckon_6 fu _ o0 a2 o3 n3 h_o0 h_a2 h_o3 ?_ fu ((-1)) a1 I0 in_m1 h_a1 hI hf
  · intro x50 I49 h_x50 h_I49 hf
    refine aw_iload rfl d_W_reckon_378 ?_
    refine ai_if_lt h_x50 hf (tgt := 393) (by decide) d_W_reckon_380 (fun hf => ?_) (fun hf => ?_)
    · refine aw_iconst (v := iv 0) rfl d_W_reckon_393 ?_
      exact ai_reti rfl d_W_reckon_394 hf in_0 h_I49
    · refine aw_aload_n rfl rfl d_W_reckon_383 (aw_getr (r := o0 + 4) fl_W_19 h_o0 (by decide) rfl (rc_3_5 _ h_o0).1 d_W_reckon_384 (aw_iload rfl d_W_reckon_387 ?_))
      refine ai_iald (rc_3_5 _ h_o0).2 rfl h_x50 hf d_W_reckon_389 (fun _ hf => ?_)
      refine aw_goto (tgt := 394) (by decide) d_W_reckon_390 ?_
      exact ai_reti rfl d_W_reckon_394 hf (h_I49 (o0 + 4) x50.toNat) h_I49
set_option maxRecDepth 20000 in
theorem t_W_value_2 (fu : Nat) {r : Int × IMem} (k_50 : Int → Int → IMem → Res) (o0 : Nat) (o1 n1 : Nat) (h_o0 : KC[o0]? = some (6, 6)) (h_o1 : KC[o1]? = some (0, n1) ∧ n1 < 1000000) (hk_50 : ∀ (z2 : Int) (z3 : Int) (I9 : IMem), inr z2 → inr z3 → RG I9 → k_50 z2 z3 I9 = some r → Ai l b 2 y_W_value KC RC (Ps r) I9 50 [.ref o0, .ref o1, .int (iv z2), .int (iv z3), uu] []) : ∀ (m : Nat) (w2 : Int) (I0 : IMem), inr w2 → RG I0 → f_W_value_2 fu k_50 o0 o1 n1 m w2 I0 = some r → Ai l b 2 y_W_value KC RC (Ps r) I0 2 [.ref o0, .ref o1, .int (iv w2), uu, uu] [] := by
  intro m
  induction m with
  | zero => intro w2 I0 h_w2 h_I0 hf; cases hf
  | succ m ih =>
    intro w2 I0 h_w2 h_I0 hf
    replace hf : fb_W_value_2 fu k_50 o0 o1 n1 (f_W_value_2 fu k_50 o0 o1 n1 m) w2 I0 = some r := hf
    unfold fb_W_value_2 at hf
    refine aw_iload_n rfl rfl d_W_value_2 (aw_aload_n rfl rfl d_W_value_3 (ai_geti fl_W_26 h_o0 (by decide) rfl d_W_value_4 ?_))
    refine ai_icmp_ge h_w2 (h_I0 o0 4) hf (tgt := 69) (by decide) d_W_value_7 (fun hf => ?_) (fun hf => ?_)
    · refine aw_iconst (v := iv 0) rfl d_W_value_69 ?_
      exact ai_reti rfl d_W_value_70 hf in_0 h_I0
    · refine aw_iload_n rfl rfl d_W_value_10 (aw_bipush (v := iv 16) cb_16 d_W_value_11 ?_)
      refine ai_icmp_ge h_w2 in_16 hf (tgt := 69) (by decide) d_W_value_13 (fun hf => ?_) (fun hf => ?_)
      · refine aw_iconst (v := iv 0) rfl d_W_value_69 ?_
        exact ai_reti rfl d_W_value_70 hf in_0 h_I0
      · refine aw_aload_n rfl rfl d_W_value_16 (aw_getr (r := o0 + 3) fl_W_16 h_o0 (by decide) rfl (rc_3_3 _ h_o0).1 d_W_value_17 (aw_iload_n rfl rfl d_W_value_20 ?_))
        refine ai_iald (rc_3_3 _ h_o0).2 rfl h_w2 hf d_W_value_21 (fun _ hf => ?_)
        refine ai_name hf (h_I0 (o0 + 3) w2.toNat) (fun x1 h_x1 hf => ?_)
        refine aw_istore_n (lv2 := [.ref o0, .ref o1, .int (iv w2), .int (iv x1), uu]) rfl (Nat.le_of_ble_eq_true rfl) rfl d_W_value_22 ?_
        refine aw_aload_n rfl rfl d_W_value_23 (aw_getr (r := o0 + 2) fl_W_13 h_o0 (by decide) rfl (rc_3_2 _ h_o0).1 d_W_value_24 (aw_iload_n rfl rfl d_W_value_27 (aw_iconst (v := iv 1) rfl d_W_value_28 (ai_iadd d_W_value_29 ?_))))
        refine ai_name hf (wr32_in _) (fun x2 h_x2 hf => ?_)
        refine ai_iald (rc_3_2 _ h_o0).2 rfl h_x2 hf d_W_value_30 (fun _ hf => ?_)
        refine ai_name hf (h_I0 (o0 + 2) x2.toNat) (fun x3 h_x3 hf => ?_)
        refine aw_istore (lv2 := [.ref o0, .ref o1, .int (iv w2), .int (iv x1), .int (iv x3)]) (Nat.le_of_ble_eq_true rfl) rfl d_W_value_31 ?_
        refine aw_iload_n rfl rfl d_W_value_33 (aw_iload rfl d_W_value_34 ?_)
        refine ai_icmp_eq h_x1 h_x3 hf (tgt := 50) (by decide) d_W_value_36 (fun hf => ?_) (fun hf => ?_)
        · refine aw_weakB (lv2 := [.ref o0, .ref o1, .int (iv w2), .int (iv x1), uu]) (wk_s (wk_s (wk_s (wk_s (wk_u wk_n))))) ?_
          exact hk_50 w2 x1 I0 h_w2 h_x1 h_I0 hf
        · refine aw_aload_n rfl rfl d_W_value_39 (aw_iload_n rfl rfl d_W_value_40 (aw_iload rfl d_W_value_41 (aw_aload_n rfl rfl d_W_value_43 ?_)))
          obtain ⟨y4, I5, c6, hf⟩ := of_zb hf
          refine ai_callV (as := [.int (iv x1), .int (iv x3), .ref o1]) (d' := 1) (q := ("SinglesUp$Law", zT3, 6)) mo_W_reckon lk_W_35 h_o0 rfl rfl rfl ⟨by decide, by decide⟩ rfl rfl (by decide) d_W_value_44 (t_W_reckon fu o0 x1 x3 o1 n1 I0 h_I0 h_o0 h_x1 h_x3 h_o1 c6) (fun h_y4 h_I5 => ?_)
          refine ai_if_eq h_y4 hf (tgt := 63) (by decide) d_W_value_47 (fun hf => ?_) (fun hf => ?_)
          · refine ai_iinc (n := 1) (lv2 := fun x7 => [.ref o0, .ref o1, .int (iv x7), .int (iv x1), .int (iv x3)]) hf rfl (Nat.le_of_ble_eq_true rfl) (fun _ => rfl) d_W_value_63 (fun x7 h_x7 hf => ?_)
            refine aw_goto (tgt := 2) (by decide) d_W_value_66 ?_
            refine aw_weakB (lv2 := [.ref o0, .ref o1, .int (iv x7), uu, uu]) (wk_s (wk_s (wk_s (wk_u (wk_u wk_n))))) ?_
            exact ih x7 I5 h_x7 h_I5 hf
          · refine aw_weakB (lv2 := [.ref o0, .ref o1, .int (iv w2), .int (iv x1), uu]) (wk_s (wk_s (wk_s (wk_s (wk_u wk_n))))) ?_
            exact hk_50 w2 x1 I5 h_w2 h_x1 h_I5 hf
set_option maxRecDepth 20000 in
theorem t_W_value (fu : Nat) (o0 : Nat) (o1 n1 : Nat) (I0 : IMem) (hI : RG I0) (h_o0 : KC[o0]? = some (6, 6)) (h_o1 : KC[o1]? = some (0, n1) ∧ n1 < 1000000) {r : Int × IMem} (hf : f_W_value fu o0 o1 n1 I0 = some r) : Ss l b 2 y_W_value KC RC [.ref o0, .ref o1] (ivm I0) (Ps r) := by
  unfold f_W_value at hf
  refine Ss.of (show Ai l b 2 y_W_value KC RC (Ps r) I0 0 [.ref o0, .ref o1, uu, uu, uu] [] from ?_)
  refine aw_iconst (v := iv 0) rfl d_W_value_0 (aw_istore_n (lv2 := [.ref o0, .ref o1, .int (iv 0), uu, uu]) rfl (Nat.le_of_ble_eq_true rfl) rfl d_W_value_1 ?_)
  refine t_W_value_2 fu _ o0 o1 n1 h_o0 h_o1 ?_ fu 0 I0 in_0 hI hf
  · intro x9 x10 I8 h_x9 h_x10 h_I8 hf
    refine aw_aload_n rfl rfl d_W_value_50 (aw_aload_n rfl rfl d_W_value_51 (aw_getr (r := o0 + 2) fl_W_13 h_o0 (by decide) rfl (rc_3_2 _ h_o0).1 d_W_value_52 (aw_iload_n rfl rfl d_W_value_55 ?_)))
    refine ai_iald (rc_3_2 _ h_o0).2 rfl h_x9 hf d_W_value_56 (fun _ hf => ?_)
    refine aw_iload_n rfl rfl d_W_value_57 (aw_aload_n rfl rfl d_W_value_58 ?_)
    obtain ⟨y11, I12, c13, hf⟩ := of_zb hf
    refine ai_callV (as := [.int (iv (I8 (o0 + 2) x9.toNat)), .int (iv x10), .ref o1]) (d' := 1) (q := ("SinglesUp$Law", zT3, 6)) mo_W_reckon lk_W_35 h_o0 rfl rfl rfl ⟨by decide, by decide⟩ rfl rfl (by decide) d_W_value_59 (t_W_reckon fu o0 (I8 (o0 + 2) x9.toNat) x10 o1 n1 I8 h_I8 h_o0 (h_I8 (o0 + 2) x9.toNat) h_x10 h_o1 c13) (fun h_y11 h_I12 => ?_)
    exact ai_reti rfl d_W_value_62 hf h_y11 h_I12
set_option maxRecDepth 20000 in
theorem t_H_lineFor (fu : Nat) (o0 : Nat) (a1 : Int) (a2 : Int) (I0 : IMem) (hI : RG I0) (h_o0 : KC[o0]? = some (5, 14)) (h_a1 : inr a1) (h_a2 : inr a2) {r : Int × IMem} (hf : f_H_lineFor fu o0 a1 a2 I0 = some r) : Ss l b 3 y_H_lineFor KC RC [.ref o0, .int (iv a1), .int (iv a2)] (ivm I0) (Ps r) := by
  unfold f_H_lineFor at hf
  refine Ss.of (show Ai l b 3 y_H_lineFor KC RC (Ps r) I0 0 [.ref o0, .int (iv a1), .int (iv a2)] [] from ?_)
  refine aw_aload_n rfl rfl d_H_lineFor_0 (ai_geti fl_H_46 h_o0 (by decide) rfl d_H_lineFor_1 (aw_iconst (v := iv (-1)) rfl d_H_lineFor_4 ?_))
  refine ai_icmp_eq (hI o0 11) in_m1 hf (tgt := 28) (by decide) d_H_lineFor_5 (fun hf => ?_) (fun hf => ?_)
  · refine aw_aload_n rfl rfl d_H_lineFor_28 (aw_getr (r := o0 + 13) fl_H_50 h_o0 (by decide) rfl (rc_2_12 _ h_o0).1 d_H_lineFor_29 (aw_bipush (v := iv 7) cb_7 d_H_lineFor_32 (aw_iload_n rfl rfl d_H_lineFor_34 ?_)))
    refine ai_iastc (j := 7) (rc_2_12 _ h_o0).2 (by decide) (by decide) h_a1 hI hf d_H_lineFor_35 (fun I1 h_I1 hf => ?_)
    refine aw_aload_n rfl rfl d_H_lineFor_36 (aw_getr (r := o0 + 13) fl_H_50 h_o0 (by decide) rfl (rc_2_12 _ h_o0).1 d_H_lineFor_37 (aw_bipush (v := iv 8) cb_8 d_H_lineFor_40 (aw_iload_n rfl rfl d_H_lineFor_42 ?_)))
    refine ai_iastc (j := 8) (rc_2_12 _ h_o0).2 (by decide) (by decide) h_a2 h_I1 hf d_H_lineFor_43 (fun I2 h_I2 hf => ?_)
    refine aw_aload_n rfl rfl d_H_lineFor_44 (aw_getr (r := o0 + 13) fl_H_50 h_o0 (by decide) rfl (rc_2_12 _ h_o0).1 d_H_lineFor_45 (aw_iconst (v := iv 5) rfl d_H_lineFor_48 (aw_aload_n rfl rfl d_H_lineFor_49 (aw_getr (r := o0 + 6) fl_H_33 h_o0 (by decide) rfl (rc_2_5 _ h_o0).1 d_H_lineFor_50 ?_))))
    obtain ⟨y3, I4, c5, hf⟩ := of_zb hf
    refine ai_callV (as := []) (d' := 1) (q := ("SinglesUp$Lines", zT4, 3)) mo_L_shortest lk_H_94 (rc_2_5 _ h_o0).2 rfl rfl rfl ⟨by decide, by decide⟩ rfl rfl (by decide) d_H_lineFor_53 (t_L_shortest fu (o0 + 6) I2 h_I2 (rc_2_5 _ h_o0).2 c5) (fun h_y3 h_I4 => ?_)
    refine ai_iastc (j := 5) (rc_2_12 _ h_o0).2 (by decide) (by decide) h_y3 h_I4 hf d_H_lineFor_56 (fun I6 h_I6 hf => ?_)
    refine aw_aload_n rfl rfl d_H_lineFor_57 (aw_getr (r := o0 + 13) fl_H_50 h_o0 (by decide) rfl (rc_2_12 _ h_o0).1 d_H_lineFor_58 (aw_bipush (v := iv 6) cb_6 d_H_lineFor_61 (aw_aload_n rfl rfl d_H_lineFor_63 (aw_getr (r := o0 + 6) fl_H_33 h_o0 (by decide) rfl (rc_2_5 _ h_o0).1 d_H_lineFor_64 (aw_getr (r := o0 + 8) fl_H_98 ((rc_2_5 _ h_o0).2) (by decide) rfl (rc_4_1 _ (rc_2_5 _ h_o0).2).1 d_H_lineFor_67 (aw_iconst (v := iv 0) rfl d_H_lineFor_70 (ai_ialdc (j := 0) (rc_4_1 _ (rc_2_5 _ h_o0).2).2 (by decide) (by decide) d_H_lineFor_71 ?_)))))))
    refine ai_iastc (j := 6) (rc_2_12 _ h_o0).2 (by decide) (by decide) (h_I6 (o0 + 8) 0) h_I6 hf d_H_lineFor_72 (fun I7 h_I7 hf => ?_)
    refine aw_aload_n rfl rfl d_H_lineFor_73 (aw_getr (r := o0 + 2) fl_H_17 h_o0 (by decide) rfl (rc_2_1 _ h_o0).1 d_H_lineFor_74 (aw_iconst (v := iv 4) rfl d_H_lineFor_77 (ai_aaldc (q := o0 + 35) (j := 4) (rc_2_1 _ h_o0).2 (by decide) (by decide) (la_at _ (rc_2_1 _ h_o0).2 4 (by decide)).1 d_H_lineFor_78 (aw_aload_n rfl rfl d_H_lineFor_79 (aw_getr (r := o0 + 13) fl_H_50 h_o0 (by decide) rfl (rc_2_12 _ h_o0).1 d_H_lineFor_80 ?_)))))
    obtain ⟨y8, I9, c10, hf⟩ := of_zb hf
    refine ai_callV (as := [.ref (o0 + 13)]) (d' := 2) (q := ("SinglesUp$Law", zT3, 6)) mo_W_value lk_H_101 (la_at _ (rc_2_1 _ h_o0).2 4 (by decide)).2 rfl rfl rfl ⟨by decide, by decide⟩ rfl rfl (by decide) d_H_lineFor_83 (t_W_value fu (o0 + 35) (o0 + 13) 16 I7 h_I7 (la_at _ (rc_2_1 _ h_o0).2 4 (by decide)).2 ⟨(rc_2_12 _ h_o0).2, by decide⟩ c10) (fun h_y8 h_I9 => ?_)
    exact ai_reti rfl d_H_lineFor_86 hf h_y8 h_I9
  · refine aw_iload_n rfl rfl d_H_lineFor_8 (aw_iconst (v := iv 4) rfl d_H_lineFor_9 ?_)
    refine ai_icmp_gt h_a1 in_4 hf (tgt := 26) (by decide) d_H_lineFor_10 (fun hf => ?_) (fun hf => ?_)
    · refine aw_iconst (v := iv 0) rfl d_H_lineFor_26 ?_
      exact ai_reti rfl d_H_lineFor_27 hf in_0 hI
    · refine aw_aload_n rfl rfl d_H_lineFor_13 (ai_geti fl_H_46 h_o0 (by decide) rfl d_H_lineFor_14 (aw_iload_n rfl rfl d_H_lineFor_17 (aw_iconst (v := iv 1) rfl d_H_lineFor_18 (ai_isub d_H_lineFor_19 (ai_ishr d_H_lineFor_20 (aw_iconst (v := iv 1) rfl d_H_lineFor_21 (ai_iand d_H_lineFor_22 (aw_goto (tgt := 27) (by decide) d_H_lineFor_23 ?_))))))))
      exact ai_reti rfl d_H_lineFor_27 hf (wand_in _ _) hI
set_option maxRecDepth 20000 in
theorem t_L_append (fu : Nat) (o0 : Nat) (a1 : Int) (o2 n2 : Nat) (a3 : Int) (I0 : IMem) (hI : RG I0) (h_o0 : KC[o0]? = some (7, 3)) (h_a1 : inr a1) (h_o2 : KC[o2]? = some (0, n2) ∧ n2 < 1000000) (h_a3 : inr a3) {r : Int × IMem} (hf : f_L_append fu o0 a1 o2 n2 a3 I0 = some r) : Ss l b 2 y_L_append KC RC [.ref o0, .int (iv a1), .ref o2, .int (iv a3)] (ivm I0) (Ps r) := by
  unfold f_L_append at hf
  refine Ss.of (show Ai l b 2 y_L_append KC RC (Ps r) I0 0 [.ref o0, .int (iv a1), .ref o2, .int (iv a3), uu] [] from ?_)
  refine aw_iload_n rfl rfl d_L_append_0 ?_
  obtain ⟨y1, I2, c3, hf⟩ := of_zb hf
  refine ai_callS (as := [.int (iv a1)]) (d' := 1) mo_S_isLine lk_L_33 rfl ⟨by decide, by decide⟩ rfl rfl (by decide) d_L_append_1 (t_S_isLine fu a1 I0 hI h_a1 c3) (fun h_y1 h_I2 => ?_)
  refine ai_if_eq h_y1 hf (tgt := 31) (by decide) d_L_append_4 (fun hf => ?_) (fun hf => ?_)
  · refine aw_iconst (v := iv 0) rfl d_L_append_31 ?_
    exact ai_retn rfl (nar_z (Or.inl rfl)) d_L_append_32 hf in_0 h_I2
  · refine aw_aload_n rfl rfl d_L_append_7 (aw_getr (r := o0 + 2) fl_L_15 h_o0 (by decide) rfl (rc_4_1 _ h_o0).1 d_L_append_8 (aw_iload_n rfl rfl d_L_append_11 ?_))
    refine ai_iald (rc_4_1 _ h_o0).2 rfl h_a1 hf d_L_append_12 (fun _ hf => ?_)
    refine aw_bipush (v := iv 40) cb_40 d_L_append_13 ?_
    refine ai_icmp_ge (h_I2 (o0 + 2) a1.toNat) in_40 hf (tgt := 31) (by decide) d_L_append_15 (fun hf => ?_) (fun hf => ?_)
    · refine aw_iconst (v := iv 0) rfl d_L_append_31 ?_
      exact ai_retn rfl (nar_z (Or.inl rfl)) d_L_append_32 hf in_0 h_I2
    · refine aw_iload_n rfl rfl d_L_append_18 ?_
      refine ai_if_lt h_a3 hf (tgt := 31) (by decide) d_L_append_19 (fun hf => ?_) (fun hf => ?_)
      · refine aw_iconst (v := iv 0) rfl d_L_append_31 ?_
        exact ai_retn rfl (nar_z (Or.inl rfl)) d_L_append_32 hf in_0 h_I2
      · refine aw_iload_n rfl rfl d_L_append_22 (aw_aload_n rfl rfl d_L_append_23 (ai_alen (N := n2) h_o2.1 (by decide) rfl h_o2.2 d_L_append_24 (aw_bipush (v := iv 6) cb_6 d_L_append_25 (ai_isub d_L_append_27 ?_))))
        refine ai_icmp_le h_a3 (wr32_in _) hf (tgt := 33) (by decide) d_L_append_28 (fun hf => ?_) (fun hf => ?_)
        · refine aw_iload_n rfl rfl d_L_append_33 (aw_bipush (v := iv 40) cb_40 d_L_append_34 (ai_imul d_L_append_36 (aw_aload_n rfl rfl d_L_append_37 (aw_getr (r := o0 + 2) fl_L_15 h_o0 (by decide) rfl (rc_4_1 _ h_o0).1 d_L_append_38 (aw_iload_n rfl rfl d_L_append_41 ?_)))))
          refine ai_iald (rc_4_1 _ h_o0).2 rfl h_a1 hf d_L_append_42 (fun _ hf => ?_)
          refine ai_iadd d_L_append_43 ?_
          refine ai_name hf (wr32_in _) (fun x4 h_x4 hf => ?_)
          refine aw_istore (lv2 := [.ref o0, .int (iv a1), .ref o2, .int (iv a3), .int (iv x4)]) (Nat.le_of_ble_eq_true rfl) rfl d_L_append_44 ?_
          refine aw_aload_n rfl rfl d_L_append_46 (aw_iload_n rfl rfl d_L_append_47 (aw_aload_n rfl rfl d_L_append_48 (aw_getr (r := o0 + 1) fl_L_9 h_o0 (by decide) rfl (rc_4_0 _ h_o0).1 d_L_append_49 (aw_iload rfl d_L_append_52 (aw_bipush (v := iv 6) cb_6 d_L_append_54 (ai_imul d_L_append_56 (aw_bipush (v := iv 6) cb_6 d_L_append_57 ?_)))))))
          refine ai_copy lka_L_27 ac_nat ac_sta ac_ini h_o2.1 (rc_4_0 _ h_o0).2 rfl rfl h_a3 (wr32_in _) in_6 h_I2 (by decide) rfl hf d_L_append_59 (fun I5 h_I5 hf => ?_)
          refine aw_aload_n rfl rfl d_L_append_62 (aw_getr (r := o0 + 2) fl_L_15 h_o0 (by decide) rfl (rc_4_1 _ h_o0).1 d_L_append_63 (aw_iload_n rfl rfl d_L_append_66 (aw_dup2 rfl rfl d_L_append_67 ?_)))
          refine ai_iald (rc_4_1 _ h_o0).2 rfl h_a1 hf d_L_append_68 (fun _ hf => ?_)
          refine aw_iconst (v := iv 1) rfl d_L_append_69 (ai_iadd d_L_append_70 ?_)
          refine ai_iast (rc_4_1 _ h_o0).2 rfl h_a1 (wr32_in _) h_I5 hf d_L_append_71 (fun _ I6 h_I6 hf => ?_)
          refine aw_iconst (v := iv 1) rfl d_L_append_72 ?_
          exact ai_retn rfl (nar_z (Or.inr rfl)) d_L_append_73 hf in_1 h_I6
        · refine aw_iconst (v := iv 0) rfl d_L_append_31 ?_
          exact ai_retn rfl (nar_z (Or.inl rfl)) d_L_append_32 hf in_0 h_I2
set_option maxRecDepth 20000 in
theorem t_H_enter (fu : Nat) (o0 : Nat) (a1 : Int) (a2 : Int) (a3 : Int) (I0 : IMem) (hI : RG I0) (h_o0 : KC[o0]? = some (5, 14)) (h_a1 : inr a1) (h_a2 : inr a2) (h_a3 : inr a3) {r : Int × IMem} (hf : f_H_enter fu o0 a1 a2 a3 I0 = some r) : Ss l b 4 y_H_enter KC RC [.ref o0, .int (iv a1), .int (iv a2), .int (iv a3)] (ivm I0) (Ps r) := by
  unfold f_H_enter at hf
  refine Ss.of (show Ai l b 4 y_H_enter KC RC (Ps r) I0 0 [.ref o0, .int (iv a1), .int (iv a2), .int (iv a3), uu] [] from ?_)
  refine aw_aload_n rfl rfl d_H_enter_0 (aw_getr (r := o0 + 14) fl_H_53 h_o0 (by decide) rfl (rc_2_13 _ h_o0).1 d_H_enter_1 (aw_iconst (v := iv 0) rfl d_H_enter_4 (aw_aload_n rfl rfl d_H_enter_5 (ai_geti fl_H_73 h_o0 (by decide) rfl d_H_enter_6 ?_))))
  refine ai_iastc (j := 0) (rc_2_13 _ h_o0).2 (by decide) (by decide) (hI o0 7) hI hf d_H_enter_9 (fun I1 h_I1 hf => ?_)
  refine aw_aload_n rfl rfl d_H_enter_10 (aw_getr (r := o0 + 14) fl_H_53 h_o0 (by decide) rfl (rc_2_13 _ h_o0).1 d_H_enter_11 (aw_iconst (v := iv 1) rfl d_H_enter_14 (aw_iload_n rfl rfl d_H_enter_15 ?_)))
  refine ai_iastc (j := 1) (rc_2_13 _ h_o0).2 (by decide) (by decide) h_a1 h_I1 hf d_H_enter_16 (fun I2 h_I2 hf => ?_)
  refine aw_aload_n rfl rfl d_H_enter_17 (aw_getr (r := o0 + 14) fl_H_53 h_o0 (by decide) rfl (rc_2_13 _ h_o0).1 d_H_enter_18 (aw_iconst (v := iv 2) rfl d_H_enter_21 (aw_iload_n rfl rfl d_H_enter_22 ?_)))
  refine ai_iastc (j := 2) (rc_2_13 _ h_o0).2 (by decide) (by decide) h_a2 h_I2 hf d_H_enter_23 (fun I3 h_I3 hf => ?_)
  refine aw_aload_n rfl rfl d_H_enter_24 (aw_getr (r := o0 + 14) fl_H_53 h_o0 (by decide) rfl (rc_2_13 _ h_o0).1 d_H_enter_25 (aw_iconst (v := iv 3) rfl d_H_enter_28 (aw_iload_n rfl rfl d_H_enter_29 ?_)))
  refine ai_iastc (j := 3) (rc_2_13 _ h_o0).2 (by decide) (by decide) h_a3 h_I3 hf d_H_enter_30 (fun I4 h_I4 hf => ?_)
  refine aw_aload_n rfl rfl d_H_enter_31 (aw_dup rfl d_H_enter_32 (ai_geti fl_H_73 h_o0 (by decide) rfl d_H_enter_33 (aw_iconst (v := iv 1) rfl d_H_enter_36 (ai_iadd d_H_enter_37 ?_))))
  refine ai_puti hf h_I4 (wr32_in _) fl_H_73 h_o0 (by decide) rfl rfl rfl rfl d_H_enter_38 (fun I5 h_I5 hf => ?_)
  refine aw_aload_n rfl rfl d_H_enter_41 (aw_iload_n rfl rfl d_H_enter_42 (aw_iload_n rfl rfl d_H_enter_43 ?_))
  obtain ⟨y6, I7, c8, hf⟩ := of_zb hf
  refine ai_callV (as := [.int (iv a2), .int (iv a3)]) (d' := 3) (q := ("SinglesUp$Hill", zT2, 14)) mo_H_lineFor lk_H_86 h_o0 rfl rfl rfl ⟨by decide, by decide⟩ rfl rfl (by decide) d_H_enter_44 (t_H_lineFor fu o0 a2 a3 I5 h_I5 h_o0 h_a2 h_a3 c8) (fun h_y6 h_I7 => ?_)
  refine aw_istore (lv2 := [.ref o0, .int (iv a1), .int (iv a2), .int (iv a3), .int (iv y6)]) (Nat.le_of_ble_eq_true rfl) rfl d_H_enter_47 (aw_aload_n rfl rfl d_H_enter_49 (aw_getr (r := o0 + 6) fl_H_33 h_o0 (by decide) rfl (rc_2_5 _ h_o0).1 d_H_enter_50 (aw_iload rfl d_H_enter_53 (aw_aload_n rfl rfl d_H_enter_55 (aw_getr (r := o0 + 14) fl_H_53 h_o0 (by decide) rfl (rc_2_13 _ h_o0).1 d_H_enter_56 (aw_iconst (v := iv 0) rfl d_H_enter_59 ?_))))))
  obtain ⟨y9, I10, c11, hf⟩ := of_zb hf
  refine ai_callV (as := [.int (iv y6), .ref (o0 + 14), .int (iv 0)]) (d' := 2) (q := ("SinglesUp$Lines", zT4, 3)) mo_L_append lk_H_90 (rc_2_5 _ h_o0).2 rfl rfl rfl ⟨by decide, by decide⟩ rfl rfl (by decide) d_H_enter_60 (t_L_append fu (o0 + 6) y6 (o0 + 14) 6 0 I7 h_I7 (rc_2_5 _ h_o0).2 h_y6 ⟨(rc_2_13 _ h_o0).2, by decide⟩ in_0 c11) (fun h_y9 h_I10 => ?_)
  refine ai_if_eq h_y9 hf (tgt := 69) (by decide) d_H_enter_63 (fun hf => ?_) (fun hf => ?_)
  · refine aw_aload_n rfl rfl d_H_enter_69 (aw_getr (r := o0 + 10) fl_H_37 h_o0 (by decide) rfl (rc_2_8 _ h_o0).1 d_H_enter_70 (aw_bipush (v := iv 6) cb_6 d_H_enter_73 (aw_dup2 rfl rfl d_H_enter_75 (ai_ialdc (j := 6) (rc_2_8 _ h_o0).2 (by decide) (by decide) d_H_enter_76 (aw_iconst (v := iv 1) rfl d_H_enter_77 (ai_iadd d_H_enter_78 ?_))))))
    refine ai_iastc (j := 6) (rc_2_8 _ h_o0).2 (by decide) (by decide) (wr32_in _) h_I10 hf d_H_enter_79 (fun I12 h_I12 hf => ?_)
    refine aw_iconst (v := iv (-1)) rfl d_H_enter_80 ?_
    exact ai_reti rfl d_H_enter_81 hf in_m1 h_I12
  · refine aw_iload rfl d_H_enter_66 ?_
    exact ai_reti rfl d_H_enter_68 hf h_y6 h_I10
set_option maxRecDepth 20000 in
theorem t_S_come (fu : Nat) (o0 : Nat) (a1 : Int) (a2 : Int) (a3 : Int) (I0 : IMem) (hI : RG I0) (h_o0 : KC[o0]? = some (11, 9)) (h_a1 : inr a1) (h_a2 : inr a2) (h_a3 : inr a3) {r : Int × IMem} (hf : f_S_come fu o0 a1 a2 a3 I0 = some r) : Ss l b 5 y_S_come KC RC [.ref o0, .int (iv a1), .int (iv a2), .int (iv a3)] (ivm I0) (Ps r) := by
  unfold f_S_come at hf
  refine Ss.of (show Ai l b 5 y_S_come KC RC (Ps r) I0 0 [.ref o0, .int (iv a1), .int (iv a2), .int (iv a3)] [] from ?_)
  refine aw_iload_n rfl rfl d_S_come_0 (aw_iload_n rfl rfl d_S_come_1 (aw_iload_n rfl rfl d_S_come_2 ?_))
  obtain ⟨y1, I2, c3, hf⟩ := of_zb hf
  refine ai_callS (as := [.int (iv a1), .int (iv a2), .int (iv a3)]) (d' := 1) mo_S_canBe lk_S_89 rfl ⟨by decide, by decide⟩ rfl rfl (by decide) d_S_come_3 (t_S_canBe fu a1 a2 a3 I0 hI h_a1 h_a2 h_a3 c3) (fun h_y1 h_I2 => ?_)
  refine ai_if_eq h_y1 hf (tgt := 22) (by decide) d_S_come_6 (fun hf => ?_) (fun hf => ?_)
  · refine aw_bipush (v := iv (-2)) cb_m2 d_S_come_22 ?_
    exact ai_reti rfl d_S_come_24 hf in_m2 h_I2
  · refine aw_aload_n rfl rfl d_S_come_9 (aw_getr (r := o0 + 1) fl_S_12 h_o0 (by decide) rfl (rc_8_0 _ h_o0).1 d_S_come_10 (aw_iload_n rfl rfl d_S_come_13 (aw_iload_n rfl rfl d_S_come_14 (aw_iload_n rfl rfl d_S_come_15 ?_))))
    obtain ⟨y4, I5, c6, hf⟩ := of_zb hf
    refine ai_callV (as := [.int (iv a1), .int (iv a2), .int (iv a3)]) (d' := 4) (q := ("SinglesUp$Hill", zT2, 14)) mo_H_enter lk_S_139 (rc_8_0 _ h_o0).2 rfl rfl rfl ⟨by decide, by decide⟩ rfl rfl (by decide) d_S_come_16 (t_H_enter fu (o0 + 1) a1 a2 a3 I2 h_I2 (rc_8_0 _ h_o0).2 h_a1 h_a2 h_a3 c6) (fun h_y4 h_I5 => ?_)
    refine aw_goto (tgt := 24) (by decide) d_S_come_19 ?_
    exact ai_reti rfl d_S_come_24 hf h_y4 h_I5
set_option maxRecDepth 20000 in
theorem t_H_lawInForce (fu : Nat) (o0 : Nat) (I0 : IMem) (hI : RG I0) (h_o0 : KC[o0]? = some (5, 14)) {r : Int × IMem} (hf : f_H_lawInForce fu o0 I0 = some r) : Ss l b 1 y_H_lawInForce KC RC [.ref o0] (ivm I0) (Pr KC (6, 6) r) := by
  unfold f_H_lawInForce at hf
  refine Ss.of (show Ai l b 1 y_H_lawInForce KC RC (Pr KC (6, 6) r) I0 0 [.ref o0, uu] [] from ?_)
  refine aw_aload_n rfl rfl d_H_lawInForce_0 (aw_getr (r := o0 + 1) fl_H_9 h_o0 (by decide) rfl (rc_2_0 _ h_o0).1 d_H_lawInForce_1 (aw_iconst (v := iv 5) rfl d_H_lawInForce_4 (ai_ialdc (j := 5) (rc_2_0 _ h_o0).2 (by decide) (by decide) d_H_lawInForce_5 ?_)))
  refine ai_name hf (hI (o0 + 1) 5) (fun x1 h_x1 hf => ?_)
  refine aw_istore_n (lv2 := [.ref o0, .int (iv x1)]) rfl (Nat.le_of_ble_eq_true rfl) rfl d_H_lawInForce_6 ?_
  refine aw_aload_n rfl rfl d_H_lawInForce_7 (aw_getr (r := o0 + 2) fl_H_17 h_o0 (by decide) rfl (rc_2_1 _ h_o0).1 d_H_lawInForce_8 (aw_iload_n rfl rfl d_H_lawInForce_11 ?_))
  refine ai_if_lt h_x1 hf (tgt := 24) (by decide) d_H_lawInForce_12 (fun hf => ?_) (fun hf => ?_)
  · refine aw_iconst (v := iv 0) rfl d_H_lawInForce_24 (ai_aaldc (q := o0 + 15) (j := 0) (rc_2_1 _ h_o0).2 (by decide) (by decide) (la_at _ (rc_2_1 _ h_o0).2 0 (by decide)).1 d_H_lawInForce_25 ?_)
    exact ai_reta rfl d_H_lawInForce_26 (la_at _ (rc_2_1 _ h_o0).2 0 (by decide)).2 hf hI
  · refine aw_iload_n rfl rfl d_H_lawInForce_15 (aw_iconst (v := iv 4) rfl d_H_lawInForce_16 ?_)
    refine ai_icmp_ge h_x1 in_4 hf (tgt := 24) (by decide) d_H_lawInForce_17 (fun hf => ?_) (fun hf => ?_)
    · refine aw_iconst (v := iv 0) rfl d_H_lawInForce_24 (ai_aaldc (q := o0 + 15) (j := 0) (rc_2_1 _ h_o0).2 (by decide) (by decide) (la_at _ (rc_2_1 _ h_o0).2 0 (by decide)).1 d_H_lawInForce_25 ?_)
      exact ai_reta rfl d_H_lawInForce_26 (la_at _ (rc_2_1 _ h_o0).2 0 (by decide)).2 hf hI
    · refine aw_iload_n rfl rfl d_H_lawInForce_20 (aw_goto (tgt := 25) (by decide) d_H_lawInForce_21 ?_)
      refine ai_aald (q := o0 + 15 + 5 * x1.toNat) (rc_2_1 _ h_o0).2 rfl h_x1 hf (fun g => (la_at _ (rc_2_1 _ h_o0).2 x1.toNat (by omega)).1) d_H_lawInForce_25 (fun g2 hf => ?_)
      exact ai_reta rfl d_H_lawInForce_26 (la_at _ (rc_2_1 _ h_o0).2 x1.toNat (by omega)).2 hf hI
set_option maxRecDepth 20000 in
theorem t_L_countOf (fu : Nat) (o0 : Nat) (a1 : Int) (I0 : IMem) (hI : RG I0) (h_o0 : KC[o0]? = some (7, 3)) (h_a1 : inr a1) {r : Int × IMem} (hf : f_L_countOf fu o0 a1 I0 = some r) : Ss l b 2 y_L_countOf KC RC [.ref o0, .int (iv a1)] (ivm I0) (Ps r) := by
  unfold f_L_countOf at hf
  refine Ss.of (show Ai l b 2 y_L_countOf KC RC (Ps r) I0 0 [.ref o0, .int (iv a1)] [] from ?_)
  refine aw_iload_n rfl rfl d_L_countOf_0 ?_
  obtain ⟨y1, I2, c3, hf⟩ := of_zb hf
  refine ai_callS (as := [.int (iv a1)]) (d' := 1) mo_S_isLine lk_L_33 rfl ⟨by decide, by decide⟩ rfl rfl (by decide) d_L_countOf_1 (t_S_isLine fu a1 I0 hI h_a1 c3) (fun h_y1 h_I2 => ?_)
  refine ai_if_eq h_y1 hf (tgt := 21) (by decide) d_L_countOf_4 (fun hf => ?_) (fun hf => ?_)
  · refine aw_iconst (v := iv 0) rfl d_L_countOf_21 ?_
    exact ai_reti rfl d_L_countOf_22 hf in_0 h_I2
  · refine aw_aload_n rfl rfl d_L_countOf_7 (aw_getr (r := o0 + 2) fl_L_15 h_o0 (by decide) rfl (rc_4_1 _ h_o0).1 d_L_countOf_8 (aw_iload_n rfl rfl d_L_countOf_11 ?_))
    refine ai_iald (rc_4_1 _ h_o0).2 rfl h_a1 hf d_L_countOf_12 (fun _ hf => ?_)
    refine aw_bipush (v := iv 40) cb_40 d_L_countOf_13 ?_
    obtain ⟨y4, I5, c6, hf⟩ := of_zb hf
    refine ai_callS (as := [.int (iv (I2 (o0 + 2) a1.toNat)), .int (iv 40)]) (d' := 1) mo_JM_min lk_L_37 rfl ⟨by decide, by decide⟩ rfl rfl (by decide) d_L_countOf_15 (t_JM_min fu (I2 (o0 + 2) a1.toNat) 40 I2 h_I2 (h_I2 (o0 + 2) a1.toNat) in_40 c6) (fun h_y4 h_I5 => ?_)
    refine aw_goto (tgt := 22) (by decide) d_L_countOf_18 ?_
    exact ai_reti rfl d_L_countOf_22 hf h_y4 h_I5
set_option maxRecDepth 20000 in
theorem t_L_get (fu : Nat) (o0 : Nat) (a1 : Int) (a2 : Int) (I0 : IMem) (hI : RG I0) (h_o0 : KC[o0]? = some (7, 3)) (h_a1 : inr a1) (h_a2 : inr a2) {r : Int × IMem} (hf : f_L_get fu o0 a1 a2 I0 = some r) : Ss l b 1 y_L_get KC RC [.ref o0, .int (iv a1), .int (iv a2)] (ivm I0) (Ps r) := by
  unfold f_L_get at hf
  refine Ss.of (show Ai l b 1 y_L_get KC RC (Ps r) I0 0 [.ref o0, .int (iv a1), .int (iv a2), uu] [] from ?_)
  refine aw_iload_n rfl rfl d_L_get_0 (aw_bipush (v := iv 6) cb_6 d_L_get_1 (ai_imul d_L_get_3 (aw_iload_n rfl rfl d_L_get_4 (ai_iadd d_L_get_5 ?_))))
  refine ai_name hf (wr32_in _) (fun x1 h_x1 hf => ?_)
  refine aw_istore_n (lv2 := [.ref o0, .int (iv a1), .int (iv a2), .int (iv x1)]) rfl (Nat.le_of_ble_eq_true rfl) rfl d_L_get_6 ?_
  refine aw_iload_n rfl rfl d_L_get_7 ?_
  refine ai_if_lt h_x1 hf (tgt := 29) (by decide) d_L_get_8 (fun hf => ?_) (fun hf => ?_)
  · refine aw_iconst (v := iv 0) rfl d_L_get_29 ?_
    exact ai_reti rfl d_L_get_30 hf in_0 hI
  · refine aw_iload_n rfl rfl d_L_get_11 (aw_aload_n rfl rfl d_L_get_12 (aw_getr (r := o0 + 1) fl_L_9 h_o0 (by decide) rfl (rc_4_0 _ h_o0).1 d_L_get_13 (ai_alen (N := 1440) (rc_4_0 _ h_o0).2 (by decide) rfl (by decide) d_L_get_16 ?_)))
    refine ai_icmp_ge h_x1 in_1440 hf (tgt := 29) (by decide) d_L_get_17 (fun hf => ?_) (fun hf => ?_)
    · refine aw_iconst (v := iv 0) rfl d_L_get_29 ?_
      exact ai_reti rfl d_L_get_30 hf in_0 hI
    · refine aw_aload_n rfl rfl d_L_get_20 (aw_getr (r := o0 + 1) fl_L_9 h_o0 (by decide) rfl (rc_4_0 _ h_o0).1 d_L_get_21 (aw_iload_n rfl rfl d_L_get_24 ?_))
      refine ai_iald (rc_4_0 _ h_o0).2 rfl h_x1 hf d_L_get_25 (fun _ hf => ?_)
      refine aw_goto (tgt := 30) (by decide) d_L_get_26 ?_
      exact ai_reti rfl d_L_get_30 hf (hI (o0 + 1) x1.toNat) hI
set_option maxRecDepth 20000 in
theorem t_H_weigh (fu : Nat) (o0 : Nat) (a1 : Int) (a2 : Int) (a3 : Int) (I0 : IMem) (hI : RG I0) (h_o0 : KC[o0]? = some (5, 14)) (h_a1 : inr a1) (h_a2 : inr a2) (h_a3 : inr a3) {r : Int × IMem} (hf : f_H_weigh fu o0 a1 a2 a3 I0 = some r) : Ss l b 3 y_H_weigh KC RC [.ref o0, .int (iv a1), .int (iv a2), .int (iv a3)] (ivm I0) (Pv r) := by
  unfold f_H_weigh at hf
  refine Ss.of (show Ai l b 3 y_H_weigh KC RC (Pv r) I0 0 [.ref o0, .int (iv a1), .int (iv a2), .int (iv a3), uu, uu] [] from ?_)
  refine aw_iload_n rfl rfl d_H_weigh_0 (aw_bipush (v := iv 40) cb_40 d_H_weigh_1 (ai_idivc in_40 (by decide) d_H_weigh_3 ?_))
  refine ai_name hf (wdiv_in _ _) (fun x1 h_x1 hf => ?_)
  refine aw_istore (lv2 := [.ref o0, .int (iv a1), .int (iv a2), .int (iv a3), .int (iv x1), uu]) (Nat.le_of_ble_eq_true rfl) rfl d_H_weigh_4 ?_
  refine aw_iload_n rfl rfl d_H_weigh_6 (aw_bipush (v := iv 40) cb_40 d_H_weigh_7 (ai_iremc in_40 (by decide) d_H_weigh_9 ?_))
  refine ai_name hf (wrem_in _ _) (fun x2 h_x2 hf => ?_)
  refine aw_istore (lv2 := [.ref o0, .int (iv a1), .int (iv a2), .int (iv a3), .int (iv x1), .int (iv x2)]) (Nat.le_of_ble_eq_true rfl) rfl d_H_weigh_10 ?_
  refine aw_aload_n rfl rfl d_H_weigh_12 (aw_getr (r := o0 + 13) fl_H_50 h_o0 (by decide) rfl (rc_2_12 _ h_o0).1 d_H_weigh_13 (aw_bipush (v := iv 7) cb_7 d_H_weigh_16 (aw_aload_n rfl rfl d_H_weigh_18 (aw_getr (r := o0 + 6) fl_H_33 h_o0 (by decide) rfl (rc_2_5 _ h_o0).1 d_H_weigh_19 (aw_iload_n rfl rfl d_H_weigh_22 (aw_iconst (v := iv 2) rfl d_H_weigh_23 ?_))))))
  obtain ⟨y3, I4, c5, hf⟩ := of_zb hf
  refine ai_callV (as := [.int (iv a1), .int (iv 2)]) (d' := 1) (q := ("SinglesUp$Lines", zT4, 3)) mo_L_get lk_H_105 (rc_2_5 _ h_o0).2 rfl rfl rfl ⟨by decide, by decide⟩ rfl rfl (by decide) d_H_weigh_24 (t_L_get fu (o0 + 6) a1 2 I0 hI (rc_2_5 _ h_o0).2 h_a1 in_2 c5) (fun h_y3 h_I4 => ?_)
  refine ai_iastc (j := 7) (rc_2_12 _ h_o0).2 (by decide) (by decide) h_y3 h_I4 hf d_H_weigh_27 (fun I6 h_I6 hf => ?_)
  refine aw_aload_n rfl rfl d_H_weigh_28 (aw_getr (r := o0 + 13) fl_H_50 h_o0 (by decide) rfl (rc_2_12 _ h_o0).1 d_H_weigh_29 (aw_bipush (v := iv 9) cb_9 d_H_weigh_32 (aw_iload_n rfl rfl d_H_weigh_34 ?_)))
  refine ai_iastc (j := 9) (rc_2_12 _ h_o0).2 (by decide) (by decide) h_a2 h_I6 hf d_H_weigh_35 (fun I7 h_I7 hf => ?_)
  refine aw_aload_n rfl rfl d_H_weigh_36 (aw_getr (r := o0 + 13) fl_H_50 h_o0 (by decide) rfl (rc_2_12 _ h_o0).1 d_H_weigh_37 (aw_bipush (v := iv 10) cb_10 d_H_weigh_40 (aw_iload rfl d_H_weigh_42 ?_)))
  refine ai_iastc (j := 10) (rc_2_12 _ h_o0).2 (by decide) (by decide) h_x2 h_I7 hf d_H_weigh_44 (fun I8 h_I8 hf => ?_)
  refine aw_aload_n rfl rfl d_H_weigh_45 (aw_getr (r := o0 + 13) fl_H_50 h_o0 (by decide) rfl (rc_2_12 _ h_o0).1 d_H_weigh_46 (aw_bipush (v := iv 11) cb_11 d_H_weigh_49 (aw_iload rfl d_H_weigh_51 ?_)))
  refine ai_iastc (j := 11) (rc_2_12 _ h_o0).2 (by decide) (by decide) h_x1 h_I8 hf d_H_weigh_53 (fun I9 h_I9 hf => ?_)
  refine aw_aload_n rfl rfl d_H_weigh_54 (aw_getr (r := o0 + 13) fl_H_50 h_o0 (by decide) rfl (rc_2_12 _ h_o0).1 d_H_weigh_55 (aw_bipush (v := iv 12) cb_12 d_H_weigh_58 (aw_aload_n rfl rfl d_H_weigh_60 (aw_getr (r := o0 + 6) fl_H_33 h_o0 (by decide) rfl (rc_2_5 _ h_o0).1 d_H_weigh_61 (aw_iload_n rfl rfl d_H_weigh_64 (aw_iconst (v := iv 5) rfl d_H_weigh_65 ?_))))))
  obtain ⟨y10, I11, c12, hf⟩ := of_zb hf
  refine ai_callV (as := [.int (iv a1), .int (iv 5)]) (d' := 1) (q := ("SinglesUp$Lines", zT4, 3)) mo_L_get lk_H_105 (rc_2_5 _ h_o0).2 rfl rfl rfl ⟨by decide, by decide⟩ rfl rfl (by decide) d_H_weigh_66 (t_L_get fu (o0 + 6) a1 5 I9 h_I9 (rc_2_5 _ h_o0).2 h_a1 in_5 c12) (fun h_y10 h_I11 => ?_)
  refine ai_iastc (j := 12) (rc_2_12 _ h_o0).2 (by decide) (by decide) h_y10 h_I11 hf d_H_weigh_69 (fun I13 h_I13 hf => ?_)
  refine aw_aload_n rfl rfl d_H_weigh_70 (aw_getr (r := o0 + 13) fl_H_50 h_o0 (by decide) rfl (rc_2_12 _ h_o0).1 d_H_weigh_71 (aw_bipush (v := iv 13) cb_13 d_H_weigh_74 (aw_aload_n rfl rfl d_H_weigh_76 (aw_getr (r := o0 + 6) fl_H_33 h_o0 (by decide) rfl (rc_2_5 _ h_o0).1 d_H_weigh_77 (aw_iload_n rfl rfl d_H_weigh_80 (aw_iconst (v := iv 4) rfl d_H_weigh_81 ?_))))))
  obtain ⟨y14, I15, c16, hf⟩ := of_zb hf
  refine ai_callV (as := [.int (iv a1), .int (iv 4)]) (d' := 1) (q := ("SinglesUp$Lines", zT4, 3)) mo_L_get lk_H_105 (rc_2_5 _ h_o0).2 rfl rfl rfl ⟨by decide, by decide⟩ rfl rfl (by decide) d_H_weigh_82 (t_L_get fu (o0 + 6) a1 4 I13 h_I13 (rc_2_5 _ h_o0).2 h_a1 in_4 c16) (fun h_y14 h_I15 => ?_)
  refine ai_iastc (j := 13) (rc_2_12 _ h_o0).2 (by decide) (by decide) h_y14 h_I15 hf d_H_weigh_85 (fun I17 h_I17 hf => ?_)
  refine aw_aload_n rfl rfl d_H_weigh_86 (aw_getr (r := o0 + 13) fl_H_50 h_o0 (by decide) rfl (rc_2_12 _ h_o0).1 d_H_weigh_87 (aw_bipush (v := iv 8) cb_8 d_H_weigh_90 (aw_aload_n rfl rfl d_H_weigh_92 (aw_getr (r := o0 + 6) fl_H_33 h_o0 (by decide) rfl (rc_2_5 _ h_o0).1 d_H_weigh_93 (aw_iload_n rfl rfl d_H_weigh_96 (aw_iconst (v := iv 3) rfl d_H_weigh_97 ?_))))))
  obtain ⟨y18, I19, c20, hf⟩ := of_zb hf
  refine ai_callV (as := [.int (iv a1), .int (iv 3)]) (d' := 1) (q := ("SinglesUp$Lines", zT4, 3)) mo_L_get lk_H_105 (rc_2_5 _ h_o0).2 rfl rfl rfl ⟨by decide, by decide⟩ rfl rfl (by decide) d_H_weigh_98 (t_L_get fu (o0 + 6) a1 3 I17 h_I17 (rc_2_5 _ h_o0).2 h_a1 in_3 c20) (fun h_y18 h_I19 => ?_)
  refine ai_iastc (j := 8) (rc_2_12 _ h_o0).2 (by decide) (by decide) h_y18 h_I19 hf d_H_weigh_101 (fun I21 h_I21 hf => ?_)
  refine aw_aload_n rfl rfl d_H_weigh_102 (aw_getr (r := o0 + 13) fl_H_50 h_o0 (by decide) rfl (rc_2_12 _ h_o0).1 d_H_weigh_103 (aw_bipush (v := iv 14) cb_14 d_H_weigh_106 (aw_iload_n rfl rfl d_H_weigh_108 ?_)))
  refine ai_iastc (j := 14) (rc_2_12 _ h_o0).2 (by decide) (by decide) h_a3 h_I21 hf d_H_weigh_109 (fun I22 h_I22 hf => ?_)
  refine aw_aload_n rfl rfl d_H_weigh_110 (aw_getr (r := o0 + 13) fl_H_50 h_o0 (by decide) rfl (rc_2_12 _ h_o0).1 d_H_weigh_111 (aw_bipush (v := iv 15) cb_15 d_H_weigh_114 (aw_aload_n rfl rfl d_H_weigh_116 (aw_getr (r := o0 + 6) fl_H_33 h_o0 (by decide) rfl (rc_2_5 _ h_o0).1 d_H_weigh_117 (aw_iload rfl d_H_weigh_120 ?_)))))
  obtain ⟨y23, I24, c25, hf⟩ := of_zb hf
  refine ai_callV (as := [.int (iv x1)]) (d' := 2) (q := ("SinglesUp$Lines", zT4, 3)) mo_L_countOf lk_H_108 (rc_2_5 _ h_o0).2 rfl rfl rfl ⟨by decide, by decide⟩ rfl rfl (by decide) d_H_weigh_122 (t_L_countOf fu (o0 + 6) x1 I22 h_I22 (rc_2_5 _ h_o0).2 h_x1 c25) (fun h_y23 h_I24 => ?_)
  refine aw_iload rfl d_H_weigh_125 (ai_isub d_H_weigh_127 (aw_iconst (v := iv 1) rfl d_H_weigh_128 (ai_isub d_H_weigh_129 ?_)))
  refine ai_iastc (j := 15) (rc_2_12 _ h_o0).2 (by decide) (by decide) (wr32_in _) h_I24 hf d_H_weigh_130 (fun I26 h_I26 hf => ?_)
  exact ai_retv rfl d_H_weigh_131 hf h_I26
set_option maxRecDepth 20000 in
theorem t_L_has (fu : Nat) (o0 : Nat) (a1 : Int) (a2 : Int) (I0 : IMem) (hI : RG I0) (h_o0 : KC[o0]? = some (7, 3)) (h_a1 : inr a1) (h_a2 : inr a2) {r : Int × IMem} (hf : f_L_has fu o0 a1 a2 I0 = some r) : Ss l b 2 y_L_has KC RC [.ref o0, .int (iv a1), .int (iv a2)] (ivm I0) (Ps r) := by
  unfold f_L_has at hf
  refine Ss.of (show Ai l b 2 y_L_has KC RC (Ps r) I0 0 [.ref o0, .int (iv a1), .int (iv a2)] [] from ?_)
  refine aw_iload_n rfl rfl d_L_has_0 ?_
  obtain ⟨y1, I2, c3, hf⟩ := of_zb hf
  refine ai_callS (as := [.int (iv a1)]) (d' := 1) mo_S_isLine lk_L_33 rfl ⟨by decide, by decide⟩ rfl rfl (by decide) d_L_has_1 (t_S_isLine fu a1 I0 hI h_a1 c3) (fun h_y1 h_I2 => ?_)
  refine ai_if_eq h_y1 hf (tgt := 25) (by decide) d_L_has_4 (fun hf => ?_) (fun hf => ?_)
  · refine aw_iconst (v := iv 0) rfl d_L_has_25 ?_
    exact ai_retn rfl (nar_z (Or.inl rfl)) d_L_has_26 hf in_0 h_I2
  · refine aw_iload_n rfl rfl d_L_has_7 ?_
    refine ai_if_lt h_a2 hf (tgt := 25) (by decide) d_L_has_8 (fun hf => ?_) (fun hf => ?_)
    · refine aw_iconst (v := iv 0) rfl d_L_has_25 ?_
      exact ai_retn rfl (nar_z (Or.inl rfl)) d_L_has_26 hf in_0 h_I2
    · refine aw_iload_n rfl rfl d_L_has_11 (aw_aload_n rfl rfl d_L_has_12 (aw_getr (r := o0 + 2) fl_L_15 h_o0 (by decide) rfl (rc_4_1 _ h_o0).1 d_L_has_13 (aw_iload_n rfl rfl d_L_has_16 ?_)))
      refine ai_iald (rc_4_1 _ h_o0).2 rfl h_a1 hf d_L_has_17 (fun _ hf => ?_)
      refine ai_icmp_ge h_a2 (h_I2 (o0 + 2) a1.toNat) hf (tgt := 25) (by decide) d_L_has_18 (fun hf => ?_) (fun hf => ?_)
      · refine aw_iconst (v := iv 0) rfl d_L_has_25 ?_
        exact ai_retn rfl (nar_z (Or.inl rfl)) d_L_has_26 hf in_0 h_I2
      · refine aw_iconst (v := iv 1) rfl d_L_has_21 (aw_goto (tgt := 26) (by decide) d_L_has_22 ?_)
        exact ai_retn rfl (nar_z (Or.inr rfl)) d_L_has_26 hf in_1 h_I2
set_option maxRecDepth 20000 in
theorem t_S_group (fu : Nat) (o0 : Nat) (a1 : Int) (a2 : Int) (a3 : Int) (I0 : IMem) (hI : RG I0) (h_o0 : KC[o0]? = some (11, 9)) (h_a1 : inr a1) (h_a2 : inr a2) (h_a3 : inr a3) {r : Int × IMem} (hf : f_S_group fu o0 a1 a2 a3 I0 = some r) : Ss l b 4 y_S_group KC RC [.ref o0, .int (iv a1), .int (iv a2), .int (iv a3)] (ivm I0) (Ps r) := by
  unfold f_S_group at hf
  refine Ss.of (show Ai l b 4 y_S_group KC RC (Ps r) I0 0 [.ref o0, .int (iv a1), .int (iv a2), .int (iv a3), uu] [] from ?_)
  refine aw_iload_n rfl rfl d_S_group_0 ?_
  obtain ⟨y1, I2, c3, hf⟩ := of_zb hf
  refine ai_callS (as := [.int (iv a1)]) (d' := 1) mo_S_isLine lk_S_73 rfl ⟨by decide, by decide⟩ rfl rfl (by decide) d_S_group_1 (t_S_isLine fu a1 I0 hI h_a1 c3) (fun h_y1 h_I2 => ?_)
  refine ai_if_eq h_y1 hf (tgt := 27) (by decide) d_S_group_4 (fun hf => ?_) (fun hf => ?_)
  · refine ai_ldc kc_S_143e kc_S_143 d_S_group_27 ?_
    exact ai_reti rfl d_S_group_29 hf in_m1000000 h_I2
  · refine aw_iload_n rfl rfl d_S_group_7 ?_
    refine ai_if_lt h_a2 hf (tgt := 27) (by decide) d_S_group_8 (fun hf => ?_) (fun hf => ?_)
    · refine ai_ldc kc_S_143e kc_S_143 d_S_group_27 ?_
      exact ai_reti rfl d_S_group_29 hf in_m1000000 h_I2
    · refine aw_iload_n rfl rfl d_S_group_11 (aw_bipush (v := iv 40) cb_40 d_S_group_12 ?_)
      refine ai_icmp_ge h_a2 in_40 hf (tgt := 27) (by decide) d_S_group_14 (fun hf => ?_) (fun hf => ?_)
      · refine ai_ldc kc_S_143e kc_S_143 d_S_group_27 ?_
        exact ai_reti rfl d_S_group_29 hf in_m1000000 h_I2
      · refine aw_iload_n rfl rfl d_S_group_17 ?_
        refine ai_if_lt h_a3 hf (tgt := 27) (by decide) d_S_group_18 (fun hf => ?_) (fun hf => ?_)
        · refine ai_ldc kc_S_143e kc_S_143 d_S_group_27 ?_
          exact ai_reti rfl d_S_group_29 hf in_m1000000 h_I2
        · refine aw_iload_n rfl rfl d_S_group_21 (aw_bipush (v := iv 6) cb_6 d_S_group_22 ?_)
          refine ai_icmp_le h_a3 in_6 hf (tgt := 30) (by decide) d_S_group_24 (fun hf => ?_) (fun hf => ?_)
          · refine aw_aload_n rfl rfl d_S_group_30 (aw_getr (r := o0 + 1) fl_S_12 h_o0 (by decide) rfl (rc_8_0 _ h_o0).1 d_S_group_31 (aw_getr (r := o0 + 7) fl_S_77 ((rc_8_0 _ h_o0).2) (by decide) rfl (rc_2_5 _ (rc_8_0 _ h_o0).2).1 d_S_group_34 (aw_iload_n rfl rfl d_S_group_37 (aw_iload_n rfl rfl d_S_group_38 ?_))))
            obtain ⟨y4, I5, c6, hf⟩ := of_zb hf
            refine ai_callV (as := [.int (iv a1), .int (iv a2)]) (d' := 2) (q := ("SinglesUp$Lines", zT4, 3)) mo_L_has lk_S_144 (rc_2_5 _ (rc_8_0 _ h_o0).2).2 rfl rfl rfl ⟨by decide, by decide⟩ rfl rfl (by decide) d_S_group_39 (t_L_has fu (o0 + 7) a1 a2 I2 h_I2 (rc_2_5 _ (rc_8_0 _ h_o0).2).2 h_a1 h_a2 c6) (fun h_y4 h_I5 => ?_)
            refine ai_if_ne h_y4 hf (tgt := 47) (by decide) d_S_group_42 (fun hf => ?_) (fun hf => ?_)
            · refine aw_iload_n rfl rfl d_S_group_47 (aw_bipush (v := iv 40) cb_40 d_S_group_48 (ai_imul d_S_group_50 (aw_iload_n rfl rfl d_S_group_51 (ai_iadd d_S_group_52 ?_))))
              refine ai_name hf (wr32_in _) (fun x7 h_x7 hf => ?_)
              refine aw_istore (lv2 := [.ref o0, .int (iv a1), .int (iv a2), .int (iv a3), .int (iv x7)]) (Nat.le_of_ble_eq_true rfl) rfl d_S_group_53 ?_
              refine aw_iload_n rfl rfl d_S_group_55 (aw_bipush (v := iv 6) cb_6 d_S_group_56 ?_)
              refine ai_icmp_eq h_a3 in_6 hf (tgt := 75) (by decide) d_S_group_58 (fun hf => ?_) (fun hf => ?_)
              · refine aw_aload_n rfl rfl d_S_group_75 (aw_getr (r := o0 + 1) fl_S_12 h_o0 (by decide) rfl (rc_8_0 _ h_o0).1 d_S_group_76 (aw_iload rfl d_S_group_79 (aw_aload_n rfl rfl d_S_group_81 (aw_getr (r := o0 + 1) fl_S_12 h_o0 (by decide) rfl (rc_8_0 _ h_o0).1 d_S_group_82 (aw_getr (r := o0 + 2) fl_S_65 ((rc_8_0 _ h_o0).2) (by decide) rfl (rc_2_0 _ (rc_8_0 _ h_o0).2).1 d_S_group_85 (aw_iconst (v := iv 0) rfl d_S_group_88 (ai_ialdc (j := 0) (rc_2_0 _ (rc_8_0 _ h_o0).2).2 (by decide) (by decide) d_S_group_89 (aw_iconst (v := iv 0) rfl d_S_group_90 ?_))))))))
                obtain ⟨y8, I9, c10, hf⟩ := of_zb hf
                refine ai_callVv (as := [.int (iv x7), .int (iv (I5 (o0 + 2) 0)), .int (iv 0)]) (d' := 3) (q := ("SinglesUp$Hill", zT2, 14)) mo_H_weigh lk_S_151 (rc_8_0 _ h_o0).2 rfl rfl rfl ⟨by decide, by decide⟩ rfl rfl (by decide) d_S_group_91 (t_H_weigh fu (o0 + 1) x7 (I5 (o0 + 2) 0) 0 I5 h_I5 (rc_8_0 _ h_o0).2 h_x7 (h_I5 (o0 + 2) 0) in_0 c10) (fun h_I9 => ?_)
                refine aw_aload_n rfl rfl d_S_group_94 (aw_getr (r := o0 + 1) fl_S_12 h_o0 (by decide) rfl (rc_8_0 _ h_o0).1 d_S_group_95 ?_)
                obtain ⟨y11, I12, c13, hf⟩ := of_zb hf
                refine ai_callVr (as := []) (d' := 1) (q := ("SinglesUp$Hill", zT2, 14)) mo_H_lawInForce lk_S_155 (rc_8_0 _ h_o0).2 rfl rfl rfl ⟨by decide, by decide⟩ rfl rfl (by decide) d_S_group_98 (t_H_lawInForce fu (o0 + 1) I9 h_I9 (rc_8_0 _ h_o0).2 c13) (fun h_y11 h_I12 => ?_)
                refine aw_aload_n rfl rfl d_S_group_101 (aw_getr (r := o0 + 1) fl_S_12 h_o0 (by decide) rfl (rc_8_0 _ h_o0).1 d_S_group_102 (aw_getr (r := o0 + 14) fl_S_159 ((rc_8_0 _ h_o0).2) (by decide) rfl (rc_2_12 _ (rc_8_0 _ h_o0).2).1 d_S_group_105 ?_))
                obtain ⟨y14, I15, c16, hf⟩ := of_zb hf
                refine ai_callV (as := [.ref (o0 + 14)]) (d' := 2) (q := ("SinglesUp$Law", zT3, 6)) mo_W_value lk_S_162 h_y11 rfl rfl rfl ⟨by decide, by decide⟩ rfl rfl (by decide) d_S_group_108 (t_W_value fu (y11.toNat) (o0 + 14) 16 I12 h_I12 h_y11 ⟨(rc_2_12 _ (rc_8_0 _ h_o0).2).2, by decide⟩ c16) (fun h_y14 h_I15 => ?_)
                exact ai_reti rfl d_S_group_111 hf h_y14 h_I15
              · refine aw_aload_n rfl rfl d_S_group_61 (aw_getr (r := o0 + 1) fl_S_12 h_o0 (by decide) rfl (rc_8_0 _ h_o0).1 d_S_group_62 (aw_getr (r := o0 + 7) fl_S_77 ((rc_8_0 _ h_o0).2) (by decide) rfl (rc_2_5 _ (rc_8_0 _ h_o0).2).1 d_S_group_65 (aw_iload rfl d_S_group_68 (aw_iload_n rfl rfl d_S_group_70 ?_))))
                obtain ⟨y17, I18, c19, hf⟩ := of_zb hf
                refine ai_callV (as := [.int (iv x7), .int (iv a3)]) (d' := 1) (q := ("SinglesUp$Lines", zT4, 3)) mo_L_get lk_S_147 (rc_2_5 _ (rc_8_0 _ h_o0).2).2 rfl rfl rfl ⟨by decide, by decide⟩ rfl rfl (by decide) d_S_group_71 (t_L_get fu (o0 + 7) x7 a3 I5 h_I5 (rc_2_5 _ (rc_8_0 _ h_o0).2).2 h_x7 h_a3 c19) (fun h_y17 h_I18 => ?_)
                exact ai_reti rfl d_S_group_74 hf h_y17 h_I18
            · refine aw_iconst (v := iv (-1)) rfl d_S_group_45 ?_
              exact ai_reti rfl d_S_group_46 hf in_m1 h_I5
          · refine ai_ldc kc_S_143e kc_S_143 d_S_group_27 ?_
            exact ai_reti rfl d_S_group_29 hf in_m1000000 h_I2
end
