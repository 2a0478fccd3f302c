/-! the JDK: shallow functions and the machine -/
abbrev y_JA_fill : MI := (⟨"java/util/Arrays", "fill", "([II)V"⟩, prog_18_method_103_code, 4, none)
theorem ck_JA_fill_0 : (y_JA_fill.2.1.data.toList.drop 0).take 32 = [3, 61, 42, 190, 62, 28, 29, 162, 0, 13, 42, 28, 27, 79, 132, 2, 1, 167, 255, 244, 177] := by decide +kernel
theorem d_JA_fill_0 : decode y_JA_fill.2.1 0 = .ok (.iconst 0, 1) := op_iconst0 (gk (k := 0) (t := 0) ck_JA_fill_0 rfl)
theorem d_JA_fill_1 : decode y_JA_fill.2.1 1 = .ok (.istore_n 2, 1) := op_istore_n2 (gk (k := 0) (t := 1) ck_JA_fill_0 rfl)
theorem d_JA_fill_2 : decode y_JA_fill.2.1 2 = .ok (.aload_n 0, 1) := op_aload_n0 (gk (k := 0) (t := 2) ck_JA_fill_0 rfl)
theorem d_JA_fill_3 : decode y_JA_fill.2.1 3 = .ok (.arraylength, 1) := op_arraylength (gk (k := 0) (t := 3) ck_JA_fill_0 rfl)
theorem d_JA_fill_4 : decode y_JA_fill.2.1 4 = .ok (.istore_n 3, 1) := op_istore_n3 (gk (k := 0) (t := 4) ck_JA_fill_0 rfl)
theorem d_JA_fill_5 : decode y_JA_fill.2.1 5 = .ok (.iload_n 2, 1) := op_iload_n2 (gk (k := 0) (t := 5) ck_JA_fill_0 rfl)
theorem d_JA_fill_6 : decode y_JA_fill.2.1 6 = .ok (.iload_n 3, 1) := op_iload_n3 (gk (k := 0) (t := 6) ck_JA_fill_0 rfl)
theorem d_JA_fill_7 : decode y_JA_fill.2.1 7 = .ok (.if_icmp .ge 13, 3) := op_icmp_ge (gk (k := 0) (t := 7) ck_JA_fill_0 rfl) (gk (k := 0) (t := 8) ck_JA_fill_0 rfl) (gk (k := 0) (t := 9) ck_JA_fill_0 rfl) (by decide +kernel)
theorem d_JA_fill_20 : decode y_JA_fill.2.1 20 = .ok (.return_, 1) := op_return_ (gk (k := 0) (t := 20) ck_JA_fill_0 rfl)
theorem d_JA_fill_10 : decode y_JA_fill.2.1 10 = .ok (.aload_n 0, 1) := op_aload_n0 (gk (k := 0) (t := 10) ck_JA_fill_0 rfl)
theorem d_JA_fill_11 : decode y_JA_fill.2.1 11 = .ok (.iload_n 2, 1) := op_iload_n2 (gk (k := 0) (t := 11) ck_JA_fill_0 rfl)
theorem d_JA_fill_12 : decode y_JA_fill.2.1 12 = .ok (.iload_n 1, 1) := op_iload_n1 (gk (k := 0) (t := 12) ck_JA_fill_0 rfl)
theorem d_JA_fill_13 : decode y_JA_fill.2.1 13 = .ok (.iastore, 1) := op_iastore (gk (k := 0) (t := 13) ck_JA_fill_0 rfl)
theorem d_JA_fill_14 : decode y_JA_fill.2.1 14 = .ok (.iinc 2 1, 3) := op_iinc (gk (k := 0) (t := 14) ck_JA_fill_0 rfl) (gk (k := 0) (t := 15) ck_JA_fill_0 rfl) (gk (k := 0) (t := 16) ck_JA_fill_0 rfl) rfl rfl
theorem d_JA_fill_17 : decode y_JA_fill.2.1 17 = .ok (.goto (-12), 3) := op_goto (gk (k := 0) (t := 17) ck_JA_fill_0 rfl) (gk (k := 0) (t := 18) ck_JA_fill_0 rfl) (gk (k := 0) (t := 19) ck_JA_fill_0 rfl) (by decide +kernel)
abbrev y_JL_canEncode : MI := (⟨"java/lang/StringLatin1", "canEncode", "(I)Z"⟩, prog_15_method_4_code, 1, some .boolean)
theorem ck_JL_canEncode_0 : (y_JL_canEncode.2.1.data.toList.drop 0).take 32 = [26, 155, 0, 14, 26, 17, 0, 255, 163, 0, 7, 4, 167, 0, 4, 3, 172] := by decide +kernel
theorem d_JL_canEncode_0 : decode y_JL_canEncode.2.1 0 = .ok (.iload_n 0, 1) := op_iload_n0 (gk (k := 0) (t := 0) ck_JL_canEncode_0 rfl)
theorem d_JL_canEncode_1 : decode y_JL_canEncode.2.1 1 = .ok (.ifCond .lt 14, 3) := op_if_lt (gk (k := 0) (t := 1) ck_JL_canEncode_0 rfl) (gk (k := 0) (t := 2) ck_JL_canEncode_0 rfl) (gk (k := 0) (t := 3) ck_JL_canEncode_0 rfl) (by decide +kernel)
theorem d_JL_canEncode_15 : decode y_JL_canEncode.2.1 15 = .ok (.iconst 0, 1) := op_iconst0 (gk (k := 0) (t := 15) ck_JL_canEncode_0 rfl)
theorem d_JL_canEncode_16 : decode y_JL_canEncode.2.1 16 = .ok (.ireturn, 1) := op_ireturn (gk (k := 0) (t := 16) ck_JL_canEncode_0 rfl)
theorem d_JL_canEncode_4 : decode y_JL_canEncode.2.1 4 = .ok (.iload_n 0, 1) := op_iload_n0 (gk (k := 0) (t := 4) ck_JL_canEncode_0 rfl)
theorem cs_255 : (Int16.ofInt 255).toInt32 = iv 255 := by decide +kernel
theorem d_JL_canEncode_5 : decode y_JL_canEncode.2.1 5 = .ok (.sipush 255, 3) := op_sipush (gk (k := 0) (t := 5) ck_JL_canEncode_0 rfl) (gk (k := 0) (t := 6) ck_JL_canEncode_0 rfl) (gk (k := 0) (t := 7) ck_JL_canEncode_0 rfl) (by decide +kernel)
theorem in_255 : inr (255) := lit_in rfl
theorem d_JL_canEncode_8 : decode y_JL_canEncode.2.1 8 = .ok (.if_icmp .gt 7, 3) := op_icmp_gt (gk (k := 0) (t := 8) ck_JL_canEncode_0 rfl) (gk (k := 0) (t := 9) ck_JL_canEncode_0 rfl) (gk (k := 0) (t := 10) ck_JL_canEncode_0 rfl) (by decide +kernel)
theorem d_JL_canEncode_11 : decode y_JL_canEncode.2.1 11 = .ok (.iconst 1, 1) := op_iconst1 (gk (k := 0) (t := 11) ck_JL_canEncode_0 rfl)
theorem d_JL_canEncode_12 : decode y_JL_canEncode.2.1 12 = .ok (.goto 4, 3) := op_goto (gk (k := 0) (t := 12) ck_JL_canEncode_0 rfl) (gk (k := 0) (t := 13) ck_JL_canEncode_0 rfl) (gk (k := 0) (t := 14) ck_JL_canEncode_0 rfl) (by decide +kernel)
theorem in_1 : inr (1) := lit_in rfl
abbrev y_JL_indexOfChar : MI := (⟨"java/lang/StringLatin1", "indexOfChar", "([BIII)I"⟩, prog_15_method_23_code, 6, some .int)
theorem ck_JL_indexOfChar_0 : (y_JL_indexOfChar.2.1.data.toList.drop 0).take 32 = [27, 145, 54, 4, 28, 54, 5, 21, 5, 29, 162, 0, 21, 42, 21, 5, 51, 21, 4, 160, 0, 6, 21, 5, 172, 132, 5, 1, 167, 255, 235, 2] := by decide +kernel
theorem d_JL_indexOfChar_0 : decode y_JL_indexOfChar.2.1 0 = .ok (.iload_n 1, 1) := op_iload_n1 (gk (k := 0) (t := 0) ck_JL_indexOfChar_0 rfl)
theorem d_JL_indexOfChar_1 : decode y_JL_indexOfChar.2.1 1 = .ok (.i2b, 1) := by decide +kernel
theorem d_JL_indexOfChar_2 : decode y_JL_indexOfChar.2.1 2 = .ok (.istore 4, 2) := op_istore (gk (k := 0) (t := 2) ck_JL_indexOfChar_0 rfl) (gk (k := 0) (t := 3) ck_JL_indexOfChar_0 rfl) rfl
theorem d_JL_indexOfChar_4 : decode y_JL_indexOfChar.2.1 4 = .ok (.iload_n 2, 1) := op_iload_n2 (gk (k := 0) (t := 4) ck_JL_indexOfChar_0 rfl)
theorem d_JL_indexOfChar_5 : decode y_JL_indexOfChar.2.1 5 = .ok (.istore 5, 2) := op_istore (gk (k := 0) (t := 5) ck_JL_indexOfChar_0 rfl) (gk (k := 0) (t := 6) ck_JL_indexOfChar_0 rfl) rfl
theorem d_JL_indexOfChar_7 : decode y_JL_indexOfChar.2.1 7 = .ok (.iload 5, 2) := op_iload (gk (k := 0) (t := 7) ck_JL_indexOfChar_0 rfl) (gk (k := 0) (t := 8) ck_JL_indexOfChar_0 rfl) rfl
theorem d_JL_indexOfChar_9 : decode y_JL_indexOfChar.2.1 9 = .ok (.iload_n 3, 1) := op_iload_n3 (gk (k := 0) (t := 9) ck_JL_indexOfChar_0 rfl)
theorem d_JL_indexOfChar_10 : decode y_JL_indexOfChar.2.1 10 = .ok (.if_icmp .ge 21, 3) := op_icmp_ge (gk (k := 0) (t := 10) ck_JL_indexOfChar_0 rfl) (gk (k := 0) (t := 11) ck_JL_indexOfChar_0 rfl) (gk (k := 0) (t := 12) ck_JL_indexOfChar_0 rfl) (by decide +kernel)
theorem d_JL_indexOfChar_31 : decode y_JL_indexOfChar.2.1 31 = .ok (.iconst (-1), 1) := op_iconstm1 (gk (k := 0) (t := 31) ck_JL_indexOfChar_0 rfl)
theorem ck_JL_indexOfChar_1 : (y_JL_indexOfChar.2.1.data.toList.drop 32).take 32 = [172] := by decide +kernel
theorem d_JL_indexOfChar_32 : decode y_JL_indexOfChar.2.1 32 = .ok (.ireturn, 1) := op_ireturn (gk (k := 32) (t := 0) ck_JL_indexOfChar_1 rfl)
theorem in_m1 : inr (-1) := lit_in rfl
theorem d_JL_indexOfChar_13 : decode y_JL_indexOfChar.2.1 13 = .ok (.aload_n 0, 1) := op_aload_n0 (gk (k := 0) (t := 13) ck_JL_indexOfChar_0 rfl)
theorem d_JL_indexOfChar_14 : decode y_JL_indexOfChar.2.1 14 = .ok (.iload 5, 2) := op_iload (gk (k := 0) (t := 14) ck_JL_indexOfChar_0 rfl) (gk (k := 0) (t := 15) ck_JL_indexOfChar_0 rfl) rfl
theorem d_JL_indexOfChar_16 : decode y_JL_indexOfChar.2.1 16 = .ok (.baload, 1) := op_baload (gk (k := 0) (t := 16) ck_JL_indexOfChar_0 rfl)
theorem d_JL_indexOfChar_17 : decode y_JL_indexOfChar.2.1 17 = .ok (.iload 4, 2) := op_iload (gk (k := 0) (t := 17) ck_JL_indexOfChar_0 rfl) (gk (k := 0) (t := 18) ck_JL_indexOfChar_0 rfl) rfl
theorem d_JL_indexOfChar_19 : decode y_JL_indexOfChar.2.1 19 = .ok (.if_icmp .ne 6, 3) := op_icmp_ne (gk (k := 0) (t := 19) ck_JL_indexOfChar_0 rfl) (gk (k := 0) (t := 20) ck_JL_indexOfChar_0 rfl) (gk (k := 0) (t := 21) ck_JL_indexOfChar_0 rfl) (by decide +kernel)
theorem d_JL_indexOfChar_25 : decode y_JL_indexOfChar.2.1 25 = .ok (.iinc 5 1, 3) := op_iinc (gk (k := 0) (t := 25) ck_JL_indexOfChar_0 rfl) (gk (k := 0) (t := 26) ck_JL_indexOfChar_0 rfl) (gk (k := 0) (t := 27) ck_JL_indexOfChar_0 rfl) rfl rfl
theorem d_JL_indexOfChar_28 : decode y_JL_indexOfChar.2.1 28 = .ok (.goto (-21), 3) := op_goto (gk (k := 0) (t := 28) ck_JL_indexOfChar_0 rfl) (gk (k := 0) (t := 29) ck_JL_indexOfChar_0 rfl) (gk (k := 0) (t := 30) ck_JL_indexOfChar_0 rfl) (by decide +kernel)
theorem d_JL_indexOfChar_22 : decode y_JL_indexOfChar.2.1 22 = .ok (.iload 5, 2) := op_iload (gk (k := 0) (t := 22) ck_JL_indexOfChar_0 rfl) (gk (k := 0) (t := 23) ck_JL_indexOfChar_0 rfl) rfl
theorem d_JL_indexOfChar_24 : decode y_JL_indexOfChar.2.1 24 = .ok (.ireturn, 1) := op_ireturn (gk (k := 0) (t := 24) ck_JL_indexOfChar_0 rfl)
abbrev y_JM_max : MI := (⟨"java/lang/Math", "max", "(II)I"⟩, prog_13_method_65_code, 2, some .int)
theorem ck_JM_max_0 : (y_JM_max.2.1.data.toList.drop 0).take 32 = [26, 27, 161, 0, 7, 26, 167, 0, 4, 27, 172] := by decide +kernel
theorem d_JM_max_0 : decode y_JM_max.2.1 0 = .ok (.iload_n 0, 1) := op_iload_n0 (gk (k := 0) (t := 0) ck_JM_max_0 rfl)
theorem d_JM_max_1 : decode y_JM_max.2.1 1 = .ok (.iload_n 1, 1) := op_iload_n1 (gk (k := 0) (t := 1) ck_JM_max_0 rfl)
theorem d_JM_max_2 : decode y_JM_max.2.1 2 = .ok (.if_icmp .lt 7, 3) := op_icmp_lt (gk (k := 0) (t := 2) ck_JM_max_0 rfl) (gk (k := 0) (t := 3) ck_JM_max_0 rfl) (gk (k := 0) (t := 4) ck_JM_max_0 rfl) (by decide +kernel)
theorem d_JM_max_9 : decode y_JM_max.2.1 9 = .ok (.iload_n 1, 1) := op_iload_n1 (gk (k := 0) (t := 9) ck_JM_max_0 rfl)
theorem d_JM_max_10 : decode y_JM_max.2.1 10 = .ok (.ireturn, 1) := op_ireturn (gk (k := 0) (t := 10) ck_JM_max_0 rfl)
theorem d_JM_max_5 : decode y_JM_max.2.1 5 = .ok (.iload_n 0, 1) := op_iload_n0 (gk (k := 0) (t := 5) ck_JM_max_0 rfl)
theorem d_JM_max_6 : decode y_JM_max.2.1 6 = .ok (.goto 4, 3) := op_goto (gk (k := 0) (t := 6) ck_JM_max_0 rfl) (gk (k := 0) (t := 7) ck_JM_max_0 rfl) (gk (k := 0) (t := 8) ck_JM_max_0 rfl) (by decide +kernel)
abbrev y_JM_min : MI := (⟨"java/lang/Math", "min", "(II)I"⟩, prog_13_method_69_code, 2, some .int)
theorem ck_JM_min_0 : (y_JM_min.2.1.data.toList.drop 0).take 32 = [26, 27, 163, 0, 7, 26, 167, 0, 4, 27, 172] := by decide +kernel
theorem d_JM_min_0 : decode y_JM_min.2.1 0 = .ok (.iload_n 0, 1) := op_iload_n0 (gk (k := 0) (t := 0) ck_JM_min_0 rfl)
theorem d_JM_min_1 : decode y_JM_min.2.1 1 = .ok (.iload_n 1, 1) := op_iload_n1 (gk (k := 0) (t := 1) ck_JM_min_0 rfl)
theorem d_JM_min_2 : decode y_JM_min.2.1 2 = .ok (.if_icmp .gt 7, 3) := op_icmp_gt (gk (k := 0) (t := 2) ck_JM_min_0 rfl) (gk (k := 0) (t := 3) ck_JM_min_0 rfl) (gk (k := 0) (t := 4) ck_JM_min_0 rfl) (by decide +kernel)
theorem d_JM_min_9 : decode y_JM_min.2.1 9 = .ok (.iload_n 1, 1) := op_iload_n1 (gk (k := 0) (t := 9) ck_JM_min_0 rfl)
theorem d_JM_min_10 : decode y_JM_min.2.1 10 = .ok (.ireturn, 1) := op_ireturn (gk (k := 0) (t := 10) ck_JM_min_0 rfl)
theorem d_JM_min_5 : decode y_JM_min.2.1 5 = .ok (.iload_n 0, 1) := op_iload_n0 (gk (k := 0) (t := 5) ck_JM_min_0 rfl)
theorem d_JM_min_6 : decode y_JM_min.2.1 6 = .ok (.goto 4, 3) := op_goto (gk (k := 0) (t := 6) ck_JM_min_0 rfl) (gk (k := 0) (t := 7) ck_JM_min_0 rfl) (gk (k := 0) (t := 8) ck_JM_min_0 rfl) (by decide +kernel)
abbrev y_JL_indexOf : MI := (⟨"java/lang/StringLatin1", "indexOf", "([BIII)I"⟩, prog_15_method_22_code, 4, some .int)
theorem ck_JL_indexOf_0 : (y_JL_indexOf.2.1.data.toList.drop 0).take 32 = [27, 184, 0, 88, 154, 0, 5, 2, 172, 28, 3, 184, 0, 92, 61, 29, 42, 190, 184, 0, 38, 62, 28, 29, 161, 0, 5, 2, 172, 42, 27, 28] := by decide +kernel
theorem d_JL_indexOf_0 : decode y_JL_indexOf.2.1 0 = .ok (.iload_n 1, 1) := op_iload_n1 (gk (k := 0) (t := 0) ck_JL_indexOf_0 rfl)
theorem lk_JL_88 : LkS "java/lang/StringLatin1" 88 y_JL_canEncode := ⟨tw_c3 42 (by decide +kernel) rfl, Or.inl (tw_c3 41 (by decide +kernel) rfl)⟩
set_option maxRecDepth 100000 in
theorem mo_JL_canEncode : MOk y_JL_canEncode 1 := ⟨by decide +kernel, tw_c3 43 rfl rfl, tw_c1 14 (by decide +kernel) rfl, by decide +kernel, by decide +kernel, by decide +kernel⟩
theorem d_JL_indexOf_1 : decode y_JL_indexOf.2.1 1 = .ok (.invokestatic 88, 3) := op_invokestatic (gk (k := 0) (t := 1) ck_JL_indexOf_0 rfl) (gk (k := 0) (t := 2) ck_JL_indexOf_0 rfl) (gk (k := 0) (t := 3) ck_JL_indexOf_0 rfl) rfl
theorem d_JL_indexOf_4 : decode y_JL_indexOf.2.1 4 = .ok (.ifCond .ne 5, 3) := op_if_ne (gk (k := 0) (t := 4) ck_JL_indexOf_0 rfl) (gk (k := 0) (t := 5) ck_JL_indexOf_0 rfl) (gk (k := 0) (t := 6) ck_JL_indexOf_0 rfl) (by decide +kernel)
theorem d_JL_indexOf_9 : decode y_JL_indexOf.2.1 9 = .ok (.iload_n 2, 1) := op_iload_n2 (gk (k := 0) (t := 9) ck_JL_indexOf_0 rfl)
theorem d_JL_indexOf_10 : decode y_JL_indexOf.2.1 10 = .ok (.iconst 0, 1) := op_iconst0 (gk (k := 0) (t := 10) ck_JL_indexOf_0 rfl)
theorem lk_JL_92 : LkS "java/lang/StringLatin1" 92 y_JM_max := ⟨tw_c3 26 (by decide +kernel) rfl, Or.inl (tw_c3 44 (by decide +kernel) rfl)⟩
set_option maxRecDepth 100000 in
theorem mo_JM_max : MOk y_JM_max 2 := ⟨by decide +kernel, tw_c3 27 rfl rfl, tw_c1 17 (by decide +kernel) rfl, by decide +kernel, by decide +kernel, by decide +kernel⟩
theorem d_JL_indexOf_11 : decode y_JL_indexOf.2.1 11 = .ok (.invokestatic 92, 3) := op_invokestatic (gk (k := 0) (t := 11) ck_JL_indexOf_0 rfl) (gk (k := 0) (t := 12) ck_JL_indexOf_0 rfl) (gk (k := 0) (t := 13) ck_JL_indexOf_0 rfl) rfl
theorem d_JL_indexOf_14 : decode y_JL_indexOf.2.1 14 = .ok (.istore_n 2, 1) := op_istore_n2 (gk (k := 0) (t := 14) ck_JL_indexOf_0 rfl)
theorem d_JL_indexOf_15 : decode y_JL_indexOf.2.1 15 = .ok (.iload_n 3, 1) := op_iload_n3 (gk (k := 0) (t := 15) ck_JL_indexOf_0 rfl)
theorem d_JL_indexOf_16 : decode y_JL_indexOf.2.1 16 = .ok (.aload_n 0, 1) := op_aload_n0 (gk (k := 0) (t := 16) ck_JL_indexOf_0 rfl)
theorem d_JL_indexOf_17 : decode y_JL_indexOf.2.1 17 = .ok (.arraylength, 1) := op_arraylength (gk (k := 0) (t := 17) ck_JL_indexOf_0 rfl)
theorem lk_JL_38 : LkS "java/lang/StringLatin1" 38 y_JM_min := ⟨tw_c3 46 (by decide +kernel) rfl, Or.inl (tw_c3 45 (by decide +kernel) rfl)⟩
set_option maxRecDepth 100000 in
theorem mo_JM_min : MOk y_JM_min 2 := ⟨by decide +kernel, tw_c3 47 rfl rfl, tw_c1 17 (by decide +kernel) rfl, by decide +kernel, by decide +kernel, by decide +kernel⟩
theorem d_JL_indexOf_18 : decode y_JL_indexOf.2.1 18 = .ok (.invokestatic 38, 3) := op_invokestatic (gk (k := 0) (t := 18) ck_JL_indexOf_0 rfl) (gk (k := 0) (t := 19) ck_JL_indexOf_0 rfl) (gk (k := 0) (t := 20) ck_JL_indexOf_0 rfl) rfl
theorem d_JL_indexOf_21 : decode y_JL_indexOf.2.1 21 = .ok (.istore_n 3, 1) := op_istore_n3 (gk (k := 0) (t := 21) ck_JL_indexOf_0 rfl)
theorem d_JL_indexOf_22 : decode y_JL_indexOf.2.1 22 = .ok (.iload_n 2, 1) := op_iload_n2 (gk (k := 0) (t := 22) ck_JL_indexOf_0 rfl)
theorem d_JL_indexOf_23 : decode y_JL_indexOf.2.1 23 = .ok (.iload_n 3, 1) := op_iload_n3 (gk (k := 0) (t := 23) ck_JL_indexOf_0 rfl)
theorem d_JL_indexOf_24 : decode y_JL_indexOf.2.1 24 = .ok (.if_icmp .lt 5, 3) := op_icmp_lt (gk (k := 0) (t := 24) ck_JL_indexOf_0 rfl) (gk (k := 0) (t := 25) ck_JL_indexOf_0 rfl) (gk (k := 0) (t := 26) ck_JL_indexOf_0 rfl) (by decide +kernel)
theorem d_JL_indexOf_29 : decode y_JL_indexOf.2.1 29 = .ok (.aload_n 0, 1) := op_aload_n0 (gk (k := 0) (t := 29) ck_JL_indexOf_0 rfl)
theorem d_JL_indexOf_30 : decode y_JL_indexOf.2.1 30 = .ok (.iload_n 1, 1) := op_iload_n1 (gk (k := 0) (t := 30) ck_JL_indexOf_0 rfl)
theorem d_JL_indexOf_31 : decode y_JL_indexOf.2.1 31 = .ok (.iload_n 2, 1) := op_iload_n2 (gk (k := 0) (t := 31) ck_JL_indexOf_0 rfl)
theorem ck_JL_indexOf_1 : (y_JL_indexOf.2.1.data.toList.drop 32).take 32 = [29, 184, 0, 95, 172] := by decide +kernel
theorem d_JL_indexOf_32 : decode y_JL_indexOf.2.1 32 = .ok (.iload_n 3, 1) := op_iload_n3 (gk (k := 32) (t := 0) ck_JL_indexOf_1 rfl)
theorem lk_JL_95 : LkS "java/lang/StringLatin1" 95 y_JL_indexOfChar := ⟨tw_c3 49 (by decide +kernel) rfl, Or.inl (tw_c3 48 (by decide +kernel) rfl)⟩
set_option maxRecDepth 100000 in
theorem mo_JL_indexOfChar : MOk y_JL_indexOfChar 4 := ⟨by decide +kernel, tw_c3 50 rfl rfl, tw_c1 14 (by decide +kernel) rfl, by decide +kernel, by decide +kernel, by decide +kernel⟩
theorem d_JL_indexOf_33 : decode y_JL_indexOf.2.1 33 = .ok (.invokestatic 95, 3) := op_invokestatic (gk (k := 32) (t := 1) ck_JL_indexOf_1 rfl) (gk (k := 32) (t := 2) ck_JL_indexOf_1 rfl) (gk (k := 32) (t := 3) ck_JL_indexOf_1 rfl) rfl
theorem d_JL_indexOf_36 : decode y_JL_indexOf.2.1 36 = .ok (.ireturn, 1) := op_ireturn (gk (k := 32) (t := 4) ck_JL_indexOf_1 rfl)
theorem d_JL_indexOf_27 : decode y_JL_indexOf.2.1 27 = .ok (.iconst (-1), 1) := op_iconstm1 (gk (k := 0) (t := 27) ck_JL_indexOf_0 rfl)
theorem d_JL_indexOf_28 : decode y_JL_indexOf.2.1 28 = .ok (.ireturn, 1) := op_ireturn (gk (k := 0) (t := 28) ck_JL_indexOf_0 rfl)
theorem d_JL_indexOf_7 : decode y_JL_indexOf.2.1 7 = .ok (.iconst (-1), 1) := op_iconstm1 (gk (k := 0) (t := 7) ck_JL_indexOf_0 rfl)
theorem d_JL_indexOf_8 : decode y_JL_indexOf.2.1 8 = .ok (.ireturn, 1) := op_ireturn (gk (k := 0) (t := 8) ck_JL_indexOf_0 rfl)
abbrev y_JS_isLatin1 : MI := (⟨"java/lang/String", "isLatin1", "()Z"⟩, prog_14_method_154_code, 1, some .boolean)
theorem gs_JS_38 : Cond.fieldLink "java/lang/String" 38 "java/lang/String" "COMPACT_STRINGS" "Z" ∈ TW := tw_c2 214 (by decide +kernel) rfl
theorem ck_JS_isLatin1_0 : (y_JS_isLatin1.2.1.data.toList.drop 0).take 32 = [178, 0, 38, 153, 0, 14, 42, 180, 0, 15, 154, 0, 7, 4, 167, 0, 4, 3, 172] := by decide +kernel
theorem d_JS_isLatin1_0 : decode y_JS_isLatin1.2.1 0 = .ok (.getstatic 38, 3) := op_getstatic (gk (k := 0) (t := 0) ck_JS_isLatin1_0 rfl) (gk (k := 0) (t := 1) ck_JS_isLatin1_0 rfl) (gk (k := 0) (t := 2) ck_JS_isLatin1_0 rfl) rfl
theorem d_JS_isLatin1_3 : decode y_JS_isLatin1.2.1 3 = .ok (.ifCond .eq 14, 3) := op_if_eq (gk (k := 0) (t := 3) ck_JS_isLatin1_0 rfl) (gk (k := 0) (t := 4) ck_JS_isLatin1_0 rfl) (gk (k := 0) (t := 5) ck_JS_isLatin1_0 rfl) (by decide +kernel)
theorem d_JS_isLatin1_6 : decode y_JS_isLatin1.2.1 6 = .ok (.aload_n 0, 1) := op_aload_n0 (gk (k := 0) (t := 6) ck_JS_isLatin1_0 rfl)
theorem fj_15 : Cond.fieldLink "java/lang/String" 15 "java/lang/String" "coder" "B" ∈ TW := tw_c7 172 (by decide +kernel) rfl
theorem d_JS_isLatin1_7 : decode y_JS_isLatin1.2.1 7 = .ok (.getfield 15, 3) := op_getfield (gk (k := 0) (t := 7) ck_JS_isLatin1_0 rfl) (gk (k := 0) (t := 8) ck_JS_isLatin1_0 rfl) (gk (k := 0) (t := 9) ck_JS_isLatin1_0 rfl) rfl
theorem d_JS_isLatin1_10 : decode y_JS_isLatin1.2.1 10 = .ok (.ifCond .ne 7, 3) := op_if_ne (gk (k := 0) (t := 10) ck_JS_isLatin1_0 rfl) (gk (k := 0) (t := 11) ck_JS_isLatin1_0 rfl) (gk (k := 0) (t := 12) ck_JS_isLatin1_0 rfl) (by decide +kernel)
theorem d_JS_isLatin1_13 : decode y_JS_isLatin1.2.1 13 = .ok (.iconst 1, 1) := op_iconst1 (gk (k := 0) (t := 13) ck_JS_isLatin1_0 rfl)
theorem d_JS_isLatin1_14 : decode y_JS_isLatin1.2.1 14 = .ok (.goto 4, 3) := op_goto (gk (k := 0) (t := 14) ck_JS_isLatin1_0 rfl) (gk (k := 0) (t := 15) ck_JS_isLatin1_0 rfl) (gk (k := 0) (t := 16) ck_JS_isLatin1_0 rfl) (by decide +kernel)
theorem d_JS_isLatin1_18 : decode y_JS_isLatin1.2.1 18 = .ok (.ireturn, 1) := op_ireturn (gk (k := 0) (t := 18) ck_JS_isLatin1_0 rfl)
abbrev y_JS_coder : MI := (⟨"java/lang/String", "coder", "()B"⟩, prog_14_method_152_code, 1, some .byte)
theorem ck_JS_coder_0 : (y_JS_coder.2.1.data.toList.drop 0).take 32 = [178, 0, 38, 153, 0, 10, 42, 180, 0, 15, 167, 0, 4, 4, 172] := by decide +kernel
theorem d_JS_coder_0 : decode y_JS_coder.2.1 0 = .ok (.getstatic 38, 3) := op_getstatic (gk (k := 0) (t := 0) ck_JS_coder_0 rfl) (gk (k := 0) (t := 1) ck_JS_coder_0 rfl) (gk (k := 0) (t := 2) ck_JS_coder_0 rfl) rfl
theorem d_JS_coder_3 : decode y_JS_coder.2.1 3 = .ok (.ifCond .eq 10, 3) := op_if_eq (gk (k := 0) (t := 3) ck_JS_coder_0 rfl) (gk (k := 0) (t := 4) ck_JS_coder_0 rfl) (gk (k := 0) (t := 5) ck_JS_coder_0 rfl) (by decide +kernel)
theorem d_JS_coder_6 : decode y_JS_coder.2.1 6 = .ok (.aload_n 0, 1) := op_aload_n0 (gk (k := 0) (t := 6) ck_JS_coder_0 rfl)
theorem d_JS_coder_7 : decode y_JS_coder.2.1 7 = .ok (.getfield 15, 3) := op_getfield (gk (k := 0) (t := 7) ck_JS_coder_0 rfl) (gk (k := 0) (t := 8) ck_JS_coder_0 rfl) (gk (k := 0) (t := 9) ck_JS_coder_0 rfl) rfl
theorem d_JS_coder_10 : decode y_JS_coder.2.1 10 = .ok (.goto 4, 3) := op_goto (gk (k := 0) (t := 10) ck_JS_coder_0 rfl) (gk (k := 0) (t := 11) ck_JS_coder_0 rfl) (gk (k := 0) (t := 12) ck_JS_coder_0 rfl) (by decide +kernel)
theorem d_JS_coder_14 : decode y_JS_coder.2.1 14 = .ok (.ireturn, 1) := op_ireturn (gk (k := 0) (t := 14) ck_JS_coder_0 rfl)
abbrev y_JS_length : MI := (⟨"java/lang/String", "length", "()I"⟩, prog_14_method_54_code, 1, some .int)
theorem ck_JS_length_0 : (y_JS_length.2.1.data.toList.drop 0).take 32 = [42, 180, 0, 9, 190, 42, 182, 1, 79, 122, 172] := by decide +kernel
theorem d_JS_length_0 : decode y_JS_length.2.1 0 = .ok (.aload_n 0, 1) := op_aload_n0 (gk (k := 0) (t := 0) ck_JS_length_0 rfl)
theorem fj_9 : Cond.fieldLink "java/lang/String" 9 "java/lang/String" "value" "[B" ∈ TW := tw_c7 171 (by decide +kernel) rfl
theorem d_JS_length_1 : decode y_JS_length.2.1 1 = .ok (.getfield 9, 3) := op_getfield (gk (k := 0) (t := 1) ck_JS_length_0 rfl) (gk (k := 0) (t := 2) ck_JS_length_0 rfl) (gk (k := 0) (t := 3) ck_JS_length_0 rfl) rfl
theorem d_JS_length_4 : decode y_JS_length.2.1 4 = .ok (.arraylength, 1) := op_arraylength (gk (k := 0) (t := 4) ck_JS_length_0 rfl)
theorem d_JS_length_5 : decode y_JS_length.2.1 5 = .ok (.aload_n 0, 1) := op_aload_n0 (gk (k := 0) (t := 5) ck_JS_length_0 rfl)
theorem lk_JS_335 : LkV "java/lang/String" 335 y_JS_coder := ⟨tw_c2 211 (by decide +kernel) rfl, tw_c2 212 (by decide +kernel) rfl, Or.inl (tw_c2 210 (by decide +kernel) rfl)⟩
set_option maxRecDepth 100000 in
theorem mo_JS_coder : MOk y_JS_coder 0 := ⟨by decide +kernel, tw_c2 213 rfl rfl, tw_c1 13 (by decide +kernel) rfl, by decide +kernel, by decide +kernel, by decide +kernel⟩
theorem d_JS_length_6 : decode y_JS_length.2.1 6 = .ok (.invokevirtual 335, 3) := op_invokevirtual (gk (k := 0) (t := 6) ck_JS_length_0 rfl) (gk (k := 0) (t := 7) ck_JS_length_0 rfl) (gk (k := 0) (t := 8) ck_JS_length_0 rfl) rfl
theorem d_JS_length_9 : decode y_JS_length.2.1 9 = .ok (.ishr, 1) := op_ishr (gk (k := 0) (t := 9) ck_JS_length_0 rfl)
theorem d_JS_length_10 : decode y_JS_length.2.1 10 = .ok (.ireturn, 1) := op_ireturn (gk (k := 0) (t := 10) ck_JS_length_0 rfl)
abbrev y_JS_indexOf_1 : MI := (⟨"java/lang/String", "indexOf", "(II)I"⟩, prog_14_method_80_code, 3, some .int)
theorem ck_JS_indexOf_1_0 : (y_JS_indexOf_1.2.1.data.toList.drop 0).take 32 = [42, 182, 1, 236, 153, 0, 19, 42, 180, 0, 9, 27, 28, 42, 182, 1, 249, 184, 2, 125, 167, 0, 16, 42, 180, 0, 9, 27, 28, 42, 182, 1] := by decide +kernel
theorem d_JS_indexOf_1_0 : decode y_JS_indexOf_1.2.1 0 = .ok (.aload_n 0, 1) := op_aload_n0 (gk (k := 0) (t := 0) ck_JS_indexOf_1_0 rfl)
theorem lk_JS_492 : LkV "java/lang/String" 492 y_JS_isLatin1 := ⟨tw_c2 221 (by decide +kernel) rfl, tw_c2 222 (by decide +kernel) rfl, Or.inl (tw_c2 220 (by decide +kernel) rfl)⟩
set_option maxRecDepth 100000 in
theorem mo_JS_isLatin1 : MOk y_JS_isLatin1 0 := ⟨by decide +kernel, tw_c2 223 rfl rfl, tw_c1 13 (by decide +kernel) rfl, by decide +kernel, by decide +kernel, by decide +kernel⟩
theorem d_JS_indexOf_1_1 : decode y_JS_indexOf_1.2.1 1 = .ok (.invokevirtual 492, 3) := op_invokevirtual (gk (k := 0) (t := 1) ck_JS_indexOf_1_0 rfl) (gk (k := 0) (t := 2) ck_JS_indexOf_1_0 rfl) (gk (k := 0) (t := 3) ck_JS_indexOf_1_0 rfl) rfl
theorem d_JS_indexOf_1_4 : decode y_JS_indexOf_1.2.1 4 = .ok (.ifCond .eq 19, 3) := op_if_eq (gk (k := 0) (t := 4) ck_JS_indexOf_1_0 rfl) (gk (k := 0) (t := 5) ck_JS_indexOf_1_0 rfl) (gk (k := 0) (t := 6) ck_JS_indexOf_1_0 rfl) (by decide +kernel)
theorem d_JS_indexOf_1_23 : decode y_JS_indexOf_1.2.1 23 = .ok (.aload_n 0, 1) := op_aload_n0 (gk (k := 0) (t := 23) ck_JS_indexOf_1_0 rfl)
theorem d_JS_indexOf_1_24 : decode y_JS_indexOf_1.2.1 24 = .ok (.getfield 9, 3) := op_getfield (gk (k := 0) (t := 24) ck_JS_indexOf_1_0 rfl) (gk (k := 0) (t := 25) ck_JS_indexOf_1_0 rfl) (gk (k := 0) (t := 26) ck_JS_indexOf_1_0 rfl) rfl
theorem d_JS_indexOf_1_27 : decode y_JS_indexOf_1.2.1 27 = .ok (.iload_n 1, 1) := op_iload_n1 (gk (k := 0) (t := 27) ck_JS_indexOf_1_0 rfl)
theorem d_JS_indexOf_1_28 : decode y_JS_indexOf_1.2.1 28 = .ok (.iload_n 2, 1) := op_iload_n2 (gk (k := 0) (t := 28) ck_JS_indexOf_1_0 rfl)
theorem d_JS_indexOf_1_29 : decode y_JS_indexOf_1.2.1 29 = .ok (.aload_n 0, 1) := op_aload_n0 (gk (k := 0) (t := 29) ck_JS_indexOf_1_0 rfl)
theorem lk_JS_505 : LkV "java/lang/String" 505 y_JS_length := ⟨tw_c2 207 (by decide +kernel) rfl, tw_c2 208 (by decide +kernel) rfl, Or.inl (tw_c3 37 (by decide +kernel) rfl)⟩
set_option maxRecDepth 100000 in
theorem mo_JS_length : MOk y_JS_length 0 := ⟨by decide +kernel, tw_c2 209 rfl rfl, tw_c1 13 (by decide +kernel) rfl, by decide +kernel, by decide +kernel, by decide +kernel⟩
theorem ck_JS_indexOf_1_1 : (y_JS_indexOf_1.2.1.data.toList.drop 32).take 32 = [249, 184, 2, 128, 172] := by decide +kernel
theorem d_JS_indexOf_1_30 : decode y_JS_indexOf_1.2.1 30 = .ok (.invokevirtual 505, 3) := op_invokevirtual (gk (k := 0) (t := 30) ck_JS_indexOf_1_0 rfl) (gk (k := 0) (t := 31) ck_JS_indexOf_1_0 rfl) (gk (k := 32) (t := 0) ck_JS_indexOf_1_1 rfl) rfl
theorem d_JS_indexOf_1_7 : decode y_JS_indexOf_1.2.1 7 = .ok (.aload_n 0, 1) := op_aload_n0 (gk (k := 0) (t := 7) ck_JS_indexOf_1_0 rfl)
theorem d_JS_indexOf_1_8 : decode y_JS_indexOf_1.2.1 8 = .ok (.getfield 9, 3) := op_getfield (gk (k := 0) (t := 8) ck_JS_indexOf_1_0 rfl) (gk (k := 0) (t := 9) ck_JS_indexOf_1_0 rfl) (gk (k := 0) (t := 10) ck_JS_indexOf_1_0 rfl) rfl
theorem d_JS_indexOf_1_11 : decode y_JS_indexOf_1.2.1 11 = .ok (.iload_n 1, 1) := op_iload_n1 (gk (k := 0) (t := 11) ck_JS_indexOf_1_0 rfl)
theorem d_JS_indexOf_1_12 : decode y_JS_indexOf_1.2.1 12 = .ok (.iload_n 2, 1) := op_iload_n2 (gk (k := 0) (t := 12) ck_JS_indexOf_1_0 rfl)
theorem d_JS_indexOf_1_13 : decode y_JS_indexOf_1.2.1 13 = .ok (.aload_n 0, 1) := op_aload_n0 (gk (k := 0) (t := 13) ck_JS_indexOf_1_0 rfl)
theorem d_JS_indexOf_1_14 : decode y_JS_indexOf_1.2.1 14 = .ok (.invokevirtual 505, 3) := op_invokevirtual (gk (k := 0) (t := 14) ck_JS_indexOf_1_0 rfl) (gk (k := 0) (t := 15) ck_JS_indexOf_1_0 rfl) (gk (k := 0) (t := 16) ck_JS_indexOf_1_0 rfl) rfl
theorem lk_JS_637 : LkS "java/lang/String" 637 y_JL_indexOf := ⟨tw_c3 39 (by decide +kernel) rfl, Or.inl (tw_c3 38 (by decide +kernel) rfl)⟩
set_option maxRecDepth 100000 in
theorem mo_JL_indexOf : MOk y_JL_indexOf 4 := ⟨by decide +kernel, tw_c3 40 rfl rfl, tw_c1 14 (by decide +kernel) rfl, by decide +kernel, by decide +kernel, by decide +kernel⟩
theorem d_JS_indexOf_1_17 : decode y_JS_indexOf_1.2.1 17 = .ok (.invokestatic 637, 3) := op_invokestatic (gk (k := 0) (t := 17) ck_JS_indexOf_1_0 rfl) (gk (k := 0) (t := 18) ck_JS_indexOf_1_0 rfl) (gk (k := 0) (t := 19) ck_JS_indexOf_1_0 rfl) rfl
theorem d_JS_indexOf_1_20 : decode y_JS_indexOf_1.2.1 20 = .ok (.goto 16, 3) := op_goto (gk (k := 0) (t := 20) ck_JS_indexOf_1_0 rfl) (gk (k := 0) (t := 21) ck_JS_indexOf_1_0 rfl) (gk (k := 0) (t := 22) ck_JS_indexOf_1_0 rfl) (by decide +kernel)
theorem d_JS_indexOf_1_36 : decode y_JS_indexOf_1.2.1 36 = .ok (.ireturn, 1) := op_ireturn (gk (k := 32) (t := 4) ck_JS_indexOf_1_1 rfl)
abbrev y_JS_indexOf : MI := (⟨"java/lang/String", "indexOf", "(I)I"⟩, prog_14_method_79_code, 2, some .int)
theorem ck_JS_indexOf_0 : (y_JS_indexOf.2.1.data.toList.drop 0).take 32 = [42, 27, 3, 182, 2, 121, 172] := by decide +kernel
theorem d_JS_indexOf_0 : decode y_JS_indexOf.2.1 0 = .ok (.aload_n 0, 1) := op_aload_n0 (gk (k := 0) (t := 0) ck_JS_indexOf_0 rfl)
theorem d_JS_indexOf_1 : decode y_JS_indexOf.2.1 1 = .ok (.iload_n 1, 1) := op_iload_n1 (gk (k := 0) (t := 1) ck_JS_indexOf_0 rfl)
theorem d_JS_indexOf_2 : decode y_JS_indexOf.2.1 2 = .ok (.iconst 0, 1) := op_iconst0 (gk (k := 0) (t := 2) ck_JS_indexOf_0 rfl)
theorem lk_JS_633 : LkV "java/lang/String" 633 y_JS_indexOf_1 := ⟨tw_c3 34 (by decide +kernel) rfl, tw_c3 35 (by decide +kernel) rfl, Or.inl (tw_c3 33 (by decide +kernel) rfl)⟩
set_option maxRecDepth 100000 in
theorem mo_JS_indexOf_1 : MOk y_JS_indexOf_1 2 := ⟨by decide +kernel, tw_c3 36 rfl rfl, tw_c1 13 (by decide +kernel) rfl, by decide +kernel, by decide +kernel, by decide +kernel⟩
theorem d_JS_indexOf_3 : decode y_JS_indexOf.2.1 3 = .ok (.invokevirtual 633, 3) := op_invokevirtual (gk (k := 0) (t := 3) ck_JS_indexOf_0 rfl) (gk (k := 0) (t := 4) ck_JS_indexOf_0 rfl) (gk (k := 0) (t := 5) ck_JS_indexOf_0 rfl) rfl
theorem d_JS_indexOf_6 : decode y_JS_indexOf.2.1 6 = .ok (.ireturn, 1) := op_ireturn (gk (k := 0) (t := 6) ck_JS_indexOf_0 rfl)
abbrev y_JP_checkIndex : MI := (⟨"jdk/internal/util/Preconditions", "checkIndex", "(IILjava/util/function/BiFunction;)I"⟩, prog_19_method_11_code, 3, some .int)
theorem ck_JP_checkIndex_0 : (y_JP_checkIndex.2.1.data.toList.drop 0).take 32 = [26, 155, 0, 8, 26, 27, 161, 0, 10, 44, 26, 27, 184, 0, 95, 191, 26, 172] := by decide +kernel
theorem d_JP_checkIndex_0 : decode y_JP_checkIndex.2.1 0 = .ok (.iload_n 0, 1) := op_iload_n0 (gk (k := 0) (t := 0) ck_JP_checkIndex_0 rfl)
theorem d_JP_checkIndex_9 : decode y_JP_checkIndex.2.1 9 = .ok (.aload_n 2, 1) := op_aload_n2 (gk (k := 0) (t := 9) ck_JP_checkIndex_0 rfl)
theorem d_JP_checkIndex_10 : decode y_JP_checkIndex.2.1 10 = .ok (.iload_n 0, 1) := op_iload_n0 (gk (k := 0) (t := 10) ck_JP_checkIndex_0 rfl)
theorem d_JP_checkIndex_11 : decode y_JP_checkIndex.2.1 11 = .ok (.iload_n 1, 1) := op_iload_n1 (gk (k := 0) (t := 11) ck_JP_checkIndex_0 rfl)
theorem d_JP_checkIndex_1 : decode y_JP_checkIndex.2.1 1 = .ok (.ifCond .lt 8, 3) := op_if_lt (gk (k := 0) (t := 1) ck_JP_checkIndex_0 rfl) (gk (k := 0) (t := 2) ck_JP_checkIndex_0 rfl) (gk (k := 0) (t := 3) ck_JP_checkIndex_0 rfl) (by decide +kernel)
theorem d_JP_checkIndex_4 : decode y_JP_checkIndex.2.1 4 = .ok (.iload_n 0, 1) := op_iload_n0 (gk (k := 0) (t := 4) ck_JP_checkIndex_0 rfl)
theorem d_JP_checkIndex_5 : decode y_JP_checkIndex.2.1 5 = .ok (.iload_n 1, 1) := op_iload_n1 (gk (k := 0) (t := 5) ck_JP_checkIndex_0 rfl)
theorem d_JP_checkIndex_6 : decode y_JP_checkIndex.2.1 6 = .ok (.if_icmp .lt 10, 3) := op_icmp_lt (gk (k := 0) (t := 6) ck_JP_checkIndex_0 rfl) (gk (k := 0) (t := 7) ck_JP_checkIndex_0 rfl) (gk (k := 0) (t := 8) ck_JP_checkIndex_0 rfl) (by decide +kernel)
theorem d_JP_checkIndex_16 : decode y_JP_checkIndex.2.1 16 = .ok (.iload_n 0, 1) := op_iload_n0 (gk (k := 0) (t := 16) ck_JP_checkIndex_0 rfl)
theorem d_JP_checkIndex_17 : decode y_JP_checkIndex.2.1 17 = .ok (.ireturn, 1) := op_ireturn (gk (k := 0) (t := 17) ck_JP_checkIndex_0 rfl)
abbrev y_JS_checkIndex : MI := (⟨"java/lang/String", "checkIndex", "(II)V"⟩, prog_14_method_155_code, 2, none)
theorem ck_JS_checkIndex_0 : (y_JS_checkIndex.2.1.data.toList.drop 0).take 32 = [26, 27, 178, 4, 29, 184, 4, 35, 87, 177] := by decide +kernel
theorem d_JS_checkIndex_0 : decode y_JS_checkIndex.2.1 0 = .ok (.iload_n 0, 1) := op_iload_n0 (gk (k := 0) (t := 0) ck_JS_checkIndex_0 rfl)
theorem d_JS_checkIndex_1 : decode y_JS_checkIndex.2.1 1 = .ok (.iload_n 1, 1) := op_iload_n1 (gk (k := 0) (t := 1) ck_JS_checkIndex_0 rfl)
theorem gs_JS_1053 : Cond.fieldLink "java/lang/String" 1053 "jdk/internal/util/Preconditions" "SIOOBE_FORMATTER" "Ljava/util/function/BiFunction;" ∈ TW := tw_c2 230 (by decide +kernel) rfl
theorem d_JS_checkIndex_2 : decode y_JS_checkIndex.2.1 2 = .ok (.getstatic 1053, 3) := op_getstatic (gk (k := 0) (t := 2) ck_JS_checkIndex_0 rfl) (gk (k := 0) (t := 3) ck_JS_checkIndex_0 rfl) (gk (k := 0) (t := 4) ck_JS_checkIndex_0 rfl) rfl
theorem lk_JS_1059 : LkS "java/lang/String" 1059 y_JP_checkIndex := ⟨tw_c2 233 (by decide +kernel) rfl, Or.inl (tw_c2 232 (by decide +kernel) rfl)⟩
set_option maxRecDepth 100000 in
theorem mo_JP_checkIndex : MOk y_JP_checkIndex 3 := ⟨by decide +kernel, tw_c2 234 rfl rfl, tw_c1 15 (by decide +kernel) rfl, by decide +kernel, by decide +kernel, by decide +kernel⟩
theorem d_JS_checkIndex_5 : decode y_JS_checkIndex.2.1 5 = .ok (.invokestatic 1059, 3) := op_invokestatic (gk (k := 0) (t := 5) ck_JS_checkIndex_0 rfl) (gk (k := 0) (t := 6) ck_JS_checkIndex_0 rfl) (gk (k := 0) (t := 7) ck_JS_checkIndex_0 rfl) rfl
theorem d_JS_checkIndex_8 : decode y_JS_checkIndex.2.1 8 = .ok (.pop, 1) := op_pop (gk (k := 0) (t := 8) ck_JS_checkIndex_0 rfl)
theorem d_JS_checkIndex_9 : decode y_JS_checkIndex.2.1 9 = .ok (.return_, 1) := op_return_ (gk (k := 0) (t := 9) ck_JS_checkIndex_0 rfl)
abbrev y_JL_charAt : MI := (⟨"java/lang/StringLatin1", "charAt", "([BI)C"⟩, prog_15_method_2_code, 2, some .char)
theorem ck_JL_charAt_0 : (y_JL_charAt.2.1.data.toList.drop 0).take 32 = [27, 42, 190, 184, 0, 9, 42, 27, 51, 17, 0, 255, 126, 146, 172] := by decide +kernel
theorem d_JL_charAt_0 : decode y_JL_charAt.2.1 0 = .ok (.iload_n 1, 1) := op_iload_n1 (gk (k := 0) (t := 0) ck_JL_charAt_0 rfl)
theorem d_JL_charAt_1 : decode y_JL_charAt.2.1 1 = .ok (.aload_n 0, 1) := op_aload_n0 (gk (k := 0) (t := 1) ck_JL_charAt_0 rfl)
theorem d_JL_charAt_2 : decode y_JL_charAt.2.1 2 = .ok (.arraylength, 1) := op_arraylength (gk (k := 0) (t := 2) ck_JL_charAt_0 rfl)
theorem lk_JL_9 : LkS "java/lang/StringLatin1" 9 y_JS_checkIndex := ⟨tw_c2 228 (by decide +kernel) rfl, Or.inl (tw_c2 227 (by decide +kernel) rfl)⟩
set_option maxRecDepth 100000 in
theorem mo_JS_checkIndex : MOk y_JS_checkIndex 2 := ⟨by decide +kernel, tw_c2 229 rfl rfl, tw_c1 13 (by decide +kernel) rfl, by decide +kernel, by decide +kernel, by decide +kernel⟩
theorem d_JL_charAt_3 : decode y_JL_charAt.2.1 3 = .ok (.invokestatic 9, 3) := op_invokestatic (gk (k := 0) (t := 3) ck_JL_charAt_0 rfl) (gk (k := 0) (t := 4) ck_JL_charAt_0 rfl) (gk (k := 0) (t := 5) ck_JL_charAt_0 rfl) rfl
theorem d_JL_charAt_6 : decode y_JL_charAt.2.1 6 = .ok (.aload_n 0, 1) := op_aload_n0 (gk (k := 0) (t := 6) ck_JL_charAt_0 rfl)
theorem d_JL_charAt_7 : decode y_JL_charAt.2.1 7 = .ok (.iload_n 1, 1) := op_iload_n1 (gk (k := 0) (t := 7) ck_JL_charAt_0 rfl)
theorem d_JL_charAt_8 : decode y_JL_charAt.2.1 8 = .ok (.baload, 1) := op_baload (gk (k := 0) (t := 8) ck_JL_charAt_0 rfl)
theorem d_JL_charAt_9 : decode y_JL_charAt.2.1 9 = .ok (.sipush 255, 3) := op_sipush (gk (k := 0) (t := 9) ck_JL_charAt_0 rfl) (gk (k := 0) (t := 10) ck_JL_charAt_0 rfl) (gk (k := 0) (t := 11) ck_JL_charAt_0 rfl) (by decide +kernel)
theorem d_JL_charAt_12 : decode y_JL_charAt.2.1 12 = .ok (.iand, 1) := op_iand (gk (k := 0) (t := 12) ck_JL_charAt_0 rfl)
theorem d_JL_charAt_13 : decode y_JL_charAt.2.1 13 = .ok (.i2c, 1) := by decide +kernel
theorem d_JL_charAt_14 : decode y_JL_charAt.2.1 14 = .ok (.ireturn, 1) := op_ireturn (gk (k := 0) (t := 14) ck_JL_charAt_0 rfl)
abbrev y_JS_charAt : MI := (⟨"java/lang/String", "charAt", "(I)C"⟩, prog_14_method_56_code, 2, some .char)
theorem ck_JS_charAt_0 : (y_JS_charAt.2.1.data.toList.drop 0).take 32 = [42, 182, 1, 236, 153, 0, 12, 42, 180, 0, 9, 27, 184, 1, 239, 172, 42, 180, 0, 9, 27, 184, 1, 242, 172] := by decide +kernel
theorem d_JS_charAt_0 : decode y_JS_charAt.2.1 0 = .ok (.aload_n 0, 1) := op_aload_n0 (gk (k := 0) (t := 0) ck_JS_charAt_0 rfl)
theorem d_JS_charAt_1 : decode y_JS_charAt.2.1 1 = .ok (.invokevirtual 492, 3) := op_invokevirtual (gk (k := 0) (t := 1) ck_JS_charAt_0 rfl) (gk (k := 0) (t := 2) ck_JS_charAt_0 rfl) (gk (k := 0) (t := 3) ck_JS_charAt_0 rfl) rfl
theorem d_JS_charAt_4 : decode y_JS_charAt.2.1 4 = .ok (.ifCond .eq 12, 3) := op_if_eq (gk (k := 0) (t := 4) ck_JS_charAt_0 rfl) (gk (k := 0) (t := 5) ck_JS_charAt_0 rfl) (gk (k := 0) (t := 6) ck_JS_charAt_0 rfl) (by decide +kernel)
theorem d_JS_charAt_16 : decode y_JS_charAt.2.1 16 = .ok (.aload_n 0, 1) := op_aload_n0 (gk (k := 0) (t := 16) ck_JS_charAt_0 rfl)
theorem d_JS_charAt_17 : decode y_JS_charAt.2.1 17 = .ok (.getfield 9, 3) := op_getfield (gk (k := 0) (t := 17) ck_JS_charAt_0 rfl) (gk (k := 0) (t := 18) ck_JS_charAt_0 rfl) (gk (k := 0) (t := 19) ck_JS_charAt_0 rfl) rfl
theorem d_JS_charAt_20 : decode y_JS_charAt.2.1 20 = .ok (.iload_n 1, 1) := op_iload_n1 (gk (k := 0) (t := 20) ck_JS_charAt_0 rfl)
theorem d_JS_charAt_7 : decode y_JS_charAt.2.1 7 = .ok (.aload_n 0, 1) := op_aload_n0 (gk (k := 0) (t := 7) ck_JS_charAt_0 rfl)
theorem d_JS_charAt_8 : decode y_JS_charAt.2.1 8 = .ok (.getfield 9, 3) := op_getfield (gk (k := 0) (t := 8) ck_JS_charAt_0 rfl) (gk (k := 0) (t := 9) ck_JS_charAt_0 rfl) (gk (k := 0) (t := 10) ck_JS_charAt_0 rfl) rfl
theorem d_JS_charAt_11 : decode y_JS_charAt.2.1 11 = .ok (.iload_n 1, 1) := op_iload_n1 (gk (k := 0) (t := 11) ck_JS_charAt_0 rfl)
theorem lk_JS_495 : LkS "java/lang/String" 495 y_JL_charAt := ⟨tw_c2 225 (by decide +kernel) rfl, Or.inl (tw_c2 224 (by decide +kernel) rfl)⟩
set_option maxRecDepth 100000 in
theorem mo_JL_charAt : MOk y_JL_charAt 2 := ⟨by decide +kernel, tw_c2 226 rfl rfl, tw_c1 14 (by decide +kernel) rfl, by decide +kernel, by decide +kernel, by decide +kernel⟩
theorem d_JS_charAt_12 : decode y_JS_charAt.2.1 12 = .ok (.invokestatic 495, 3) := op_invokestatic (gk (k := 0) (t := 12) ck_JS_charAt_0 rfl) (gk (k := 0) (t := 13) ck_JS_charAt_0 rfl) (gk (k := 0) (t := 14) ck_JS_charAt_0 rfl) rfl
theorem d_JS_charAt_15 : decode y_JS_charAt.2.1 15 = .ok (.ireturn, 1) := op_ireturn (gk (k := 0) (t := 15) ck_JS_charAt_0 rfl)
abbrev y_JM_floorMod : MI := (⟨"java/lang/Math", "floorMod", "(II)I"⟩, prog_13_method_50_code, 3, some .int)
theorem ck_JM_floorMod_0 : (y_JM_floorMod.2.1.data.toList.drop 0).take 32 = [26, 27, 112, 61, 26, 27, 130, 156, 0, 11, 28, 153, 0, 7, 28, 27, 96, 172, 28, 172] := by decide +kernel
theorem d_JM_floorMod_0 : decode y_JM_floorMod.2.1 0 = .ok (.iload_n 0, 1) := op_iload_n0 (gk (k := 0) (t := 0) ck_JM_floorMod_0 rfl)
theorem d_JM_floorMod_1 : decode y_JM_floorMod.2.1 1 = .ok (.iload_n 1, 1) := op_iload_n1 (gk (k := 0) (t := 1) ck_JM_floorMod_0 rfl)
theorem d_JM_floorMod_2 : decode y_JM_floorMod.2.1 2 = .ok (.irem, 1) := op_irem (gk (k := 0) (t := 2) ck_JM_floorMod_0 rfl)
theorem d_JM_floorMod_3 : decode y_JM_floorMod.2.1 3 = .ok (.istore_n 2, 1) := op_istore_n2 (gk (k := 0) (t := 3) ck_JM_floorMod_0 rfl)
theorem d_JM_floorMod_4 : decode y_JM_floorMod.2.1 4 = .ok (.iload_n 0, 1) := op_iload_n0 (gk (k := 0) (t := 4) ck_JM_floorMod_0 rfl)
theorem d_JM_floorMod_5 : decode y_JM_floorMod.2.1 5 = .ok (.iload_n 1, 1) := op_iload_n1 (gk (k := 0) (t := 5) ck_JM_floorMod_0 rfl)
theorem d_JM_floorMod_6 : decode y_JM_floorMod.2.1 6 = .ok (.ixor, 1) := op_ixor (gk (k := 0) (t := 6) ck_JM_floorMod_0 rfl)
theorem d_JM_floorMod_7 : decode y_JM_floorMod.2.1 7 = .ok (.ifCond .ge 11, 3) := op_if_ge (gk (k := 0) (t := 7) ck_JM_floorMod_0 rfl) (gk (k := 0) (t := 8) ck_JM_floorMod_0 rfl) (gk (k := 0) (t := 9) ck_JM_floorMod_0 rfl) (by decide +kernel)
theorem d_JM_floorMod_18 : decode y_JM_floorMod.2.1 18 = .ok (.iload_n 2, 1) := op_iload_n2 (gk (k := 0) (t := 18) ck_JM_floorMod_0 rfl)
theorem d_JM_floorMod_19 : decode y_JM_floorMod.2.1 19 = .ok (.ireturn, 1) := op_ireturn (gk (k := 0) (t := 19) ck_JM_floorMod_0 rfl)
theorem d_JM_floorMod_10 : decode y_JM_floorMod.2.1 10 = .ok (.iload_n 2, 1) := op_iload_n2 (gk (k := 0) (t := 10) ck_JM_floorMod_0 rfl)
theorem d_JM_floorMod_11 : decode y_JM_floorMod.2.1 11 = .ok (.ifCond .eq 7, 3) := op_if_eq (gk (k := 0) (t := 11) ck_JM_floorMod_0 rfl) (gk (k := 0) (t := 12) ck_JM_floorMod_0 rfl) (gk (k := 0) (t := 13) ck_JM_floorMod_0 rfl) (by decide +kernel)
theorem d_JM_floorMod_14 : decode y_JM_floorMod.2.1 14 = .ok (.iload_n 2, 1) := op_iload_n2 (gk (k := 0) (t := 14) ck_JM_floorMod_0 rfl)
theorem d_JM_floorMod_15 : decode y_JM_floorMod.2.1 15 = .ok (.iload_n 1, 1) := op_iload_n1 (gk (k := 0) (t := 15) ck_JM_floorMod_0 rfl)
theorem d_JM_floorMod_16 : decode y_JM_floorMod.2.1 16 = .ok (.iadd, 1) := op_iadd (gk (k := 0) (t := 16) ck_JM_floorMod_0 rfl)
theorem d_JM_floorMod_17 : decode y_JM_floorMod.2.1 17 = .ok (.ireturn, 1) := op_ireturn (gk (k := 0) (t := 17) ck_JM_floorMod_0 rfl)
def fb_JA_fill_5 (fu : Nat) (o0 n0 : Nat) (p1 : Int) (p3 : Int) (R_ : Int → IMem → Res) (w2 : Int) (I0 : IMem) : Res :=
  if w2 < p3 then (
      zg (0 ≤ w2 ∧ w2 < n0) (zw I0 o0 w2.toNat p1 fun I2 =>
      zl (wr32 (w2 + 1)) fun x3 =>
      R_ x3 I2))
    else (
      zr 0 I0)
def f_JA_fill_5 (fu : Nat) (o0 n0 : Nat) (p1 : Int) (p3 : Int) : Nat → Int → IMem → Res
 | 0 => fun _ _ => none
 | n + 1 => fb_JA_fill_5 fu o0 n0 p1 p3 (f_JA_fill_5 fu o0 n0 p1 p3 n)
def f_JA_fill (fu : Nat) (o0 n0 : Nat) (a1 : Int) (I0 : IMem) : Res :=
  zl ((n0 : Int)) fun x1 =>
    f_JA_fill_5 fu  o0 n0 a1 x1 fu 0 I0
def f_JL_canEncode (fu : Nat) (a0 : Int) (I0 : IMem) : Res :=
  if a0 < 0 then (
      zr 0 I0)
    else (
      if 255 < a0 then (
        zr 0 I0)
      else (
        zr 1 I0))
def fb_JL_indexOfChar_7 (fu : Nat) (s0 : Nat) (p3 : Int) (p4 : Int) (R_ : Int → IMem → Res) (w5 : Int) (I0 : IMem) : Res :=
  if w5 < p3 then (
      zg (0 ≤ w5 ∧ w5 < (lenJ.getD s0 0 : Nat)) (
      if bytZ s0 w5.toNat = p4 then (
        zr w5 I0)
      else (
        zl (wr32 (w5 + 1)) fun x2 =>
        R_ x2 I0)))
    else (
      zr ((-1)) I0)
def f_JL_indexOfChar_7 (fu : Nat) (s0 : Nat) (p3 : Int) (p4 : Int) : Nat → Int → IMem → Res
 | 0 => fun _ _ => none
 | n + 1 => fb_JL_indexOfChar_7 fu s0 p3 p4 (f_JL_indexOfChar_7 fu s0 p3 p4 n)
def f_JL_indexOfChar (fu : Nat) (s0 : Nat) (a1 : Int) (a2 : Int) (a3 : Int) (I0 : IMem) : Res :=
  zl (wi2b a1) fun x1 =>
    f_JL_indexOfChar_7 fu  s0 a3 x1 fu a2 I0
def f_JM_max (fu : Nat) (a0 : Int) (a1 : Int) (I0 : IMem) : Res :=
  if a0 < a1 then (
      zr a1 I0)
    else (
      zr a0 I0)
def f_JM_min (fu : Nat) (a0 : Int) (a1 : Int) (I0 : IMem) : Res :=
  if a1 < a0 then (
      zr a1 I0)
    else (
      zr a0 I0)
def f_JL_indexOf (fu : Nat) (s0 : Nat) (a1 : Int) (a2 : Int) (a3 : Int) (I0 : IMem) : Res :=
  zb (f_JL_canEncode fu a1 I0) fun y1 I2 =>
    if y1 = 0 then (
      zr ((-1)) I2)
    else (
      zb (f_JM_max fu a2 0 I2) fun y4 I5 =>
      zb (f_JM_min fu a3 ((lenJ.getD s0 0 : Nat)) I5) fun y7 I8 =>
      if y4 < y7 then (
        zb (f_JL_indexOfChar fu s0 a1 y4 y7 I8) fun y10 I11 =>
        zr y10 I11)
      else (
        zr ((-1)) I8))
def f_JS_isLatin1 (fu : Nat) (s0 : Nat) (I0 : IMem) : Res :=
  zr 1 I0
def f_JS_coder (fu : Nat) (s0 : Nat) (I0 : IMem) : Res :=
  zr 0 I0
def f_JS_length (fu : Nat) (s0 : Nat) (I0 : IMem) : Res :=
  zb (f_JS_coder fu s0 I0) fun y1 I2 =>
    zr (wshr ((lenJ.getD s0 0 : Nat)) y1) I2
def f_JS_indexOf_1 (fu : Nat) (s0 : Nat) (a1 : Int) (a2 : Int) (I0 : IMem) : Res :=
  zb (f_JS_isLatin1 fu s0 I0) fun y1 I2 =>
    if y1 = 0 then (
      zb (f_JS_length fu s0 I2) fun y4 I5 =>
      none)
    else (
      zb (f_JS_length fu s0 I2) fun y7 I8 =>
      zb (f_JL_indexOf fu s0 a1 a2 y7 I8) fun y10 I11 =>
      zr y10 I11)
def f_JS_indexOf (fu : Nat) (s0 : Nat) (a1 : Int) (I0 : IMem) : Res :=
  zb (f_JS_indexOf_1 fu s0 a1 0 I0) fun y1 I2 =>
    zr y1 I2
def f_JP_checkIndex (fu : Nat) (a0 : Int) (a1 : Int) (I0 : IMem) : Res :=
  zj (fun  (I2 : IMem) =>
        none) fun k1 =>
      if a0 < 0 then (
        k1 I0)
      else (
        if a0 < a1 then (
          zr a0 I0)
        else (
          k1 I0))
def f_JS_checkIndex (fu : Nat) (a0 : Int) (a1 : Int) (I0 : IMem) : Res :=
  zb (f_JP_checkIndex fu a0 a1 I0) fun y2 I3 =>
    zr 0 I3
def f_JL_charAt (fu : Nat) (s0 : Nat) (a1 : Int) (I0 : IMem) : Res :=
  zb (f_JS_checkIndex fu a1 ((lenJ.getD s0 0 : Nat)) I0) fun _ I2 =>
    zg (0 ≤ a1 ∧ a1 < (lenJ.getD s0 0 : Nat)) (
    zg (0 ≤ wi2c (wand (bytZ s0 a1.toNat) 255) ∧ wi2c (wand (bytZ s0 a1.toNat) 255) < 65536) (zr (wi2c (wand (bytZ s0 a1.toNat) 255)) I2))
def f_JS_charAt (fu : Nat) (s0 : Nat) (a1 : Int) (I0 : IMem) : Res :=
  zb (f_JS_isLatin1 fu s0 I0) fun y1 I2 =>
    if y1 = 0 then (
      none)
    else (
      zb (f_JL_charAt fu s0 a1 I2) fun y4 I5 =>
      zg (0 ≤ y4 ∧ y4 < 65536) (zr y4 I5))
def f_JM_floorMod (fu : Nat) (a0 : Int) (a1 : Int) (I0 : IMem) : Res :=
  zg (a1 ≠ 0) (
    zl (wrem a0 a1) fun x1 =>
    if wxor a0 a1 < 0 then (
      if x1 = 0 then (
        zr x1 I0)
      else (
        zr (wr32 (x1 + a1)) I0))
    else (
      zr x1 I0))
section
variable {l : Launch} {b : PB}
set_option maxRecDepth 20000 in
theorem t_JA_fill_5 {Ks : List (Nat × Nat)} {G : Nat → Nat → Option Nat} (fu : Nat) {r : Int × IMem} (o0 n0 : Nat) (p1 : Int) (p3 : Int) (h_o0 : Ks[o0]? = some (0, n0) ∧ n0 < 1000000) (h_p1 : inr p1) (h_p3 : inr p3) : ∀ (m : Nat) (w2 : Int) (I0 : IMem), inr w2 → RG I0 → f_JA_fill_5 fu o0 n0 p1 p3 m w2 I0 = some r → Ai l b 1 y_JA_fill Ks G (Pv r) I0 5 [.ref o0, .int (iv p1), .int (iv w2), .int (iv p3)] [] := by
  intro m
  induction m with
  | zero => intro w2 I0 h_w2 h_I0 hf; cases hf
  | succ m ih =>
    intro w2 I0 h_w2 h_I0 hf
    replace hf : fb_JA_fill_5 fu o0 n0 p1 p3 (f_JA_fill_5 fu o0 n0 p1 p3 m) w2 I0 = some r := hf
    unfold fb_JA_fill_5 at hf
    refine aw_iload_n rfl rfl d_JA_fill_5 (aw_iload_n rfl rfl d_JA_fill_6 ?_)
    refine ai_icmp_ge h_w2 h_p3 hf (tgt := 20) (by decide) d_JA_fill_7 (fun hf => ?_) (fun hf => ?_)
    · exact ai_retv rfl d_JA_fill_20 hf h_I0
    · refine aw_aload_n rfl rfl d_JA_fill_10 (aw_iload_n rfl rfl d_JA_fill_11 (aw_iload_n rfl rfl d_JA_fill_12 ?_))
      refine ai_iast h_o0.1 rfl h_w2 h_p1 h_I0 hf d_JA_fill_13 (fun _ I2 h_I2 hf => ?_)
      refine ai_iinc (n := 1) (lv2 := fun x3 => [.ref o0, .int (iv p1), .int (iv x3), .int (iv p3)]) hf rfl (Nat.le_of_ble_eq_true rfl) (fun _ => rfl) d_JA_fill_14 (fun x3 h_x3 hf => ?_)
      refine aw_goto (tgt := 5) (by decide) d_JA_fill_17 ?_
      exact ih x3 I2 h_x3 h_I2 hf
set_option maxRecDepth 20000 in
theorem t_JA_fill {Ks : List (Nat × Nat)} {G : Nat → Nat → Option Nat} (fu : Nat) (o0 n0 : Nat) (a1 : Int) (I0 : IMem) (hI : RG I0) (h_o0 : Ks[o0]? = some (0, n0) ∧ n0 < 1000000) (h_a1 : inr a1) {r : Int × IMem} (hf : f_JA_fill fu o0 n0 a1 I0 = some r) : Ss l b 1 y_JA_fill Ks G [.ref o0, .int (iv a1)] (ivm I0) (Pv r) := by
  unfold f_JA_fill at hf
  refine Ss.of (show Ai l b 1 y_JA_fill Ks G (Pv r) I0 0 [.ref o0, .int (iv a1), uu, uu] [] from ?_)
  refine aw_iconst (v := iv 0) rfl d_JA_fill_0 (aw_istore_n (lv2 := [.ref o0, .int (iv a1), .int (iv 0), uu]) rfl (Nat.le_of_ble_eq_true rfl) rfl d_JA_fill_1 (aw_aload_n rfl rfl d_JA_fill_2 (ai_alen (N := n0) h_o0.1 (by decide) rfl h_o0.2 d_JA_fill_3 ?_)))
  refine ai_name hf (nat_in h_o0.2) (fun x1 h_x1 hf => ?_)
  refine aw_istore_n (lv2 := [.ref o0, .int (iv a1), .int (iv 0), .int (iv x1)]) rfl (Nat.le_of_ble_eq_true rfl) rfl d_JA_fill_4 ?_
  refine t_JA_fill_5 fu o0 n0 a1 x1 h_o0 h_a1 h_x1 fu 0 I0 in_0 hI hf
set_option maxRecDepth 20000 in
theorem t_JL_canEncode {Ks : List (Nat × Nat)} {G : Nat → Nat → Option Nat} (fu : Nat) (a0 : Int) (I0 : IMem) (hI : RG I0) (h_a0 : inr a0) {r : Int × IMem} (hf : f_JL_canEncode fu a0 I0 = some r) : Ss l b 1 y_JL_canEncode Ks G [.int (iv a0)] (ivm I0) (Ps r) := by
  unfold f_JL_canEncode at hf
  refine Ss.of (show Ai l b 1 y_JL_canEncode Ks G (Ps r) I0 0 [.int (iv a0)] [] from ?_)
  refine aw_iload_n rfl rfl d_JL_canEncode_0 ?_
  refine ai_if_lt h_a0 hf (tgt := 15) (by decide) d_JL_canEncode_1 (fun hf => ?_) (fun hf => ?_)
  · refine aw_iconst (v := iv 0) rfl d_JL_canEncode_15 ?_
    exact ai_retn rfl (nar_z (Or.inl rfl)) d_JL_canEncode_16 hf in_0 hI
  · refine aw_iload_n rfl rfl d_JL_canEncode_4 (aw_sipush (v := iv 255) cs_255 d_JL_canEncode_5 ?_)
    refine ai_icmp_gt h_a0 in_255 hf (tgt := 15) (by decide) d_JL_canEncode_8 (fun hf => ?_) (fun hf => ?_)
    · refine aw_iconst (v := iv 0) rfl d_JL_canEncode_15 ?_
      exact ai_retn rfl (nar_z (Or.inl rfl)) d_JL_canEncode_16 hf in_0 hI
    · refine aw_iconst (v := iv 1) rfl d_JL_canEncode_11 (aw_goto (tgt := 16) (by decide) d_JL_canEncode_12 ?_)
      exact ai_retn rfl (nar_z (Or.inr rfl)) d_JL_canEncode_16 hf in_1 hI
set_option maxRecDepth 20000 in
theorem t_JL_indexOfChar_7 {Ks : List (Nat × Nat)} {G : Nat → Nat → Option Nat} (fu : Nat) {r : Int × IMem} (s0 : Nat) (p3 : Int) (p4 : Int) (h_s0 : s0 < 18) (h_p3 : inr p3) (h_p4 : inr p4) : ∀ (m : Nat) (w5 : Int) (I0 : IMem), inr w5 → RG I0 → f_JL_indexOfChar_7 fu s0 p3 p4 m w5 I0 = some r → Ai l b 1 y_JL_indexOfChar Ks G (Ps r) I0 7 [.ref (1021 + s0), uu, uu, .int (iv p3), .int (iv p4), .int (iv w5)] [] := by
  intro m
  induction m with
  | zero => intro w5 I0 h_w5 h_I0 hf; cases hf
  | succ m ih =>
    intro w5 I0 h_w5 h_I0 hf
    replace hf : fb_JL_indexOfChar_7 fu s0 p3 p4 (f_JL_indexOfChar_7 fu s0 p3 p4 m) w5 I0 = some r := hf
    unfold fb_JL_indexOfChar_7 at hf
    refine aw_iload rfl d_JL_indexOfChar_7 (aw_iload_n rfl rfl d_JL_indexOfChar_9 ?_)
    refine ai_icmp_ge h_w5 h_p3 hf (tgt := 31) (by decide) d_JL_indexOfChar_10 (fun hf => ?_) (fun hf => ?_)
    · refine aw_iconst (v := iv (-1)) rfl d_JL_indexOfChar_31 ?_
      exact ai_reti rfl d_JL_indexOfChar_32 hf in_m1 h_I0
    · refine aw_aload_n rfl rfl d_JL_indexOfChar_13 (aw_iload rfl d_JL_indexOfChar_14 ?_)
      refine ai_bytA h_s0 h_w5 hf d_JL_indexOfChar_16 (fun _ hf => ?_)
      refine aw_iload rfl d_JL_indexOfChar_17 ?_
      refine ai_icmp_ne (bytZ_in _ _) h_p4 hf (tgt := 25) (by decide) d_JL_indexOfChar_19 (fun hf => ?_) (fun hf => ?_)
      · refine ai_iinc (n := 1) (lv2 := fun x2 => [.ref (1021 + s0), uu, uu, .int (iv p3), .int (iv p4), .int (iv x2)]) hf rfl (Nat.le_of_ble_eq_true rfl) (fun _ => rfl) d_JL_indexOfChar_25 (fun x2 h_x2 hf => ?_)
        refine aw_goto (tgt := 7) (by decide) d_JL_indexOfChar_28 ?_
        exact ih x2 I0 h_x2 h_I0 hf
      · refine aw_iload rfl d_JL_indexOfChar_22 ?_
        exact ai_reti rfl d_JL_indexOfChar_24 hf h_w5 h_I0
set_option maxRecDepth 20000 in
theorem t_JL_indexOfChar {Ks : List (Nat × Nat)} {G : Nat → Nat → Option Nat} (fu : Nat) (s0 : Nat) (a1 : Int) (a2 : Int) (a3 : Int) (I0 : IMem) (hI : RG I0) (h_s0 : s0 < 18) (h_a1 : inr a1) (h_a2 : inr a2) (h_a3 : inr a3) {r : Int × IMem} (hf : f_JL_indexOfChar fu s0 a1 a2 a3 I0 = some r) : Ss l b 1 y_JL_indexOfChar Ks G [.ref (1021 + s0), .int (iv a1), .int (iv a2), .int (iv a3)] (ivm I0) (Ps r) := by
  unfold f_JL_indexOfChar at hf
  refine Ss.of (show Ai l b 1 y_JL_indexOfChar Ks G (Ps r) I0 0 [.ref (1021 + s0), .int (iv a1), .int (iv a2), .int (iv a3), uu, uu] [] from ?_)
  refine aw_iload_n rfl rfl d_JL_indexOfChar_0 (ai_i2b d_JL_indexOfChar_1 ?_)
  refine ai_name hf (wi2b_in _) (fun x1 h_x1 hf => ?_)
  refine aw_istore (lv2 := [.ref (1021 + s0), .int (iv a1), .int (iv a2), .int (iv a3), .int (iv x1), uu]) (Nat.le_of_ble_eq_true rfl) rfl d_JL_indexOfChar_2 ?_
  refine aw_iload_n rfl rfl d_JL_indexOfChar_4 (aw_istore (lv2 := [.ref (1021 + s0), .int (iv a1), .int (iv a2), .int (iv a3), .int (iv x1), .int (iv a2)]) (Nat.le_of_ble_eq_true rfl) rfl d_JL_indexOfChar_5 ?_)
  refine aw_weakB (lv2 := [.ref (1021 + s0), uu, uu, .int (iv a3), .int (iv x1), .int (iv a2)]) (wk_s (wk_u (wk_u (wk_s (wk_s (wk_s wk_n)))))) ?_
  refine t_JL_indexOfChar_7 fu s0 a3 x1 h_s0 h_a3 h_x1 fu a2 I0 h_a2 hI hf
set_option maxRecDepth 20000 in
theorem t_JM_max {Ks : List (Nat × Nat)} {G : Nat → Nat → Option Nat} (fu : Nat) (a0 : Int) (a1 : Int) (I0 : IMem) (hI : RG I0) (h_a0 : inr a0) (h_a1 : inr a1) {r : Int × IMem} (hf : f_JM_max fu a0 a1 I0 = some r) : Ss l b 1 y_JM_max Ks G [.int (iv a0), .int (iv a1)] (ivm I0) (Ps r) := by
  unfold f_JM_max at hf
  refine Ss.of (show Ai l b 1 y_JM_max Ks G (Ps r) I0 0 [.int (iv a0), .int (iv a1)] [] from ?_)
  refine aw_iload_n rfl rfl d_JM_max_0 (aw_iload_n rfl rfl d_JM_max_1 ?_)
  refine ai_icmp_lt h_a0 h_a1 hf (tgt := 9) (by decide) d_JM_max_2 (fun hf => ?_) (fun hf => ?_)
  · refine aw_iload_n rfl rfl d_JM_max_9 ?_
    exact ai_reti rfl d_JM_max_10 hf h_a1 hI
  · refine aw_iload_n rfl rfl d_JM_max_5 (aw_goto (tgt := 10) (by decide) d_JM_max_6 ?_)
    exact ai_reti rfl d_JM_max_10 hf h_a0 hI
set_option maxRecDepth 20000 in
theorem t_JM_min {Ks : List (Nat × Nat)} {G : Nat → Nat → Option Nat} (fu : Nat) (a0 : Int) (a1 : Int) (I0 : IMem) (hI : RG I0) (h_a0 : inr a0) (h_a1 : inr a1) {r : Int × IMem} (hf : f_JM_min fu a0 a1 I0 = some r) : Ss l b 1 y_JM_min Ks G [.int (iv a0), .int (iv a1)] (ivm I0) (Ps r) := by
  unfold f_JM_min at hf
  refine Ss.of (show Ai l b 1 y_JM_min Ks G (Ps r) I0 0 [.int (iv a0), .int (iv a1)] [] from ?_)
  refine aw_iload_n rfl rfl d_JM_min_0 (aw_iload_n rfl rfl d_JM_min_1 ?_)
  refine ai_icmp_gt h_a0 h_a1 hf (tgt := 9) (by decide) d_JM_min_2 (fun hf => ?_) (fun hf => ?_)
  · refine aw_iload_n rfl rfl d_JM_min_9 ?_
    exact ai_reti rfl d_JM_min_10 hf h_a1 hI
  · refine aw_iload_n rfl rfl d_JM_min_5 (aw_goto (tgt := 10) (by decide) d_JM_min_6 ?_)
    exact ai_reti rfl d_JM_min_10 hf h_a0 hI
set_option maxRecDepth 20000 in
theorem t_JL_indexOf {Ks : List (Nat × Nat)} {G : Nat → Nat → Option Nat} (fu : Nat) (s0 : Nat) (a1 : Int) (a2 : Int) (a3 : Int) (I0 : IMem) (hI : RG I0) (h_s0 : s0 < 18) (h_a1 : inr a1) (h_a2 : inr a2) (h_a3 : inr a3) {r : Int × IMem} (hf : f_JL_indexOf fu s0 a1 a2 a3 I0 = some r) : Ss l b 2 y_JL_indexOf Ks G [.ref (1021 + s0), .int (iv a1), .int (iv a2), .int (iv a3)] (ivm I0) (Ps r) := by
  unfold f_JL_indexOf at hf
  refine Ss.of (show Ai l b 2 y_JL_indexOf Ks G (Ps r) I0 0 [.ref (1021 + s0), .int (iv a1), .int (iv a2), .int (iv a3)] [] from ?_)
  refine aw_iload_n rfl rfl d_JL_indexOf_0 ?_
  obtain ⟨y1, I2, c3, hf⟩ := of_zb hf
  refine ai_callS (as := [.int (iv a1)]) (d' := 1) mo_JL_canEncode lk_JL_88 rfl ⟨by decide, by decide⟩ rfl rfl (by decide) d_JL_indexOf_1 (t_JL_canEncode fu a1 I0 hI h_a1 c3) (fun h_y1 h_I2 => ?_)
  refine ai_if_ne h_y1 hf (tgt := 9) (by decide) d_JL_indexOf_4 (fun hf => ?_) (fun hf => ?_)
  · refine aw_iload_n rfl rfl d_JL_indexOf_9 (aw_iconst (v := iv 0) rfl d_JL_indexOf_10 ?_)
    obtain ⟨y4, I5, c6, hf⟩ := of_zb hf
    refine ai_callS (as := [.int (iv a2), .int (iv 0)]) (d' := 1) mo_JM_max lk_JL_92 rfl ⟨by decide, by decide⟩ rfl rfl (by decide) d_JL_indexOf_11 (t_JM_max fu a2 0 I2 h_I2 h_a2 in_0 c6) (fun h_y4 h_I5 => ?_)
    refine aw_istore_n (lv2 := [.ref (1021 + s0), .int (iv a1), .int (iv y4), .int (iv a3)]) rfl (Nat.le_of_ble_eq_true rfl) rfl d_JL_indexOf_14 (aw_iload_n rfl rfl d_JL_indexOf_15 (aw_aload_n rfl rfl d_JL_indexOf_16 (ai_bytL h_s0 d_JL_indexOf_17 ?_)))
    obtain ⟨y7, I8, c9, hf⟩ := of_zb hf
    refine ai_callS (as := [.int (iv a3), .int (iv ((lenJ.getD s0 0 : Nat)))]) (d' := 1) mo_JM_min lk_JL_38 rfl ⟨by decide, by decide⟩ rfl rfl (by decide) d_JL_indexOf_18 (t_JM_min fu a3 ((lenJ.getD s0 0 : Nat)) I5 h_I5 h_a3 (lenJ_in h_s0) c9) (fun h_y7 h_I8 => ?_)
    refine aw_istore_n (lv2 := [.ref (1021 + s0), .int (iv a1), .int (iv y4), .int (iv y7)]) rfl (Nat.le_of_ble_eq_true rfl) rfl d_JL_indexOf_21 (aw_iload_n rfl rfl d_JL_indexOf_22 (aw_iload_n rfl rfl d_JL_indexOf_23 ?_))
    refine ai_icmp_lt h_y4 h_y7 hf (tgt := 29) (by decide) d_JL_indexOf_24 (fun hf => ?_) (fun hf => ?_)
    · refine aw_aload_n rfl rfl d_JL_indexOf_29 (aw_iload_n rfl rfl d_JL_indexOf_30 (aw_iload_n rfl rfl d_JL_indexOf_31 (aw_iload_n rfl rfl d_JL_indexOf_32 ?_)))
      obtain ⟨y10, I11, c12, hf⟩ := of_zb hf
      refine ai_callS (as := [.ref (1021 + s0), .int (iv a1), .int (iv y4), .int (iv y7)]) (d' := 1) mo_JL_indexOfChar lk_JL_95 rfl ⟨by decide, by decide⟩ rfl rfl (by decide) d_JL_indexOf_33 (t_JL_indexOfChar fu s0 a1 y4 y7 I8 h_I8 h_s0 h_a1 h_y4 h_y7 c12) (fun h_y10 h_I11 => ?_)
      exact ai_reti rfl d_JL_indexOf_36 hf h_y10 h_I11
    · refine aw_iconst (v := iv (-1)) rfl d_JL_indexOf_27 ?_
      exact ai_reti rfl d_JL_indexOf_28 hf in_m1 h_I8
  · refine aw_iconst (v := iv (-1)) rfl d_JL_indexOf_7 ?_
    exact ai_reti rfl d_JL_indexOf_8 hf in_m1 h_I2
set_option maxRecDepth 20000 in
theorem t_JS_isLatin1 {Ks : List (Nat × Nat)} {G : Nat → Nat → Option Nat} (fu : Nat) (s0 : Nat) (I0 : IMem) (hI : RG I0) (h_s0 : s0 < 18) {r : Int × IMem} (hf : f_JS_isLatin1 fu s0 I0 = some r) : Ss l b 1 y_JS_isLatin1 Ks G [.ref (1003 + s0)] (ivm I0) (Ps r) := by
  unfold f_JS_isLatin1 at hf
  refine Ss.of (show Ai l b 1 y_JS_isLatin1 Ks G (Ps r) I0 0 [.ref (1003 + s0)] [] from ?_)
  refine aw_compact gs_JS_38 d_JS_isLatin1_0 ?_
  refine aw_if_eq (tgt := 17) (by decide) d_JS_isLatin1_3 (fun q => absurd q (by decide +kernel)) (fun _ => ?_)
  refine aw_aload_n rfl rfl d_JS_isLatin1_6 (aw_strC h_s0 fj_15 d_JS_isLatin1_7 ?_)
  refine aw_if_ne (tgt := 17) (by decide) d_JS_isLatin1_10 (fun q => absurd q (by decide +kernel)) (fun _ => ?_)
  refine aw_iconst (v := iv 1) rfl d_JS_isLatin1_13 (aw_goto (tgt := 18) (by decide) d_JS_isLatin1_14 ?_)
  exact ai_retn rfl (nar_z (Or.inr rfl)) d_JS_isLatin1_18 hf in_1 hI
set_option maxRecDepth 20000 in
theorem t_JS_coder {Ks : List (Nat × Nat)} {G : Nat → Nat → Option Nat} (fu : Nat) (s0 : Nat) (I0 : IMem) (hI : RG I0) (h_s0 : s0 < 18) {r : Int × IMem} (hf : f_JS_coder fu s0 I0 = some r) : Ss l b 1 y_JS_coder Ks G [.ref (1003 + s0)] (ivm I0) (Ps r) := by
  unfold f_JS_coder at hf
  refine Ss.of (show Ai l b 1 y_JS_coder Ks G (Ps r) I0 0 [.ref (1003 + s0)] [] from ?_)
  refine aw_compact gs_JS_38 d_JS_coder_0 ?_
  refine aw_if_eq (tgt := 13) (by decide) d_JS_coder_3 (fun q => absurd q (by decide +kernel)) (fun _ => ?_)
  refine aw_aload_n rfl rfl d_JS_coder_6 (aw_strC h_s0 fj_15 d_JS_coder_7 (aw_goto (tgt := 14) (by decide) d_JS_coder_10 ?_))
  exact ai_retn rfl (by decide +kernel) d_JS_coder_14 hf in_0 hI
set_option maxRecDepth 20000 in
theorem t_JS_length {Ks : List (Nat × Nat)} {G : Nat → Nat → Option Nat} (fu : Nat) (s0 : Nat) (I0 : IMem) (hI : RG I0) (h_s0 : s0 < 18) {r : Int × IMem} (hf : f_JS_length fu s0 I0 = some r) : Ss l b 2 y_JS_length Ks G [.ref (1003 + s0)] (ivm I0) (Ps r) := by
  unfold f_JS_length at hf
  refine Ss.of (show Ai l b 2 y_JS_length Ks G (Ps r) I0 0 [.ref (1003 + s0)] [] from ?_)
  refine aw_aload_n rfl rfl d_JS_length_0 (aw_strV h_s0 fj_9 d_JS_length_1 (ai_bytL h_s0 d_JS_length_4 (aw_aload_n rfl rfl d_JS_length_5 ?_)))
  obtain ⟨y1, I2, c3, hf⟩ := of_zb hf
  refine ai_callVS (as := []) (d' := 1) mo_JS_coder lk_JS_335 h_s0 rfl rfl ⟨by decide, by decide⟩ rfl rfl (by decide) d_JS_length_6 (t_JS_coder fu s0 I0 hI h_s0 c3) (fun h_y1 h_I2 => ?_)
  refine ai_ishr d_JS_length_9 ?_
  exact ai_reti rfl d_JS_length_10 hf (wshr_in _ _) h_I2
set_option maxRecDepth 20000 in
theorem t_JS_indexOf_1 {Ks : List (Nat × Nat)} {G : Nat → Nat → Option Nat} (fu : Nat) (s0 : Nat) (a1 : Int) (a2 : Int) (I0 : IMem) (hI : RG I0) (h_s0 : s0 < 18) (h_a1 : inr a1) (h_a2 : inr a2) {r : Int × IMem} (hf : f_JS_indexOf_1 fu s0 a1 a2 I0 = some r) : Ss l b 3 y_JS_indexOf_1 Ks G [.ref (1003 + s0), .int (iv a1), .int (iv a2)] (ivm I0) (Ps r) := by
  unfold f_JS_indexOf_1 at hf
  refine Ss.of (show Ai l b 3 y_JS_indexOf_1 Ks G (Ps r) I0 0 [.ref (1003 + s0), .int (iv a1), .int (iv a2)] [] from ?_)
  refine aw_aload_n rfl rfl d_JS_indexOf_1_0 ?_
  obtain ⟨y1, I2, c3, hf⟩ := of_zb hf
  refine ai_callVS (as := []) (d' := 1) mo_JS_isLatin1 lk_JS_492 h_s0 rfl rfl ⟨by decide, by decide⟩ rfl rfl (by decide) d_JS_indexOf_1_1 (t_JS_isLatin1 fu s0 I0 hI h_s0 c3) (fun h_y1 h_I2 => ?_)
  refine ai_if_eq h_y1 hf (tgt := 23) (by decide) d_JS_indexOf_1_4 (fun hf => ?_) (fun hf => ?_)
  · refine aw_aload_n rfl rfl d_JS_indexOf_1_23 (aw_strV h_s0 fj_9 d_JS_indexOf_1_24 (aw_iload_n rfl rfl d_JS_indexOf_1_27 (aw_iload_n rfl rfl d_JS_indexOf_1_28 (aw_aload_n rfl rfl d_JS_indexOf_1_29 ?_))))
    obtain ⟨y4, I5, c6, hf⟩ := of_zb hf
    refine ai_callVS (as := []) (d' := 2) mo_JS_length lk_JS_505 h_s0 rfl rfl ⟨by decide, by decide⟩ rfl rfl (by decide) d_JS_indexOf_1_30 (t_JS_length fu s0 I2 h_I2 h_s0 c6) (fun h_y4 h_I5 => ?_)
    cases hf
  · refine aw_aload_n rfl rfl d_JS_indexOf_1_7 (aw_strV h_s0 fj_9 d_JS_indexOf_1_8 (aw_iload_n rfl rfl d_JS_indexOf_1_11 (aw_iload_n rfl rfl d_JS_indexOf_1_12 (aw_aload_n rfl rfl d_JS_indexOf_1_13 ?_))))
    obtain ⟨y7, I8, c9, hf⟩ := of_zb hf
    refine ai_callVS (as := []) (d' := 2) mo_JS_length lk_JS_505 h_s0 rfl rfl ⟨by decide, by decide⟩ rfl rfl (by decide) d_JS_indexOf_1_14 (t_JS_length fu s0 I2 h_I2 h_s0 c9) (fun h_y7 h_I8 => ?_)
    obtain ⟨y10, I11, c12, hf⟩ := of_zb hf
    refine ai_callS (as := [.ref (1021 + s0), .int (iv a1), .int (iv a2), .int (iv y7)]) (d' := 2) mo_JL_indexOf lk_JS_637 rfl ⟨by decide, by decide⟩ rfl rfl (by decide) d_JS_indexOf_1_17 (t_JL_indexOf fu s0 a1 a2 y7 I8 h_I8 h_s0 h_a1 h_a2 h_y7 c12) (fun h_y10 h_I11 => ?_)
    refine aw_goto (tgt := 36) (by decide) d_JS_indexOf_1_20 ?_
    exact ai_reti rfl d_JS_indexOf_1_36 hf h_y10 h_I11
set_option maxRecDepth 20000 in
theorem t_JS_indexOf {Ks : List (Nat × Nat)} {G : Nat → Nat → Option Nat} (fu : Nat) (s0 : Nat) (a1 : Int) (I0 : IMem) (hI : RG I0) (h_s0 : s0 < 18) (h_a1 : inr a1) {r : Int × IMem} (hf : f_JS_indexOf fu s0 a1 I0 = some r) : Ss l b 4 y_JS_indexOf Ks G [.ref (1003 + s0), .int (iv a1)] (ivm I0) (Ps r) := by
  unfold f_JS_indexOf at hf
  refine Ss.of (show Ai l b 4 y_JS_indexOf Ks G (Ps r) I0 0 [.ref (1003 + s0), .int (iv a1)] [] from ?_)
  refine aw_aload_n rfl rfl d_JS_indexOf_0 (aw_iload_n rfl rfl d_JS_indexOf_1 (aw_iconst (v := iv 0) rfl d_JS_indexOf_2 ?_))
  obtain ⟨y1, I2, c3, hf⟩ := of_zb hf
  refine ai_callVS (as := [.int (iv a1), .int (iv 0)]) (d' := 3) mo_JS_indexOf_1 lk_JS_633 h_s0 rfl rfl ⟨by decide, by decide⟩ rfl rfl (by decide) d_JS_indexOf_3 (t_JS_indexOf_1 fu s0 a1 0 I0 hI h_s0 h_a1 in_0 c3) (fun h_y1 h_I2 => ?_)
  exact ai_reti rfl d_JS_indexOf_6 hf h_y1 h_I2
set_option maxRecDepth 20000 in
theorem t_JP_checkIndex {Ks : List (Nat × Nat)} {G : Nat → Nat → Option Nat} (fu : Nat) (a0 : Int) (a1 : Int) (v2 : Value) (I0 : IMem) (hI : RG I0) (h_a0 : inr a0) (h_a1 : inr a1) (h_v2 : isrf v2) {r : Int × IMem} (hf : f_JP_checkIndex fu a0 a1 I0 = some r) : Ss l b 1 y_JP_checkIndex Ks G [.int (iv a0), .int (iv a1), v2] (ivm I0) (Ps r) := by
  unfold f_JP_checkIndex at hf
  refine Ss.of (show Ai l b 1 y_JP_checkIndex Ks G (Ps r) I0 0 [.int (iv a0), .int (iv a1), v2] [] from ?_)
  refine aw_iload_n rfl rfl d_JP_checkIndex_0 ?_
  obtain ⟨k1, ek1, hf⟩ := of_zj hf
  have hk1 : ∀  (I2 : IMem), RG I2 → k1 I2 = some r → Ai l b 1 y_JP_checkIndex Ks G (Ps r) I2 9 [.int (iv a0), .int (iv a1), v2] [] := by
    intro I2 h_I2 hf
    subst ek1
    refine aw_aload_nv rfl rfl h_v2 d_JP_checkIndex_9 (aw_iload_n rfl rfl d_JP_checkIndex_10 (aw_iload_n rfl rfl d_JP_checkIndex_11 ?_))
    cases hf
  refine ai_if_lt h_a0 hf (tgt := 9) (by decide) d_JP_checkIndex_1 (fun hf => ?_) (fun hf => ?_)
  · exact hk1 I0 hI hf
  · refine aw_iload_n rfl rfl d_JP_checkIndex_4 (aw_iload_n rfl rfl d_JP_checkIndex_5 ?_)
    refine ai_icmp_lt h_a0 h_a1 hf (tgt := 16) (by decide) d_JP_checkIndex_6 (fun hf => ?_) (fun hf => ?_)
    · refine aw_iload_n rfl rfl d_JP_checkIndex_16 ?_
      exact ai_reti rfl d_JP_checkIndex_17 hf h_a0 hI
    · exact hk1 I0 hI hf
set_option maxRecDepth 20000 in
theorem t_JS_checkIndex {Ks : List (Nat × Nat)} {G : Nat → Nat → Option Nat} (fu : Nat) (a0 : Int) (a1 : Int) (I0 : IMem) (hI : RG I0) (h_a0 : inr a0) (h_a1 : inr a1) {r : Int × IMem} (hf : f_JS_checkIndex fu a0 a1 I0 = some r) : Ss l b 2 y_JS_checkIndex Ks G [.int (iv a0), .int (iv a1)] (ivm I0) (Pv r) := by
  unfold f_JS_checkIndex at hf
  refine Ss.of (show Ai l b 2 y_JS_checkIndex Ks G (Pv r) I0 0 [.int (iv a0), .int (iv a1)] [] from ?_)
  refine aw_iload_n rfl rfl d_JS_checkIndex_0 (aw_iload_n rfl rfl d_JS_checkIndex_1 ?_)
  refine aw_sioobe gs_JS_1053 d_JS_checkIndex_2 (fun v1 h_v1 => ?_)
  obtain ⟨y2, I3, c4, hf⟩ := of_zb hf
  refine ai_callS (as := [.int (iv a0), .int (iv a1), v1]) (d' := 1) mo_JP_checkIndex lk_JS_1059 rfl ⟨by decide, by decide⟩ rfl (cat_iiv h_v1) (by decide) d_JS_checkIndex_5 (t_JP_checkIndex fu a0 a1 v1 I0 hI h_a0 h_a1 h_v1 c4) (fun h_y2 h_I3 => ?_)
  refine aw_pop rfl d_JS_checkIndex_8 ?_
  exact ai_retv rfl d_JS_checkIndex_9 hf h_I3
set_option maxRecDepth 20000 in
theorem t_JL_charAt {Ks : List (Nat × Nat)} {G : Nat → Nat → Option Nat} (fu : Nat) (s0 : Nat) (a1 : Int) (I0 : IMem) (hI : RG I0) (h_s0 : s0 < 18) (h_a1 : inr a1) {r : Int × IMem} (hf : f_JL_charAt fu s0 a1 I0 = some r) : Ss l b 3 y_JL_charAt Ks G [.ref (1021 + s0), .int (iv a1)] (ivm I0) (Ps r) := by
  unfold f_JL_charAt at hf
  refine Ss.of (show Ai l b 3 y_JL_charAt Ks G (Ps r) I0 0 [.ref (1021 + s0), .int (iv a1)] [] from ?_)
  refine aw_iload_n rfl rfl d_JL_charAt_0 (aw_aload_n rfl rfl d_JL_charAt_1 (ai_bytL h_s0 d_JL_charAt_2 ?_))
  obtain ⟨y1, I2, c3, hf⟩ := of_zb hf
  refine ai_callSv (as := [.int (iv a1), .int (iv ((lenJ.getD s0 0 : Nat)))]) (d' := 2) mo_JS_checkIndex lk_JL_9 rfl ⟨by decide, by decide⟩ rfl rfl (by decide) d_JL_charAt_3 (t_JS_checkIndex fu a1 ((lenJ.getD s0 0 : Nat)) I0 hI h_a1 (lenJ_in h_s0) c3) (fun h_I2 => ?_)
  refine aw_aload_n rfl rfl d_JL_charAt_6 (aw_iload_n rfl rfl d_JL_charAt_7 ?_)
  refine ai_bytA h_s0 h_a1 hf d_JL_charAt_8 (fun _ hf => ?_)
  refine aw_sipush (v := iv 255) cs_255 d_JL_charAt_9 (ai_iand d_JL_charAt_12 (ai_i2c d_JL_charAt_13 ?_))
  obtain ⟨g, hf⟩ := of_zg hf
  exact ai_retn rfl (nar_c g) d_JL_charAt_14 hf (wi2c_in _) h_I2
set_option maxRecDepth 20000 in
theorem t_JS_charAt {Ks : List (Nat × Nat)} {G : Nat → Nat → Option Nat} (fu : Nat) (s0 : Nat) (a1 : Int) (I0 : IMem) (hI : RG I0) (h_s0 : s0 < 18) (h_a1 : inr a1) {r : Int × IMem} (hf : f_JS_charAt fu s0 a1 I0 = some r) : Ss l b 4 y_JS_charAt Ks G [.ref (1003 + s0), .int (iv a1)] (ivm I0) (Ps r) := by
  unfold f_JS_charAt at hf
  refine Ss.of (show Ai l b 4 y_JS_charAt Ks G (Ps r) I0 0 [.ref (1003 + s0), .int (iv a1)] [] from ?_)
  refine aw_aload_n rfl rfl d_JS_charAt_0 ?_
  obtain ⟨y1, I2, c3, hf⟩ := of_zb hf
  refine ai_callVS (as := []) (d' := 1) mo_JS_isLatin1 lk_JS_492 h_s0 rfl rfl ⟨by decide, by decide⟩ rfl rfl (by decide) d_JS_charAt_1 (t_JS_isLatin1 fu s0 I0 hI h_s0 c3) (fun h_y1 h_I2 => ?_)
  refine ai_if_eq h_y1 hf (tgt := 16) (by decide) d_JS_charAt_4 (fun hf => ?_) (fun hf => ?_)
  · refine aw_aload_n rfl rfl d_JS_charAt_16 (aw_strV h_s0 fj_9 d_JS_charAt_17 (aw_iload_n rfl rfl d_JS_charAt_20 ?_))
    cases hf
  · refine aw_aload_n rfl rfl d_JS_charAt_7 (aw_strV h_s0 fj_9 d_JS_charAt_8 (aw_iload_n rfl rfl d_JS_charAt_11 ?_))
    obtain ⟨y4, I5, c6, hf⟩ := of_zb hf
    refine ai_callS (as := [.ref (1021 + s0), .int (iv a1)]) (d' := 3) mo_JL_charAt lk_JS_495 rfl ⟨by decide, by decide⟩ rfl rfl (by decide) d_JS_charAt_12 (t_JL_charAt fu s0 a1 I2 h_I2 h_s0 h_a1 c6) (fun h_y4 h_I5 => ?_)
    obtain ⟨g, hf⟩ := of_zg hf
    exact ai_retn rfl (nar_c g) d_JS_charAt_15 hf h_y4 h_I5
set_option maxRecDepth 20000 in
theorem t_JM_floorMod {Ks : List (Nat × Nat)} {G : Nat → Nat → Option Nat} (fu : Nat) (a0 : Int) (a1 : Int) (I0 : IMem) (hI : RG I0) (h_a0 : inr a0) (h_a1 : inr a1) {r : Int × IMem} (hf : f_JM_floorMod fu a0 a1 I0 = some r) : Ss l b 1 y_JM_floorMod Ks G [.int (iv a0), .int (iv a1)] (ivm I0) (Ps r) := by
  unfold f_JM_floorMod at hf
  refine Ss.of (show Ai l b 1 y_JM_floorMod Ks G (Ps r) I0 0 [.int (iv a0), .int (iv a1), uu] [] from ?_)
  refine aw_iload_n rfl rfl d_JM_floorMod_0 (aw_iload_n rfl rfl d_JM_floorMod_1 ?_)
  refine ai_irem h_a1 hf d_JM_floorMod_2 (fun _ hf => ?_)
  refine ai_name hf (wrem_in _ _) (fun x1 h_x1 hf => ?_)
  refine aw_istore_n (lv2 := [.int (iv a0), .int (iv a1), .int (iv x1)]) rfl (Nat.le_of_ble_eq_true rfl) rfl d_JM_floorMod_3 ?_
  refine aw_iload_n rfl rfl d_JM_floorMod_4 (aw_iload_n rfl rfl d_JM_floorMod_5 (ai_ixor d_JM_floorMod_6 ?_))
  refine ai_if_ge (wxor_in _ _) hf (tgt := 18) (by decide) d_JM_floorMod_7 (fun hf => ?_) (fun hf => ?_)
  · refine aw_iload_n rfl rfl d_JM_floorMod_18 ?_
    exact ai_reti rfl d_JM_floorMod_19 hf h_x1 hI
  · refine aw_iload_n rfl rfl d_JM_floorMod_10 ?_
    refine ai_if_eq h_x1 hf (tgt := 18) (by decide) d_JM_floorMod_11 (fun hf => ?_) (fun hf => ?_)
    · refine aw_iload_n rfl rfl d_JM_floorMod_18 ?_
      exact ai_reti rfl d_JM_floorMod_19 hf h_x1 hI
    · refine aw_iload_n rfl rfl d_JM_floorMod_14 (aw_iload_n rfl rfl d_JM_floorMod_15 (ai_iadd d_JM_floorMod_16 ?_))
      exact ai_reti rfl d_JM_floorMod_17 hf (wr32_in _) hI
end
