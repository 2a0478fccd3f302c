/-! the reference: shallow functions and the machine -/
abbrev y_X_state : MI := (⟨"SinglesUpModel", "state", "(I)I"⟩, prog_11_method_3_code, 3, some .int)
theorem ck_X_state_0 : (y_X_state.2.1.data.toList.drop 0).take 32 = [42, 180, 0, 7, 3, 46, 61, 42, 180, 0, 7, 3, 27, 79, 28, 172] := by decide +kernel
theorem d_X_state_0 : decode y_X_state.2.1 0 = .ok (.aload_n 0, 1) := op_aload_n0 (gk (k := 0) (t := 0) ck_X_state_0 rfl)
theorem fl_X_7 : FL "SinglesUpModel" 7 9 0 := ⟨"SinglesUpModel", zT9, 51, rfl, by decide, rfl, Or.inl (tw_c5 93 (by decide +kernel) rfl)⟩
theorem rm_9_0 : ∀ o, KM[o]? = some (12, 51) → RM o 0 = some (o + 1) ∧ KM[o + 1]? = some (0, 6190) := by
  intro o h
  have hl : o < 26 := (List.getElem?_eq_some_iff.mp h).1
  exact (by decide +kernel : ∀ o, o < 26 → KM[o]? = some (12, 51) → RM o 0 = some (o + 1) ∧ KM[o + 1]? = some (0, 6190)) o hl h
theorem d_X_state_1 : decode y_X_state.2.1 1 = .ok (.getfield 7, 3) := op_getfield (gk (k := 0) (t := 1) ck_X_state_0 rfl) (gk (k := 0) (t := 2) ck_X_state_0 rfl) (gk (k := 0) (t := 3) ck_X_state_0 rfl) rfl
theorem d_X_state_4 : decode y_X_state.2.1 4 = .ok (.iconst 0, 1) := op_iconst0 (gk (k := 0) (t := 4) ck_X_state_0 rfl)
theorem d_X_state_5 : decode y_X_state.2.1 5 = .ok (.iaload, 1) := op_iaload (gk (k := 0) (t := 5) ck_X_state_0 rfl)
theorem d_X_state_6 : decode y_X_state.2.1 6 = .ok (.istore_n 2, 1) := op_istore_n2 (gk (k := 0) (t := 6) ck_X_state_0 rfl)
theorem d_X_state_7 : decode y_X_state.2.1 7 = .ok (.aload_n 0, 1) := op_aload_n0 (gk (k := 0) (t := 7) ck_X_state_0 rfl)
theorem d_X_state_8 : decode y_X_state.2.1 8 = .ok (.getfield 7, 3) := op_getfield (gk (k := 0) (t := 8) ck_X_state_0 rfl) (gk (k := 0) (t := 9) ck_X_state_0 rfl) (gk (k := 0) (t := 10) ck_X_state_0 rfl) rfl
theorem d_X_state_11 : decode y_X_state.2.1 11 = .ok (.iconst 0, 1) := op_iconst0 (gk (k := 0) (t := 11) ck_X_state_0 rfl)
theorem d_X_state_12 : decode y_X_state.2.1 12 = .ok (.iload_n 1, 1) := op_iload_n1 (gk (k := 0) (t := 12) ck_X_state_0 rfl)
theorem d_X_state_13 : decode y_X_state.2.1 13 = .ok (.iastore, 1) := op_iastore (gk (k := 0) (t := 13) ck_X_state_0 rfl)
theorem d_X_state_14 : decode y_X_state.2.1 14 = .ok (.iload_n 2, 1) := op_iload_n2 (gk (k := 0) (t := 14) ck_X_state_0 rfl)
theorem d_X_state_15 : decode y_X_state.2.1 15 = .ok (.ireturn, 1) := op_ireturn (gk (k := 0) (t := 15) ck_X_state_0 rfl)
abbrev y_X_forgets : MI := (⟨"SinglesUpModel", "forgets", "()V"⟩, prog_11_method_63_code, 2, none)
theorem ck_X_forgets_0 : (y_X_forgets.2.1.data.toList.drop 0).take 32 = [3, 60, 27, 17, 0, 240, 162, 0, 16, 42, 180, 0, 57, 27, 3, 84, 132, 1, 1, 167, 255, 239, 42, 3, 181, 1, 88, 177] := by decide +kernel
theorem d_X_forgets_0 : decode y_X_forgets.2.1 0 = .ok (.iconst 0, 1) := op_iconst0 (gk (k := 0) (t := 0) ck_X_forgets_0 rfl)
theorem d_X_forgets_1 : decode y_X_forgets.2.1 1 = .ok (.istore_n 1, 1) := op_istore_n1 (gk (k := 0) (t := 1) ck_X_forgets_0 rfl)
theorem d_X_forgets_2 : decode y_X_forgets.2.1 2 = .ok (.iload_n 1, 1) := op_iload_n1 (gk (k := 0) (t := 2) ck_X_forgets_0 rfl)
theorem d_X_forgets_3 : decode y_X_forgets.2.1 3 = .ok (.sipush 240, 3) := op_sipush (gk (k := 0) (t := 3) ck_X_forgets_0 rfl) (gk (k := 0) (t := 4) ck_X_forgets_0 rfl) (gk (k := 0) (t := 5) ck_X_forgets_0 rfl) (by decide +kernel)
theorem d_X_forgets_6 : decode y_X_forgets.2.1 6 = .ok (.if_icmp .ge 16, 3) := op_icmp_ge (gk (k := 0) (t := 6) ck_X_forgets_0 rfl) (gk (k := 0) (t := 7) ck_X_forgets_0 rfl) (gk (k := 0) (t := 8) ck_X_forgets_0 rfl) (by decide +kernel)
theorem d_X_forgets_9 : decode y_X_forgets.2.1 9 = .ok (.aload_n 0, 1) := op_aload_n0 (gk (k := 0) (t := 9) ck_X_forgets_0 rfl)
theorem fl_X_57 : FL "SinglesUpModel" 57 9 29 := ⟨"SinglesUpModel", zT9, 51, rfl, by decide, rfl, Or.inl (tw_c5 122 (by decide +kernel) rfl)⟩
theorem rm_9_29 : ∀ o, KM[o]? = some (12, 51) → RM o 29 = some (o + 13) ∧ KM[o + 13]? = some (1, 240) := by
  intro o h
  have hl : o < 26 := (List.getElem?_eq_some_iff.mp h).1
  exact (by decide +kernel : ∀ o, o < 26 → KM[o]? = some (12, 51) → RM o 29 = some (o + 13) ∧ KM[o + 13]? = some (1, 240)) o hl h
theorem d_X_forgets_10 : decode y_X_forgets.2.1 10 = .ok (.getfield 57, 3) := op_getfield (gk (k := 0) (t := 10) ck_X_forgets_0 rfl) (gk (k := 0) (t := 11) ck_X_forgets_0 rfl) (gk (k := 0) (t := 12) ck_X_forgets_0 rfl) rfl
theorem d_X_forgets_13 : decode y_X_forgets.2.1 13 = .ok (.iload_n 1, 1) := op_iload_n1 (gk (k := 0) (t := 13) ck_X_forgets_0 rfl)
theorem d_X_forgets_14 : decode y_X_forgets.2.1 14 = .ok (.iconst 0, 1) := op_iconst0 (gk (k := 0) (t := 14) ck_X_forgets_0 rfl)
theorem d_X_forgets_15 : decode y_X_forgets.2.1 15 = .ok (.bastore, 1) := op_bastore (gk (k := 0) (t := 15) ck_X_forgets_0 rfl)
theorem d_X_forgets_16 : decode y_X_forgets.2.1 16 = .ok (.iinc 1 1, 3) := op_iinc (gk (k := 0) (t := 16) ck_X_forgets_0 rfl) (gk (k := 0) (t := 17) ck_X_forgets_0 rfl) (gk (k := 0) (t := 18) ck_X_forgets_0 rfl) rfl rfl
theorem d_X_forgets_19 : decode y_X_forgets.2.1 19 = .ok (.goto (-17), 3) := op_goto (gk (k := 0) (t := 19) ck_X_forgets_0 rfl) (gk (k := 0) (t := 20) ck_X_forgets_0 rfl) (gk (k := 0) (t := 21) ck_X_forgets_0 rfl) (by decide +kernel)
theorem d_X_forgets_22 : decode y_X_forgets.2.1 22 = .ok (.aload_n 0, 1) := op_aload_n0 (gk (k := 0) (t := 22) ck_X_forgets_0 rfl)
theorem d_X_forgets_23 : decode y_X_forgets.2.1 23 = .ok (.iconst 0, 1) := op_iconst0 (gk (k := 0) (t := 23) ck_X_forgets_0 rfl)
theorem fl_X_344 : FL "SinglesUpModel" 344 9 35 := ⟨"SinglesUpModel", zT9, 51, rfl, by decide, rfl, Or.inl (tw_c5 128 (by decide +kernel) rfl)⟩
theorem d_X_forgets_24 : decode y_X_forgets.2.1 24 = .ok (.putfield 344, 3) := op_putfield (gk (k := 0) (t := 24) ck_X_forgets_0 rfl) (gk (k := 0) (t := 25) ck_X_forgets_0 rfl) (gk (k := 0) (t := 26) ck_X_forgets_0 rfl) rfl
theorem d_X_forgets_27 : decode y_X_forgets.2.1 27 = .ok (.return_, 1) := op_return_ (gk (k := 0) (t := 27) ck_X_forgets_0 rfl)
abbrev y_X_isIn : MI := (⟨"SinglesUpModel", "isIn", "(III)Z"⟩, prog_11_method_2_code, 3, some .boolean)
theorem ck_X_isIn_0 : (y_X_isIn.2.1.data.toList.drop 0).take 32 = [26, 27, 161, 0, 12, 26, 28, 163, 0, 7, 4, 167, 0, 4, 3, 172] := by decide +kernel
theorem d_X_isIn_0 : decode y_X_isIn.2.1 0 = .ok (.iload_n 0, 1) := op_iload_n0 (gk (k := 0) (t := 0) ck_X_isIn_0 rfl)
theorem d_X_isIn_1 : decode y_X_isIn.2.1 1 = .ok (.iload_n 1, 1) := op_iload_n1 (gk (k := 0) (t := 1) ck_X_isIn_0 rfl)
theorem d_X_isIn_2 : decode y_X_isIn.2.1 2 = .ok (.if_icmp .lt 12, 3) := op_icmp_lt (gk (k := 0) (t := 2) ck_X_isIn_0 rfl) (gk (k := 0) (t := 3) ck_X_isIn_0 rfl) (gk (k := 0) (t := 4) ck_X_isIn_0 rfl) (by decide +kernel)
theorem d_X_isIn_14 : decode y_X_isIn.2.1 14 = .ok (.iconst 0, 1) := op_iconst0 (gk (k := 0) (t := 14) ck_X_isIn_0 rfl)
theorem d_X_isIn_15 : decode y_X_isIn.2.1 15 = .ok (.ireturn, 1) := op_ireturn (gk (k := 0) (t := 15) ck_X_isIn_0 rfl)
theorem d_X_isIn_5 : decode y_X_isIn.2.1 5 = .ok (.iload_n 0, 1) := op_iload_n0 (gk (k := 0) (t := 5) ck_X_isIn_0 rfl)
theorem d_X_isIn_6 : decode y_X_isIn.2.1 6 = .ok (.iload_n 2, 1) := op_iload_n2 (gk (k := 0) (t := 6) ck_X_isIn_0 rfl)
theorem d_X_isIn_7 : decode y_X_isIn.2.1 7 = .ok (.if_icmp .gt 7, 3) := op_icmp_gt (gk (k := 0) (t := 7) ck_X_isIn_0 rfl) (gk (k := 0) (t := 8) ck_X_isIn_0 rfl) (gk (k := 0) (t := 9) ck_X_isIn_0 rfl) (by decide +kernel)
theorem d_X_isIn_10 : decode y_X_isIn.2.1 10 = .ok (.iconst 1, 1) := op_iconst1 (gk (k := 0) (t := 10) ck_X_isIn_0 rfl)
theorem d_X_isIn_11 : decode y_X_isIn.2.1 11 = .ok (.goto 4, 3) := op_goto (gk (k := 0) (t := 11) ck_X_isIn_0 rfl) (gk (k := 0) (t := 12) ck_X_isIn_0 rfl) (gk (k := 0) (t := 13) ck_X_isIn_0 rfl) (by decide +kernel)
abbrev y_X_set : MI := (⟨"SinglesUpModel", "set", "(II)Z"⟩, prog_11_method_6_code, 4, some .boolean)
theorem ck_X_set_0 : (y_X_set.2.1.data.toList.drop 0).take 32 = [27, 154, 0, 13, 28, 5, 16, 8, 184, 0, 98, 167, 0, 84, 27, 4, 160, 0, 13, 28, 4, 16, 99, 184, 0, 98, 167, 0, 69, 27, 5, 160] := by decide +kernel
theorem d_X_set_0 : decode y_X_set.2.1 0 = .ok (.iload_n 1, 1) := op_iload_n1 (gk (k := 0) (t := 0) ck_X_set_0 rfl)
theorem ck_X_set_2 : (y_X_set.2.1.data.toList.drop 64).take 32 = [0, 13, 28, 3, 16, 99, 184, 0, 98, 167, 0, 22, 27, 8, 160, 0, 16, 28, 3, 6, 184, 0, 98, 153, 0, 7, 4, 167, 0, 4, 3, 62] := by decide +kernel
theorem d_X_set_95 : decode y_X_set.2.1 95 = .ok (.istore_n 3, 1) := op_istore_n3 (gk (k := 64) (t := 31) ck_X_set_2 rfl)
theorem ck_X_set_3 : (y_X_set.2.1.data.toList.drop 96).take 32 = [29, 154, 0, 5, 3, 172, 42, 180, 0, 7, 4, 27, 96, 28, 79, 27, 154, 0, 7, 42, 182, 0, 102, 4, 172] := by decide +kernel
theorem d_X_set_96 : decode y_X_set.2.1 96 = .ok (.iload_n 3, 1) := op_iload_n3 (gk (k := 96) (t := 0) ck_X_set_3 rfl)
theorem d_X_set_97 : decode y_X_set.2.1 97 = .ok (.ifCond .ne 5, 3) := op_if_ne (gk (k := 96) (t := 1) ck_X_set_3 rfl) (gk (k := 96) (t := 2) ck_X_set_3 rfl) (gk (k := 96) (t := 3) ck_X_set_3 rfl) (by decide +kernel)
theorem d_X_set_102 : decode y_X_set.2.1 102 = .ok (.aload_n 0, 1) := op_aload_n0 (gk (k := 96) (t := 6) ck_X_set_3 rfl)
theorem d_X_set_103 : decode y_X_set.2.1 103 = .ok (.getfield 7, 3) := op_getfield (gk (k := 96) (t := 7) ck_X_set_3 rfl) (gk (k := 96) (t := 8) ck_X_set_3 rfl) (gk (k := 96) (t := 9) ck_X_set_3 rfl) rfl
theorem d_X_set_106 : decode y_X_set.2.1 106 = .ok (.iconst 1, 1) := op_iconst1 (gk (k := 96) (t := 10) ck_X_set_3 rfl)
theorem d_X_set_107 : decode y_X_set.2.1 107 = .ok (.iload_n 1, 1) := op_iload_n1 (gk (k := 96) (t := 11) ck_X_set_3 rfl)
theorem d_X_set_108 : decode y_X_set.2.1 108 = .ok (.iadd, 1) := op_iadd (gk (k := 96) (t := 12) ck_X_set_3 rfl)
theorem d_X_set_109 : decode y_X_set.2.1 109 = .ok (.iload_n 2, 1) := op_iload_n2 (gk (k := 96) (t := 13) ck_X_set_3 rfl)
theorem d_X_set_110 : decode y_X_set.2.1 110 = .ok (.iastore, 1) := op_iastore (gk (k := 96) (t := 14) ck_X_set_3 rfl)
theorem d_X_set_111 : decode y_X_set.2.1 111 = .ok (.iload_n 1, 1) := op_iload_n1 (gk (k := 96) (t := 15) ck_X_set_3 rfl)
theorem d_X_set_112 : decode y_X_set.2.1 112 = .ok (.ifCond .ne 7, 3) := op_if_ne (gk (k := 96) (t := 16) ck_X_set_3 rfl) (gk (k := 96) (t := 17) ck_X_set_3 rfl) (gk (k := 96) (t := 18) ck_X_set_3 rfl) (by decide +kernel)
theorem d_X_set_119 : decode y_X_set.2.1 119 = .ok (.iconst 1, 1) := op_iconst1 (gk (k := 96) (t := 23) ck_X_set_3 rfl)
theorem d_X_set_120 : decode y_X_set.2.1 120 = .ok (.ireturn, 1) := op_ireturn (gk (k := 96) (t := 24) ck_X_set_3 rfl)
theorem d_X_set_115 : decode y_X_set.2.1 115 = .ok (.aload_n 0, 1) := op_aload_n0 (gk (k := 96) (t := 19) ck_X_set_3 rfl)
theorem lk_X_102 : LkV "SinglesUpModel" 102 y_X_forgets := ⟨tw_c6 20 (by decide +kernel) rfl, tw_in 39 (by decide +kernel) rfl, Or.inl (tw_c6 18 (by decide +kernel) rfl)⟩
set_option maxRecDepth 100000 in
theorem mo_X_forgets : MOk y_X_forgets 0 := ⟨by decide +kernel, tw_c6 21 rfl rfl, tw_c1 12 (by decide +kernel) rfl, by decide +kernel, by decide +kernel, by decide +kernel⟩
theorem d_X_set_116 : decode y_X_set.2.1 116 = .ok (.invokevirtual 102, 3) := op_invokevirtual (gk (k := 96) (t := 20) ck_X_set_3 rfl) (gk (k := 96) (t := 21) ck_X_set_3 rfl) (gk (k := 96) (t := 22) ck_X_set_3 rfl) rfl
theorem d_X_set_100 : decode y_X_set.2.1 100 = .ok (.iconst 0, 1) := op_iconst0 (gk (k := 96) (t := 4) ck_X_set_3 rfl)
theorem d_X_set_101 : decode y_X_set.2.1 101 = .ok (.ireturn, 1) := op_ireturn (gk (k := 96) (t := 5) ck_X_set_3 rfl)
theorem d_X_set_1 : decode y_X_set.2.1 1 = .ok (.ifCond .ne 13, 3) := op_if_ne (gk (k := 0) (t := 1) ck_X_set_0 rfl) (gk (k := 0) (t := 2) ck_X_set_0 rfl) (gk (k := 0) (t := 3) ck_X_set_0 rfl) (by decide +kernel)
theorem d_X_set_14 : decode y_X_set.2.1 14 = .ok (.iload_n 1, 1) := op_iload_n1 (gk (k := 0) (t := 14) ck_X_set_0 rfl)
theorem d_X_set_15 : decode y_X_set.2.1 15 = .ok (.iconst 1, 1) := op_iconst1 (gk (k := 0) (t := 15) ck_X_set_0 rfl)
theorem d_X_set_16 : decode y_X_set.2.1 16 = .ok (.if_icmp .ne 13, 3) := op_icmp_ne (gk (k := 0) (t := 16) ck_X_set_0 rfl) (gk (k := 0) (t := 17) ck_X_set_0 rfl) (gk (k := 0) (t := 18) ck_X_set_0 rfl) (by decide +kernel)
theorem d_X_set_29 : decode y_X_set.2.1 29 = .ok (.iload_n 1, 1) := op_iload_n1 (gk (k := 0) (t := 29) ck_X_set_0 rfl)
theorem d_X_set_30 : decode y_X_set.2.1 30 = .ok (.iconst 2, 1) := op_iconst2 (gk (k := 0) (t := 30) ck_X_set_0 rfl)
theorem ck_X_set_1 : (y_X_set.2.1.data.toList.drop 32).take 32 = [0, 14, 28, 3, 17, 3, 231, 184, 0, 98, 167, 0, 53, 27, 6, 160, 0, 14, 28, 3, 17, 3, 232, 184, 0, 98, 167, 0, 37, 27, 7, 160] := by decide +kernel
theorem d_X_set_31 : decode y_X_set.2.1 31 = .ok (.if_icmp .ne 14, 3) := op_icmp_ne (gk (k := 0) (t := 31) ck_X_set_0 rfl) (gk (k := 32) (t := 0) ck_X_set_1 rfl) (gk (k := 32) (t := 1) ck_X_set_1 rfl) (by decide +kernel)
theorem d_X_set_45 : decode y_X_set.2.1 45 = .ok (.iload_n 1, 1) := op_iload_n1 (gk (k := 32) (t := 13) ck_X_set_1 rfl)
theorem d_X_set_46 : decode y_X_set.2.1 46 = .ok (.iconst 3, 1) := op_iconst3 (gk (k := 32) (t := 14) ck_X_set_1 rfl)
theorem d_X_set_47 : decode y_X_set.2.1 47 = .ok (.if_icmp .ne 14, 3) := op_icmp_ne (gk (k := 32) (t := 15) ck_X_set_1 rfl) (gk (k := 32) (t := 16) ck_X_set_1 rfl) (gk (k := 32) (t := 17) ck_X_set_1 rfl) (by decide +kernel)
theorem d_X_set_61 : decode y_X_set.2.1 61 = .ok (.iload_n 1, 1) := op_iload_n1 (gk (k := 32) (t := 29) ck_X_set_1 rfl)
theorem d_X_set_62 : decode y_X_set.2.1 62 = .ok (.iconst 4, 1) := op_iconst4 (gk (k := 32) (t := 30) ck_X_set_1 rfl)
theorem d_X_set_63 : decode y_X_set.2.1 63 = .ok (.if_icmp .ne 13, 3) := op_icmp_ne (gk (k := 32) (t := 31) ck_X_set_1 rfl) (gk (k := 64) (t := 0) ck_X_set_2 rfl) (gk (k := 64) (t := 1) ck_X_set_2 rfl) (by decide +kernel)
theorem d_X_set_76 : decode y_X_set.2.1 76 = .ok (.iload_n 1, 1) := op_iload_n1 (gk (k := 64) (t := 12) ck_X_set_2 rfl)
theorem d_X_set_77 : decode y_X_set.2.1 77 = .ok (.iconst 5, 1) := op_iconst5 (gk (k := 64) (t := 13) ck_X_set_2 rfl)
theorem d_X_set_78 : decode y_X_set.2.1 78 = .ok (.if_icmp .ne 16, 3) := op_icmp_ne (gk (k := 64) (t := 14) ck_X_set_2 rfl) (gk (k := 64) (t := 15) ck_X_set_2 rfl) (gk (k := 64) (t := 16) ck_X_set_2 rfl) (by decide +kernel)
theorem d_X_set_94 : decode y_X_set.2.1 94 = .ok (.iconst 0, 1) := op_iconst0 (gk (k := 64) (t := 30) ck_X_set_2 rfl)
theorem d_X_set_81 : decode y_X_set.2.1 81 = .ok (.iload_n 2, 1) := op_iload_n2 (gk (k := 64) (t := 17) ck_X_set_2 rfl)
theorem d_X_set_82 : decode y_X_set.2.1 82 = .ok (.iconst 0, 1) := op_iconst0 (gk (k := 64) (t := 18) ck_X_set_2 rfl)
theorem d_X_set_83 : decode y_X_set.2.1 83 = .ok (.iconst 3, 1) := op_iconst3 (gk (k := 64) (t := 19) ck_X_set_2 rfl)
theorem lk_X_98 : LkS "SinglesUpModel" 98 y_X_isIn := ⟨tw_c6 16 (by decide +kernel) rfl, Or.inl (tw_c6 15 (by decide +kernel) rfl)⟩
set_option maxRecDepth 100000 in
theorem mo_X_isIn : MOk y_X_isIn 3 := ⟨by decide +kernel, tw_c6 17 rfl rfl, tw_c1 12 (by decide +kernel) rfl, by decide +kernel, by decide +kernel, by decide +kernel⟩
theorem d_X_set_84 : decode y_X_set.2.1 84 = .ok (.invokestatic 98, 3) := op_invokestatic (gk (k := 64) (t := 20) ck_X_set_2 rfl) (gk (k := 64) (t := 21) ck_X_set_2 rfl) (gk (k := 64) (t := 22) ck_X_set_2 rfl) rfl
theorem d_X_set_87 : decode y_X_set.2.1 87 = .ok (.ifCond .eq 7, 3) := op_if_eq (gk (k := 64) (t := 23) ck_X_set_2 rfl) (gk (k := 64) (t := 24) ck_X_set_2 rfl) (gk (k := 64) (t := 25) ck_X_set_2 rfl) (by decide +kernel)
theorem d_X_set_90 : decode y_X_set.2.1 90 = .ok (.iconst 1, 1) := op_iconst1 (gk (k := 64) (t := 26) ck_X_set_2 rfl)
theorem d_X_set_91 : decode y_X_set.2.1 91 = .ok (.goto 4, 3) := op_goto (gk (k := 64) (t := 27) ck_X_set_2 rfl) (gk (k := 64) (t := 28) ck_X_set_2 rfl) (gk (k := 64) (t := 29) ck_X_set_2 rfl) (by decide +kernel)
theorem d_X_set_66 : decode y_X_set.2.1 66 = .ok (.iload_n 2, 1) := op_iload_n2 (gk (k := 64) (t := 2) ck_X_set_2 rfl)
theorem d_X_set_67 : decode y_X_set.2.1 67 = .ok (.iconst 0, 1) := op_iconst0 (gk (k := 64) (t := 3) ck_X_set_2 rfl)
theorem cb_99 : (Int8.ofInt 99).toInt32 = iv 99 := by decide +kernel
theorem d_X_set_68 : decode y_X_set.2.1 68 = .ok (.bipush 99, 2) := op_bipush (gk (k := 64) (t := 4) ck_X_set_2 rfl) (gk (k := 64) (t := 5) ck_X_set_2 rfl) rfl
theorem in_99 : inr (99) := lit_in rfl
theorem d_X_set_70 : decode y_X_set.2.1 70 = .ok (.invokestatic 98, 3) := op_invokestatic (gk (k := 64) (t := 6) ck_X_set_2 rfl) (gk (k := 64) (t := 7) ck_X_set_2 rfl) (gk (k := 64) (t := 8) ck_X_set_2 rfl) rfl
theorem d_X_set_73 : decode y_X_set.2.1 73 = .ok (.goto 22, 3) := op_goto (gk (k := 64) (t := 9) ck_X_set_2 rfl) (gk (k := 64) (t := 10) ck_X_set_2 rfl) (gk (k := 64) (t := 11) ck_X_set_2 rfl) (by decide +kernel)
theorem d_X_set_50 : decode y_X_set.2.1 50 = .ok (.iload_n 2, 1) := op_iload_n2 (gk (k := 32) (t := 18) ck_X_set_1 rfl)
theorem d_X_set_51 : decode y_X_set.2.1 51 = .ok (.iconst 0, 1) := op_iconst0 (gk (k := 32) (t := 19) ck_X_set_1 rfl)
theorem d_X_set_52 : decode y_X_set.2.1 52 = .ok (.sipush 1000, 3) := op_sipush (gk (k := 32) (t := 20) ck_X_set_1 rfl) (gk (k := 32) (t := 21) ck_X_set_1 rfl) (gk (k := 32) (t := 22) ck_X_set_1 rfl) (by decide +kernel)
theorem d_X_set_55 : decode y_X_set.2.1 55 = .ok (.invokestatic 98, 3) := op_invokestatic (gk (k := 32) (t := 23) ck_X_set_1 rfl) (gk (k := 32) (t := 24) ck_X_set_1 rfl) (gk (k := 32) (t := 25) ck_X_set_1 rfl) rfl
theorem d_X_set_58 : decode y_X_set.2.1 58 = .ok (.goto 37, 3) := op_goto (gk (k := 32) (t := 26) ck_X_set_1 rfl) (gk (k := 32) (t := 27) ck_X_set_1 rfl) (gk (k := 32) (t := 28) ck_X_set_1 rfl) (by decide +kernel)
theorem d_X_set_34 : decode y_X_set.2.1 34 = .ok (.iload_n 2, 1) := op_iload_n2 (gk (k := 32) (t := 2) ck_X_set_1 rfl)
theorem d_X_set_35 : decode y_X_set.2.1 35 = .ok (.iconst 0, 1) := op_iconst0 (gk (k := 32) (t := 3) ck_X_set_1 rfl)
theorem cs_999 : (Int16.ofInt 999).toInt32 = iv 999 := by decide +kernel
theorem d_X_set_36 : decode y_X_set.2.1 36 = .ok (.sipush 999, 3) := op_sipush (gk (k := 32) (t := 4) ck_X_set_1 rfl) (gk (k := 32) (t := 5) ck_X_set_1 rfl) (gk (k := 32) (t := 6) ck_X_set_1 rfl) (by decide +kernel)
theorem in_999 : inr (999) := lit_in rfl
theorem d_X_set_39 : decode y_X_set.2.1 39 = .ok (.invokestatic 98, 3) := op_invokestatic (gk (k := 32) (t := 7) ck_X_set_1 rfl) (gk (k := 32) (t := 8) ck_X_set_1 rfl) (gk (k := 32) (t := 9) ck_X_set_1 rfl) rfl
theorem d_X_set_42 : decode y_X_set.2.1 42 = .ok (.goto 53, 3) := op_goto (gk (k := 32) (t := 10) ck_X_set_1 rfl) (gk (k := 32) (t := 11) ck_X_set_1 rfl) (gk (k := 32) (t := 12) ck_X_set_1 rfl) (by decide +kernel)
theorem d_X_set_19 : decode y_X_set.2.1 19 = .ok (.iload_n 2, 1) := op_iload_n2 (gk (k := 0) (t := 19) ck_X_set_0 rfl)
theorem d_X_set_20 : decode y_X_set.2.1 20 = .ok (.iconst 1, 1) := op_iconst1 (gk (k := 0) (t := 20) ck_X_set_0 rfl)
theorem d_X_set_21 : decode y_X_set.2.1 21 = .ok (.bipush 99, 2) := op_bipush (gk (k := 0) (t := 21) ck_X_set_0 rfl) (gk (k := 0) (t := 22) ck_X_set_0 rfl) rfl
theorem d_X_set_23 : decode y_X_set.2.1 23 = .ok (.invokestatic 98, 3) := op_invokestatic (gk (k := 0) (t := 23) ck_X_set_0 rfl) (gk (k := 0) (t := 24) ck_X_set_0 rfl) (gk (k := 0) (t := 25) ck_X_set_0 rfl) rfl
theorem d_X_set_26 : decode y_X_set.2.1 26 = .ok (.goto 69, 3) := op_goto (gk (k := 0) (t := 26) ck_X_set_0 rfl) (gk (k := 0) (t := 27) ck_X_set_0 rfl) (gk (k := 0) (t := 28) ck_X_set_0 rfl) (by decide +kernel)
theorem d_X_set_4 : decode y_X_set.2.1 4 = .ok (.iload_n 2, 1) := op_iload_n2 (gk (k := 0) (t := 4) ck_X_set_0 rfl)
theorem d_X_set_5 : decode y_X_set.2.1 5 = .ok (.iconst 2, 1) := op_iconst2 (gk (k := 0) (t := 5) ck_X_set_0 rfl)
theorem d_X_set_6 : decode y_X_set.2.1 6 = .ok (.bipush 8, 2) := op_bipush (gk (k := 0) (t := 6) ck_X_set_0 rfl) (gk (k := 0) (t := 7) ck_X_set_0 rfl) rfl
theorem d_X_set_8 : decode y_X_set.2.1 8 = .ok (.invokestatic 98, 3) := op_invokestatic (gk (k := 0) (t := 8) ck_X_set_0 rfl) (gk (k := 0) (t := 9) ck_X_set_0 rfl) (gk (k := 0) (t := 10) ck_X_set_0 rfl) rfl
theorem d_X_set_11 : decode y_X_set.2.1 11 = .ok (.goto 84, 3) := op_goto (gk (k := 0) (t := 11) ck_X_set_0 rfl) (gk (k := 0) (t := 12) ck_X_set_0 rfl) (gk (k := 0) (t := 13) ck_X_set_0 rfl) (by decide +kernel)
abbrev y_X_isLine : MI := (⟨"SinglesUpModel", "isLine", "(I)Z"⟩, prog_11_method_5_code, 1, some .boolean)
theorem ck_X_isLine_0 : (y_X_isLine.2.1.data.toList.drop 0).take 32 = [26, 3, 8, 184, 0, 98, 172] := by decide +kernel
theorem d_X_isLine_0 : decode y_X_isLine.2.1 0 = .ok (.iload_n 0, 1) := op_iload_n0 (gk (k := 0) (t := 0) ck_X_isLine_0 rfl)
theorem d_X_isLine_1 : decode y_X_isLine.2.1 1 = .ok (.iconst 0, 1) := op_iconst0 (gk (k := 0) (t := 1) ck_X_isLine_0 rfl)
theorem d_X_isLine_2 : decode y_X_isLine.2.1 2 = .ok (.iconst 5, 1) := op_iconst5 (gk (k := 0) (t := 2) ck_X_isLine_0 rfl)
theorem d_X_isLine_3 : decode y_X_isLine.2.1 3 = .ok (.invokestatic 98, 3) := op_invokestatic (gk (k := 0) (t := 3) ck_X_isLine_0 rfl) (gk (k := 0) (t := 4) ck_X_isLine_0 rfl) (gk (k := 0) (t := 5) ck_X_isLine_0 rfl) rfl
theorem d_X_isLine_6 : decode y_X_isLine.2.1 6 = .ok (.ireturn, 1) := op_ireturn (gk (k := 0) (t := 6) ck_X_isLine_0 rfl)
abbrev y_X_seen : MI := (⟨"SinglesUpModel", "seen", "(II)Z"⟩, prog_11_method_7_code, 3, some .boolean)
theorem ck_X_seen_0 : (y_X_seen.2.1.data.toList.drop 0).take 32 = [27, 184, 0, 105, 153, 0, 13, 28, 4, 16, 24, 184, 0, 98, 154, 0, 5, 3, 172, 42, 180, 0, 7, 16, 10, 27, 96, 28, 79, 4, 172] := by decide +kernel
theorem d_X_seen_0 : decode y_X_seen.2.1 0 = .ok (.iload_n 1, 1) := op_iload_n1 (gk (k := 0) (t := 0) ck_X_seen_0 rfl)
theorem lk_X_105 : LkS "SinglesUpModel" 105 y_X_isLine := ⟨tw_c6 27 (by decide +kernel) rfl, Or.inl (tw_c6 26 (by decide +kernel) rfl)⟩
set_option maxRecDepth 100000 in
theorem mo_X_isLine : MOk y_X_isLine 1 := ⟨by decide +kernel, tw_c6 28 rfl rfl, tw_c1 12 (by decide +kernel) rfl, by decide +kernel, by decide +kernel, by decide +kernel⟩
theorem d_X_seen_1 : decode y_X_seen.2.1 1 = .ok (.invokestatic 105, 3) := op_invokestatic (gk (k := 0) (t := 1) ck_X_seen_0 rfl) (gk (k := 0) (t := 2) ck_X_seen_0 rfl) (gk (k := 0) (t := 3) ck_X_seen_0 rfl) rfl
theorem d_X_seen_4 : decode y_X_seen.2.1 4 = .ok (.ifCond .eq 13, 3) := op_if_eq (gk (k := 0) (t := 4) ck_X_seen_0 rfl) (gk (k := 0) (t := 5) ck_X_seen_0 rfl) (gk (k := 0) (t := 6) ck_X_seen_0 rfl) (by decide +kernel)
theorem d_X_seen_17 : decode y_X_seen.2.1 17 = .ok (.iconst 0, 1) := op_iconst0 (gk (k := 0) (t := 17) ck_X_seen_0 rfl)
theorem d_X_seen_18 : decode y_X_seen.2.1 18 = .ok (.ireturn, 1) := op_ireturn (gk (k := 0) (t := 18) ck_X_seen_0 rfl)
theorem d_X_seen_7 : decode y_X_seen.2.1 7 = .ok (.iload_n 2, 1) := op_iload_n2 (gk (k := 0) (t := 7) ck_X_seen_0 rfl)
theorem d_X_seen_8 : decode y_X_seen.2.1 8 = .ok (.iconst 1, 1) := op_iconst1 (gk (k := 0) (t := 8) ck_X_seen_0 rfl)
theorem d_X_seen_9 : decode y_X_seen.2.1 9 = .ok (.bipush 24, 2) := op_bipush (gk (k := 0) (t := 9) ck_X_seen_0 rfl) (gk (k := 0) (t := 10) ck_X_seen_0 rfl) rfl
theorem d_X_seen_11 : decode y_X_seen.2.1 11 = .ok (.invokestatic 98, 3) := op_invokestatic (gk (k := 0) (t := 11) ck_X_seen_0 rfl) (gk (k := 0) (t := 12) ck_X_seen_0 rfl) (gk (k := 0) (t := 13) ck_X_seen_0 rfl) rfl
theorem d_X_seen_14 : decode y_X_seen.2.1 14 = .ok (.ifCond .ne 5, 3) := op_if_ne (gk (k := 0) (t := 14) ck_X_seen_0 rfl) (gk (k := 0) (t := 15) ck_X_seen_0 rfl) (gk (k := 0) (t := 16) ck_X_seen_0 rfl) (by decide +kernel)
theorem d_X_seen_19 : decode y_X_seen.2.1 19 = .ok (.aload_n 0, 1) := op_aload_n0 (gk (k := 0) (t := 19) ck_X_seen_0 rfl)
theorem d_X_seen_20 : decode y_X_seen.2.1 20 = .ok (.getfield 7, 3) := op_getfield (gk (k := 0) (t := 20) ck_X_seen_0 rfl) (gk (k := 0) (t := 21) ck_X_seen_0 rfl) (gk (k := 0) (t := 22) ck_X_seen_0 rfl) rfl
theorem d_X_seen_23 : decode y_X_seen.2.1 23 = .ok (.bipush 10, 2) := op_bipush (gk (k := 0) (t := 23) ck_X_seen_0 rfl) (gk (k := 0) (t := 24) ck_X_seen_0 rfl) rfl
theorem d_X_seen_25 : decode y_X_seen.2.1 25 = .ok (.iload_n 1, 1) := op_iload_n1 (gk (k := 0) (t := 25) ck_X_seen_0 rfl)
theorem d_X_seen_26 : decode y_X_seen.2.1 26 = .ok (.iadd, 1) := op_iadd (gk (k := 0) (t := 26) ck_X_seen_0 rfl)
theorem d_X_seen_27 : decode y_X_seen.2.1 27 = .ok (.iload_n 2, 1) := op_iload_n2 (gk (k := 0) (t := 27) ck_X_seen_0 rfl)
theorem d_X_seen_28 : decode y_X_seen.2.1 28 = .ok (.iastore, 1) := op_iastore (gk (k := 0) (t := 28) ck_X_seen_0 rfl)
theorem d_X_seen_29 : decode y_X_seen.2.1 29 = .ok (.iconst 1, 1) := op_iconst1 (gk (k := 0) (t := 29) ck_X_seen_0 rfl)
theorem d_X_seen_30 : decode y_X_seen.2.1 30 = .ok (.ireturn, 1) := op_ireturn (gk (k := 0) (t := 30) ck_X_seen_0 rfl)
abbrev y_X_parts : MI := (⟨"SinglesUpModel", "parts", "(II)Z"⟩, prog_11_method_8_code, 3, some .boolean)
theorem ck_X_parts_0 : (y_X_parts.2.1.data.toList.drop 0).take 32 = [27, 5, 16, 8, 184, 0, 98, 153, 0, 14, 28, 3, 27, 4, 100, 184, 0, 98, 154, 0, 5, 3, 172, 42, 180, 0, 7, 16, 16, 27, 96, 28] := by decide +kernel
theorem d_X_parts_0 : decode y_X_parts.2.1 0 = .ok (.iload_n 1, 1) := op_iload_n1 (gk (k := 0) (t := 0) ck_X_parts_0 rfl)
theorem d_X_parts_1 : decode y_X_parts.2.1 1 = .ok (.iconst 2, 1) := op_iconst2 (gk (k := 0) (t := 1) ck_X_parts_0 rfl)
theorem d_X_parts_2 : decode y_X_parts.2.1 2 = .ok (.bipush 8, 2) := op_bipush (gk (k := 0) (t := 2) ck_X_parts_0 rfl) (gk (k := 0) (t := 3) ck_X_parts_0 rfl) rfl
theorem d_X_parts_4 : decode y_X_parts.2.1 4 = .ok (.invokestatic 98, 3) := op_invokestatic (gk (k := 0) (t := 4) ck_X_parts_0 rfl) (gk (k := 0) (t := 5) ck_X_parts_0 rfl) (gk (k := 0) (t := 6) ck_X_parts_0 rfl) rfl
theorem d_X_parts_7 : decode y_X_parts.2.1 7 = .ok (.ifCond .eq 14, 3) := op_if_eq (gk (k := 0) (t := 7) ck_X_parts_0 rfl) (gk (k := 0) (t := 8) ck_X_parts_0 rfl) (gk (k := 0) (t := 9) ck_X_parts_0 rfl) (by decide +kernel)
theorem d_X_parts_21 : decode y_X_parts.2.1 21 = .ok (.iconst 0, 1) := op_iconst0 (gk (k := 0) (t := 21) ck_X_parts_0 rfl)
theorem d_X_parts_22 : decode y_X_parts.2.1 22 = .ok (.ireturn, 1) := op_ireturn (gk (k := 0) (t := 22) ck_X_parts_0 rfl)
theorem d_X_parts_10 : decode y_X_parts.2.1 10 = .ok (.iload_n 2, 1) := op_iload_n2 (gk (k := 0) (t := 10) ck_X_parts_0 rfl)
theorem d_X_parts_11 : decode y_X_parts.2.1 11 = .ok (.iconst 0, 1) := op_iconst0 (gk (k := 0) (t := 11) ck_X_parts_0 rfl)
theorem d_X_parts_12 : decode y_X_parts.2.1 12 = .ok (.iload_n 1, 1) := op_iload_n1 (gk (k := 0) (t := 12) ck_X_parts_0 rfl)
theorem d_X_parts_13 : decode y_X_parts.2.1 13 = .ok (.iconst 1, 1) := op_iconst1 (gk (k := 0) (t := 13) ck_X_parts_0 rfl)
theorem d_X_parts_14 : decode y_X_parts.2.1 14 = .ok (.isub, 1) := op_isub (gk (k := 0) (t := 14) ck_X_parts_0 rfl)
theorem d_X_parts_15 : decode y_X_parts.2.1 15 = .ok (.invokestatic 98, 3) := op_invokestatic (gk (k := 0) (t := 15) ck_X_parts_0 rfl) (gk (k := 0) (t := 16) ck_X_parts_0 rfl) (gk (k := 0) (t := 17) ck_X_parts_0 rfl) rfl
theorem d_X_parts_18 : decode y_X_parts.2.1 18 = .ok (.ifCond .ne 5, 3) := op_if_ne (gk (k := 0) (t := 18) ck_X_parts_0 rfl) (gk (k := 0) (t := 19) ck_X_parts_0 rfl) (gk (k := 0) (t := 20) ck_X_parts_0 rfl) (by decide +kernel)
theorem d_X_parts_23 : decode y_X_parts.2.1 23 = .ok (.aload_n 0, 1) := op_aload_n0 (gk (k := 0) (t := 23) ck_X_parts_0 rfl)
theorem d_X_parts_24 : decode y_X_parts.2.1 24 = .ok (.getfield 7, 3) := op_getfield (gk (k := 0) (t := 24) ck_X_parts_0 rfl) (gk (k := 0) (t := 25) ck_X_parts_0 rfl) (gk (k := 0) (t := 26) ck_X_parts_0 rfl) rfl
theorem d_X_parts_27 : decode y_X_parts.2.1 27 = .ok (.bipush 16, 2) := op_bipush (gk (k := 0) (t := 27) ck_X_parts_0 rfl) (gk (k := 0) (t := 28) ck_X_parts_0 rfl) rfl
theorem d_X_parts_29 : decode y_X_parts.2.1 29 = .ok (.iload_n 1, 1) := op_iload_n1 (gk (k := 0) (t := 29) ck_X_parts_0 rfl)
theorem d_X_parts_30 : decode y_X_parts.2.1 30 = .ok (.iadd, 1) := op_iadd (gk (k := 0) (t := 30) ck_X_parts_0 rfl)
theorem d_X_parts_31 : decode y_X_parts.2.1 31 = .ok (.iload_n 2, 1) := op_iload_n2 (gk (k := 0) (t := 31) ck_X_parts_0 rfl)
theorem ck_X_parts_1 : (y_X_parts.2.1.data.toList.drop 32).take 32 = [79, 4, 172] := by decide +kernel
theorem d_X_parts_32 : decode y_X_parts.2.1 32 = .ok (.iastore, 1) := op_iastore (gk (k := 32) (t := 0) ck_X_parts_1 rfl)
theorem d_X_parts_33 : decode y_X_parts.2.1 33 = .ok (.iconst 1, 1) := op_iconst1 (gk (k := 32) (t := 1) ck_X_parts_1 rfl)
theorem d_X_parts_34 : decode y_X_parts.2.1 34 = .ok (.ireturn, 1) := op_ireturn (gk (k := 32) (t := 2) ck_X_parts_1 rfl)
abbrev y_X_isGroup : MI := (⟨"SinglesUpModel", "isGroup", "(III)Z"⟩, prog_11_method_9_code, 3, some .boolean)
theorem ck_X_isGroup_0 : (y_X_isGroup.2.1.data.toList.drop 0).take 32 = [26, 4, 16, 8, 184, 0, 98, 153, 0, 25, 27, 4, 26, 184, 0, 98, 153, 0, 16, 28, 3, 6, 184, 0, 98, 153, 0, 7, 4, 167, 0, 4] := by decide +kernel
theorem d_X_isGroup_0 : decode y_X_isGroup.2.1 0 = .ok (.iload_n 0, 1) := op_iload_n0 (gk (k := 0) (t := 0) ck_X_isGroup_0 rfl)
theorem d_X_isGroup_1 : decode y_X_isGroup.2.1 1 = .ok (.iconst 1, 1) := op_iconst1 (gk (k := 0) (t := 1) ck_X_isGroup_0 rfl)
theorem d_X_isGroup_2 : decode y_X_isGroup.2.1 2 = .ok (.bipush 8, 2) := op_bipush (gk (k := 0) (t := 2) ck_X_isGroup_0 rfl) (gk (k := 0) (t := 3) ck_X_isGroup_0 rfl) rfl
theorem d_X_isGroup_4 : decode y_X_isGroup.2.1 4 = .ok (.invokestatic 98, 3) := op_invokestatic (gk (k := 0) (t := 4) ck_X_isGroup_0 rfl) (gk (k := 0) (t := 5) ck_X_isGroup_0 rfl) (gk (k := 0) (t := 6) ck_X_isGroup_0 rfl) rfl
theorem d_X_isGroup_7 : decode y_X_isGroup.2.1 7 = .ok (.ifCond .eq 25, 3) := op_if_eq (gk (k := 0) (t := 7) ck_X_isGroup_0 rfl) (gk (k := 0) (t := 8) ck_X_isGroup_0 rfl) (gk (k := 0) (t := 9) ck_X_isGroup_0 rfl) (by decide +kernel)
theorem ck_X_isGroup_1 : (y_X_isGroup.2.1.data.toList.drop 32).take 32 = [3, 172] := by decide +kernel
theorem d_X_isGroup_32 : decode y_X_isGroup.2.1 32 = .ok (.iconst 0, 1) := op_iconst0 (gk (k := 32) (t := 0) ck_X_isGroup_1 rfl)
theorem d_X_isGroup_33 : decode y_X_isGroup.2.1 33 = .ok (.ireturn, 1) := op_ireturn (gk (k := 32) (t := 1) ck_X_isGroup_1 rfl)
theorem d_X_isGroup_10 : decode y_X_isGroup.2.1 10 = .ok (.iload_n 1, 1) := op_iload_n1 (gk (k := 0) (t := 10) ck_X_isGroup_0 rfl)
theorem d_X_isGroup_11 : decode y_X_isGroup.2.1 11 = .ok (.iconst 1, 1) := op_iconst1 (gk (k := 0) (t := 11) ck_X_isGroup_0 rfl)
theorem d_X_isGroup_12 : decode y_X_isGroup.2.1 12 = .ok (.iload_n 0, 1) := op_iload_n0 (gk (k := 0) (t := 12) ck_X_isGroup_0 rfl)
theorem d_X_isGroup_13 : decode y_X_isGroup.2.1 13 = .ok (.invokestatic 98, 3) := op_invokestatic (gk (k := 0) (t := 13) ck_X_isGroup_0 rfl) (gk (k := 0) (t := 14) ck_X_isGroup_0 rfl) (gk (k := 0) (t := 15) ck_X_isGroup_0 rfl) rfl
theorem d_X_isGroup_16 : decode y_X_isGroup.2.1 16 = .ok (.ifCond .eq 16, 3) := op_if_eq (gk (k := 0) (t := 16) ck_X_isGroup_0 rfl) (gk (k := 0) (t := 17) ck_X_isGroup_0 rfl) (gk (k := 0) (t := 18) ck_X_isGroup_0 rfl) (by decide +kernel)
theorem d_X_isGroup_19 : decode y_X_isGroup.2.1 19 = .ok (.iload_n 2, 1) := op_iload_n2 (gk (k := 0) (t := 19) ck_X_isGroup_0 rfl)
theorem d_X_isGroup_20 : decode y_X_isGroup.2.1 20 = .ok (.iconst 0, 1) := op_iconst0 (gk (k := 0) (t := 20) ck_X_isGroup_0 rfl)
theorem d_X_isGroup_21 : decode y_X_isGroup.2.1 21 = .ok (.iconst 3, 1) := op_iconst3 (gk (k := 0) (t := 21) ck_X_isGroup_0 rfl)
theorem d_X_isGroup_22 : decode y_X_isGroup.2.1 22 = .ok (.invokestatic 98, 3) := op_invokestatic (gk (k := 0) (t := 22) ck_X_isGroup_0 rfl) (gk (k := 0) (t := 23) ck_X_isGroup_0 rfl) (gk (k := 0) (t := 24) ck_X_isGroup_0 rfl) rfl
theorem d_X_isGroup_25 : decode y_X_isGroup.2.1 25 = .ok (.ifCond .eq 7, 3) := op_if_eq (gk (k := 0) (t := 25) ck_X_isGroup_0 rfl) (gk (k := 0) (t := 26) ck_X_isGroup_0 rfl) (gk (k := 0) (t := 27) ck_X_isGroup_0 rfl) (by decide +kernel)
theorem d_X_isGroup_28 : decode y_X_isGroup.2.1 28 = .ok (.iconst 1, 1) := op_iconst1 (gk (k := 0) (t := 28) ck_X_isGroup_0 rfl)
theorem d_X_isGroup_29 : decode y_X_isGroup.2.1 29 = .ok (.goto 4, 3) := op_goto (gk (k := 0) (t := 29) ck_X_isGroup_0 rfl) (gk (k := 0) (t := 30) ck_X_isGroup_0 rfl) (gk (k := 0) (t := 31) ck_X_isGroup_0 rfl) (by decide +kernel)
abbrev y_X_comer : MI := (⟨"SinglesUpModel", "comer", "(IIIII)Z"⟩, prog_11_method_10_code, 6, some .boolean)
theorem ck_X_comer_0 : (y_X_comer.2.1.data.toList.drop 0).take 32 = [27, 3, 16, 7, 184, 0, 98, 153, 0, 25, 28, 29, 21, 4, 184, 0, 109, 153, 0, 15, 21, 5, 3, 17, 3, 232, 184, 0, 98, 154, 0, 5] := by decide +kernel
theorem d_X_comer_0 : decode y_X_comer.2.1 0 = .ok (.iload_n 1, 1) := op_iload_n1 (gk (k := 0) (t := 0) ck_X_comer_0 rfl)
theorem d_X_comer_1 : decode y_X_comer.2.1 1 = .ok (.iconst 0, 1) := op_iconst0 (gk (k := 0) (t := 1) ck_X_comer_0 rfl)
theorem d_X_comer_2 : decode y_X_comer.2.1 2 = .ok (.bipush 7, 2) := op_bipush (gk (k := 0) (t := 2) ck_X_comer_0 rfl) (gk (k := 0) (t := 3) ck_X_comer_0 rfl) rfl
theorem d_X_comer_4 : decode y_X_comer.2.1 4 = .ok (.invokestatic 98, 3) := op_invokestatic (gk (k := 0) (t := 4) ck_X_comer_0 rfl) (gk (k := 0) (t := 5) ck_X_comer_0 rfl) (gk (k := 0) (t := 6) ck_X_comer_0 rfl) rfl
theorem d_X_comer_7 : decode y_X_comer.2.1 7 = .ok (.ifCond .eq 25, 3) := op_if_eq (gk (k := 0) (t := 7) ck_X_comer_0 rfl) (gk (k := 0) (t := 8) ck_X_comer_0 rfl) (gk (k := 0) (t := 9) ck_X_comer_0 rfl) (by decide +kernel)
theorem ck_X_comer_1 : (y_X_comer.2.1.data.toList.drop 32).take 32 = [3, 172, 42, 180, 0, 7, 16, 26, 7, 27, 104, 96, 28, 79, 42, 180, 0, 7, 16, 26, 7, 27, 104, 96, 4, 96, 29, 79, 42, 180, 0, 7] := by decide +kernel
theorem d_X_comer_32 : decode y_X_comer.2.1 32 = .ok (.iconst 0, 1) := op_iconst0 (gk (k := 32) (t := 0) ck_X_comer_1 rfl)
theorem d_X_comer_33 : decode y_X_comer.2.1 33 = .ok (.ireturn, 1) := op_ireturn (gk (k := 32) (t := 1) ck_X_comer_1 rfl)
theorem d_X_comer_10 : decode y_X_comer.2.1 10 = .ok (.iload_n 2, 1) := op_iload_n2 (gk (k := 0) (t := 10) ck_X_comer_0 rfl)
theorem d_X_comer_11 : decode y_X_comer.2.1 11 = .ok (.iload_n 3, 1) := op_iload_n3 (gk (k := 0) (t := 11) ck_X_comer_0 rfl)
theorem d_X_comer_12 : decode y_X_comer.2.1 12 = .ok (.iload 4, 2) := op_iload (gk (k := 0) (t := 12) ck_X_comer_0 rfl) (gk (k := 0) (t := 13) ck_X_comer_0 rfl) rfl
theorem lk_X_109 : LkS "SinglesUpModel" 109 y_X_isGroup := ⟨tw_c6 38 (by decide +kernel) rfl, Or.inl (tw_c6 37 (by decide +kernel) rfl)⟩
set_option maxRecDepth 100000 in
theorem mo_X_isGroup : MOk y_X_isGroup 3 := ⟨by decide +kernel, tw_c6 39 rfl rfl, tw_c1 12 (by decide +kernel) rfl, by decide +kernel, by decide +kernel, by decide +kernel⟩
theorem d_X_comer_14 : decode y_X_comer.2.1 14 = .ok (.invokestatic 109, 3) := op_invokestatic (gk (k := 0) (t := 14) ck_X_comer_0 rfl) (gk (k := 0) (t := 15) ck_X_comer_0 rfl) (gk (k := 0) (t := 16) ck_X_comer_0 rfl) rfl
theorem d_X_comer_17 : decode y_X_comer.2.1 17 = .ok (.ifCond .eq 15, 3) := op_if_eq (gk (k := 0) (t := 17) ck_X_comer_0 rfl) (gk (k := 0) (t := 18) ck_X_comer_0 rfl) (gk (k := 0) (t := 19) ck_X_comer_0 rfl) (by decide +kernel)
theorem d_X_comer_20 : decode y_X_comer.2.1 20 = .ok (.iload 5, 2) := op_iload (gk (k := 0) (t := 20) ck_X_comer_0 rfl) (gk (k := 0) (t := 21) ck_X_comer_0 rfl) rfl
theorem d_X_comer_22 : decode y_X_comer.2.1 22 = .ok (.iconst 0, 1) := op_iconst0 (gk (k := 0) (t := 22) ck_X_comer_0 rfl)
theorem d_X_comer_23 : decode y_X_comer.2.1 23 = .ok (.sipush 1000, 3) := op_sipush (gk (k := 0) (t := 23) ck_X_comer_0 rfl) (gk (k := 0) (t := 24) ck_X_comer_0 rfl) (gk (k := 0) (t := 25) ck_X_comer_0 rfl) (by decide +kernel)
theorem d_X_comer_26 : decode y_X_comer.2.1 26 = .ok (.invokestatic 98, 3) := op_invokestatic (gk (k := 0) (t := 26) ck_X_comer_0 rfl) (gk (k := 0) (t := 27) ck_X_comer_0 rfl) (gk (k := 0) (t := 28) ck_X_comer_0 rfl) rfl
theorem d_X_comer_29 : decode y_X_comer.2.1 29 = .ok (.ifCond .ne 5, 3) := op_if_ne (gk (k := 0) (t := 29) ck_X_comer_0 rfl) (gk (k := 0) (t := 30) ck_X_comer_0 rfl) (gk (k := 0) (t := 31) ck_X_comer_0 rfl) (by decide +kernel)
theorem d_X_comer_34 : decode y_X_comer.2.1 34 = .ok (.aload_n 0, 1) := op_aload_n0 (gk (k := 32) (t := 2) ck_X_comer_1 rfl)
theorem d_X_comer_35 : decode y_X_comer.2.1 35 = .ok (.getfield 7, 3) := op_getfield (gk (k := 32) (t := 3) ck_X_comer_1 rfl) (gk (k := 32) (t := 4) ck_X_comer_1 rfl) (gk (k := 32) (t := 5) ck_X_comer_1 rfl) rfl
theorem cb_26 : (Int8.ofInt 26).toInt32 = iv 26 := by decide +kernel
theorem d_X_comer_38 : decode y_X_comer.2.1 38 = .ok (.bipush 26, 2) := op_bipush (gk (k := 32) (t := 6) ck_X_comer_1 rfl) (gk (k := 32) (t := 7) ck_X_comer_1 rfl) rfl
theorem d_X_comer_40 : decode y_X_comer.2.1 40 = .ok (.iconst 4, 1) := op_iconst4 (gk (k := 32) (t := 8) ck_X_comer_1 rfl)
theorem d_X_comer_41 : decode y_X_comer.2.1 41 = .ok (.iload_n 1, 1) := op_iload_n1 (gk (k := 32) (t := 9) ck_X_comer_1 rfl)
theorem d_X_comer_42 : decode y_X_comer.2.1 42 = .ok (.imul, 1) := op_imul (gk (k := 32) (t := 10) ck_X_comer_1 rfl)
theorem d_X_comer_43 : decode y_X_comer.2.1 43 = .ok (.iadd, 1) := op_iadd (gk (k := 32) (t := 11) ck_X_comer_1 rfl)
theorem d_X_comer_44 : decode y_X_comer.2.1 44 = .ok (.iload_n 2, 1) := op_iload_n2 (gk (k := 32) (t := 12) ck_X_comer_1 rfl)
theorem d_X_comer_45 : decode y_X_comer.2.1 45 = .ok (.iastore, 1) := op_iastore (gk (k := 32) (t := 13) ck_X_comer_1 rfl)
theorem d_X_comer_46 : decode y_X_comer.2.1 46 = .ok (.aload_n 0, 1) := op_aload_n0 (gk (k := 32) (t := 14) ck_X_comer_1 rfl)
theorem d_X_comer_47 : decode y_X_comer.2.1 47 = .ok (.getfield 7, 3) := op_getfield (gk (k := 32) (t := 15) ck_X_comer_1 rfl) (gk (k := 32) (t := 16) ck_X_comer_1 rfl) (gk (k := 32) (t := 17) ck_X_comer_1 rfl) rfl
theorem d_X_comer_50 : decode y_X_comer.2.1 50 = .ok (.bipush 26, 2) := op_bipush (gk (k := 32) (t := 18) ck_X_comer_1 rfl) (gk (k := 32) (t := 19) ck_X_comer_1 rfl) rfl
theorem d_X_comer_52 : decode y_X_comer.2.1 52 = .ok (.iconst 4, 1) := op_iconst4 (gk (k := 32) (t := 20) ck_X_comer_1 rfl)
theorem d_X_comer_53 : decode y_X_comer.2.1 53 = .ok (.iload_n 1, 1) := op_iload_n1 (gk (k := 32) (t := 21) ck_X_comer_1 rfl)
theorem d_X_comer_54 : decode y_X_comer.2.1 54 = .ok (.imul, 1) := op_imul (gk (k := 32) (t := 22) ck_X_comer_1 rfl)
theorem d_X_comer_55 : decode y_X_comer.2.1 55 = .ok (.iadd, 1) := op_iadd (gk (k := 32) (t := 23) ck_X_comer_1 rfl)
theorem d_X_comer_56 : decode y_X_comer.2.1 56 = .ok (.iconst 1, 1) := op_iconst1 (gk (k := 32) (t := 24) ck_X_comer_1 rfl)
theorem d_X_comer_57 : decode y_X_comer.2.1 57 = .ok (.iadd, 1) := op_iadd (gk (k := 32) (t := 25) ck_X_comer_1 rfl)
theorem d_X_comer_58 : decode y_X_comer.2.1 58 = .ok (.iload_n 3, 1) := op_iload_n3 (gk (k := 32) (t := 26) ck_X_comer_1 rfl)
theorem d_X_comer_59 : decode y_X_comer.2.1 59 = .ok (.iastore, 1) := op_iastore (gk (k := 32) (t := 27) ck_X_comer_1 rfl)
theorem d_X_comer_60 : decode y_X_comer.2.1 60 = .ok (.aload_n 0, 1) := op_aload_n0 (gk (k := 32) (t := 28) ck_X_comer_1 rfl)
theorem d_X_comer_61 : decode y_X_comer.2.1 61 = .ok (.getfield 7, 3) := op_getfield (gk (k := 32) (t := 29) ck_X_comer_1 rfl) (gk (k := 32) (t := 30) ck_X_comer_1 rfl) (gk (k := 32) (t := 31) ck_X_comer_1 rfl) rfl
theorem ck_X_comer_2 : (y_X_comer.2.1.data.toList.drop 64).take 32 = [16, 26, 7, 27, 104, 96, 5, 96, 21, 4, 79, 42, 180, 0, 7, 16, 26, 7, 27, 104, 96, 6, 96, 21, 5, 79, 4, 172] := by decide +kernel
theorem d_X_comer_64 : decode y_X_comer.2.1 64 = .ok (.bipush 26, 2) := op_bipush (gk (k := 64) (t := 0) ck_X_comer_2 rfl) (gk (k := 64) (t := 1) ck_X_comer_2 rfl) rfl
theorem d_X_comer_66 : decode y_X_comer.2.1 66 = .ok (.iconst 4, 1) := op_iconst4 (gk (k := 64) (t := 2) ck_X_comer_2 rfl)
theorem d_X_comer_67 : decode y_X_comer.2.1 67 = .ok (.iload_n 1, 1) := op_iload_n1 (gk (k := 64) (t := 3) ck_X_comer_2 rfl)
theorem d_X_comer_68 : decode y_X_comer.2.1 68 = .ok (.imul, 1) := op_imul (gk (k := 64) (t := 4) ck_X_comer_2 rfl)
theorem d_X_comer_69 : decode y_X_comer.2.1 69 = .ok (.iadd, 1) := op_iadd (gk (k := 64) (t := 5) ck_X_comer_2 rfl)
theorem d_X_comer_70 : decode y_X_comer.2.1 70 = .ok (.iconst 2, 1) := op_iconst2 (gk (k := 64) (t := 6) ck_X_comer_2 rfl)
theorem d_X_comer_71 : decode y_X_comer.2.1 71 = .ok (.iadd, 1) := op_iadd (gk (k := 64) (t := 7) ck_X_comer_2 rfl)
theorem d_X_comer_72 : decode y_X_comer.2.1 72 = .ok (.iload 4, 2) := op_iload (gk (k := 64) (t := 8) ck_X_comer_2 rfl) (gk (k := 64) (t := 9) ck_X_comer_2 rfl) rfl
theorem d_X_comer_74 : decode y_X_comer.2.1 74 = .ok (.iastore, 1) := op_iastore (gk (k := 64) (t := 10) ck_X_comer_2 rfl)
theorem d_X_comer_75 : decode y_X_comer.2.1 75 = .ok (.aload_n 0, 1) := op_aload_n0 (gk (k := 64) (t := 11) ck_X_comer_2 rfl)
theorem d_X_comer_76 : decode y_X_comer.2.1 76 = .ok (.getfield 7, 3) := op_getfield (gk (k := 64) (t := 12) ck_X_comer_2 rfl) (gk (k := 64) (t := 13) ck_X_comer_2 rfl) (gk (k := 64) (t := 14) ck_X_comer_2 rfl) rfl
theorem d_X_comer_79 : decode y_X_comer.2.1 79 = .ok (.bipush 26, 2) := op_bipush (gk (k := 64) (t := 15) ck_X_comer_2 rfl) (gk (k := 64) (t := 16) ck_X_comer_2 rfl) rfl
theorem d_X_comer_81 : decode y_X_comer.2.1 81 = .ok (.iconst 4, 1) := op_iconst4 (gk (k := 64) (t := 17) ck_X_comer_2 rfl)
theorem d_X_comer_82 : decode y_X_comer.2.1 82 = .ok (.iload_n 1, 1) := op_iload_n1 (gk (k := 64) (t := 18) ck_X_comer_2 rfl)
theorem d_X_comer_83 : decode y_X_comer.2.1 83 = .ok (.imul, 1) := op_imul (gk (k := 64) (t := 19) ck_X_comer_2 rfl)
theorem d_X_comer_84 : decode y_X_comer.2.1 84 = .ok (.iadd, 1) := op_iadd (gk (k := 64) (t := 20) ck_X_comer_2 rfl)
theorem d_X_comer_85 : decode y_X_comer.2.1 85 = .ok (.iconst 3, 1) := op_iconst3 (gk (k := 64) (t := 21) ck_X_comer_2 rfl)
theorem d_X_comer_86 : decode y_X_comer.2.1 86 = .ok (.iadd, 1) := op_iadd (gk (k := 64) (t := 22) ck_X_comer_2 rfl)
theorem d_X_comer_87 : decode y_X_comer.2.1 87 = .ok (.iload 5, 2) := op_iload (gk (k := 64) (t := 23) ck_X_comer_2 rfl) (gk (k := 64) (t := 24) ck_X_comer_2 rfl) rfl
theorem d_X_comer_89 : decode y_X_comer.2.1 89 = .ok (.iastore, 1) := op_iastore (gk (k := 64) (t := 25) ck_X_comer_2 rfl)
theorem d_X_comer_90 : decode y_X_comer.2.1 90 = .ok (.iconst 1, 1) := op_iconst1 (gk (k := 64) (t := 26) ck_X_comer_2 rfl)
theorem d_X_comer_91 : decode y_X_comer.2.1 91 = .ok (.ireturn, 1) := op_ireturn (gk (k := 64) (t := 27) ck_X_comer_2 rfl)
abbrev y_X_feed : MI := (⟨"SinglesUpModel", "feed", "(IIIII)I"⟩, prog_11_method_11_code, 8, some .int)
theorem ck_X_feed_0 : (y_X_feed.2.1.data.toList.drop 0).take 32 = [42, 180, 0, 112, 16, 20, 96, 17, 1, 144, 164, 0, 5, 2, 172, 3, 54, 6, 21, 6, 16, 20, 162, 0, 93, 21, 6, 7, 162, 0, 7, 27] := by decide +kernel
theorem d_X_feed_0 : decode y_X_feed.2.1 0 = .ok (.aload_n 0, 1) := op_aload_n0 (gk (k := 0) (t := 0) ck_X_feed_0 rfl)
theorem fl_X_112 : FL "SinglesUpModel" 112 9 12 := ⟨"SinglesUpModel", zT9, 51, rfl, by decide, rfl, Or.inl (tw_c5 105 (by decide +kernel) rfl)⟩
theorem d_X_feed_1 : decode y_X_feed.2.1 1 = .ok (.getfield 112, 3) := op_getfield (gk (k := 0) (t := 1) ck_X_feed_0 rfl) (gk (k := 0) (t := 2) ck_X_feed_0 rfl) (gk (k := 0) (t := 3) ck_X_feed_0 rfl) rfl
theorem d_X_feed_4 : decode y_X_feed.2.1 4 = .ok (.bipush 20, 2) := op_bipush (gk (k := 0) (t := 4) ck_X_feed_0 rfl) (gk (k := 0) (t := 5) ck_X_feed_0 rfl) rfl
theorem d_X_feed_6 : decode y_X_feed.2.1 6 = .ok (.iadd, 1) := op_iadd (gk (k := 0) (t := 6) ck_X_feed_0 rfl)
theorem d_X_feed_7 : decode y_X_feed.2.1 7 = .ok (.sipush 400, 3) := op_sipush (gk (k := 0) (t := 7) ck_X_feed_0 rfl) (gk (k := 0) (t := 8) ck_X_feed_0 rfl) (gk (k := 0) (t := 9) ck_X_feed_0 rfl) (by decide +kernel)
theorem d_X_feed_10 : decode y_X_feed.2.1 10 = .ok (.if_icmp .le 5, 3) := op_icmp_le (gk (k := 0) (t := 10) ck_X_feed_0 rfl) (gk (k := 0) (t := 11) ck_X_feed_0 rfl) (gk (k := 0) (t := 12) ck_X_feed_0 rfl) (by decide +kernel)
theorem d_X_feed_15 : decode y_X_feed.2.1 15 = .ok (.iconst 0, 1) := op_iconst0 (gk (k := 0) (t := 15) ck_X_feed_0 rfl)
theorem d_X_feed_16 : decode y_X_feed.2.1 16 = .ok (.istore 6, 2) := op_istore (gk (k := 0) (t := 16) ck_X_feed_0 rfl) (gk (k := 0) (t := 17) ck_X_feed_0 rfl) rfl
theorem d_X_feed_18 : decode y_X_feed.2.1 18 = .ok (.iload 6, 2) := op_iload (gk (k := 0) (t := 18) ck_X_feed_0 rfl) (gk (k := 0) (t := 19) ck_X_feed_0 rfl) rfl
theorem d_X_feed_20 : decode y_X_feed.2.1 20 = .ok (.bipush 20, 2) := op_bipush (gk (k := 0) (t := 20) ck_X_feed_0 rfl) (gk (k := 0) (t := 21) ck_X_feed_0 rfl) rfl
theorem d_X_feed_22 : decode y_X_feed.2.1 22 = .ok (.if_icmp .ge 93, 3) := op_icmp_ge (gk (k := 0) (t := 22) ck_X_feed_0 rfl) (gk (k := 0) (t := 23) ck_X_feed_0 rfl) (gk (k := 0) (t := 24) ck_X_feed_0 rfl) (by decide +kernel)
theorem ck_X_feed_3 : (y_X_feed.2.1.data.toList.drop 96).take 32 = [255, 126, 79, 42, 89, 180, 0, 112, 4, 96, 181, 0, 112, 132, 6, 1, 167, 255, 162, 42, 180, 0, 112, 172] := by decide +kernel
theorem d_X_feed_115 : decode y_X_feed.2.1 115 = .ok (.aload_n 0, 1) := op_aload_n0 (gk (k := 96) (t := 19) ck_X_feed_3 rfl)
theorem d_X_feed_116 : decode y_X_feed.2.1 116 = .ok (.getfield 112, 3) := op_getfield (gk (k := 96) (t := 20) ck_X_feed_3 rfl) (gk (k := 96) (t := 21) ck_X_feed_3 rfl) (gk (k := 96) (t := 22) ck_X_feed_3 rfl) rfl
theorem d_X_feed_119 : decode y_X_feed.2.1 119 = .ok (.ireturn, 1) := op_ireturn (gk (k := 96) (t := 23) ck_X_feed_3 rfl)
theorem d_X_feed_25 : decode y_X_feed.2.1 25 = .ok (.iload 6, 2) := op_iload (gk (k := 0) (t := 25) ck_X_feed_0 rfl) (gk (k := 0) (t := 26) ck_X_feed_0 rfl) rfl
theorem d_X_feed_27 : decode y_X_feed.2.1 27 = .ok (.iconst 4, 1) := op_iconst4 (gk (k := 0) (t := 27) ck_X_feed_0 rfl)
theorem ck_X_feed_2 : (y_X_feed.2.1.data.toList.drop 64).take 32 = [21, 4, 167, 0, 5, 21, 5, 54, 7, 42, 180, 0, 25, 42, 180, 0, 112, 21, 7, 16, 24, 16, 8, 21, 6, 7, 112, 104, 100, 122, 17, 0] := by decide +kernel
theorem d_X_feed_71 : decode y_X_feed.2.1 71 = .ok (.istore 7, 2) := op_istore (gk (k := 64) (t := 7) ck_X_feed_2 rfl) (gk (k := 64) (t := 8) ck_X_feed_2 rfl) rfl
theorem d_X_feed_73 : decode y_X_feed.2.1 73 = .ok (.aload_n 0, 1) := op_aload_n0 (gk (k := 64) (t := 9) ck_X_feed_2 rfl)
theorem fl_X_25 : FL "SinglesUpModel" 25 9 6 := ⟨"SinglesUpModel", zT9, 51, rfl, by decide, rfl, Or.inl (tw_c5 99 (by decide +kernel) rfl)⟩
theorem rm_9_6 : ∀ o, KM[o]? = some (12, 51) → RM o 6 = some (o + 6) ∧ KM[o + 6]? = some (0, 400) := by
  intro o h
  have hl : o < 26 := (List.getElem?_eq_some_iff.mp h).1
  exact (by decide +kernel : ∀ o, o < 26 → KM[o]? = some (12, 51) → RM o 6 = some (o + 6) ∧ KM[o + 6]? = some (0, 400)) o hl h
theorem d_X_feed_74 : decode y_X_feed.2.1 74 = .ok (.getfield 25, 3) := op_getfield (gk (k := 64) (t := 10) ck_X_feed_2 rfl) (gk (k := 64) (t := 11) ck_X_feed_2 rfl) (gk (k := 64) (t := 12) ck_X_feed_2 rfl) rfl
theorem d_X_feed_77 : decode y_X_feed.2.1 77 = .ok (.aload_n 0, 1) := op_aload_n0 (gk (k := 64) (t := 13) ck_X_feed_2 rfl)
theorem d_X_feed_78 : decode y_X_feed.2.1 78 = .ok (.getfield 112, 3) := op_getfield (gk (k := 64) (t := 14) ck_X_feed_2 rfl) (gk (k := 64) (t := 15) ck_X_feed_2 rfl) (gk (k := 64) (t := 16) ck_X_feed_2 rfl) rfl
theorem d_X_feed_81 : decode y_X_feed.2.1 81 = .ok (.iload 7, 2) := op_iload (gk (k := 64) (t := 17) ck_X_feed_2 rfl) (gk (k := 64) (t := 18) ck_X_feed_2 rfl) rfl
theorem d_X_feed_83 : decode y_X_feed.2.1 83 = .ok (.bipush 24, 2) := op_bipush (gk (k := 64) (t := 19) ck_X_feed_2 rfl) (gk (k := 64) (t := 20) ck_X_feed_2 rfl) rfl
theorem d_X_feed_85 : decode y_X_feed.2.1 85 = .ok (.bipush 8, 2) := op_bipush (gk (k := 64) (t := 21) ck_X_feed_2 rfl) (gk (k := 64) (t := 22) ck_X_feed_2 rfl) rfl
theorem d_X_feed_87 : decode y_X_feed.2.1 87 = .ok (.iload 6, 2) := op_iload (gk (k := 64) (t := 23) ck_X_feed_2 rfl) (gk (k := 64) (t := 24) ck_X_feed_2 rfl) rfl
theorem d_X_feed_89 : decode y_X_feed.2.1 89 = .ok (.iconst 4, 1) := op_iconst4 (gk (k := 64) (t := 25) ck_X_feed_2 rfl)
theorem d_X_feed_90 : decode y_X_feed.2.1 90 = .ok (.irem, 1) := op_irem (gk (k := 64) (t := 26) ck_X_feed_2 rfl)
theorem d_X_feed_91 : decode y_X_feed.2.1 91 = .ok (.imul, 1) := op_imul (gk (k := 64) (t := 27) ck_X_feed_2 rfl)
theorem d_X_feed_92 : decode y_X_feed.2.1 92 = .ok (.isub, 1) := op_isub (gk (k := 64) (t := 28) ck_X_feed_2 rfl)
theorem d_X_feed_93 : decode y_X_feed.2.1 93 = .ok (.ishr, 1) := op_ishr (gk (k := 64) (t := 29) ck_X_feed_2 rfl)
theorem d_X_feed_94 : decode y_X_feed.2.1 94 = .ok (.sipush 255, 3) := op_sipush (gk (k := 64) (t := 30) ck_X_feed_2 rfl) (gk (k := 64) (t := 31) ck_X_feed_2 rfl) (gk (k := 96) (t := 0) ck_X_feed_3 rfl) (by decide +kernel)
theorem d_X_feed_97 : decode y_X_feed.2.1 97 = .ok (.iand, 1) := op_iand (gk (k := 96) (t := 1) ck_X_feed_3 rfl)
theorem d_X_feed_98 : decode y_X_feed.2.1 98 = .ok (.iastore, 1) := op_iastore (gk (k := 96) (t := 2) ck_X_feed_3 rfl)
theorem d_X_feed_99 : decode y_X_feed.2.1 99 = .ok (.aload_n 0, 1) := op_aload_n0 (gk (k := 96) (t := 3) ck_X_feed_3 rfl)
theorem d_X_feed_100 : decode y_X_feed.2.1 100 = .ok (.dup, 1) := op_dup (gk (k := 96) (t := 4) ck_X_feed_3 rfl)
theorem d_X_feed_101 : decode y_X_feed.2.1 101 = .ok (.getfield 112, 3) := op_getfield (gk (k := 96) (t := 5) ck_X_feed_3 rfl) (gk (k := 96) (t := 6) ck_X_feed_3 rfl) (gk (k := 96) (t := 7) ck_X_feed_3 rfl) rfl
theorem d_X_feed_104 : decode y_X_feed.2.1 104 = .ok (.iconst 1, 1) := op_iconst1 (gk (k := 96) (t := 8) ck_X_feed_3 rfl)
theorem d_X_feed_105 : decode y_X_feed.2.1 105 = .ok (.iadd, 1) := op_iadd (gk (k := 96) (t := 9) ck_X_feed_3 rfl)
theorem d_X_feed_106 : decode y_X_feed.2.1 106 = .ok (.putfield 112, 3) := op_putfield (gk (k := 96) (t := 10) ck_X_feed_3 rfl) (gk (k := 96) (t := 11) ck_X_feed_3 rfl) (gk (k := 96) (t := 12) ck_X_feed_3 rfl) rfl
theorem d_X_feed_109 : decode y_X_feed.2.1 109 = .ok (.iinc 6 1, 3) := op_iinc (gk (k := 96) (t := 13) ck_X_feed_3 rfl) (gk (k := 96) (t := 14) ck_X_feed_3 rfl) (gk (k := 96) (t := 15) ck_X_feed_3 rfl) rfl rfl
theorem d_X_feed_112 : decode y_X_feed.2.1 112 = .ok (.goto (-94), 3) := op_goto (gk (k := 96) (t := 16) ck_X_feed_3 rfl) (gk (k := 96) (t := 17) ck_X_feed_3 rfl) (gk (k := 96) (t := 18) ck_X_feed_3 rfl) (by decide +kernel)
theorem d_X_feed_28 : decode y_X_feed.2.1 28 = .ok (.if_icmp .ge 7, 3) := op_icmp_ge (gk (k := 0) (t := 28) ck_X_feed_0 rfl) (gk (k := 0) (t := 29) ck_X_feed_0 rfl) (gk (k := 0) (t := 30) ck_X_feed_0 rfl) (by decide +kernel)
theorem ck_X_feed_1 : (y_X_feed.2.1.data.toList.drop 32).take 32 = [167, 0, 39, 21, 6, 16, 8, 162, 0, 7, 28, 167, 0, 28, 21, 6, 16, 12, 162, 0, 7, 29, 167, 0, 17, 21, 6, 16, 16, 162, 0, 8] := by decide +kernel
theorem d_X_feed_35 : decode y_X_feed.2.1 35 = .ok (.iload 6, 2) := op_iload (gk (k := 32) (t := 3) ck_X_feed_1 rfl) (gk (k := 32) (t := 4) ck_X_feed_1 rfl) rfl
theorem d_X_feed_37 : decode y_X_feed.2.1 37 = .ok (.bipush 8, 2) := op_bipush (gk (k := 32) (t := 5) ck_X_feed_1 rfl) (gk (k := 32) (t := 6) ck_X_feed_1 rfl) rfl
theorem d_X_feed_39 : decode y_X_feed.2.1 39 = .ok (.if_icmp .ge 7, 3) := op_icmp_ge (gk (k := 32) (t := 7) ck_X_feed_1 rfl) (gk (k := 32) (t := 8) ck_X_feed_1 rfl) (gk (k := 32) (t := 9) ck_X_feed_1 rfl) (by decide +kernel)
theorem d_X_feed_46 : decode y_X_feed.2.1 46 = .ok (.iload 6, 2) := op_iload (gk (k := 32) (t := 14) ck_X_feed_1 rfl) (gk (k := 32) (t := 15) ck_X_feed_1 rfl) rfl
theorem d_X_feed_48 : decode y_X_feed.2.1 48 = .ok (.bipush 12, 2) := op_bipush (gk (k := 32) (t := 16) ck_X_feed_1 rfl) (gk (k := 32) (t := 17) ck_X_feed_1 rfl) rfl
theorem d_X_feed_50 : decode y_X_feed.2.1 50 = .ok (.if_icmp .ge 7, 3) := op_icmp_ge (gk (k := 32) (t := 18) ck_X_feed_1 rfl) (gk (k := 32) (t := 19) ck_X_feed_1 rfl) (gk (k := 32) (t := 20) ck_X_feed_1 rfl) (by decide +kernel)
theorem d_X_feed_57 : decode y_X_feed.2.1 57 = .ok (.iload 6, 2) := op_iload (gk (k := 32) (t := 25) ck_X_feed_1 rfl) (gk (k := 32) (t := 26) ck_X_feed_1 rfl) rfl
theorem d_X_feed_59 : decode y_X_feed.2.1 59 = .ok (.bipush 16, 2) := op_bipush (gk (k := 32) (t := 27) ck_X_feed_1 rfl) (gk (k := 32) (t := 28) ck_X_feed_1 rfl) rfl
theorem d_X_feed_61 : decode y_X_feed.2.1 61 = .ok (.if_icmp .ge 8, 3) := op_icmp_ge (gk (k := 32) (t := 29) ck_X_feed_1 rfl) (gk (k := 32) (t := 30) ck_X_feed_1 rfl) (gk (k := 32) (t := 31) ck_X_feed_1 rfl) (by decide +kernel)
theorem d_X_feed_69 : decode y_X_feed.2.1 69 = .ok (.iload 5, 2) := op_iload (gk (k := 64) (t := 5) ck_X_feed_2 rfl) (gk (k := 64) (t := 6) ck_X_feed_2 rfl) rfl
theorem d_X_feed_64 : decode y_X_feed.2.1 64 = .ok (.iload 4, 2) := op_iload (gk (k := 64) (t := 0) ck_X_feed_2 rfl) (gk (k := 64) (t := 1) ck_X_feed_2 rfl) rfl
theorem d_X_feed_66 : decode y_X_feed.2.1 66 = .ok (.goto 5, 3) := op_goto (gk (k := 64) (t := 2) ck_X_feed_2 rfl) (gk (k := 64) (t := 3) ck_X_feed_2 rfl) (gk (k := 64) (t := 4) ck_X_feed_2 rfl) (by decide +kernel)
theorem d_X_feed_53 : decode y_X_feed.2.1 53 = .ok (.iload_n 3, 1) := op_iload_n3 (gk (k := 32) (t := 21) ck_X_feed_1 rfl)
theorem d_X_feed_54 : decode y_X_feed.2.1 54 = .ok (.goto 17, 3) := op_goto (gk (k := 32) (t := 22) ck_X_feed_1 rfl) (gk (k := 32) (t := 23) ck_X_feed_1 rfl) (gk (k := 32) (t := 24) ck_X_feed_1 rfl) (by decide +kernel)
theorem d_X_feed_42 : decode y_X_feed.2.1 42 = .ok (.iload_n 2, 1) := op_iload_n2 (gk (k := 32) (t := 10) ck_X_feed_1 rfl)
theorem d_X_feed_43 : decode y_X_feed.2.1 43 = .ok (.goto 28, 3) := op_goto (gk (k := 32) (t := 11) ck_X_feed_1 rfl) (gk (k := 32) (t := 12) ck_X_feed_1 rfl) (gk (k := 32) (t := 13) ck_X_feed_1 rfl) (by decide +kernel)
theorem d_X_feed_31 : decode y_X_feed.2.1 31 = .ok (.iload_n 1, 1) := op_iload_n1 (gk (k := 0) (t := 31) ck_X_feed_0 rfl)
theorem d_X_feed_32 : decode y_X_feed.2.1 32 = .ok (.goto 39, 3) := op_goto (gk (k := 32) (t := 0) ck_X_feed_1 rfl) (gk (k := 32) (t := 1) ck_X_feed_1 rfl) (gk (k := 32) (t := 2) ck_X_feed_1 rfl) (by decide +kernel)
theorem d_X_feed_13 : decode y_X_feed.2.1 13 = .ok (.iconst (-1), 1) := op_iconstm1 (gk (k := 0) (t := 13) ck_X_feed_0 rfl)
theorem d_X_feed_14 : decode y_X_feed.2.1 14 = .ok (.ireturn, 1) := op_ireturn (gk (k := 0) (t := 14) ck_X_feed_0 rfl)
abbrev y_X_end : MI := (⟨"SinglesUpModel", "end", "(I)Z"⟩, prog_11_method_12_code, 2, some .boolean)
theorem ck_X_end_0 : (y_X_end.2.1.data.toList.drop 0).take 32 = [27, 3, 42, 180, 0, 112, 184, 0, 98, 154, 0, 5, 3, 172, 42, 27, 181, 0, 112, 4, 172] := by decide +kernel
theorem d_X_end_0 : decode y_X_end.2.1 0 = .ok (.iload_n 1, 1) := op_iload_n1 (gk (k := 0) (t := 0) ck_X_end_0 rfl)
theorem d_X_end_1 : decode y_X_end.2.1 1 = .ok (.iconst 0, 1) := op_iconst0 (gk (k := 0) (t := 1) ck_X_end_0 rfl)
theorem d_X_end_2 : decode y_X_end.2.1 2 = .ok (.aload_n 0, 1) := op_aload_n0 (gk (k := 0) (t := 2) ck_X_end_0 rfl)
theorem d_X_end_3 : decode y_X_end.2.1 3 = .ok (.getfield 112, 3) := op_getfield (gk (k := 0) (t := 3) ck_X_end_0 rfl) (gk (k := 0) (t := 4) ck_X_end_0 rfl) (gk (k := 0) (t := 5) ck_X_end_0 rfl) rfl
theorem d_X_end_6 : decode y_X_end.2.1 6 = .ok (.invokestatic 98, 3) := op_invokestatic (gk (k := 0) (t := 6) ck_X_end_0 rfl) (gk (k := 0) (t := 7) ck_X_end_0 rfl) (gk (k := 0) (t := 8) ck_X_end_0 rfl) rfl
theorem d_X_end_9 : decode y_X_end.2.1 9 = .ok (.ifCond .ne 5, 3) := op_if_ne (gk (k := 0) (t := 9) ck_X_end_0 rfl) (gk (k := 0) (t := 10) ck_X_end_0 rfl) (gk (k := 0) (t := 11) ck_X_end_0 rfl) (by decide +kernel)
theorem d_X_end_14 : decode y_X_end.2.1 14 = .ok (.aload_n 0, 1) := op_aload_n0 (gk (k := 0) (t := 14) ck_X_end_0 rfl)
theorem d_X_end_15 : decode y_X_end.2.1 15 = .ok (.iload_n 1, 1) := op_iload_n1 (gk (k := 0) (t := 15) ck_X_end_0 rfl)
theorem d_X_end_16 : decode y_X_end.2.1 16 = .ok (.putfield 112, 3) := op_putfield (gk (k := 0) (t := 16) ck_X_end_0 rfl) (gk (k := 0) (t := 17) ck_X_end_0 rfl) (gk (k := 0) (t := 18) ck_X_end_0 rfl) rfl
theorem d_X_end_19 : decode y_X_end.2.1 19 = .ok (.iconst 1, 1) := op_iconst1 (gk (k := 0) (t := 19) ck_X_end_0 rfl)
theorem d_X_end_20 : decode y_X_end.2.1 20 = .ok (.ireturn, 1) := op_ireturn (gk (k := 0) (t := 20) ck_X_end_0 rfl)
theorem d_X_end_12 : decode y_X_end.2.1 12 = .ok (.iconst 0, 1) := op_iconst0 (gk (k := 0) (t := 12) ck_X_end_0 rfl)
theorem d_X_end_13 : decode y_X_end.2.1 13 = .ok (.ireturn, 1) := op_ireturn (gk (k := 0) (t := 13) ck_X_end_0 rfl)
abbrev y_X_lay : MI := (⟨"SinglesUpModel", "lay", "(II)V"⟩, prog_11_method_24_code, 3, none)
theorem ck_X_lay_0 : (y_X_lay.2.1.data.toList.drop 0).take 32 = [42, 180, 0, 22, 5, 42, 180, 0, 205, 104, 27, 79, 42, 180, 0, 22, 5, 42, 180, 0, 205, 104, 4, 96, 28, 79, 42, 89, 180, 0, 205, 4] := by decide +kernel
theorem d_X_lay_0 : decode y_X_lay.2.1 0 = .ok (.aload_n 0, 1) := op_aload_n0 (gk (k := 0) (t := 0) ck_X_lay_0 rfl)
theorem fl_X_22 : FL "SinglesUpModel" 22 9 5 := ⟨"SinglesUpModel", zT9, 51, rfl, by decide, rfl, Or.inl (tw_c5 98 (by decide +kernel) rfl)⟩
theorem rm_9_5 : ∀ o, KM[o]? = some (12, 51) → RM o 5 = some (o + 5) ∧ KM[o + 5]? = some (0, 820) := by
  intro o h
  have hl : o < 26 := (List.getElem?_eq_some_iff.mp h).1
  exact (by decide +kernel : ∀ o, o < 26 → KM[o]? = some (12, 51) → RM o 5 = some (o + 5) ∧ KM[o + 5]? = some (0, 820)) o hl h
theorem d_X_lay_1 : decode y_X_lay.2.1 1 = .ok (.getfield 22, 3) := op_getfield (gk (k := 0) (t := 1) ck_X_lay_0 rfl) (gk (k := 0) (t := 2) ck_X_lay_0 rfl) (gk (k := 0) (t := 3) ck_X_lay_0 rfl) rfl
theorem d_X_lay_4 : decode y_X_lay.2.1 4 = .ok (.iconst 2, 1) := op_iconst2 (gk (k := 0) (t := 4) ck_X_lay_0 rfl)
theorem d_X_lay_5 : decode y_X_lay.2.1 5 = .ok (.aload_n 0, 1) := op_aload_n0 (gk (k := 0) (t := 5) ck_X_lay_0 rfl)
theorem fl_X_205 : FL "SinglesUpModel" 205 9 11 := ⟨"SinglesUpModel", zT9, 51, rfl, by decide, rfl, Or.inl (tw_c5 104 (by decide +kernel) rfl)⟩
theorem d_X_lay_6 : decode y_X_lay.2.1 6 = .ok (.getfield 205, 3) := op_getfield (gk (k := 0) (t := 6) ck_X_lay_0 rfl) (gk (k := 0) (t := 7) ck_X_lay_0 rfl) (gk (k := 0) (t := 8) ck_X_lay_0 rfl) rfl
theorem d_X_lay_9 : decode y_X_lay.2.1 9 = .ok (.imul, 1) := op_imul (gk (k := 0) (t := 9) ck_X_lay_0 rfl)
theorem d_X_lay_10 : decode y_X_lay.2.1 10 = .ok (.iload_n 1, 1) := op_iload_n1 (gk (k := 0) (t := 10) ck_X_lay_0 rfl)
theorem d_X_lay_11 : decode y_X_lay.2.1 11 = .ok (.iastore, 1) := op_iastore (gk (k := 0) (t := 11) ck_X_lay_0 rfl)
theorem d_X_lay_12 : decode y_X_lay.2.1 12 = .ok (.aload_n 0, 1) := op_aload_n0 (gk (k := 0) (t := 12) ck_X_lay_0 rfl)
theorem d_X_lay_13 : decode y_X_lay.2.1 13 = .ok (.getfield 22, 3) := op_getfield (gk (k := 0) (t := 13) ck_X_lay_0 rfl) (gk (k := 0) (t := 14) ck_X_lay_0 rfl) (gk (k := 0) (t := 15) ck_X_lay_0 rfl) rfl
theorem d_X_lay_16 : decode y_X_lay.2.1 16 = .ok (.iconst 2, 1) := op_iconst2 (gk (k := 0) (t := 16) ck_X_lay_0 rfl)
theorem d_X_lay_17 : decode y_X_lay.2.1 17 = .ok (.aload_n 0, 1) := op_aload_n0 (gk (k := 0) (t := 17) ck_X_lay_0 rfl)
theorem d_X_lay_18 : decode y_X_lay.2.1 18 = .ok (.getfield 205, 3) := op_getfield (gk (k := 0) (t := 18) ck_X_lay_0 rfl) (gk (k := 0) (t := 19) ck_X_lay_0 rfl) (gk (k := 0) (t := 20) ck_X_lay_0 rfl) rfl
theorem d_X_lay_21 : decode y_X_lay.2.1 21 = .ok (.imul, 1) := op_imul (gk (k := 0) (t := 21) ck_X_lay_0 rfl)
theorem d_X_lay_22 : decode y_X_lay.2.1 22 = .ok (.iconst 1, 1) := op_iconst1 (gk (k := 0) (t := 22) ck_X_lay_0 rfl)
theorem d_X_lay_23 : decode y_X_lay.2.1 23 = .ok (.iadd, 1) := op_iadd (gk (k := 0) (t := 23) ck_X_lay_0 rfl)
theorem d_X_lay_24 : decode y_X_lay.2.1 24 = .ok (.iload_n 2, 1) := op_iload_n2 (gk (k := 0) (t := 24) ck_X_lay_0 rfl)
theorem d_X_lay_25 : decode y_X_lay.2.1 25 = .ok (.iastore, 1) := op_iastore (gk (k := 0) (t := 25) ck_X_lay_0 rfl)
theorem d_X_lay_26 : decode y_X_lay.2.1 26 = .ok (.aload_n 0, 1) := op_aload_n0 (gk (k := 0) (t := 26) ck_X_lay_0 rfl)
theorem d_X_lay_27 : decode y_X_lay.2.1 27 = .ok (.dup, 1) := op_dup (gk (k := 0) (t := 27) ck_X_lay_0 rfl)
theorem d_X_lay_28 : decode y_X_lay.2.1 28 = .ok (.getfield 205, 3) := op_getfield (gk (k := 0) (t := 28) ck_X_lay_0 rfl) (gk (k := 0) (t := 29) ck_X_lay_0 rfl) (gk (k := 0) (t := 30) ck_X_lay_0 rfl) rfl
theorem d_X_lay_31 : decode y_X_lay.2.1 31 = .ok (.iconst 1, 1) := op_iconst1 (gk (k := 0) (t := 31) ck_X_lay_0 rfl)
theorem ck_X_lay_1 : (y_X_lay.2.1.data.toList.drop 32).take 32 = [96, 181, 0, 205, 177] := by decide +kernel
theorem d_X_lay_32 : decode y_X_lay.2.1 32 = .ok (.iadd, 1) := op_iadd (gk (k := 32) (t := 0) ck_X_lay_1 rfl)
theorem d_X_lay_33 : decode y_X_lay.2.1 33 = .ok (.putfield 205, 3) := op_putfield (gk (k := 32) (t := 1) ck_X_lay_1 rfl) (gk (k := 32) (t := 2) ck_X_lay_1 rfl) (gk (k := 32) (t := 3) ck_X_lay_1 rfl) rfl
theorem d_X_lay_36 : decode y_X_lay.2.1 36 = .ok (.return_, 1) := op_return_ (gk (k := 32) (t := 4) ck_X_lay_1 rfl)
abbrev y_X_isDigit : MI := (⟨"SinglesUpModel", "isDigit", "(I)Z"⟩, prog_11_method_15_code, 1, some .boolean)
theorem ck_X_isDigit_0 : (y_X_isDigit.2.1.data.toList.drop 0).take 32 = [26, 16, 48, 16, 57, 184, 0, 98, 172] := by decide +kernel
theorem d_X_isDigit_0 : decode y_X_isDigit.2.1 0 = .ok (.iload_n 0, 1) := op_iload_n0 (gk (k := 0) (t := 0) ck_X_isDigit_0 rfl)
theorem d_X_isDigit_1 : decode y_X_isDigit.2.1 1 = .ok (.bipush 48, 2) := op_bipush (gk (k := 0) (t := 1) ck_X_isDigit_0 rfl) (gk (k := 0) (t := 2) ck_X_isDigit_0 rfl) rfl
theorem d_X_isDigit_3 : decode y_X_isDigit.2.1 3 = .ok (.bipush 57, 2) := op_bipush (gk (k := 0) (t := 3) ck_X_isDigit_0 rfl) (gk (k := 0) (t := 4) ck_X_isDigit_0 rfl) rfl
theorem d_X_isDigit_5 : decode y_X_isDigit.2.1 5 = .ok (.invokestatic 98, 3) := op_invokestatic (gk (k := 0) (t := 5) ck_X_isDigit_0 rfl) (gk (k := 0) (t := 6) ck_X_isDigit_0 rfl) (gk (k := 0) (t := 7) ck_X_isDigit_0 rfl) rfl
theorem d_X_isDigit_8 : decode y_X_isDigit.2.1 8 = .ok (.ireturn, 1) := op_ireturn (gk (k := 0) (t := 8) ck_X_isDigit_0 rfl)
abbrev y_X_isLetter : MI := (⟨"SinglesUpModel", "isLetter", "(I)Z"⟩, prog_11_method_14_code, 1, some .boolean)
theorem ck_X_isLetter_0 : (y_X_isLetter.2.1.data.toList.drop 0).take 32 = [26, 16, 97, 16, 122, 184, 0, 98, 154, 0, 14, 26, 16, 65, 16, 90, 184, 0, 98, 153, 0, 7, 4, 167, 0, 4, 3, 172] := by decide +kernel
theorem d_X_isLetter_0 : decode y_X_isLetter.2.1 0 = .ok (.iload_n 0, 1) := op_iload_n0 (gk (k := 0) (t := 0) ck_X_isLetter_0 rfl)
theorem d_X_isLetter_1 : decode y_X_isLetter.2.1 1 = .ok (.bipush 97, 2) := op_bipush (gk (k := 0) (t := 1) ck_X_isLetter_0 rfl) (gk (k := 0) (t := 2) ck_X_isLetter_0 rfl) rfl
theorem d_X_isLetter_3 : decode y_X_isLetter.2.1 3 = .ok (.bipush 122, 2) := op_bipush (gk (k := 0) (t := 3) ck_X_isLetter_0 rfl) (gk (k := 0) (t := 4) ck_X_isLetter_0 rfl) rfl
theorem d_X_isLetter_5 : decode y_X_isLetter.2.1 5 = .ok (.invokestatic 98, 3) := op_invokestatic (gk (k := 0) (t := 5) ck_X_isLetter_0 rfl) (gk (k := 0) (t := 6) ck_X_isLetter_0 rfl) (gk (k := 0) (t := 7) ck_X_isLetter_0 rfl) rfl
theorem d_X_isLetter_8 : decode y_X_isLetter.2.1 8 = .ok (.ifCond .ne 14, 3) := op_if_ne (gk (k := 0) (t := 8) ck_X_isLetter_0 rfl) (gk (k := 0) (t := 9) ck_X_isLetter_0 rfl) (gk (k := 0) (t := 10) ck_X_isLetter_0 rfl) (by decide +kernel)
theorem d_X_isLetter_22 : decode y_X_isLetter.2.1 22 = .ok (.iconst 1, 1) := op_iconst1 (gk (k := 0) (t := 22) ck_X_isLetter_0 rfl)
theorem d_X_isLetter_23 : decode y_X_isLetter.2.1 23 = .ok (.goto 4, 3) := op_goto (gk (k := 0) (t := 23) ck_X_isLetter_0 rfl) (gk (k := 0) (t := 24) ck_X_isLetter_0 rfl) (gk (k := 0) (t := 25) ck_X_isLetter_0 rfl) (by decide +kernel)
theorem d_X_isLetter_27 : decode y_X_isLetter.2.1 27 = .ok (.ireturn, 1) := op_ireturn (gk (k := 0) (t := 27) ck_X_isLetter_0 rfl)
theorem d_X_isLetter_11 : decode y_X_isLetter.2.1 11 = .ok (.iload_n 0, 1) := op_iload_n0 (gk (k := 0) (t := 11) ck_X_isLetter_0 rfl)
theorem d_X_isLetter_12 : decode y_X_isLetter.2.1 12 = .ok (.bipush 65, 2) := op_bipush (gk (k := 0) (t := 12) ck_X_isLetter_0 rfl) (gk (k := 0) (t := 13) ck_X_isLetter_0 rfl) rfl
theorem d_X_isLetter_14 : decode y_X_isLetter.2.1 14 = .ok (.bipush 90, 2) := op_bipush (gk (k := 0) (t := 14) ck_X_isLetter_0 rfl) (gk (k := 0) (t := 15) ck_X_isLetter_0 rfl) rfl
theorem d_X_isLetter_16 : decode y_X_isLetter.2.1 16 = .ok (.invokestatic 98, 3) := op_invokestatic (gk (k := 0) (t := 16) ck_X_isLetter_0 rfl) (gk (k := 0) (t := 17) ck_X_isLetter_0 rfl) (gk (k := 0) (t := 18) ck_X_isLetter_0 rfl) rfl
theorem d_X_isLetter_19 : decode y_X_isLetter.2.1 19 = .ok (.ifCond .eq 7, 3) := op_if_eq (gk (k := 0) (t := 19) ck_X_isLetter_0 rfl) (gk (k := 0) (t := 20) ck_X_isLetter_0 rfl) (gk (k := 0) (t := 21) ck_X_isLetter_0 rfl) (by decide +kernel)
theorem d_X_isLetter_26 : decode y_X_isLetter.2.1 26 = .ok (.iconst 0, 1) := op_iconst0 (gk (k := 0) (t := 26) ck_X_isLetter_0 rfl)
abbrev y_X_see : MI := (⟨"SinglesUpModel", "see", "(I)I"⟩, prog_11_method_13_code, 2, some .int)
theorem ck_X_see_0 : (y_X_see.2.1.data.toList.drop 0).take 32 = [27, 42, 180, 0, 112, 162, 0, 12, 42, 180, 0, 25, 27, 46, 167, 0, 4, 2, 172] := by decide +kernel
theorem d_X_see_0 : decode y_X_see.2.1 0 = .ok (.iload_n 1, 1) := op_iload_n1 (gk (k := 0) (t := 0) ck_X_see_0 rfl)
theorem d_X_see_1 : decode y_X_see.2.1 1 = .ok (.aload_n 0, 1) := op_aload_n0 (gk (k := 0) (t := 1) ck_X_see_0 rfl)
theorem d_X_see_2 : decode y_X_see.2.1 2 = .ok (.getfield 112, 3) := op_getfield (gk (k := 0) (t := 2) ck_X_see_0 rfl) (gk (k := 0) (t := 3) ck_X_see_0 rfl) (gk (k := 0) (t := 4) ck_X_see_0 rfl) rfl
theorem d_X_see_5 : decode y_X_see.2.1 5 = .ok (.if_icmp .ge 12, 3) := op_icmp_ge (gk (k := 0) (t := 5) ck_X_see_0 rfl) (gk (k := 0) (t := 6) ck_X_see_0 rfl) (gk (k := 0) (t := 7) ck_X_see_0 rfl) (by decide +kernel)
theorem d_X_see_17 : decode y_X_see.2.1 17 = .ok (.iconst (-1), 1) := op_iconstm1 (gk (k := 0) (t := 17) ck_X_see_0 rfl)
theorem d_X_see_18 : decode y_X_see.2.1 18 = .ok (.ireturn, 1) := op_ireturn (gk (k := 0) (t := 18) ck_X_see_0 rfl)
theorem d_X_see_8 : decode y_X_see.2.1 8 = .ok (.aload_n 0, 1) := op_aload_n0 (gk (k := 0) (t := 8) ck_X_see_0 rfl)
theorem d_X_see_9 : decode y_X_see.2.1 9 = .ok (.getfield 25, 3) := op_getfield (gk (k := 0) (t := 9) ck_X_see_0 rfl) (gk (k := 0) (t := 10) ck_X_see_0 rfl) (gk (k := 0) (t := 11) ck_X_see_0 rfl) rfl
theorem d_X_see_12 : decode y_X_see.2.1 12 = .ok (.iload_n 1, 1) := op_iload_n1 (gk (k := 0) (t := 12) ck_X_see_0 rfl)
theorem d_X_see_13 : decode y_X_see.2.1 13 = .ok (.iaload, 1) := op_iaload (gk (k := 0) (t := 13) ck_X_see_0 rfl)
theorem d_X_see_14 : decode y_X_see.2.1 14 = .ok (.goto 4, 3) := op_goto (gk (k := 0) (t := 14) ck_X_see_0 rfl) (gk (k := 0) (t := 15) ck_X_see_0 rfl) (gk (k := 0) (t := 16) ck_X_see_0 rfl) (by decide +kernel)
abbrev y_X_is : MI := (⟨"SinglesUpModel", "is", "(Ljava/lang/String;)Z"⟩, prog_11_method_16_code, 4, some .boolean)
theorem ck_X_is_0 : (y_X_is.2.1.data.toList.drop 0).take 32 = [42, 180, 0, 115, 42, 180, 0, 118, 100, 43, 182, 0, 121, 160, 0, 7, 4, 167, 0, 4, 3, 61, 3, 62, 29, 43, 182, 0, 121, 162, 0, 38] := by decide +kernel
theorem d_X_is_0 : decode y_X_is.2.1 0 = .ok (.aload_n 0, 1) := op_aload_n0 (gk (k := 0) (t := 0) ck_X_is_0 rfl)
theorem fl_X_115 : FL "SinglesUpModel" 115 9 13 := ⟨"SinglesUpModel", zT9, 51, rfl, by decide, rfl, Or.inl (tw_c5 106 (by decide +kernel) rfl)⟩
theorem d_X_is_1 : decode y_X_is.2.1 1 = .ok (.getfield 115, 3) := op_getfield (gk (k := 0) (t := 1) ck_X_is_0 rfl) (gk (k := 0) (t := 2) ck_X_is_0 rfl) (gk (k := 0) (t := 3) ck_X_is_0 rfl) rfl
theorem d_X_is_4 : decode y_X_is.2.1 4 = .ok (.aload_n 0, 1) := op_aload_n0 (gk (k := 0) (t := 4) ck_X_is_0 rfl)
theorem fl_X_118 : FL "SinglesUpModel" 118 9 15 := ⟨"SinglesUpModel", zT9, 51, rfl, by decide, rfl, Or.inl (tw_c5 108 (by decide +kernel) rfl)⟩
theorem d_X_is_5 : decode y_X_is.2.1 5 = .ok (.getfield 118, 3) := op_getfield (gk (k := 0) (t := 5) ck_X_is_0 rfl) (gk (k := 0) (t := 6) ck_X_is_0 rfl) (gk (k := 0) (t := 7) ck_X_is_0 rfl) rfl
theorem d_X_is_8 : decode y_X_is.2.1 8 = .ok (.isub, 1) := op_isub (gk (k := 0) (t := 8) ck_X_is_0 rfl)
theorem d_X_is_9 : decode y_X_is.2.1 9 = .ok (.aload_n 1, 1) := op_aload_n1 (gk (k := 0) (t := 9) ck_X_is_0 rfl)
theorem lk_X_121 : LkV "SinglesUpModel" 121 y_JS_length := ⟨tw_c2 207 (by decide +kernel) rfl, tw_c2 208 (by decide +kernel) rfl, Or.inl (tw_c6 72 (by decide +kernel) rfl)⟩
theorem d_X_is_10 : decode y_X_is.2.1 10 = .ok (.invokevirtual 121, 3) := op_invokevirtual (gk (k := 0) (t := 10) ck_X_is_0 rfl) (gk (k := 0) (t := 11) ck_X_is_0 rfl) (gk (k := 0) (t := 12) ck_X_is_0 rfl) rfl
theorem d_X_is_21 : decode y_X_is.2.1 21 = .ok (.istore_n 2, 1) := op_istore_n2 (gk (k := 0) (t := 21) ck_X_is_0 rfl)
theorem d_X_is_22 : decode y_X_is.2.1 22 = .ok (.iconst 0, 1) := op_iconst0 (gk (k := 0) (t := 22) ck_X_is_0 rfl)
theorem d_X_is_23 : decode y_X_is.2.1 23 = .ok (.istore_n 3, 1) := op_istore_n3 (gk (k := 0) (t := 23) ck_X_is_0 rfl)
theorem d_X_is_24 : decode y_X_is.2.1 24 = .ok (.iload_n 3, 1) := op_iload_n3 (gk (k := 0) (t := 24) ck_X_is_0 rfl)
theorem d_X_is_25 : decode y_X_is.2.1 25 = .ok (.aload_n 1, 1) := op_aload_n1 (gk (k := 0) (t := 25) ck_X_is_0 rfl)
theorem d_X_is_26 : decode y_X_is.2.1 26 = .ok (.invokevirtual 121, 3) := op_invokevirtual (gk (k := 0) (t := 26) ck_X_is_0 rfl) (gk (k := 0) (t := 27) ck_X_is_0 rfl) (gk (k := 0) (t := 28) ck_X_is_0 rfl) rfl
theorem d_X_is_29 : decode y_X_is.2.1 29 = .ok (.if_icmp .ge 38, 3) := op_icmp_ge (gk (k := 0) (t := 29) ck_X_is_0 rfl) (gk (k := 0) (t := 30) ck_X_is_0 rfl) (gk (k := 0) (t := 31) ck_X_is_0 rfl) (by decide +kernel)
theorem ck_X_is_2 : (y_X_is.2.1.data.toList.drop 64).take 32 = [167, 255, 216, 28, 172] := by decide +kernel
theorem d_X_is_67 : decode y_X_is.2.1 67 = .ok (.iload_n 2, 1) := op_iload_n2 (gk (k := 64) (t := 3) ck_X_is_2 rfl)
theorem d_X_is_68 : decode y_X_is.2.1 68 = .ok (.ireturn, 1) := op_ireturn (gk (k := 64) (t := 4) ck_X_is_2 rfl)
theorem ck_X_is_1 : (y_X_is.2.1.data.toList.drop 32).take 32 = [28, 153, 0, 34, 42, 180, 0, 25, 42, 180, 0, 118, 29, 96, 46, 43, 29, 182, 0, 127, 160, 0, 7, 4, 167, 0, 4, 3, 61, 132, 3, 1] := by decide +kernel
theorem d_X_is_32 : decode y_X_is.2.1 32 = .ok (.iload_n 2, 1) := op_iload_n2 (gk (k := 32) (t := 0) ck_X_is_1 rfl)
theorem d_X_is_33 : decode y_X_is.2.1 33 = .ok (.ifCond .eq 34, 3) := op_if_eq (gk (k := 32) (t := 1) ck_X_is_1 rfl) (gk (k := 32) (t := 2) ck_X_is_1 rfl) (gk (k := 32) (t := 3) ck_X_is_1 rfl) (by decide +kernel)
theorem d_X_is_36 : decode y_X_is.2.1 36 = .ok (.aload_n 0, 1) := op_aload_n0 (gk (k := 32) (t := 4) ck_X_is_1 rfl)
theorem d_X_is_37 : decode y_X_is.2.1 37 = .ok (.getfield 25, 3) := op_getfield (gk (k := 32) (t := 5) ck_X_is_1 rfl) (gk (k := 32) (t := 6) ck_X_is_1 rfl) (gk (k := 32) (t := 7) ck_X_is_1 rfl) rfl
theorem d_X_is_40 : decode y_X_is.2.1 40 = .ok (.aload_n 0, 1) := op_aload_n0 (gk (k := 32) (t := 8) ck_X_is_1 rfl)
theorem d_X_is_41 : decode y_X_is.2.1 41 = .ok (.getfield 118, 3) := op_getfield (gk (k := 32) (t := 9) ck_X_is_1 rfl) (gk (k := 32) (t := 10) ck_X_is_1 rfl) (gk (k := 32) (t := 11) ck_X_is_1 rfl) rfl
theorem d_X_is_44 : decode y_X_is.2.1 44 = .ok (.iload_n 3, 1) := op_iload_n3 (gk (k := 32) (t := 12) ck_X_is_1 rfl)
theorem d_X_is_45 : decode y_X_is.2.1 45 = .ok (.iadd, 1) := op_iadd (gk (k := 32) (t := 13) ck_X_is_1 rfl)
theorem d_X_is_46 : decode y_X_is.2.1 46 = .ok (.iaload, 1) := op_iaload (gk (k := 32) (t := 14) ck_X_is_1 rfl)
theorem d_X_is_47 : decode y_X_is.2.1 47 = .ok (.aload_n 1, 1) := op_aload_n1 (gk (k := 32) (t := 15) ck_X_is_1 rfl)
theorem d_X_is_48 : decode y_X_is.2.1 48 = .ok (.iload_n 3, 1) := op_iload_n3 (gk (k := 32) (t := 16) ck_X_is_1 rfl)
theorem lk_X_127 : LkV "SinglesUpModel" 127 y_JS_charAt := ⟨tw_c2 217 (by decide +kernel) rfl, tw_c2 218 (by decide +kernel) rfl, Or.inl (tw_c6 73 (by decide +kernel) rfl)⟩
theorem d_X_is_49 : decode y_X_is.2.1 49 = .ok (.invokevirtual 127, 3) := op_invokevirtual (gk (k := 32) (t := 17) ck_X_is_1 rfl) (gk (k := 32) (t := 18) ck_X_is_1 rfl) (gk (k := 32) (t := 19) ck_X_is_1 rfl) rfl
theorem d_X_is_60 : decode y_X_is.2.1 60 = .ok (.istore_n 2, 1) := op_istore_n2 (gk (k := 32) (t := 28) ck_X_is_1 rfl)
theorem d_X_is_61 : decode y_X_is.2.1 61 = .ok (.iinc 3 1, 3) := op_iinc (gk (k := 32) (t := 29) ck_X_is_1 rfl) (gk (k := 32) (t := 30) ck_X_is_1 rfl) (gk (k := 32) (t := 31) ck_X_is_1 rfl) rfl rfl
theorem d_X_is_64 : decode y_X_is.2.1 64 = .ok (.goto (-40), 3) := op_goto (gk (k := 64) (t := 0) ck_X_is_2 rfl) (gk (k := 64) (t := 1) ck_X_is_2 rfl) (gk (k := 64) (t := 2) ck_X_is_2 rfl) (by decide +kernel)
theorem d_X_is_52 : decode y_X_is.2.1 52 = .ok (.if_icmp .ne 7, 3) := op_icmp_ne (gk (k := 32) (t := 20) ck_X_is_1 rfl) (gk (k := 32) (t := 21) ck_X_is_1 rfl) (gk (k := 32) (t := 22) ck_X_is_1 rfl) (by decide +kernel)
theorem d_X_is_59 : decode y_X_is.2.1 59 = .ok (.iconst 0, 1) := op_iconst0 (gk (k := 32) (t := 27) ck_X_is_1 rfl)
theorem d_X_is_55 : decode y_X_is.2.1 55 = .ok (.iconst 1, 1) := op_iconst1 (gk (k := 32) (t := 23) ck_X_is_1 rfl)
theorem d_X_is_56 : decode y_X_is.2.1 56 = .ok (.goto 4, 3) := op_goto (gk (k := 32) (t := 24) ck_X_is_1 rfl) (gk (k := 32) (t := 25) ck_X_is_1 rfl) (gk (k := 32) (t := 26) ck_X_is_1 rfl) (by decide +kernel)
theorem d_X_is_13 : decode y_X_is.2.1 13 = .ok (.if_icmp .ne 7, 3) := op_icmp_ne (gk (k := 0) (t := 13) ck_X_is_0 rfl) (gk (k := 0) (t := 14) ck_X_is_0 rfl) (gk (k := 0) (t := 15) ck_X_is_0 rfl) (by decide +kernel)
theorem d_X_is_20 : decode y_X_is.2.1 20 = .ok (.iconst 0, 1) := op_iconst0 (gk (k := 0) (t := 20) ck_X_is_0 rfl)
theorem d_X_is_16 : decode y_X_is.2.1 16 = .ok (.iconst 1, 1) := op_iconst1 (gk (k := 0) (t := 16) ck_X_is_0 rfl)
theorem d_X_is_17 : decode y_X_is.2.1 17 = .ok (.goto 4, 3) := op_goto (gk (k := 0) (t := 17) ck_X_is_0 rfl) (gk (k := 0) (t := 18) ck_X_is_0 rfl) (gk (k := 0) (t := 19) ck_X_is_0 rfl) (by decide +kernel)
abbrev y_X_lineWord : MI := (⟨"SinglesUpModel", "lineWord", "()I"⟩, prog_11_method_18_code, 1, some .int)
theorem ck_X_lineWord_0 : (y_X_lineWord.2.1.data.toList.drop 0).take 32 = [42, 18, 141, 182, 0, 133, 153, 0, 8, 16, 7, 167, 0, 32, 42, 18, 151, 182, 0, 133, 153, 0, 8, 16, 50, 167, 0, 18, 42, 18, 153, 182] := by decide +kernel
theorem d_X_lineWord_0 : decode y_X_lineWord.2.1 0 = .ok (.aload_n 0, 1) := op_aload_n0 (gk (k := 0) (t := 0) ck_X_lineWord_0 rfl)
theorem d_X_lineWord_1 : decode y_X_lineWord.2.1 1 = .ok (.ldc 141, 2) := op_ldc (gk (k := 0) (t := 1) ck_X_lineWord_0 rfl) (gk (k := 0) (t := 2) ck_X_lineWord_0 rfl) rfl
theorem lk_X_133 : LkV "SinglesUpModel" 133 y_X_is := ⟨tw_c6 70 (by decide +kernel) rfl, tw_in 43 (by decide +kernel) rfl, Or.inl (tw_c6 68 (by decide +kernel) rfl)⟩
set_option maxRecDepth 100000 in
theorem mo_X_is : MOk y_X_is 1 := ⟨by decide +kernel, tw_c6 71 rfl rfl, tw_c1 12 (by decide +kernel) rfl, by decide +kernel, by decide +kernel, by decide +kernel⟩
theorem d_X_lineWord_3 : decode y_X_lineWord.2.1 3 = .ok (.invokevirtual 133, 3) := op_invokevirtual (gk (k := 0) (t := 3) ck_X_lineWord_0 rfl) (gk (k := 0) (t := 4) ck_X_lineWord_0 rfl) (gk (k := 0) (t := 5) ck_X_lineWord_0 rfl) rfl
theorem d_X_lineWord_6 : decode y_X_lineWord.2.1 6 = .ok (.ifCond .eq 8, 3) := op_if_eq (gk (k := 0) (t := 6) ck_X_lineWord_0 rfl) (gk (k := 0) (t := 7) ck_X_lineWord_0 rfl) (gk (k := 0) (t := 8) ck_X_lineWord_0 rfl) (by decide +kernel)
theorem d_X_lineWord_14 : decode y_X_lineWord.2.1 14 = .ok (.aload_n 0, 1) := op_aload_n0 (gk (k := 0) (t := 14) ck_X_lineWord_0 rfl)
theorem d_X_lineWord_15 : decode y_X_lineWord.2.1 15 = .ok (.ldc 151, 2) := op_ldc (gk (k := 0) (t := 15) ck_X_lineWord_0 rfl) (gk (k := 0) (t := 16) ck_X_lineWord_0 rfl) rfl
theorem d_X_lineWord_17 : decode y_X_lineWord.2.1 17 = .ok (.invokevirtual 133, 3) := op_invokevirtual (gk (k := 0) (t := 17) ck_X_lineWord_0 rfl) (gk (k := 0) (t := 18) ck_X_lineWord_0 rfl) (gk (k := 0) (t := 19) ck_X_lineWord_0 rfl) rfl
theorem d_X_lineWord_20 : decode y_X_lineWord.2.1 20 = .ok (.ifCond .eq 8, 3) := op_if_eq (gk (k := 0) (t := 20) ck_X_lineWord_0 rfl) (gk (k := 0) (t := 21) ck_X_lineWord_0 rfl) (gk (k := 0) (t := 22) ck_X_lineWord_0 rfl) (by decide +kernel)
theorem d_X_lineWord_28 : decode y_X_lineWord.2.1 28 = .ok (.aload_n 0, 1) := op_aload_n0 (gk (k := 0) (t := 28) ck_X_lineWord_0 rfl)
theorem d_X_lineWord_29 : decode y_X_lineWord.2.1 29 = .ok (.ldc 153, 2) := op_ldc (gk (k := 0) (t := 29) ck_X_lineWord_0 rfl) (gk (k := 0) (t := 30) ck_X_lineWord_0 rfl) rfl
theorem ck_X_lineWord_1 : (y_X_lineWord.2.1.data.toList.drop 32).take 32 = [0, 133, 153, 0, 8, 16, 51, 167, 0, 4, 4, 172] := by decide +kernel
theorem d_X_lineWord_31 : decode y_X_lineWord.2.1 31 = .ok (.invokevirtual 133, 3) := op_invokevirtual (gk (k := 0) (t := 31) ck_X_lineWord_0 rfl) (gk (k := 32) (t := 0) ck_X_lineWord_1 rfl) (gk (k := 32) (t := 1) ck_X_lineWord_1 rfl) rfl
theorem d_X_lineWord_34 : decode y_X_lineWord.2.1 34 = .ok (.ifCond .eq 8, 3) := op_if_eq (gk (k := 32) (t := 2) ck_X_lineWord_1 rfl) (gk (k := 32) (t := 3) ck_X_lineWord_1 rfl) (gk (k := 32) (t := 4) ck_X_lineWord_1 rfl) (by decide +kernel)
theorem d_X_lineWord_42 : decode y_X_lineWord.2.1 42 = .ok (.iconst 1, 1) := op_iconst1 (gk (k := 32) (t := 10) ck_X_lineWord_1 rfl)
theorem d_X_lineWord_43 : decode y_X_lineWord.2.1 43 = .ok (.ireturn, 1) := op_ireturn (gk (k := 32) (t := 11) ck_X_lineWord_1 rfl)
theorem cb_51 : (Int8.ofInt 51).toInt32 = iv 51 := by decide +kernel
theorem d_X_lineWord_37 : decode y_X_lineWord.2.1 37 = .ok (.bipush 51, 2) := op_bipush (gk (k := 32) (t := 5) ck_X_lineWord_1 rfl) (gk (k := 32) (t := 6) ck_X_lineWord_1 rfl) rfl
theorem d_X_lineWord_39 : decode y_X_lineWord.2.1 39 = .ok (.goto 4, 3) := op_goto (gk (k := 32) (t := 7) ck_X_lineWord_1 rfl) (gk (k := 32) (t := 8) ck_X_lineWord_1 rfl) (gk (k := 32) (t := 9) ck_X_lineWord_1 rfl) (by decide +kernel)
theorem in_51 : inr (51) := lit_in rfl
theorem cb_50 : (Int8.ofInt 50).toInt32 = iv 50 := by decide +kernel
theorem d_X_lineWord_23 : decode y_X_lineWord.2.1 23 = .ok (.bipush 50, 2) := op_bipush (gk (k := 0) (t := 23) ck_X_lineWord_0 rfl) (gk (k := 0) (t := 24) ck_X_lineWord_0 rfl) rfl
theorem d_X_lineWord_25 : decode y_X_lineWord.2.1 25 = .ok (.goto 18, 3) := op_goto (gk (k := 0) (t := 25) ck_X_lineWord_0 rfl) (gk (k := 0) (t := 26) ck_X_lineWord_0 rfl) (gk (k := 0) (t := 27) ck_X_lineWord_0 rfl) (by decide +kernel)
theorem in_50 : inr (50) := lit_in rfl
theorem d_X_lineWord_9 : decode y_X_lineWord.2.1 9 = .ok (.bipush 7, 2) := op_bipush (gk (k := 0) (t := 9) ck_X_lineWord_0 rfl) (gk (k := 0) (t := 10) ck_X_lineWord_0 rfl) rfl
theorem d_X_lineWord_11 : decode y_X_lineWord.2.1 11 = .ok (.goto 32, 3) := op_goto (gk (k := 0) (t := 11) ck_X_lineWord_0 rfl) (gk (k := 0) (t := 12) ck_X_lineWord_0 rfl) (gk (k := 0) (t := 13) ck_X_lineWord_0 rfl) (by decide +kernel)
abbrev y_X_ruleWord : MI := (⟨"SinglesUpModel", "ruleWord", "()I"⟩, prog_11_method_17_code, 1, some .int)
theorem ck_X_ruleWord_0 : (y_X_ruleWord.2.1.data.toList.drop 0).take 32 = [42, 18, 131, 182, 0, 133, 153, 0, 6, 16, 7, 172, 42, 18, 137, 182, 0, 133, 153, 0, 6, 16, 42, 172, 42, 18, 139, 182, 0, 133, 153, 0] := by decide +kernel
theorem d_X_ruleWord_0 : decode y_X_ruleWord.2.1 0 = .ok (.aload_n 0, 1) := op_aload_n0 (gk (k := 0) (t := 0) ck_X_ruleWord_0 rfl)
theorem d_X_ruleWord_1 : decode y_X_ruleWord.2.1 1 = .ok (.ldc 131, 2) := op_ldc (gk (k := 0) (t := 1) ck_X_ruleWord_0 rfl) (gk (k := 0) (t := 2) ck_X_ruleWord_0 rfl) rfl
theorem d_X_ruleWord_3 : decode y_X_ruleWord.2.1 3 = .ok (.invokevirtual 133, 3) := op_invokevirtual (gk (k := 0) (t := 3) ck_X_ruleWord_0 rfl) (gk (k := 0) (t := 4) ck_X_ruleWord_0 rfl) (gk (k := 0) (t := 5) ck_X_ruleWord_0 rfl) rfl
theorem d_X_ruleWord_6 : decode y_X_ruleWord.2.1 6 = .ok (.ifCond .eq 6, 3) := op_if_eq (gk (k := 0) (t := 6) ck_X_ruleWord_0 rfl) (gk (k := 0) (t := 7) ck_X_ruleWord_0 rfl) (gk (k := 0) (t := 8) ck_X_ruleWord_0 rfl) (by decide +kernel)
theorem d_X_ruleWord_12 : decode y_X_ruleWord.2.1 12 = .ok (.aload_n 0, 1) := op_aload_n0 (gk (k := 0) (t := 12) ck_X_ruleWord_0 rfl)
theorem d_X_ruleWord_13 : decode y_X_ruleWord.2.1 13 = .ok (.ldc 137, 2) := op_ldc (gk (k := 0) (t := 13) ck_X_ruleWord_0 rfl) (gk (k := 0) (t := 14) ck_X_ruleWord_0 rfl) rfl
theorem d_X_ruleWord_15 : decode y_X_ruleWord.2.1 15 = .ok (.invokevirtual 133, 3) := op_invokevirtual (gk (k := 0) (t := 15) ck_X_ruleWord_0 rfl) (gk (k := 0) (t := 16) ck_X_ruleWord_0 rfl) (gk (k := 0) (t := 17) ck_X_ruleWord_0 rfl) rfl
theorem d_X_ruleWord_18 : decode y_X_ruleWord.2.1 18 = .ok (.ifCond .eq 6, 3) := op_if_eq (gk (k := 0) (t := 18) ck_X_ruleWord_0 rfl) (gk (k := 0) (t := 19) ck_X_ruleWord_0 rfl) (gk (k := 0) (t := 20) ck_X_ruleWord_0 rfl) (by decide +kernel)
theorem d_X_ruleWord_24 : decode y_X_ruleWord.2.1 24 = .ok (.aload_n 0, 1) := op_aload_n0 (gk (k := 0) (t := 24) ck_X_ruleWord_0 rfl)
theorem d_X_ruleWord_25 : decode y_X_ruleWord.2.1 25 = .ok (.ldc 139, 2) := op_ldc (gk (k := 0) (t := 25) ck_X_ruleWord_0 rfl) (gk (k := 0) (t := 26) ck_X_ruleWord_0 rfl) rfl
theorem d_X_ruleWord_27 : decode y_X_ruleWord.2.1 27 = .ok (.invokevirtual 133, 3) := op_invokevirtual (gk (k := 0) (t := 27) ck_X_ruleWord_0 rfl) (gk (k := 0) (t := 28) ck_X_ruleWord_0 rfl) (gk (k := 0) (t := 29) ck_X_ruleWord_0 rfl) rfl
theorem ck_X_ruleWord_1 : (y_X_ruleWord.2.1.data.toList.drop 32).take 32 = [6, 16, 43, 172, 42, 18, 141, 182, 0, 133, 153, 0, 6, 16, 44, 172, 42, 18, 143, 182, 0, 133, 153, 0, 6, 16, 45, 172, 42, 18, 145, 182] := by decide +kernel
theorem d_X_ruleWord_30 : decode y_X_ruleWord.2.1 30 = .ok (.ifCond .eq 6, 3) := op_if_eq (gk (k := 0) (t := 30) ck_X_ruleWord_0 rfl) (gk (k := 0) (t := 31) ck_X_ruleWord_0 rfl) (gk (k := 32) (t := 0) ck_X_ruleWord_1 rfl) (by decide +kernel)
theorem d_X_ruleWord_36 : decode y_X_ruleWord.2.1 36 = .ok (.aload_n 0, 1) := op_aload_n0 (gk (k := 32) (t := 4) ck_X_ruleWord_1 rfl)
theorem d_X_ruleWord_37 : decode y_X_ruleWord.2.1 37 = .ok (.ldc 141, 2) := op_ldc (gk (k := 32) (t := 5) ck_X_ruleWord_1 rfl) (gk (k := 32) (t := 6) ck_X_ruleWord_1 rfl) rfl
theorem d_X_ruleWord_39 : decode y_X_ruleWord.2.1 39 = .ok (.invokevirtual 133, 3) := op_invokevirtual (gk (k := 32) (t := 7) ck_X_ruleWord_1 rfl) (gk (k := 32) (t := 8) ck_X_ruleWord_1 rfl) (gk (k := 32) (t := 9) ck_X_ruleWord_1 rfl) rfl
theorem d_X_ruleWord_42 : decode y_X_ruleWord.2.1 42 = .ok (.ifCond .eq 6, 3) := op_if_eq (gk (k := 32) (t := 10) ck_X_ruleWord_1 rfl) (gk (k := 32) (t := 11) ck_X_ruleWord_1 rfl) (gk (k := 32) (t := 12) ck_X_ruleWord_1 rfl) (by decide +kernel)
theorem d_X_ruleWord_48 : decode y_X_ruleWord.2.1 48 = .ok (.aload_n 0, 1) := op_aload_n0 (gk (k := 32) (t := 16) ck_X_ruleWord_1 rfl)
theorem d_X_ruleWord_49 : decode y_X_ruleWord.2.1 49 = .ok (.ldc 143, 2) := op_ldc (gk (k := 32) (t := 17) ck_X_ruleWord_1 rfl) (gk (k := 32) (t := 18) ck_X_ruleWord_1 rfl) rfl
theorem d_X_ruleWord_51 : decode y_X_ruleWord.2.1 51 = .ok (.invokevirtual 133, 3) := op_invokevirtual (gk (k := 32) (t := 19) ck_X_ruleWord_1 rfl) (gk (k := 32) (t := 20) ck_X_ruleWord_1 rfl) (gk (k := 32) (t := 21) ck_X_ruleWord_1 rfl) rfl
theorem d_X_ruleWord_54 : decode y_X_ruleWord.2.1 54 = .ok (.ifCond .eq 6, 3) := op_if_eq (gk (k := 32) (t := 22) ck_X_ruleWord_1 rfl) (gk (k := 32) (t := 23) ck_X_ruleWord_1 rfl) (gk (k := 32) (t := 24) ck_X_ruleWord_1 rfl) (by decide +kernel)
theorem d_X_ruleWord_60 : decode y_X_ruleWord.2.1 60 = .ok (.aload_n 0, 1) := op_aload_n0 (gk (k := 32) (t := 28) ck_X_ruleWord_1 rfl)
theorem d_X_ruleWord_61 : decode y_X_ruleWord.2.1 61 = .ok (.ldc 145, 2) := op_ldc (gk (k := 32) (t := 29) ck_X_ruleWord_1 rfl) (gk (k := 32) (t := 30) ck_X_ruleWord_1 rfl) rfl
theorem ck_X_ruleWord_2 : (y_X_ruleWord.2.1.data.toList.drop 64).take 32 = [0, 133, 153, 0, 6, 16, 46, 172, 42, 18, 147, 182, 0, 133, 153, 0, 6, 16, 48, 172, 42, 18, 149, 182, 0, 133, 153, 0, 8, 16, 49, 167] := by decide +kernel
theorem d_X_ruleWord_63 : decode y_X_ruleWord.2.1 63 = .ok (.invokevirtual 133, 3) := op_invokevirtual (gk (k := 32) (t := 31) ck_X_ruleWord_1 rfl) (gk (k := 64) (t := 0) ck_X_ruleWord_2 rfl) (gk (k := 64) (t := 1) ck_X_ruleWord_2 rfl) rfl
theorem d_X_ruleWord_66 : decode y_X_ruleWord.2.1 66 = .ok (.ifCond .eq 6, 3) := op_if_eq (gk (k := 64) (t := 2) ck_X_ruleWord_2 rfl) (gk (k := 64) (t := 3) ck_X_ruleWord_2 rfl) (gk (k := 64) (t := 4) ck_X_ruleWord_2 rfl) (by decide +kernel)
theorem d_X_ruleWord_72 : decode y_X_ruleWord.2.1 72 = .ok (.aload_n 0, 1) := op_aload_n0 (gk (k := 64) (t := 8) ck_X_ruleWord_2 rfl)
theorem d_X_ruleWord_73 : decode y_X_ruleWord.2.1 73 = .ok (.ldc 147, 2) := op_ldc (gk (k := 64) (t := 9) ck_X_ruleWord_2 rfl) (gk (k := 64) (t := 10) ck_X_ruleWord_2 rfl) rfl
theorem d_X_ruleWord_75 : decode y_X_ruleWord.2.1 75 = .ok (.invokevirtual 133, 3) := op_invokevirtual (gk (k := 64) (t := 11) ck_X_ruleWord_2 rfl) (gk (k := 64) (t := 12) ck_X_ruleWord_2 rfl) (gk (k := 64) (t := 13) ck_X_ruleWord_2 rfl) rfl
theorem d_X_ruleWord_78 : decode y_X_ruleWord.2.1 78 = .ok (.ifCond .eq 6, 3) := op_if_eq (gk (k := 64) (t := 14) ck_X_ruleWord_2 rfl) (gk (k := 64) (t := 15) ck_X_ruleWord_2 rfl) (gk (k := 64) (t := 16) ck_X_ruleWord_2 rfl) (by decide +kernel)
theorem d_X_ruleWord_84 : decode y_X_ruleWord.2.1 84 = .ok (.aload_n 0, 1) := op_aload_n0 (gk (k := 64) (t := 20) ck_X_ruleWord_2 rfl)
theorem d_X_ruleWord_85 : decode y_X_ruleWord.2.1 85 = .ok (.ldc 149, 2) := op_ldc (gk (k := 64) (t := 21) ck_X_ruleWord_2 rfl) (gk (k := 64) (t := 22) ck_X_ruleWord_2 rfl) rfl
theorem d_X_ruleWord_87 : decode y_X_ruleWord.2.1 87 = .ok (.invokevirtual 133, 3) := op_invokevirtual (gk (k := 64) (t := 23) ck_X_ruleWord_2 rfl) (gk (k := 64) (t := 24) ck_X_ruleWord_2 rfl) (gk (k := 64) (t := 25) ck_X_ruleWord_2 rfl) rfl
theorem d_X_ruleWord_90 : decode y_X_ruleWord.2.1 90 = .ok (.ifCond .eq 8, 3) := op_if_eq (gk (k := 64) (t := 26) ck_X_ruleWord_2 rfl) (gk (k := 64) (t := 27) ck_X_ruleWord_2 rfl) (gk (k := 64) (t := 28) ck_X_ruleWord_2 rfl) (by decide +kernel)
theorem ck_X_ruleWord_3 : (y_X_ruleWord.2.1.data.toList.drop 96).take 32 = [0, 4, 4, 172] := by decide +kernel
theorem d_X_ruleWord_98 : decode y_X_ruleWord.2.1 98 = .ok (.iconst 1, 1) := op_iconst1 (gk (k := 96) (t := 2) ck_X_ruleWord_3 rfl)
theorem d_X_ruleWord_99 : decode y_X_ruleWord.2.1 99 = .ok (.ireturn, 1) := op_ireturn (gk (k := 96) (t := 3) ck_X_ruleWord_3 rfl)
theorem cb_49 : (Int8.ofInt 49).toInt32 = iv 49 := by decide +kernel
theorem d_X_ruleWord_93 : decode y_X_ruleWord.2.1 93 = .ok (.bipush 49, 2) := op_bipush (gk (k := 64) (t := 29) ck_X_ruleWord_2 rfl) (gk (k := 64) (t := 30) ck_X_ruleWord_2 rfl) rfl
theorem d_X_ruleWord_95 : decode y_X_ruleWord.2.1 95 = .ok (.goto 4, 3) := op_goto (gk (k := 64) (t := 31) ck_X_ruleWord_2 rfl) (gk (k := 96) (t := 0) ck_X_ruleWord_3 rfl) (gk (k := 96) (t := 1) ck_X_ruleWord_3 rfl) (by decide +kernel)
theorem in_49 : inr (49) := lit_in rfl
theorem d_X_ruleWord_81 : decode y_X_ruleWord.2.1 81 = .ok (.bipush 48, 2) := op_bipush (gk (k := 64) (t := 17) ck_X_ruleWord_2 rfl) (gk (k := 64) (t := 18) ck_X_ruleWord_2 rfl) rfl
theorem d_X_ruleWord_83 : decode y_X_ruleWord.2.1 83 = .ok (.ireturn, 1) := op_ireturn (gk (k := 64) (t := 19) ck_X_ruleWord_2 rfl)
theorem cb_46 : (Int8.ofInt 46).toInt32 = iv 46 := by decide +kernel
theorem d_X_ruleWord_69 : decode y_X_ruleWord.2.1 69 = .ok (.bipush 46, 2) := op_bipush (gk (k := 64) (t := 5) ck_X_ruleWord_2 rfl) (gk (k := 64) (t := 6) ck_X_ruleWord_2 rfl) rfl
theorem d_X_ruleWord_71 : decode y_X_ruleWord.2.1 71 = .ok (.ireturn, 1) := op_ireturn (gk (k := 64) (t := 7) ck_X_ruleWord_2 rfl)
theorem in_46 : inr (46) := lit_in rfl
theorem d_X_ruleWord_57 : decode y_X_ruleWord.2.1 57 = .ok (.bipush 45, 2) := op_bipush (gk (k := 32) (t := 25) ck_X_ruleWord_1 rfl) (gk (k := 32) (t := 26) ck_X_ruleWord_1 rfl) rfl
theorem d_X_ruleWord_59 : decode y_X_ruleWord.2.1 59 = .ok (.ireturn, 1) := op_ireturn (gk (k := 32) (t := 27) ck_X_ruleWord_1 rfl)
theorem cb_44 : (Int8.ofInt 44).toInt32 = iv 44 := by decide +kernel
theorem d_X_ruleWord_45 : decode y_X_ruleWord.2.1 45 = .ok (.bipush 44, 2) := op_bipush (gk (k := 32) (t := 13) ck_X_ruleWord_1 rfl) (gk (k := 32) (t := 14) ck_X_ruleWord_1 rfl) rfl
theorem d_X_ruleWord_47 : decode y_X_ruleWord.2.1 47 = .ok (.ireturn, 1) := op_ireturn (gk (k := 32) (t := 15) ck_X_ruleWord_1 rfl)
theorem in_44 : inr (44) := lit_in rfl
theorem d_X_ruleWord_33 : decode y_X_ruleWord.2.1 33 = .ok (.bipush 43, 2) := op_bipush (gk (k := 32) (t := 1) ck_X_ruleWord_1 rfl) (gk (k := 32) (t := 2) ck_X_ruleWord_1 rfl) rfl
theorem d_X_ruleWord_35 : decode y_X_ruleWord.2.1 35 = .ok (.ireturn, 1) := op_ireturn (gk (k := 32) (t := 3) ck_X_ruleWord_1 rfl)
theorem d_X_ruleWord_21 : decode y_X_ruleWord.2.1 21 = .ok (.bipush 42, 2) := op_bipush (gk (k := 0) (t := 21) ck_X_ruleWord_0 rfl) (gk (k := 0) (t := 22) ck_X_ruleWord_0 rfl) rfl
theorem d_X_ruleWord_23 : decode y_X_ruleWord.2.1 23 = .ok (.ireturn, 1) := op_ireturn (gk (k := 0) (t := 23) ck_X_ruleWord_0 rfl)
theorem d_X_ruleWord_9 : decode y_X_ruleWord.2.1 9 = .ok (.bipush 7, 2) := op_bipush (gk (k := 0) (t := 9) ck_X_ruleWord_0 rfl) (gk (k := 0) (t := 10) ck_X_ruleWord_0 rfl) rfl
theorem d_X_ruleWord_11 : decode y_X_ruleWord.2.1 11 = .ok (.ireturn, 1) := op_ireturn (gk (k := 0) (t := 11) ck_X_ruleWord_0 rfl)
abbrev y_X_word : MI := (⟨"SinglesUpModel", "word", "()I"⟩, prog_11_method_19_code, 1, some .int)
theorem ck_X_word_0 : (y_X_word.2.1.data.toList.drop 0).take 32 = [42, 18, 154, 182, 0, 133, 153, 0, 5, 6, 172, 42, 18, 156, 182, 0, 133, 153, 0, 5, 7, 172, 42, 18, 158, 182, 0, 133, 153, 0, 5, 8] := by decide +kernel
theorem d_X_word_0 : decode y_X_word.2.1 0 = .ok (.aload_n 0, 1) := op_aload_n0 (gk (k := 0) (t := 0) ck_X_word_0 rfl)
theorem d_X_word_1 : decode y_X_word.2.1 1 = .ok (.ldc 154, 2) := op_ldc (gk (k := 0) (t := 1) ck_X_word_0 rfl) (gk (k := 0) (t := 2) ck_X_word_0 rfl) rfl
theorem d_X_word_3 : decode y_X_word.2.1 3 = .ok (.invokevirtual 133, 3) := op_invokevirtual (gk (k := 0) (t := 3) ck_X_word_0 rfl) (gk (k := 0) (t := 4) ck_X_word_0 rfl) (gk (k := 0) (t := 5) ck_X_word_0 rfl) rfl
theorem d_X_word_6 : decode y_X_word.2.1 6 = .ok (.ifCond .eq 5, 3) := op_if_eq (gk (k := 0) (t := 6) ck_X_word_0 rfl) (gk (k := 0) (t := 7) ck_X_word_0 rfl) (gk (k := 0) (t := 8) ck_X_word_0 rfl) (by decide +kernel)
theorem d_X_word_11 : decode y_X_word.2.1 11 = .ok (.aload_n 0, 1) := op_aload_n0 (gk (k := 0) (t := 11) ck_X_word_0 rfl)
theorem d_X_word_12 : decode y_X_word.2.1 12 = .ok (.ldc 156, 2) := op_ldc (gk (k := 0) (t := 12) ck_X_word_0 rfl) (gk (k := 0) (t := 13) ck_X_word_0 rfl) rfl
theorem d_X_word_14 : decode y_X_word.2.1 14 = .ok (.invokevirtual 133, 3) := op_invokevirtual (gk (k := 0) (t := 14) ck_X_word_0 rfl) (gk (k := 0) (t := 15) ck_X_word_0 rfl) (gk (k := 0) (t := 16) ck_X_word_0 rfl) rfl
theorem d_X_word_17 : decode y_X_word.2.1 17 = .ok (.ifCond .eq 5, 3) := op_if_eq (gk (k := 0) (t := 17) ck_X_word_0 rfl) (gk (k := 0) (t := 18) ck_X_word_0 rfl) (gk (k := 0) (t := 19) ck_X_word_0 rfl) (by decide +kernel)
theorem d_X_word_22 : decode y_X_word.2.1 22 = .ok (.aload_n 0, 1) := op_aload_n0 (gk (k := 0) (t := 22) ck_X_word_0 rfl)
theorem d_X_word_23 : decode y_X_word.2.1 23 = .ok (.ldc 158, 2) := op_ldc (gk (k := 0) (t := 23) ck_X_word_0 rfl) (gk (k := 0) (t := 24) ck_X_word_0 rfl) rfl
theorem d_X_word_25 : decode y_X_word.2.1 25 = .ok (.invokevirtual 133, 3) := op_invokevirtual (gk (k := 0) (t := 25) ck_X_word_0 rfl) (gk (k := 0) (t := 26) ck_X_word_0 rfl) (gk (k := 0) (t := 27) ck_X_word_0 rfl) rfl
theorem d_X_word_28 : decode y_X_word.2.1 28 = .ok (.ifCond .eq 5, 3) := op_if_eq (gk (k := 0) (t := 28) ck_X_word_0 rfl) (gk (k := 0) (t := 29) ck_X_word_0 rfl) (gk (k := 0) (t := 30) ck_X_word_0 rfl) (by decide +kernel)
theorem ck_X_word_1 : (y_X_word.2.1.data.toList.drop 32).take 32 = [172, 42, 18, 160, 182, 0, 133, 153, 0, 6, 16, 6, 172, 42, 18, 162, 182, 0, 133, 153, 0, 6, 16, 41, 172, 42, 18, 164, 182, 0, 133, 153] := by decide +kernel
theorem d_X_word_33 : decode y_X_word.2.1 33 = .ok (.aload_n 0, 1) := op_aload_n0 (gk (k := 32) (t := 1) ck_X_word_1 rfl)
theorem d_X_word_34 : decode y_X_word.2.1 34 = .ok (.ldc 160, 2) := op_ldc (gk (k := 32) (t := 2) ck_X_word_1 rfl) (gk (k := 32) (t := 3) ck_X_word_1 rfl) rfl
theorem d_X_word_36 : decode y_X_word.2.1 36 = .ok (.invokevirtual 133, 3) := op_invokevirtual (gk (k := 32) (t := 4) ck_X_word_1 rfl) (gk (k := 32) (t := 5) ck_X_word_1 rfl) (gk (k := 32) (t := 6) ck_X_word_1 rfl) rfl
theorem d_X_word_39 : decode y_X_word.2.1 39 = .ok (.ifCond .eq 6, 3) := op_if_eq (gk (k := 32) (t := 7) ck_X_word_1 rfl) (gk (k := 32) (t := 8) ck_X_word_1 rfl) (gk (k := 32) (t := 9) ck_X_word_1 rfl) (by decide +kernel)
theorem d_X_word_45 : decode y_X_word.2.1 45 = .ok (.aload_n 0, 1) := op_aload_n0 (gk (k := 32) (t := 13) ck_X_word_1 rfl)
theorem d_X_word_46 : decode y_X_word.2.1 46 = .ok (.ldc 162, 2) := op_ldc (gk (k := 32) (t := 14) ck_X_word_1 rfl) (gk (k := 32) (t := 15) ck_X_word_1 rfl) rfl
theorem d_X_word_48 : decode y_X_word.2.1 48 = .ok (.invokevirtual 133, 3) := op_invokevirtual (gk (k := 32) (t := 16) ck_X_word_1 rfl) (gk (k := 32) (t := 17) ck_X_word_1 rfl) (gk (k := 32) (t := 18) ck_X_word_1 rfl) rfl
theorem d_X_word_51 : decode y_X_word.2.1 51 = .ok (.ifCond .eq 6, 3) := op_if_eq (gk (k := 32) (t := 19) ck_X_word_1 rfl) (gk (k := 32) (t := 20) ck_X_word_1 rfl) (gk (k := 32) (t := 21) ck_X_word_1 rfl) (by decide +kernel)
theorem d_X_word_57 : decode y_X_word.2.1 57 = .ok (.aload_n 0, 1) := op_aload_n0 (gk (k := 32) (t := 25) ck_X_word_1 rfl)
theorem d_X_word_58 : decode y_X_word.2.1 58 = .ok (.ldc 164, 2) := op_ldc (gk (k := 32) (t := 26) ck_X_word_1 rfl) (gk (k := 32) (t := 27) ck_X_word_1 rfl) rfl
theorem d_X_word_60 : decode y_X_word.2.1 60 = .ok (.invokevirtual 133, 3) := op_invokevirtual (gk (k := 32) (t := 28) ck_X_word_1 rfl) (gk (k := 32) (t := 29) ck_X_word_1 rfl) (gk (k := 32) (t := 30) ck_X_word_1 rfl) rfl
theorem ck_X_word_2 : (y_X_word.2.1.data.toList.drop 64).take 32 = [0, 6, 16, 47, 172, 42, 180, 0, 166, 7, 160, 0, 10, 42, 182, 0, 168, 167, 0, 7, 42, 182, 0, 171, 172] := by decide +kernel
theorem d_X_word_63 : decode y_X_word.2.1 63 = .ok (.ifCond .eq 6, 3) := op_if_eq (gk (k := 32) (t := 31) ck_X_word_1 rfl) (gk (k := 64) (t := 0) ck_X_word_2 rfl) (gk (k := 64) (t := 1) ck_X_word_2 rfl) (by decide +kernel)
theorem d_X_word_69 : decode y_X_word.2.1 69 = .ok (.aload_n 0, 1) := op_aload_n0 (gk (k := 64) (t := 5) ck_X_word_2 rfl)
theorem fl_X_166 : FL "SinglesUpModel" 166 9 9 := ⟨"SinglesUpModel", zT9, 51, rfl, by decide, rfl, Or.inl (tw_c5 102 (by decide +kernel) rfl)⟩
theorem d_X_word_70 : decode y_X_word.2.1 70 = .ok (.getfield 166, 3) := op_getfield (gk (k := 64) (t := 6) ck_X_word_2 rfl) (gk (k := 64) (t := 7) ck_X_word_2 rfl) (gk (k := 64) (t := 8) ck_X_word_2 rfl) rfl
theorem d_X_word_73 : decode y_X_word.2.1 73 = .ok (.iconst 4, 1) := op_iconst4 (gk (k := 64) (t := 9) ck_X_word_2 rfl)
theorem d_X_word_74 : decode y_X_word.2.1 74 = .ok (.if_icmp .ne 10, 3) := op_icmp_ne (gk (k := 64) (t := 10) ck_X_word_2 rfl) (gk (k := 64) (t := 11) ck_X_word_2 rfl) (gk (k := 64) (t := 12) ck_X_word_2 rfl) (by decide +kernel)
theorem d_X_word_84 : decode y_X_word.2.1 84 = .ok (.aload_n 0, 1) := op_aload_n0 (gk (k := 64) (t := 20) ck_X_word_2 rfl)
theorem lk_X_171 : LkV "SinglesUpModel" 171 y_X_ruleWord := ⟨tw_c6 88 (by decide +kernel) rfl, tw_in 45 (by decide +kernel) rfl, Or.inl (tw_c6 86 (by decide +kernel) rfl)⟩
set_option maxRecDepth 100000 in
theorem mo_X_ruleWord : MOk y_X_ruleWord 0 := ⟨by decide +kernel, tw_c6 89 rfl rfl, tw_c1 12 (by decide +kernel) rfl, by decide +kernel, by decide +kernel, by decide +kernel⟩
theorem d_X_word_85 : decode y_X_word.2.1 85 = .ok (.invokevirtual 171, 3) := op_invokevirtual (gk (k := 64) (t := 21) ck_X_word_2 rfl) (gk (k := 64) (t := 22) ck_X_word_2 rfl) (gk (k := 64) (t := 23) ck_X_word_2 rfl) rfl
theorem d_X_word_88 : decode y_X_word.2.1 88 = .ok (.ireturn, 1) := op_ireturn (gk (k := 64) (t := 24) ck_X_word_2 rfl)
theorem d_X_word_77 : decode y_X_word.2.1 77 = .ok (.aload_n 0, 1) := op_aload_n0 (gk (k := 64) (t := 13) ck_X_word_2 rfl)
theorem lk_X_168 : LkV "SinglesUpModel" 168 y_X_lineWord := ⟨tw_c6 81 (by decide +kernel) rfl, tw_in 44 (by decide +kernel) rfl, Or.inl (tw_c6 79 (by decide +kernel) rfl)⟩
set_option maxRecDepth 100000 in
theorem mo_X_lineWord : MOk y_X_lineWord 0 := ⟨by decide +kernel, tw_c6 82 rfl rfl, tw_c1 12 (by decide +kernel) rfl, by decide +kernel, by decide +kernel, by decide +kernel⟩
theorem d_X_word_78 : decode y_X_word.2.1 78 = .ok (.invokevirtual 168, 3) := op_invokevirtual (gk (k := 64) (t := 14) ck_X_word_2 rfl) (gk (k := 64) (t := 15) ck_X_word_2 rfl) (gk (k := 64) (t := 16) ck_X_word_2 rfl) rfl
theorem d_X_word_81 : decode y_X_word.2.1 81 = .ok (.goto 7, 3) := op_goto (gk (k := 64) (t := 17) ck_X_word_2 rfl) (gk (k := 64) (t := 18) ck_X_word_2 rfl) (gk (k := 64) (t := 19) ck_X_word_2 rfl) (by decide +kernel)
theorem d_X_word_66 : decode y_X_word.2.1 66 = .ok (.bipush 47, 2) := op_bipush (gk (k := 64) (t := 2) ck_X_word_2 rfl) (gk (k := 64) (t := 3) ck_X_word_2 rfl) rfl
theorem d_X_word_68 : decode y_X_word.2.1 68 = .ok (.ireturn, 1) := op_ireturn (gk (k := 64) (t := 4) ck_X_word_2 rfl)
theorem d_X_word_54 : decode y_X_word.2.1 54 = .ok (.bipush 41, 2) := op_bipush (gk (k := 32) (t := 22) ck_X_word_1 rfl) (gk (k := 32) (t := 23) ck_X_word_1 rfl) rfl
theorem d_X_word_56 : decode y_X_word.2.1 56 = .ok (.ireturn, 1) := op_ireturn (gk (k := 32) (t := 24) ck_X_word_1 rfl)
theorem d_X_word_42 : decode y_X_word.2.1 42 = .ok (.bipush 6, 2) := op_bipush (gk (k := 32) (t := 10) ck_X_word_1 rfl) (gk (k := 32) (t := 11) ck_X_word_1 rfl) rfl
theorem d_X_word_44 : decode y_X_word.2.1 44 = .ok (.ireturn, 1) := op_ireturn (gk (k := 32) (t := 12) ck_X_word_1 rfl)
theorem d_X_word_31 : decode y_X_word.2.1 31 = .ok (.iconst 5, 1) := op_iconst5 (gk (k := 0) (t := 31) ck_X_word_0 rfl)
theorem d_X_word_32 : decode y_X_word.2.1 32 = .ok (.ireturn, 1) := op_ireturn (gk (k := 32) (t := 0) ck_X_word_1 rfl)
theorem d_X_word_20 : decode y_X_word.2.1 20 = .ok (.iconst 4, 1) := op_iconst4 (gk (k := 0) (t := 20) ck_X_word_0 rfl)
theorem d_X_word_21 : decode y_X_word.2.1 21 = .ok (.ireturn, 1) := op_ireturn (gk (k := 0) (t := 21) ck_X_word_0 rfl)
theorem d_X_word_9 : decode y_X_word.2.1 9 = .ok (.iconst 3, 1) := op_iconst3 (gk (k := 0) (t := 9) ck_X_word_0 rfl)
theorem d_X_word_10 : decode y_X_word.2.1 10 = .ok (.ireturn, 1) := op_ireturn (gk (k := 0) (t := 10) ck_X_word_0 rfl)
abbrev y_X_next0 : MI := (⟨"SinglesUpModel", "next0", "()V"⟩, prog_11_method_20_code, 3, none)
theorem ck_X_next0_0 : (y_X_next0.2.1.data.toList.drop 0).take 32 = [42, 42, 180, 0, 115, 182, 0, 174, 16, 32, 159, 0, 16, 42, 42, 180, 0, 115, 182, 0, 174, 16, 10, 160, 0, 16, 42, 89, 180, 0, 115, 4] := by decide +kernel
theorem d_X_next0_0 : decode y_X_next0.2.1 0 = .ok (.aload_n 0, 1) := op_aload_n0 (gk (k := 0) (t := 0) ck_X_next0_0 rfl)
theorem d_X_next0_1 : decode y_X_next0.2.1 1 = .ok (.aload_n 0, 1) := op_aload_n0 (gk (k := 0) (t := 1) ck_X_next0_0 rfl)
theorem d_X_next0_2 : decode y_X_next0.2.1 2 = .ok (.getfield 115, 3) := op_getfield (gk (k := 0) (t := 2) ck_X_next0_0 rfl) (gk (k := 0) (t := 3) ck_X_next0_0 rfl) (gk (k := 0) (t := 4) ck_X_next0_0 rfl) rfl
theorem lk_X_174 : LkV "SinglesUpModel" 174 y_X_see := ⟨tw_c6 58 (by decide +kernel) rfl, tw_in 41 (by decide +kernel) rfl, Or.inl (tw_c6 56 (by decide +kernel) rfl)⟩
set_option maxRecDepth 100000 in
theorem mo_X_see : MOk y_X_see 1 := ⟨by decide +kernel, tw_c6 59 rfl rfl, tw_c1 12 (by decide +kernel) rfl, by decide +kernel, by decide +kernel, by decide +kernel⟩
theorem d_X_next0_5 : decode y_X_next0.2.1 5 = .ok (.invokevirtual 174, 3) := op_invokevirtual (gk (k := 0) (t := 5) ck_X_next0_0 rfl) (gk (k := 0) (t := 6) ck_X_next0_0 rfl) (gk (k := 0) (t := 7) ck_X_next0_0 rfl) rfl
theorem d_X_next0_8 : decode y_X_next0.2.1 8 = .ok (.bipush 32, 2) := op_bipush (gk (k := 0) (t := 8) ck_X_next0_0 rfl) (gk (k := 0) (t := 9) ck_X_next0_0 rfl) rfl
theorem d_X_next0_26 : decode y_X_next0.2.1 26 = .ok (.aload_n 0, 1) := op_aload_n0 (gk (k := 0) (t := 26) ck_X_next0_0 rfl)
theorem d_X_next0_27 : decode y_X_next0.2.1 27 = .ok (.dup, 1) := op_dup (gk (k := 0) (t := 27) ck_X_next0_0 rfl)
theorem d_X_next0_28 : decode y_X_next0.2.1 28 = .ok (.getfield 115, 3) := op_getfield (gk (k := 0) (t := 28) ck_X_next0_0 rfl) (gk (k := 0) (t := 29) ck_X_next0_0 rfl) (gk (k := 0) (t := 30) ck_X_next0_0 rfl) rfl
theorem d_X_next0_31 : decode y_X_next0.2.1 31 = .ok (.iconst 1, 1) := op_iconst1 (gk (k := 0) (t := 31) ck_X_next0_0 rfl)
theorem ck_X_next0_1 : (y_X_next0.2.1.data.toList.drop 32).take 32 = [96, 181, 0, 115, 167, 255, 220, 42, 42, 180, 0, 115, 181, 0, 118, 42, 42, 180, 0, 115, 182, 0, 174, 60, 27, 2, 160, 0, 11, 42, 3, 181] := by decide +kernel
theorem d_X_next0_32 : decode y_X_next0.2.1 32 = .ok (.iadd, 1) := op_iadd (gk (k := 32) (t := 0) ck_X_next0_1 rfl)
theorem d_X_next0_33 : decode y_X_next0.2.1 33 = .ok (.putfield 115, 3) := op_putfield (gk (k := 32) (t := 1) ck_X_next0_1 rfl) (gk (k := 32) (t := 2) ck_X_next0_1 rfl) (gk (k := 32) (t := 3) ck_X_next0_1 rfl) rfl
theorem d_X_next0_36 : decode y_X_next0.2.1 36 = .ok (.goto (-36), 3) := op_goto (gk (k := 32) (t := 4) ck_X_next0_1 rfl) (gk (k := 32) (t := 5) ck_X_next0_1 rfl) (gk (k := 32) (t := 6) ck_X_next0_1 rfl) (by decide +kernel)
theorem d_X_next0_10 : decode y_X_next0.2.1 10 = .ok (.if_icmp .eq 16, 3) := op_icmp_eq (gk (k := 0) (t := 10) ck_X_next0_0 rfl) (gk (k := 0) (t := 11) ck_X_next0_0 rfl) (gk (k := 0) (t := 12) ck_X_next0_0 rfl) (by decide +kernel)
theorem d_X_next0_13 : decode y_X_next0.2.1 13 = .ok (.aload_n 0, 1) := op_aload_n0 (gk (k := 0) (t := 13) ck_X_next0_0 rfl)
theorem d_X_next0_14 : decode y_X_next0.2.1 14 = .ok (.aload_n 0, 1) := op_aload_n0 (gk (k := 0) (t := 14) ck_X_next0_0 rfl)
theorem d_X_next0_15 : decode y_X_next0.2.1 15 = .ok (.getfield 115, 3) := op_getfield (gk (k := 0) (t := 15) ck_X_next0_0 rfl) (gk (k := 0) (t := 16) ck_X_next0_0 rfl) (gk (k := 0) (t := 17) ck_X_next0_0 rfl) rfl
theorem d_X_next0_18 : decode y_X_next0.2.1 18 = .ok (.invokevirtual 174, 3) := op_invokevirtual (gk (k := 0) (t := 18) ck_X_next0_0 rfl) (gk (k := 0) (t := 19) ck_X_next0_0 rfl) (gk (k := 0) (t := 20) ck_X_next0_0 rfl) rfl
theorem d_X_next0_21 : decode y_X_next0.2.1 21 = .ok (.bipush 10, 2) := op_bipush (gk (k := 0) (t := 21) ck_X_next0_0 rfl) (gk (k := 0) (t := 22) ck_X_next0_0 rfl) rfl
theorem d_X_next0_23 : decode y_X_next0.2.1 23 = .ok (.if_icmp .ne 16, 3) := op_icmp_ne (gk (k := 0) (t := 23) ck_X_next0_0 rfl) (gk (k := 0) (t := 24) ck_X_next0_0 rfl) (gk (k := 0) (t := 25) ck_X_next0_0 rfl) (by decide +kernel)
theorem d_X_next0_39 : decode y_X_next0.2.1 39 = .ok (.aload_n 0, 1) := op_aload_n0 (gk (k := 32) (t := 7) ck_X_next0_1 rfl)
theorem d_X_next0_40 : decode y_X_next0.2.1 40 = .ok (.aload_n 0, 1) := op_aload_n0 (gk (k := 32) (t := 8) ck_X_next0_1 rfl)
theorem d_X_next0_41 : decode y_X_next0.2.1 41 = .ok (.getfield 115, 3) := op_getfield (gk (k := 32) (t := 9) ck_X_next0_1 rfl) (gk (k := 32) (t := 10) ck_X_next0_1 rfl) (gk (k := 32) (t := 11) ck_X_next0_1 rfl) rfl
theorem d_X_next0_44 : decode y_X_next0.2.1 44 = .ok (.putfield 118, 3) := op_putfield (gk (k := 32) (t := 12) ck_X_next0_1 rfl) (gk (k := 32) (t := 13) ck_X_next0_1 rfl) (gk (k := 32) (t := 14) ck_X_next0_1 rfl) rfl
theorem d_X_next0_47 : decode y_X_next0.2.1 47 = .ok (.aload_n 0, 1) := op_aload_n0 (gk (k := 32) (t := 15) ck_X_next0_1 rfl)
theorem d_X_next0_48 : decode y_X_next0.2.1 48 = .ok (.aload_n 0, 1) := op_aload_n0 (gk (k := 32) (t := 16) ck_X_next0_1 rfl)
theorem d_X_next0_49 : decode y_X_next0.2.1 49 = .ok (.getfield 115, 3) := op_getfield (gk (k := 32) (t := 17) ck_X_next0_1 rfl) (gk (k := 32) (t := 18) ck_X_next0_1 rfl) (gk (k := 32) (t := 19) ck_X_next0_1 rfl) rfl
theorem d_X_next0_52 : decode y_X_next0.2.1 52 = .ok (.invokevirtual 174, 3) := op_invokevirtual (gk (k := 32) (t := 20) ck_X_next0_1 rfl) (gk (k := 32) (t := 21) ck_X_next0_1 rfl) (gk (k := 32) (t := 22) ck_X_next0_1 rfl) rfl
theorem d_X_next0_55 : decode y_X_next0.2.1 55 = .ok (.istore_n 1, 1) := op_istore_n1 (gk (k := 32) (t := 23) ck_X_next0_1 rfl)
theorem d_X_next0_56 : decode y_X_next0.2.1 56 = .ok (.iload_n 1, 1) := op_iload_n1 (gk (k := 32) (t := 24) ck_X_next0_1 rfl)
theorem d_X_next0_57 : decode y_X_next0.2.1 57 = .ok (.iconst (-1), 1) := op_iconstm1 (gk (k := 32) (t := 25) ck_X_next0_1 rfl)
theorem d_X_next0_58 : decode y_X_next0.2.1 58 = .ok (.if_icmp .ne 11, 3) := op_icmp_ne (gk (k := 32) (t := 26) ck_X_next0_1 rfl) (gk (k := 32) (t := 27) ck_X_next0_1 rfl) (gk (k := 32) (t := 28) ck_X_next0_1 rfl) (by decide +kernel)
theorem ck_X_next0_2 : (y_X_next0.2.1.data.toList.drop 64).take 32 = [0, 178, 167, 0, 240, 27, 184, 0, 181, 153, 0, 41, 42, 42, 180, 0, 115, 182, 0, 174, 184, 0, 181, 153, 0, 16, 42, 89, 180, 0, 115, 4] := by decide +kernel
theorem d_X_next0_69 : decode y_X_next0.2.1 69 = .ok (.iload_n 1, 1) := op_iload_n1 (gk (k := 64) (t := 5) ck_X_next0_2 rfl)
theorem lk_X_181 : LkS "SinglesUpModel" 181 y_X_isLetter := ⟨tw_c6 61 (by decide +kernel) rfl, Or.inl (tw_c6 60 (by decide +kernel) rfl)⟩
set_option maxRecDepth 100000 in
theorem mo_X_isLetter : MOk y_X_isLetter 1 := ⟨by decide +kernel, tw_c6 62 rfl rfl, tw_c1 12 (by decide +kernel) rfl, by decide +kernel, by decide +kernel, by decide +kernel⟩
theorem d_X_next0_70 : decode y_X_next0.2.1 70 = .ok (.invokestatic 181, 3) := op_invokestatic (gk (k := 64) (t := 6) ck_X_next0_2 rfl) (gk (k := 64) (t := 7) ck_X_next0_2 rfl) (gk (k := 64) (t := 8) ck_X_next0_2 rfl) rfl
theorem d_X_next0_73 : decode y_X_next0.2.1 73 = .ok (.ifCond .eq 41, 3) := op_if_eq (gk (k := 64) (t := 9) ck_X_next0_2 rfl) (gk (k := 64) (t := 10) ck_X_next0_2 rfl) (gk (k := 64) (t := 11) ck_X_next0_2 rfl) (by decide +kernel)
theorem ck_X_next0_3 : (y_X_next0.2.1.data.toList.drop 96).take 32 = [96, 181, 0, 115, 167, 255, 232, 42, 42, 182, 0, 184, 181, 0, 178, 167, 0, 195, 27, 184, 0, 187, 153, 0, 96, 42, 3, 181, 0, 190, 42, 42] := by decide +kernel
theorem d_X_next0_114 : decode y_X_next0.2.1 114 = .ok (.iload_n 1, 1) := op_iload_n1 (gk (k := 96) (t := 18) ck_X_next0_3 rfl)
theorem lk_X_187 : LkS "SinglesUpModel" 187 y_X_isDigit := ⟨tw_c6 98 (by decide +kernel) rfl, Or.inl (tw_c6 97 (by decide +kernel) rfl)⟩
set_option maxRecDepth 100000 in
theorem mo_X_isDigit : MOk y_X_isDigit 1 := ⟨by decide +kernel, tw_c6 99 rfl rfl, tw_c1 12 (by decide +kernel) rfl, by decide +kernel, by decide +kernel, by decide +kernel⟩
theorem d_X_next0_115 : decode y_X_next0.2.1 115 = .ok (.invokestatic 187, 3) := op_invokestatic (gk (k := 96) (t := 19) ck_X_next0_3 rfl) (gk (k := 96) (t := 20) ck_X_next0_3 rfl) (gk (k := 96) (t := 21) ck_X_next0_3 rfl) rfl
theorem d_X_next0_118 : decode y_X_next0.2.1 118 = .ok (.ifCond .eq 96, 3) := op_if_eq (gk (k := 96) (t := 22) ck_X_next0_3 rfl) (gk (k := 96) (t := 23) ck_X_next0_3 rfl) (gk (k := 96) (t := 24) ck_X_next0_3 rfl) (by decide +kernel)
theorem ck_X_next0_6 : (y_X_next0.2.1.data.toList.drop 192).take 32 = [0, 115, 42, 180, 0, 118, 100, 8, 162, 0, 7, 5, 167, 0, 4, 4, 181, 0, 178, 167, 0, 95, 42, 89, 180, 0, 115, 4, 96, 181, 0, 115] := by decide +kernel
theorem d_X_next0_214 : decode y_X_next0.2.1 214 = .ok (.aload_n 0, 1) := op_aload_n0 (gk (k := 192) (t := 22) ck_X_next0_6 rfl)
theorem d_X_next0_215 : decode y_X_next0.2.1 215 = .ok (.dup, 1) := op_dup (gk (k := 192) (t := 23) ck_X_next0_6 rfl)
theorem d_X_next0_216 : decode y_X_next0.2.1 216 = .ok (.getfield 115, 3) := op_getfield (gk (k := 192) (t := 24) ck_X_next0_6 rfl) (gk (k := 192) (t := 25) ck_X_next0_6 rfl) (gk (k := 192) (t := 26) ck_X_next0_6 rfl) rfl
theorem d_X_next0_219 : decode y_X_next0.2.1 219 = .ok (.iconst 1, 1) := op_iconst1 (gk (k := 192) (t := 27) ck_X_next0_6 rfl)
theorem d_X_next0_220 : decode y_X_next0.2.1 220 = .ok (.iadd, 1) := op_iadd (gk (k := 192) (t := 28) ck_X_next0_6 rfl)
theorem d_X_next0_221 : decode y_X_next0.2.1 221 = .ok (.putfield 115, 3) := op_putfield (gk (k := 192) (t := 29) ck_X_next0_6 rfl) (gk (k := 192) (t := 30) ck_X_next0_6 rfl) (gk (k := 192) (t := 31) ck_X_next0_6 rfl) rfl
theorem ck_X_next0_7 : (y_X_next0.2.1.data.toList.drop 224).take 32 = [27, 16, 59, 159, 0, 57, 27, 16, 43, 159, 0, 51, 27, 16, 45, 159, 0, 45, 27, 16, 42, 159, 0, 39, 27, 16, 47, 159, 0, 33, 27, 16] := by decide +kernel
theorem d_X_next0_224 : decode y_X_next0.2.1 224 = .ok (.iload_n 1, 1) := op_iload_n1 (gk (k := 224) (t := 0) ck_X_next0_7 rfl)
theorem d_X_next0_225 : decode y_X_next0.2.1 225 = .ok (.bipush 59, 2) := op_bipush (gk (k := 224) (t := 1) ck_X_next0_7 rfl) (gk (k := 224) (t := 2) ck_X_next0_7 rfl) rfl
theorem ck_X_next0_9 : (y_X_next0.2.1.data.toList.drop 288).take 32 = [3, 61, 42, 28, 153, 0, 10, 16, 100, 27, 96, 167, 0, 4, 4, 181, 0, 178, 177] := by decide +kernel
theorem d_X_next0_289 : decode y_X_next0.2.1 289 = .ok (.istore_n 2, 1) := op_istore_n2 (gk (k := 288) (t := 1) ck_X_next0_9 rfl)
theorem d_X_next0_290 : decode y_X_next0.2.1 290 = .ok (.aload_n 0, 1) := op_aload_n0 (gk (k := 288) (t := 2) ck_X_next0_9 rfl)
theorem d_X_next0_291 : decode y_X_next0.2.1 291 = .ok (.iload_n 2, 1) := op_iload_n2 (gk (k := 288) (t := 3) ck_X_next0_9 rfl)
theorem fl_X_178 : FL "SinglesUpModel" 178 9 14 := ⟨"SinglesUpModel", zT9, 51, rfl, by decide, rfl, Or.inl (tw_c5 107 (by decide +kernel) rfl)⟩
theorem d_X_next0_303 : decode y_X_next0.2.1 303 = .ok (.putfield 178, 3) := op_putfield (gk (k := 288) (t := 15) ck_X_next0_9 rfl) (gk (k := 288) (t := 16) ck_X_next0_9 rfl) (gk (k := 288) (t := 17) ck_X_next0_9 rfl) rfl
theorem d_X_next0_306 : decode y_X_next0.2.1 306 = .ok (.return_, 1) := op_return_ (gk (k := 288) (t := 18) ck_X_next0_9 rfl)
theorem d_X_next0_292 : decode y_X_next0.2.1 292 = .ok (.ifCond .eq 10, 3) := op_if_eq (gk (k := 288) (t := 4) ck_X_next0_9 rfl) (gk (k := 288) (t := 5) ck_X_next0_9 rfl) (gk (k := 288) (t := 6) ck_X_next0_9 rfl) (by decide +kernel)
theorem d_X_next0_302 : decode y_X_next0.2.1 302 = .ok (.iconst 1, 1) := op_iconst1 (gk (k := 288) (t := 14) ck_X_next0_9 rfl)
theorem d_X_next0_295 : decode y_X_next0.2.1 295 = .ok (.bipush 100, 2) := op_bipush (gk (k := 288) (t := 7) ck_X_next0_9 rfl) (gk (k := 288) (t := 8) ck_X_next0_9 rfl) rfl
theorem d_X_next0_297 : decode y_X_next0.2.1 297 = .ok (.iload_n 1, 1) := op_iload_n1 (gk (k := 288) (t := 9) ck_X_next0_9 rfl)
theorem d_X_next0_298 : decode y_X_next0.2.1 298 = .ok (.iadd, 1) := op_iadd (gk (k := 288) (t := 10) ck_X_next0_9 rfl)
theorem d_X_next0_299 : decode y_X_next0.2.1 299 = .ok (.goto 4, 3) := op_goto (gk (k := 288) (t := 11) ck_X_next0_9 rfl) (gk (k := 288) (t := 12) ck_X_next0_9 rfl) (gk (k := 288) (t := 13) ck_X_next0_9 rfl) (by decide +kernel)
theorem d_X_next0_227 : decode y_X_next0.2.1 227 = .ok (.if_icmp .eq 57, 3) := op_icmp_eq (gk (k := 224) (t := 3) ck_X_next0_7 rfl) (gk (k := 224) (t := 4) ck_X_next0_7 rfl) (gk (k := 224) (t := 5) ck_X_next0_7 rfl) (by decide +kernel)
theorem ck_X_next0_8 : (y_X_next0.2.1.data.toList.drop 256).take 32 = [40, 159, 0, 27, 27, 16, 41, 159, 0, 21, 27, 16, 60, 159, 0, 15, 27, 16, 61, 159, 0, 9, 27, 16, 62, 160, 0, 7, 4, 167, 0, 4] := by decide +kernel
theorem d_X_next0_284 : decode y_X_next0.2.1 284 = .ok (.iconst 1, 1) := op_iconst1 (gk (k := 256) (t := 28) ck_X_next0_8 rfl)
theorem d_X_next0_285 : decode y_X_next0.2.1 285 = .ok (.goto 4, 3) := op_goto (gk (k := 256) (t := 29) ck_X_next0_8 rfl) (gk (k := 256) (t := 30) ck_X_next0_8 rfl) (gk (k := 256) (t := 31) ck_X_next0_8 rfl) (by decide +kernel)
theorem d_X_next0_230 : decode y_X_next0.2.1 230 = .ok (.iload_n 1, 1) := op_iload_n1 (gk (k := 224) (t := 6) ck_X_next0_7 rfl)
theorem d_X_next0_231 : decode y_X_next0.2.1 231 = .ok (.bipush 43, 2) := op_bipush (gk (k := 224) (t := 7) ck_X_next0_7 rfl) (gk (k := 224) (t := 8) ck_X_next0_7 rfl) rfl
theorem d_X_next0_233 : decode y_X_next0.2.1 233 = .ok (.if_icmp .eq 51, 3) := op_icmp_eq (gk (k := 224) (t := 9) ck_X_next0_7 rfl) (gk (k := 224) (t := 10) ck_X_next0_7 rfl) (gk (k := 224) (t := 11) ck_X_next0_7 rfl) (by decide +kernel)
theorem d_X_next0_236 : decode y_X_next0.2.1 236 = .ok (.iload_n 1, 1) := op_iload_n1 (gk (k := 224) (t := 12) ck_X_next0_7 rfl)
theorem d_X_next0_237 : decode y_X_next0.2.1 237 = .ok (.bipush 45, 2) := op_bipush (gk (k := 224) (t := 13) ck_X_next0_7 rfl) (gk (k := 224) (t := 14) ck_X_next0_7 rfl) rfl
theorem d_X_next0_239 : decode y_X_next0.2.1 239 = .ok (.if_icmp .eq 45, 3) := op_icmp_eq (gk (k := 224) (t := 15) ck_X_next0_7 rfl) (gk (k := 224) (t := 16) ck_X_next0_7 rfl) (gk (k := 224) (t := 17) ck_X_next0_7 rfl) (by decide +kernel)
theorem d_X_next0_242 : decode y_X_next0.2.1 242 = .ok (.iload_n 1, 1) := op_iload_n1 (gk (k := 224) (t := 18) ck_X_next0_7 rfl)
theorem d_X_next0_243 : decode y_X_next0.2.1 243 = .ok (.bipush 42, 2) := op_bipush (gk (k := 224) (t := 19) ck_X_next0_7 rfl) (gk (k := 224) (t := 20) ck_X_next0_7 rfl) rfl
theorem d_X_next0_245 : decode y_X_next0.2.1 245 = .ok (.if_icmp .eq 39, 3) := op_icmp_eq (gk (k := 224) (t := 21) ck_X_next0_7 rfl) (gk (k := 224) (t := 22) ck_X_next0_7 rfl) (gk (k := 224) (t := 23) ck_X_next0_7 rfl) (by decide +kernel)
theorem d_X_next0_248 : decode y_X_next0.2.1 248 = .ok (.iload_n 1, 1) := op_iload_n1 (gk (k := 224) (t := 24) ck_X_next0_7 rfl)
theorem d_X_next0_249 : decode y_X_next0.2.1 249 = .ok (.bipush 47, 2) := op_bipush (gk (k := 224) (t := 25) ck_X_next0_7 rfl) (gk (k := 224) (t := 26) ck_X_next0_7 rfl) rfl
theorem d_X_next0_251 : decode y_X_next0.2.1 251 = .ok (.if_icmp .eq 33, 3) := op_icmp_eq (gk (k := 224) (t := 27) ck_X_next0_7 rfl) (gk (k := 224) (t := 28) ck_X_next0_7 rfl) (gk (k := 224) (t := 29) ck_X_next0_7 rfl) (by decide +kernel)
theorem d_X_next0_254 : decode y_X_next0.2.1 254 = .ok (.iload_n 1, 1) := op_iload_n1 (gk (k := 224) (t := 30) ck_X_next0_7 rfl)
theorem d_X_next0_255 : decode y_X_next0.2.1 255 = .ok (.bipush 40, 2) := op_bipush (gk (k := 224) (t := 31) ck_X_next0_7 rfl) (gk (k := 256) (t := 0) ck_X_next0_8 rfl) rfl
theorem d_X_next0_257 : decode y_X_next0.2.1 257 = .ok (.if_icmp .eq 27, 3) := op_icmp_eq (gk (k := 256) (t := 1) ck_X_next0_8 rfl) (gk (k := 256) (t := 2) ck_X_next0_8 rfl) (gk (k := 256) (t := 3) ck_X_next0_8 rfl) (by decide +kernel)
theorem d_X_next0_260 : decode y_X_next0.2.1 260 = .ok (.iload_n 1, 1) := op_iload_n1 (gk (k := 256) (t := 4) ck_X_next0_8 rfl)
theorem d_X_next0_261 : decode y_X_next0.2.1 261 = .ok (.bipush 41, 2) := op_bipush (gk (k := 256) (t := 5) ck_X_next0_8 rfl) (gk (k := 256) (t := 6) ck_X_next0_8 rfl) rfl
theorem d_X_next0_263 : decode y_X_next0.2.1 263 = .ok (.if_icmp .eq 21, 3) := op_icmp_eq (gk (k := 256) (t := 7) ck_X_next0_8 rfl) (gk (k := 256) (t := 8) ck_X_next0_8 rfl) (gk (k := 256) (t := 9) ck_X_next0_8 rfl) (by decide +kernel)
theorem d_X_next0_266 : decode y_X_next0.2.1 266 = .ok (.iload_n 1, 1) := op_iload_n1 (gk (k := 256) (t := 10) ck_X_next0_8 rfl)
theorem d_X_next0_267 : decode y_X_next0.2.1 267 = .ok (.bipush 60, 2) := op_bipush (gk (k := 256) (t := 11) ck_X_next0_8 rfl) (gk (k := 256) (t := 12) ck_X_next0_8 rfl) rfl
theorem d_X_next0_269 : decode y_X_next0.2.1 269 = .ok (.if_icmp .eq 15, 3) := op_icmp_eq (gk (k := 256) (t := 13) ck_X_next0_8 rfl) (gk (k := 256) (t := 14) ck_X_next0_8 rfl) (gk (k := 256) (t := 15) ck_X_next0_8 rfl) (by decide +kernel)
theorem d_X_next0_272 : decode y_X_next0.2.1 272 = .ok (.iload_n 1, 1) := op_iload_n1 (gk (k := 256) (t := 16) ck_X_next0_8 rfl)
theorem d_X_next0_273 : decode y_X_next0.2.1 273 = .ok (.bipush 61, 2) := op_bipush (gk (k := 256) (t := 17) ck_X_next0_8 rfl) (gk (k := 256) (t := 18) ck_X_next0_8 rfl) rfl
theorem d_X_next0_275 : decode y_X_next0.2.1 275 = .ok (.if_icmp .eq 9, 3) := op_icmp_eq (gk (k := 256) (t := 19) ck_X_next0_8 rfl) (gk (k := 256) (t := 20) ck_X_next0_8 rfl) (gk (k := 256) (t := 21) ck_X_next0_8 rfl) (by decide +kernel)
theorem d_X_next0_278 : decode y_X_next0.2.1 278 = .ok (.iload_n 1, 1) := op_iload_n1 (gk (k := 256) (t := 22) ck_X_next0_8 rfl)
theorem d_X_next0_279 : decode y_X_next0.2.1 279 = .ok (.bipush 62, 2) := op_bipush (gk (k := 256) (t := 23) ck_X_next0_8 rfl) (gk (k := 256) (t := 24) ck_X_next0_8 rfl) rfl
theorem d_X_next0_281 : decode y_X_next0.2.1 281 = .ok (.if_icmp .ne 7, 3) := op_icmp_ne (gk (k := 256) (t := 25) ck_X_next0_8 rfl) (gk (k := 256) (t := 26) ck_X_next0_8 rfl) (gk (k := 256) (t := 27) ck_X_next0_8 rfl) (by decide +kernel)
theorem d_X_next0_288 : decode y_X_next0.2.1 288 = .ok (.iconst 0, 1) := op_iconst0 (gk (k := 288) (t := 0) ck_X_next0_9 rfl)
theorem d_X_next0_121 : decode y_X_next0.2.1 121 = .ok (.aload_n 0, 1) := op_aload_n0 (gk (k := 96) (t := 25) ck_X_next0_3 rfl)
theorem d_X_next0_122 : decode y_X_next0.2.1 122 = .ok (.iconst 0, 1) := op_iconst0 (gk (k := 96) (t := 26) ck_X_next0_3 rfl)
theorem fl_X_190 : FL "SinglesUpModel" 190 9 16 := ⟨"SinglesUpModel", zT9, 51, rfl, by decide, rfl, Or.inl (tw_c5 109 (by decide +kernel) rfl)⟩
theorem d_X_next0_123 : decode y_X_next0.2.1 123 = .ok (.putfield 190, 3) := op_putfield (gk (k := 96) (t := 27) ck_X_next0_3 rfl) (gk (k := 96) (t := 28) ck_X_next0_3 rfl) (gk (k := 96) (t := 29) ck_X_next0_3 rfl) rfl
theorem d_X_next0_126 : decode y_X_next0.2.1 126 = .ok (.aload_n 0, 1) := op_aload_n0 (gk (k := 96) (t := 30) ck_X_next0_3 rfl)
theorem d_X_next0_127 : decode y_X_next0.2.1 127 = .ok (.aload_n 0, 1) := op_aload_n0 (gk (k := 96) (t := 31) ck_X_next0_3 rfl)
theorem ck_X_next0_4 : (y_X_next0.2.1.data.toList.drop 128).take 32 = [180, 0, 115, 182, 0, 174, 184, 0, 187, 153, 0, 52, 42, 180, 0, 115, 42, 180, 0, 118, 7, 96, 162, 0, 26, 42, 16, 10, 42, 180, 0, 190] := by decide +kernel
theorem d_X_next0_128 : decode y_X_next0.2.1 128 = .ok (.getfield 115, 3) := op_getfield (gk (k := 128) (t := 0) ck_X_next0_4 rfl) (gk (k := 128) (t := 1) ck_X_next0_4 rfl) (gk (k := 128) (t := 2) ck_X_next0_4 rfl) rfl
theorem d_X_next0_131 : decode y_X_next0.2.1 131 = .ok (.invokevirtual 174, 3) := op_invokevirtual (gk (k := 128) (t := 3) ck_X_next0_4 rfl) (gk (k := 128) (t := 4) ck_X_next0_4 rfl) (gk (k := 128) (t := 5) ck_X_next0_4 rfl) rfl
theorem d_X_next0_134 : decode y_X_next0.2.1 134 = .ok (.invokestatic 187, 3) := op_invokestatic (gk (k := 128) (t := 6) ck_X_next0_4 rfl) (gk (k := 128) (t := 7) ck_X_next0_4 rfl) (gk (k := 128) (t := 8) ck_X_next0_4 rfl) rfl
theorem d_X_next0_137 : decode y_X_next0.2.1 137 = .ok (.ifCond .eq 52, 3) := op_if_eq (gk (k := 128) (t := 9) ck_X_next0_4 rfl) (gk (k := 128) (t := 10) ck_X_next0_4 rfl) (gk (k := 128) (t := 11) ck_X_next0_4 rfl) (by decide +kernel)
theorem d_X_next0_140 : decode y_X_next0.2.1 140 = .ok (.aload_n 0, 1) := op_aload_n0 (gk (k := 128) (t := 12) ck_X_next0_4 rfl)
theorem d_X_next0_141 : decode y_X_next0.2.1 141 = .ok (.getfield 115, 3) := op_getfield (gk (k := 128) (t := 13) ck_X_next0_4 rfl) (gk (k := 128) (t := 14) ck_X_next0_4 rfl) (gk (k := 128) (t := 15) ck_X_next0_4 rfl) rfl
theorem d_X_next0_144 : decode y_X_next0.2.1 144 = .ok (.aload_n 0, 1) := op_aload_n0 (gk (k := 128) (t := 16) ck_X_next0_4 rfl)
theorem d_X_next0_145 : decode y_X_next0.2.1 145 = .ok (.getfield 118, 3) := op_getfield (gk (k := 128) (t := 17) ck_X_next0_4 rfl) (gk (k := 128) (t := 18) ck_X_next0_4 rfl) (gk (k := 128) (t := 19) ck_X_next0_4 rfl) rfl
theorem d_X_next0_148 : decode y_X_next0.2.1 148 = .ok (.iconst 4, 1) := op_iconst4 (gk (k := 128) (t := 20) ck_X_next0_4 rfl)
theorem d_X_next0_149 : decode y_X_next0.2.1 149 = .ok (.iadd, 1) := op_iadd (gk (k := 128) (t := 21) ck_X_next0_4 rfl)
theorem ck_X_next0_5 : (y_X_next0.2.1.data.toList.drop 160).take 32 = [104, 42, 42, 180, 0, 115, 182, 0, 174, 96, 16, 48, 100, 181, 0, 190, 42, 89, 180, 0, 115, 4, 96, 181, 0, 115, 167, 255, 196, 42, 42, 180] := by decide +kernel
theorem d_X_next0_176 : decode y_X_next0.2.1 176 = .ok (.aload_n 0, 1) := op_aload_n0 (gk (k := 160) (t := 16) ck_X_next0_5 rfl)
theorem d_X_next0_177 : decode y_X_next0.2.1 177 = .ok (.dup, 1) := op_dup (gk (k := 160) (t := 17) ck_X_next0_5 rfl)
theorem d_X_next0_178 : decode y_X_next0.2.1 178 = .ok (.getfield 115, 3) := op_getfield (gk (k := 160) (t := 18) ck_X_next0_5 rfl) (gk (k := 160) (t := 19) ck_X_next0_5 rfl) (gk (k := 160) (t := 20) ck_X_next0_5 rfl) rfl
theorem d_X_next0_181 : decode y_X_next0.2.1 181 = .ok (.iconst 1, 1) := op_iconst1 (gk (k := 160) (t := 21) ck_X_next0_5 rfl)
theorem d_X_next0_182 : decode y_X_next0.2.1 182 = .ok (.iadd, 1) := op_iadd (gk (k := 160) (t := 22) ck_X_next0_5 rfl)
theorem d_X_next0_183 : decode y_X_next0.2.1 183 = .ok (.putfield 115, 3) := op_putfield (gk (k := 160) (t := 23) ck_X_next0_5 rfl) (gk (k := 160) (t := 24) ck_X_next0_5 rfl) (gk (k := 160) (t := 25) ck_X_next0_5 rfl) rfl
theorem d_X_next0_186 : decode y_X_next0.2.1 186 = .ok (.goto (-60), 3) := op_goto (gk (k := 160) (t := 26) ck_X_next0_5 rfl) (gk (k := 160) (t := 27) ck_X_next0_5 rfl) (gk (k := 160) (t := 28) ck_X_next0_5 rfl) (by decide +kernel)
theorem d_X_next0_150 : decode y_X_next0.2.1 150 = .ok (.if_icmp .ge 26, 3) := op_icmp_ge (gk (k := 128) (t := 22) ck_X_next0_4 rfl) (gk (k := 128) (t := 23) ck_X_next0_4 rfl) (gk (k := 128) (t := 24) ck_X_next0_4 rfl) (by decide +kernel)
theorem d_X_next0_153 : decode y_X_next0.2.1 153 = .ok (.aload_n 0, 1) := op_aload_n0 (gk (k := 128) (t := 25) ck_X_next0_4 rfl)
theorem d_X_next0_154 : decode y_X_next0.2.1 154 = .ok (.bipush 10, 2) := op_bipush (gk (k := 128) (t := 26) ck_X_next0_4 rfl) (gk (k := 128) (t := 27) ck_X_next0_4 rfl) rfl
theorem d_X_next0_156 : decode y_X_next0.2.1 156 = .ok (.aload_n 0, 1) := op_aload_n0 (gk (k := 128) (t := 28) ck_X_next0_4 rfl)
theorem d_X_next0_157 : decode y_X_next0.2.1 157 = .ok (.getfield 190, 3) := op_getfield (gk (k := 128) (t := 29) ck_X_next0_4 rfl) (gk (k := 128) (t := 30) ck_X_next0_4 rfl) (gk (k := 128) (t := 31) ck_X_next0_4 rfl) rfl
theorem d_X_next0_160 : decode y_X_next0.2.1 160 = .ok (.imul, 1) := op_imul (gk (k := 160) (t := 0) ck_X_next0_5 rfl)
theorem d_X_next0_161 : decode y_X_next0.2.1 161 = .ok (.aload_n 0, 1) := op_aload_n0 (gk (k := 160) (t := 1) ck_X_next0_5 rfl)
theorem d_X_next0_162 : decode y_X_next0.2.1 162 = .ok (.aload_n 0, 1) := op_aload_n0 (gk (k := 160) (t := 2) ck_X_next0_5 rfl)
theorem d_X_next0_163 : decode y_X_next0.2.1 163 = .ok (.getfield 115, 3) := op_getfield (gk (k := 160) (t := 3) ck_X_next0_5 rfl) (gk (k := 160) (t := 4) ck_X_next0_5 rfl) (gk (k := 160) (t := 5) ck_X_next0_5 rfl) rfl
theorem d_X_next0_166 : decode y_X_next0.2.1 166 = .ok (.invokevirtual 174, 3) := op_invokevirtual (gk (k := 160) (t := 6) ck_X_next0_5 rfl) (gk (k := 160) (t := 7) ck_X_next0_5 rfl) (gk (k := 160) (t := 8) ck_X_next0_5 rfl) rfl
theorem d_X_next0_169 : decode y_X_next0.2.1 169 = .ok (.iadd, 1) := op_iadd (gk (k := 160) (t := 9) ck_X_next0_5 rfl)
theorem d_X_next0_170 : decode y_X_next0.2.1 170 = .ok (.bipush 48, 2) := op_bipush (gk (k := 160) (t := 10) ck_X_next0_5 rfl) (gk (k := 160) (t := 11) ck_X_next0_5 rfl) rfl
theorem d_X_next0_172 : decode y_X_next0.2.1 172 = .ok (.isub, 1) := op_isub (gk (k := 160) (t := 12) ck_X_next0_5 rfl)
theorem d_X_next0_173 : decode y_X_next0.2.1 173 = .ok (.putfield 190, 3) := op_putfield (gk (k := 160) (t := 13) ck_X_next0_5 rfl) (gk (k := 160) (t := 14) ck_X_next0_5 rfl) (gk (k := 160) (t := 15) ck_X_next0_5 rfl) rfl
theorem d_X_next0_189 : decode y_X_next0.2.1 189 = .ok (.aload_n 0, 1) := op_aload_n0 (gk (k := 160) (t := 29) ck_X_next0_5 rfl)
theorem d_X_next0_190 : decode y_X_next0.2.1 190 = .ok (.aload_n 0, 1) := op_aload_n0 (gk (k := 160) (t := 30) ck_X_next0_5 rfl)
theorem d_X_next0_191 : decode y_X_next0.2.1 191 = .ok (.getfield 115, 3) := op_getfield (gk (k := 160) (t := 31) ck_X_next0_5 rfl) (gk (k := 192) (t := 0) ck_X_next0_6 rfl) (gk (k := 192) (t := 1) ck_X_next0_6 rfl) rfl
theorem d_X_next0_194 : decode y_X_next0.2.1 194 = .ok (.aload_n 0, 1) := op_aload_n0 (gk (k := 192) (t := 2) ck_X_next0_6 rfl)
theorem d_X_next0_195 : decode y_X_next0.2.1 195 = .ok (.getfield 118, 3) := op_getfield (gk (k := 192) (t := 3) ck_X_next0_6 rfl) (gk (k := 192) (t := 4) ck_X_next0_6 rfl) (gk (k := 192) (t := 5) ck_X_next0_6 rfl) rfl
theorem d_X_next0_198 : decode y_X_next0.2.1 198 = .ok (.isub, 1) := op_isub (gk (k := 192) (t := 6) ck_X_next0_6 rfl)
theorem d_X_next0_199 : decode y_X_next0.2.1 199 = .ok (.iconst 5, 1) := op_iconst5 (gk (k := 192) (t := 7) ck_X_next0_6 rfl)
theorem d_X_next0_208 : decode y_X_next0.2.1 208 = .ok (.putfield 178, 3) := op_putfield (gk (k := 192) (t := 16) ck_X_next0_6 rfl) (gk (k := 192) (t := 17) ck_X_next0_6 rfl) (gk (k := 192) (t := 18) ck_X_next0_6 rfl) rfl
theorem d_X_next0_211 : decode y_X_next0.2.1 211 = .ok (.goto 95, 3) := op_goto (gk (k := 192) (t := 19) ck_X_next0_6 rfl) (gk (k := 192) (t := 20) ck_X_next0_6 rfl) (gk (k := 192) (t := 21) ck_X_next0_6 rfl) (by decide +kernel)
theorem d_X_next0_200 : decode y_X_next0.2.1 200 = .ok (.if_icmp .ge 7, 3) := op_icmp_ge (gk (k := 192) (t := 8) ck_X_next0_6 rfl) (gk (k := 192) (t := 9) ck_X_next0_6 rfl) (gk (k := 192) (t := 10) ck_X_next0_6 rfl) (by decide +kernel)
theorem d_X_next0_207 : decode y_X_next0.2.1 207 = .ok (.iconst 1, 1) := op_iconst1 (gk (k := 192) (t := 15) ck_X_next0_6 rfl)
theorem d_X_next0_203 : decode y_X_next0.2.1 203 = .ok (.iconst 2, 1) := op_iconst2 (gk (k := 192) (t := 11) ck_X_next0_6 rfl)
theorem d_X_next0_204 : decode y_X_next0.2.1 204 = .ok (.goto 4, 3) := op_goto (gk (k := 192) (t := 12) ck_X_next0_6 rfl) (gk (k := 192) (t := 13) ck_X_next0_6 rfl) (gk (k := 192) (t := 14) ck_X_next0_6 rfl) (by decide +kernel)
theorem d_X_next0_76 : decode y_X_next0.2.1 76 = .ok (.aload_n 0, 1) := op_aload_n0 (gk (k := 64) (t := 12) ck_X_next0_2 rfl)
theorem d_X_next0_77 : decode y_X_next0.2.1 77 = .ok (.aload_n 0, 1) := op_aload_n0 (gk (k := 64) (t := 13) ck_X_next0_2 rfl)
theorem d_X_next0_78 : decode y_X_next0.2.1 78 = .ok (.getfield 115, 3) := op_getfield (gk (k := 64) (t := 14) ck_X_next0_2 rfl) (gk (k := 64) (t := 15) ck_X_next0_2 rfl) (gk (k := 64) (t := 16) ck_X_next0_2 rfl) rfl
theorem d_X_next0_81 : decode y_X_next0.2.1 81 = .ok (.invokevirtual 174, 3) := op_invokevirtual (gk (k := 64) (t := 17) ck_X_next0_2 rfl) (gk (k := 64) (t := 18) ck_X_next0_2 rfl) (gk (k := 64) (t := 19) ck_X_next0_2 rfl) rfl
theorem d_X_next0_84 : decode y_X_next0.2.1 84 = .ok (.invokestatic 181, 3) := op_invokestatic (gk (k := 64) (t := 20) ck_X_next0_2 rfl) (gk (k := 64) (t := 21) ck_X_next0_2 rfl) (gk (k := 64) (t := 22) ck_X_next0_2 rfl) rfl
theorem d_X_next0_87 : decode y_X_next0.2.1 87 = .ok (.ifCond .eq 16, 3) := op_if_eq (gk (k := 64) (t := 23) ck_X_next0_2 rfl) (gk (k := 64) (t := 24) ck_X_next0_2 rfl) (gk (k := 64) (t := 25) ck_X_next0_2 rfl) (by decide +kernel)
theorem d_X_next0_90 : decode y_X_next0.2.1 90 = .ok (.aload_n 0, 1) := op_aload_n0 (gk (k := 64) (t := 26) ck_X_next0_2 rfl)
theorem d_X_next0_91 : decode y_X_next0.2.1 91 = .ok (.dup, 1) := op_dup (gk (k := 64) (t := 27) ck_X_next0_2 rfl)
theorem d_X_next0_92 : decode y_X_next0.2.1 92 = .ok (.getfield 115, 3) := op_getfield (gk (k := 64) (t := 28) ck_X_next0_2 rfl) (gk (k := 64) (t := 29) ck_X_next0_2 rfl) (gk (k := 64) (t := 30) ck_X_next0_2 rfl) rfl
theorem d_X_next0_95 : decode y_X_next0.2.1 95 = .ok (.iconst 1, 1) := op_iconst1 (gk (k := 64) (t := 31) ck_X_next0_2 rfl)
theorem d_X_next0_96 : decode y_X_next0.2.1 96 = .ok (.iadd, 1) := op_iadd (gk (k := 96) (t := 0) ck_X_next0_3 rfl)
theorem d_X_next0_97 : decode y_X_next0.2.1 97 = .ok (.putfield 115, 3) := op_putfield (gk (k := 96) (t := 1) ck_X_next0_3 rfl) (gk (k := 96) (t := 2) ck_X_next0_3 rfl) (gk (k := 96) (t := 3) ck_X_next0_3 rfl) rfl
theorem d_X_next0_100 : decode y_X_next0.2.1 100 = .ok (.goto (-24), 3) := op_goto (gk (k := 96) (t := 4) ck_X_next0_3 rfl) (gk (k := 96) (t := 5) ck_X_next0_3 rfl) (gk (k := 96) (t := 6) ck_X_next0_3 rfl) (by decide +kernel)
theorem d_X_next0_103 : decode y_X_next0.2.1 103 = .ok (.aload_n 0, 1) := op_aload_n0 (gk (k := 96) (t := 7) ck_X_next0_3 rfl)
theorem d_X_next0_104 : decode y_X_next0.2.1 104 = .ok (.aload_n 0, 1) := op_aload_n0 (gk (k := 96) (t := 8) ck_X_next0_3 rfl)
theorem lk_X_184 : LkV "SinglesUpModel" 184 y_X_word := ⟨tw_c6 65 (by decide +kernel) rfl, tw_in 42 (by decide +kernel) rfl, Or.inl (tw_c6 63 (by decide +kernel) rfl)⟩
set_option maxRecDepth 100000 in
theorem mo_X_word : MOk y_X_word 0 := ⟨by decide +kernel, tw_c6 66 rfl rfl, tw_c1 12 (by decide +kernel) rfl, by decide +kernel, by decide +kernel, by decide +kernel⟩
theorem d_X_next0_105 : decode y_X_next0.2.1 105 = .ok (.invokevirtual 184, 3) := op_invokevirtual (gk (k := 96) (t := 9) ck_X_next0_3 rfl) (gk (k := 96) (t := 10) ck_X_next0_3 rfl) (gk (k := 96) (t := 11) ck_X_next0_3 rfl) rfl
theorem d_X_next0_108 : decode y_X_next0.2.1 108 = .ok (.putfield 178, 3) := op_putfield (gk (k := 96) (t := 12) ck_X_next0_3 rfl) (gk (k := 96) (t := 13) ck_X_next0_3 rfl) (gk (k := 96) (t := 14) ck_X_next0_3 rfl) rfl
theorem d_X_next0_111 : decode y_X_next0.2.1 111 = .ok (.goto 195, 3) := op_goto (gk (k := 96) (t := 15) ck_X_next0_3 rfl) (gk (k := 96) (t := 16) ck_X_next0_3 rfl) (gk (k := 96) (t := 17) ck_X_next0_3 rfl) (by decide +kernel)
theorem d_X_next0_61 : decode y_X_next0.2.1 61 = .ok (.aload_n 0, 1) := op_aload_n0 (gk (k := 32) (t := 29) ck_X_next0_1 rfl)
theorem d_X_next0_62 : decode y_X_next0.2.1 62 = .ok (.iconst 0, 1) := op_iconst0 (gk (k := 32) (t := 30) ck_X_next0_1 rfl)
theorem d_X_next0_63 : decode y_X_next0.2.1 63 = .ok (.putfield 178, 3) := op_putfield (gk (k := 32) (t := 31) ck_X_next0_1 rfl) (gk (k := 64) (t := 0) ck_X_next0_2 rfl) (gk (k := 64) (t := 1) ck_X_next0_2 rfl) rfl
theorem d_X_next0_66 : decode y_X_next0.2.1 66 = .ok (.goto 240, 3) := op_goto (gk (k := 64) (t := 2) ck_X_next0_2 rfl) (gk (k := 64) (t := 3) ck_X_next0_2 rfl) (gk (k := 64) (t := 4) ck_X_next0_2 rfl) (by decide +kernel)
abbrev y_X_bad : MI := (⟨"SinglesUpModel", "bad", "(I)Z"⟩, prog_11_method_21_code, 2, some .boolean)
theorem ck_X_bad_0 : (y_X_bad.2.1.data.toList.drop 0).take 32 = [42, 27, 181, 0, 193, 42, 42, 180, 0, 118, 181, 0, 196, 3, 172] := by decide +kernel
theorem d_X_bad_0 : decode y_X_bad.2.1 0 = .ok (.aload_n 0, 1) := op_aload_n0 (gk (k := 0) (t := 0) ck_X_bad_0 rfl)
theorem d_X_bad_1 : decode y_X_bad.2.1 1 = .ok (.iload_n 1, 1) := op_iload_n1 (gk (k := 0) (t := 1) ck_X_bad_0 rfl)
theorem fl_X_193 : FL "SinglesUpModel" 193 9 17 := ⟨"SinglesUpModel", zT9, 51, rfl, by decide, rfl, Or.inl (tw_c5 110 (by decide +kernel) rfl)⟩
theorem d_X_bad_2 : decode y_X_bad.2.1 2 = .ok (.putfield 193, 3) := op_putfield (gk (k := 0) (t := 2) ck_X_bad_0 rfl) (gk (k := 0) (t := 3) ck_X_bad_0 rfl) (gk (k := 0) (t := 4) ck_X_bad_0 rfl) rfl
theorem d_X_bad_5 : decode y_X_bad.2.1 5 = .ok (.aload_n 0, 1) := op_aload_n0 (gk (k := 0) (t := 5) ck_X_bad_0 rfl)
theorem d_X_bad_6 : decode y_X_bad.2.1 6 = .ok (.aload_n 0, 1) := op_aload_n0 (gk (k := 0) (t := 6) ck_X_bad_0 rfl)
theorem d_X_bad_7 : decode y_X_bad.2.1 7 = .ok (.getfield 118, 3) := op_getfield (gk (k := 0) (t := 7) ck_X_bad_0 rfl) (gk (k := 0) (t := 8) ck_X_bad_0 rfl) (gk (k := 0) (t := 9) ck_X_bad_0 rfl) rfl
theorem fl_X_196 : FL "SinglesUpModel" 196 9 18 := ⟨"SinglesUpModel", zT9, 51, rfl, by decide, rfl, Or.inl (tw_c5 111 (by decide +kernel) rfl)⟩
theorem d_X_bad_10 : decode y_X_bad.2.1 10 = .ok (.putfield 196, 3) := op_putfield (gk (k := 0) (t := 10) ck_X_bad_0 rfl) (gk (k := 0) (t := 11) ck_X_bad_0 rfl) (gk (k := 0) (t := 12) ck_X_bad_0 rfl) rfl
theorem d_X_bad_13 : decode y_X_bad.2.1 13 = .ok (.iconst 0, 1) := op_iconst0 (gk (k := 0) (t := 13) ck_X_bad_0 rfl)
theorem d_X_bad_14 : decode y_X_bad.2.1 14 = .ok (.ireturn, 1) := op_ireturn (gk (k := 0) (t := 14) ck_X_bad_0 rfl)
abbrev y_X_need : MI := (⟨"SinglesUpModel", "need", "(I)Z"⟩, prog_11_method_22_code, 2, some .boolean)
theorem ck_X_need_0 : (y_X_need.2.1.data.toList.drop 0).take 32 = [42, 180, 0, 178, 27, 159, 0, 9, 42, 4, 182, 0, 199, 172, 42, 182, 0, 202, 4, 172] := by decide +kernel
theorem d_X_need_0 : decode y_X_need.2.1 0 = .ok (.aload_n 0, 1) := op_aload_n0 (gk (k := 0) (t := 0) ck_X_need_0 rfl)
theorem d_X_need_1 : decode y_X_need.2.1 1 = .ok (.getfield 178, 3) := op_getfield (gk (k := 0) (t := 1) ck_X_need_0 rfl) (gk (k := 0) (t := 2) ck_X_need_0 rfl) (gk (k := 0) (t := 3) ck_X_need_0 rfl) rfl
theorem d_X_need_4 : decode y_X_need.2.1 4 = .ok (.iload_n 1, 1) := op_iload_n1 (gk (k := 0) (t := 4) ck_X_need_0 rfl)
theorem d_X_need_5 : decode y_X_need.2.1 5 = .ok (.if_icmp .eq 9, 3) := op_icmp_eq (gk (k := 0) (t := 5) ck_X_need_0 rfl) (gk (k := 0) (t := 6) ck_X_need_0 rfl) (gk (k := 0) (t := 7) ck_X_need_0 rfl) (by decide +kernel)
theorem d_X_need_14 : decode y_X_need.2.1 14 = .ok (.aload_n 0, 1) := op_aload_n0 (gk (k := 0) (t := 14) ck_X_need_0 rfl)
theorem lk_X_202 : LkV "SinglesUpModel" 202 y_X_next0 := ⟨tw_c6 54 (by decide +kernel) rfl, tw_in 40 (by decide +kernel) rfl, Or.inl (tw_c6 52 (by decide +kernel) rfl)⟩
set_option maxRecDepth 100000 in
theorem mo_X_next0 : MOk y_X_next0 0 := ⟨by decide +kernel, tw_c6 55 rfl rfl, tw_c1 12 (by decide +kernel) rfl, by decide +kernel, by decide +kernel, by decide +kernel⟩
theorem d_X_need_15 : decode y_X_need.2.1 15 = .ok (.invokevirtual 202, 3) := op_invokevirtual (gk (k := 0) (t := 15) ck_X_need_0 rfl) (gk (k := 0) (t := 16) ck_X_need_0 rfl) (gk (k := 0) (t := 17) ck_X_need_0 rfl) rfl
theorem d_X_need_18 : decode y_X_need.2.1 18 = .ok (.iconst 1, 1) := op_iconst1 (gk (k := 0) (t := 18) ck_X_need_0 rfl)
theorem d_X_need_19 : decode y_X_need.2.1 19 = .ok (.ireturn, 1) := op_ireturn (gk (k := 0) (t := 19) ck_X_need_0 rfl)
theorem d_X_need_8 : decode y_X_need.2.1 8 = .ok (.aload_n 0, 1) := op_aload_n0 (gk (k := 0) (t := 8) ck_X_need_0 rfl)
theorem d_X_need_9 : decode y_X_need.2.1 9 = .ok (.iconst 1, 1) := op_iconst1 (gk (k := 0) (t := 9) ck_X_need_0 rfl)
theorem lk_X_199 : LkV "SinglesUpModel" 199 y_X_bad := ⟨tw_c6 106 (by decide +kernel) rfl, tw_in 47 (by decide +kernel) rfl, Or.inl (tw_c6 104 (by decide +kernel) rfl)⟩
set_option maxRecDepth 100000 in
theorem mo_X_bad : MOk y_X_bad 1 := ⟨by decide +kernel, tw_c6 107 rfl rfl, tw_c1 12 (by decide +kernel) rfl, by decide +kernel, by decide +kernel, by decide +kernel⟩
theorem d_X_need_10 : decode y_X_need.2.1 10 = .ok (.invokevirtual 199, 3) := op_invokevirtual (gk (k := 0) (t := 10) ck_X_need_0 rfl) (gk (k := 0) (t := 11) ck_X_need_0 rfl) (gk (k := 0) (t := 12) ck_X_need_0 rfl) rfl
theorem d_X_need_13 : decode y_X_need.2.1 13 = .ok (.ireturn, 1) := op_ireturn (gk (k := 0) (t := 13) ck_X_need_0 rfl)
abbrev y_X_opens : MI := (⟨"SinglesUpModel", "opens", "()Z"⟩, prog_11_method_25_code, 1, some .boolean)
theorem ck_X_opens_0 : (y_X_opens.2.1.data.toList.drop 0).take 32 = [42, 180, 0, 208, 16, 8, 160, 0, 9, 42, 6, 182, 0, 199, 172, 42, 89, 180, 0, 208, 4, 96, 181, 0, 208, 42, 182, 0, 202, 4, 172] := by decide +kernel
theorem d_X_opens_0 : decode y_X_opens.2.1 0 = .ok (.aload_n 0, 1) := op_aload_n0 (gk (k := 0) (t := 0) ck_X_opens_0 rfl)
theorem fl_X_208 : FL "SinglesUpModel" 208 9 20 := ⟨"SinglesUpModel", zT9, 51, rfl, by decide, rfl, Or.inl (tw_c5 113 (by decide +kernel) rfl)⟩
theorem d_X_opens_1 : decode y_X_opens.2.1 1 = .ok (.getfield 208, 3) := op_getfield (gk (k := 0) (t := 1) ck_X_opens_0 rfl) (gk (k := 0) (t := 2) ck_X_opens_0 rfl) (gk (k := 0) (t := 3) ck_X_opens_0 rfl) rfl
theorem d_X_opens_4 : decode y_X_opens.2.1 4 = .ok (.bipush 8, 2) := op_bipush (gk (k := 0) (t := 4) ck_X_opens_0 rfl) (gk (k := 0) (t := 5) ck_X_opens_0 rfl) rfl
theorem d_X_opens_6 : decode y_X_opens.2.1 6 = .ok (.if_icmp .ne 9, 3) := op_icmp_ne (gk (k := 0) (t := 6) ck_X_opens_0 rfl) (gk (k := 0) (t := 7) ck_X_opens_0 rfl) (gk (k := 0) (t := 8) ck_X_opens_0 rfl) (by decide +kernel)
theorem d_X_opens_15 : decode y_X_opens.2.1 15 = .ok (.aload_n 0, 1) := op_aload_n0 (gk (k := 0) (t := 15) ck_X_opens_0 rfl)
theorem d_X_opens_16 : decode y_X_opens.2.1 16 = .ok (.dup, 1) := op_dup (gk (k := 0) (t := 16) ck_X_opens_0 rfl)
theorem d_X_opens_17 : decode y_X_opens.2.1 17 = .ok (.getfield 208, 3) := op_getfield (gk (k := 0) (t := 17) ck_X_opens_0 rfl) (gk (k := 0) (t := 18) ck_X_opens_0 rfl) (gk (k := 0) (t := 19) ck_X_opens_0 rfl) rfl
theorem d_X_opens_20 : decode y_X_opens.2.1 20 = .ok (.iconst 1, 1) := op_iconst1 (gk (k := 0) (t := 20) ck_X_opens_0 rfl)
theorem d_X_opens_21 : decode y_X_opens.2.1 21 = .ok (.iadd, 1) := op_iadd (gk (k := 0) (t := 21) ck_X_opens_0 rfl)
theorem d_X_opens_22 : decode y_X_opens.2.1 22 = .ok (.putfield 208, 3) := op_putfield (gk (k := 0) (t := 22) ck_X_opens_0 rfl) (gk (k := 0) (t := 23) ck_X_opens_0 rfl) (gk (k := 0) (t := 24) ck_X_opens_0 rfl) rfl
theorem d_X_opens_25 : decode y_X_opens.2.1 25 = .ok (.aload_n 0, 1) := op_aload_n0 (gk (k := 0) (t := 25) ck_X_opens_0 rfl)
theorem d_X_opens_26 : decode y_X_opens.2.1 26 = .ok (.invokevirtual 202, 3) := op_invokevirtual (gk (k := 0) (t := 26) ck_X_opens_0 rfl) (gk (k := 0) (t := 27) ck_X_opens_0 rfl) (gk (k := 0) (t := 28) ck_X_opens_0 rfl) rfl
theorem d_X_opens_29 : decode y_X_opens.2.1 29 = .ok (.iconst 1, 1) := op_iconst1 (gk (k := 0) (t := 29) ck_X_opens_0 rfl)
theorem d_X_opens_30 : decode y_X_opens.2.1 30 = .ok (.ireturn, 1) := op_ireturn (gk (k := 0) (t := 30) ck_X_opens_0 rfl)
theorem d_X_opens_9 : decode y_X_opens.2.1 9 = .ok (.aload_n 0, 1) := op_aload_n0 (gk (k := 0) (t := 9) ck_X_opens_0 rfl)
theorem d_X_opens_10 : decode y_X_opens.2.1 10 = .ok (.iconst 3, 1) := op_iconst3 (gk (k := 0) (t := 10) ck_X_opens_0 rfl)
theorem d_X_opens_11 : decode y_X_opens.2.1 11 = .ok (.invokevirtual 199, 3) := op_invokevirtual (gk (k := 0) (t := 11) ck_X_opens_0 rfl) (gk (k := 0) (t := 12) ck_X_opens_0 rfl) (gk (k := 0) (t := 13) ck_X_opens_0 rfl) rfl
theorem d_X_opens_14 : decode y_X_opens.2.1 14 = .ok (.ireturn, 1) := op_ireturn (gk (k := 0) (t := 14) ck_X_opens_0 rfl)
abbrev y_X_number : MI := (⟨"SinglesUpModel", "number", "(II)Z"⟩, prog_11_method_23_code, 3, some .boolean)
theorem ck_X_number_0 : (y_X_number.2.1.data.toList.drop 0).take 32 = [42, 180, 0, 178, 5, 159, 0, 9, 42, 4, 182, 0, 199, 172, 42, 180, 0, 190, 27, 28, 184, 0, 98, 154, 0, 9, 42, 5, 182, 0, 199, 172] := by decide +kernel
theorem d_X_number_0 : decode y_X_number.2.1 0 = .ok (.aload_n 0, 1) := op_aload_n0 (gk (k := 0) (t := 0) ck_X_number_0 rfl)
theorem d_X_number_1 : decode y_X_number.2.1 1 = .ok (.getfield 178, 3) := op_getfield (gk (k := 0) (t := 1) ck_X_number_0 rfl) (gk (k := 0) (t := 2) ck_X_number_0 rfl) (gk (k := 0) (t := 3) ck_X_number_0 rfl) rfl
theorem d_X_number_4 : decode y_X_number.2.1 4 = .ok (.iconst 2, 1) := op_iconst2 (gk (k := 0) (t := 4) ck_X_number_0 rfl)
theorem d_X_number_5 : decode y_X_number.2.1 5 = .ok (.if_icmp .eq 9, 3) := op_icmp_eq (gk (k := 0) (t := 5) ck_X_number_0 rfl) (gk (k := 0) (t := 6) ck_X_number_0 rfl) (gk (k := 0) (t := 7) ck_X_number_0 rfl) (by decide +kernel)
theorem d_X_number_14 : decode y_X_number.2.1 14 = .ok (.aload_n 0, 1) := op_aload_n0 (gk (k := 0) (t := 14) ck_X_number_0 rfl)
theorem d_X_number_15 : decode y_X_number.2.1 15 = .ok (.getfield 190, 3) := op_getfield (gk (k := 0) (t := 15) ck_X_number_0 rfl) (gk (k := 0) (t := 16) ck_X_number_0 rfl) (gk (k := 0) (t := 17) ck_X_number_0 rfl) rfl
theorem d_X_number_18 : decode y_X_number.2.1 18 = .ok (.iload_n 1, 1) := op_iload_n1 (gk (k := 0) (t := 18) ck_X_number_0 rfl)
theorem d_X_number_19 : decode y_X_number.2.1 19 = .ok (.iload_n 2, 1) := op_iload_n2 (gk (k := 0) (t := 19) ck_X_number_0 rfl)
theorem d_X_number_20 : decode y_X_number.2.1 20 = .ok (.invokestatic 98, 3) := op_invokestatic (gk (k := 0) (t := 20) ck_X_number_0 rfl) (gk (k := 0) (t := 21) ck_X_number_0 rfl) (gk (k := 0) (t := 22) ck_X_number_0 rfl) rfl
theorem d_X_number_23 : decode y_X_number.2.1 23 = .ok (.ifCond .ne 9, 3) := op_if_ne (gk (k := 0) (t := 23) ck_X_number_0 rfl) (gk (k := 0) (t := 24) ck_X_number_0 rfl) (gk (k := 0) (t := 25) ck_X_number_0 rfl) (by decide +kernel)
theorem ck_X_number_1 : (y_X_number.2.1.data.toList.drop 32).take 32 = [42, 182, 0, 202, 4, 172] := by decide +kernel
theorem d_X_number_32 : decode y_X_number.2.1 32 = .ok (.aload_n 0, 1) := op_aload_n0 (gk (k := 32) (t := 0) ck_X_number_1 rfl)
theorem d_X_number_33 : decode y_X_number.2.1 33 = .ok (.invokevirtual 202, 3) := op_invokevirtual (gk (k := 32) (t := 1) ck_X_number_1 rfl) (gk (k := 32) (t := 2) ck_X_number_1 rfl) (gk (k := 32) (t := 3) ck_X_number_1 rfl) rfl
theorem d_X_number_36 : decode y_X_number.2.1 36 = .ok (.iconst 1, 1) := op_iconst1 (gk (k := 32) (t := 4) ck_X_number_1 rfl)
theorem d_X_number_37 : decode y_X_number.2.1 37 = .ok (.ireturn, 1) := op_ireturn (gk (k := 32) (t := 5) ck_X_number_1 rfl)
theorem d_X_number_26 : decode y_X_number.2.1 26 = .ok (.aload_n 0, 1) := op_aload_n0 (gk (k := 0) (t := 26) ck_X_number_0 rfl)
theorem d_X_number_27 : decode y_X_number.2.1 27 = .ok (.iconst 2, 1) := op_iconst2 (gk (k := 0) (t := 27) ck_X_number_0 rfl)
theorem d_X_number_28 : decode y_X_number.2.1 28 = .ok (.invokevirtual 199, 3) := op_invokevirtual (gk (k := 0) (t := 28) ck_X_number_0 rfl) (gk (k := 0) (t := 29) ck_X_number_0 rfl) (gk (k := 0) (t := 30) ck_X_number_0 rfl) rfl
theorem d_X_number_31 : decode y_X_number.2.1 31 = .ok (.ireturn, 1) := op_ireturn (gk (k := 0) (t := 31) ck_X_number_0 rfl)
theorem d_X_number_8 : decode y_X_number.2.1 8 = .ok (.aload_n 0, 1) := op_aload_n0 (gk (k := 0) (t := 8) ck_X_number_0 rfl)
theorem d_X_number_9 : decode y_X_number.2.1 9 = .ok (.iconst 1, 1) := op_iconst1 (gk (k := 0) (t := 9) ck_X_number_0 rfl)
theorem d_X_number_10 : decode y_X_number.2.1 10 = .ok (.invokevirtual 199, 3) := op_invokevirtual (gk (k := 0) (t := 10) ck_X_number_0 rfl) (gk (k := 0) (t := 11) ck_X_number_0 rfl) (gk (k := 0) (t := 12) ck_X_number_0 rfl) rfl
theorem d_X_number_13 : decode y_X_number.2.1 13 = .ok (.ireturn, 1) := op_ireturn (gk (k := 0) (t := 13) ck_X_number_0 rfl)
abbrev y_X_unit : MI := (⟨"SinglesUpModel", "unit", "()Z"⟩, prog_11_method_28_code, 2, some .boolean)
theorem ck_X_unit_0 : (y_X_unit.2.1.data.toList.drop 0).take 32 = [42, 180, 0, 178, 16, 41, 16, 51, 184, 0, 98, 60, 42, 180, 0, 178, 5, 159, 0, 13, 27, 154, 0, 9, 42, 4, 182, 0, 199, 172, 42, 27] := by decide +kernel
theorem d_X_unit_0 : decode y_X_unit.2.1 0 = .ok (.aload_n 0, 1) := op_aload_n0 (gk (k := 0) (t := 0) ck_X_unit_0 rfl)
theorem d_X_unit_1 : decode y_X_unit.2.1 1 = .ok (.getfield 178, 3) := op_getfield (gk (k := 0) (t := 1) ck_X_unit_0 rfl) (gk (k := 0) (t := 2) ck_X_unit_0 rfl) (gk (k := 0) (t := 3) ck_X_unit_0 rfl) rfl
theorem d_X_unit_4 : decode y_X_unit.2.1 4 = .ok (.bipush 41, 2) := op_bipush (gk (k := 0) (t := 4) ck_X_unit_0 rfl) (gk (k := 0) (t := 5) ck_X_unit_0 rfl) rfl
theorem d_X_unit_6 : decode y_X_unit.2.1 6 = .ok (.bipush 51, 2) := op_bipush (gk (k := 0) (t := 6) ck_X_unit_0 rfl) (gk (k := 0) (t := 7) ck_X_unit_0 rfl) rfl
theorem d_X_unit_8 : decode y_X_unit.2.1 8 = .ok (.invokestatic 98, 3) := op_invokestatic (gk (k := 0) (t := 8) ck_X_unit_0 rfl) (gk (k := 0) (t := 9) ck_X_unit_0 rfl) (gk (k := 0) (t := 10) ck_X_unit_0 rfl) rfl
theorem d_X_unit_11 : decode y_X_unit.2.1 11 = .ok (.istore_n 1, 1) := op_istore_n1 (gk (k := 0) (t := 11) ck_X_unit_0 rfl)
theorem d_X_unit_12 : decode y_X_unit.2.1 12 = .ok (.aload_n 0, 1) := op_aload_n0 (gk (k := 0) (t := 12) ck_X_unit_0 rfl)
theorem d_X_unit_13 : decode y_X_unit.2.1 13 = .ok (.getfield 178, 3) := op_getfield (gk (k := 0) (t := 13) ck_X_unit_0 rfl) (gk (k := 0) (t := 14) ck_X_unit_0 rfl) (gk (k := 0) (t := 15) ck_X_unit_0 rfl) rfl
theorem d_X_unit_16 : decode y_X_unit.2.1 16 = .ok (.iconst 2, 1) := op_iconst2 (gk (k := 0) (t := 16) ck_X_unit_0 rfl)
theorem d_X_unit_30 : decode y_X_unit.2.1 30 = .ok (.aload_n 0, 1) := op_aload_n0 (gk (k := 0) (t := 30) ck_X_unit_0 rfl)
theorem d_X_unit_31 : decode y_X_unit.2.1 31 = .ok (.iload_n 1, 1) := op_iload_n1 (gk (k := 0) (t := 31) ck_X_unit_0 rfl)
theorem ck_X_unit_1 : (y_X_unit.2.1.data.toList.drop 32).take 32 = [153, 0, 13, 42, 180, 0, 178, 16, 40, 100, 167, 0, 4, 3, 42, 180, 0, 190, 182, 0, 215, 42, 182, 0, 202, 4, 172] := by decide +kernel
theorem d_X_unit_46 : decode y_X_unit.2.1 46 = .ok (.aload_n 0, 1) := op_aload_n0 (gk (k := 32) (t := 14) ck_X_unit_1 rfl)
theorem d_X_unit_47 : decode y_X_unit.2.1 47 = .ok (.getfield 190, 3) := op_getfield (gk (k := 32) (t := 15) ck_X_unit_1 rfl) (gk (k := 32) (t := 16) ck_X_unit_1 rfl) (gk (k := 32) (t := 17) ck_X_unit_1 rfl) rfl
theorem lk_X_215 : LkV "SinglesUpModel" 215 y_X_lay := ⟨tw_c6 126 (by decide +kernel) rfl, tw_in 52 (by decide +kernel) rfl, Or.inl (tw_c6 124 (by decide +kernel) rfl)⟩
set_option maxRecDepth 100000 in
theorem mo_X_lay : MOk y_X_lay 2 := ⟨by decide +kernel, tw_c6 127 rfl rfl, tw_c1 12 (by decide +kernel) rfl, by decide +kernel, by decide +kernel, by decide +kernel⟩
theorem d_X_unit_50 : decode y_X_unit.2.1 50 = .ok (.invokevirtual 215, 3) := op_invokevirtual (gk (k := 32) (t := 18) ck_X_unit_1 rfl) (gk (k := 32) (t := 19) ck_X_unit_1 rfl) (gk (k := 32) (t := 20) ck_X_unit_1 rfl) rfl
theorem d_X_unit_53 : decode y_X_unit.2.1 53 = .ok (.aload_n 0, 1) := op_aload_n0 (gk (k := 32) (t := 21) ck_X_unit_1 rfl)
theorem d_X_unit_54 : decode y_X_unit.2.1 54 = .ok (.invokevirtual 202, 3) := op_invokevirtual (gk (k := 32) (t := 22) ck_X_unit_1 rfl) (gk (k := 32) (t := 23) ck_X_unit_1 rfl) (gk (k := 32) (t := 24) ck_X_unit_1 rfl) rfl
theorem d_X_unit_57 : decode y_X_unit.2.1 57 = .ok (.iconst 1, 1) := op_iconst1 (gk (k := 32) (t := 25) ck_X_unit_1 rfl)
theorem d_X_unit_58 : decode y_X_unit.2.1 58 = .ok (.ireturn, 1) := op_ireturn (gk (k := 32) (t := 26) ck_X_unit_1 rfl)
theorem d_X_unit_32 : decode y_X_unit.2.1 32 = .ok (.ifCond .eq 13, 3) := op_if_eq (gk (k := 32) (t := 0) ck_X_unit_1 rfl) (gk (k := 32) (t := 1) ck_X_unit_1 rfl) (gk (k := 32) (t := 2) ck_X_unit_1 rfl) (by decide +kernel)
theorem d_X_unit_45 : decode y_X_unit.2.1 45 = .ok (.iconst 0, 1) := op_iconst0 (gk (k := 32) (t := 13) ck_X_unit_1 rfl)
theorem d_X_unit_35 : decode y_X_unit.2.1 35 = .ok (.aload_n 0, 1) := op_aload_n0 (gk (k := 32) (t := 3) ck_X_unit_1 rfl)
theorem d_X_unit_36 : decode y_X_unit.2.1 36 = .ok (.getfield 178, 3) := op_getfield (gk (k := 32) (t := 4) ck_X_unit_1 rfl) (gk (k := 32) (t := 5) ck_X_unit_1 rfl) (gk (k := 32) (t := 6) ck_X_unit_1 rfl) rfl
theorem d_X_unit_39 : decode y_X_unit.2.1 39 = .ok (.bipush 40, 2) := op_bipush (gk (k := 32) (t := 7) ck_X_unit_1 rfl) (gk (k := 32) (t := 8) ck_X_unit_1 rfl) rfl
theorem d_X_unit_41 : decode y_X_unit.2.1 41 = .ok (.isub, 1) := op_isub (gk (k := 32) (t := 9) ck_X_unit_1 rfl)
theorem d_X_unit_42 : decode y_X_unit.2.1 42 = .ok (.goto 4, 3) := op_goto (gk (k := 32) (t := 10) ck_X_unit_1 rfl) (gk (k := 32) (t := 11) ck_X_unit_1 rfl) (gk (k := 32) (t := 12) ck_X_unit_1 rfl) (by decide +kernel)
theorem d_X_unit_17 : decode y_X_unit.2.1 17 = .ok (.if_icmp .eq 13, 3) := op_icmp_eq (gk (k := 0) (t := 17) ck_X_unit_0 rfl) (gk (k := 0) (t := 18) ck_X_unit_0 rfl) (gk (k := 0) (t := 19) ck_X_unit_0 rfl) (by decide +kernel)
theorem d_X_unit_20 : decode y_X_unit.2.1 20 = .ok (.iload_n 1, 1) := op_iload_n1 (gk (k := 0) (t := 20) ck_X_unit_0 rfl)
theorem d_X_unit_21 : decode y_X_unit.2.1 21 = .ok (.ifCond .ne 9, 3) := op_if_ne (gk (k := 0) (t := 21) ck_X_unit_0 rfl) (gk (k := 0) (t := 22) ck_X_unit_0 rfl) (gk (k := 0) (t := 23) ck_X_unit_0 rfl) (by decide +kernel)
theorem d_X_unit_24 : decode y_X_unit.2.1 24 = .ok (.aload_n 0, 1) := op_aload_n0 (gk (k := 0) (t := 24) ck_X_unit_0 rfl)
theorem d_X_unit_25 : decode y_X_unit.2.1 25 = .ok (.iconst 1, 1) := op_iconst1 (gk (k := 0) (t := 25) ck_X_unit_0 rfl)
theorem d_X_unit_26 : decode y_X_unit.2.1 26 = .ok (.invokevirtual 199, 3) := op_invokevirtual (gk (k := 0) (t := 26) ck_X_unit_0 rfl) (gk (k := 0) (t := 27) ck_X_unit_0 rfl) (gk (k := 0) (t := 28) ck_X_unit_0 rfl) rfl
theorem d_X_unit_29 : decode y_X_unit.2.1 29 = .ok (.ireturn, 1) := op_ireturn (gk (k := 0) (t := 29) ck_X_unit_0 rfl)
abbrev y_X_product : MI := (⟨"SinglesUpModel", "product", "()Z"⟩, prog_11_method_27_code, 3, some .boolean)
theorem ck_X_product_0 : (y_X_product.2.1.data.toList.drop 0).take 32 = [42, 182, 0, 219, 154, 0, 5, 3, 172, 42, 180, 0, 178, 17, 0, 142, 159, 0, 13, 42, 180, 0, 178, 17, 0, 147, 160, 0, 74, 42, 180, 0] := by decide +kernel
theorem d_X_product_0 : decode y_X_product.2.1 0 = .ok (.aload_n 0, 1) := op_aload_n0 (gk (k := 0) (t := 0) ck_X_product_0 rfl)
theorem lk_X_219 : LkV "SinglesUpModel" 219 y_X_unit := ⟨tw_c6 122 (by decide +kernel) rfl, tw_in 51 (by decide +kernel) rfl, Or.inl (tw_c6 120 (by decide +kernel) rfl)⟩
set_option maxRecDepth 100000 in
theorem mo_X_unit : MOk y_X_unit 0 := ⟨by decide +kernel, tw_c6 123 rfl rfl, tw_c1 12 (by decide +kernel) rfl, by decide +kernel, by decide +kernel, by decide +kernel⟩
theorem d_X_product_1 : decode y_X_product.2.1 1 = .ok (.invokevirtual 219, 3) := op_invokevirtual (gk (k := 0) (t := 1) ck_X_product_0 rfl) (gk (k := 0) (t := 2) ck_X_product_0 rfl) (gk (k := 0) (t := 3) ck_X_product_0 rfl) rfl
theorem d_X_product_4 : decode y_X_product.2.1 4 = .ok (.ifCond .ne 5, 3) := op_if_ne (gk (k := 0) (t := 4) ck_X_product_0 rfl) (gk (k := 0) (t := 5) ck_X_product_0 rfl) (gk (k := 0) (t := 6) ck_X_product_0 rfl) (by decide +kernel)
theorem d_X_product_9 : decode y_X_product.2.1 9 = .ok (.aload_n 0, 1) := op_aload_n0 (gk (k := 0) (t := 9) ck_X_product_0 rfl)
theorem d_X_product_10 : decode y_X_product.2.1 10 = .ok (.getfield 178, 3) := op_getfield (gk (k := 0) (t := 10) ck_X_product_0 rfl) (gk (k := 0) (t := 11) ck_X_product_0 rfl) (gk (k := 0) (t := 12) ck_X_product_0 rfl) rfl
theorem cs_142 : (Int16.ofInt 142).toInt32 = iv 142 := by decide +kernel
theorem d_X_product_13 : decode y_X_product.2.1 13 = .ok (.sipush 142, 3) := op_sipush (gk (k := 0) (t := 13) ck_X_product_0 rfl) (gk (k := 0) (t := 14) ck_X_product_0 rfl) (gk (k := 0) (t := 15) ck_X_product_0 rfl) (by decide +kernel)
theorem d_X_product_29 : decode y_X_product.2.1 29 = .ok (.aload_n 0, 1) := op_aload_n0 (gk (k := 0) (t := 29) ck_X_product_0 rfl)
theorem ck_X_product_1 : (y_X_product.2.1.data.toList.drop 32).take 32 = [178, 17, 0, 147, 160, 0, 7, 4, 167, 0, 4, 3, 60, 42, 182, 0, 202, 27, 153, 0, 31, 42, 180, 0, 190, 61, 42, 4, 17, 39, 15, 182] := by decide +kernel
theorem d_X_product_30 : decode y_X_product.2.1 30 = .ok (.getfield 178, 3) := op_getfield (gk (k := 0) (t := 30) ck_X_product_0 rfl) (gk (k := 0) (t := 31) ck_X_product_0 rfl) (gk (k := 32) (t := 0) ck_X_product_1 rfl) rfl
theorem cs_147 : (Int16.ofInt 147).toInt32 = iv 147 := by decide +kernel
theorem d_X_product_33 : decode y_X_product.2.1 33 = .ok (.sipush 147, 3) := op_sipush (gk (k := 32) (t := 1) ck_X_product_1 rfl) (gk (k := 32) (t := 2) ck_X_product_1 rfl) (gk (k := 32) (t := 3) ck_X_product_1 rfl) (by decide +kernel)
theorem d_X_product_44 : decode y_X_product.2.1 44 = .ok (.istore_n 1, 1) := op_istore_n1 (gk (k := 32) (t := 12) ck_X_product_1 rfl)
theorem d_X_product_45 : decode y_X_product.2.1 45 = .ok (.aload_n 0, 1) := op_aload_n0 (gk (k := 32) (t := 13) ck_X_product_1 rfl)
theorem d_X_product_46 : decode y_X_product.2.1 46 = .ok (.invokevirtual 202, 3) := op_invokevirtual (gk (k := 32) (t := 14) ck_X_product_1 rfl) (gk (k := 32) (t := 15) ck_X_product_1 rfl) (gk (k := 32) (t := 16) ck_X_product_1 rfl) rfl
theorem d_X_product_49 : decode y_X_product.2.1 49 = .ok (.iload_n 1, 1) := op_iload_n1 (gk (k := 32) (t := 17) ck_X_product_1 rfl)
theorem d_X_product_50 : decode y_X_product.2.1 50 = .ok (.ifCond .eq 31, 3) := op_if_eq (gk (k := 32) (t := 18) ck_X_product_1 rfl) (gk (k := 32) (t := 19) ck_X_product_1 rfl) (gk (k := 32) (t := 20) ck_X_product_1 rfl) (by decide +kernel)
theorem ck_X_product_2 : (y_X_product.2.1.data.toList.drop 64).take 32 = [0, 222, 154, 0, 5, 3, 172, 42, 16, 15, 28, 182, 0, 215, 167, 0, 19, 42, 182, 0, 219, 154, 0, 5, 3, 172, 42, 16, 14, 3, 182, 0] := by decide +kernel
theorem d_X_product_81 : decode y_X_product.2.1 81 = .ok (.aload_n 0, 1) := op_aload_n0 (gk (k := 64) (t := 17) ck_X_product_2 rfl)
theorem d_X_product_82 : decode y_X_product.2.1 82 = .ok (.invokevirtual 219, 3) := op_invokevirtual (gk (k := 64) (t := 18) ck_X_product_2 rfl) (gk (k := 64) (t := 19) ck_X_product_2 rfl) (gk (k := 64) (t := 20) ck_X_product_2 rfl) rfl
theorem d_X_product_85 : decode y_X_product.2.1 85 = .ok (.ifCond .ne 5, 3) := op_if_ne (gk (k := 64) (t := 21) ck_X_product_2 rfl) (gk (k := 64) (t := 22) ck_X_product_2 rfl) (gk (k := 64) (t := 23) ck_X_product_2 rfl) (by decide +kernel)
theorem d_X_product_90 : decode y_X_product.2.1 90 = .ok (.aload_n 0, 1) := op_aload_n0 (gk (k := 64) (t := 26) ck_X_product_2 rfl)
theorem d_X_product_91 : decode y_X_product.2.1 91 = .ok (.bipush 14, 2) := op_bipush (gk (k := 64) (t := 27) ck_X_product_2 rfl) (gk (k := 64) (t := 28) ck_X_product_2 rfl) rfl
theorem d_X_product_93 : decode y_X_product.2.1 93 = .ok (.iconst 0, 1) := op_iconst0 (gk (k := 64) (t := 29) ck_X_product_2 rfl)
theorem in_14 : inr (14) := lit_in rfl
theorem ck_X_product_3 : (y_X_product.2.1.data.toList.drop 96).take 32 = [215, 167, 255, 168, 4, 172] := by decide +kernel
theorem d_X_product_94 : decode y_X_product.2.1 94 = .ok (.invokevirtual 215, 3) := op_invokevirtual (gk (k := 64) (t := 30) ck_X_product_2 rfl) (gk (k := 64) (t := 31) ck_X_product_2 rfl) (gk (k := 96) (t := 0) ck_X_product_3 rfl) rfl
theorem d_X_product_97 : decode y_X_product.2.1 97 = .ok (.goto (-88), 3) := op_goto (gk (k := 96) (t := 1) ck_X_product_3 rfl) (gk (k := 96) (t := 2) ck_X_product_3 rfl) (gk (k := 96) (t := 3) ck_X_product_3 rfl) (by decide +kernel)
theorem d_X_product_88 : decode y_X_product.2.1 88 = .ok (.iconst 0, 1) := op_iconst0 (gk (k := 64) (t := 24) ck_X_product_2 rfl)
theorem d_X_product_89 : decode y_X_product.2.1 89 = .ok (.ireturn, 1) := op_ireturn (gk (k := 64) (t := 25) ck_X_product_2 rfl)
theorem d_X_product_53 : decode y_X_product.2.1 53 = .ok (.aload_n 0, 1) := op_aload_n0 (gk (k := 32) (t := 21) ck_X_product_1 rfl)
theorem d_X_product_54 : decode y_X_product.2.1 54 = .ok (.getfield 190, 3) := op_getfield (gk (k := 32) (t := 22) ck_X_product_1 rfl) (gk (k := 32) (t := 23) ck_X_product_1 rfl) (gk (k := 32) (t := 24) ck_X_product_1 rfl) rfl
theorem d_X_product_57 : decode y_X_product.2.1 57 = .ok (.istore_n 2, 1) := op_istore_n2 (gk (k := 32) (t := 25) ck_X_product_1 rfl)
theorem d_X_product_58 : decode y_X_product.2.1 58 = .ok (.aload_n 0, 1) := op_aload_n0 (gk (k := 32) (t := 26) ck_X_product_1 rfl)
theorem d_X_product_59 : decode y_X_product.2.1 59 = .ok (.iconst 1, 1) := op_iconst1 (gk (k := 32) (t := 27) ck_X_product_1 rfl)
theorem cs_9999 : (Int16.ofInt 9999).toInt32 = iv 9999 := by decide +kernel
theorem d_X_product_60 : decode y_X_product.2.1 60 = .ok (.sipush 9999, 3) := op_sipush (gk (k := 32) (t := 28) ck_X_product_1 rfl) (gk (k := 32) (t := 29) ck_X_product_1 rfl) (gk (k := 32) (t := 30) ck_X_product_1 rfl) (by decide +kernel)
theorem lk_X_222 : LkV "SinglesUpModel" 222 y_X_number := ⟨tw_c6 110 (by decide +kernel) rfl, tw_in 48 (by decide +kernel) rfl, Or.inl (tw_c6 108 (by decide +kernel) rfl)⟩
set_option maxRecDepth 100000 in
theorem mo_X_number : MOk y_X_number 2 := ⟨by decide +kernel, tw_c6 111 rfl rfl, tw_c1 12 (by decide +kernel) rfl, by decide +kernel, by decide +kernel, by decide +kernel⟩
theorem in_9999 : inr (9999) := lit_in rfl
theorem d_X_product_63 : decode y_X_product.2.1 63 = .ok (.invokevirtual 222, 3) := op_invokevirtual (gk (k := 32) (t := 31) ck_X_product_1 rfl) (gk (k := 64) (t := 0) ck_X_product_2 rfl) (gk (k := 64) (t := 1) ck_X_product_2 rfl) rfl
theorem d_X_product_66 : decode y_X_product.2.1 66 = .ok (.ifCond .ne 5, 3) := op_if_ne (gk (k := 64) (t := 2) ck_X_product_2 rfl) (gk (k := 64) (t := 3) ck_X_product_2 rfl) (gk (k := 64) (t := 4) ck_X_product_2 rfl) (by decide +kernel)
theorem d_X_product_71 : decode y_X_product.2.1 71 = .ok (.aload_n 0, 1) := op_aload_n0 (gk (k := 64) (t := 7) ck_X_product_2 rfl)
theorem d_X_product_72 : decode y_X_product.2.1 72 = .ok (.bipush 15, 2) := op_bipush (gk (k := 64) (t := 8) ck_X_product_2 rfl) (gk (k := 64) (t := 9) ck_X_product_2 rfl) rfl
theorem d_X_product_74 : decode y_X_product.2.1 74 = .ok (.iload_n 2, 1) := op_iload_n2 (gk (k := 64) (t := 10) ck_X_product_2 rfl)
theorem d_X_product_75 : decode y_X_product.2.1 75 = .ok (.invokevirtual 215, 3) := op_invokevirtual (gk (k := 64) (t := 11) ck_X_product_2 rfl) (gk (k := 64) (t := 12) ck_X_product_2 rfl) (gk (k := 64) (t := 13) ck_X_product_2 rfl) rfl
theorem d_X_product_78 : decode y_X_product.2.1 78 = .ok (.goto 19, 3) := op_goto (gk (k := 64) (t := 14) ck_X_product_2 rfl) (gk (k := 64) (t := 15) ck_X_product_2 rfl) (gk (k := 64) (t := 16) ck_X_product_2 rfl) (by decide +kernel)
theorem d_X_product_69 : decode y_X_product.2.1 69 = .ok (.iconst 0, 1) := op_iconst0 (gk (k := 64) (t := 5) ck_X_product_2 rfl)
theorem d_X_product_70 : decode y_X_product.2.1 70 = .ok (.ireturn, 1) := op_ireturn (gk (k := 64) (t := 6) ck_X_product_2 rfl)
theorem in_147 : inr (147) := lit_in rfl
theorem d_X_product_36 : decode y_X_product.2.1 36 = .ok (.if_icmp .ne 7, 3) := op_icmp_ne (gk (k := 32) (t := 4) ck_X_product_1 rfl) (gk (k := 32) (t := 5) ck_X_product_1 rfl) (gk (k := 32) (t := 6) ck_X_product_1 rfl) (by decide +kernel)
theorem d_X_product_43 : decode y_X_product.2.1 43 = .ok (.iconst 0, 1) := op_iconst0 (gk (k := 32) (t := 11) ck_X_product_1 rfl)
theorem d_X_product_39 : decode y_X_product.2.1 39 = .ok (.iconst 1, 1) := op_iconst1 (gk (k := 32) (t := 7) ck_X_product_1 rfl)
theorem d_X_product_40 : decode y_X_product.2.1 40 = .ok (.goto 4, 3) := op_goto (gk (k := 32) (t := 8) ck_X_product_1 rfl) (gk (k := 32) (t := 9) ck_X_product_1 rfl) (gk (k := 32) (t := 10) ck_X_product_1 rfl) (by decide +kernel)
theorem in_142 : inr (142) := lit_in rfl
theorem d_X_product_16 : decode y_X_product.2.1 16 = .ok (.if_icmp .eq 13, 3) := op_icmp_eq (gk (k := 0) (t := 16) ck_X_product_0 rfl) (gk (k := 0) (t := 17) ck_X_product_0 rfl) (gk (k := 0) (t := 18) ck_X_product_0 rfl) (by decide +kernel)
theorem d_X_product_19 : decode y_X_product.2.1 19 = .ok (.aload_n 0, 1) := op_aload_n0 (gk (k := 0) (t := 19) ck_X_product_0 rfl)
theorem d_X_product_20 : decode y_X_product.2.1 20 = .ok (.getfield 178, 3) := op_getfield (gk (k := 0) (t := 20) ck_X_product_0 rfl) (gk (k := 0) (t := 21) ck_X_product_0 rfl) (gk (k := 0) (t := 22) ck_X_product_0 rfl) rfl
theorem d_X_product_23 : decode y_X_product.2.1 23 = .ok (.sipush 147, 3) := op_sipush (gk (k := 0) (t := 23) ck_X_product_0 rfl) (gk (k := 0) (t := 24) ck_X_product_0 rfl) (gk (k := 0) (t := 25) ck_X_product_0 rfl) (by decide +kernel)
theorem d_X_product_26 : decode y_X_product.2.1 26 = .ok (.if_icmp .ne 74, 3) := op_icmp_ne (gk (k := 0) (t := 26) ck_X_product_0 rfl) (gk (k := 0) (t := 27) ck_X_product_0 rfl) (gk (k := 0) (t := 28) ck_X_product_0 rfl) (by decide +kernel)
theorem d_X_product_100 : decode y_X_product.2.1 100 = .ok (.iconst 1, 1) := op_iconst1 (gk (k := 96) (t := 4) ck_X_product_3 rfl)
theorem d_X_product_101 : decode y_X_product.2.1 101 = .ok (.ireturn, 1) := op_ireturn (gk (k := 96) (t := 5) ck_X_product_3 rfl)
theorem d_X_product_7 : decode y_X_product.2.1 7 = .ok (.iconst 0, 1) := op_iconst0 (gk (k := 0) (t := 7) ck_X_product_0 rfl)
theorem d_X_product_8 : decode y_X_product.2.1 8 = .ok (.ireturn, 1) := op_ireturn (gk (k := 0) (t := 8) ck_X_product_0 rfl)
abbrev y_X_sumUp : MI := (⟨"SinglesUpModel", "sumUp", "()Z"⟩, prog_11_method_26_code, 2, some .boolean)
theorem ck_X_sumUp_0 : (y_X_sumUp.2.1.data.toList.drop 0).take 32 = [42, 182, 0, 211, 154, 0, 5, 3, 172, 42, 180, 0, 178, 17, 0, 143, 159, 0, 13, 42, 180, 0, 178, 17, 0, 145, 160, 0, 43, 42, 180, 0] := by decide +kernel
theorem d_X_sumUp_0 : decode y_X_sumUp.2.1 0 = .ok (.aload_n 0, 1) := op_aload_n0 (gk (k := 0) (t := 0) ck_X_sumUp_0 rfl)
theorem lk_X_211 : LkV "SinglesUpModel" 211 y_X_product := ⟨tw_c6 118 (by decide +kernel) rfl, tw_in 50 (by decide +kernel) rfl, Or.inl (tw_c6 116 (by decide +kernel) rfl)⟩
set_option maxRecDepth 100000 in
theorem mo_X_product : MOk y_X_product 0 := ⟨by decide +kernel, tw_c6 119 rfl rfl, tw_c1 12 (by decide +kernel) rfl, by decide +kernel, by decide +kernel, by decide +kernel⟩
theorem d_X_sumUp_1 : decode y_X_sumUp.2.1 1 = .ok (.invokevirtual 211, 3) := op_invokevirtual (gk (k := 0) (t := 1) ck_X_sumUp_0 rfl) (gk (k := 0) (t := 2) ck_X_sumUp_0 rfl) (gk (k := 0) (t := 3) ck_X_sumUp_0 rfl) rfl
theorem d_X_sumUp_4 : decode y_X_sumUp.2.1 4 = .ok (.ifCond .ne 5, 3) := op_if_ne (gk (k := 0) (t := 4) ck_X_sumUp_0 rfl) (gk (k := 0) (t := 5) ck_X_sumUp_0 rfl) (gk (k := 0) (t := 6) ck_X_sumUp_0 rfl) (by decide +kernel)
theorem d_X_sumUp_9 : decode y_X_sumUp.2.1 9 = .ok (.aload_n 0, 1) := op_aload_n0 (gk (k := 0) (t := 9) ck_X_sumUp_0 rfl)
theorem d_X_sumUp_10 : decode y_X_sumUp.2.1 10 = .ok (.getfield 178, 3) := op_getfield (gk (k := 0) (t := 10) ck_X_sumUp_0 rfl) (gk (k := 0) (t := 11) ck_X_sumUp_0 rfl) (gk (k := 0) (t := 12) ck_X_sumUp_0 rfl) rfl
theorem cs_143 : (Int16.ofInt 143).toInt32 = iv 143 := by decide +kernel
theorem d_X_sumUp_13 : decode y_X_sumUp.2.1 13 = .ok (.sipush 143, 3) := op_sipush (gk (k := 0) (t := 13) ck_X_sumUp_0 rfl) (gk (k := 0) (t := 14) ck_X_sumUp_0 rfl) (gk (k := 0) (t := 15) ck_X_sumUp_0 rfl) (by decide +kernel)
theorem d_X_sumUp_29 : decode y_X_sumUp.2.1 29 = .ok (.aload_n 0, 1) := op_aload_n0 (gk (k := 0) (t := 29) ck_X_sumUp_0 rfl)
theorem ck_X_sumUp_1 : (y_X_sumUp.2.1.data.toList.drop 32).take 32 = [178, 17, 0, 143, 160, 0, 8, 16, 12, 167, 0, 5, 16, 13, 60, 42, 182, 0, 202, 42, 182, 0, 211, 154, 0, 5, 3, 172, 42, 27, 3, 182] := by decide +kernel
theorem d_X_sumUp_30 : decode y_X_sumUp.2.1 30 = .ok (.getfield 178, 3) := op_getfield (gk (k := 0) (t := 30) ck_X_sumUp_0 rfl) (gk (k := 0) (t := 31) ck_X_sumUp_0 rfl) (gk (k := 32) (t := 0) ck_X_sumUp_1 rfl) rfl
theorem d_X_sumUp_33 : decode y_X_sumUp.2.1 33 = .ok (.sipush 143, 3) := op_sipush (gk (k := 32) (t := 1) ck_X_sumUp_1 rfl) (gk (k := 32) (t := 2) ck_X_sumUp_1 rfl) (gk (k := 32) (t := 3) ck_X_sumUp_1 rfl) (by decide +kernel)
theorem d_X_sumUp_46 : decode y_X_sumUp.2.1 46 = .ok (.istore_n 1, 1) := op_istore_n1 (gk (k := 32) (t := 14) ck_X_sumUp_1 rfl)
theorem d_X_sumUp_47 : decode y_X_sumUp.2.1 47 = .ok (.aload_n 0, 1) := op_aload_n0 (gk (k := 32) (t := 15) ck_X_sumUp_1 rfl)
theorem d_X_sumUp_48 : decode y_X_sumUp.2.1 48 = .ok (.invokevirtual 202, 3) := op_invokevirtual (gk (k := 32) (t := 16) ck_X_sumUp_1 rfl) (gk (k := 32) (t := 17) ck_X_sumUp_1 rfl) (gk (k := 32) (t := 18) ck_X_sumUp_1 rfl) rfl
theorem d_X_sumUp_51 : decode y_X_sumUp.2.1 51 = .ok (.aload_n 0, 1) := op_aload_n0 (gk (k := 32) (t := 19) ck_X_sumUp_1 rfl)
theorem d_X_sumUp_52 : decode y_X_sumUp.2.1 52 = .ok (.invokevirtual 211, 3) := op_invokevirtual (gk (k := 32) (t := 20) ck_X_sumUp_1 rfl) (gk (k := 32) (t := 21) ck_X_sumUp_1 rfl) (gk (k := 32) (t := 22) ck_X_sumUp_1 rfl) rfl
theorem d_X_sumUp_55 : decode y_X_sumUp.2.1 55 = .ok (.ifCond .ne 5, 3) := op_if_ne (gk (k := 32) (t := 23) ck_X_sumUp_1 rfl) (gk (k := 32) (t := 24) ck_X_sumUp_1 rfl) (gk (k := 32) (t := 25) ck_X_sumUp_1 rfl) (by decide +kernel)
theorem d_X_sumUp_60 : decode y_X_sumUp.2.1 60 = .ok (.aload_n 0, 1) := op_aload_n0 (gk (k := 32) (t := 28) ck_X_sumUp_1 rfl)
theorem d_X_sumUp_61 : decode y_X_sumUp.2.1 61 = .ok (.iload_n 1, 1) := op_iload_n1 (gk (k := 32) (t := 29) ck_X_sumUp_1 rfl)
theorem d_X_sumUp_62 : decode y_X_sumUp.2.1 62 = .ok (.iconst 0, 1) := op_iconst0 (gk (k := 32) (t := 30) ck_X_sumUp_1 rfl)
theorem ck_X_sumUp_2 : (y_X_sumUp.2.1.data.toList.drop 64).take 32 = [0, 215, 167, 255, 199, 4, 172] := by decide +kernel
theorem d_X_sumUp_63 : decode y_X_sumUp.2.1 63 = .ok (.invokevirtual 215, 3) := op_invokevirtual (gk (k := 32) (t := 31) ck_X_sumUp_1 rfl) (gk (k := 64) (t := 0) ck_X_sumUp_2 rfl) (gk (k := 64) (t := 1) ck_X_sumUp_2 rfl) rfl
theorem d_X_sumUp_66 : decode y_X_sumUp.2.1 66 = .ok (.goto (-57), 3) := op_goto (gk (k := 64) (t := 2) ck_X_sumUp_2 rfl) (gk (k := 64) (t := 3) ck_X_sumUp_2 rfl) (gk (k := 64) (t := 4) ck_X_sumUp_2 rfl) (by decide +kernel)
theorem d_X_sumUp_58 : decode y_X_sumUp.2.1 58 = .ok (.iconst 0, 1) := op_iconst0 (gk (k := 32) (t := 26) ck_X_sumUp_1 rfl)
theorem d_X_sumUp_59 : decode y_X_sumUp.2.1 59 = .ok (.ireturn, 1) := op_ireturn (gk (k := 32) (t := 27) ck_X_sumUp_1 rfl)
theorem in_143 : inr (143) := lit_in rfl
theorem d_X_sumUp_36 : decode y_X_sumUp.2.1 36 = .ok (.if_icmp .ne 8, 3) := op_icmp_ne (gk (k := 32) (t := 4) ck_X_sumUp_1 rfl) (gk (k := 32) (t := 5) ck_X_sumUp_1 rfl) (gk (k := 32) (t := 6) ck_X_sumUp_1 rfl) (by decide +kernel)
theorem d_X_sumUp_44 : decode y_X_sumUp.2.1 44 = .ok (.bipush 13, 2) := op_bipush (gk (k := 32) (t := 12) ck_X_sumUp_1 rfl) (gk (k := 32) (t := 13) ck_X_sumUp_1 rfl) rfl
theorem in_13 : inr (13) := lit_in rfl
theorem d_X_sumUp_39 : decode y_X_sumUp.2.1 39 = .ok (.bipush 12, 2) := op_bipush (gk (k := 32) (t := 7) ck_X_sumUp_1 rfl) (gk (k := 32) (t := 8) ck_X_sumUp_1 rfl) rfl
theorem d_X_sumUp_41 : decode y_X_sumUp.2.1 41 = .ok (.goto 5, 3) := op_goto (gk (k := 32) (t := 9) ck_X_sumUp_1 rfl) (gk (k := 32) (t := 10) ck_X_sumUp_1 rfl) (gk (k := 32) (t := 11) ck_X_sumUp_1 rfl) (by decide +kernel)
theorem d_X_sumUp_16 : decode y_X_sumUp.2.1 16 = .ok (.if_icmp .eq 13, 3) := op_icmp_eq (gk (k := 0) (t := 16) ck_X_sumUp_0 rfl) (gk (k := 0) (t := 17) ck_X_sumUp_0 rfl) (gk (k := 0) (t := 18) ck_X_sumUp_0 rfl) (by decide +kernel)
theorem d_X_sumUp_19 : decode y_X_sumUp.2.1 19 = .ok (.aload_n 0, 1) := op_aload_n0 (gk (k := 0) (t := 19) ck_X_sumUp_0 rfl)
theorem d_X_sumUp_20 : decode y_X_sumUp.2.1 20 = .ok (.getfield 178, 3) := op_getfield (gk (k := 0) (t := 20) ck_X_sumUp_0 rfl) (gk (k := 0) (t := 21) ck_X_sumUp_0 rfl) (gk (k := 0) (t := 22) ck_X_sumUp_0 rfl) rfl
theorem cs_145 : (Int16.ofInt 145).toInt32 = iv 145 := by decide +kernel
theorem d_X_sumUp_23 : decode y_X_sumUp.2.1 23 = .ok (.sipush 145, 3) := op_sipush (gk (k := 0) (t := 23) ck_X_sumUp_0 rfl) (gk (k := 0) (t := 24) ck_X_sumUp_0 rfl) (gk (k := 0) (t := 25) ck_X_sumUp_0 rfl) (by decide +kernel)
theorem in_145 : inr (145) := lit_in rfl
theorem d_X_sumUp_26 : decode y_X_sumUp.2.1 26 = .ok (.if_icmp .ne 43, 3) := op_icmp_ne (gk (k := 0) (t := 26) ck_X_sumUp_0 rfl) (gk (k := 0) (t := 27) ck_X_sumUp_0 rfl) (gk (k := 0) (t := 28) ck_X_sumUp_0 rfl) (by decide +kernel)
theorem d_X_sumUp_69 : decode y_X_sumUp.2.1 69 = .ok (.iconst 1, 1) := op_iconst1 (gk (k := 64) (t := 5) ck_X_sumUp_2 rfl)
theorem d_X_sumUp_70 : decode y_X_sumUp.2.1 70 = .ok (.ireturn, 1) := op_ireturn (gk (k := 64) (t := 6) ck_X_sumUp_2 rfl)
theorem d_X_sumUp_7 : decode y_X_sumUp.2.1 7 = .ok (.iconst 0, 1) := op_iconst0 (gk (k := 0) (t := 7) ck_X_sumUp_0 rfl)
theorem d_X_sumUp_8 : decode y_X_sumUp.2.1 8 = .ok (.ireturn, 1) := op_ireturn (gk (k := 0) (t := 8) ck_X_sumUp_0 rfl)
def f_X_state (fu : Nat) (o0 : Nat) (a1 : Int) (I0 : IMem) : Res :=
  zl (I0 (o0 + 1) 0) fun x1 =>
    zw I0 (o0 + 1) 0 a1 fun I2 =>
    zr x1 I2
def fb_X_forgets_2 (fu : Nat) (k_22 : IMem → Res) (o0 : Nat) (R_ : Int → IMem → Res) (w1 : Int) (I0 : IMem) : Res :=
  if w1 < 240 then (
      zg (0 ≤ w1 ∧ w1 < 240) (zw I0 (o0 + 13) w1.toNat 0 fun I1 =>
      zl (wr32 (w1 + 1)) fun x2 =>
      R_ x2 I1))
    else (
      k_22 I0)
def f_X_forgets_2 (fu : Nat) (k_22 : IMem → Res) (o0 : Nat) : Nat → Int → IMem → Res
 | 0 => fun _ _ => none
 | n + 1 => fb_X_forgets_2 fu k_22 o0 (f_X_forgets_2 fu k_22 o0 n)
def f_X_forgets (fu : Nat) (o0 : Nat) (I0 : IMem) : Res :=
  f_X_forgets_2 fu (fun  (I3 : IMem) =>
      zw I3 o0 35 0 fun I4 =>
      zr 0 I4) o0 fu 0 I0
def f_X_isIn (fu : Nat) (a0 : Int) (a1 : Int) (a2 : Int) (I0 : IMem) : Res :=
  if a0 < a1 then (
      zr 0 I0)
    else (
      if a2 < a0 then (
        zr 0 I0)
      else (
        zr 1 I0))
def f_X_set (fu : Nat) (o0 : Nat) (a1 : Int) (a2 : Int) (I0 : IMem) : Res :=
  zj (fun (x3 : Int) (I2 : IMem) =>
        if x3 = 0 then (
          zr 0 I2)
        else (
          zl (wr32 (1 + a1)) fun x5 =>
          zg (0 ≤ x5 ∧ x5 < 6190) (zw I2 (o0 + 1) x5.toNat a2 fun I4 =>
          if a1 = 0 then (
            zb (f_X_forgets fu o0 I4) fun _ I7 =>
            zr 1 I7)
          else (
            zr 1 I4)))) fun k1 =>
      if a1 = 0 then (
        zb (f_X_isIn fu a2 2 8 I0) fun y24 I25 =>
        k1 y24 I25)
      else (
        if a1 = 1 then (
          zb (f_X_isIn fu a2 1 99 I0) fun y21 I22 =>
          k1 y21 I22)
        else (
          if a1 = 2 then (
            zb (f_X_isIn fu a2 0 999 I0) fun y18 I19 =>
            k1 y18 I19)
          else (
            if a1 = 3 then (
              zb (f_X_isIn fu a2 0 1000 I0) fun y15 I16 =>
              k1 y15 I16)
            else (
              if a1 = 4 then (
                zb (f_X_isIn fu a2 0 99 I0) fun y12 I13 =>
                k1 y12 I13)
              else (
                if a1 = 5 then (
                  zb (f_X_isIn fu a2 0 3 I0) fun y9 I10 =>
                  if y9 = 0 then (
                    k1 0 I10)
                  else (
                    k1 1 I10))
                else (
                  k1 0 I0))))))
def f_X_isLine (fu : Nat) (a0 : Int) (I0 : IMem) : Res :=
  zb (f_X_isIn fu a0 0 5 I0) fun y1 I2 =>
    zg (y1 = 0 ∨ y1 = 1) (zr y1 I2)
def f_X_seen (fu : Nat) (o0 : Nat) (a1 : Int) (a2 : Int) (I0 : IMem) : Res :=
  zb (f_X_isLine fu a1 I0) fun y1 I2 =>
    if y1 = 0 then (
      zr 0 I2)
    else (
      zb (f_X_isIn fu a2 1 24 I2) fun y4 I5 =>
      if y4 = 0 then (
        zr 0 I5)
      else (
        zl (wr32 (10 + a1)) fun x8 =>
        zg (0 ≤ x8 ∧ x8 < 6190) (zw I5 (o0 + 1) x8.toNat a2 fun I7 =>
        zr 1 I7)))
def f_X_parts (fu : Nat) (o0 : Nat) (a1 : Int) (a2 : Int) (I0 : IMem) : Res :=
  zb (f_X_isIn fu a1 2 8 I0) fun y1 I2 =>
    if y1 = 0 then (
      zr 0 I2)
    else (
      zb (f_X_isIn fu a2 0 (wr32 (a1 - 1)) I2) fun y4 I5 =>
      if y4 = 0 then (
        zr 0 I5)
      else (
        zl (wr32 (16 + a1)) fun x8 =>
        zg (0 ≤ x8 ∧ x8 < 6190) (zw I5 (o0 + 1) x8.toNat a2 fun I7 =>
        zr 1 I7)))
def f_X_isGroup (fu : Nat) (a0 : Int) (a1 : Int) (a2 : Int) (I0 : IMem) : Res :=
  zb (f_X_isIn fu a0 1 8 I0) fun y1 I2 =>
    if y1 = 0 then (
      zr 0 I2)
    else (
      zb (f_X_isIn fu a1 1 a0 I2) fun y4 I5 =>
      if y4 = 0 then (
        zr 0 I5)
      else (
        zb (f_X_isIn fu a2 0 3 I5) fun y7 I8 =>
        if y7 = 0 then (
          zr 0 I8)
        else (
          zr 1 I8)))
def f_X_comer (fu : Nat) (o0 : Nat) (a1 : Int) (a2 : Int) (a3 : Int) (a4 : Int) (a5 : Int) (I0 : IMem) : Res :=
  zb (f_X_isIn fu a1 0 7 I0) fun y1 I2 =>
    if y1 = 0 then (
      zr 0 I2)
    else (
      zb (f_X_isGroup fu a2 a3 a4 I2) fun y4 I5 =>
      if y4 = 0 then (
        zr 0 I5)
      else (
        zb (f_X_isIn fu a5 0 1000 I5) fun y7 I8 =>
        if y7 = 0 then (
          zr 0 I8)
        else (
          zl (wr32 (26 + (wr32 (4 * a1)))) fun x11 =>
          zg (0 ≤ x11 ∧ x11 < 6190) (zw I8 (o0 + 1) x11.toNat a2 fun I10 =>
          zl (wr32 ((wr32 (26 + (wr32 (4 * a1)))) + 1)) fun x13 =>
          zg (0 ≤ x13 ∧ x13 < 6190) (zw I10 (o0 + 1) x13.toNat a3 fun I12 =>
          zl (wr32 ((wr32 (26 + (wr32 (4 * a1)))) + 2)) fun x15 =>
          zg (0 ≤ x15 ∧ x15 < 6190) (zw I12 (o0 + 1) x15.toNat a4 fun I14 =>
          zl (wr32 ((wr32 (26 + (wr32 (4 * a1)))) + 3)) fun x17 =>
          zg (0 ≤ x17 ∧ x17 < 6190) (zw I14 (o0 + 1) x17.toNat a5 fun I16 =>
          zr 1 I16)))))))
def fb_X_feed_18 (fu : Nat) (o0 : Nat) (p1 : Int) (p2 : Int) (p3 : Int) (p4 : Int) (p5 : Int) (R_ : Int → IMem → Res) (w6 : Int) (I0 : IMem) : Res :=
  if w6 < 20 then (
      zj (fun (x3 : Int) (I2 : IMem) =>
          zl (I2 o0 12) fun x5 =>
          zg (0 ≤ x5 ∧ x5 < 400) (zw I2 (o0 + 6) x5.toNat (wand (wshr x3 (wr32 (24 - (wr32 (8 * (wrem w6 4)))))) 255) fun I4 =>
          zw I4 o0 12 (wr32 ((I4 o0 12) + 1)) fun I6 =>
          zl (wr32 (w6 + 1)) fun x7 =>
          R_ x7 I6)) fun k1 =>
        if w6 < 4 then (
          k1 p1 I0)
        else (
          if w6 < 8 then (
            k1 p2 I0)
          else (
            if w6 < 12 then (
              k1 p3 I0)
            else (
              if w6 < 16 then (
                k1 p4 I0)
              else (
                k1 p5 I0)))))
    else (
      zr (I0 o0 12) I0)
def f_X_feed_18 (fu : Nat) (o0 : Nat) (p1 : Int) (p2 : Int) (p3 : Int) (p4 : Int) (p5 : Int) : Nat → Int → IMem → Res
 | 0 => fun _ _ => none
 | n + 1 => fb_X_feed_18 fu o0 p1 p2 p3 p4 p5 (f_X_feed_18 fu o0 p1 p2 p3 p4 p5 n)
def f_X_feed (fu : Nat) (o0 : Nat) (a1 : Int) (a2 : Int) (a3 : Int) (a4 : Int) (a5 : Int) (I0 : IMem) : Res :=
  if 400 < wr32 ((I0 o0 12) + 20) then (
      zr ((-1)) I0)
    else (
      f_X_feed_18 fu  o0 a1 a2 a3 a4 a5 fu 0 I0)
def f_X_end (fu : Nat) (o0 : Nat) (a1 : Int) (I0 : IMem) : Res :=
  zb (f_X_isIn fu a1 0 (I0 o0 12) I0) fun y1 I2 =>
    if y1 = 0 then (
      zr 0 I2)
    else (
      zw I2 o0 12 a1 fun I4 =>
      zr 1 I4)
def f_X_lay (fu : Nat) (o0 : Nat) (a1 : Int) (a2 : Int) (I0 : IMem) : Res :=
  zl (wr32 (2 * (I0 o0 11))) fun x2 =>
    zg (0 ≤ x2 ∧ x2 < 820) (zw I0 (o0 + 5) x2.toNat a1 fun I1 =>
    zl (wr32 ((wr32 (2 * (I1 o0 11))) + 1)) fun x4 =>
    zg (0 ≤ x4 ∧ x4 < 820) (zw I1 (o0 + 5) x4.toNat a2 fun I3 =>
    zw I3 o0 11 (wr32 ((I3 o0 11) + 1)) fun I5 =>
    zr 0 I5))
def f_X_isDigit (fu : Nat) (a0 : Int) (I0 : IMem) : Res :=
  zb (f_X_isIn fu a0 48 57 I0) fun y1 I2 =>
    zg (y1 = 0 ∨ y1 = 1) (zr y1 I2)
def f_X_isLetter (fu : Nat) (a0 : Int) (I0 : IMem) : Res :=
  zb (f_X_isIn fu a0 97 122 I0) fun y1 I2 =>
    if y1 = 0 then (
      zb (f_X_isIn fu a0 65 90 I2) fun y4 I5 =>
      if y4 = 0 then (
        zr 0 I5)
      else (
        zr 1 I5))
    else (
      zr 1 I2)
def f_X_see (fu : Nat) (o0 : Nat) (a1 : Int) (I0 : IMem) : Res :=
  if a1 < I0 o0 12 then (
      zg (0 ≤ a1 ∧ a1 < 400) (
      zr (I0 (o0 + 6) a1.toNat) I0))
    else (
      zr ((-1)) I0)
def fb_X_is_24 (fu : Nat) (o0 : Nat) (s1 : Nat) (R_ : Int → Int → IMem → Res) (w2 : Int) (w3 : Int) (I0 : IMem) : Res :=
  zb (f_JS_length fu s1 I0) fun y7 I8 =>
    if w3 < y7 then (
      if w2 = 0 then (
        zg (w2 = 0 ∨ w2 = 1) (zr w2 I8))
      else (
        zl (wr32 ((I8 o0 15) + w3)) fun x10 =>
        zg (0 ≤ x10 ∧ x10 < 400) (
        zb (f_JS_charAt fu s1 w3 I8) fun y11 I12 =>
        zj (fun (x16 : Int) (I15 : IMem) =>
            zl (wr32 (w3 + 1)) fun x17 =>
            R_ x16 x17 I15) fun k14 =>
          if I8 (o0 + 6) x10.toNat = y11 then (
            k14 1 I12)
          else (
            k14 0 I12))))
    else (
      zg (w2 = 0 ∨ w2 = 1) (zr w2 I8))
def f_X_is_24 (fu : Nat) (o0 : Nat) (s1 : Nat) : Nat → Int → Int → IMem → Res
 | 0 => fun _ _ _ => none
 | n + 1 => fb_X_is_24 fu o0 s1 (f_X_is_24 fu o0 s1 n)
def f_X_is (fu : Nat) (o0 : Nat) (s1 : Nat) (I0 : IMem) : Res :=
  zb (f_JS_length fu s1 I0) fun y1 I2 =>
    zj (fun (x6 : Int) (I5 : IMem) =>
        f_X_is_24 fu  o0 s1 fu x6 0 I5) fun k4 =>
      if wr32 ((I0 o0 13) - (I0 o0 15)) = y1 then (
        k4 1 I2)
      else (
        k4 0 I2)
def f_X_lineWord (fu : Nat) (o0 : Nat) (I0 : IMem) : Res :=
  zb (f_X_is fu o0 8 I0) fun y1 I2 =>
    if y1 = 0 then (
      zb (f_X_is fu o0 9 I2) fun y4 I5 =>
      if y4 = 0 then (
        zb (f_X_is fu o0 10 I5) fun y7 I8 =>
        if y7 = 0 then (
          zr 1 I8)
        else (
          zr 51 I8))
      else (
        zr 50 I5))
    else (
      zr 7 I2)
def f_X_ruleWord (fu : Nat) (o0 : Nat) (I0 : IMem) : Res :=
  zb (f_X_is fu o0 11 I0) fun y1 I2 =>
    if y1 = 0 then (
      zb (f_X_is fu o0 12 I2) fun y4 I5 =>
      if y4 = 0 then (
        zb (f_X_is fu o0 13 I5) fun y7 I8 =>
        if y7 = 0 then (
          zb (f_X_is fu o0 8 I8) fun y10 I11 =>
          if y10 = 0 then (
            zb (f_X_is fu o0 14 I11) fun y13 I14 =>
            if y13 = 0 then (
              zb (f_X_is fu o0 15 I14) fun y16 I17 =>
              if y16 = 0 then (
                zb (f_X_is fu o0 16 I17) fun y19 I20 =>
                if y19 = 0 then (
                  zb (f_X_is fu o0 17 I20) fun y22 I23 =>
                  if y22 = 0 then (
                    zr 1 I23)
                  else (
                    zr 49 I23))
                else (
                  zr 48 I20))
              else (
                zr 46 I17))
            else (
              zr 45 I14))
          else (
            zr 44 I11))
        else (
          zr 43 I8))
      else (
        zr 42 I5))
    else (
      zr 7 I2)
def f_X_word (fu : Nat) (o0 : Nat) (I0 : IMem) : Res :=
  zb (f_X_is fu o0 2 I0) fun y1 I2 =>
    if y1 = 0 then (
      zb (f_X_is fu o0 3 I2) fun y4 I5 =>
      if y4 = 0 then (
        zb (f_X_is fu o0 4 I5) fun y7 I8 =>
        if y7 = 0 then (
          zb (f_X_is fu o0 5 I8) fun y10 I11 =>
          if y10 = 0 then (
            zb (f_X_is fu o0 6 I11) fun y13 I14 =>
            if y13 = 0 then (
              zb (f_X_is fu o0 7 I14) fun y16 I17 =>
              if y16 = 0 then (
                if I17 o0 9 = 4 then (
                  zb (f_X_lineWord fu o0 I17) fun y22 I23 =>
                  zr y22 I23)
                else (
                  zb (f_X_ruleWord fu o0 I17) fun y19 I20 =>
                  zr y19 I20))
              else (
                zr 47 I17))
            else (
              zr 41 I14))
          else (
            zr 6 I11))
        else (
          zr 5 I8))
      else (
        zr 4 I5))
    else (
      zr 3 I2)
def fb_X_next0_0 (fu : Nat) (k_39 : IMem → Res) (o0 : Nat) (R_ : IMem → Res) (I0 : IMem) : Res :=
  zb (f_X_see fu o0 (I0 o0 13) I0) fun y1 I2 =>
    zj (fun  (I5 : IMem) =>
        zw I5 o0 13 (wr32 ((I5 o0 13) + 1)) fun I6 =>
        R_ I6) fun k4 =>
      if y1 = 32 then (
        k4 I2)
      else (
        zb (f_X_see fu o0 (I2 o0 13) I2) fun y7 I8 =>
        if y7 = 10 then (
          k4 I8)
        else (
          k_39 I8))
def f_X_next0_0 (fu : Nat) (k_39 : IMem → Res) (o0 : Nat) : Nat → IMem → Res
 | 0 => fun _ => none
 | n + 1 => fb_X_next0_0 fu k_39 o0 (f_X_next0_0 fu k_39 o0 n)
def fb_X_next0_126 (fu : Nat) (k_189 : IMem → Res) (o0 : Nat) (R_ : IMem → Res) (I0 : IMem) : Res :=
  zb (f_X_see fu o0 (I0 o0 13) I0) fun y30 I31 =>
    zb (f_X_isDigit fu y30 I31) fun y33 I34 =>
    if y33 = 0 then (
      k_189 I34)
    else (
      zj (fun  (I37 : IMem) =>
          zw I37 o0 13 (wr32 ((I37 o0 13) + 1)) fun I38 =>
          R_ I38) fun k36 =>
        if I34 o0 13 < wr32 ((I34 o0 15) + 4) then (
          zb (f_X_see fu o0 (I34 o0 13) I34) fun y39 I40 =>
          zw I40 o0 16 (wr32 ((wr32 ((wr32 (10 * (I34 o0 16))) + y39)) - 48)) fun I42 =>
          k36 I42)
        else (
          k36 I34))
def f_X_next0_126 (fu : Nat) (k_189 : IMem → Res) (o0 : Nat) : Nat → IMem → Res
 | 0 => fun _ => none
 | n + 1 => fb_X_next0_126 fu k_189 o0 (f_X_next0_126 fu k_189 o0 n)
def fb_X_next0_76 (fu : Nat) (k_103 : IMem → Res) (o0 : Nat) (R_ : IMem → Res) (I0 : IMem) : Res :=
  zb (f_X_see fu o0 (I0 o0 13) I0) fun y48 I49 =>
    zb (f_X_isLetter fu y48 I49) fun y51 I52 =>
    if y51 = 0 then (
      k_103 I52)
    else (
      zw I52 o0 13 (wr32 ((I52 o0 13) + 1)) fun I54 =>
      R_ I54)
def f_X_next0_76 (fu : Nat) (k_103 : IMem → Res) (o0 : Nat) : Nat → IMem → Res
 | 0 => fun _ => none
 | n + 1 => fb_X_next0_76 fu k_103 o0 (f_X_next0_76 fu k_103 o0 n)
def f_X_next0 (fu : Nat) (o0 : Nat) (I0 : IMem) : Res :=
  f_X_next0_0 fu (fun  (I10 : IMem) =>
      zw I10 o0 15 (I10 o0 13) fun I11 =>
      zb (f_X_see fu o0 (I11 o0 13) I11) fun y12 I13 =>
      if y12 = (-1) then (
        zw I13 o0 14 0 fun I60 =>
        zr 0 I60)
      else (
        zb (f_X_isLetter fu y12 I13) fun y15 I16 =>
        if y15 = 0 then (
          zb (f_X_isDigit fu y12 I16) fun y18 I19 =>
          if y18 = 0 then (
            zw I19 o0 13 (wr32 ((I19 o0 13) + 1)) fun I21 =>
            zj (fun (x24 : Int) (I23 : IMem) =>
                zj (fun (x27 : Int) (I26 : IMem) =>
                    zw I26 o0 14 x27 fun I28 =>
                    zr 0 I28) fun k25 =>
                  if x24 = 0 then (
                    k25 1 I23)
                  else (
                    k25 (wr32 (100 + y12)) I23)) fun k22 =>
              if y12 = 59 then (
                k22 1 I21)
              else (
                if y12 = 43 then (
                  k22 1 I21)
                else (
                  if y12 = 45 then (
                    k22 1 I21)
                  else (
                    if y12 = 42 then (
                      k22 1 I21)
                    else (
                      if y12 = 47 then (
                        k22 1 I21)
                      else (
                        if y12 = 40 then (
                          k22 1 I21)
                        else (
                          if y12 = 41 then (
                            k22 1 I21)
                          else (
                            if y12 = 60 then (
                              k22 1 I21)
                            else (
                              if y12 = 61 then (
                                k22 1 I21)
                              else (
                                if y12 = 62 then (
                                  k22 1 I21)
                                else (
                                  k22 0 I21)))))))))))
          else (
            zw I19 o0 16 0 fun I29 =>
            f_X_next0_126 fu (fun  (I43 : IMem) =>
              zj (fun (x46 : Int) (I45 : IMem) =>
                  zw I45 o0 14 x46 fun I47 =>
                  zr 0 I47) fun k44 =>
                if wr32 ((I43 o0 13) - (I43 o0 15)) < 5 then (
                  k44 2 I43)
                else (
                  k44 1 I43)) o0 fu I29))
        else (
          f_X_next0_76 fu (fun  (I55 : IMem) =>
            zb (f_X_word fu o0 I55) fun y56 I57 =>
            zw I57 o0 14 y56 fun I59 =>
            zr 0 I59) o0 fu I16))) o0 fu I0
def f_X_bad (fu : Nat) (o0 : Nat) (a1 : Int) (I0 : IMem) : Res :=
  zw I0 o0 17 a1 fun I1 =>
    zw I1 o0 18 (I1 o0 15) fun I2 =>
    zr 0 I2
def f_X_need (fu : Nat) (o0 : Nat) (a1 : Int) (I0 : IMem) : Res :=
  if I0 o0 14 = a1 then (
      zb (f_X_next0 fu o0 I0) fun _ I2 =>
      zr 1 I2)
    else (
      zb (f_X_bad fu o0 1 I0) fun y4 I5 =>
      zg (y4 = 0 ∨ y4 = 1) (zr y4 I5))
def f_X_opens (fu : Nat) (o0 : Nat) (I0 : IMem) : Res :=
  if I0 o0 20 = 8 then (
      zb (f_X_bad fu o0 3 I0) fun y5 I6 =>
      zg (y5 = 0 ∨ y5 = 1) (zr y5 I6))
    else (
      zw I0 o0 20 (wr32 ((I0 o0 20) + 1)) fun I1 =>
      zb (f_X_next0 fu o0 I1) fun _ I3 =>
      zr 1 I3)
def f_X_number (fu : Nat) (o0 : Nat) (a1 : Int) (a2 : Int) (I0 : IMem) : Res :=
  if I0 o0 14 = 2 then (
      zb (f_X_isIn fu (I0 o0 16) a1 a2 I0) fun y1 I2 =>
      if y1 = 0 then (
        zb (f_X_bad fu o0 2 I2) fun y7 I8 =>
        zg (y7 = 0 ∨ y7 = 1) (zr y7 I8))
      else (
        zb (f_X_next0 fu o0 I2) fun _ I5 =>
        zr 1 I5))
    else (
      zb (f_X_bad fu o0 1 I0) fun y10 I11 =>
      zg (y10 = 0 ∨ y10 = 1) (zr y10 I11))
def f_X_unit (fu : Nat) (o0 : Nat) (I0 : IMem) : Res :=
  zb (f_X_isIn fu (I0 o0 14) 41 51 I0) fun y1 I2 =>
    zj (fun  (I5 : IMem) =>
        zj (fun (x8 : Int) (I7 : IMem) =>
            zb (f_X_lay fu o0 x8 (I7 o0 16) I7) fun _ I10 =>
            zb (f_X_next0 fu o0 I10) fun _ I13 =>
            zr 1 I13) fun k6 =>
          if y1 = 0 then (
            k6 0 I5)
          else (
            k6 (wr32 ((I5 o0 14) - 40)) I5)) fun k4 =>
      if I2 o0 14 = 2 then (
        k4 I2)
      else (
        if y1 = 0 then (
          zb (f_X_bad fu o0 1 I2) fun y15 I16 =>
          zg (y15 = 0 ∨ y15 = 1) (zr y15 I16))
        else (
          k4 I2))
def fb_X_product_9 (fu : Nat) (o0 : Nat) (R_ : IMem → Res) (I0 : IMem) : Res :=
  zj (fun  (I5 : IMem) =>
        zj (fun (x8 : Int) (I7 : IMem) =>
            zb (f_X_next0 fu o0 I7) fun _ I10 =>
            if x8 = 0 then (
              zb (f_X_unit fu o0 I10) fun y12 I13 =>
              if y12 = 0 then (
                zr 0 I13)
              else (
                zb (f_X_lay fu o0 14 0 I13) fun _ I16 =>
                R_ I16))
            else (
              zl (I10 o0 16) fun x18 =>
              zb (f_X_number fu o0 1 9999 I10) fun y19 I20 =>
              if y19 = 0 then (
                zr 0 I20)
              else (
                zb (f_X_lay fu o0 15 x18 I20) fun _ I23 =>
                R_ I23))) fun k6 =>
          if I5 o0 14 = 147 then (
            k6 1 I5)
          else (
            k6 0 I5)) fun k4 =>
      if I0 o0 14 = 142 then (
        k4 I0)
      else (
        if I0 o0 14 = 147 then (
          k4 I0)
        else (
          zr 1 I0))
def f_X_product_9 (fu : Nat) (o0 : Nat) : Nat → IMem → Res
 | 0 => fun _ => none
 | n + 1 => fb_X_product_9 fu o0 (f_X_product_9 fu o0 n)
def f_X_product (fu : Nat) (o0 : Nat) (I0 : IMem) : Res :=
  zb (f_X_unit fu o0 I0) fun y1 I2 =>
    if y1 = 0 then (
      zr 0 I2)
    else (
      f_X_product_9 fu  o0 fu I2)
def fb_X_sumUp_9 (fu : Nat) (o0 : Nat) (R_ : IMem → Res) (I0 : IMem) : Res :=
  zj (fun  (I5 : IMem) =>
        zj (fun (x8 : Int) (I7 : IMem) =>
            zb (f_X_next0 fu o0 I7) fun _ I10 =>
            zb (f_X_product fu o0 I10) fun y12 I13 =>
            if y12 = 0 then (
              zr 0 I13)
            else (
              zb (f_X_lay fu o0 x8 0 I13) fun _ I16 =>
              R_ I16)) fun k6 =>
          if I5 o0 14 = 143 then (
            k6 12 I5)
          else (
            k6 13 I5)) fun k4 =>
      if I0 o0 14 = 143 then (
        k4 I0)
      else (
        if I0 o0 14 = 145 then (
          k4 I0)
        else (
          zr 1 I0))
def f_X_sumUp_9 (fu : Nat) (o0 : Nat) : Nat → IMem → Res
 | 0 => fun _ => none
 | n + 1 => fb_X_sumUp_9 fu o0 (f_X_sumUp_9 fu o0 n)
def f_X_sumUp (fu : Nat) (o0 : Nat) (I0 : IMem) : Res :=
  zb (f_X_product fu o0 I0) fun y1 I2 =>
    if y1 = 0 then (
      zr 0 I2)
    else (
      f_X_sumUp_9 fu  o0 fu I2)
section
variable {l : Launch} {b : PB}
set_option maxRecDepth 20000 in
theorem t_X_state (fu : Nat) (o0 : Nat) (a1 : Int) (I0 : IMem) (hI : RG I0) (h_o0 : KM[o0]? = some (12, 51)) (h_a1 : inr a1) {r : Int × IMem} (hf : f_X_state fu o0 a1 I0 = some r) : Ss l b 1 y_X_state KM RM [.ref o0, .int (iv a1)] (ivm I0) (Ps r) := by
  unfold f_X_state at hf
  refine Ss.of (show Ai l b 1 y_X_state KM RM (Ps r) I0 0 [.ref o0, .int (iv a1), uu] [] from ?_)
  refine aw_aload_n rfl rfl d_X_state_0 (aw_getr (r := o0 + 1) fl_X_7 h_o0 (by decide) rfl (rm_9_0 _ h_o0).1 d_X_state_1 (aw_iconst (v := iv 0) rfl d_X_state_4 (ai_ialdc (j := 0) (rm_9_0 _ h_o0).2 (by decide) (by decide) d_X_state_5 ?_)))
  refine ai_name hf (hI (o0 + 1) 0) (fun x1 h_x1 hf => ?_)
  refine aw_istore_n (lv2 := [.ref o0, .int (iv a1), .int (iv x1)]) rfl (Nat.le_of_ble_eq_true rfl) rfl d_X_state_6 ?_
  refine aw_aload_n rfl rfl d_X_state_7 (aw_getr (r := o0 + 1) fl_X_7 h_o0 (by decide) rfl (rm_9_0 _ h_o0).1 d_X_state_8 (aw_iconst (v := iv 0) rfl d_X_state_11 (aw_iload_n rfl rfl d_X_state_12 ?_)))
  refine ai_iastc (j := 0) (rm_9_0 _ h_o0).2 (by decide) (by decide) h_a1 hI hf d_X_state_13 (fun I2 h_I2 hf => ?_)
  refine aw_iload_n rfl rfl d_X_state_14 ?_
  exact ai_reti rfl d_X_state_15 hf h_x1 h_I2
set_option maxRecDepth 20000 in
theorem t_X_forgets_2 (fu : Nat) {r : Int × IMem} (k_22 : IMem → Res) (o0 : Nat) (h_o0 : KM[o0]? = some (12, 51)) (hk_22 : ∀ (I9 : IMem), RG I9 → k_22 I9 = some r → Ai l b 1 y_X_forgets KM RM (Pv r) I9 22 [.ref o0, uu] []) : ∀ (m : Nat) (w1 : Int) (I0 : IMem), inr w1 → RG I0 → f_X_forgets_2 fu k_22 o0 m w1 I0 = some r → Ai l b 1 y_X_forgets KM RM (Pv r) I0 2 [.ref o0, .int (iv w1)] [] := by
  intro m
  induction m with
  | zero => intro w1 I0 h_w1 h_I0 hf; cases hf
  | succ m ih =>
    intro w1 I0 h_w1 h_I0 hf
    replace hf : fb_X_forgets_2 fu k_22 o0 (f_X_forgets_2 fu k_22 o0 m) w1 I0 = some r := hf
    unfold fb_X_forgets_2 at hf
    refine aw_iload_n rfl rfl d_X_forgets_2 (aw_sipush (v := iv 240) cs_240 d_X_forgets_3 ?_)
    refine ai_icmp_ge h_w1 in_240 hf (tgt := 22) (by decide) d_X_forgets_6 (fun hf => ?_) (fun hf => ?_)
    · refine aw_weakB (lv2 := [.ref o0, uu]) (wk_s (wk_u wk_n)) ?_
      exact hk_22 I0 h_I0 hf
    · refine aw_aload_n rfl rfl d_X_forgets_9 (aw_getr (r := o0 + 13) fl_X_57 h_o0 (by decide) rfl (rm_9_29 _ h_o0).1 d_X_forgets_10 (aw_iload_n rfl rfl d_X_forgets_13 (aw_iconst (v := iv 0) rfl d_X_forgets_14 ?_)))
      refine ai_zast (Or.inl rfl) (rm_9_29 _ h_o0).2 rfl h_w1 in_0 h_I0 hf d_X_forgets_15 (fun _ I1 h_I1 hf => ?_)
      refine ai_iinc (n := 1) (lv2 := fun x2 => [.ref o0, .int (iv x2)]) hf rfl (Nat.le_of_ble_eq_true rfl) (fun _ => rfl) d_X_forgets_16 (fun x2 h_x2 hf => ?_)
      refine aw_goto (tgt := 2) (by decide) d_X_forgets_19 ?_
      exact ih x2 I1 h_x2 h_I1 hf
set_option maxRecDepth 20000 in
theorem t_X_forgets (fu : Nat) (o0 : Nat) (I0 : IMem) (hI : RG I0) (h_o0 : KM[o0]? = some (12, 51)) {r : Int × IMem} (hf : f_X_forgets fu o0 I0 = some r) : Ss l b 1 y_X_forgets KM RM [.ref o0] (ivm I0) (Pv r) := by
  unfold f_X_forgets at hf
  refine Ss.of (show Ai l b 1 y_X_forgets KM RM (Pv r) I0 0 [.ref o0, uu] [] from ?_)
  refine aw_iconst (v := iv 0) rfl d_X_forgets_0 (aw_istore_n (lv2 := [.ref o0, .int (iv 0)]) rfl (Nat.le_of_ble_eq_true rfl) rfl d_X_forgets_1 ?_)
  refine t_X_forgets_2 fu _ o0 h_o0 ?_ fu 0 I0 in_0 hI hf
  · intro I3 h_I3 hf
    refine aw_aload_n rfl rfl d_X_forgets_22 (aw_iconst (v := iv 0) rfl d_X_forgets_23 ?_)
    refine ai_puti hf h_I3 in_0 fl_X_344 h_o0 (by decide) rfl rfl rfl rfl d_X_forgets_24 (fun I4 h_I4 hf => ?_)
    exact ai_retv rfl d_X_forgets_27 hf h_I4
set_option maxRecDepth 20000 in
theorem t_X_isIn (fu : Nat) (a0 : Int) (a1 : Int) (a2 : Int) (I0 : IMem) (hI : RG I0) (h_a0 : inr a0) (h_a1 : inr a1) (h_a2 : inr a2) {r : Int × IMem} (hf : f_X_isIn fu a0 a1 a2 I0 = some r) : Ss l b 1 y_X_isIn KM RM [.int (iv a0), .int (iv a1), .int (iv a2)] (ivm I0) (Ps r) := by
  unfold f_X_isIn at hf
  refine Ss.of (show Ai l b 1 y_X_isIn KM RM (Ps r) I0 0 [.int (iv a0), .int (iv a1), .int (iv a2)] [] from ?_)
  refine aw_iload_n rfl rfl d_X_isIn_0 (aw_iload_n rfl rfl d_X_isIn_1 ?_)
  refine ai_icmp_lt h_a0 h_a1 hf (tgt := 14) (by decide) d_X_isIn_2 (fun hf => ?_) (fun hf => ?_)
  · refine aw_iconst (v := iv 0) rfl d_X_isIn_14 ?_
    exact ai_retn rfl (nar_z (Or.inl rfl)) d_X_isIn_15 hf in_0 hI
  · refine aw_iload_n rfl rfl d_X_isIn_5 (aw_iload_n rfl rfl d_X_isIn_6 ?_)
    refine ai_icmp_gt h_a0 h_a2 hf (tgt := 14) (by decide) d_X_isIn_7 (fun hf => ?_) (fun hf => ?_)
    · refine aw_iconst (v := iv 0) rfl d_X_isIn_14 ?_
      exact ai_retn rfl (nar_z (Or.inl rfl)) d_X_isIn_15 hf in_0 hI
    · refine aw_iconst (v := iv 1) rfl d_X_isIn_10 (aw_goto (tgt := 15) (by decide) d_X_isIn_11 ?_)
      exact ai_retn rfl (nar_z (Or.inr rfl)) d_X_isIn_15 hf in_1 hI
set_option maxRecDepth 20000 in
theorem t_X_set (fu : Nat) (o0 : Nat) (a1 : Int) (a2 : Int) (I0 : IMem) (hI : RG I0) (h_o0 : KM[o0]? = some (12, 51)) (h_a1 : inr a1) (h_a2 : inr a2) {r : Int × IMem} (hf : f_X_set fu o0 a1 a2 I0 = some r) : Ss l b 2 y_X_set KM RM [.ref o0, .int (iv a1), .int (iv a2)] (ivm I0) (Ps r) := by
  unfold f_X_set at hf
  refine Ss.of (show Ai l b 2 y_X_set KM RM (Ps r) I0 0 [.ref o0, .int (iv a1), .int (iv a2), uu] [] from ?_)
  refine aw_iload_n rfl rfl d_X_set_0 ?_
  obtain ⟨k1, ek1, hf⟩ := of_zj hf
  have hk1 : ∀ (x3 : Int) (I2 : IMem), inr x3 → RG I2 → k1 x3 I2 = some r → Ai l b 2 y_X_set KM RM (Ps r) I2 95 [.ref o0, .int (iv a1), .int (iv a2), uu] [.int (iv x3)] := by
    intro x3 I2 h_x3 h_I2 hf
    subst ek1
    refine aw_istore_n (lv2 := [.ref o0, .int (iv a1), .int (iv a2), .int (iv x3)]) rfl (Nat.le_of_ble_eq_true rfl) rfl d_X_set_95 (aw_iload_n rfl rfl d_X_set_96 ?_)
    refine ai_if_ne h_x3 hf (tgt := 102) (by decide) d_X_set_97 (fun hf => ?_) (fun hf => ?_)
    · refine aw_aload_n rfl rfl d_X_set_102 (aw_getr (r := o0 + 1) fl_X_7 h_o0 (by decide) rfl (rm_9_0 _ h_o0).1 d_X_set_103 (aw_iconst (v := iv 1) rfl d_X_set_106 (aw_iload_n rfl rfl d_X_set_107 (ai_iadd d_X_set_108 (aw_iload_n rfl rfl d_X_set_109 ?_)))))
      refine ai_nameU hf (wr32_in _) (fun x5 h_x5 hf => ?_)
      refine ai_iast (rm_9_0 _ h_o0).2 rfl h_x5 h_a2 h_I2 hf d_X_set_110 (fun _ I4 h_I4 hf => ?_)
      refine aw_iload_n rfl rfl d_X_set_111 ?_
      refine ai_if_ne h_a1 hf (tgt := 119) (by decide) d_X_set_112 (fun hf => ?_) (fun hf => ?_)
      · refine aw_iconst (v := iv 1) rfl d_X_set_119 ?_
        exact ai_retn rfl (nar_z (Or.inr rfl)) d_X_set_120 hf in_1 h_I4
      · refine aw_aload_n rfl rfl d_X_set_115 ?_
        obtain ⟨y6, I7, c8, hf⟩ := of_zb hf
        refine ai_callVv (as := []) (d' := 1) (q := ("SinglesUpModel", zT9, 51)) mo_X_forgets lk_X_102 h_o0 rfl rfl rfl ⟨by decide, by decide⟩ rfl rfl (by decide) d_X_set_116 (t_X_forgets fu o0 I4 h_I4 h_o0 c8) (fun h_I7 => ?_)
        refine aw_iconst (v := iv 1) rfl d_X_set_119 ?_
        exact ai_retn rfl (nar_z (Or.inr rfl)) d_X_set_120 hf in_1 h_I7
    · refine aw_iconst (v := iv 0) rfl d_X_set_100 ?_
      exact ai_retn rfl (nar_z (Or.inl rfl)) d_X_set_101 hf in_0 h_I2
  refine ai_if_ne h_a1 hf (tgt := 14) (by decide) d_X_set_1 (fun hf => ?_) (fun hf => ?_)
  · refine aw_iload_n rfl rfl d_X_set_14 (aw_iconst (v := iv 1) rfl d_X_set_15 ?_)
    refine ai_icmp_ne h_a1 in_1 hf (tgt := 29) (by decide) d_X_set_16 (fun hf => ?_) (fun hf => ?_)
    · refine aw_iload_n rfl rfl d_X_set_29 (aw_iconst (v := iv 2) rfl d_X_set_30 ?_)
      refine ai_icmp_ne h_a1 in_2 hf (tgt := 45) (by decide) d_X_set_31 (fun hf => ?_) (fun hf => ?_)
      · refine aw_iload_n rfl rfl d_X_set_45 (aw_iconst (v := iv 3) rfl d_X_set_46 ?_)
        refine ai_icmp_ne h_a1 in_3 hf (tgt := 61) (by decide) d_X_set_47 (fun hf => ?_) (fun hf => ?_)
        · refine aw_iload_n rfl rfl d_X_set_61 (aw_iconst (v := iv 4) rfl d_X_set_62 ?_)
          refine ai_icmp_ne h_a1 in_4 hf (tgt := 76) (by decide) d_X_set_63 (fun hf => ?_) (fun hf => ?_)
          · refine aw_iload_n rfl rfl d_X_set_76 (aw_iconst (v := iv 5) rfl d_X_set_77 ?_)
            refine ai_icmp_ne h_a1 in_5 hf (tgt := 94) (by decide) d_X_set_78 (fun hf => ?_) (fun hf => ?_)
            · refine aw_iconst (v := iv 0) rfl d_X_set_94 ?_
              exact hk1 0 I0 in_0 hI hf
            · refine aw_iload_n rfl rfl d_X_set_81 (aw_iconst (v := iv 0) rfl d_X_set_82 (aw_iconst (v := iv 3) rfl d_X_set_83 ?_))
              obtain ⟨y9, I10, c11, hf⟩ := of_zb hf
              refine ai_callS (as := [.int (iv a2), .int (iv 0), .int (iv 3)]) (d' := 1) mo_X_isIn lk_X_98 rfl ⟨by decide, by decide⟩ rfl rfl (by decide) d_X_set_84 (t_X_isIn fu a2 0 3 I0 hI h_a2 in_0 in_3 c11) (fun h_y9 h_I10 => ?_)
              refine ai_if_eq h_y9 hf (tgt := 94) (by decide) d_X_set_87 (fun hf => ?_) (fun hf => ?_)
              · refine aw_iconst (v := iv 0) rfl d_X_set_94 ?_
                exact hk1 0 I10 in_0 h_I10 hf
              · refine aw_iconst (v := iv 1) rfl d_X_set_90 (aw_goto (tgt := 95) (by decide) d_X_set_91 ?_)
                exact hk1 1 I10 in_1 h_I10 hf
          · refine aw_iload_n rfl rfl d_X_set_66 (aw_iconst (v := iv 0) rfl d_X_set_67 (aw_bipush (v := iv 99) cb_99 d_X_set_68 ?_))
            obtain ⟨y12, I13, c14, hf⟩ := of_zb hf
            refine ai_callS (as := [.int (iv a2), .int (iv 0), .int (iv 99)]) (d' := 1) mo_X_isIn lk_X_98 rfl ⟨by decide, by decide⟩ rfl rfl (by decide) d_X_set_70 (t_X_isIn fu a2 0 99 I0 hI h_a2 in_0 in_99 c14) (fun h_y12 h_I13 => ?_)
            refine aw_goto (tgt := 95) (by decide) d_X_set_73 ?_
            exact hk1 y12 I13 h_y12 h_I13 hf
        · refine aw_iload_n rfl rfl d_X_set_50 (aw_iconst (v := iv 0) rfl d_X_set_51 (aw_sipush (v := iv 1000) cs_1000 d_X_set_52 ?_))
          obtain ⟨y15, I16, c17, hf⟩ := of_zb hf
          refine ai_callS (as := [.int (iv a2), .int (iv 0), .int (iv 1000)]) (d' := 1) mo_X_isIn lk_X_98 rfl ⟨by decide, by decide⟩ rfl rfl (by decide) d_X_set_55 (t_X_isIn fu a2 0 1000 I0 hI h_a2 in_0 in_1000 c17) (fun h_y15 h_I16 => ?_)
          refine aw_goto (tgt := 95) (by decide) d_X_set_58 ?_
          exact hk1 y15 I16 h_y15 h_I16 hf
      · refine aw_iload_n rfl rfl d_X_set_34 (aw_iconst (v := iv 0) rfl d_X_set_35 (aw_sipush (v := iv 999) cs_999 d_X_set_36 ?_))
        obtain ⟨y18, I19, c20, hf⟩ := of_zb hf
        refine ai_callS (as := [.int (iv a2), .int (iv 0), .int (iv 999)]) (d' := 1) mo_X_isIn lk_X_98 rfl ⟨by decide, by decide⟩ rfl rfl (by decide) d_X_set_39 (t_X_isIn fu a2 0 999 I0 hI h_a2 in_0 in_999 c20) (fun h_y18 h_I19 => ?_)
        refine aw_goto (tgt := 95) (by decide) d_X_set_42 ?_
        exact hk1 y18 I19 h_y18 h_I19 hf
    · refine aw_iload_n rfl rfl d_X_set_19 (aw_iconst (v := iv 1) rfl d_X_set_20 (aw_bipush (v := iv 99) cb_99 d_X_set_21 ?_))
      obtain ⟨y21, I22, c23, hf⟩ := of_zb hf
      refine ai_callS (as := [.int (iv a2), .int (iv 1), .int (iv 99)]) (d' := 1) mo_X_isIn lk_X_98 rfl ⟨by decide, by decide⟩ rfl rfl (by decide) d_X_set_23 (t_X_isIn fu a2 1 99 I0 hI h_a2 in_1 in_99 c23) (fun h_y21 h_I22 => ?_)
      refine aw_goto (tgt := 95) (by decide) d_X_set_26 ?_
      exact hk1 y21 I22 h_y21 h_I22 hf
  · refine aw_iload_n rfl rfl d_X_set_4 (aw_iconst (v := iv 2) rfl d_X_set_5 (aw_bipush (v := iv 8) cb_8 d_X_set_6 ?_))
    obtain ⟨y24, I25, c26, hf⟩ := of_zb hf
    refine ai_callS (as := [.int (iv a2), .int (iv 2), .int (iv 8)]) (d' := 1) mo_X_isIn lk_X_98 rfl ⟨by decide, by decide⟩ rfl rfl (by decide) d_X_set_8 (t_X_isIn fu a2 2 8 I0 hI h_a2 in_2 in_8 c26) (fun h_y24 h_I25 => ?_)
    refine aw_goto (tgt := 95) (by decide) d_X_set_11 ?_
    exact hk1 y24 I25 h_y24 h_I25 hf
set_option maxRecDepth 20000 in
theorem t_X_isLine (fu : Nat) (a0 : Int) (I0 : IMem) (hI : RG I0) (h_a0 : inr a0) {r : Int × IMem} (hf : f_X_isLine fu a0 I0 = some r) : Ss l b 2 y_X_isLine KM RM [.int (iv a0)] (ivm I0) (Ps r) := by
  unfold f_X_isLine at hf
  refine Ss.of (show Ai l b 2 y_X_isLine KM RM (Ps r) I0 0 [.int (iv a0)] [] from ?_)
  refine aw_iload_n rfl rfl d_X_isLine_0 (aw_iconst (v := iv 0) rfl d_X_isLine_1 (aw_iconst (v := iv 5) rfl d_X_isLine_2 ?_))
  obtain ⟨y1, I2, c3, hf⟩ := of_zb hf
  refine ai_callS (as := [.int (iv a0), .int (iv 0), .int (iv 5)]) (d' := 1) mo_X_isIn lk_X_98 rfl ⟨by decide, by decide⟩ rfl rfl (by decide) d_X_isLine_3 (t_X_isIn fu a0 0 5 I0 hI h_a0 in_0 in_5 c3) (fun h_y1 h_I2 => ?_)
  obtain ⟨g, hf⟩ := of_zg hf
  exact ai_retn rfl (nar_z g) d_X_isLine_6 hf h_y1 h_I2
set_option maxRecDepth 20000 in
theorem t_X_seen (fu : Nat) (o0 : Nat) (a1 : Int) (a2 : Int) (I0 : IMem) (hI : RG I0) (h_o0 : KM[o0]? = some (12, 51)) (h_a1 : inr a1) (h_a2 : inr a2) {r : Int × IMem} (hf : f_X_seen fu o0 a1 a2 I0 = some r) : Ss l b 3 y_X_seen KM RM [.ref o0, .int (iv a1), .int (iv a2)] (ivm I0) (Ps r) := by
  unfold f_X_seen at hf
  refine Ss.of (show Ai l b 3 y_X_seen KM RM (Ps r) I0 0 [.ref o0, .int (iv a1), .int (iv a2)] [] from ?_)
  refine aw_iload_n rfl rfl d_X_seen_0 ?_
  obtain ⟨y1, I2, c3, hf⟩ := of_zb hf
  refine ai_callS (as := [.int (iv a1)]) (d' := 2) mo_X_isLine lk_X_105 rfl ⟨by decide, by decide⟩ rfl rfl (by decide) d_X_seen_1 (t_X_isLine fu a1 I0 hI h_a1 c3) (fun h_y1 h_I2 => ?_)
  refine ai_if_eq h_y1 hf (tgt := 17) (by decide) d_X_seen_4 (fun hf => ?_) (fun hf => ?_)
  · refine aw_iconst (v := iv 0) rfl d_X_seen_17 ?_
    exact ai_retn rfl (nar_z (Or.inl rfl)) d_X_seen_18 hf in_0 h_I2
  · refine aw_iload_n rfl rfl d_X_seen_7 (aw_iconst (v := iv 1) rfl d_X_seen_8 (aw_bipush (v := iv 24) cb_24 d_X_seen_9 ?_))
    obtain ⟨y4, I5, c6, hf⟩ := of_zb hf
    refine ai_callS (as := [.int (iv a2), .int (iv 1), .int (iv 24)]) (d' := 1) mo_X_isIn lk_X_98 rfl ⟨by decide, by decide⟩ rfl rfl (by decide) d_X_seen_11 (t_X_isIn fu a2 1 24 I2 h_I2 h_a2 in_1 in_24 c6) (fun h_y4 h_I5 => ?_)
    refine ai_if_ne h_y4 hf (tgt := 19) (by decide) d_X_seen_14 (fun hf => ?_) (fun hf => ?_)
    · refine aw_aload_n rfl rfl d_X_seen_19 (aw_getr (r := o0 + 1) fl_X_7 h_o0 (by decide) rfl (rm_9_0 _ h_o0).1 d_X_seen_20 (aw_bipush (v := iv 10) cb_10 d_X_seen_23 (aw_iload_n rfl rfl d_X_seen_25 (ai_iadd d_X_seen_26 (aw_iload_n rfl rfl d_X_seen_27 ?_)))))
      refine ai_nameU hf (wr32_in _) (fun x8 h_x8 hf => ?_)
      refine ai_iast (rm_9_0 _ h_o0).2 rfl h_x8 h_a2 h_I5 hf d_X_seen_28 (fun _ I7 h_I7 hf => ?_)
      refine aw_iconst (v := iv 1) rfl d_X_seen_29 ?_
      exact ai_retn rfl (nar_z (Or.inr rfl)) d_X_seen_30 hf in_1 h_I7
    · refine aw_iconst (v := iv 0) rfl d_X_seen_17 ?_
      exact ai_retn rfl (nar_z (Or.inl rfl)) d_X_seen_18 hf in_0 h_I5
set_option maxRecDepth 20000 in
theorem t_X_parts (fu : Nat) (o0 : Nat) (a1 : Int) (a2 : Int) (I0 : IMem) (hI : RG I0) (h_o0 : KM[o0]? = some (12, 51)) (h_a1 : inr a1) (h_a2 : inr a2) {r : Int × IMem} (hf : f_X_parts fu o0 a1 a2 I0 = some r) : Ss l b 2 y_X_parts KM RM [.ref o0, .int (iv a1), .int (iv a2)] (ivm I0) (Ps r) := by
  unfold f_X_parts at hf
  refine Ss.of (show Ai l b 2 y_X_parts KM RM (Ps r) I0 0 [.ref o0, .int (iv a1), .int (iv a2)] [] from ?_)
  refine aw_iload_n rfl rfl d_X_parts_0 (aw_iconst (v := iv 2) rfl d_X_parts_1 (aw_bipush (v := iv 8) cb_8 d_X_parts_2 ?_))
  obtain ⟨y1, I2, c3, hf⟩ := of_zb hf
  refine ai_callS (as := [.int (iv a1), .int (iv 2), .int (iv 8)]) (d' := 1) mo_X_isIn lk_X_98 rfl ⟨by decide, by decide⟩ rfl rfl (by decide) d_X_parts_4 (t_X_isIn fu a1 2 8 I0 hI h_a1 in_2 in_8 c3) (fun h_y1 h_I2 => ?_)
  refine ai_if_eq h_y1 hf (tgt := 21) (by decide) d_X_parts_7 (fun hf => ?_) (fun hf => ?_)
  · refine aw_iconst (v := iv 0) rfl d_X_parts_21 ?_
    exact ai_retn rfl (nar_z (Or.inl rfl)) d_X_parts_22 hf in_0 h_I2
  · refine aw_iload_n rfl rfl d_X_parts_10 (aw_iconst (v := iv 0) rfl d_X_parts_11 (aw_iload_n rfl rfl d_X_parts_12 (aw_iconst (v := iv 1) rfl d_X_parts_13 (ai_isub d_X_parts_14 ?_))))
    obtain ⟨y4, I5, c6, hf⟩ := of_zb hf
    refine ai_callS (as := [.int (iv a2), .int (iv 0), .int (iv (wr32 (a1 - 1)))]) (d' := 1) mo_X_isIn lk_X_98 rfl ⟨by decide, by decide⟩ rfl rfl (by decide) d_X_parts_15 (t_X_isIn fu a2 0 (wr32 (a1 - 1)) I2 h_I2 h_a2 in_0 (wr32_in _) c6) (fun h_y4 h_I5 => ?_)
    refine ai_if_ne h_y4 hf (tgt := 23) (by decide) d_X_parts_18 (fun hf => ?_) (fun hf => ?_)
    · refine aw_aload_n rfl rfl d_X_parts_23 (aw_getr (r := o0 + 1) fl_X_7 h_o0 (by decide) rfl (rm_9_0 _ h_o0).1 d_X_parts_24 (aw_bipush (v := iv 16) cb_16 d_X_parts_27 (aw_iload_n rfl rfl d_X_parts_29 (ai_iadd d_X_parts_30 (aw_iload_n rfl rfl d_X_parts_31 ?_)))))
      refine ai_nameU hf (wr32_in _) (fun x8 h_x8 hf => ?_)
      refine ai_iast (rm_9_0 _ h_o0).2 rfl h_x8 h_a2 h_I5 hf d_X_parts_32 (fun _ I7 h_I7 hf => ?_)
      refine aw_iconst (v := iv 1) rfl d_X_parts_33 ?_
      exact ai_retn rfl (nar_z (Or.inr rfl)) d_X_parts_34 hf in_1 h_I7
    · refine aw_iconst (v := iv 0) rfl d_X_parts_21 ?_
      exact ai_retn rfl (nar_z (Or.inl rfl)) d_X_parts_22 hf in_0 h_I5
set_option maxRecDepth 20000 in
theorem t_X_isGroup (fu : Nat) (a0 : Int) (a1 : Int) (a2 : Int) (I0 : IMem) (hI : RG I0) (h_a0 : inr a0) (h_a1 : inr a1) (h_a2 : inr a2) {r : Int × IMem} (hf : f_X_isGroup fu a0 a1 a2 I0 = some r) : Ss l b 2 y_X_isGroup KM RM [.int (iv a0), .int (iv a1), .int (iv a2)] (ivm I0) (Ps r) := by
  unfold f_X_isGroup at hf
  refine Ss.of (show Ai l b 2 y_X_isGroup KM RM (Ps r) I0 0 [.int (iv a0), .int (iv a1), .int (iv a2)] [] from ?_)
  refine aw_iload_n rfl rfl d_X_isGroup_0 (aw_iconst (v := iv 1) rfl d_X_isGroup_1 (aw_bipush (v := iv 8) cb_8 d_X_isGroup_2 ?_))
  obtain ⟨y1, I2, c3, hf⟩ := of_zb hf
  refine ai_callS (as := [.int (iv a0), .int (iv 1), .int (iv 8)]) (d' := 1) mo_X_isIn lk_X_98 rfl ⟨by decide, by decide⟩ rfl rfl (by decide) d_X_isGroup_4 (t_X_isIn fu a0 1 8 I0 hI h_a0 in_1 in_8 c3) (fun h_y1 h_I2 => ?_)
  refine ai_if_eq h_y1 hf (tgt := 32) (by decide) d_X_isGroup_7 (fun hf => ?_) (fun hf => ?_)
  · refine aw_iconst (v := iv 0) rfl d_X_isGroup_32 ?_
    exact ai_retn rfl (nar_z (Or.inl rfl)) d_X_isGroup_33 hf in_0 h_I2
  · refine aw_iload_n rfl rfl d_X_isGroup_10 (aw_iconst (v := iv 1) rfl d_X_isGroup_11 (aw_iload_n rfl rfl d_X_isGroup_12 ?_))
    obtain ⟨y4, I5, c6, hf⟩ := of_zb hf
    refine ai_callS (as := [.int (iv a1), .int (iv 1), .int (iv a0)]) (d' := 1) mo_X_isIn lk_X_98 rfl ⟨by decide, by decide⟩ rfl rfl (by decide) d_X_isGroup_13 (t_X_isIn fu a1 1 a0 I2 h_I2 h_a1 in_1 h_a0 c6) (fun h_y4 h_I5 => ?_)
    refine ai_if_eq h_y4 hf (tgt := 32) (by decide) d_X_isGroup_16 (fun hf => ?_) (fun hf => ?_)
    · refine aw_iconst (v := iv 0) rfl d_X_isGroup_32 ?_
      exact ai_retn rfl (nar_z (Or.inl rfl)) d_X_isGroup_33 hf in_0 h_I5
    · refine aw_iload_n rfl rfl d_X_isGroup_19 (aw_iconst (v := iv 0) rfl d_X_isGroup_20 (aw_iconst (v := iv 3) rfl d_X_isGroup_21 ?_))
      obtain ⟨y7, I8, c9, hf⟩ := of_zb hf
      refine ai_callS (as := [.int (iv a2), .int (iv 0), .int (iv 3)]) (d' := 1) mo_X_isIn lk_X_98 rfl ⟨by decide, by decide⟩ rfl rfl (by decide) d_X_isGroup_22 (t_X_isIn fu a2 0 3 I5 h_I5 h_a2 in_0 in_3 c9) (fun h_y7 h_I8 => ?_)
      refine ai_if_eq h_y7 hf (tgt := 32) (by decide) d_X_isGroup_25 (fun hf => ?_) (fun hf => ?_)
      · refine aw_iconst (v := iv 0) rfl d_X_isGroup_32 ?_
        exact ai_retn rfl (nar_z (Or.inl rfl)) d_X_isGroup_33 hf in_0 h_I8
      · refine aw_iconst (v := iv 1) rfl d_X_isGroup_28 (aw_goto (tgt := 33) (by decide) d_X_isGroup_29 ?_)
        exact ai_retn rfl (nar_z (Or.inr rfl)) d_X_isGroup_33 hf in_1 h_I8
set_option maxRecDepth 20000 in
theorem t_X_comer (fu : Nat) (o0 : Nat) (a1 : Int) (a2 : Int) (a3 : Int) (a4 : Int) (a5 : Int) (I0 : IMem) (hI : RG I0) (h_o0 : KM[o0]? = some (12, 51)) (h_a1 : inr a1) (h_a2 : inr a2) (h_a3 : inr a3) (h_a4 : inr a4) (h_a5 : inr a5) {r : Int × IMem} (hf : f_X_comer fu o0 a1 a2 a3 a4 a5 I0 = some r) : Ss l b 3 y_X_comer KM RM [.ref o0, .int (iv a1), .int (iv a2), .int (iv a3), .int (iv a4), .int (iv a5)] (ivm I0) (Ps r) := by
  unfold f_X_comer at hf
  refine Ss.of (show Ai l b 3 y_X_comer KM RM (Ps r) I0 0 [.ref o0, .int (iv a1), .int (iv a2), .int (iv a3), .int (iv a4), .int (iv a5)] [] from ?_)
  refine aw_iload_n rfl rfl d_X_comer_0 (aw_iconst (v := iv 0) rfl d_X_comer_1 (aw_bipush (v := iv 7) cb_7 d_X_comer_2 ?_))
  obtain ⟨y1, I2, c3, hf⟩ := of_zb hf
  refine ai_callS (as := [.int (iv a1), .int (iv 0), .int (iv 7)]) (d' := 1) mo_X_isIn lk_X_98 rfl ⟨by decide, by decide⟩ rfl rfl (by decide) d_X_comer_4 (t_X_isIn fu a1 0 7 I0 hI h_a1 in_0 in_7 c3) (fun h_y1 h_I2 => ?_)
  refine ai_if_eq h_y1 hf (tgt := 32) (by decide) d_X_comer_7 (fun hf => ?_) (fun hf => ?_)
  · refine aw_iconst (v := iv 0) rfl d_X_comer_32 ?_
    exact ai_retn rfl (nar_z (Or.inl rfl)) d_X_comer_33 hf in_0 h_I2
  · refine aw_iload_n rfl rfl d_X_comer_10 (aw_iload_n rfl rfl d_X_comer_11 (aw_iload rfl d_X_comer_12 ?_))
    obtain ⟨y4, I5, c6, hf⟩ := of_zb hf
    refine ai_callS (as := [.int (iv a2), .int (iv a3), .int (iv a4)]) (d' := 2) mo_X_isGroup lk_X_109 rfl ⟨by decide, by decide⟩ rfl rfl (by decide) d_X_comer_14 (t_X_isGroup fu a2 a3 a4 I2 h_I2 h_a2 h_a3 h_a4 c6) (fun h_y4 h_I5 => ?_)
    refine ai_if_eq h_y4 hf (tgt := 32) (by decide) d_X_comer_17 (fun hf => ?_) (fun hf => ?_)
    · refine aw_iconst (v := iv 0) rfl d_X_comer_32 ?_
      exact ai_retn rfl (nar_z (Or.inl rfl)) d_X_comer_33 hf in_0 h_I5
    · refine aw_iload rfl d_X_comer_20 (aw_iconst (v := iv 0) rfl d_X_comer_22 (aw_sipush (v := iv 1000) cs_1000 d_X_comer_23 ?_))
      obtain ⟨y7, I8, c9, hf⟩ := of_zb hf
      refine ai_callS (as := [.int (iv a5), .int (iv 0), .int (iv 1000)]) (d' := 1) mo_X_isIn lk_X_98 rfl ⟨by decide, by decide⟩ rfl rfl (by decide) d_X_comer_26 (t_X_isIn fu a5 0 1000 I5 h_I5 h_a5 in_0 in_1000 c9) (fun h_y7 h_I8 => ?_)
      refine ai_if_ne h_y7 hf (tgt := 34) (by decide) d_X_comer_29 (fun hf => ?_) (fun hf => ?_)
      · refine aw_aload_n rfl rfl d_X_comer_34 (aw_getr (r := o0 + 1) fl_X_7 h_o0 (by decide) rfl (rm_9_0 _ h_o0).1 d_X_comer_35 (aw_bipush (v := iv 26) cb_26 d_X_comer_38 (aw_iconst (v := iv 4) rfl d_X_comer_40 (aw_iload_n rfl rfl d_X_comer_41 (ai_imul d_X_comer_42 (ai_iadd d_X_comer_43 (aw_iload_n rfl rfl d_X_comer_44 ?_)))))))
        refine ai_nameU hf (wr32_in _) (fun x11 h_x11 hf => ?_)
        refine ai_iast (rm_9_0 _ h_o0).2 rfl h_x11 h_a2 h_I8 hf d_X_comer_45 (fun _ I10 h_I10 hf => ?_)
        refine aw_aload_n rfl rfl d_X_comer_46 (aw_getr (r := o0 + 1) fl_X_7 h_o0 (by decide) rfl (rm_9_0 _ h_o0).1 d_X_comer_47 (aw_bipush (v := iv 26) cb_26 d_X_comer_50 (aw_iconst (v := iv 4) rfl d_X_comer_52 (aw_iload_n rfl rfl d_X_comer_53 (ai_imul d_X_comer_54 (ai_iadd d_X_comer_55 (aw_iconst (v := iv 1) rfl d_X_comer_56 (ai_iadd d_X_comer_57 (aw_iload_n rfl rfl d_X_comer_58 ?_)))))))))
        refine ai_nameU hf (wr32_in _) (fun x13 h_x13 hf => ?_)
        refine ai_iast (rm_9_0 _ h_o0).2 rfl h_x13 h_a3 h_I10 hf d_X_comer_59 (fun _ I12 h_I12 hf => ?_)
        refine aw_aload_n rfl rfl d_X_comer_60 (aw_getr (r := o0 + 1) fl_X_7 h_o0 (by decide) rfl (rm_9_0 _ h_o0).1 d_X_comer_61 (aw_bipush (v := iv 26) cb_26 d_X_comer_64 (aw_iconst (v := iv 4) rfl d_X_comer_66 (aw_iload_n rfl rfl d_X_comer_67 (ai_imul d_X_comer_68 (ai_iadd d_X_comer_69 (aw_iconst (v := iv 2) rfl d_X_comer_70 (ai_iadd d_X_comer_71 (aw_iload rfl d_X_comer_72 ?_)))))))))
        refine ai_nameU hf (wr32_in _) (fun x15 h_x15 hf => ?_)
        refine ai_iast (rm_9_0 _ h_o0).2 rfl h_x15 h_a4 h_I12 hf d_X_comer_74 (fun _ I14 h_I14 hf => ?_)
        refine aw_aload_n rfl rfl d_X_comer_75 (aw_getr (r := o0 + 1) fl_X_7 h_o0 (by decide) rfl (rm_9_0 _ h_o0).1 d_X_comer_76 (aw_bipush (v := iv 26) cb_26 d_X_comer_79 (aw_iconst (v := iv 4) rfl d_X_comer_81 (aw_iload_n rfl rfl d_X_comer_82 (ai_imul d_X_comer_83 (ai_iadd d_X_comer_84 (aw_iconst (v := iv 3) rfl d_X_comer_85 (ai_iadd d_X_comer_86 (aw_iload rfl d_X_comer_87 ?_)))))))))
        refine ai_nameU hf (wr32_in _) (fun x17 h_x17 hf => ?_)
        refine ai_iast (rm_9_0 _ h_o0).2 rfl h_x17 h_a5 h_I14 hf d_X_comer_89 (fun _ I16 h_I16 hf => ?_)
        refine aw_iconst (v := iv 1) rfl d_X_comer_90 ?_
        exact ai_retn rfl (nar_z (Or.inr rfl)) d_X_comer_91 hf in_1 h_I16
      · refine aw_iconst (v := iv 0) rfl d_X_comer_32 ?_
        exact ai_retn rfl (nar_z (Or.inl rfl)) d_X_comer_33 hf in_0 h_I8
set_option maxRecDepth 20000 in
theorem t_X_feed_18 (fu : Nat) {r : Int × IMem} (o0 : Nat) (p1 : Int) (p2 : Int) (p3 : Int) (p4 : Int) (p5 : Int) (h_o0 : KM[o0]? = some (12, 51)) (h_p1 : inr p1) (h_p2 : inr p2) (h_p3 : inr p3) (h_p4 : inr p4) (h_p5 : inr p5) : ∀ (m : Nat) (w6 : Int) (I0 : IMem), inr w6 → RG I0 → f_X_feed_18 fu o0 p1 p2 p3 p4 p5 m w6 I0 = some r → Ai l b 1 y_X_feed KM RM (Ps r) I0 18 [.ref o0, .int (iv p1), .int (iv p2), .int (iv p3), .int (iv p4), .int (iv p5), .int (iv w6), uu] [] := by
  intro m
  induction m with
  | zero => intro w6 I0 h_w6 h_I0 hf; cases hf
  | succ m ih =>
    intro w6 I0 h_w6 h_I0 hf
    replace hf : fb_X_feed_18 fu o0 p1 p2 p3 p4 p5 (f_X_feed_18 fu o0 p1 p2 p3 p4 p5 m) w6 I0 = some r := hf
    unfold fb_X_feed_18 at hf
    refine aw_iload rfl d_X_feed_18 (aw_bipush (v := iv 20) cb_20 d_X_feed_20 ?_)
    refine ai_icmp_ge h_w6 in_20 hf (tgt := 115) (by decide) d_X_feed_22 (fun hf => ?_) (fun hf => ?_)
    · refine aw_aload_n rfl rfl d_X_feed_115 (ai_geti fl_X_112 h_o0 (by decide) rfl d_X_feed_116 ?_)
      exact ai_reti rfl d_X_feed_119 hf (h_I0 o0 12) h_I0
    · refine aw_iload rfl d_X_feed_25 (aw_iconst (v := iv 4) rfl d_X_feed_27 ?_)
      obtain ⟨k1, ek1, hf⟩ := of_zj hf
      have hk1 : ∀ (x3 : Int) (I2 : IMem), inr x3 → RG I2 → k1 x3 I2 = some r → Ai l b 1 y_X_feed KM RM (Ps r) I2 71 [.ref o0, .int (iv p1), .int (iv p2), .int (iv p3), .int (iv p4), .int (iv p5), .int (iv w6), uu] [.int (iv x3)] := by
        intro x3 I2 h_x3 h_I2 hf
        subst ek1
        refine aw_istore (lv2 := [.ref o0, .int (iv p1), .int (iv p2), .int (iv p3), .int (iv p4), .int (iv p5), .int (iv w6), .int (iv x3)]) (Nat.le_of_ble_eq_true rfl) rfl d_X_feed_71 (aw_aload_n rfl rfl d_X_feed_73 (aw_getr (r := o0 + 6) fl_X_25 h_o0 (by decide) rfl (rm_9_6 _ h_o0).1 d_X_feed_74 (aw_aload_n rfl rfl d_X_feed_77 (ai_geti fl_X_112 h_o0 (by decide) rfl d_X_feed_78 (aw_iload rfl d_X_feed_81 (aw_bipush (v := iv 24) cb_24 d_X_feed_83 (aw_bipush (v := iv 8) cb_8 d_X_feed_85 (aw_iload rfl d_X_feed_87 (aw_iconst (v := iv 4) rfl d_X_feed_89 (ai_iremc in_4 (by decide) d_X_feed_90 (ai_imul d_X_feed_91 (ai_isub d_X_feed_92 (ai_ishr d_X_feed_93 (aw_sipush (v := iv 255) cs_255 d_X_feed_94 (ai_iand d_X_feed_97 ?_)))))))))))))))
        refine ai_nameU hf (h_I2 o0 12) (fun x5 h_x5 hf => ?_)
        refine ai_iast (rm_9_6 _ h_o0).2 rfl h_x5 (wand_in _ _) h_I2 hf d_X_feed_98 (fun _ I4 h_I4 hf => ?_)
        refine aw_aload_n rfl rfl d_X_feed_99 (aw_dup rfl d_X_feed_100 (ai_geti fl_X_112 h_o0 (by decide) rfl d_X_feed_101 (aw_iconst (v := iv 1) rfl d_X_feed_104 (ai_iadd d_X_feed_105 ?_))))
        refine ai_puti hf h_I4 (wr32_in _) fl_X_112 h_o0 (by decide) rfl rfl rfl rfl d_X_feed_106 (fun I6 h_I6 hf => ?_)
        refine ai_iinc (n := 1) (lv2 := fun x7 => [.ref o0, .int (iv p1), .int (iv p2), .int (iv p3), .int (iv p4), .int (iv p5), .int (iv x7), .int (iv x3)]) hf rfl (Nat.le_of_ble_eq_true rfl) (fun _ => rfl) d_X_feed_109 (fun x7 h_x7 hf => ?_)
        refine aw_goto (tgt := 18) (by decide) d_X_feed_112 ?_
        refine aw_weakB (lv2 := [.ref o0, .int (iv p1), .int (iv p2), .int (iv p3), .int (iv p4), .int (iv p5), .int (iv x7), uu]) (wk_s (wk_s (wk_s (wk_s (wk_s (wk_s (wk_s (wk_u wk_n)))))))) ?_
        exact ih x7 I6 h_x7 h_I6 hf
      refine ai_icmp_ge h_w6 in_4 hf (tgt := 35) (by decide) d_X_feed_28 (fun hf => ?_) (fun hf => ?_)
      · refine aw_iload rfl d_X_feed_35 (aw_bipush (v := iv 8) cb_8 d_X_feed_37 ?_)
        refine ai_icmp_ge h_w6 in_8 hf (tgt := 46) (by decide) d_X_feed_39 (fun hf => ?_) (fun hf => ?_)
        · refine aw_iload rfl d_X_feed_46 (aw_bipush (v := iv 12) cb_12 d_X_feed_48 ?_)
          refine ai_icmp_ge h_w6 in_12 hf (tgt := 57) (by decide) d_X_feed_50 (fun hf => ?_) (fun hf => ?_)
          · refine aw_iload rfl d_X_feed_57 (aw_bipush (v := iv 16) cb_16 d_X_feed_59 ?_)
            refine ai_icmp_ge h_w6 in_16 hf (tgt := 69) (by decide) d_X_feed_61 (fun hf => ?_) (fun hf => ?_)
            · refine aw_iload rfl d_X_feed_69 ?_
              exact hk1 p5 I0 h_p5 h_I0 hf
            · refine aw_iload rfl d_X_feed_64 (aw_goto (tgt := 71) (by decide) d_X_feed_66 ?_)
              exact hk1 p4 I0 h_p4 h_I0 hf
          · refine aw_iload_n rfl rfl d_X_feed_53 (aw_goto (tgt := 71) (by decide) d_X_feed_54 ?_)
            exact hk1 p3 I0 h_p3 h_I0 hf
        · refine aw_iload_n rfl rfl d_X_feed_42 (aw_goto (tgt := 71) (by decide) d_X_feed_43 ?_)
          exact hk1 p2 I0 h_p2 h_I0 hf
      · refine aw_iload_n rfl rfl d_X_feed_31 (aw_goto (tgt := 71) (by decide) d_X_feed_32 ?_)
        exact hk1 p1 I0 h_p1 h_I0 hf
set_option maxRecDepth 20000 in
theorem t_X_feed (fu : Nat) (o0 : Nat) (a1 : Int) (a2 : Int) (a3 : Int) (a4 : Int) (a5 : Int) (I0 : IMem) (hI : RG I0) (h_o0 : KM[o0]? = some (12, 51)) (h_a1 : inr a1) (h_a2 : inr a2) (h_a3 : inr a3) (h_a4 : inr a4) (h_a5 : inr a5) {r : Int × IMem} (hf : f_X_feed fu o0 a1 a2 a3 a4 a5 I0 = some r) : Ss l b 1 y_X_feed KM RM [.ref o0, .int (iv a1), .int (iv a2), .int (iv a3), .int (iv a4), .int (iv a5)] (ivm I0) (Ps r) := by
  unfold f_X_feed at hf
  refine Ss.of (show Ai l b 1 y_X_feed KM RM (Ps r) I0 0 [.ref o0, .int (iv a1), .int (iv a2), .int (iv a3), .int (iv a4), .int (iv a5), uu, uu] [] from ?_)
  refine aw_aload_n rfl rfl d_X_feed_0 (ai_geti fl_X_112 h_o0 (by decide) rfl d_X_feed_1 (aw_bipush (v := iv 20) cb_20 d_X_feed_4 (ai_iadd d_X_feed_6 (aw_sipush (v := iv 400) cs_400 d_X_feed_7 ?_))))
  refine ai_icmp_le (wr32_in _) in_400 hf (tgt := 15) (by decide) d_X_feed_10 (fun hf => ?_) (fun hf => ?_)
  · refine aw_iconst (v := iv 0) rfl d_X_feed_15 (aw_istore (lv2 := [.ref o0, .int (iv a1), .int (iv a2), .int (iv a3), .int (iv a4), .int (iv a5), .int (iv 0), uu]) (Nat.le_of_ble_eq_true rfl) rfl d_X_feed_16 ?_)
    refine t_X_feed_18 fu o0 a1 a2 a3 a4 a5 h_o0 h_a1 h_a2 h_a3 h_a4 h_a5 fu 0 I0 in_0 hI hf
  · refine aw_iconst (v := iv (-1)) rfl d_X_feed_13 ?_
    exact ai_reti rfl d_X_feed_14 hf in_m1 hI
set_option maxRecDepth 20000 in
theorem t_X_end (fu : Nat) (o0 : Nat) (a1 : Int) (I0 : IMem) (hI : RG I0) (h_o0 : KM[o0]? = some (12, 51)) (h_a1 : inr a1) {r : Int × IMem} (hf : f_X_end fu o0 a1 I0 = some r) : Ss l b 2 y_X_end KM RM [.ref o0, .int (iv a1)] (ivm I0) (Ps r) := by
  unfold f_X_end at hf
  refine Ss.of (show Ai l b 2 y_X_end KM RM (Ps r) I0 0 [.ref o0, .int (iv a1)] [] from ?_)
  refine aw_iload_n rfl rfl d_X_end_0 (aw_iconst (v := iv 0) rfl d_X_end_1 (aw_aload_n rfl rfl d_X_end_2 (ai_geti fl_X_112 h_o0 (by decide) rfl d_X_end_3 ?_)))
  obtain ⟨y1, I2, c3, hf⟩ := of_zb hf
  refine ai_callS (as := [.int (iv a1), .int (iv 0), .int (iv (I0 o0 12))]) (d' := 1) mo_X_isIn lk_X_98 rfl ⟨by decide, by decide⟩ rfl rfl (by decide) d_X_end_6 (t_X_isIn fu a1 0 (I0 o0 12) I0 hI h_a1 in_0 (hI o0 12) c3) (fun h_y1 h_I2 => ?_)
  refine ai_if_ne h_y1 hf (tgt := 14) (by decide) d_X_end_9 (fun hf => ?_) (fun hf => ?_)
  · refine aw_aload_n rfl rfl d_X_end_14 (aw_iload_n rfl rfl d_X_end_15 ?_)
    refine ai_puti hf h_I2 h_a1 fl_X_112 h_o0 (by decide) rfl rfl rfl rfl d_X_end_16 (fun I4 h_I4 hf => ?_)
    refine aw_iconst (v := iv 1) rfl d_X_end_19 ?_
    exact ai_retn rfl (nar_z (Or.inr rfl)) d_X_end_20 hf in_1 h_I4
  · refine aw_iconst (v := iv 0) rfl d_X_end_12 ?_
    exact ai_retn rfl (nar_z (Or.inl rfl)) d_X_end_13 hf in_0 h_I2
set_option maxRecDepth 20000 in
theorem t_X_lay (fu : Nat) (o0 : Nat) (a1 : Int) (a2 : Int) (I0 : IMem) (hI : RG I0) (h_o0 : KM[o0]? = some (12, 51)) (h_a1 : inr a1) (h_a2 : inr a2) {r : Int × IMem} (hf : f_X_lay fu o0 a1 a2 I0 = some r) : Ss l b 1 y_X_lay KM RM [.ref o0, .int (iv a1), .int (iv a2)] (ivm I0) (Pv r) := by
  unfold f_X_lay at hf
  refine Ss.of (show Ai l b 1 y_X_lay KM RM (Pv r) I0 0 [.ref o0, .int (iv a1), .int (iv a2)] [] from ?_)
  refine aw_aload_n rfl rfl d_X_lay_0 (aw_getr (r := o0 + 5) fl_X_22 h_o0 (by decide) rfl (rm_9_5 _ h_o0).1 d_X_lay_1 (aw_iconst (v := iv 2) rfl d_X_lay_4 (aw_aload_n rfl rfl d_X_lay_5 (ai_geti fl_X_205 h_o0 (by decide) rfl d_X_lay_6 (ai_imul d_X_lay_9 (aw_iload_n rfl rfl d_X_lay_10 ?_))))))
  refine ai_nameU hf (wr32_in _) (fun x2 h_x2 hf => ?_)
  refine ai_iast (rm_9_5 _ h_o0).2 rfl h_x2 h_a1 hI hf d_X_lay_11 (fun _ I1 h_I1 hf => ?_)
  refine aw_aload_n rfl rfl d_X_lay_12 (aw_getr (r := o0 + 5) fl_X_22 h_o0 (by decide) rfl (rm_9_5 _ h_o0).1 d_X_lay_13 (aw_iconst (v := iv 2) rfl d_X_lay_16 (aw_aload_n rfl rfl d_X_lay_17 (ai_geti fl_X_205 h_o0 (by decide) rfl d_X_lay_18 (ai_imul d_X_lay_21 (aw_iconst (v := iv 1) rfl d_X_lay_22 (ai_iadd d_X_lay_23 (aw_iload_n rfl rfl d_X_lay_24 ?_))))))))
  refine ai_nameU hf (wr32_in _) (fun x4 h_x4 hf => ?_)
  refine ai_iast (rm_9_5 _ h_o0).2 rfl h_x4 h_a2 h_I1 hf d_X_lay_25 (fun _ I3 h_I3 hf => ?_)
  refine aw_aload_n rfl rfl d_X_lay_26 (aw_dup rfl d_X_lay_27 (ai_geti fl_X_205 h_o0 (by decide) rfl d_X_lay_28 (aw_iconst (v := iv 1) rfl d_X_lay_31 (ai_iadd d_X_lay_32 ?_))))
  refine ai_puti hf h_I3 (wr32_in _) fl_X_205 h_o0 (by decide) rfl rfl rfl rfl d_X_lay_33 (fun I5 h_I5 hf => ?_)
  exact ai_retv rfl d_X_lay_36 hf h_I5
set_option maxRecDepth 20000 in
theorem t_X_isDigit (fu : Nat) (a0 : Int) (I0 : IMem) (hI : RG I0) (h_a0 : inr a0) {r : Int × IMem} (hf : f_X_isDigit fu a0 I0 = some r) : Ss l b 2 y_X_isDigit KM RM [.int (iv a0)] (ivm I0) (Ps r) := by
  unfold f_X_isDigit at hf
  refine Ss.of (show Ai l b 2 y_X_isDigit KM RM (Ps r) I0 0 [.int (iv a0)] [] from ?_)
  refine aw_iload_n rfl rfl d_X_isDigit_0 (aw_bipush (v := iv 48) cb_48 d_X_isDigit_1 (aw_bipush (v := iv 57) cb_57 d_X_isDigit_3 ?_))
  obtain ⟨y1, I2, c3, hf⟩ := of_zb hf
  refine ai_callS (as := [.int (iv a0), .int (iv 48), .int (iv 57)]) (d' := 1) mo_X_isIn lk_X_98 rfl ⟨by decide, by decide⟩ rfl rfl (by decide) d_X_isDigit_5 (t_X_isIn fu a0 48 57 I0 hI h_a0 in_48 in_57 c3) (fun h_y1 h_I2 => ?_)
  obtain ⟨g, hf⟩ := of_zg hf
  exact ai_retn rfl (nar_z g) d_X_isDigit_8 hf h_y1 h_I2
set_option maxRecDepth 20000 in
theorem t_X_isLetter (fu : Nat) (a0 : Int) (I0 : IMem) (hI : RG I0) (h_a0 : inr a0) {r : Int × IMem} (hf : f_X_isLetter fu a0 I0 = some r) : Ss l b 2 y_X_isLetter KM RM [.int (iv a0)] (ivm I0) (Ps r) := by
  unfold f_X_isLetter at hf
  refine Ss.of (show Ai l b 2 y_X_isLetter KM RM (Ps r) I0 0 [.int (iv a0)] [] from ?_)
  refine aw_iload_n rfl rfl d_X_isLetter_0 (aw_bipush (v := iv 97) cb_97 d_X_isLetter_1 (aw_bipush (v := iv 122) cb_122 d_X_isLetter_3 ?_))
  obtain ⟨y1, I2, c3, hf⟩ := of_zb hf
  refine ai_callS (as := [.int (iv a0), .int (iv 97), .int (iv 122)]) (d' := 1) mo_X_isIn lk_X_98 rfl ⟨by decide, by decide⟩ rfl rfl (by decide) d_X_isLetter_5 (t_X_isIn fu a0 97 122 I0 hI h_a0 in_97 in_122 c3) (fun h_y1 h_I2 => ?_)
  refine ai_if_ne h_y1 hf (tgt := 22) (by decide) d_X_isLetter_8 (fun hf => ?_) (fun hf => ?_)
  · refine aw_iconst (v := iv 1) rfl d_X_isLetter_22 (aw_goto (tgt := 27) (by decide) d_X_isLetter_23 ?_)
    exact ai_retn rfl (nar_z (Or.inr rfl)) d_X_isLetter_27 hf in_1 h_I2
  · refine aw_iload_n rfl rfl d_X_isLetter_11 (aw_bipush (v := iv 65) cb_65 d_X_isLetter_12 (aw_bipush (v := iv 90) cb_90 d_X_isLetter_14 ?_))
    obtain ⟨y4, I5, c6, hf⟩ := of_zb hf
    refine ai_callS (as := [.int (iv a0), .int (iv 65), .int (iv 90)]) (d' := 1) mo_X_isIn lk_X_98 rfl ⟨by decide, by decide⟩ rfl rfl (by decide) d_X_isLetter_16 (t_X_isIn fu a0 65 90 I2 h_I2 h_a0 in_65 in_90 c6) (fun h_y4 h_I5 => ?_)
    refine ai_if_eq h_y4 hf (tgt := 26) (by decide) d_X_isLetter_19 (fun hf => ?_) (fun hf => ?_)
    · refine aw_iconst (v := iv 0) rfl d_X_isLetter_26 ?_
      exact ai_retn rfl (nar_z (Or.inl rfl)) d_X_isLetter_27 hf in_0 h_I5
    · refine aw_iconst (v := iv 1) rfl d_X_isLetter_22 (aw_goto (tgt := 27) (by decide) d_X_isLetter_23 ?_)
      exact ai_retn rfl (nar_z (Or.inr rfl)) d_X_isLetter_27 hf in_1 h_I5
set_option maxRecDepth 20000 in
theorem t_X_see (fu : Nat) (o0 : Nat) (a1 : Int) (I0 : IMem) (hI : RG I0) (h_o0 : KM[o0]? = some (12, 51)) (h_a1 : inr a1) {r : Int × IMem} (hf : f_X_see fu o0 a1 I0 = some r) : Ss l b 1 y_X_see KM RM [.ref o0, .int (iv a1)] (ivm I0) (Ps r) := by
  unfold f_X_see at hf
  refine Ss.of (show Ai l b 1 y_X_see KM RM (Ps r) I0 0 [.ref o0, .int (iv a1)] [] from ?_)
  refine aw_iload_n rfl rfl d_X_see_0 (aw_aload_n rfl rfl d_X_see_1 (ai_geti fl_X_112 h_o0 (by decide) rfl d_X_see_2 ?_))
  refine ai_icmp_ge h_a1 (hI o0 12) hf (tgt := 17) (by decide) d_X_see_5 (fun hf => ?_) (fun hf => ?_)
  · refine aw_iconst (v := iv (-1)) rfl d_X_see_17 ?_
    exact ai_reti rfl d_X_see_18 hf in_m1 hI
  · refine aw_aload_n rfl rfl d_X_see_8 (aw_getr (r := o0 + 6) fl_X_25 h_o0 (by decide) rfl (rm_9_6 _ h_o0).1 d_X_see_9 (aw_iload_n rfl rfl d_X_see_12 ?_))
    refine ai_iald (rm_9_6 _ h_o0).2 rfl h_a1 hf d_X_see_13 (fun _ hf => ?_)
    refine aw_goto (tgt := 18) (by decide) d_X_see_14 ?_
    exact ai_reti rfl d_X_see_18 hf (hI (o0 + 6) a1.toNat) hI
set_option maxRecDepth 20000 in
theorem t_X_is_24 (fu : Nat) {r : Int × IMem} (o0 : Nat) (s1 : Nat) (h_o0 : KM[o0]? = some (12, 51)) (h_s1 : s1 < 18) : ∀ (m : Nat) (w2 : Int) (w3 : Int) (I0 : IMem), inr w2 → inr w3 → RG I0 → f_X_is_24 fu o0 s1 m w2 w3 I0 = some r → Ai l b 5 y_X_is KM RM (Ps r) I0 24 [.ref o0, .ref (1003 + s1), .int (iv w2), .int (iv w3)] [] := by
  intro m
  induction m with
  | zero => intro w2 w3 I0 h_w2 h_w3 h_I0 hf; cases hf
  | succ m ih =>
    intro w2 w3 I0 h_w2 h_w3 h_I0 hf
    replace hf : fb_X_is_24 fu o0 s1 (f_X_is_24 fu o0 s1 m) w2 w3 I0 = some r := hf
    unfold fb_X_is_24 at hf
    refine aw_iload_n rfl rfl d_X_is_24 (aw_aload_n rfl rfl d_X_is_25 ?_)
    obtain ⟨y7, I8, c9, hf⟩ := of_zb hf
    refine ai_callVS (as := []) (d' := 2) mo_JS_length lk_X_121 h_s1 rfl rfl ⟨by decide, by decide⟩ rfl rfl (by decide) d_X_is_26 (t_JS_length fu s1 I0 h_I0 h_s1 c9) (fun h_y7 h_I8 => ?_)
    refine ai_icmp_ge h_w3 h_y7 hf (tgt := 67) (by decide) d_X_is_29 (fun hf => ?_) (fun hf => ?_)
    · refine aw_iload_n rfl rfl d_X_is_67 ?_
      obtain ⟨g, hf⟩ := of_zg hf
      exact ai_retn rfl (nar_z g) d_X_is_68 hf h_w2 h_I8
    · refine aw_iload_n rfl rfl d_X_is_32 ?_
      refine ai_if_eq h_w2 hf (tgt := 67) (by decide) d_X_is_33 (fun hf => ?_) (fun hf => ?_)
      · refine aw_iload_n rfl rfl d_X_is_67 ?_
        obtain ⟨g, hf⟩ := of_zg hf
        exact ai_retn rfl (nar_z g) d_X_is_68 hf h_w2 h_I8
      · refine aw_aload_n rfl rfl d_X_is_36 (aw_getr (r := o0 + 6) fl_X_25 h_o0 (by decide) rfl (rm_9_6 _ h_o0).1 d_X_is_37 (aw_aload_n rfl rfl d_X_is_40 (ai_geti fl_X_118 h_o0 (by decide) rfl d_X_is_41 (aw_iload_n rfl rfl d_X_is_44 (ai_iadd d_X_is_45 ?_)))))
        refine ai_name hf (wr32_in _) (fun x10 h_x10 hf => ?_)
        refine ai_iald (rm_9_6 _ h_o0).2 rfl h_x10 hf d_X_is_46 (fun _ hf => ?_)
        refine aw_aload_n rfl rfl d_X_is_47 (aw_iload_n rfl rfl d_X_is_48 ?_)
        obtain ⟨y11, I12, c13, hf⟩ := of_zb hf
        refine ai_callVS (as := [.int (iv w3)]) (d' := 4) mo_JS_charAt lk_X_127 h_s1 rfl rfl ⟨by decide, by decide⟩ rfl rfl (by decide) d_X_is_49 (t_JS_charAt fu s1 w3 I8 h_I8 h_s1 h_w3 c13) (fun h_y11 h_I12 => ?_)
        obtain ⟨k14, ek14, hf⟩ := of_zj hf
        have hk14 : ∀ (x16 : Int) (I15 : IMem), inr x16 → RG I15 → k14 x16 I15 = some r → Ai l b 5 y_X_is KM RM (Ps r) I15 60 [.ref o0, .ref (1003 + s1), uu, .int (iv w3)] [.int (iv x16)] := by
          intro x16 I15 h_x16 h_I15 hf
          subst ek14
          refine aw_istore_n (lv2 := [.ref o0, .ref (1003 + s1), .int (iv x16), .int (iv w3)]) rfl (Nat.le_of_ble_eq_true rfl) rfl d_X_is_60 ?_
          refine ai_iinc (n := 1) (lv2 := fun x17 => [.ref o0, .ref (1003 + s1), .int (iv x16), .int (iv x17)]) hf rfl (Nat.le_of_ble_eq_true rfl) (fun _ => rfl) d_X_is_61 (fun x17 h_x17 hf => ?_)
          refine aw_goto (tgt := 24) (by decide) d_X_is_64 ?_
          exact ih x16 x17 I15 h_x16 h_x17 h_I15 hf
        refine ai_icmp_ne (h_I8 (o0 + 6) x10.toNat) h_y11 hf (tgt := 59) (by decide) d_X_is_52 (fun hf => ?_) (fun hf => ?_)
        · refine aw_iconst (v := iv 0) rfl d_X_is_59 ?_
          refine aw_weakB (lv2 := [.ref o0, .ref (1003 + s1), uu, .int (iv w3)]) (wk_s (wk_s (wk_u (wk_s wk_n)))) ?_
          exact hk14 0 I12 in_0 h_I12 hf
        · refine aw_iconst (v := iv 1) rfl d_X_is_55 (aw_goto (tgt := 60) (by decide) d_X_is_56 ?_)
          refine aw_weakB (lv2 := [.ref o0, .ref (1003 + s1), uu, .int (iv w3)]) (wk_s (wk_s (wk_u (wk_s wk_n)))) ?_
          exact hk14 1 I12 in_1 h_I12 hf
set_option maxRecDepth 20000 in
theorem t_X_is (fu : Nat) (o0 : Nat) (s1 : Nat) (I0 : IMem) (hI : RG I0) (h_o0 : KM[o0]? = some (12, 51)) (h_s1 : s1 < 18) {r : Int × IMem} (hf : f_X_is fu o0 s1 I0 = some r) : Ss l b 5 y_X_is KM RM [.ref o0, .ref (1003 + s1)] (ivm I0) (Ps r) := by
  unfold f_X_is at hf
  refine Ss.of (show Ai l b 5 y_X_is KM RM (Ps r) I0 0 [.ref o0, .ref (1003 + s1), uu, uu] [] from ?_)
  refine aw_aload_n rfl rfl d_X_is_0 (ai_geti fl_X_115 h_o0 (by decide) rfl d_X_is_1 (aw_aload_n rfl rfl d_X_is_4 (ai_geti fl_X_118 h_o0 (by decide) rfl d_X_is_5 (ai_isub d_X_is_8 (aw_aload_n rfl rfl d_X_is_9 ?_)))))
  obtain ⟨y1, I2, c3, hf⟩ := of_zb hf
  refine ai_callVS (as := []) (d' := 2) mo_JS_length lk_X_121 h_s1 rfl rfl ⟨by decide, by decide⟩ rfl rfl (by decide) d_X_is_10 (t_JS_length fu s1 I0 hI h_s1 c3) (fun h_y1 h_I2 => ?_)
  obtain ⟨k4, ek4, hf⟩ := of_zj hf
  have hk4 : ∀ (x6 : Int) (I5 : IMem), inr x6 → RG I5 → k4 x6 I5 = some r → Ai l b 5 y_X_is KM RM (Ps r) I5 21 [.ref o0, .ref (1003 + s1), uu, uu] [.int (iv x6)] := by
    intro x6 I5 h_x6 h_I5 hf
    subst ek4
    refine aw_istore_n (lv2 := [.ref o0, .ref (1003 + s1), .int (iv x6), uu]) rfl (Nat.le_of_ble_eq_true rfl) rfl d_X_is_21 (aw_iconst (v := iv 0) rfl d_X_is_22 (aw_istore_n (lv2 := [.ref o0, .ref (1003 + s1), .int (iv x6), .int (iv 0)]) rfl (Nat.le_of_ble_eq_true rfl) rfl d_X_is_23 ?_))
    refine t_X_is_24 fu o0 s1 h_o0 h_s1 fu x6 0 I5 h_x6 in_0 h_I5 hf
  refine ai_icmp_ne (wr32_in _) h_y1 hf (tgt := 20) (by decide) d_X_is_13 (fun hf => ?_) (fun hf => ?_)
  · refine aw_iconst (v := iv 0) rfl d_X_is_20 ?_
    exact hk4 0 I2 in_0 h_I2 hf
  · refine aw_iconst (v := iv 1) rfl d_X_is_16 (aw_goto (tgt := 21) (by decide) d_X_is_17 ?_)
    exact hk4 1 I2 in_1 h_I2 hf
set_option maxRecDepth 20000 in
theorem t_X_lineWord (fu : Nat) (o0 : Nat) (I0 : IMem) (hI : RG I0) (h_o0 : KM[o0]? = some (12, 51)) {r : Int × IMem} (hf : f_X_lineWord fu o0 I0 = some r) : Ss l b 6 y_X_lineWord KM RM [.ref o0] (ivm I0) (Ps r) := by
  unfold f_X_lineWord at hf
  refine Ss.of (show Ai l b 6 y_X_lineWord KM RM (Ps r) I0 0 [.ref o0] [] from ?_)
  refine aw_aload_n rfl rfl d_X_lineWord_0 (aw_ldcS (i := 8) (by decide) rfl d_X_lineWord_1 ?_)
  obtain ⟨y1, I2, c3, hf⟩ := of_zb hf
  refine ai_callV (as := [.ref (1003 + 8)]) (d' := 5) (q := ("SinglesUpModel", zT9, 51)) mo_X_is lk_X_133 h_o0 rfl rfl rfl ⟨by decide, by decide⟩ rfl rfl (by decide) d_X_lineWord_3 (t_X_is fu o0 8 I0 hI h_o0 (by decide) c3) (fun h_y1 h_I2 => ?_)
  refine ai_if_eq h_y1 hf (tgt := 14) (by decide) d_X_lineWord_6 (fun hf => ?_) (fun hf => ?_)
  · refine aw_aload_n rfl rfl d_X_lineWord_14 (aw_ldcS (i := 9) (by decide) rfl d_X_lineWord_15 ?_)
    obtain ⟨y4, I5, c6, hf⟩ := of_zb hf
    refine ai_callV (as := [.ref (1003 + 9)]) (d' := 5) (q := ("SinglesUpModel", zT9, 51)) mo_X_is lk_X_133 h_o0 rfl rfl rfl ⟨by decide, by decide⟩ rfl rfl (by decide) d_X_lineWord_17 (t_X_is fu o0 9 I2 h_I2 h_o0 (by decide) c6) (fun h_y4 h_I5 => ?_)
    refine ai_if_eq h_y4 hf (tgt := 28) (by decide) d_X_lineWord_20 (fun hf => ?_) (fun hf => ?_)
    · refine aw_aload_n rfl rfl d_X_lineWord_28 (aw_ldcS (i := 10) (by decide) rfl d_X_lineWord_29 ?_)
      obtain ⟨y7, I8, c9, hf⟩ := of_zb hf
      refine ai_callV (as := [.ref (1003 + 10)]) (d' := 5) (q := ("SinglesUpModel", zT9, 51)) mo_X_is lk_X_133 h_o0 rfl rfl rfl ⟨by decide, by decide⟩ rfl rfl (by decide) d_X_lineWord_31 (t_X_is fu o0 10 I5 h_I5 h_o0 (by decide) c9) (fun h_y7 h_I8 => ?_)
      refine ai_if_eq h_y7 hf (tgt := 42) (by decide) d_X_lineWord_34 (fun hf => ?_) (fun hf => ?_)
      · refine aw_iconst (v := iv 1) rfl d_X_lineWord_42 ?_
        exact ai_reti rfl d_X_lineWord_43 hf in_1 h_I8
      · refine aw_bipush (v := iv 51) cb_51 d_X_lineWord_37 (aw_goto (tgt := 43) (by decide) d_X_lineWord_39 ?_)
        exact ai_reti rfl d_X_lineWord_43 hf in_51 h_I8
    · refine aw_bipush (v := iv 50) cb_50 d_X_lineWord_23 (aw_goto (tgt := 43) (by decide) d_X_lineWord_25 ?_)
      exact ai_reti rfl d_X_lineWord_43 hf in_50 h_I5
  · refine aw_bipush (v := iv 7) cb_7 d_X_lineWord_9 (aw_goto (tgt := 43) (by decide) d_X_lineWord_11 ?_)
    exact ai_reti rfl d_X_lineWord_43 hf in_7 h_I2
set_option maxRecDepth 20000 in
theorem t_X_ruleWord (fu : Nat) (o0 : Nat) (I0 : IMem) (hI : RG I0) (h_o0 : KM[o0]? = some (12, 51)) {r : Int × IMem} (hf : f_X_ruleWord fu o0 I0 = some r) : Ss l b 6 y_X_ruleWord KM RM [.ref o0] (ivm I0) (Ps r) := by
  unfold f_X_ruleWord at hf
  refine Ss.of (show Ai l b 6 y_X_ruleWord KM RM (Ps r) I0 0 [.ref o0] [] from ?_)
  refine aw_aload_n rfl rfl d_X_ruleWord_0 (aw_ldcS (i := 11) (by decide) rfl d_X_ruleWord_1 ?_)
  obtain ⟨y1, I2, c3, hf⟩ := of_zb hf
  refine ai_callV (as := [.ref (1003 + 11)]) (d' := 5) (q := ("SinglesUpModel", zT9, 51)) mo_X_is lk_X_133 h_o0 rfl rfl rfl ⟨by decide, by decide⟩ rfl rfl (by decide) d_X_ruleWord_3 (t_X_is fu o0 11 I0 hI h_o0 (by decide) c3) (fun h_y1 h_I2 => ?_)
  refine ai_if_eq h_y1 hf (tgt := 12) (by decide) d_X_ruleWord_6 (fun hf => ?_) (fun hf => ?_)
  · refine aw_aload_n rfl rfl d_X_ruleWord_12 (aw_ldcS (i := 12) (by decide) rfl d_X_ruleWord_13 ?_)
    obtain ⟨y4, I5, c6, hf⟩ := of_zb hf
    refine ai_callV (as := [.ref (1003 + 12)]) (d' := 5) (q := ("SinglesUpModel", zT9, 51)) mo_X_is lk_X_133 h_o0 rfl rfl rfl ⟨by decide, by decide⟩ rfl rfl (by decide) d_X_ruleWord_15 (t_X_is fu o0 12 I2 h_I2 h_o0 (by decide) c6) (fun h_y4 h_I5 => ?_)
    refine ai_if_eq h_y4 hf (tgt := 24) (by decide) d_X_ruleWord_18 (fun hf => ?_) (fun hf => ?_)
    · refine aw_aload_n rfl rfl d_X_ruleWord_24 (aw_ldcS (i := 13) (by decide) rfl d_X_ruleWord_25 ?_)
      obtain ⟨y7, I8, c9, hf⟩ := of_zb hf
      refine ai_callV (as := [.ref (1003 + 13)]) (d' := 5) (q := ("SinglesUpModel", zT9, 51)) mo_X_is lk_X_133 h_o0 rfl rfl rfl ⟨by decide, by decide⟩ rfl rfl (by decide) d_X_ruleWord_27 (t_X_is fu o0 13 I5 h_I5 h_o0 (by decide) c9) (fun h_y7 h_I8 => ?_)
      refine ai_if_eq h_y7 hf (tgt := 36) (by decide) d_X_ruleWord_30 (fun hf => ?_) (fun hf => ?_)
      · refine aw_aload_n rfl rfl d_X_ruleWord_36 (aw_ldcS (i := 8) (by decide) rfl d_X_ruleWord_37 ?_)
        obtain ⟨y10, I11, c12, hf⟩ := of_zb hf
        refine ai_callV (as := [.ref (1003 + 8)]) (d' := 5) (q := ("SinglesUpModel", zT9, 51)) mo_X_is lk_X_133 h_o0 rfl rfl rfl ⟨by decide, by decide⟩ rfl rfl (by decide) d_X_ruleWord_39 (t_X_is fu o0 8 I8 h_I8 h_o0 (by decide) c12) (fun h_y10 h_I11 => ?_)
        refine ai_if_eq h_y10 hf (tgt := 48) (by decide) d_X_ruleWord_42 (fun hf => ?_) (fun hf => ?_)
        · refine aw_aload_n rfl rfl d_X_ruleWord_48 (aw_ldcS (i := 14) (by decide) rfl d_X_ruleWord_49 ?_)
          obtain ⟨y13, I14, c15, hf⟩ := of_zb hf
          refine ai_callV (as := [.ref (1003 + 14)]) (d' := 5) (q := ("SinglesUpModel", zT9, 51)) mo_X_is lk_X_133 h_o0 rfl rfl rfl ⟨by decide, by decide⟩ rfl rfl (by decide) d_X_ruleWord_51 (t_X_is fu o0 14 I11 h_I11 h_o0 (by decide) c15) (fun h_y13 h_I14 => ?_)
          refine ai_if_eq h_y13 hf (tgt := 60) (by decide) d_X_ruleWord_54 (fun hf => ?_) (fun hf => ?_)
          · refine aw_aload_n rfl rfl d_X_ruleWord_60 (aw_ldcS (i := 15) (by decide) rfl d_X_ruleWord_61 ?_)
            obtain ⟨y16, I17, c18, hf⟩ := of_zb hf
            refine ai_callV (as := [.ref (1003 + 15)]) (d' := 5) (q := ("SinglesUpModel", zT9, 51)) mo_X_is lk_X_133 h_o0 rfl rfl rfl ⟨by decide, by decide⟩ rfl rfl (by decide) d_X_ruleWord_63 (t_X_is fu o0 15 I14 h_I14 h_o0 (by decide) c18) (fun h_y16 h_I17 => ?_)
            refine ai_if_eq h_y16 hf (tgt := 72) (by decide) d_X_ruleWord_66 (fun hf => ?_) (fun hf => ?_)
            · refine aw_aload_n rfl rfl d_X_ruleWord_72 (aw_ldcS (i := 16) (by decide) rfl d_X_ruleWord_73 ?_)
              obtain ⟨y19, I20, c21, hf⟩ := of_zb hf
              refine ai_callV (as := [.ref (1003 + 16)]) (d' := 5) (q := ("SinglesUpModel", zT9, 51)) mo_X_is lk_X_133 h_o0 rfl rfl rfl ⟨by decide, by decide⟩ rfl rfl (by decide) d_X_ruleWord_75 (t_X_is fu o0 16 I17 h_I17 h_o0 (by decide) c21) (fun h_y19 h_I20 => ?_)
              refine ai_if_eq h_y19 hf (tgt := 84) (by decide) d_X_ruleWord_78 (fun hf => ?_) (fun hf => ?_)
              · refine aw_aload_n rfl rfl d_X_ruleWord_84 (aw_ldcS (i := 17) (by decide) rfl d_X_ruleWord_85 ?_)
                obtain ⟨y22, I23, c24, hf⟩ := of_zb hf
                refine ai_callV (as := [.ref (1003 + 17)]) (d' := 5) (q := ("SinglesUpModel", zT9, 51)) mo_X_is lk_X_133 h_o0 rfl rfl rfl ⟨by decide, by decide⟩ rfl rfl (by decide) d_X_ruleWord_87 (t_X_is fu o0 17 I20 h_I20 h_o0 (by decide) c24) (fun h_y22 h_I23 => ?_)
                refine ai_if_eq h_y22 hf (tgt := 98) (by decide) d_X_ruleWord_90 (fun hf => ?_) (fun hf => ?_)
                · refine aw_iconst (v := iv 1) rfl d_X_ruleWord_98 ?_
                  exact ai_reti rfl d_X_ruleWord_99 hf in_1 h_I23
                · refine aw_bipush (v := iv 49) cb_49 d_X_ruleWord_93 (aw_goto (tgt := 99) (by decide) d_X_ruleWord_95 ?_)
                  exact ai_reti rfl d_X_ruleWord_99 hf in_49 h_I23
              · refine aw_bipush (v := iv 48) cb_48 d_X_ruleWord_81 ?_
                exact ai_reti rfl d_X_ruleWord_83 hf in_48 h_I20
            · refine aw_bipush (v := iv 46) cb_46 d_X_ruleWord_69 ?_
              exact ai_reti rfl d_X_ruleWord_71 hf in_46 h_I17
          · refine aw_bipush (v := iv 45) cb_45 d_X_ruleWord_57 ?_
            exact ai_reti rfl d_X_ruleWord_59 hf in_45 h_I14
        · refine aw_bipush (v := iv 44) cb_44 d_X_ruleWord_45 ?_
          exact ai_reti rfl d_X_ruleWord_47 hf in_44 h_I11
      · refine aw_bipush (v := iv 43) cb_43 d_X_ruleWord_33 ?_
        exact ai_reti rfl d_X_ruleWord_35 hf in_43 h_I8
    · refine aw_bipush (v := iv 42) cb_42 d_X_ruleWord_21 ?_
      exact ai_reti rfl d_X_ruleWord_23 hf in_42 h_I5
  · refine aw_bipush (v := iv 7) cb_7 d_X_ruleWord_9 ?_
    exact ai_reti rfl d_X_ruleWord_11 hf in_7 h_I2
set_option maxRecDepth 20000 in
theorem t_X_word (fu : Nat) (o0 : Nat) (I0 : IMem) (hI : RG I0) (h_o0 : KM[o0]? = some (12, 51)) {r : Int × IMem} (hf : f_X_word fu o0 I0 = some r) : Ss l b 7 y_X_word KM RM [.ref o0] (ivm I0) (Ps r) := by
  unfold f_X_word at hf
  refine Ss.of (show Ai l b 7 y_X_word KM RM (Ps r) I0 0 [.ref o0] [] from ?_)
  refine aw_aload_n rfl rfl d_X_word_0 (aw_ldcS (i := 2) (by decide) rfl d_X_word_1 ?_)
  obtain ⟨y1, I2, c3, hf⟩ := of_zb hf
  refine ai_callV (as := [.ref (1003 + 2)]) (d' := 5) (q := ("SinglesUpModel", zT9, 51)) mo_X_is lk_X_133 h_o0 rfl rfl rfl ⟨by decide, by decide⟩ rfl rfl (by decide) d_X_word_3 (t_X_is fu o0 2 I0 hI h_o0 (by decide) c3) (fun h_y1 h_I2 => ?_)
  refine ai_if_eq h_y1 hf (tgt := 11) (by decide) d_X_word_6 (fun hf => ?_) (fun hf => ?_)
  · refine aw_aload_n rfl rfl d_X_word_11 (aw_ldcS (i := 3) (by decide) rfl d_X_word_12 ?_)
    obtain ⟨y4, I5, c6, hf⟩ := of_zb hf
    refine ai_callV (as := [.ref (1003 + 3)]) (d' := 5) (q := ("SinglesUpModel", zT9, 51)) mo_X_is lk_X_133 h_o0 rfl rfl rfl ⟨by decide, by decide⟩ rfl rfl (by decide) d_X_word_14 (t_X_is fu o0 3 I2 h_I2 h_o0 (by decide) c6) (fun h_y4 h_I5 => ?_)
    refine ai_if_eq h_y4 hf (tgt := 22) (by decide) d_X_word_17 (fun hf => ?_) (fun hf => ?_)
    · refine aw_aload_n rfl rfl d_X_word_22 (aw_ldcS (i := 4) (by decide) rfl d_X_word_23 ?_)
      obtain ⟨y7, I8, c9, hf⟩ := of_zb hf
      refine ai_callV (as := [.ref (1003 + 4)]) (d' := 5) (q := ("SinglesUpModel", zT9, 51)) mo_X_is lk_X_133 h_o0 rfl rfl rfl ⟨by decide, by decide⟩ rfl rfl (by decide) d_X_word_25 (t_X_is fu o0 4 I5 h_I5 h_o0 (by decide) c9) (fun h_y7 h_I8 => ?_)
      refine ai_if_eq h_y7 hf (tgt := 33) (by decide) d_X_word_28 (fun hf => ?_) (fun hf => ?_)
      · refine aw_aload_n rfl rfl d_X_word_33 (aw_ldcS (i := 5) (by decide) rfl d_X_word_34 ?_)
        obtain ⟨y10, I11, c12, hf⟩ := of_zb hf
        refine ai_callV (as := [.ref (1003 + 5)]) (d' := 5) (q := ("SinglesUpModel", zT9, 51)) mo_X_is lk_X_133 h_o0 rfl rfl rfl ⟨by decide, by decide⟩ rfl rfl (by decide) d_X_word_36 (t_X_is fu o0 5 I8 h_I8 h_o0 (by decide) c12) (fun h_y10 h_I11 => ?_)
        refine ai_if_eq h_y10 hf (tgt := 45) (by decide) d_X_word_39 (fun hf => ?_) (fun hf => ?_)
        · refine aw_aload_n rfl rfl d_X_word_45 (aw_ldcS (i := 6) (by decide) rfl d_X_word_46 ?_)
          obtain ⟨y13, I14, c15, hf⟩ := of_zb hf
          refine ai_callV (as := [.ref (1003 + 6)]) (d' := 5) (q := ("SinglesUpModel", zT9, 51)) mo_X_is lk_X_133 h_o0 rfl rfl rfl ⟨by decide, by decide⟩ rfl rfl (by decide) d_X_word_48 (t_X_is fu o0 6 I11 h_I11 h_o0 (by decide) c15) (fun h_y13 h_I14 => ?_)
          refine ai_if_eq h_y13 hf (tgt := 57) (by decide) d_X_word_51 (fun hf => ?_) (fun hf => ?_)
          · refine aw_aload_n rfl rfl d_X_word_57 (aw_ldcS (i := 7) (by decide) rfl d_X_word_58 ?_)
            obtain ⟨y16, I17, c18, hf⟩ := of_zb hf
            refine ai_callV (as := [.ref (1003 + 7)]) (d' := 5) (q := ("SinglesUpModel", zT9, 51)) mo_X_is lk_X_133 h_o0 rfl rfl rfl ⟨by decide, by decide⟩ rfl rfl (by decide) d_X_word_60 (t_X_is fu o0 7 I14 h_I14 h_o0 (by decide) c18) (fun h_y16 h_I17 => ?_)
            refine ai_if_eq h_y16 hf (tgt := 69) (by decide) d_X_word_63 (fun hf => ?_) (fun hf => ?_)
            · refine aw_aload_n rfl rfl d_X_word_69 (ai_geti fl_X_166 h_o0 (by decide) rfl d_X_word_70 (aw_iconst (v := iv 4) rfl d_X_word_73 ?_))
              refine ai_icmp_ne (h_I17 o0 9) in_4 hf (tgt := 84) (by decide) d_X_word_74 (fun hf => ?_) (fun hf => ?_)
              · refine aw_aload_n rfl rfl d_X_word_84 ?_
                obtain ⟨y19, I20, c21, hf⟩ := of_zb hf
                refine ai_callV (as := []) (d' := 6) (q := ("SinglesUpModel", zT9, 51)) mo_X_ruleWord lk_X_171 h_o0 rfl rfl rfl ⟨by decide, by decide⟩ rfl rfl (by decide) d_X_word_85 (t_X_ruleWord fu o0 I17 h_I17 h_o0 c21) (fun h_y19 h_I20 => ?_)
                exact ai_reti rfl d_X_word_88 hf h_y19 h_I20
              · refine aw_aload_n rfl rfl d_X_word_77 ?_
                obtain ⟨y22, I23, c24, hf⟩ := of_zb hf
                refine ai_callV (as := []) (d' := 6) (q := ("SinglesUpModel", zT9, 51)) mo_X_lineWord lk_X_168 h_o0 rfl rfl rfl ⟨by decide, by decide⟩ rfl rfl (by decide) d_X_word_78 (t_X_lineWord fu o0 I17 h_I17 h_o0 c24) (fun h_y22 h_I23 => ?_)
                refine aw_goto (tgt := 88) (by decide) d_X_word_81 ?_
                exact ai_reti rfl d_X_word_88 hf h_y22 h_I23
            · refine aw_bipush (v := iv 47) cb_47 d_X_word_66 ?_
              exact ai_reti rfl d_X_word_68 hf in_47 h_I17
          · refine aw_bipush (v := iv 41) cb_41 d_X_word_54 ?_
            exact ai_reti rfl d_X_word_56 hf in_41 h_I14
        · refine aw_bipush (v := iv 6) cb_6 d_X_word_42 ?_
          exact ai_reti rfl d_X_word_44 hf in_6 h_I11
      · refine aw_iconst (v := iv 5) rfl d_X_word_31 ?_
        exact ai_reti rfl d_X_word_32 hf in_5 h_I8
    · refine aw_iconst (v := iv 4) rfl d_X_word_20 ?_
      exact ai_reti rfl d_X_word_21 hf in_4 h_I5
  · refine aw_iconst (v := iv 3) rfl d_X_word_9 ?_
    exact ai_reti rfl d_X_word_10 hf in_3 h_I2
set_option maxRecDepth 20000 in
theorem t_X_next0_0 (fu : Nat) {r : Int × IMem} (k_39 : IMem → Res) (o0 : Nat) (h_o0 : KM[o0]? = some (12, 51)) (hk_39 : ∀ (I9 : IMem), RG I9 → k_39 I9 = some r → Ai l b 8 y_X_next0 KM RM (Pv r) I9 39 [.ref o0, uu, uu] []) : ∀ (m : Nat) (I0 : IMem), RG I0 → f_X_next0_0 fu k_39 o0 m I0 = some r → Ai l b 8 y_X_next0 KM RM (Pv r) I0 0 [.ref o0, uu, uu] [] := by
  intro m
  induction m with
  | zero => intro  I0  h_I0 hf; cases hf
  | succ m ih =>
    intro  I0  h_I0 hf
    replace hf : fb_X_next0_0 fu k_39 o0 (f_X_next0_0 fu k_39 o0 m) I0 = some r := hf
    unfold fb_X_next0_0 at hf
    refine aw_aload_n rfl rfl d_X_next0_0 (aw_aload_n rfl rfl d_X_next0_1 (ai_geti fl_X_115 h_o0 (by decide) rfl d_X_next0_2 ?_))
    obtain ⟨y1, I2, c3, hf⟩ := of_zb hf
    refine ai_callV (as := [.int (iv (I0 o0 13))]) (d' := 1) (q := ("SinglesUpModel", zT9, 51)) mo_X_see lk_X_174 h_o0 rfl rfl rfl ⟨by decide, by decide⟩ rfl rfl (by decide) d_X_next0_5 (t_X_see fu o0 (I0 o0 13) I0 h_I0 h_o0 (h_I0 o0 13) c3) (fun h_y1 h_I2 => ?_)
    refine aw_bipush (v := iv 32) cb_32 d_X_next0_8 ?_
    obtain ⟨k4, ek4, hf⟩ := of_zj hf
    have hk4 : ∀  (I5 : IMem), RG I5 → k4 I5 = some r → Ai l b 8 y_X_next0 KM RM (Pv r) I5 26 [.ref o0, uu, uu] [] := by
      intro I5 h_I5 hf
      subst ek4
      refine aw_aload_n rfl rfl d_X_next0_26 (aw_dup rfl d_X_next0_27 (ai_geti fl_X_115 h_o0 (by decide) rfl d_X_next0_28 (aw_iconst (v := iv 1) rfl d_X_next0_31 (ai_iadd d_X_next0_32 ?_))))
      refine ai_puti hf h_I5 (wr32_in _) fl_X_115 h_o0 (by decide) rfl rfl rfl rfl d_X_next0_33 (fun I6 h_I6 hf => ?_)
      refine aw_goto (tgt := 0) (by decide) d_X_next0_36 ?_
      exact ih I6 h_I6 hf
    refine ai_icmp_eq h_y1 in_32 hf (tgt := 26) (by decide) d_X_next0_10 (fun hf => ?_) (fun hf => ?_)
    · exact hk4 I2 h_I2 hf
    · refine aw_aload_n rfl rfl d_X_next0_13 (aw_aload_n rfl rfl d_X_next0_14 (ai_geti fl_X_115 h_o0 (by decide) rfl d_X_next0_15 ?_))
      obtain ⟨y7, I8, c9, hf⟩ := of_zb hf
      refine ai_callV (as := [.int (iv (I2 o0 13))]) (d' := 1) (q := ("SinglesUpModel", zT9, 51)) mo_X_see lk_X_174 h_o0 rfl rfl rfl ⟨by decide, by decide⟩ rfl rfl (by decide) d_X_next0_18 (t_X_see fu o0 (I2 o0 13) I2 h_I2 h_o0 (h_I2 o0 13) c9) (fun h_y7 h_I8 => ?_)
      refine aw_bipush (v := iv 10) cb_10 d_X_next0_21 ?_
      refine ai_icmp_ne h_y7 in_10 hf (tgt := 39) (by decide) d_X_next0_23 (fun hf => ?_) (fun hf => ?_)
      · exact hk_39 I8 h_I8 hf
      · exact hk4 I8 h_I8 hf
set_option maxRecDepth 20000 in
theorem t_X_next0_126 (fu : Nat) {r : Int × IMem} (k_189 : IMem → Res) (o0 : Nat) (h_o0 : KM[o0]? = some (12, 51)) (hk_189 : ∀ (I9 : IMem), RG I9 → k_189 I9 = some r → Ai l b 8 y_X_next0 KM RM (Pv r) I9 189 [.ref o0, uu, uu] []) : ∀ (m : Nat) (I0 : IMem), RG I0 → f_X_next0_126 fu k_189 o0 m I0 = some r → Ai l b 8 y_X_next0 KM RM (Pv r) I0 126 [.ref o0, uu, uu] [] := by
  intro m
  induction m with
  | zero => intro  I0  h_I0 hf; cases hf
  | succ m ih =>
    intro  I0  h_I0 hf
    replace hf : fb_X_next0_126 fu k_189 o0 (f_X_next0_126 fu k_189 o0 m) I0 = some r := hf
    unfold fb_X_next0_126 at hf
    refine aw_aload_n rfl rfl d_X_next0_126 (aw_aload_n rfl rfl d_X_next0_127 (ai_geti fl_X_115 h_o0 (by decide) rfl d_X_next0_128 ?_))
    obtain ⟨y30, I31, c32, hf⟩ := of_zb hf
    refine ai_callV (as := [.int (iv (I0 o0 13))]) (d' := 1) (q := ("SinglesUpModel", zT9, 51)) mo_X_see lk_X_174 h_o0 rfl rfl rfl ⟨by decide, by decide⟩ rfl rfl (by decide) d_X_next0_131 (t_X_see fu o0 (I0 o0 13) I0 h_I0 h_o0 (h_I0 o0 13) c32) (fun h_y30 h_I31 => ?_)
    obtain ⟨y33, I34, c35, hf⟩ := of_zb hf
    refine ai_callS (as := [.int (iv y30)]) (d' := 2) mo_X_isDigit lk_X_187 rfl ⟨by decide, by decide⟩ rfl rfl (by decide) d_X_next0_134 (t_X_isDigit fu y30 I31 h_I31 h_y30 c35) (fun h_y33 h_I34 => ?_)
    refine ai_if_eq h_y33 hf (tgt := 189) (by decide) d_X_next0_137 (fun hf => ?_) (fun hf => ?_)
    · exact hk_189 I34 h_I34 hf
    · refine aw_aload_n rfl rfl d_X_next0_140 (ai_geti fl_X_115 h_o0 (by decide) rfl d_X_next0_141 (aw_aload_n rfl rfl d_X_next0_144 (ai_geti fl_X_118 h_o0 (by decide) rfl d_X_next0_145 (aw_iconst (v := iv 4) rfl d_X_next0_148 (ai_iadd d_X_next0_149 ?_)))))
      obtain ⟨k36, ek36, hf⟩ := of_zj hf
      have hk36 : ∀  (I37 : IMem), RG I37 → k36 I37 = some r → Ai l b 8 y_X_next0 KM RM (Pv r) I37 176 [.ref o0, uu, uu] [] := by
        intro I37 h_I37 hf
        subst ek36
        refine aw_aload_n rfl rfl d_X_next0_176 (aw_dup rfl d_X_next0_177 (ai_geti fl_X_115 h_o0 (by decide) rfl d_X_next0_178 (aw_iconst (v := iv 1) rfl d_X_next0_181 (ai_iadd d_X_next0_182 ?_))))
        refine ai_puti hf h_I37 (wr32_in _) fl_X_115 h_o0 (by decide) rfl rfl rfl rfl d_X_next0_183 (fun I38 h_I38 hf => ?_)
        refine aw_goto (tgt := 126) (by decide) d_X_next0_186 ?_
        exact ih I38 h_I38 hf
      refine ai_icmp_ge (h_I34 o0 13) (wr32_in _) hf (tgt := 176) (by decide) d_X_next0_150 (fun hf => ?_) (fun hf => ?_)
      · exact hk36 I34 h_I34 hf
      · refine aw_aload_n rfl rfl d_X_next0_153 (aw_bipush (v := iv 10) cb_10 d_X_next0_154 (aw_aload_n rfl rfl d_X_next0_156 (ai_geti fl_X_190 h_o0 (by decide) rfl d_X_next0_157 (ai_imul d_X_next0_160 (aw_aload_n rfl rfl d_X_next0_161 (aw_aload_n rfl rfl d_X_next0_162 (ai_geti fl_X_115 h_o0 (by decide) rfl d_X_next0_163 ?_)))))))
        obtain ⟨y39, I40, c41, hf⟩ := of_zb hf
        refine ai_callV (as := [.int (iv (I34 o0 13))]) (d' := 1) (q := ("SinglesUpModel", zT9, 51)) mo_X_see lk_X_174 h_o0 rfl rfl rfl ⟨by decide, by decide⟩ rfl rfl (by decide) d_X_next0_166 (t_X_see fu o0 (I34 o0 13) I34 h_I34 h_o0 (h_I34 o0 13) c41) (fun h_y39 h_I40 => ?_)
        refine ai_iadd d_X_next0_169 (aw_bipush (v := iv 48) cb_48 d_X_next0_170 (ai_isub d_X_next0_172 ?_))
        refine ai_puti hf h_I40 (wr32_in _) fl_X_190 h_o0 (by decide) rfl rfl rfl rfl d_X_next0_173 (fun I42 h_I42 hf => ?_)
        exact hk36 I42 h_I42 hf
set_option maxRecDepth 20000 in
theorem t_X_next0_76 (fu : Nat) {r : Int × IMem} (k_103 : IMem → Res) (o0 : Nat) (h_o0 : KM[o0]? = some (12, 51)) (hk_103 : ∀ (I9 : IMem), RG I9 → k_103 I9 = some r → Ai l b 8 y_X_next0 KM RM (Pv r) I9 103 [.ref o0, uu, uu] []) : ∀ (m : Nat) (I0 : IMem), RG I0 → f_X_next0_76 fu k_103 o0 m I0 = some r → Ai l b 8 y_X_next0 KM RM (Pv r) I0 76 [.ref o0, uu, uu] [] := by
  intro m
  induction m with
  | zero => intro  I0  h_I0 hf; cases hf
  | succ m ih =>
    intro  I0  h_I0 hf
    replace hf : fb_X_next0_76 fu k_103 o0 (f_X_next0_76 fu k_103 o0 m) I0 = some r := hf
    unfold fb_X_next0_76 at hf
    refine aw_aload_n rfl rfl d_X_next0_76 (aw_aload_n rfl rfl d_X_next0_77 (ai_geti fl_X_115 h_o0 (by decide) rfl d_X_next0_78 ?_))
    obtain ⟨y48, I49, c50, hf⟩ := of_zb hf
    refine ai_callV (as := [.int (iv (I0 o0 13))]) (d' := 1) (q := ("SinglesUpModel", zT9, 51)) mo_X_see lk_X_174 h_o0 rfl rfl rfl ⟨by decide, by decide⟩ rfl rfl (by decide) d_X_next0_81 (t_X_see fu o0 (I0 o0 13) I0 h_I0 h_o0 (h_I0 o0 13) c50) (fun h_y48 h_I49 => ?_)
    obtain ⟨y51, I52, c53, hf⟩ := of_zb hf
    refine ai_callS (as := [.int (iv y48)]) (d' := 2) mo_X_isLetter lk_X_181 rfl ⟨by decide, by decide⟩ rfl rfl (by decide) d_X_next0_84 (t_X_isLetter fu y48 I49 h_I49 h_y48 c53) (fun h_y51 h_I52 => ?_)
    refine ai_if_eq h_y51 hf (tgt := 103) (by decide) d_X_next0_87 (fun hf => ?_) (fun hf => ?_)
    · exact hk_103 I52 h_I52 hf
    · refine aw_aload_n rfl rfl d_X_next0_90 (aw_dup rfl d_X_next0_91 (ai_geti fl_X_115 h_o0 (by decide) rfl d_X_next0_92 (aw_iconst (v := iv 1) rfl d_X_next0_95 (ai_iadd d_X_next0_96 ?_))))
      refine ai_puti hf h_I52 (wr32_in _) fl_X_115 h_o0 (by decide) rfl rfl rfl rfl d_X_next0_97 (fun I54 h_I54 hf => ?_)
      refine aw_goto (tgt := 76) (by decide) d_X_next0_100 ?_
      exact ih I54 h_I54 hf
set_option maxRecDepth 20000 in
theorem t_X_next0 (fu : Nat) (o0 : Nat) (I0 : IMem) (hI : RG I0) (h_o0 : KM[o0]? = some (12, 51)) {r : Int × IMem} (hf : f_X_next0 fu o0 I0 = some r) : Ss l b 8 y_X_next0 KM RM [.ref o0] (ivm I0) (Pv r) := by
  unfold f_X_next0 at hf
  refine Ss.of (show Ai l b 8 y_X_next0 KM RM (Pv r) I0 0 [.ref o0, uu, uu] [] from ?_)
  refine t_X_next0_0 fu _ o0 h_o0 ?_ fu I0 hI hf
  · intro I10 h_I10 hf
    refine aw_aload_n rfl rfl d_X_next0_39 (aw_aload_n rfl rfl d_X_next0_40 (ai_geti fl_X_115 h_o0 (by decide) rfl d_X_next0_41 ?_))
    refine ai_puti hf h_I10 (h_I10 o0 13) fl_X_118 h_o0 (by decide) rfl rfl rfl rfl d_X_next0_44 (fun I11 h_I11 hf => ?_)
    refine aw_aload_n rfl rfl d_X_next0_47 (aw_aload_n rfl rfl d_X_next0_48 (ai_geti fl_X_115 h_o0 (by decide) rfl d_X_next0_49 ?_))
    obtain ⟨y12, I13, c14, hf⟩ := of_zb hf
    refine ai_callV (as := [.int (iv (I11 o0 13))]) (d' := 1) (q := ("SinglesUpModel", zT9, 51)) mo_X_see lk_X_174 h_o0 rfl rfl rfl ⟨by decide, by decide⟩ rfl rfl (by decide) d_X_next0_52 (t_X_see fu o0 (I11 o0 13) I11 h_I11 h_o0 (h_I11 o0 13) c14) (fun h_y12 h_I13 => ?_)
    refine aw_istore_n (lv2 := [.ref o0, .int (iv y12), uu]) rfl (Nat.le_of_ble_eq_true rfl) rfl d_X_next0_55 (aw_iload_n rfl rfl d_X_next0_56 (aw_iconst (v := iv (-1)) rfl d_X_next0_57 ?_))
    refine ai_icmp_ne h_y12 in_m1 hf (tgt := 69) (by decide) d_X_next0_58 (fun hf => ?_) (fun hf => ?_)
    · refine aw_iload_n rfl rfl d_X_next0_69 ?_
      obtain ⟨y15, I16, c17, hf⟩ := of_zb hf
      refine ai_callS (as := [.int (iv y12)]) (d' := 2) mo_X_isLetter lk_X_181 rfl ⟨by decide, by decide⟩ rfl rfl (by decide) d_X_next0_70 (t_X_isLetter fu y12 I13 h_I13 h_y12 c17) (fun h_y15 h_I16 => ?_)
      refine ai_if_eq h_y15 hf (tgt := 114) (by decide) d_X_next0_73 (fun hf => ?_) (fun hf => ?_)
      · refine aw_iload_n rfl rfl d_X_next0_114 ?_
        obtain ⟨y18, I19, c20, hf⟩ := of_zb hf
        refine ai_callS (as := [.int (iv y12)]) (d' := 2) mo_X_isDigit lk_X_187 rfl ⟨by decide, by decide⟩ rfl rfl (by decide) d_X_next0_115 (t_X_isDigit fu y12 I16 h_I16 h_y12 c20) (fun h_y18 h_I19 => ?_)
        refine ai_if_eq h_y18 hf (tgt := 214) (by decide) d_X_next0_118 (fun hf => ?_) (fun hf => ?_)
        · refine aw_aload_n rfl rfl d_X_next0_214 (aw_dup rfl d_X_next0_215 (ai_geti fl_X_115 h_o0 (by decide) rfl d_X_next0_216 (aw_iconst (v := iv 1) rfl d_X_next0_219 (ai_iadd d_X_next0_220 ?_))))
          refine ai_puti hf h_I19 (wr32_in _) fl_X_115 h_o0 (by decide) rfl rfl rfl rfl d_X_next0_221 (fun I21 h_I21 hf => ?_)
          refine aw_iload_n rfl rfl d_X_next0_224 (aw_bipush (v := iv 59) cb_59 d_X_next0_225 ?_)
          obtain ⟨k22, ek22, hf⟩ := of_zj hf
          have hk22 : ∀ (x24 : Int) (I23 : IMem), inr x24 → RG I23 → k22 x24 I23 = some r → Ai l b 8 y_X_next0 KM RM (Pv r) I23 289 [.ref o0, .int (iv y12), uu] [.int (iv x24)] := by
            intro x24 I23 h_x24 h_I23 hf
            subst ek22
            refine aw_istore_n (lv2 := [.ref o0, .int (iv y12), .int (iv x24)]) rfl (Nat.le_of_ble_eq_true rfl) rfl d_X_next0_289 (aw_aload_n rfl rfl d_X_next0_290 (aw_iload_n rfl rfl d_X_next0_291 ?_))
            obtain ⟨k25, ek25, hf⟩ := of_zj hf
            have hk25 : ∀ (x27 : Int) (I26 : IMem), inr x27 → RG I26 → k25 x27 I26 = some r → Ai l b 8 y_X_next0 KM RM (Pv r) I26 303 [uu, uu, uu] [.int (iv x27), .ref o0] := by
              intro x27 I26 h_x27 h_I26 hf
              subst ek25
              refine ai_puti hf h_I26 h_x27 fl_X_178 h_o0 (by decide) rfl rfl rfl rfl d_X_next0_303 (fun I28 h_I28 hf => ?_)
              exact ai_retv rfl d_X_next0_306 hf h_I28
            refine ai_if_eq h_x24 hf (tgt := 302) (by decide) d_X_next0_292 (fun hf => ?_) (fun hf => ?_)
            · refine aw_iconst (v := iv 1) rfl d_X_next0_302 ?_
              refine aw_weakB (lv2 := [uu, uu, uu]) (wk_u (wk_u (wk_u wk_n))) ?_
              exact hk25 1 I23 in_1 h_I23 hf
            · refine aw_bipush (v := iv 100) cb_100 d_X_next0_295 (aw_iload_n rfl rfl d_X_next0_297 (ai_iadd d_X_next0_298 (aw_goto (tgt := 303) (by decide) d_X_next0_299 ?_)))
              refine aw_weakB (lv2 := [uu, uu, uu]) (wk_u (wk_u (wk_u wk_n))) ?_
              exact hk25 (wr32 (100 + y12)) I23 (wr32_in _) h_I23 hf
          refine ai_icmp_eq h_y12 in_59 hf (tgt := 284) (by decide) d_X_next0_227 (fun hf => ?_) (fun hf => ?_)
          · refine aw_iconst (v := iv 1) rfl d_X_next0_284 (aw_goto (tgt := 289) (by decide) d_X_next0_285 ?_)
            exact hk22 1 I21 in_1 h_I21 hf
          · refine aw_iload_n rfl rfl d_X_next0_230 (aw_bipush (v := iv 43) cb_43 d_X_next0_231 ?_)
            refine ai_icmp_eq h_y12 in_43 hf (tgt := 284) (by decide) d_X_next0_233 (fun hf => ?_) (fun hf => ?_)
            · refine aw_iconst (v := iv 1) rfl d_X_next0_284 (aw_goto (tgt := 289) (by decide) d_X_next0_285 ?_)
              exact hk22 1 I21 in_1 h_I21 hf
            · refine aw_iload_n rfl rfl d_X_next0_236 (aw_bipush (v := iv 45) cb_45 d_X_next0_237 ?_)
              refine ai_icmp_eq h_y12 in_45 hf (tgt := 284) (by decide) d_X_next0_239 (fun hf => ?_) (fun hf => ?_)
              · refine aw_iconst (v := iv 1) rfl d_X_next0_284 (aw_goto (tgt := 289) (by decide) d_X_next0_285 ?_)
                exact hk22 1 I21 in_1 h_I21 hf
              · refine aw_iload_n rfl rfl d_X_next0_242 (aw_bipush (v := iv 42) cb_42 d_X_next0_243 ?_)
                refine ai_icmp_eq h_y12 in_42 hf (tgt := 284) (by decide) d_X_next0_245 (fun hf => ?_) (fun hf => ?_)
                · refine aw_iconst (v := iv 1) rfl d_X_next0_284 (aw_goto (tgt := 289) (by decide) d_X_next0_285 ?_)
                  exact hk22 1 I21 in_1 h_I21 hf
                · refine aw_iload_n rfl rfl d_X_next0_248 (aw_bipush (v := iv 47) cb_47 d_X_next0_249 ?_)
                  refine ai_icmp_eq h_y12 in_47 hf (tgt := 284) (by decide) d_X_next0_251 (fun hf => ?_) (fun hf => ?_)
                  · refine aw_iconst (v := iv 1) rfl d_X_next0_284 (aw_goto (tgt := 289) (by decide) d_X_next0_285 ?_)
                    exact hk22 1 I21 in_1 h_I21 hf
                  · refine aw_iload_n rfl rfl d_X_next0_254 (aw_bipush (v := iv 40) cb_40 d_X_next0_255 ?_)
                    refine ai_icmp_eq h_y12 in_40 hf (tgt := 284) (by decide) d_X_next0_257 (fun hf => ?_) (fun hf => ?_)
                    · refine aw_iconst (v := iv 1) rfl d_X_next0_284 (aw_goto (tgt := 289) (by decide) d_X_next0_285 ?_)
                      exact hk22 1 I21 in_1 h_I21 hf
                    · refine aw_iload_n rfl rfl d_X_next0_260 (aw_bipush (v := iv 41) cb_41 d_X_next0_261 ?_)
                      refine ai_icmp_eq h_y12 in_41 hf (tgt := 284) (by decide) d_X_next0_263 (fun hf => ?_) (fun hf => ?_)
                      · refine aw_iconst (v := iv 1) rfl d_X_next0_284 (aw_goto (tgt := 289) (by decide) d_X_next0_285 ?_)
                        exact hk22 1 I21 in_1 h_I21 hf
                      · refine aw_iload_n rfl rfl d_X_next0_266 (aw_bipush (v := iv 60) cb_60 d_X_next0_267 ?_)
                        refine ai_icmp_eq h_y12 in_60 hf (tgt := 284) (by decide) d_X_next0_269 (fun hf => ?_) (fun hf => ?_)
                        · refine aw_iconst (v := iv 1) rfl d_X_next0_284 (aw_goto (tgt := 289) (by decide) d_X_next0_285 ?_)
                          exact hk22 1 I21 in_1 h_I21 hf
                        · refine aw_iload_n rfl rfl d_X_next0_272 (aw_bipush (v := iv 61) cb_61 d_X_next0_273 ?_)
                          refine ai_icmp_eq h_y12 in_61 hf (tgt := 284) (by decide) d_X_next0_275 (fun hf => ?_) (fun hf => ?_)
                          · refine aw_iconst (v := iv 1) rfl d_X_next0_284 (aw_goto (tgt := 289) (by decide) d_X_next0_285 ?_)
                            exact hk22 1 I21 in_1 h_I21 hf
                          · refine aw_iload_n rfl rfl d_X_next0_278 (aw_bipush (v := iv 62) cb_62 d_X_next0_279 ?_)
                            refine ai_icmp_ne h_y12 in_62 hf (tgt := 288) (by decide) d_X_next0_281 (fun hf => ?_) (fun hf => ?_)
                            · refine aw_iconst (v := iv 0) rfl d_X_next0_288 ?_
                              exact hk22 0 I21 in_0 h_I21 hf
                            · refine aw_iconst (v := iv 1) rfl d_X_next0_284 (aw_goto (tgt := 289) (by decide) d_X_next0_285 ?_)
                              exact hk22 1 I21 in_1 h_I21 hf
        · refine aw_aload_n rfl rfl d_X_next0_121 (aw_iconst (v := iv 0) rfl d_X_next0_122 ?_)
          refine ai_puti hf h_I19 in_0 fl_X_190 h_o0 (by decide) rfl rfl rfl rfl d_X_next0_123 (fun I29 h_I29 hf => ?_)
          refine aw_weakB (lv2 := [.ref o0, uu, uu]) (wk_s (wk_u (wk_u wk_n))) ?_
          refine t_X_next0_126 fu _ o0 h_o0 ?_ fu I29 h_I29 hf
          · intro I43 h_I43 hf
            refine aw_aload_n rfl rfl d_X_next0_189 (aw_aload_n rfl rfl d_X_next0_190 (ai_geti fl_X_115 h_o0 (by decide) rfl d_X_next0_191 (aw_aload_n rfl rfl d_X_next0_194 (ai_geti fl_X_118 h_o0 (by decide) rfl d_X_next0_195 (ai_isub d_X_next0_198 (aw_iconst (v := iv 5) rfl d_X_next0_199 ?_))))))
            obtain ⟨k44, ek44, hf⟩ := of_zj hf
            have hk44 : ∀ (x46 : Int) (I45 : IMem), inr x46 → RG I45 → k44 x46 I45 = some r → Ai l b 8 y_X_next0 KM RM (Pv r) I45 208 [uu, uu, uu] [.int (iv x46), .ref o0] := by
              intro x46 I45 h_x46 h_I45 hf
              subst ek44
              refine ai_puti hf h_I45 h_x46 fl_X_178 h_o0 (by decide) rfl rfl rfl rfl d_X_next0_208 (fun I47 h_I47 hf => ?_)
              refine aw_goto (tgt := 306) (by decide) d_X_next0_211 ?_
              exact ai_retv rfl d_X_next0_306 hf h_I47
            refine ai_icmp_ge (wr32_in _) in_5 hf (tgt := 207) (by decide) d_X_next0_200 (fun hf => ?_) (fun hf => ?_)
            · refine aw_iconst (v := iv 1) rfl d_X_next0_207 ?_
              refine aw_weakB (lv2 := [uu, uu, uu]) (wk_u (wk_u (wk_u wk_n))) ?_
              exact hk44 1 I43 in_1 h_I43 hf
            · refine aw_iconst (v := iv 2) rfl d_X_next0_203 (aw_goto (tgt := 208) (by decide) d_X_next0_204 ?_)
              refine aw_weakB (lv2 := [uu, uu, uu]) (wk_u (wk_u (wk_u wk_n))) ?_
              exact hk44 2 I43 in_2 h_I43 hf
      · refine aw_weakB (lv2 := [.ref o0, uu, uu]) (wk_s (wk_u (wk_u wk_n))) ?_
        refine t_X_next0_76 fu _ o0 h_o0 ?_ fu I16 h_I16 hf
        · intro I55 h_I55 hf
          refine aw_aload_n rfl rfl d_X_next0_103 (aw_aload_n rfl rfl d_X_next0_104 ?_)
          obtain ⟨y56, I57, c58, hf⟩ := of_zb hf
          refine ai_callV (as := []) (d' := 7) (q := ("SinglesUpModel", zT9, 51)) mo_X_word lk_X_184 h_o0 rfl rfl rfl ⟨by decide, by decide⟩ rfl rfl (by decide) d_X_next0_105 (t_X_word fu o0 I55 h_I55 h_o0 c58) (fun h_y56 h_I57 => ?_)
          refine ai_puti hf h_I57 h_y56 fl_X_178 h_o0 (by decide) rfl rfl rfl rfl d_X_next0_108 (fun I59 h_I59 hf => ?_)
          refine aw_goto (tgt := 306) (by decide) d_X_next0_111 ?_
          exact ai_retv rfl d_X_next0_306 hf h_I59
    · refine aw_aload_n rfl rfl d_X_next0_61 (aw_iconst (v := iv 0) rfl d_X_next0_62 ?_)
      refine ai_puti hf h_I13 in_0 fl_X_178 h_o0 (by decide) rfl rfl rfl rfl d_X_next0_63 (fun I60 h_I60 hf => ?_)
      refine aw_goto (tgt := 306) (by decide) d_X_next0_66 ?_
      exact ai_retv rfl d_X_next0_306 hf h_I60
set_option maxRecDepth 20000 in
theorem t_X_bad (fu : Nat) (o0 : Nat) (a1 : Int) (I0 : IMem) (hI : RG I0) (h_o0 : KM[o0]? = some (12, 51)) (h_a1 : inr a1) {r : Int × IMem} (hf : f_X_bad fu o0 a1 I0 = some r) : Ss l b 1 y_X_bad KM RM [.ref o0, .int (iv a1)] (ivm I0) (Ps r) := by
  unfold f_X_bad at hf
  refine Ss.of (show Ai l b 1 y_X_bad KM RM (Ps r) I0 0 [.ref o0, .int (iv a1)] [] from ?_)
  refine aw_aload_n rfl rfl d_X_bad_0 (aw_iload_n rfl rfl d_X_bad_1 ?_)
  refine ai_puti hf hI h_a1 fl_X_193 h_o0 (by decide) rfl rfl rfl rfl d_X_bad_2 (fun I1 h_I1 hf => ?_)
  refine aw_aload_n rfl rfl d_X_bad_5 (aw_aload_n rfl rfl d_X_bad_6 (ai_geti fl_X_118 h_o0 (by decide) rfl d_X_bad_7 ?_))
  refine ai_puti hf h_I1 (h_I1 o0 15) fl_X_196 h_o0 (by decide) rfl rfl rfl rfl d_X_bad_10 (fun I2 h_I2 hf => ?_)
  refine aw_iconst (v := iv 0) rfl d_X_bad_13 ?_
  exact ai_retn rfl (nar_z (Or.inl rfl)) d_X_bad_14 hf in_0 h_I2
set_option maxRecDepth 20000 in
theorem t_X_need (fu : Nat) (o0 : Nat) (a1 : Int) (I0 : IMem) (hI : RG I0) (h_o0 : KM[o0]? = some (12, 51)) (h_a1 : inr a1) {r : Int × IMem} (hf : f_X_need fu o0 a1 I0 = some r) : Ss l b 9 y_X_need KM RM [.ref o0, .int (iv a1)] (ivm I0) (Ps r) := by
  unfold f_X_need at hf
  refine Ss.of (show Ai l b 9 y_X_need KM RM (Ps r) I0 0 [.ref o0, .int (iv a1)] [] from ?_)
  refine aw_aload_n rfl rfl d_X_need_0 (ai_geti fl_X_178 h_o0 (by decide) rfl d_X_need_1 (aw_iload_n rfl rfl d_X_need_4 ?_))
  refine ai_icmp_eq (hI o0 14) h_a1 hf (tgt := 14) (by decide) d_X_need_5 (fun hf => ?_) (fun hf => ?_)
  · refine aw_aload_n rfl rfl d_X_need_14 ?_
    obtain ⟨y1, I2, c3, hf⟩ := of_zb hf
    refine ai_callVv (as := []) (d' := 8) (q := ("SinglesUpModel", zT9, 51)) mo_X_next0 lk_X_202 h_o0 rfl rfl rfl ⟨by decide, by decide⟩ rfl rfl (by decide) d_X_need_15 (t_X_next0 fu o0 I0 hI h_o0 c3) (fun h_I2 => ?_)
    refine aw_iconst (v := iv 1) rfl d_X_need_18 ?_
    exact ai_retn rfl (nar_z (Or.inr rfl)) d_X_need_19 hf in_1 h_I2
  · refine aw_aload_n rfl rfl d_X_need_8 (aw_iconst (v := iv 1) rfl d_X_need_9 ?_)
    obtain ⟨y4, I5, c6, hf⟩ := of_zb hf
    refine ai_callV (as := [.int (iv 1)]) (d' := 1) (q := ("SinglesUpModel", zT9, 51)) mo_X_bad lk_X_199 h_o0 rfl rfl rfl ⟨by decide, by decide⟩ rfl rfl (by decide) d_X_need_10 (t_X_bad fu o0 1 I0 hI h_o0 in_1 c6) (fun h_y4 h_I5 => ?_)
    obtain ⟨g, hf⟩ := of_zg hf
    exact ai_retn rfl (nar_z g) d_X_need_13 hf h_y4 h_I5
set_option maxRecDepth 20000 in
theorem t_X_opens (fu : Nat) (o0 : Nat) (I0 : IMem) (hI : RG I0) (h_o0 : KM[o0]? = some (12, 51)) {r : Int × IMem} (hf : f_X_opens fu o0 I0 = some r) : Ss l b 9 y_X_opens KM RM [.ref o0] (ivm I0) (Ps r) := by
  unfold f_X_opens at hf
  refine Ss.of (show Ai l b 9 y_X_opens KM RM (Ps r) I0 0 [.ref o0] [] from ?_)
  refine aw_aload_n rfl rfl d_X_opens_0 (ai_geti fl_X_208 h_o0 (by decide) rfl d_X_opens_1 (aw_bipush (v := iv 8) cb_8 d_X_opens_4 ?_))
  refine ai_icmp_ne (hI o0 20) in_8 hf (tgt := 15) (by decide) d_X_opens_6 (fun hf => ?_) (fun hf => ?_)
  · refine aw_aload_n rfl rfl d_X_opens_15 (aw_dup rfl d_X_opens_16 (ai_geti fl_X_208 h_o0 (by decide) rfl d_X_opens_17 (aw_iconst (v := iv 1) rfl d_X_opens_20 (ai_iadd d_X_opens_21 ?_))))
    refine ai_puti hf hI (wr32_in _) fl_X_208 h_o0 (by decide) rfl rfl rfl rfl d_X_opens_22 (fun I1 h_I1 hf => ?_)
    refine aw_aload_n rfl rfl d_X_opens_25 ?_
    obtain ⟨y2, I3, c4, hf⟩ := of_zb hf
    refine ai_callVv (as := []) (d' := 8) (q := ("SinglesUpModel", zT9, 51)) mo_X_next0 lk_X_202 h_o0 rfl rfl rfl ⟨by decide, by decide⟩ rfl rfl (by decide) d_X_opens_26 (t_X_next0 fu o0 I1 h_I1 h_o0 c4) (fun h_I3 => ?_)
    refine aw_iconst (v := iv 1) rfl d_X_opens_29 ?_
    exact ai_retn rfl (nar_z (Or.inr rfl)) d_X_opens_30 hf in_1 h_I3
  · refine aw_aload_n rfl rfl d_X_opens_9 (aw_iconst (v := iv 3) rfl d_X_opens_10 ?_)
    obtain ⟨y5, I6, c7, hf⟩ := of_zb hf
    refine ai_callV (as := [.int (iv 3)]) (d' := 1) (q := ("SinglesUpModel", zT9, 51)) mo_X_bad lk_X_199 h_o0 rfl rfl rfl ⟨by decide, by decide⟩ rfl rfl (by decide) d_X_opens_11 (t_X_bad fu o0 3 I0 hI h_o0 in_3 c7) (fun h_y5 h_I6 => ?_)
    obtain ⟨g, hf⟩ := of_zg hf
    exact ai_retn rfl (nar_z g) d_X_opens_14 hf h_y5 h_I6
set_option maxRecDepth 20000 in
theorem t_X_number (fu : Nat) (o0 : Nat) (a1 : Int) (a2 : Int) (I0 : IMem) (hI : RG I0) (h_o0 : KM[o0]? = some (12, 51)) (h_a1 : inr a1) (h_a2 : inr a2) {r : Int × IMem} (hf : f_X_number fu o0 a1 a2 I0 = some r) : Ss l b 9 y_X_number KM RM [.ref o0, .int (iv a1), .int (iv a2)] (ivm I0) (Ps r) := by
  unfold f_X_number at hf
  refine Ss.of (show Ai l b 9 y_X_number KM RM (Ps r) I0 0 [.ref o0, .int (iv a1), .int (iv a2)] [] from ?_)
  refine aw_aload_n rfl rfl d_X_number_0 (ai_geti fl_X_178 h_o0 (by decide) rfl d_X_number_1 (aw_iconst (v := iv 2) rfl d_X_number_4 ?_))
  refine ai_icmp_eq (hI o0 14) in_2 hf (tgt := 14) (by decide) d_X_number_5 (fun hf => ?_) (fun hf => ?_)
  · refine aw_aload_n rfl rfl d_X_number_14 (ai_geti fl_X_190 h_o0 (by decide) rfl d_X_number_15 (aw_iload_n rfl rfl d_X_number_18 (aw_iload_n rfl rfl d_X_number_19 ?_)))
    obtain ⟨y1, I2, c3, hf⟩ := of_zb hf
    refine ai_callS (as := [.int (iv (I0 o0 16)), .int (iv a1), .int (iv a2)]) (d' := 1) mo_X_isIn lk_X_98 rfl ⟨by decide, by decide⟩ rfl rfl (by decide) d_X_number_20 (t_X_isIn fu (I0 o0 16) a1 a2 I0 hI (hI o0 16) h_a1 h_a2 c3) (fun h_y1 h_I2 => ?_)
    refine ai_if_ne h_y1 hf (tgt := 32) (by decide) d_X_number_23 (fun hf => ?_) (fun hf => ?_)
    · refine aw_aload_n rfl rfl d_X_number_32 ?_
      obtain ⟨y4, I5, c6, hf⟩ := of_zb hf
      refine ai_callVv (as := []) (d' := 8) (q := ("SinglesUpModel", zT9, 51)) mo_X_next0 lk_X_202 h_o0 rfl rfl rfl ⟨by decide, by decide⟩ rfl rfl (by decide) d_X_number_33 (t_X_next0 fu o0 I2 h_I2 h_o0 c6) (fun h_I5 => ?_)
      refine aw_iconst (v := iv 1) rfl d_X_number_36 ?_
      exact ai_retn rfl (nar_z (Or.inr rfl)) d_X_number_37 hf in_1 h_I5
    · refine aw_aload_n rfl rfl d_X_number_26 (aw_iconst (v := iv 2) rfl d_X_number_27 ?_)
      obtain ⟨y7, I8, c9, hf⟩ := of_zb hf
      refine ai_callV (as := [.int (iv 2)]) (d' := 1) (q := ("SinglesUpModel", zT9, 51)) mo_X_bad lk_X_199 h_o0 rfl rfl rfl ⟨by decide, by decide⟩ rfl rfl (by decide) d_X_number_28 (t_X_bad fu o0 2 I2 h_I2 h_o0 in_2 c9) (fun h_y7 h_I8 => ?_)
      obtain ⟨g, hf⟩ := of_zg hf
      exact ai_retn rfl (nar_z g) d_X_number_31 hf h_y7 h_I8
  · refine aw_aload_n rfl rfl d_X_number_8 (aw_iconst (v := iv 1) rfl d_X_number_9 ?_)
    obtain ⟨y10, I11, c12, hf⟩ := of_zb hf
    refine ai_callV (as := [.int (iv 1)]) (d' := 1) (q := ("SinglesUpModel", zT9, 51)) mo_X_bad lk_X_199 h_o0 rfl rfl rfl ⟨by decide, by decide⟩ rfl rfl (by decide) d_X_number_10 (t_X_bad fu o0 1 I0 hI h_o0 in_1 c12) (fun h_y10 h_I11 => ?_)
    obtain ⟨g, hf⟩ := of_zg hf
    exact ai_retn rfl (nar_z g) d_X_number_13 hf h_y10 h_I11
set_option maxRecDepth 20000 in
theorem t_X_unit (fu : Nat) (o0 : Nat) (I0 : IMem) (hI : RG I0) (h_o0 : KM[o0]? = some (12, 51)) {r : Int × IMem} (hf : f_X_unit fu o0 I0 = some r) : Ss l b 9 y_X_unit KM RM [.ref o0] (ivm I0) (Ps r) := by
  unfold f_X_unit at hf
  refine Ss.of (show Ai l b 9 y_X_unit KM RM (Ps r) I0 0 [.ref o0, uu] [] from ?_)
  refine aw_aload_n rfl rfl d_X_unit_0 (ai_geti fl_X_178 h_o0 (by decide) rfl d_X_unit_1 (aw_bipush (v := iv 41) cb_41 d_X_unit_4 (aw_bipush (v := iv 51) cb_51 d_X_unit_6 ?_)))
  obtain ⟨y1, I2, c3, hf⟩ := of_zb hf
  refine ai_callS (as := [.int (iv (I0 o0 14)), .int (iv 41), .int (iv 51)]) (d' := 1) mo_X_isIn lk_X_98 rfl ⟨by decide, by decide⟩ rfl rfl (by decide) d_X_unit_8 (t_X_isIn fu (I0 o0 14) 41 51 I0 hI (hI o0 14) in_41 in_51 c3) (fun h_y1 h_I2 => ?_)
  refine aw_istore_n (lv2 := [.ref o0, .int (iv y1)]) rfl (Nat.le_of_ble_eq_true rfl) rfl d_X_unit_11 (aw_aload_n rfl rfl d_X_unit_12 (ai_geti fl_X_178 h_o0 (by decide) rfl d_X_unit_13 (aw_iconst (v := iv 2) rfl d_X_unit_16 ?_)))
  obtain ⟨k4, ek4, hf⟩ := of_zj hf
  have hk4 : ∀  (I5 : IMem), RG I5 → k4 I5 = some r → Ai l b 9 y_X_unit KM RM (Ps r) I5 30 [.ref o0, .int (iv y1)] [] := by
    intro I5 h_I5 hf
    subst ek4
    refine aw_aload_n rfl rfl d_X_unit_30 (aw_iload_n rfl rfl d_X_unit_31 ?_)
    obtain ⟨k6, ek6, hf⟩ := of_zj hf
    have hk6 : ∀ (x8 : Int) (I7 : IMem), inr x8 → RG I7 → k6 x8 I7 = some r → Ai l b 9 y_X_unit KM RM (Ps r) I7 46 [.ref o0, uu] [.int (iv x8), .ref o0] := by
      intro x8 I7 h_x8 h_I7 hf
      subst ek6
      refine aw_aload_n rfl rfl d_X_unit_46 (ai_geti fl_X_190 h_o0 (by decide) rfl d_X_unit_47 ?_)
      obtain ⟨y9, I10, c11, hf⟩ := of_zb hf
      refine ai_callVv (as := [.int (iv x8), .int (iv (I7 o0 16))]) (d' := 1) (q := ("SinglesUpModel", zT9, 51)) mo_X_lay lk_X_215 h_o0 rfl rfl rfl ⟨by decide, by decide⟩ rfl rfl (by decide) d_X_unit_50 (t_X_lay fu o0 x8 (I7 o0 16) I7 h_I7 h_o0 h_x8 (h_I7 o0 16) c11) (fun h_I10 => ?_)
      refine aw_aload_n rfl rfl d_X_unit_53 ?_
      obtain ⟨y12, I13, c14, hf⟩ := of_zb hf
      refine ai_callVv (as := []) (d' := 8) (q := ("SinglesUpModel", zT9, 51)) mo_X_next0 lk_X_202 h_o0 rfl rfl rfl ⟨by decide, by decide⟩ rfl rfl (by decide) d_X_unit_54 (t_X_next0 fu o0 I10 h_I10 h_o0 c14) (fun h_I13 => ?_)
      refine aw_iconst (v := iv 1) rfl d_X_unit_57 ?_
      exact ai_retn rfl (nar_z (Or.inr rfl)) d_X_unit_58 hf in_1 h_I13
    refine ai_if_eq h_y1 hf (tgt := 45) (by decide) d_X_unit_32 (fun hf => ?_) (fun hf => ?_)
    · refine aw_iconst (v := iv 0) rfl d_X_unit_45 ?_
      refine aw_weakB (lv2 := [.ref o0, uu]) (wk_s (wk_u wk_n)) ?_
      exact hk6 0 I5 in_0 h_I5 hf
    · refine aw_aload_n rfl rfl d_X_unit_35 (ai_geti fl_X_178 h_o0 (by decide) rfl d_X_unit_36 (aw_bipush (v := iv 40) cb_40 d_X_unit_39 (ai_isub d_X_unit_41 (aw_goto (tgt := 46) (by decide) d_X_unit_42 ?_))))
      refine aw_weakB (lv2 := [.ref o0, uu]) (wk_s (wk_u wk_n)) ?_
      exact hk6 (wr32 ((I5 o0 14) - 40)) I5 (wr32_in _) h_I5 hf
  refine ai_icmp_eq (h_I2 o0 14) in_2 hf (tgt := 30) (by decide) d_X_unit_17 (fun hf => ?_) (fun hf => ?_)
  · exact hk4 I2 h_I2 hf
  · refine aw_iload_n rfl rfl d_X_unit_20 ?_
    refine ai_if_ne h_y1 hf (tgt := 30) (by decide) d_X_unit_21 (fun hf => ?_) (fun hf => ?_)
    · exact hk4 I2 h_I2 hf
    · refine aw_aload_n rfl rfl d_X_unit_24 (aw_iconst (v := iv 1) rfl d_X_unit_25 ?_)
      obtain ⟨y15, I16, c17, hf⟩ := of_zb hf
      refine ai_callV (as := [.int (iv 1)]) (d' := 1) (q := ("SinglesUpModel", zT9, 51)) mo_X_bad lk_X_199 h_o0 rfl rfl rfl ⟨by decide, by decide⟩ rfl rfl (by decide) d_X_unit_26 (t_X_bad fu o0 1 I2 h_I2 h_o0 in_1 c17) (fun h_y15 h_I16 => ?_)
      obtain ⟨g, hf⟩ := of_zg hf
      exact ai_retn rfl (nar_z g) d_X_unit_29 hf h_y15 h_I16
set_option maxRecDepth 20000 in
theorem t_X_product_9 (fu : Nat) {r : Int × IMem} (o0 : Nat) (h_o0 : KM[o0]? = some (12, 51)) : ∀ (m : Nat) (I0 : IMem), RG I0 → f_X_product_9 fu o0 m I0 = some r → Ai l b 10 y_X_product KM RM (Ps r) I0 9 [.ref o0, uu, uu] [] := by
  intro m
  induction m with
  | zero => intro  I0  h_I0 hf; cases hf
  | succ m ih =>
    intro  I0  h_I0 hf
    replace hf : fb_X_product_9 fu o0 (f_X_product_9 fu o0 m) I0 = some r := hf
    unfold fb_X_product_9 at hf
    refine aw_aload_n rfl rfl d_X_product_9 (ai_geti fl_X_178 h_o0 (by decide) rfl d_X_product_10 (aw_sipush (v := iv 142) cs_142 d_X_product_13 ?_))
    obtain ⟨k4, ek4, hf⟩ := of_zj hf
    have hk4 : ∀  (I5 : IMem), RG I5 → k4 I5 = some r → Ai l b 10 y_X_product KM RM (Ps r) I5 29 [.ref o0, uu, uu] [] := by
      intro I5 h_I5 hf
      subst ek4
      refine aw_aload_n rfl rfl d_X_product_29 (ai_geti fl_X_178 h_o0 (by decide) rfl d_X_product_30 (aw_sipush (v := iv 147) cs_147 d_X_product_33 ?_))
      obtain ⟨k6, ek6, hf⟩ := of_zj hf
      have hk6 : ∀ (x8 : Int) (I7 : IMem), inr x8 → RG I7 → k6 x8 I7 = some r → Ai l b 10 y_X_product KM RM (Ps r) I7 44 [.ref o0, uu, uu] [.int (iv x8)] := by
        intro x8 I7 h_x8 h_I7 hf
        subst ek6
        refine aw_istore_n (lv2 := [.ref o0, .int (iv x8), uu]) rfl (Nat.le_of_ble_eq_true rfl) rfl d_X_product_44 (aw_aload_n rfl rfl d_X_product_45 ?_)
        obtain ⟨y9, I10, c11, hf⟩ := of_zb hf
        refine ai_callVv (as := []) (d' := 8) (q := ("SinglesUpModel", zT9, 51)) mo_X_next0 lk_X_202 h_o0 rfl rfl rfl ⟨by decide, by decide⟩ rfl rfl (by decide) d_X_product_46 (t_X_next0 fu o0 I7 h_I7 h_o0 c11) (fun h_I10 => ?_)
        refine aw_iload_n rfl rfl d_X_product_49 ?_
        refine ai_if_eq h_x8 hf (tgt := 81) (by decide) d_X_product_50 (fun hf => ?_) (fun hf => ?_)
        · refine aw_aload_n rfl rfl d_X_product_81 ?_
          obtain ⟨y12, I13, c14, hf⟩ := of_zb hf
          refine ai_callV (as := []) (d' := 9) (q := ("SinglesUpModel", zT9, 51)) mo_X_unit lk_X_219 h_o0 rfl rfl rfl ⟨by decide, by decide⟩ rfl rfl (by decide) d_X_product_82 (t_X_unit fu o0 I10 h_I10 h_o0 c14) (fun h_y12 h_I13 => ?_)
          refine ai_if_ne h_y12 hf (tgt := 90) (by decide) d_X_product_85 (fun hf => ?_) (fun hf => ?_)
          · refine aw_aload_n rfl rfl d_X_product_90 (aw_bipush (v := iv 14) cb_14 d_X_product_91 (aw_iconst (v := iv 0) rfl d_X_product_93 ?_))
            obtain ⟨y15, I16, c17, hf⟩ := of_zb hf
            refine ai_callVv (as := [.int (iv 14), .int (iv 0)]) (d' := 1) (q := ("SinglesUpModel", zT9, 51)) mo_X_lay lk_X_215 h_o0 rfl rfl rfl ⟨by decide, by decide⟩ rfl rfl (by decide) d_X_product_94 (t_X_lay fu o0 14 0 I13 h_I13 h_o0 in_14 in_0 c17) (fun h_I16 => ?_)
            refine aw_goto (tgt := 9) (by decide) d_X_product_97 ?_
            refine aw_weakB (lv2 := [.ref o0, uu, uu]) (wk_s (wk_u (wk_u wk_n))) ?_
            exact ih I16 h_I16 hf
          · refine aw_iconst (v := iv 0) rfl d_X_product_88 ?_
            exact ai_retn rfl (nar_z (Or.inl rfl)) d_X_product_89 hf in_0 h_I13
        · refine aw_aload_n rfl rfl d_X_product_53 (ai_geti fl_X_190 h_o0 (by decide) rfl d_X_product_54 ?_)
          refine ai_name hf (h_I10 o0 16) (fun x18 h_x18 hf => ?_)
          refine aw_istore_n (lv2 := [.ref o0, .int (iv x8), .int (iv x18)]) rfl (Nat.le_of_ble_eq_true rfl) rfl d_X_product_57 ?_
          refine aw_aload_n rfl rfl d_X_product_58 (aw_iconst (v := iv 1) rfl d_X_product_59 (aw_sipush (v := iv 9999) cs_9999 d_X_product_60 ?_))
          obtain ⟨y19, I20, c21, hf⟩ := of_zb hf
          refine ai_callV (as := [.int (iv 1), .int (iv 9999)]) (d' := 9) (q := ("SinglesUpModel", zT9, 51)) mo_X_number lk_X_222 h_o0 rfl rfl rfl ⟨by decide, by decide⟩ rfl rfl (by decide) d_X_product_63 (t_X_number fu o0 1 9999 I10 h_I10 h_o0 in_1 in_9999 c21) (fun h_y19 h_I20 => ?_)
          refine ai_if_ne h_y19 hf (tgt := 71) (by decide) d_X_product_66 (fun hf => ?_) (fun hf => ?_)
          · refine aw_aload_n rfl rfl d_X_product_71 (aw_bipush (v := iv 15) cb_15 d_X_product_72 (aw_iload_n rfl rfl d_X_product_74 ?_))
            obtain ⟨y22, I23, c24, hf⟩ := of_zb hf
            refine ai_callVv (as := [.int (iv 15), .int (iv x18)]) (d' := 1) (q := ("SinglesUpModel", zT9, 51)) mo_X_lay lk_X_215 h_o0 rfl rfl rfl ⟨by decide, by decide⟩ rfl rfl (by decide) d_X_product_75 (t_X_lay fu o0 15 x18 I20 h_I20 h_o0 in_15 h_x18 c24) (fun h_I23 => ?_)
            refine aw_goto (tgt := 97) (by decide) d_X_product_78 (aw_goto (tgt := 9) (by decide) d_X_product_97 ?_)
            refine aw_weakB (lv2 := [.ref o0, uu, uu]) (wk_s (wk_u (wk_u wk_n))) ?_
            exact ih I23 h_I23 hf
          · refine aw_iconst (v := iv 0) rfl d_X_product_69 ?_
            exact ai_retn rfl (nar_z (Or.inl rfl)) d_X_product_70 hf in_0 h_I20
      refine ai_icmp_ne (h_I5 o0 14) in_147 hf (tgt := 43) (by decide) d_X_product_36 (fun hf => ?_) (fun hf => ?_)
      · refine aw_iconst (v := iv 0) rfl d_X_product_43 ?_
        exact hk6 0 I5 in_0 h_I5 hf
      · refine aw_iconst (v := iv 1) rfl d_X_product_39 (aw_goto (tgt := 44) (by decide) d_X_product_40 ?_)
        exact hk6 1 I5 in_1 h_I5 hf
    refine ai_icmp_eq (h_I0 o0 14) in_142 hf (tgt := 29) (by decide) d_X_product_16 (fun hf => ?_) (fun hf => ?_)
    · exact hk4 I0 h_I0 hf
    · refine aw_aload_n rfl rfl d_X_product_19 (ai_geti fl_X_178 h_o0 (by decide) rfl d_X_product_20 (aw_sipush (v := iv 147) cs_147 d_X_product_23 ?_))
      refine ai_icmp_ne (h_I0 o0 14) in_147 hf (tgt := 100) (by decide) d_X_product_26 (fun hf => ?_) (fun hf => ?_)
      · refine aw_iconst (v := iv 1) rfl d_X_product_100 ?_
        exact ai_retn rfl (nar_z (Or.inr rfl)) d_X_product_101 hf in_1 h_I0
      · exact hk4 I0 h_I0 hf
set_option maxRecDepth 20000 in
theorem t_X_product (fu : Nat) (o0 : Nat) (I0 : IMem) (hI : RG I0) (h_o0 : KM[o0]? = some (12, 51)) {r : Int × IMem} (hf : f_X_product fu o0 I0 = some r) : Ss l b 10 y_X_product KM RM [.ref o0] (ivm I0) (Ps r) := by
  unfold f_X_product at hf
  refine Ss.of (show Ai l b 10 y_X_product KM RM (Ps r) I0 0 [.ref o0, uu, uu] [] from ?_)
  refine aw_aload_n rfl rfl d_X_product_0 ?_
  obtain ⟨y1, I2, c3, hf⟩ := of_zb hf
  refine ai_callV (as := []) (d' := 9) (q := ("SinglesUpModel", zT9, 51)) mo_X_unit lk_X_219 h_o0 rfl rfl rfl ⟨by decide, by decide⟩ rfl rfl (by decide) d_X_product_1 (t_X_unit fu o0 I0 hI h_o0 c3) (fun h_y1 h_I2 => ?_)
  refine ai_if_ne h_y1 hf (tgt := 9) (by decide) d_X_product_4 (fun hf => ?_) (fun hf => ?_)
  · refine t_X_product_9 fu o0 h_o0 fu I2 h_I2 hf
  · refine aw_iconst (v := iv 0) rfl d_X_product_7 ?_
    exact ai_retn rfl (nar_z (Or.inl rfl)) d_X_product_8 hf in_0 h_I2
set_option maxRecDepth 20000 in
theorem t_X_sumUp_9 (fu : Nat) {r : Int × IMem} (o0 : Nat) (h_o0 : KM[o0]? = some (12, 51)) : ∀ (m : Nat) (I0 : IMem), RG I0 → f_X_sumUp_9 fu o0 m I0 = some r → Ai l b 11 y_X_sumUp KM RM (Ps r) I0 9 [.ref o0, uu] [] := by
  intro m
  induction m with
  | zero => intro  I0  h_I0 hf; cases hf
  | succ m ih =>
    intro  I0  h_I0 hf
    replace hf : fb_X_sumUp_9 fu o0 (f_X_sumUp_9 fu o0 m) I0 = some r := hf
    unfold fb_X_sumUp_9 at hf
    refine aw_aload_n rfl rfl d_X_sumUp_9 (ai_geti fl_X_178 h_o0 (by decide) rfl d_X_sumUp_10 (aw_sipush (v := iv 143) cs_143 d_X_sumUp_13 ?_))
    obtain ⟨k4, ek4, hf⟩ := of_zj hf
    have hk4 : ∀  (I5 : IMem), RG I5 → k4 I5 = some r → Ai l b 11 y_X_sumUp KM RM (Ps r) I5 29 [.ref o0, uu] [] := by
      intro I5 h_I5 hf
      subst ek4
      refine aw_aload_n rfl rfl d_X_sumUp_29 (ai_geti fl_X_178 h_o0 (by decide) rfl d_X_sumUp_30 (aw_sipush (v := iv 143) cs_143 d_X_sumUp_33 ?_))
      obtain ⟨k6, ek6, hf⟩ := of_zj hf
      have hk6 : ∀ (x8 : Int) (I7 : IMem), inr x8 → RG I7 → k6 x8 I7 = some r → Ai l b 11 y_X_sumUp KM RM (Ps r) I7 46 [.ref o0, uu] [.int (iv x8)] := by
        intro x8 I7 h_x8 h_I7 hf
        subst ek6
        refine aw_istore_n (lv2 := [.ref o0, .int (iv x8)]) rfl (Nat.le_of_ble_eq_true rfl) rfl d_X_sumUp_46 (aw_aload_n rfl rfl d_X_sumUp_47 ?_)
        obtain ⟨y9, I10, c11, hf⟩ := of_zb hf
        refine ai_callVv (as := []) (d' := 8) (q := ("SinglesUpModel", zT9, 51)) mo_X_next0 lk_X_202 h_o0 rfl rfl rfl ⟨by decide, by decide⟩ rfl rfl (by decide) d_X_sumUp_48 (t_X_next0 fu o0 I7 h_I7 h_o0 c11) (fun h_I10 => ?_)
        refine aw_aload_n rfl rfl d_X_sumUp_51 ?_
        obtain ⟨y12, I13, c14, hf⟩ := of_zb hf
        refine ai_callV (as := []) (d' := 10) (q := ("SinglesUpModel", zT9, 51)) mo_X_product lk_X_211 h_o0 rfl rfl rfl ⟨by decide, by decide⟩ rfl rfl (by decide) d_X_sumUp_52 (t_X_product fu o0 I10 h_I10 h_o0 c14) (fun h_y12 h_I13 => ?_)
        refine ai_if_ne h_y12 hf (tgt := 60) (by decide) d_X_sumUp_55 (fun hf => ?_) (fun hf => ?_)
        · refine aw_aload_n rfl rfl d_X_sumUp_60 (aw_iload_n rfl rfl d_X_sumUp_61 (aw_iconst (v := iv 0) rfl d_X_sumUp_62 ?_))
          obtain ⟨y15, I16, c17, hf⟩ := of_zb hf
          refine ai_callVv (as := [.int (iv x8), .int (iv 0)]) (d' := 1) (q := ("SinglesUpModel", zT9, 51)) mo_X_lay lk_X_215 h_o0 rfl rfl rfl ⟨by decide, by decide⟩ rfl rfl (by decide) d_X_sumUp_63 (t_X_lay fu o0 x8 0 I13 h_I13 h_o0 h_x8 in_0 c17) (fun h_I16 => ?_)
          refine aw_goto (tgt := 9) (by decide) d_X_sumUp_66 ?_
          refine aw_weakB (lv2 := [.ref o0, uu]) (wk_s (wk_u wk_n)) ?_
          exact ih I16 h_I16 hf
        · refine aw_iconst (v := iv 0) rfl d_X_sumUp_58 ?_
          exact ai_retn rfl (nar_z (Or.inl rfl)) d_X_sumUp_59 hf in_0 h_I13
      refine ai_icmp_ne (h_I5 o0 14) in_143 hf (tgt := 44) (by decide) d_X_sumUp_36 (fun hf => ?_) (fun hf => ?_)
      · refine aw_bipush (v := iv 13) cb_13 d_X_sumUp_44 ?_
        exact hk6 13 I5 in_13 h_I5 hf
      · refine aw_bipush (v := iv 12) cb_12 d_X_sumUp_39 (aw_goto (tgt := 46) (by decide) d_X_sumUp_41 ?_)
        exact hk6 12 I5 in_12 h_I5 hf
    refine ai_icmp_eq (h_I0 o0 14) in_143 hf (tgt := 29) (by decide) d_X_sumUp_16 (fun hf => ?_) (fun hf => ?_)
    · exact hk4 I0 h_I0 hf
    · refine aw_aload_n rfl rfl d_X_sumUp_19 (ai_geti fl_X_178 h_o0 (by decide) rfl d_X_sumUp_20 (aw_sipush (v := iv 145) cs_145 d_X_sumUp_23 ?_))
      refine ai_icmp_ne (h_I0 o0 14) in_145 hf (tgt := 69) (by decide) d_X_sumUp_26 (fun hf => ?_) (fun hf => ?_)
      · refine aw_iconst (v := iv 1) rfl d_X_sumUp_69 ?_
        exact ai_retn rfl (nar_z (Or.inr rfl)) d_X_sumUp_70 hf in_1 h_I0
      · exact hk4 I0 h_I0 hf
set_option maxRecDepth 20000 in
theorem t_X_sumUp (fu : Nat) (o0 : Nat) (I0 : IMem) (hI : RG I0) (h_o0 : KM[o0]? = some (12, 51)) {r : Int × IMem} (hf : f_X_sumUp fu o0 I0 = some r) : Ss l b 11 y_X_sumUp KM RM [.ref o0] (ivm I0) (Ps r) := by
  unfold f_X_sumUp at hf
  refine Ss.of (show Ai l b 11 y_X_sumUp KM RM (Ps r) I0 0 [.ref o0, uu] [] from ?_)
  refine aw_aload_n rfl rfl d_X_sumUp_0 ?_
  obtain ⟨y1, I2, c3, hf⟩ := of_zb hf
  refine ai_callV (as := []) (d' := 10) (q := ("SinglesUpModel", zT9, 51)) mo_X_product lk_X_211 h_o0 rfl rfl rfl ⟨by decide, by decide⟩ rfl rfl (by decide) d_X_sumUp_1 (t_X_product fu o0 I0 hI h_o0 c3) (fun h_y1 h_I2 => ?_)
  refine ai_if_ne h_y1 hf (tgt := 9) (by decide) d_X_sumUp_4 (fun hf => ?_) (fun hf => ?_)
  · refine t_X_sumUp_9 fu o0 h_o0 fu I2 h_I2 hf
  · refine aw_iconst (v := iv 0) rfl d_X_sumUp_7 ?_
    exact ai_retn rfl (nar_z (Or.inl rfl)) d_X_sumUp_8 hf in_0 h_I2
end
