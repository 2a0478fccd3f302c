/-! the class: shallow functions and the machine -/
abbrev y_S_state : MI := (⟨"SinglesUp", "state", "(I)I"⟩, prog_1_method_2_code, 3, some .int)
theorem ck_S_state_0 : (y_S_state.2.1.data.toList.drop 0).take 32 = [42, 180, 0, 12, 180, 0, 57, 61, 42, 180, 0, 12, 27, 181, 0, 57, 28, 172] := by decide +kernel
theorem d_S_state_0 : decode y_S_state.2.1 0 = .ok (.aload_n 0, 1) := op_aload_n0 (gk (k := 0) (t := 0) ck_S_state_0 rfl)
theorem fl_S_12 : FL "SinglesUp" 12 8 0 := ⟨"SinglesUp", zT8, 9, rfl, by decide, rfl, Or.inl (tw_c2 92 (by decide +kernel) rfl)⟩
theorem rc_8_0 : ∀ o, KC[o]? = some (11, 9) → RC o 0 = some (o + 1) ∧ KC[o + 1]? = some (5, 14) := by
  intro o h
  have hl : o < 166 := (List.getElem?_eq_some_iff.mp h).1
  exact (by decide +kernel : ∀ o, o < 166 → KC[o]? = some (11, 9) → RC o 0 = some (o + 1) ∧ KC[o + 1]? = some (5, 14)) o hl h
theorem d_S_state_1 : decode y_S_state.2.1 1 = .ok (.getfield 12, 3) := op_getfield (gk (k := 0) (t := 1) ck_S_state_0 rfl) (gk (k := 0) (t := 2) ck_S_state_0 rfl) (gk (k := 0) (t := 3) ck_S_state_0 rfl) rfl
theorem fl_S_57 : FL "SinglesUp" 57 2 6 := ⟨"SinglesUp$Hill", zT2, 14, rfl, by decide, rfl, Or.inr ⟨"SinglesUp", nw_in 102 (by decide +kernel) rfl⟩⟩
theorem d_S_state_4 : decode y_S_state.2.1 4 = .ok (.getfield 57, 3) := op_getfield (gk (k := 0) (t := 4) ck_S_state_0 rfl) (gk (k := 0) (t := 5) ck_S_state_0 rfl) (gk (k := 0) (t := 6) ck_S_state_0 rfl) rfl
theorem d_S_state_7 : decode y_S_state.2.1 7 = .ok (.istore_n 2, 1) := op_istore_n2 (gk (k := 0) (t := 7) ck_S_state_0 rfl)
theorem d_S_state_8 : decode y_S_state.2.1 8 = .ok (.aload_n 0, 1) := op_aload_n0 (gk (k := 0) (t := 8) ck_S_state_0 rfl)
theorem d_S_state_9 : decode y_S_state.2.1 9 = .ok (.getfield 12, 3) := op_getfield (gk (k := 0) (t := 9) ck_S_state_0 rfl) (gk (k := 0) (t := 10) ck_S_state_0 rfl) (gk (k := 0) (t := 11) ck_S_state_0 rfl) rfl
theorem d_S_state_12 : decode y_S_state.2.1 12 = .ok (.iload_n 1, 1) := op_iload_n1 (gk (k := 0) (t := 12) ck_S_state_0 rfl)
theorem d_S_state_13 : decode y_S_state.2.1 13 = .ok (.putfield 57, 3) := op_putfield (gk (k := 0) (t := 13) ck_S_state_0 rfl) (gk (k := 0) (t := 14) ck_S_state_0 rfl) (gk (k := 0) (t := 15) ck_S_state_0 rfl) rfl
theorem d_S_state_16 : decode y_S_state.2.1 16 = .ok (.iload_n 2, 1) := op_iload_n2 (gk (k := 0) (t := 16) ck_S_state_0 rfl)
theorem d_S_state_17 : decode y_S_state.2.1 17 = .ok (.ireturn, 1) := op_ireturn (gk (k := 0) (t := 17) ck_S_state_0 rfl)
abbrev y_C_clear : MI := (⟨"SinglesUp$Chair", "clear", "(I)V"⟩, prog_2_method_2_code, 2, none)
theorem ck_C_clear_0 : (y_C_clear.2.1.data.toList.drop 0).take 32 = [42, 180, 0, 9, 3, 184, 0, 34, 42, 27, 181, 0, 30, 42, 3, 181, 0, 40, 42, 3, 181, 0, 43, 42, 3, 181, 0, 46, 42, 3, 181, 0] := by decide +kernel
theorem d_C_clear_0 : decode y_C_clear.2.1 0 = .ok (.aload_n 0, 1) := op_aload_n0 (gk (k := 0) (t := 0) ck_C_clear_0 rfl)
theorem fl_C_9 : FL "SinglesUp$Chair" 9 0 0 := ⟨"SinglesUp$Chair", zT0, 12, rfl, by decide, rfl, Or.inl (tw_c1 162 (by decide +kernel) rfl)⟩
theorem rc_0_0 : ∀ o, KC[o]? = some (3, 12) → RC o 0 = some (o + 1) ∧ KC[o + 1]? = some (0, 240) := by
  intro o h
  have hl : o < 166 := (List.getElem?_eq_some_iff.mp h).1
  exact (by decide +kernel : ∀ o, o < 166 → KC[o]? = some (3, 12) → RC o 0 = some (o + 1) ∧ KC[o + 1]? = some (0, 240)) o hl h
theorem d_C_clear_1 : decode y_C_clear.2.1 1 = .ok (.getfield 9, 3) := op_getfield (gk (k := 0) (t := 1) ck_C_clear_0 rfl) (gk (k := 0) (t := 2) ck_C_clear_0 rfl) (gk (k := 0) (t := 3) ck_C_clear_0 rfl) rfl
theorem d_C_clear_4 : decode y_C_clear.2.1 4 = .ok (.iconst 0, 1) := op_iconst0 (gk (k := 0) (t := 4) ck_C_clear_0 rfl)
theorem lk_C_34 : LkS "SinglesUp$Chair" 34 y_JA_fill := ⟨tw_c1 42 (by decide +kernel) rfl, Or.inl (tw_c2 139 (by decide +kernel) rfl)⟩
set_option maxRecDepth 100000 in
theorem mo_JA_fill : MOk y_JA_fill 2 := ⟨by decide +kernel, tw_c1 43 rfl rfl, tw_c1 4 (by decide +kernel) rfl, by decide +kernel, by decide +kernel, by decide +kernel⟩
theorem d_C_clear_5 : decode y_C_clear.2.1 5 = .ok (.invokestatic 34, 3) := op_invokestatic (gk (k := 0) (t := 5) ck_C_clear_0 rfl) (gk (k := 0) (t := 6) ck_C_clear_0 rfl) (gk (k := 0) (t := 7) ck_C_clear_0 rfl) rfl
theorem d_C_clear_8 : decode y_C_clear.2.1 8 = .ok (.aload_n 0, 1) := op_aload_n0 (gk (k := 0) (t := 8) ck_C_clear_0 rfl)
theorem d_C_clear_9 : decode y_C_clear.2.1 9 = .ok (.iload_n 1, 1) := op_iload_n1 (gk (k := 0) (t := 9) ck_C_clear_0 rfl)
theorem fl_C_30 : FL "SinglesUp$Chair" 30 0 7 := ⟨"SinglesUp$Chair", zT0, 12, rfl, by decide, rfl, Or.inl (tw_c1 169 (by decide +kernel) rfl)⟩
theorem d_C_clear_10 : decode y_C_clear.2.1 10 = .ok (.putfield 30, 3) := op_putfield (gk (k := 0) (t := 10) ck_C_clear_0 rfl) (gk (k := 0) (t := 11) ck_C_clear_0 rfl) (gk (k := 0) (t := 12) ck_C_clear_0 rfl) rfl
theorem d_C_clear_13 : decode y_C_clear.2.1 13 = .ok (.aload_n 0, 1) := op_aload_n0 (gk (k := 0) (t := 13) ck_C_clear_0 rfl)
theorem d_C_clear_14 : decode y_C_clear.2.1 14 = .ok (.iconst 0, 1) := op_iconst0 (gk (k := 0) (t := 14) ck_C_clear_0 rfl)
theorem fl_C_40 : FL "SinglesUp$Chair" 40 0 8 := ⟨"SinglesUp$Chair", zT0, 12, rfl, by decide, rfl, Or.inl (tw_c1 170 (by decide +kernel) rfl)⟩
theorem d_C_clear_15 : decode y_C_clear.2.1 15 = .ok (.putfield 40, 3) := op_putfield (gk (k := 0) (t := 15) ck_C_clear_0 rfl) (gk (k := 0) (t := 16) ck_C_clear_0 rfl) (gk (k := 0) (t := 17) ck_C_clear_0 rfl) rfl
theorem d_C_clear_18 : decode y_C_clear.2.1 18 = .ok (.aload_n 0, 1) := op_aload_n0 (gk (k := 0) (t := 18) ck_C_clear_0 rfl)
theorem d_C_clear_19 : decode y_C_clear.2.1 19 = .ok (.iconst 0, 1) := op_iconst0 (gk (k := 0) (t := 19) ck_C_clear_0 rfl)
theorem fl_C_43 : FL "SinglesUp$Chair" 43 0 9 := ⟨"SinglesUp$Chair", zT0, 12, rfl, by decide, rfl, Or.inl (tw_c1 172 (by decide +kernel) rfl)⟩
theorem d_C_clear_20 : decode y_C_clear.2.1 20 = .ok (.putfield 43, 3) := op_putfield (gk (k := 0) (t := 20) ck_C_clear_0 rfl) (gk (k := 0) (t := 21) ck_C_clear_0 rfl) (gk (k := 0) (t := 22) ck_C_clear_0 rfl) rfl
theorem d_C_clear_23 : decode y_C_clear.2.1 23 = .ok (.aload_n 0, 1) := op_aload_n0 (gk (k := 0) (t := 23) ck_C_clear_0 rfl)
theorem d_C_clear_24 : decode y_C_clear.2.1 24 = .ok (.iconst 0, 1) := op_iconst0 (gk (k := 0) (t := 24) ck_C_clear_0 rfl)
theorem fl_C_46 : FL "SinglesUp$Chair" 46 0 10 := ⟨"SinglesUp$Chair", zT0, 12, rfl, by decide, rfl, Or.inl (tw_c1 173 (by decide +kernel) rfl)⟩
theorem d_C_clear_25 : decode y_C_clear.2.1 25 = .ok (.putfield 46, 3) := op_putfield (gk (k := 0) (t := 25) ck_C_clear_0 rfl) (gk (k := 0) (t := 26) ck_C_clear_0 rfl) (gk (k := 0) (t := 27) ck_C_clear_0 rfl) rfl
theorem d_C_clear_28 : decode y_C_clear.2.1 28 = .ok (.aload_n 0, 1) := op_aload_n0 (gk (k := 0) (t := 28) ck_C_clear_0 rfl)
theorem d_C_clear_29 : decode y_C_clear.2.1 29 = .ok (.iconst 0, 1) := op_iconst0 (gk (k := 0) (t := 29) ck_C_clear_0 rfl)
theorem fl_C_50 : FL "SinglesUp$Chair" 50 0 11 := ⟨"SinglesUp$Chair", zT0, 12, rfl, by decide, rfl, Or.inl (tw_c1 174 (by decide +kernel) rfl)⟩
theorem ck_C_clear_1 : (y_C_clear.2.1.data.toList.drop 32).take 32 = [50, 177] := by decide +kernel
theorem d_C_clear_30 : decode y_C_clear.2.1 30 = .ok (.putfield 50, 3) := op_putfield (gk (k := 0) (t := 30) ck_C_clear_0 rfl) (gk (k := 0) (t := 31) ck_C_clear_0 rfl) (gk (k := 32) (t := 0) ck_C_clear_1 rfl) rfl
theorem d_C_clear_33 : decode y_C_clear.2.1 33 = .ok (.return_, 1) := op_return_ (gk (k := 32) (t := 1) ck_C_clear_1 rfl)
abbrev y_S_canTell : MI := (⟨"SinglesUp", "canTell", "(II)Z"⟩, prog_1_method_36_code, 2, some .boolean)
theorem ck_S_canTell_0 : (y_S_canTell.2.1.data.toList.drop 0).take 32 = [26, 155, 0, 30, 26, 8, 163, 0, 25, 27, 178, 1, 9, 26, 46, 161, 0, 16, 27, 178, 1, 12, 26, 46, 163, 0, 7, 4, 167, 0, 4, 3] := by decide +kernel
theorem d_S_canTell_0 : decode y_S_canTell.2.1 0 = .ok (.iload_n 0, 1) := op_iload_n0 (gk (k := 0) (t := 0) ck_S_canTell_0 rfl)
theorem d_S_canTell_1 : decode y_S_canTell.2.1 1 = .ok (.ifCond .lt 30, 3) := op_if_lt (gk (k := 0) (t := 1) ck_S_canTell_0 rfl) (gk (k := 0) (t := 2) ck_S_canTell_0 rfl) (gk (k := 0) (t := 3) ck_S_canTell_0 rfl) (by decide +kernel)
theorem d_S_canTell_31 : decode y_S_canTell.2.1 31 = .ok (.iconst 0, 1) := op_iconst0 (gk (k := 0) (t := 31) ck_S_canTell_0 rfl)
theorem ck_S_canTell_1 : (y_S_canTell.2.1.data.toList.drop 32).take 32 = [172] := by decide +kernel
theorem d_S_canTell_32 : decode y_S_canTell.2.1 32 = .ok (.ireturn, 1) := op_ireturn (gk (k := 32) (t := 0) ck_S_canTell_1 rfl)
theorem d_S_canTell_4 : decode y_S_canTell.2.1 4 = .ok (.iload_n 0, 1) := op_iload_n0 (gk (k := 0) (t := 4) ck_S_canTell_0 rfl)
theorem d_S_canTell_5 : decode y_S_canTell.2.1 5 = .ok (.iconst 5, 1) := op_iconst5 (gk (k := 0) (t := 5) ck_S_canTell_0 rfl)
theorem in_5 : inr (5) := lit_in rfl
theorem d_S_canTell_6 : decode y_S_canTell.2.1 6 = .ok (.if_icmp .gt 25, 3) := op_icmp_gt (gk (k := 0) (t := 6) ck_S_canTell_0 rfl) (gk (k := 0) (t := 7) ck_S_canTell_0 rfl) (gk (k := 0) (t := 8) ck_S_canTell_0 rfl) (by decide +kernel)
theorem d_S_canTell_9 : decode y_S_canTell.2.1 9 = .ok (.iload_n 1, 1) := op_iload_n1 (gk (k := 0) (t := 9) ck_S_canTell_0 rfl)
theorem gs_S_265 : Cond.fieldLink "SinglesUp" 265 "SinglesUp" "LEAST" "[I" ∈ TW := tw_c2 131 (by decide +kernel) rfl
theorem d_S_canTell_10 : decode y_S_canTell.2.1 10 = .ok (.getstatic 265, 3) := op_getstatic (gk (k := 0) (t := 10) ck_S_canTell_0 rfl) (gk (k := 0) (t := 11) ck_S_canTell_0 rfl) (gk (k := 0) (t := 12) ck_S_canTell_0 rfl) rfl
theorem d_S_canTell_13 : decode y_S_canTell.2.1 13 = .ok (.iload_n 0, 1) := op_iload_n0 (gk (k := 0) (t := 13) ck_S_canTell_0 rfl)
theorem d_S_canTell_14 : decode y_S_canTell.2.1 14 = .ok (.iaload, 1) := op_iaload (gk (k := 0) (t := 14) ck_S_canTell_0 rfl)
theorem d_S_canTell_15 : decode y_S_canTell.2.1 15 = .ok (.if_icmp .lt 16, 3) := op_icmp_lt (gk (k := 0) (t := 15) ck_S_canTell_0 rfl) (gk (k := 0) (t := 16) ck_S_canTell_0 rfl) (gk (k := 0) (t := 17) ck_S_canTell_0 rfl) (by decide +kernel)
theorem d_S_canTell_18 : decode y_S_canTell.2.1 18 = .ok (.iload_n 1, 1) := op_iload_n1 (gk (k := 0) (t := 18) ck_S_canTell_0 rfl)
theorem gs_S_268 : Cond.fieldLink "SinglesUp" 268 "SinglesUp" "MOST" "[I" ∈ TW := tw_c2 133 (by decide +kernel) rfl
theorem d_S_canTell_19 : decode y_S_canTell.2.1 19 = .ok (.getstatic 268, 3) := op_getstatic (gk (k := 0) (t := 19) ck_S_canTell_0 rfl) (gk (k := 0) (t := 20) ck_S_canTell_0 rfl) (gk (k := 0) (t := 21) ck_S_canTell_0 rfl) rfl
theorem d_S_canTell_22 : decode y_S_canTell.2.1 22 = .ok (.iload_n 0, 1) := op_iload_n0 (gk (k := 0) (t := 22) ck_S_canTell_0 rfl)
theorem d_S_canTell_23 : decode y_S_canTell.2.1 23 = .ok (.iaload, 1) := op_iaload (gk (k := 0) (t := 23) ck_S_canTell_0 rfl)
theorem d_S_canTell_24 : decode y_S_canTell.2.1 24 = .ok (.if_icmp .gt 7, 3) := op_icmp_gt (gk (k := 0) (t := 24) ck_S_canTell_0 rfl) (gk (k := 0) (t := 25) ck_S_canTell_0 rfl) (gk (k := 0) (t := 26) ck_S_canTell_0 rfl) (by decide +kernel)
theorem d_S_canTell_27 : decode y_S_canTell.2.1 27 = .ok (.iconst 1, 1) := op_iconst1 (gk (k := 0) (t := 27) ck_S_canTell_0 rfl)
theorem d_S_canTell_28 : decode y_S_canTell.2.1 28 = .ok (.goto 4, 3) := op_goto (gk (k := 0) (t := 28) ck_S_canTell_0 rfl) (gk (k := 0) (t := 29) ck_S_canTell_0 rfl) (gk (k := 0) (t := 30) ck_S_canTell_0 rfl) (by decide +kernel)
abbrev y_S_set : MI := (⟨"SinglesUp", "set", "(II)Z"⟩, prog_1_method_3_code, 3, some .boolean)
theorem ck_S_set_0 : (y_S_set.2.1.data.toList.drop 0).take 32 = [27, 28, 184, 0, 61, 154, 0, 5, 3, 172, 42, 180, 0, 12, 180, 0, 65, 27, 28, 79, 27, 154, 0, 11, 42, 180, 0, 33, 28, 182, 0, 69] := by decide +kernel
theorem d_S_set_0 : decode y_S_set.2.1 0 = .ok (.iload_n 1, 1) := op_iload_n1 (gk (k := 0) (t := 0) ck_S_set_0 rfl)
theorem d_S_set_1 : decode y_S_set.2.1 1 = .ok (.iload_n 2, 1) := op_iload_n2 (gk (k := 0) (t := 1) ck_S_set_0 rfl)
theorem lk_S_61 : LkS "SinglesUp" 61 y_S_canTell := ⟨tw_c2 129 (by decide +kernel) rfl, Or.inl (tw_c2 128 (by decide +kernel) rfl)⟩
set_option maxRecDepth 100000 in
theorem mo_S_canTell : MOk y_S_canTell 2 := ⟨by decide +kernel, tw_c2 130 rfl rfl, tw_c1 1 (by decide +kernel) rfl, by decide +kernel, by decide +kernel, by decide +kernel⟩
theorem d_S_set_2 : decode y_S_set.2.1 2 = .ok (.invokestatic 61, 3) := op_invokestatic (gk (k := 0) (t := 2) ck_S_set_0 rfl) (gk (k := 0) (t := 3) ck_S_set_0 rfl) (gk (k := 0) (t := 4) ck_S_set_0 rfl) rfl
theorem d_S_set_5 : decode y_S_set.2.1 5 = .ok (.ifCond .ne 5, 3) := op_if_ne (gk (k := 0) (t := 5) ck_S_set_0 rfl) (gk (k := 0) (t := 6) ck_S_set_0 rfl) (gk (k := 0) (t := 7) ck_S_set_0 rfl) (by decide +kernel)
theorem d_S_set_10 : decode y_S_set.2.1 10 = .ok (.aload_n 0, 1) := op_aload_n0 (gk (k := 0) (t := 10) ck_S_set_0 rfl)
theorem d_S_set_11 : decode y_S_set.2.1 11 = .ok (.getfield 12, 3) := op_getfield (gk (k := 0) (t := 11) ck_S_set_0 rfl) (gk (k := 0) (t := 12) ck_S_set_0 rfl) (gk (k := 0) (t := 13) ck_S_set_0 rfl) rfl
theorem fl_S_65 : FL "SinglesUp" 65 2 0 := ⟨"SinglesUp$Hill", zT2, 14, rfl, by decide, rfl, Or.inr ⟨"SinglesUp", nw_in 87 (by decide +kernel) rfl⟩⟩
theorem rc_2_0 : ∀ o, KC[o]? = some (5, 14) → RC o 0 = some (o + 1) ∧ KC[o + 1]? = some (0, 6) := by
  intro o h
  have hl : o < 166 := (List.getElem?_eq_some_iff.mp h).1
  exact (by decide +kernel : ∀ o, o < 166 → KC[o]? = some (5, 14) → RC o 0 = some (o + 1) ∧ KC[o + 1]? = some (0, 6)) o hl h
theorem d_S_set_14 : decode y_S_set.2.1 14 = .ok (.getfield 65, 3) := op_getfield (gk (k := 0) (t := 14) ck_S_set_0 rfl) (gk (k := 0) (t := 15) ck_S_set_0 rfl) (gk (k := 0) (t := 16) ck_S_set_0 rfl) rfl
theorem d_S_set_17 : decode y_S_set.2.1 17 = .ok (.iload_n 1, 1) := op_iload_n1 (gk (k := 0) (t := 17) ck_S_set_0 rfl)
theorem d_S_set_18 : decode y_S_set.2.1 18 = .ok (.iload_n 2, 1) := op_iload_n2 (gk (k := 0) (t := 18) ck_S_set_0 rfl)
theorem d_S_set_19 : decode y_S_set.2.1 19 = .ok (.iastore, 1) := op_iastore (gk (k := 0) (t := 19) ck_S_set_0 rfl)
theorem d_S_set_20 : decode y_S_set.2.1 20 = .ok (.iload_n 1, 1) := op_iload_n1 (gk (k := 0) (t := 20) ck_S_set_0 rfl)
theorem d_S_set_21 : decode y_S_set.2.1 21 = .ok (.ifCond .ne 11, 3) := op_if_ne (gk (k := 0) (t := 21) ck_S_set_0 rfl) (gk (k := 0) (t := 22) ck_S_set_0 rfl) (gk (k := 0) (t := 23) ck_S_set_0 rfl) (by decide +kernel)
theorem ck_S_set_1 : (y_S_set.2.1.data.toList.drop 32).take 32 = [4, 172] := by decide +kernel
theorem d_S_set_32 : decode y_S_set.2.1 32 = .ok (.iconst 1, 1) := op_iconst1 (gk (k := 32) (t := 0) ck_S_set_1 rfl)
theorem d_S_set_33 : decode y_S_set.2.1 33 = .ok (.ireturn, 1) := op_ireturn (gk (k := 32) (t := 1) ck_S_set_1 rfl)
theorem d_S_set_24 : decode y_S_set.2.1 24 = .ok (.aload_n 0, 1) := op_aload_n0 (gk (k := 0) (t := 24) ck_S_set_0 rfl)
theorem fl_S_33 : FL "SinglesUp" 33 8 4 := ⟨"SinglesUp", zT8, 9, rfl, by decide, rfl, Or.inl (tw_c2 96 (by decide +kernel) rfl)⟩
theorem rc_8_4 : ∀ o, KC[o]? = some (11, 9) → RC o 4 = some (o + 137) ∧ KC[o + 137]? = some (3, 12) := by
  intro o h
  have hl : o < 166 := (List.getElem?_eq_some_iff.mp h).1
  exact (by decide +kernel : ∀ o, o < 166 → KC[o]? = some (11, 9) → RC o 4 = some (o + 137) ∧ KC[o + 137]? = some (3, 12)) o hl h
theorem d_S_set_25 : decode y_S_set.2.1 25 = .ok (.getfield 33, 3) := op_getfield (gk (k := 0) (t := 25) ck_S_set_0 rfl) (gk (k := 0) (t := 26) ck_S_set_0 rfl) (gk (k := 0) (t := 27) ck_S_set_0 rfl) rfl
theorem d_S_set_28 : decode y_S_set.2.1 28 = .ok (.iload_n 2, 1) := op_iload_n2 (gk (k := 0) (t := 28) ck_S_set_0 rfl)
theorem lk_S_69 : LkV "SinglesUp" 69 y_C_clear := ⟨tw_c2 136 (by decide +kernel) rfl, tw_c2 137 (by decide +kernel) rfl, Or.inl (tw_c2 135 (by decide +kernel) rfl)⟩
set_option maxRecDepth 100000 in
theorem mo_C_clear : MOk y_C_clear 1 := ⟨by decide +kernel, tw_c2 138 rfl rfl, tw_c1 7 (by decide +kernel) rfl, by decide +kernel, by decide +kernel, by decide +kernel⟩
theorem d_S_set_29 : decode y_S_set.2.1 29 = .ok (.invokevirtual 69, 3) := op_invokevirtual (gk (k := 0) (t := 29) ck_S_set_0 rfl) (gk (k := 0) (t := 30) ck_S_set_0 rfl) (gk (k := 0) (t := 31) ck_S_set_0 rfl) rfl
theorem d_S_set_8 : decode y_S_set.2.1 8 = .ok (.iconst 0, 1) := op_iconst0 (gk (k := 0) (t := 8) ck_S_set_0 rfl)
theorem d_S_set_9 : decode y_S_set.2.1 9 = .ok (.ireturn, 1) := op_ireturn (gk (k := 0) (t := 9) ck_S_set_0 rfl)
abbrev y_S_isLine : MI := (⟨"SinglesUp", "isLine", "(I)Z"⟩, prog_1_method_35_code, 1, some .boolean)
theorem ck_S_isLine_0 : (y_S_isLine.2.1.data.toList.drop 0).take 32 = [26, 155, 0, 13, 26, 16, 6, 162, 0, 7, 4, 167, 0, 4, 3, 172] := by decide +kernel
theorem d_S_isLine_0 : decode y_S_isLine.2.1 0 = .ok (.iload_n 0, 1) := op_iload_n0 (gk (k := 0) (t := 0) ck_S_isLine_0 rfl)
theorem d_S_isLine_1 : decode y_S_isLine.2.1 1 = .ok (.ifCond .lt 13, 3) := op_if_lt (gk (k := 0) (t := 1) ck_S_isLine_0 rfl) (gk (k := 0) (t := 2) ck_S_isLine_0 rfl) (gk (k := 0) (t := 3) ck_S_isLine_0 rfl) (by decide +kernel)
theorem d_S_isLine_14 : decode y_S_isLine.2.1 14 = .ok (.iconst 0, 1) := op_iconst0 (gk (k := 0) (t := 14) ck_S_isLine_0 rfl)
theorem d_S_isLine_15 : decode y_S_isLine.2.1 15 = .ok (.ireturn, 1) := op_ireturn (gk (k := 0) (t := 15) ck_S_isLine_0 rfl)
theorem d_S_isLine_4 : decode y_S_isLine.2.1 4 = .ok (.iload_n 0, 1) := op_iload_n0 (gk (k := 0) (t := 4) ck_S_isLine_0 rfl)
theorem cb_6 : (Int8.ofInt 6).toInt32 = iv 6 := by decide +kernel
theorem d_S_isLine_5 : decode y_S_isLine.2.1 5 = .ok (.bipush 6, 2) := op_bipush (gk (k := 0) (t := 5) ck_S_isLine_0 rfl) (gk (k := 0) (t := 6) ck_S_isLine_0 rfl) rfl
theorem in_6 : inr (6) := lit_in rfl
theorem d_S_isLine_7 : decode y_S_isLine.2.1 7 = .ok (.if_icmp .ge 7, 3) := op_icmp_ge (gk (k := 0) (t := 7) ck_S_isLine_0 rfl) (gk (k := 0) (t := 8) ck_S_isLine_0 rfl) (gk (k := 0) (t := 9) ck_S_isLine_0 rfl) (by decide +kernel)
theorem d_S_isLine_10 : decode y_S_isLine.2.1 10 = .ok (.iconst 1, 1) := op_iconst1 (gk (k := 0) (t := 10) ck_S_isLine_0 rfl)
theorem d_S_isLine_11 : decode y_S_isLine.2.1 11 = .ok (.goto 4, 3) := op_goto (gk (k := 0) (t := 11) ck_S_isLine_0 rfl) (gk (k := 0) (t := 12) ck_S_isLine_0 rfl) (gk (k := 0) (t := 13) ck_S_isLine_0 rfl) (by decide +kernel)
abbrev y_S_seen : MI := (⟨"SinglesUp", "seen", "(II)Z"⟩, prog_1_method_4_code, 3, some .boolean)
theorem ck_S_seen_0 : (y_S_seen.2.1.data.toList.drop 0).take 32 = [27, 184, 0, 73, 153, 0, 14, 28, 4, 161, 0, 9, 28, 16, 24, 164, 0, 5, 3, 172, 42, 180, 0, 12, 180, 0, 77, 180, 0, 81, 27, 28] := by decide +kernel
theorem d_S_seen_0 : decode y_S_seen.2.1 0 = .ok (.iload_n 1, 1) := op_iload_n1 (gk (k := 0) (t := 0) ck_S_seen_0 rfl)
theorem lk_S_73 : LkS "SinglesUp" 73 y_S_isLine := ⟨tw_c2 145 (by decide +kernel) rfl, Or.inl (tw_c2 144 (by decide +kernel) rfl)⟩
set_option maxRecDepth 100000 in
theorem mo_S_isLine : MOk y_S_isLine 1 := ⟨by decide +kernel, tw_c2 146 rfl rfl, tw_c1 1 (by decide +kernel) rfl, by decide +kernel, by decide +kernel, by decide +kernel⟩
theorem d_S_seen_1 : decode y_S_seen.2.1 1 = .ok (.invokestatic 73, 3) := op_invokestatic (gk (k := 0) (t := 1) ck_S_seen_0 rfl) (gk (k := 0) (t := 2) ck_S_seen_0 rfl) (gk (k := 0) (t := 3) ck_S_seen_0 rfl) rfl
theorem d_S_seen_4 : decode y_S_seen.2.1 4 = .ok (.ifCond .eq 14, 3) := op_if_eq (gk (k := 0) (t := 4) ck_S_seen_0 rfl) (gk (k := 0) (t := 5) ck_S_seen_0 rfl) (gk (k := 0) (t := 6) ck_S_seen_0 rfl) (by decide +kernel)
theorem d_S_seen_18 : decode y_S_seen.2.1 18 = .ok (.iconst 0, 1) := op_iconst0 (gk (k := 0) (t := 18) ck_S_seen_0 rfl)
theorem d_S_seen_19 : decode y_S_seen.2.1 19 = .ok (.ireturn, 1) := op_ireturn (gk (k := 0) (t := 19) ck_S_seen_0 rfl)
theorem d_S_seen_7 : decode y_S_seen.2.1 7 = .ok (.iload_n 2, 1) := op_iload_n2 (gk (k := 0) (t := 7) ck_S_seen_0 rfl)
theorem d_S_seen_8 : decode y_S_seen.2.1 8 = .ok (.iconst 1, 1) := op_iconst1 (gk (k := 0) (t := 8) ck_S_seen_0 rfl)
theorem d_S_seen_9 : decode y_S_seen.2.1 9 = .ok (.if_icmp .lt 9, 3) := op_icmp_lt (gk (k := 0) (t := 9) ck_S_seen_0 rfl) (gk (k := 0) (t := 10) ck_S_seen_0 rfl) (gk (k := 0) (t := 11) ck_S_seen_0 rfl) (by decide +kernel)
theorem d_S_seen_12 : decode y_S_seen.2.1 12 = .ok (.iload_n 2, 1) := op_iload_n2 (gk (k := 0) (t := 12) ck_S_seen_0 rfl)
theorem cb_24 : (Int8.ofInt 24).toInt32 = iv 24 := by decide +kernel
theorem d_S_seen_13 : decode y_S_seen.2.1 13 = .ok (.bipush 24, 2) := op_bipush (gk (k := 0) (t := 13) ck_S_seen_0 rfl) (gk (k := 0) (t := 14) ck_S_seen_0 rfl) rfl
theorem in_24 : inr (24) := lit_in rfl
theorem d_S_seen_15 : decode y_S_seen.2.1 15 = .ok (.if_icmp .le 5, 3) := op_icmp_le (gk (k := 0) (t := 15) ck_S_seen_0 rfl) (gk (k := 0) (t := 16) ck_S_seen_0 rfl) (gk (k := 0) (t := 17) ck_S_seen_0 rfl) (by decide +kernel)
theorem d_S_seen_20 : decode y_S_seen.2.1 20 = .ok (.aload_n 0, 1) := op_aload_n0 (gk (k := 0) (t := 20) ck_S_seen_0 rfl)
theorem d_S_seen_21 : decode y_S_seen.2.1 21 = .ok (.getfield 12, 3) := op_getfield (gk (k := 0) (t := 21) ck_S_seen_0 rfl) (gk (k := 0) (t := 22) ck_S_seen_0 rfl) (gk (k := 0) (t := 23) ck_S_seen_0 rfl) rfl
theorem fl_S_77 : FL "SinglesUp" 77 2 5 := ⟨"SinglesUp$Hill", zT2, 14, rfl, by decide, rfl, Or.inr ⟨"SinglesUp", nw_in 99 (by decide +kernel) rfl⟩⟩
theorem rc_2_5 : ∀ o, KC[o]? = some (5, 14) → RC o 5 = some (o + 6) ∧ KC[o + 6]? = some (7, 3) := by
  intro o h
  have hl : o < 166 := (List.getElem?_eq_some_iff.mp h).1
  exact (by decide +kernel : ∀ o, o < 166 → KC[o]? = some (5, 14) → RC o 5 = some (o + 6) ∧ KC[o + 6]? = some (7, 3)) o hl h
theorem d_S_seen_24 : decode y_S_seen.2.1 24 = .ok (.getfield 77, 3) := op_getfield (gk (k := 0) (t := 24) ck_S_seen_0 rfl) (gk (k := 0) (t := 25) ck_S_seen_0 rfl) (gk (k := 0) (t := 26) ck_S_seen_0 rfl) rfl
theorem fl_S_81 : FL "SinglesUp" 81 4 2 := ⟨"SinglesUp$Lines", zT4, 3, rfl, by decide, rfl, Or.inr ⟨"SinglesUp", nw_in 50 (by decide +kernel) rfl⟩⟩
theorem rc_4_2 : ∀ o, KC[o]? = some (7, 3) → RC o 2 = some (o + 3) ∧ KC[o + 3]? = some (0, 6) := by
  intro o h
  have hl : o < 166 := (List.getElem?_eq_some_iff.mp h).1
  exact (by decide +kernel : ∀ o, o < 166 → KC[o]? = some (7, 3) → RC o 2 = some (o + 3) ∧ KC[o + 3]? = some (0, 6)) o hl h
theorem d_S_seen_27 : decode y_S_seen.2.1 27 = .ok (.getfield 81, 3) := op_getfield (gk (k := 0) (t := 27) ck_S_seen_0 rfl) (gk (k := 0) (t := 28) ck_S_seen_0 rfl) (gk (k := 0) (t := 29) ck_S_seen_0 rfl) rfl
theorem d_S_seen_30 : decode y_S_seen.2.1 30 = .ok (.iload_n 1, 1) := op_iload_n1 (gk (k := 0) (t := 30) ck_S_seen_0 rfl)
theorem d_S_seen_31 : decode y_S_seen.2.1 31 = .ok (.iload_n 2, 1) := op_iload_n2 (gk (k := 0) (t := 31) ck_S_seen_0 rfl)
theorem ck_S_seen_1 : (y_S_seen.2.1.data.toList.drop 32).take 32 = [79, 4, 172] := by decide +kernel
theorem d_S_seen_32 : decode y_S_seen.2.1 32 = .ok (.iastore, 1) := op_iastore (gk (k := 32) (t := 0) ck_S_seen_1 rfl)
theorem d_S_seen_33 : decode y_S_seen.2.1 33 = .ok (.iconst 1, 1) := op_iconst1 (gk (k := 32) (t := 1) ck_S_seen_1 rfl)
theorem d_S_seen_34 : decode y_S_seen.2.1 34 = .ok (.ireturn, 1) := op_ireturn (gk (k := 32) (t := 2) ck_S_seen_1 rfl)
abbrev y_S_parts : MI := (⟨"SinglesUp", "parts", "(II)Z"⟩, prog_1_method_5_code, 3, some .boolean)
theorem ck_S_parts_0 : (y_S_parts.2.1.data.toList.drop 0).take 32 = [27, 5, 161, 0, 18, 27, 16, 8, 163, 0, 12, 28, 155, 0, 8, 28, 27, 161, 0, 5, 3, 172, 42, 180, 0, 12, 180, 0, 86, 27, 28, 79] := by decide +kernel
theorem d_S_parts_0 : decode y_S_parts.2.1 0 = .ok (.iload_n 1, 1) := op_iload_n1 (gk (k := 0) (t := 0) ck_S_parts_0 rfl)
theorem d_S_parts_1 : decode y_S_parts.2.1 1 = .ok (.iconst 2, 1) := op_iconst2 (gk (k := 0) (t := 1) ck_S_parts_0 rfl)
theorem in_2 : inr (2) := lit_in rfl
theorem d_S_parts_2 : decode y_S_parts.2.1 2 = .ok (.if_icmp .lt 18, 3) := op_icmp_lt (gk (k := 0) (t := 2) ck_S_parts_0 rfl) (gk (k := 0) (t := 3) ck_S_parts_0 rfl) (gk (k := 0) (t := 4) ck_S_parts_0 rfl) (by decide +kernel)
theorem d_S_parts_20 : decode y_S_parts.2.1 20 = .ok (.iconst 0, 1) := op_iconst0 (gk (k := 0) (t := 20) ck_S_parts_0 rfl)
theorem d_S_parts_21 : decode y_S_parts.2.1 21 = .ok (.ireturn, 1) := op_ireturn (gk (k := 0) (t := 21) ck_S_parts_0 rfl)
theorem d_S_parts_5 : decode y_S_parts.2.1 5 = .ok (.iload_n 1, 1) := op_iload_n1 (gk (k := 0) (t := 5) ck_S_parts_0 rfl)
theorem cb_8 : (Int8.ofInt 8).toInt32 = iv 8 := by decide +kernel
theorem d_S_parts_6 : decode y_S_parts.2.1 6 = .ok (.bipush 8, 2) := op_bipush (gk (k := 0) (t := 6) ck_S_parts_0 rfl) (gk (k := 0) (t := 7) ck_S_parts_0 rfl) rfl
theorem in_8 : inr (8) := lit_in rfl
theorem d_S_parts_8 : decode y_S_parts.2.1 8 = .ok (.if_icmp .gt 12, 3) := op_icmp_gt (gk (k := 0) (t := 8) ck_S_parts_0 rfl) (gk (k := 0) (t := 9) ck_S_parts_0 rfl) (gk (k := 0) (t := 10) ck_S_parts_0 rfl) (by decide +kernel)
theorem d_S_parts_11 : decode y_S_parts.2.1 11 = .ok (.iload_n 2, 1) := op_iload_n2 (gk (k := 0) (t := 11) ck_S_parts_0 rfl)
theorem d_S_parts_12 : decode y_S_parts.2.1 12 = .ok (.ifCond .lt 8, 3) := op_if_lt (gk (k := 0) (t := 12) ck_S_parts_0 rfl) (gk (k := 0) (t := 13) ck_S_parts_0 rfl) (gk (k := 0) (t := 14) ck_S_parts_0 rfl) (by decide +kernel)
theorem d_S_parts_15 : decode y_S_parts.2.1 15 = .ok (.iload_n 2, 1) := op_iload_n2 (gk (k := 0) (t := 15) ck_S_parts_0 rfl)
theorem d_S_parts_16 : decode y_S_parts.2.1 16 = .ok (.iload_n 1, 1) := op_iload_n1 (gk (k := 0) (t := 16) ck_S_parts_0 rfl)
theorem d_S_parts_17 : decode y_S_parts.2.1 17 = .ok (.if_icmp .lt 5, 3) := op_icmp_lt (gk (k := 0) (t := 17) ck_S_parts_0 rfl) (gk (k := 0) (t := 18) ck_S_parts_0 rfl) (gk (k := 0) (t := 19) ck_S_parts_0 rfl) (by decide +kernel)
theorem d_S_parts_22 : decode y_S_parts.2.1 22 = .ok (.aload_n 0, 1) := op_aload_n0 (gk (k := 0) (t := 22) ck_S_parts_0 rfl)
theorem d_S_parts_23 : decode y_S_parts.2.1 23 = .ok (.getfield 12, 3) := op_getfield (gk (k := 0) (t := 23) ck_S_parts_0 rfl) (gk (k := 0) (t := 24) ck_S_parts_0 rfl) (gk (k := 0) (t := 25) ck_S_parts_0 rfl) rfl
theorem fl_S_86 : FL "SinglesUp" 86 2 2 := ⟨"SinglesUp$Hill", zT2, 14, rfl, by decide, rfl, Or.inr ⟨"SinglesUp", nw_in 92 (by decide +kernel) rfl⟩⟩
theorem rc_2_2 : ∀ o, KC[o]? = some (5, 14) → RC o 2 = some (o + 3) ∧ KC[o + 3]? = some (0, 9) := by
  intro o h
  have hl : o < 166 := (List.getElem?_eq_some_iff.mp h).1
  exact (by decide +kernel : ∀ o, o < 166 → KC[o]? = some (5, 14) → RC o 2 = some (o + 3) ∧ KC[o + 3]? = some (0, 9)) o hl h
theorem d_S_parts_26 : decode y_S_parts.2.1 26 = .ok (.getfield 86, 3) := op_getfield (gk (k := 0) (t := 26) ck_S_parts_0 rfl) (gk (k := 0) (t := 27) ck_S_parts_0 rfl) (gk (k := 0) (t := 28) ck_S_parts_0 rfl) rfl
theorem d_S_parts_29 : decode y_S_parts.2.1 29 = .ok (.iload_n 1, 1) := op_iload_n1 (gk (k := 0) (t := 29) ck_S_parts_0 rfl)
theorem d_S_parts_30 : decode y_S_parts.2.1 30 = .ok (.iload_n 2, 1) := op_iload_n2 (gk (k := 0) (t := 30) ck_S_parts_0 rfl)
theorem d_S_parts_31 : decode y_S_parts.2.1 31 = .ok (.iastore, 1) := op_iastore (gk (k := 0) (t := 31) ck_S_parts_0 rfl)
theorem ck_S_parts_1 : (y_S_parts.2.1.data.toList.drop 32).take 32 = [4, 172] := by decide +kernel
theorem d_S_parts_32 : decode y_S_parts.2.1 32 = .ok (.iconst 1, 1) := op_iconst1 (gk (k := 32) (t := 0) ck_S_parts_1 rfl)
theorem d_S_parts_33 : decode y_S_parts.2.1 33 = .ok (.ireturn, 1) := op_ireturn (gk (k := 32) (t := 1) ck_S_parts_1 rfl)
abbrev y_H_tellComer : MI := (⟨"SinglesUp$Hill", "tellComer", "(IIIII)V"⟩, prog_4_method_4_code, 6, none)
theorem ck_H_tellComer_0 : (y_H_tellComer.2.1.data.toList.drop 0).take 32 = [27, 155, 0, 53, 27, 16, 8, 162, 0, 47, 42, 180, 0, 24, 7, 27, 104, 28, 79, 42, 180, 0, 24, 7, 27, 104, 4, 96, 29, 79, 42, 180] := by decide +kernel
theorem d_H_tellComer_0 : decode y_H_tellComer.2.1 0 = .ok (.iload_n 1, 1) := op_iload_n1 (gk (k := 0) (t := 0) ck_H_tellComer_0 rfl)
theorem d_H_tellComer_1 : decode y_H_tellComer.2.1 1 = .ok (.ifCond .lt 53, 3) := op_if_lt (gk (k := 0) (t := 1) ck_H_tellComer_0 rfl) (gk (k := 0) (t := 2) ck_H_tellComer_0 rfl) (gk (k := 0) (t := 3) ck_H_tellComer_0 rfl) (by decide +kernel)
theorem ck_H_tellComer_1 : (y_H_tellComer.2.1.data.toList.drop 32).take 32 = [0, 24, 7, 27, 104, 5, 96, 21, 4, 79, 42, 180, 0, 24, 7, 27, 104, 6, 96, 21, 5, 79, 177] := by decide +kernel
theorem d_H_tellComer_54 : decode y_H_tellComer.2.1 54 = .ok (.return_, 1) := op_return_ (gk (k := 32) (t := 22) ck_H_tellComer_1 rfl)
theorem d_H_tellComer_4 : decode y_H_tellComer.2.1 4 = .ok (.iload_n 1, 1) := op_iload_n1 (gk (k := 0) (t := 4) ck_H_tellComer_0 rfl)
theorem d_H_tellComer_5 : decode y_H_tellComer.2.1 5 = .ok (.bipush 8, 2) := op_bipush (gk (k := 0) (t := 5) ck_H_tellComer_0 rfl) (gk (k := 0) (t := 6) ck_H_tellComer_0 rfl) rfl
theorem d_H_tellComer_7 : decode y_H_tellComer.2.1 7 = .ok (.if_icmp .ge 47, 3) := op_icmp_ge (gk (k := 0) (t := 7) ck_H_tellComer_0 rfl) (gk (k := 0) (t := 8) ck_H_tellComer_0 rfl) (gk (k := 0) (t := 9) ck_H_tellComer_0 rfl) (by decide +kernel)
theorem d_H_tellComer_10 : decode y_H_tellComer.2.1 10 = .ok (.aload_n 0, 1) := op_aload_n0 (gk (k := 0) (t := 10) ck_H_tellComer_0 rfl)
theorem fl_H_24 : FL "SinglesUp$Hill" 24 2 3 := ⟨"SinglesUp$Hill", zT2, 14, rfl, by decide, rfl, Or.inl (tw_c1 94 (by decide +kernel) rfl)⟩
theorem rc_2_3 : ∀ o, KC[o]? = some (5, 14) → RC o 3 = some (o + 4) ∧ KC[o + 4]? = some (0, 32) := by
  intro o h
  have hl : o < 166 := (List.getElem?_eq_some_iff.mp h).1
  exact (by decide +kernel : ∀ o, o < 166 → KC[o]? = some (5, 14) → RC o 3 = some (o + 4) ∧ KC[o + 4]? = some (0, 32)) o hl h
theorem d_H_tellComer_11 : decode y_H_tellComer.2.1 11 = .ok (.getfield 24, 3) := op_getfield (gk (k := 0) (t := 11) ck_H_tellComer_0 rfl) (gk (k := 0) (t := 12) ck_H_tellComer_0 rfl) (gk (k := 0) (t := 13) ck_H_tellComer_0 rfl) rfl
theorem d_H_tellComer_14 : decode y_H_tellComer.2.1 14 = .ok (.iconst 4, 1) := op_iconst4 (gk (k := 0) (t := 14) ck_H_tellComer_0 rfl)
theorem d_H_tellComer_15 : decode y_H_tellComer.2.1 15 = .ok (.iload_n 1, 1) := op_iload_n1 (gk (k := 0) (t := 15) ck_H_tellComer_0 rfl)
theorem d_H_tellComer_16 : decode y_H_tellComer.2.1 16 = .ok (.imul, 1) := op_imul (gk (k := 0) (t := 16) ck_H_tellComer_0 rfl)
theorem d_H_tellComer_17 : decode y_H_tellComer.2.1 17 = .ok (.iload_n 2, 1) := op_iload_n2 (gk (k := 0) (t := 17) ck_H_tellComer_0 rfl)
theorem d_H_tellComer_18 : decode y_H_tellComer.2.1 18 = .ok (.iastore, 1) := op_iastore (gk (k := 0) (t := 18) ck_H_tellComer_0 rfl)
theorem d_H_tellComer_19 : decode y_H_tellComer.2.1 19 = .ok (.aload_n 0, 1) := op_aload_n0 (gk (k := 0) (t := 19) ck_H_tellComer_0 rfl)
theorem d_H_tellComer_20 : decode y_H_tellComer.2.1 20 = .ok (.getfield 24, 3) := op_getfield (gk (k := 0) (t := 20) ck_H_tellComer_0 rfl) (gk (k := 0) (t := 21) ck_H_tellComer_0 rfl) (gk (k := 0) (t := 22) ck_H_tellComer_0 rfl) rfl
theorem d_H_tellComer_23 : decode y_H_tellComer.2.1 23 = .ok (.iconst 4, 1) := op_iconst4 (gk (k := 0) (t := 23) ck_H_tellComer_0 rfl)
theorem d_H_tellComer_24 : decode y_H_tellComer.2.1 24 = .ok (.iload_n 1, 1) := op_iload_n1 (gk (k := 0) (t := 24) ck_H_tellComer_0 rfl)
theorem d_H_tellComer_25 : decode y_H_tellComer.2.1 25 = .ok (.imul, 1) := op_imul (gk (k := 0) (t := 25) ck_H_tellComer_0 rfl)
theorem d_H_tellComer_26 : decode y_H_tellComer.2.1 26 = .ok (.iconst 1, 1) := op_iconst1 (gk (k := 0) (t := 26) ck_H_tellComer_0 rfl)
theorem d_H_tellComer_27 : decode y_H_tellComer.2.1 27 = .ok (.iadd, 1) := op_iadd (gk (k := 0) (t := 27) ck_H_tellComer_0 rfl)
theorem d_H_tellComer_28 : decode y_H_tellComer.2.1 28 = .ok (.iload_n 3, 1) := op_iload_n3 (gk (k := 0) (t := 28) ck_H_tellComer_0 rfl)
theorem d_H_tellComer_29 : decode y_H_tellComer.2.1 29 = .ok (.iastore, 1) := op_iastore (gk (k := 0) (t := 29) ck_H_tellComer_0 rfl)
theorem d_H_tellComer_30 : decode y_H_tellComer.2.1 30 = .ok (.aload_n 0, 1) := op_aload_n0 (gk (k := 0) (t := 30) ck_H_tellComer_0 rfl)
theorem d_H_tellComer_31 : decode y_H_tellComer.2.1 31 = .ok (.getfield 24, 3) := op_getfield (gk (k := 0) (t := 31) ck_H_tellComer_0 rfl) (gk (k := 32) (t := 0) ck_H_tellComer_1 rfl) (gk (k := 32) (t := 1) ck_H_tellComer_1 rfl) rfl
theorem d_H_tellComer_34 : decode y_H_tellComer.2.1 34 = .ok (.iconst 4, 1) := op_iconst4 (gk (k := 32) (t := 2) ck_H_tellComer_1 rfl)
theorem d_H_tellComer_35 : decode y_H_tellComer.2.1 35 = .ok (.iload_n 1, 1) := op_iload_n1 (gk (k := 32) (t := 3) ck_H_tellComer_1 rfl)
theorem d_H_tellComer_36 : decode y_H_tellComer.2.1 36 = .ok (.imul, 1) := op_imul (gk (k := 32) (t := 4) ck_H_tellComer_1 rfl)
theorem d_H_tellComer_37 : decode y_H_tellComer.2.1 37 = .ok (.iconst 2, 1) := op_iconst2 (gk (k := 32) (t := 5) ck_H_tellComer_1 rfl)
theorem d_H_tellComer_38 : decode y_H_tellComer.2.1 38 = .ok (.iadd, 1) := op_iadd (gk (k := 32) (t := 6) ck_H_tellComer_1 rfl)
theorem d_H_tellComer_39 : decode y_H_tellComer.2.1 39 = .ok (.iload 4, 2) := op_iload (gk (k := 32) (t := 7) ck_H_tellComer_1 rfl) (gk (k := 32) (t := 8) ck_H_tellComer_1 rfl) rfl
theorem d_H_tellComer_41 : decode y_H_tellComer.2.1 41 = .ok (.iastore, 1) := op_iastore (gk (k := 32) (t := 9) ck_H_tellComer_1 rfl)
theorem d_H_tellComer_42 : decode y_H_tellComer.2.1 42 = .ok (.aload_n 0, 1) := op_aload_n0 (gk (k := 32) (t := 10) ck_H_tellComer_1 rfl)
theorem d_H_tellComer_43 : decode y_H_tellComer.2.1 43 = .ok (.getfield 24, 3) := op_getfield (gk (k := 32) (t := 11) ck_H_tellComer_1 rfl) (gk (k := 32) (t := 12) ck_H_tellComer_1 rfl) (gk (k := 32) (t := 13) ck_H_tellComer_1 rfl) rfl
theorem d_H_tellComer_46 : decode y_H_tellComer.2.1 46 = .ok (.iconst 4, 1) := op_iconst4 (gk (k := 32) (t := 14) ck_H_tellComer_1 rfl)
theorem d_H_tellComer_47 : decode y_H_tellComer.2.1 47 = .ok (.iload_n 1, 1) := op_iload_n1 (gk (k := 32) (t := 15) ck_H_tellComer_1 rfl)
theorem d_H_tellComer_48 : decode y_H_tellComer.2.1 48 = .ok (.imul, 1) := op_imul (gk (k := 32) (t := 16) ck_H_tellComer_1 rfl)
theorem d_H_tellComer_49 : decode y_H_tellComer.2.1 49 = .ok (.iconst 3, 1) := op_iconst3 (gk (k := 32) (t := 17) ck_H_tellComer_1 rfl)
theorem d_H_tellComer_50 : decode y_H_tellComer.2.1 50 = .ok (.iadd, 1) := op_iadd (gk (k := 32) (t := 18) ck_H_tellComer_1 rfl)
theorem d_H_tellComer_51 : decode y_H_tellComer.2.1 51 = .ok (.iload 5, 2) := op_iload (gk (k := 32) (t := 19) ck_H_tellComer_1 rfl) (gk (k := 32) (t := 20) ck_H_tellComer_1 rfl) rfl
theorem d_H_tellComer_53 : decode y_H_tellComer.2.1 53 = .ok (.iastore, 1) := op_iastore (gk (k := 32) (t := 21) ck_H_tellComer_1 rfl)
abbrev y_S_canBe : MI := (⟨"SinglesUp", "canBe", "(III)Z"⟩, prog_1_method_37_code, 3, some .boolean)
theorem ck_S_canBe_0 : (y_S_canBe.2.1.data.toList.drop 0).take 32 = [26, 4, 161, 0, 32, 26, 16, 8, 163, 0, 26, 27, 4, 161, 0, 21, 27, 26, 163, 0, 16, 28, 155, 0, 12, 28, 6, 163, 0, 7, 4, 167] := by decide +kernel
theorem d_S_canBe_0 : decode y_S_canBe.2.1 0 = .ok (.iload_n 0, 1) := op_iload_n0 (gk (k := 0) (t := 0) ck_S_canBe_0 rfl)
theorem d_S_canBe_1 : decode y_S_canBe.2.1 1 = .ok (.iconst 1, 1) := op_iconst1 (gk (k := 0) (t := 1) ck_S_canBe_0 rfl)
theorem d_S_canBe_2 : decode y_S_canBe.2.1 2 = .ok (.if_icmp .lt 32, 3) := op_icmp_lt (gk (k := 0) (t := 2) ck_S_canBe_0 rfl) (gk (k := 0) (t := 3) ck_S_canBe_0 rfl) (gk (k := 0) (t := 4) ck_S_canBe_0 rfl) (by decide +kernel)
theorem ck_S_canBe_1 : (y_S_canBe.2.1.data.toList.drop 32).take 32 = [0, 4, 3, 172] := by decide +kernel
theorem d_S_canBe_34 : decode y_S_canBe.2.1 34 = .ok (.iconst 0, 1) := op_iconst0 (gk (k := 32) (t := 2) ck_S_canBe_1 rfl)
theorem d_S_canBe_35 : decode y_S_canBe.2.1 35 = .ok (.ireturn, 1) := op_ireturn (gk (k := 32) (t := 3) ck_S_canBe_1 rfl)
theorem d_S_canBe_5 : decode y_S_canBe.2.1 5 = .ok (.iload_n 0, 1) := op_iload_n0 (gk (k := 0) (t := 5) ck_S_canBe_0 rfl)
theorem d_S_canBe_6 : decode y_S_canBe.2.1 6 = .ok (.bipush 8, 2) := op_bipush (gk (k := 0) (t := 6) ck_S_canBe_0 rfl) (gk (k := 0) (t := 7) ck_S_canBe_0 rfl) rfl
theorem d_S_canBe_8 : decode y_S_canBe.2.1 8 = .ok (.if_icmp .gt 26, 3) := op_icmp_gt (gk (k := 0) (t := 8) ck_S_canBe_0 rfl) (gk (k := 0) (t := 9) ck_S_canBe_0 rfl) (gk (k := 0) (t := 10) ck_S_canBe_0 rfl) (by decide +kernel)
theorem d_S_canBe_11 : decode y_S_canBe.2.1 11 = .ok (.iload_n 1, 1) := op_iload_n1 (gk (k := 0) (t := 11) ck_S_canBe_0 rfl)
theorem d_S_canBe_12 : decode y_S_canBe.2.1 12 = .ok (.iconst 1, 1) := op_iconst1 (gk (k := 0) (t := 12) ck_S_canBe_0 rfl)
theorem d_S_canBe_13 : decode y_S_canBe.2.1 13 = .ok (.if_icmp .lt 21, 3) := op_icmp_lt (gk (k := 0) (t := 13) ck_S_canBe_0 rfl) (gk (k := 0) (t := 14) ck_S_canBe_0 rfl) (gk (k := 0) (t := 15) ck_S_canBe_0 rfl) (by decide +kernel)
theorem d_S_canBe_16 : decode y_S_canBe.2.1 16 = .ok (.iload_n 1, 1) := op_iload_n1 (gk (k := 0) (t := 16) ck_S_canBe_0 rfl)
theorem d_S_canBe_17 : decode y_S_canBe.2.1 17 = .ok (.iload_n 0, 1) := op_iload_n0 (gk (k := 0) (t := 17) ck_S_canBe_0 rfl)
theorem d_S_canBe_18 : decode y_S_canBe.2.1 18 = .ok (.if_icmp .gt 16, 3) := op_icmp_gt (gk (k := 0) (t := 18) ck_S_canBe_0 rfl) (gk (k := 0) (t := 19) ck_S_canBe_0 rfl) (gk (k := 0) (t := 20) ck_S_canBe_0 rfl) (by decide +kernel)
theorem d_S_canBe_21 : decode y_S_canBe.2.1 21 = .ok (.iload_n 2, 1) := op_iload_n2 (gk (k := 0) (t := 21) ck_S_canBe_0 rfl)
theorem d_S_canBe_22 : decode y_S_canBe.2.1 22 = .ok (.ifCond .lt 12, 3) := op_if_lt (gk (k := 0) (t := 22) ck_S_canBe_0 rfl) (gk (k := 0) (t := 23) ck_S_canBe_0 rfl) (gk (k := 0) (t := 24) ck_S_canBe_0 rfl) (by decide +kernel)
theorem d_S_canBe_25 : decode y_S_canBe.2.1 25 = .ok (.iload_n 2, 1) := op_iload_n2 (gk (k := 0) (t := 25) ck_S_canBe_0 rfl)
theorem d_S_canBe_26 : decode y_S_canBe.2.1 26 = .ok (.iconst 3, 1) := op_iconst3 (gk (k := 0) (t := 26) ck_S_canBe_0 rfl)
theorem in_3 : inr (3) := lit_in rfl
theorem d_S_canBe_27 : decode y_S_canBe.2.1 27 = .ok (.if_icmp .gt 7, 3) := op_icmp_gt (gk (k := 0) (t := 27) ck_S_canBe_0 rfl) (gk (k := 0) (t := 28) ck_S_canBe_0 rfl) (gk (k := 0) (t := 29) ck_S_canBe_0 rfl) (by decide +kernel)
theorem d_S_canBe_30 : decode y_S_canBe.2.1 30 = .ok (.iconst 1, 1) := op_iconst1 (gk (k := 0) (t := 30) ck_S_canBe_0 rfl)
theorem d_S_canBe_31 : decode y_S_canBe.2.1 31 = .ok (.goto 4, 3) := op_goto (gk (k := 0) (t := 31) ck_S_canBe_0 rfl) (gk (k := 32) (t := 0) ck_S_canBe_1 rfl) (gk (k := 32) (t := 1) ck_S_canBe_1 rfl) (by decide +kernel)
abbrev y_S_comer : MI := (⟨"SinglesUp", "comer", "(IIIII)Z"⟩, prog_1_method_6_code, 6, some .boolean)
theorem ck_S_comer_0 : (y_S_comer.2.1.data.toList.drop 0).take 32 = [27, 155, 0, 32, 27, 16, 8, 162, 0, 26, 28, 29, 21, 4, 184, 0, 89, 153, 0, 16, 21, 5, 155, 0, 11, 21, 5, 17, 3, 232, 164, 0] := by decide +kernel
theorem d_S_comer_0 : decode y_S_comer.2.1 0 = .ok (.iload_n 1, 1) := op_iload_n1 (gk (k := 0) (t := 0) ck_S_comer_0 rfl)
theorem d_S_comer_1 : decode y_S_comer.2.1 1 = .ok (.ifCond .lt 32, 3) := op_if_lt (gk (k := 0) (t := 1) ck_S_comer_0 rfl) (gk (k := 0) (t := 2) ck_S_comer_0 rfl) (gk (k := 0) (t := 3) ck_S_comer_0 rfl) (by decide +kernel)
theorem ck_S_comer_1 : (y_S_comer.2.1.data.toList.drop 32).take 32 = [5, 3, 172, 42, 180, 0, 12, 27, 28, 29, 21, 4, 21, 5, 182, 0, 93, 4, 172] := by decide +kernel
theorem d_S_comer_33 : decode y_S_comer.2.1 33 = .ok (.iconst 0, 1) := op_iconst0 (gk (k := 32) (t := 1) ck_S_comer_1 rfl)
theorem d_S_comer_34 : decode y_S_comer.2.1 34 = .ok (.ireturn, 1) := op_ireturn (gk (k := 32) (t := 2) ck_S_comer_1 rfl)
theorem d_S_comer_4 : decode y_S_comer.2.1 4 = .ok (.iload_n 1, 1) := op_iload_n1 (gk (k := 0) (t := 4) ck_S_comer_0 rfl)
theorem d_S_comer_5 : decode y_S_comer.2.1 5 = .ok (.bipush 8, 2) := op_bipush (gk (k := 0) (t := 5) ck_S_comer_0 rfl) (gk (k := 0) (t := 6) ck_S_comer_0 rfl) rfl
theorem d_S_comer_7 : decode y_S_comer.2.1 7 = .ok (.if_icmp .ge 26, 3) := op_icmp_ge (gk (k := 0) (t := 7) ck_S_comer_0 rfl) (gk (k := 0) (t := 8) ck_S_comer_0 rfl) (gk (k := 0) (t := 9) ck_S_comer_0 rfl) (by decide +kernel)
theorem d_S_comer_10 : decode y_S_comer.2.1 10 = .ok (.iload_n 2, 1) := op_iload_n2 (gk (k := 0) (t := 10) ck_S_comer_0 rfl)
theorem d_S_comer_11 : decode y_S_comer.2.1 11 = .ok (.iload_n 3, 1) := op_iload_n3 (gk (k := 0) (t := 11) ck_S_comer_0 rfl)
theorem d_S_comer_12 : decode y_S_comer.2.1 12 = .ok (.iload 4, 2) := op_iload (gk (k := 0) (t := 12) ck_S_comer_0 rfl) (gk (k := 0) (t := 13) ck_S_comer_0 rfl) rfl
theorem lk_S_89 : LkS "SinglesUp" 89 y_S_canBe := ⟨tw_c2 156 (by decide +kernel) rfl, Or.inl (tw_c2 155 (by decide +kernel) rfl)⟩
set_option maxRecDepth 100000 in
theorem mo_S_canBe : MOk y_S_canBe 3 := ⟨by decide +kernel, tw_c2 157 rfl rfl, tw_c1 1 (by decide +kernel) rfl, by decide +kernel, by decide +kernel, by decide +kernel⟩
theorem d_S_comer_14 : decode y_S_comer.2.1 14 = .ok (.invokestatic 89, 3) := op_invokestatic (gk (k := 0) (t := 14) ck_S_comer_0 rfl) (gk (k := 0) (t := 15) ck_S_comer_0 rfl) (gk (k := 0) (t := 16) ck_S_comer_0 rfl) rfl
theorem d_S_comer_17 : decode y_S_comer.2.1 17 = .ok (.ifCond .eq 16, 3) := op_if_eq (gk (k := 0) (t := 17) ck_S_comer_0 rfl) (gk (k := 0) (t := 18) ck_S_comer_0 rfl) (gk (k := 0) (t := 19) ck_S_comer_0 rfl) (by decide +kernel)
theorem d_S_comer_20 : decode y_S_comer.2.1 20 = .ok (.iload 5, 2) := op_iload (gk (k := 0) (t := 20) ck_S_comer_0 rfl) (gk (k := 0) (t := 21) ck_S_comer_0 rfl) rfl
theorem d_S_comer_22 : decode y_S_comer.2.1 22 = .ok (.ifCond .lt 11, 3) := op_if_lt (gk (k := 0) (t := 22) ck_S_comer_0 rfl) (gk (k := 0) (t := 23) ck_S_comer_0 rfl) (gk (k := 0) (t := 24) ck_S_comer_0 rfl) (by decide +kernel)
theorem d_S_comer_25 : decode y_S_comer.2.1 25 = .ok (.iload 5, 2) := op_iload (gk (k := 0) (t := 25) ck_S_comer_0 rfl) (gk (k := 0) (t := 26) ck_S_comer_0 rfl) rfl
theorem cs_1000 : (Int16.ofInt 1000).toInt32 = iv 1000 := by decide +kernel
theorem d_S_comer_27 : decode y_S_comer.2.1 27 = .ok (.sipush 1000, 3) := op_sipush (gk (k := 0) (t := 27) ck_S_comer_0 rfl) (gk (k := 0) (t := 28) ck_S_comer_0 rfl) (gk (k := 0) (t := 29) ck_S_comer_0 rfl) (by decide +kernel)
theorem in_1000 : inr (1000) := lit_in rfl
theorem d_S_comer_30 : decode y_S_comer.2.1 30 = .ok (.if_icmp .le 5, 3) := op_icmp_le (gk (k := 0) (t := 30) ck_S_comer_0 rfl) (gk (k := 0) (t := 31) ck_S_comer_0 rfl) (gk (k := 32) (t := 0) ck_S_comer_1 rfl) (by decide +kernel)
theorem d_S_comer_35 : decode y_S_comer.2.1 35 = .ok (.aload_n 0, 1) := op_aload_n0 (gk (k := 32) (t := 3) ck_S_comer_1 rfl)
theorem d_S_comer_36 : decode y_S_comer.2.1 36 = .ok (.getfield 12, 3) := op_getfield (gk (k := 32) (t := 4) ck_S_comer_1 rfl) (gk (k := 32) (t := 5) ck_S_comer_1 rfl) (gk (k := 32) (t := 6) ck_S_comer_1 rfl) rfl
theorem d_S_comer_39 : decode y_S_comer.2.1 39 = .ok (.iload_n 1, 1) := op_iload_n1 (gk (k := 32) (t := 7) ck_S_comer_1 rfl)
theorem d_S_comer_40 : decode y_S_comer.2.1 40 = .ok (.iload_n 2, 1) := op_iload_n2 (gk (k := 32) (t := 8) ck_S_comer_1 rfl)
theorem d_S_comer_41 : decode y_S_comer.2.1 41 = .ok (.iload_n 3, 1) := op_iload_n3 (gk (k := 32) (t := 9) ck_S_comer_1 rfl)
theorem d_S_comer_42 : decode y_S_comer.2.1 42 = .ok (.iload 4, 2) := op_iload (gk (k := 32) (t := 10) ck_S_comer_1 rfl) (gk (k := 32) (t := 11) ck_S_comer_1 rfl) rfl
theorem d_S_comer_44 : decode y_S_comer.2.1 44 = .ok (.iload 5, 2) := op_iload (gk (k := 32) (t := 12) ck_S_comer_1 rfl) (gk (k := 32) (t := 13) ck_S_comer_1 rfl) rfl
theorem lk_S_93 : LkV "SinglesUp" 93 y_H_tellComer := ⟨tw_c2 159 (by decide +kernel) rfl, tw_c2 160 (by decide +kernel) rfl, Or.inl (tw_c2 158 (by decide +kernel) rfl)⟩
set_option maxRecDepth 100000 in
theorem mo_H_tellComer : MOk y_H_tellComer 5 := ⟨by decide +kernel, tw_c2 161 rfl rfl, tw_c1 2 (by decide +kernel) rfl, by decide +kernel, by decide +kernel, by decide +kernel⟩
theorem d_S_comer_46 : decode y_S_comer.2.1 46 = .ok (.invokevirtual 93, 3) := op_invokevirtual (gk (k := 32) (t := 14) ck_S_comer_1 rfl) (gk (k := 32) (t := 15) ck_S_comer_1 rfl) (gk (k := 32) (t := 16) ck_S_comer_1 rfl) rfl
theorem d_S_comer_49 : decode y_S_comer.2.1 49 = .ok (.iconst 1, 1) := op_iconst1 (gk (k := 32) (t := 17) ck_S_comer_1 rfl)
theorem d_S_comer_50 : decode y_S_comer.2.1 50 = .ok (.ireturn, 1) := op_ireturn (gk (k := 32) (t := 18) ck_S_comer_1 rfl)
abbrev y_R_hasRoomForFive : MI := (⟨"SinglesUp$Reader", "hasRoomForFive", "()Z"⟩, prog_9_method_2_code, 1, some .boolean)
theorem ck_R_hasRoomForFive_0 : (y_R_hasRoomForFive.2.1.data.toList.drop 0).take 32 = [42, 180, 0, 35, 17, 1, 124, 163, 0, 7, 4, 167, 0, 4, 3, 172] := by decide +kernel
theorem d_R_hasRoomForFive_0 : decode y_R_hasRoomForFive.2.1 0 = .ok (.aload_n 0, 1) := op_aload_n0 (gk (k := 0) (t := 0) ck_R_hasRoomForFive_0 rfl)
theorem fl_R_35 : FL "SinglesUp$Reader" 35 7 1 := ⟨"SinglesUp$Reader", zT7, 13, rfl, by decide, rfl, Or.inl (tw_c1 221 (by decide +kernel) rfl)⟩
theorem d_R_hasRoomForFive_1 : decode y_R_hasRoomForFive.2.1 1 = .ok (.getfield 35, 3) := op_getfield (gk (k := 0) (t := 1) ck_R_hasRoomForFive_0 rfl) (gk (k := 0) (t := 2) ck_R_hasRoomForFive_0 rfl) (gk (k := 0) (t := 3) ck_R_hasRoomForFive_0 rfl) rfl
theorem cs_380 : (Int16.ofInt 380).toInt32 = iv 380 := by decide +kernel
theorem d_R_hasRoomForFive_4 : decode y_R_hasRoomForFive.2.1 4 = .ok (.sipush 380, 3) := op_sipush (gk (k := 0) (t := 4) ck_R_hasRoomForFive_0 rfl) (gk (k := 0) (t := 5) ck_R_hasRoomForFive_0 rfl) (gk (k := 0) (t := 6) ck_R_hasRoomForFive_0 rfl) (by decide +kernel)
theorem in_380 : inr (380) := lit_in rfl
theorem d_R_hasRoomForFive_7 : decode y_R_hasRoomForFive.2.1 7 = .ok (.if_icmp .gt 7, 3) := op_icmp_gt (gk (k := 0) (t := 7) ck_R_hasRoomForFive_0 rfl) (gk (k := 0) (t := 8) ck_R_hasRoomForFive_0 rfl) (gk (k := 0) (t := 9) ck_R_hasRoomForFive_0 rfl) (by decide +kernel)
theorem d_R_hasRoomForFive_14 : decode y_R_hasRoomForFive.2.1 14 = .ok (.iconst 0, 1) := op_iconst0 (gk (k := 0) (t := 14) ck_R_hasRoomForFive_0 rfl)
theorem d_R_hasRoomForFive_15 : decode y_R_hasRoomForFive.2.1 15 = .ok (.ireturn, 1) := op_ireturn (gk (k := 0) (t := 15) ck_R_hasRoomForFive_0 rfl)
theorem d_R_hasRoomForFive_10 : decode y_R_hasRoomForFive.2.1 10 = .ok (.iconst 1, 1) := op_iconst1 (gk (k := 0) (t := 10) ck_R_hasRoomForFive_0 rfl)
theorem d_R_hasRoomForFive_11 : decode y_R_hasRoomForFive.2.1 11 = .ok (.goto 4, 3) := op_goto (gk (k := 0) (t := 11) ck_R_hasRoomForFive_0 rfl) (gk (k := 0) (t := 12) ck_R_hasRoomForFive_0 rfl) (gk (k := 0) (t := 13) ck_R_hasRoomForFive_0 rfl) (by decide +kernel)
abbrev y_R_take : MI := (⟨"SinglesUp$Reader", "take", "(I)V"⟩, prog_9_method_3_code, 3, none)
theorem ck_R_take_0 : (y_R_take.2.1.data.toList.drop 0).take 32 = [16, 24, 61, 28, 155, 0, 52, 42, 180, 0, 35, 155, 0, 39, 42, 180, 0, 35, 17, 1, 144, 162, 0, 29, 42, 180, 0, 11, 42, 180, 0, 35] := by decide +kernel
theorem d_R_take_0 : decode y_R_take.2.1 0 = .ok (.bipush 24, 2) := op_bipush (gk (k := 0) (t := 0) ck_R_take_0 rfl) (gk (k := 0) (t := 1) ck_R_take_0 rfl) rfl
theorem d_R_take_2 : decode y_R_take.2.1 2 = .ok (.istore_n 2, 1) := op_istore_n2 (gk (k := 0) (t := 2) ck_R_take_0 rfl)
theorem d_R_take_3 : decode y_R_take.2.1 3 = .ok (.iload_n 2, 1) := op_iload_n2 (gk (k := 0) (t := 3) ck_R_take_0 rfl)
theorem d_R_take_4 : decode y_R_take.2.1 4 = .ok (.ifCond .lt 52, 3) := op_if_lt (gk (k := 0) (t := 4) ck_R_take_0 rfl) (gk (k := 0) (t := 5) ck_R_take_0 rfl) (gk (k := 0) (t := 6) ck_R_take_0 rfl) (by decide +kernel)
theorem ck_R_take_1 : (y_R_take.2.1.data.toList.drop 32).take 32 = [27, 28, 124, 17, 0, 255, 126, 79, 42, 89, 180, 0, 35, 4, 96, 181, 0, 35, 132, 2, 248, 167, 255, 206, 177] := by decide +kernel
theorem d_R_take_56 : decode y_R_take.2.1 56 = .ok (.return_, 1) := op_return_ (gk (k := 32) (t := 24) ck_R_take_1 rfl)
theorem d_R_take_7 : decode y_R_take.2.1 7 = .ok (.aload_n 0, 1) := op_aload_n0 (gk (k := 0) (t := 7) ck_R_take_0 rfl)
theorem d_R_take_8 : decode y_R_take.2.1 8 = .ok (.getfield 35, 3) := op_getfield (gk (k := 0) (t := 8) ck_R_take_0 rfl) (gk (k := 0) (t := 9) ck_R_take_0 rfl) (gk (k := 0) (t := 10) ck_R_take_0 rfl) rfl
theorem d_R_take_50 : decode y_R_take.2.1 50 = .ok (.iinc 2 (-8), 3) := op_iinc (gk (k := 32) (t := 18) ck_R_take_1 rfl) (gk (k := 32) (t := 19) ck_R_take_1 rfl) (gk (k := 32) (t := 20) ck_R_take_1 rfl) rfl rfl
theorem d_R_take_53 : decode y_R_take.2.1 53 = .ok (.goto (-50), 3) := op_goto (gk (k := 32) (t := 21) ck_R_take_1 rfl) (gk (k := 32) (t := 22) ck_R_take_1 rfl) (gk (k := 32) (t := 23) ck_R_take_1 rfl) (by decide +kernel)
theorem d_R_take_11 : decode y_R_take.2.1 11 = .ok (.ifCond .lt 39, 3) := op_if_lt (gk (k := 0) (t := 11) ck_R_take_0 rfl) (gk (k := 0) (t := 12) ck_R_take_0 rfl) (gk (k := 0) (t := 13) ck_R_take_0 rfl) (by decide +kernel)
theorem d_R_take_14 : decode y_R_take.2.1 14 = .ok (.aload_n 0, 1) := op_aload_n0 (gk (k := 0) (t := 14) ck_R_take_0 rfl)
theorem d_R_take_15 : decode y_R_take.2.1 15 = .ok (.getfield 35, 3) := op_getfield (gk (k := 0) (t := 15) ck_R_take_0 rfl) (gk (k := 0) (t := 16) ck_R_take_0 rfl) (gk (k := 0) (t := 17) ck_R_take_0 rfl) rfl
theorem cs_400 : (Int16.ofInt 400).toInt32 = iv 400 := by decide +kernel
theorem d_R_take_18 : decode y_R_take.2.1 18 = .ok (.sipush 400, 3) := op_sipush (gk (k := 0) (t := 18) ck_R_take_0 rfl) (gk (k := 0) (t := 19) ck_R_take_0 rfl) (gk (k := 0) (t := 20) ck_R_take_0 rfl) (by decide +kernel)
theorem in_400 : inr (400) := lit_in rfl
theorem d_R_take_21 : decode y_R_take.2.1 21 = .ok (.if_icmp .ge 29, 3) := op_icmp_ge (gk (k := 0) (t := 21) ck_R_take_0 rfl) (gk (k := 0) (t := 22) ck_R_take_0 rfl) (gk (k := 0) (t := 23) ck_R_take_0 rfl) (by decide +kernel)
theorem d_R_take_24 : decode y_R_take.2.1 24 = .ok (.aload_n 0, 1) := op_aload_n0 (gk (k := 0) (t := 24) ck_R_take_0 rfl)
theorem fl_R_11 : FL "SinglesUp$Reader" 11 7 0 := ⟨"SinglesUp$Reader", zT7, 13, rfl, by decide, rfl, Or.inl (tw_c1 220 (by decide +kernel) rfl)⟩
theorem rc_7_0 : ∀ o, KC[o]? = some (10, 13) → RC o 0 = some (o + 1) ∧ KC[o + 1]? = some (0, 400) := by
  intro o h
  have hl : o < 166 := (List.getElem?_eq_some_iff.mp h).1
  exact (by decide +kernel : ∀ o, o < 166 → KC[o]? = some (10, 13) → RC o 0 = some (o + 1) ∧ KC[o + 1]? = some (0, 400)) o hl h
theorem d_R_take_25 : decode y_R_take.2.1 25 = .ok (.getfield 11, 3) := op_getfield (gk (k := 0) (t := 25) ck_R_take_0 rfl) (gk (k := 0) (t := 26) ck_R_take_0 rfl) (gk (k := 0) (t := 27) ck_R_take_0 rfl) rfl
theorem d_R_take_28 : decode y_R_take.2.1 28 = .ok (.aload_n 0, 1) := op_aload_n0 (gk (k := 0) (t := 28) ck_R_take_0 rfl)
theorem d_R_take_29 : decode y_R_take.2.1 29 = .ok (.getfield 35, 3) := op_getfield (gk (k := 0) (t := 29) ck_R_take_0 rfl) (gk (k := 0) (t := 30) ck_R_take_0 rfl) (gk (k := 0) (t := 31) ck_R_take_0 rfl) rfl
theorem d_R_take_32 : decode y_R_take.2.1 32 = .ok (.iload_n 1, 1) := op_iload_n1 (gk (k := 32) (t := 0) ck_R_take_1 rfl)
theorem d_R_take_33 : decode y_R_take.2.1 33 = .ok (.iload_n 2, 1) := op_iload_n2 (gk (k := 32) (t := 1) ck_R_take_1 rfl)
theorem d_R_take_34 : decode y_R_take.2.1 34 = .ok (.iushr, 1) := op_iushr (gk (k := 32) (t := 2) ck_R_take_1 rfl)
theorem d_R_take_35 : decode y_R_take.2.1 35 = .ok (.sipush 255, 3) := op_sipush (gk (k := 32) (t := 3) ck_R_take_1 rfl) (gk (k := 32) (t := 4) ck_R_take_1 rfl) (gk (k := 32) (t := 5) ck_R_take_1 rfl) (by decide +kernel)
theorem d_R_take_38 : decode y_R_take.2.1 38 = .ok (.iand, 1) := op_iand (gk (k := 32) (t := 6) ck_R_take_1 rfl)
theorem d_R_take_39 : decode y_R_take.2.1 39 = .ok (.iastore, 1) := op_iastore (gk (k := 32) (t := 7) ck_R_take_1 rfl)
theorem d_R_take_40 : decode y_R_take.2.1 40 = .ok (.aload_n 0, 1) := op_aload_n0 (gk (k := 32) (t := 8) ck_R_take_1 rfl)
theorem d_R_take_41 : decode y_R_take.2.1 41 = .ok (.dup, 1) := op_dup (gk (k := 32) (t := 9) ck_R_take_1 rfl)
theorem d_R_take_42 : decode y_R_take.2.1 42 = .ok (.getfield 35, 3) := op_getfield (gk (k := 32) (t := 10) ck_R_take_1 rfl) (gk (k := 32) (t := 11) ck_R_take_1 rfl) (gk (k := 32) (t := 12) ck_R_take_1 rfl) rfl
theorem d_R_take_45 : decode y_R_take.2.1 45 = .ok (.iconst 1, 1) := op_iconst1 (gk (k := 32) (t := 13) ck_R_take_1 rfl)
theorem d_R_take_46 : decode y_R_take.2.1 46 = .ok (.iadd, 1) := op_iadd (gk (k := 32) (t := 14) ck_R_take_1 rfl)
theorem d_R_take_47 : decode y_R_take.2.1 47 = .ok (.putfield 35, 3) := op_putfield (gk (k := 32) (t := 15) ck_R_take_1 rfl) (gk (k := 32) (t := 16) ck_R_take_1 rfl) (gk (k := 32) (t := 17) ck_R_take_1 rfl) rfl
abbrev y_S_feed : MI := (⟨"SinglesUp", "feed", "(IIIII)I"⟩, prog_1_method_7_code, 6, some .int)
theorem ck_S_feed_0 : (y_S_feed.2.1.data.toList.drop 0).take 32 = [42, 180, 0, 39, 182, 0, 97, 154, 0, 5, 2, 172, 42, 180, 0, 39, 27, 182, 0, 101, 42, 180, 0, 39, 28, 182, 0, 101, 42, 180, 0, 39] := by decide +kernel
theorem d_S_feed_0 : decode y_S_feed.2.1 0 = .ok (.aload_n 0, 1) := op_aload_n0 (gk (k := 0) (t := 0) ck_S_feed_0 rfl)
theorem fl_S_39 : FL "SinglesUp" 39 8 5 := ⟨"SinglesUp", zT8, 9, rfl, by decide, rfl, Or.inl (tw_c2 97 (by decide +kernel) rfl)⟩
theorem rc_8_5 : ∀ o, KC[o]? = some (11, 9) → RC o 5 = some (o + 144) ∧ KC[o + 144]? = some (10, 13) := by
  intro o h
  have hl : o < 166 := (List.getElem?_eq_some_iff.mp h).1
  exact (by decide +kernel : ∀ o, o < 166 → KC[o]? = some (11, 9) → RC o 5 = some (o + 144) ∧ KC[o + 144]? = some (10, 13)) o hl h
theorem d_S_feed_1 : decode y_S_feed.2.1 1 = .ok (.getfield 39, 3) := op_getfield (gk (k := 0) (t := 1) ck_S_feed_0 rfl) (gk (k := 0) (t := 2) ck_S_feed_0 rfl) (gk (k := 0) (t := 3) ck_S_feed_0 rfl) rfl
theorem lk_S_97 : LkV "SinglesUp" 97 y_R_hasRoomForFive := ⟨tw_c2 167 (by decide +kernel) rfl, tw_c2 168 (by decide +kernel) rfl, Or.inl (tw_c2 166 (by decide +kernel) rfl)⟩
set_option maxRecDepth 100000 in
theorem mo_R_hasRoomForFive : MOk y_R_hasRoomForFive 0 := ⟨by decide +kernel, tw_c2 169 rfl rfl, tw_c1 8 (by decide +kernel) rfl, by decide +kernel, by decide +kernel, by decide +kernel⟩
theorem d_S_feed_4 : decode y_S_feed.2.1 4 = .ok (.invokevirtual 97, 3) := op_invokevirtual (gk (k := 0) (t := 4) ck_S_feed_0 rfl) (gk (k := 0) (t := 5) ck_S_feed_0 rfl) (gk (k := 0) (t := 6) ck_S_feed_0 rfl) rfl
theorem d_S_feed_7 : decode y_S_feed.2.1 7 = .ok (.ifCond .ne 5, 3) := op_if_ne (gk (k := 0) (t := 7) ck_S_feed_0 rfl) (gk (k := 0) (t := 8) ck_S_feed_0 rfl) (gk (k := 0) (t := 9) ck_S_feed_0 rfl) (by decide +kernel)
theorem d_S_feed_12 : decode y_S_feed.2.1 12 = .ok (.aload_n 0, 1) := op_aload_n0 (gk (k := 0) (t := 12) ck_S_feed_0 rfl)
theorem d_S_feed_13 : decode y_S_feed.2.1 13 = .ok (.getfield 39, 3) := op_getfield (gk (k := 0) (t := 13) ck_S_feed_0 rfl) (gk (k := 0) (t := 14) ck_S_feed_0 rfl) (gk (k := 0) (t := 15) ck_S_feed_0 rfl) rfl
theorem d_S_feed_16 : decode y_S_feed.2.1 16 = .ok (.iload_n 1, 1) := op_iload_n1 (gk (k := 0) (t := 16) ck_S_feed_0 rfl)
theorem lk_S_101 : LkV "SinglesUp" 101 y_R_take := ⟨tw_c2 171 (by decide +kernel) rfl, tw_c2 172 (by decide +kernel) rfl, Or.inl (tw_c2 170 (by decide +kernel) rfl)⟩
set_option maxRecDepth 100000 in
theorem mo_R_take : MOk y_R_take 1 := ⟨by decide +kernel, tw_c2 173 rfl rfl, tw_c1 8 (by decide +kernel) rfl, by decide +kernel, by decide +kernel, by decide +kernel⟩
theorem d_S_feed_17 : decode y_S_feed.2.1 17 = .ok (.invokevirtual 101, 3) := op_invokevirtual (gk (k := 0) (t := 17) ck_S_feed_0 rfl) (gk (k := 0) (t := 18) ck_S_feed_0 rfl) (gk (k := 0) (t := 19) ck_S_feed_0 rfl) rfl
theorem d_S_feed_20 : decode y_S_feed.2.1 20 = .ok (.aload_n 0, 1) := op_aload_n0 (gk (k := 0) (t := 20) ck_S_feed_0 rfl)
theorem d_S_feed_21 : decode y_S_feed.2.1 21 = .ok (.getfield 39, 3) := op_getfield (gk (k := 0) (t := 21) ck_S_feed_0 rfl) (gk (k := 0) (t := 22) ck_S_feed_0 rfl) (gk (k := 0) (t := 23) ck_S_feed_0 rfl) rfl
theorem d_S_feed_24 : decode y_S_feed.2.1 24 = .ok (.iload_n 2, 1) := op_iload_n2 (gk (k := 0) (t := 24) ck_S_feed_0 rfl)
theorem d_S_feed_25 : decode y_S_feed.2.1 25 = .ok (.invokevirtual 101, 3) := op_invokevirtual (gk (k := 0) (t := 25) ck_S_feed_0 rfl) (gk (k := 0) (t := 26) ck_S_feed_0 rfl) (gk (k := 0) (t := 27) ck_S_feed_0 rfl) rfl
theorem d_S_feed_28 : decode y_S_feed.2.1 28 = .ok (.aload_n 0, 1) := op_aload_n0 (gk (k := 0) (t := 28) ck_S_feed_0 rfl)
theorem d_S_feed_29 : decode y_S_feed.2.1 29 = .ok (.getfield 39, 3) := op_getfield (gk (k := 0) (t := 29) ck_S_feed_0 rfl) (gk (k := 0) (t := 30) ck_S_feed_0 rfl) (gk (k := 0) (t := 31) ck_S_feed_0 rfl) rfl
theorem ck_S_feed_1 : (y_S_feed.2.1.data.toList.drop 32).take 32 = [29, 182, 0, 101, 42, 180, 0, 39, 21, 4, 182, 0, 101, 42, 180, 0, 39, 21, 5, 182, 0, 101, 42, 180, 0, 39, 180, 0, 104, 172] := by decide +kernel
theorem d_S_feed_32 : decode y_S_feed.2.1 32 = .ok (.iload_n 3, 1) := op_iload_n3 (gk (k := 32) (t := 0) ck_S_feed_1 rfl)
theorem d_S_feed_33 : decode y_S_feed.2.1 33 = .ok (.invokevirtual 101, 3) := op_invokevirtual (gk (k := 32) (t := 1) ck_S_feed_1 rfl) (gk (k := 32) (t := 2) ck_S_feed_1 rfl) (gk (k := 32) (t := 3) ck_S_feed_1 rfl) rfl
theorem d_S_feed_36 : decode y_S_feed.2.1 36 = .ok (.aload_n 0, 1) := op_aload_n0 (gk (k := 32) (t := 4) ck_S_feed_1 rfl)
theorem d_S_feed_37 : decode y_S_feed.2.1 37 = .ok (.getfield 39, 3) := op_getfield (gk (k := 32) (t := 5) ck_S_feed_1 rfl) (gk (k := 32) (t := 6) ck_S_feed_1 rfl) (gk (k := 32) (t := 7) ck_S_feed_1 rfl) rfl
theorem d_S_feed_40 : decode y_S_feed.2.1 40 = .ok (.iload 4, 2) := op_iload (gk (k := 32) (t := 8) ck_S_feed_1 rfl) (gk (k := 32) (t := 9) ck_S_feed_1 rfl) rfl
theorem d_S_feed_42 : decode y_S_feed.2.1 42 = .ok (.invokevirtual 101, 3) := op_invokevirtual (gk (k := 32) (t := 10) ck_S_feed_1 rfl) (gk (k := 32) (t := 11) ck_S_feed_1 rfl) (gk (k := 32) (t := 12) ck_S_feed_1 rfl) rfl
theorem d_S_feed_45 : decode y_S_feed.2.1 45 = .ok (.aload_n 0, 1) := op_aload_n0 (gk (k := 32) (t := 13) ck_S_feed_1 rfl)
theorem d_S_feed_46 : decode y_S_feed.2.1 46 = .ok (.getfield 39, 3) := op_getfield (gk (k := 32) (t := 14) ck_S_feed_1 rfl) (gk (k := 32) (t := 15) ck_S_feed_1 rfl) (gk (k := 32) (t := 16) ck_S_feed_1 rfl) rfl
theorem d_S_feed_49 : decode y_S_feed.2.1 49 = .ok (.iload 5, 2) := op_iload (gk (k := 32) (t := 17) ck_S_feed_1 rfl) (gk (k := 32) (t := 18) ck_S_feed_1 rfl) rfl
theorem d_S_feed_51 : decode y_S_feed.2.1 51 = .ok (.invokevirtual 101, 3) := op_invokevirtual (gk (k := 32) (t := 19) ck_S_feed_1 rfl) (gk (k := 32) (t := 20) ck_S_feed_1 rfl) (gk (k := 32) (t := 21) ck_S_feed_1 rfl) rfl
theorem d_S_feed_54 : decode y_S_feed.2.1 54 = .ok (.aload_n 0, 1) := op_aload_n0 (gk (k := 32) (t := 22) ck_S_feed_1 rfl)
theorem d_S_feed_55 : decode y_S_feed.2.1 55 = .ok (.getfield 39, 3) := op_getfield (gk (k := 32) (t := 23) ck_S_feed_1 rfl) (gk (k := 32) (t := 24) ck_S_feed_1 rfl) (gk (k := 32) (t := 25) ck_S_feed_1 rfl) rfl
theorem fl_S_104 : FL "SinglesUp" 104 7 1 := ⟨"SinglesUp$Reader", zT7, 13, rfl, by decide, rfl, Or.inr ⟨"SinglesUp", nw_in 222 (by decide +kernel) rfl⟩⟩
theorem d_S_feed_58 : decode y_S_feed.2.1 58 = .ok (.getfield 104, 3) := op_getfield (gk (k := 32) (t := 26) ck_S_feed_1 rfl) (gk (k := 32) (t := 27) ck_S_feed_1 rfl) (gk (k := 32) (t := 28) ck_S_feed_1 rfl) rfl
theorem d_S_feed_61 : decode y_S_feed.2.1 61 = .ok (.ireturn, 1) := op_ireturn (gk (k := 32) (t := 29) ck_S_feed_1 rfl)
theorem d_S_feed_10 : decode y_S_feed.2.1 10 = .ok (.iconst (-1), 1) := op_iconstm1 (gk (k := 0) (t := 10) ck_S_feed_0 rfl)
theorem d_S_feed_11 : decode y_S_feed.2.1 11 = .ok (.ireturn, 1) := op_ireturn (gk (k := 0) (t := 11) ck_S_feed_0 rfl)
abbrev y_R_cut : MI := (⟨"SinglesUp$Reader", "cut", "(I)Z"⟩, prog_9_method_4_code, 2, some .boolean)
theorem ck_R_cut_0 : (y_R_cut.2.1.data.toList.drop 0).take 32 = [27, 155, 0, 11, 27, 42, 180, 0, 35, 164, 0, 5, 3, 172, 42, 27, 181, 0, 35, 4, 172] := by decide +kernel
theorem d_R_cut_0 : decode y_R_cut.2.1 0 = .ok (.iload_n 1, 1) := op_iload_n1 (gk (k := 0) (t := 0) ck_R_cut_0 rfl)
theorem d_R_cut_1 : decode y_R_cut.2.1 1 = .ok (.ifCond .lt 11, 3) := op_if_lt (gk (k := 0) (t := 1) ck_R_cut_0 rfl) (gk (k := 0) (t := 2) ck_R_cut_0 rfl) (gk (k := 0) (t := 3) ck_R_cut_0 rfl) (by decide +kernel)
theorem d_R_cut_12 : decode y_R_cut.2.1 12 = .ok (.iconst 0, 1) := op_iconst0 (gk (k := 0) (t := 12) ck_R_cut_0 rfl)
theorem d_R_cut_13 : decode y_R_cut.2.1 13 = .ok (.ireturn, 1) := op_ireturn (gk (k := 0) (t := 13) ck_R_cut_0 rfl)
theorem d_R_cut_4 : decode y_R_cut.2.1 4 = .ok (.iload_n 1, 1) := op_iload_n1 (gk (k := 0) (t := 4) ck_R_cut_0 rfl)
theorem d_R_cut_5 : decode y_R_cut.2.1 5 = .ok (.aload_n 0, 1) := op_aload_n0 (gk (k := 0) (t := 5) ck_R_cut_0 rfl)
theorem d_R_cut_6 : decode y_R_cut.2.1 6 = .ok (.getfield 35, 3) := op_getfield (gk (k := 0) (t := 6) ck_R_cut_0 rfl) (gk (k := 0) (t := 7) ck_R_cut_0 rfl) (gk (k := 0) (t := 8) ck_R_cut_0 rfl) rfl
theorem d_R_cut_9 : decode y_R_cut.2.1 9 = .ok (.if_icmp .le 5, 3) := op_icmp_le (gk (k := 0) (t := 9) ck_R_cut_0 rfl) (gk (k := 0) (t := 10) ck_R_cut_0 rfl) (gk (k := 0) (t := 11) ck_R_cut_0 rfl) (by decide +kernel)
theorem d_R_cut_14 : decode y_R_cut.2.1 14 = .ok (.aload_n 0, 1) := op_aload_n0 (gk (k := 0) (t := 14) ck_R_cut_0 rfl)
theorem d_R_cut_15 : decode y_R_cut.2.1 15 = .ok (.iload_n 1, 1) := op_iload_n1 (gk (k := 0) (t := 15) ck_R_cut_0 rfl)
theorem d_R_cut_16 : decode y_R_cut.2.1 16 = .ok (.putfield 35, 3) := op_putfield (gk (k := 0) (t := 16) ck_R_cut_0 rfl) (gk (k := 0) (t := 17) ck_R_cut_0 rfl) (gk (k := 0) (t := 18) ck_R_cut_0 rfl) rfl
theorem d_R_cut_19 : decode y_R_cut.2.1 19 = .ok (.iconst 1, 1) := op_iconst1 (gk (k := 0) (t := 19) ck_R_cut_0 rfl)
theorem d_R_cut_20 : decode y_R_cut.2.1 20 = .ok (.ireturn, 1) := op_ireturn (gk (k := 0) (t := 20) ck_R_cut_0 rfl)
abbrev y_S_end : MI := (⟨"SinglesUp", "end", "(I)Z"⟩, prog_1_method_8_code, 2, some .boolean)
theorem ck_S_end_0 : (y_S_end.2.1.data.toList.drop 0).take 32 = [42, 180, 0, 39, 27, 182, 0, 107, 172] := by decide +kernel
theorem d_S_end_0 : decode y_S_end.2.1 0 = .ok (.aload_n 0, 1) := op_aload_n0 (gk (k := 0) (t := 0) ck_S_end_0 rfl)
theorem d_S_end_1 : decode y_S_end.2.1 1 = .ok (.getfield 39, 3) := op_getfield (gk (k := 0) (t := 1) ck_S_end_0 rfl) (gk (k := 0) (t := 2) ck_S_end_0 rfl) (gk (k := 0) (t := 3) ck_S_end_0 rfl) rfl
theorem d_S_end_4 : decode y_S_end.2.1 4 = .ok (.iload_n 1, 1) := op_iload_n1 (gk (k := 0) (t := 4) ck_S_end_0 rfl)
theorem lk_S_107 : LkV "SinglesUp" 107 y_R_cut := ⟨tw_c2 179 (by decide +kernel) rfl, tw_c2 180 (by decide +kernel) rfl, Or.inl (tw_c2 178 (by decide +kernel) rfl)⟩
set_option maxRecDepth 100000 in
theorem mo_R_cut : MOk y_R_cut 1 := ⟨by decide +kernel, tw_c2 181 rfl rfl, tw_c1 8 (by decide +kernel) rfl, by decide +kernel, by decide +kernel, by decide +kernel⟩
theorem d_S_end_5 : decode y_S_end.2.1 5 = .ok (.invokevirtual 107, 3) := op_invokevirtual (gk (k := 0) (t := 5) ck_S_end_0 rfl) (gk (k := 0) (t := 6) ck_S_end_0 rfl) (gk (k := 0) (t := 7) ck_S_end_0 rfl) rfl
theorem d_S_end_8 : decode y_S_end.2.1 8 = .ok (.ireturn, 1) := op_ireturn (gk (k := 0) (t := 8) ck_S_end_0 rfl)
abbrev y_R_forget : MI := (⟨"SinglesUp$Reader", "forget", "()V"⟩, prog_9_method_5_code, 1, none)
theorem ck_R_forget_0 : (y_R_forget.2.1.data.toList.drop 0).take 32 = [42, 3, 181, 0, 35, 42, 3, 181, 0, 38, 42, 2, 181, 0, 24, 177] := by decide +kernel
theorem d_R_forget_0 : decode y_R_forget.2.1 0 = .ok (.aload_n 0, 1) := op_aload_n0 (gk (k := 0) (t := 0) ck_R_forget_0 rfl)
theorem d_R_forget_1 : decode y_R_forget.2.1 1 = .ok (.iconst 0, 1) := op_iconst0 (gk (k := 0) (t := 1) ck_R_forget_0 rfl)
theorem d_R_forget_2 : decode y_R_forget.2.1 2 = .ok (.putfield 35, 3) := op_putfield (gk (k := 0) (t := 2) ck_R_forget_0 rfl) (gk (k := 0) (t := 3) ck_R_forget_0 rfl) (gk (k := 0) (t := 4) ck_R_forget_0 rfl) rfl
theorem d_R_forget_5 : decode y_R_forget.2.1 5 = .ok (.aload_n 0, 1) := op_aload_n0 (gk (k := 0) (t := 5) ck_R_forget_0 rfl)
theorem d_R_forget_6 : decode y_R_forget.2.1 6 = .ok (.iconst 0, 1) := op_iconst0 (gk (k := 0) (t := 6) ck_R_forget_0 rfl)
theorem fl_R_38 : FL "SinglesUp$Reader" 38 7 10 := ⟨"SinglesUp$Reader", zT7, 13, rfl, by decide, rfl, Or.inl (tw_c1 231 (by decide +kernel) rfl)⟩
theorem d_R_forget_7 : decode y_R_forget.2.1 7 = .ok (.putfield 38, 3) := op_putfield (gk (k := 0) (t := 7) ck_R_forget_0 rfl) (gk (k := 0) (t := 8) ck_R_forget_0 rfl) (gk (k := 0) (t := 9) ck_R_forget_0 rfl) rfl
theorem d_R_forget_10 : decode y_R_forget.2.1 10 = .ok (.aload_n 0, 1) := op_aload_n0 (gk (k := 0) (t := 10) ck_R_forget_0 rfl)
theorem d_R_forget_11 : decode y_R_forget.2.1 11 = .ok (.iconst (-1), 1) := op_iconstm1 (gk (k := 0) (t := 11) ck_R_forget_0 rfl)
theorem fl_R_24 : FL "SinglesUp$Reader" 24 7 11 := ⟨"SinglesUp$Reader", zT7, 13, rfl, by decide, rfl, Or.inl (tw_c1 233 (by decide +kernel) rfl)⟩
theorem d_R_forget_12 : decode y_R_forget.2.1 12 = .ok (.putfield 24, 3) := op_putfield (gk (k := 0) (t := 12) ck_R_forget_0 rfl) (gk (k := 0) (t := 13) ck_R_forget_0 rfl) (gk (k := 0) (t := 14) ck_R_forget_0 rfl) rfl
theorem d_R_forget_15 : decode y_R_forget.2.1 15 = .ok (.return_, 1) := op_return_ (gk (k := 0) (t := 15) ck_R_forget_0 rfl)
abbrev y_R_advance : MI := (⟨"SinglesUp$Reader", "advance", "()V"⟩, prog_9_method_13_code, 2, none)
theorem ck_R_advance_0 : (y_R_advance.2.1.data.toList.drop 0).take 32 = [42, 180, 0, 54, 4, 96, 60, 42, 180, 0, 38, 154, 0, 47, 27, 155, 0, 43, 27, 17, 1, 144, 163, 0, 36, 27, 42, 180, 0, 66, 162, 0] := by decide +kernel
theorem d_R_advance_0 : decode y_R_advance.2.1 0 = .ok (.aload_n 0, 1) := op_aload_n0 (gk (k := 0) (t := 0) ck_R_advance_0 rfl)
theorem fl_R_54 : FL "SinglesUp$Reader" 54 7 6 := ⟨"SinglesUp$Reader", zT7, 13, rfl, by decide, rfl, Or.inl (tw_c1 227 (by decide +kernel) rfl)⟩
theorem d_R_advance_1 : decode y_R_advance.2.1 1 = .ok (.getfield 54, 3) := op_getfield (gk (k := 0) (t := 1) ck_R_advance_0 rfl) (gk (k := 0) (t := 2) ck_R_advance_0 rfl) (gk (k := 0) (t := 3) ck_R_advance_0 rfl) rfl
theorem d_R_advance_4 : decode y_R_advance.2.1 4 = .ok (.iconst 1, 1) := op_iconst1 (gk (k := 0) (t := 4) ck_R_advance_0 rfl)
theorem d_R_advance_5 : decode y_R_advance.2.1 5 = .ok (.iadd, 1) := op_iadd (gk (k := 0) (t := 5) ck_R_advance_0 rfl)
theorem d_R_advance_6 : decode y_R_advance.2.1 6 = .ok (.istore_n 1, 1) := op_istore_n1 (gk (k := 0) (t := 6) ck_R_advance_0 rfl)
theorem d_R_advance_7 : decode y_R_advance.2.1 7 = .ok (.aload_n 0, 1) := op_aload_n0 (gk (k := 0) (t := 7) ck_R_advance_0 rfl)
theorem d_R_advance_8 : decode y_R_advance.2.1 8 = .ok (.getfield 38, 3) := op_getfield (gk (k := 0) (t := 8) ck_R_advance_0 rfl) (gk (k := 0) (t := 9) ck_R_advance_0 rfl) (gk (k := 0) (t := 10) ck_R_advance_0 rfl) rfl
theorem d_R_advance_11 : decode y_R_advance.2.1 11 = .ok (.ifCond .ne 47, 3) := op_if_ne (gk (k := 0) (t := 11) ck_R_advance_0 rfl) (gk (k := 0) (t := 12) ck_R_advance_0 rfl) (gk (k := 0) (t := 13) ck_R_advance_0 rfl) (by decide +kernel)
theorem ck_R_advance_1 : (y_R_advance.2.1.data.toList.drop 32).take 32 = [28, 42, 27, 181, 0, 54, 42, 42, 180, 0, 15, 27, 46, 181, 0, 60, 42, 42, 180, 0, 21, 27, 46, 181, 0, 109, 177] := by decide +kernel
theorem d_R_advance_58 : decode y_R_advance.2.1 58 = .ok (.return_, 1) := op_return_ (gk (k := 32) (t := 26) ck_R_advance_1 rfl)
theorem d_R_advance_14 : decode y_R_advance.2.1 14 = .ok (.iload_n 1, 1) := op_iload_n1 (gk (k := 0) (t := 14) ck_R_advance_0 rfl)
theorem d_R_advance_15 : decode y_R_advance.2.1 15 = .ok (.ifCond .lt 43, 3) := op_if_lt (gk (k := 0) (t := 15) ck_R_advance_0 rfl) (gk (k := 0) (t := 16) ck_R_advance_0 rfl) (gk (k := 0) (t := 17) ck_R_advance_0 rfl) (by decide +kernel)
theorem d_R_advance_18 : decode y_R_advance.2.1 18 = .ok (.iload_n 1, 1) := op_iload_n1 (gk (k := 0) (t := 18) ck_R_advance_0 rfl)
theorem d_R_advance_19 : decode y_R_advance.2.1 19 = .ok (.sipush 400, 3) := op_sipush (gk (k := 0) (t := 19) ck_R_advance_0 rfl) (gk (k := 0) (t := 20) ck_R_advance_0 rfl) (gk (k := 0) (t := 21) ck_R_advance_0 rfl) (by decide +kernel)
theorem d_R_advance_22 : decode y_R_advance.2.1 22 = .ok (.if_icmp .gt 36, 3) := op_icmp_gt (gk (k := 0) (t := 22) ck_R_advance_0 rfl) (gk (k := 0) (t := 23) ck_R_advance_0 rfl) (gk (k := 0) (t := 24) ck_R_advance_0 rfl) (by decide +kernel)
theorem d_R_advance_25 : decode y_R_advance.2.1 25 = .ok (.iload_n 1, 1) := op_iload_n1 (gk (k := 0) (t := 25) ck_R_advance_0 rfl)
theorem d_R_advance_26 : decode y_R_advance.2.1 26 = .ok (.aload_n 0, 1) := op_aload_n0 (gk (k := 0) (t := 26) ck_R_advance_0 rfl)
theorem fl_R_66 : FL "SinglesUp$Reader" 66 7 5 := ⟨"SinglesUp$Reader", zT7, 13, rfl, by decide, rfl, Or.inl (tw_c1 226 (by decide +kernel) rfl)⟩
theorem d_R_advance_27 : decode y_R_advance.2.1 27 = .ok (.getfield 66, 3) := op_getfield (gk (k := 0) (t := 27) ck_R_advance_0 rfl) (gk (k := 0) (t := 28) ck_R_advance_0 rfl) (gk (k := 0) (t := 29) ck_R_advance_0 rfl) rfl
theorem d_R_advance_30 : decode y_R_advance.2.1 30 = .ok (.if_icmp .ge 28, 3) := op_icmp_ge (gk (k := 0) (t := 30) ck_R_advance_0 rfl) (gk (k := 0) (t := 31) ck_R_advance_0 rfl) (gk (k := 32) (t := 0) ck_R_advance_1 rfl) (by decide +kernel)
theorem d_R_advance_33 : decode y_R_advance.2.1 33 = .ok (.aload_n 0, 1) := op_aload_n0 (gk (k := 32) (t := 1) ck_R_advance_1 rfl)
theorem d_R_advance_34 : decode y_R_advance.2.1 34 = .ok (.iload_n 1, 1) := op_iload_n1 (gk (k := 32) (t := 2) ck_R_advance_1 rfl)
theorem d_R_advance_35 : decode y_R_advance.2.1 35 = .ok (.putfield 54, 3) := op_putfield (gk (k := 32) (t := 3) ck_R_advance_1 rfl) (gk (k := 32) (t := 4) ck_R_advance_1 rfl) (gk (k := 32) (t := 5) ck_R_advance_1 rfl) rfl
theorem d_R_advance_38 : decode y_R_advance.2.1 38 = .ok (.aload_n 0, 1) := op_aload_n0 (gk (k := 32) (t := 6) ck_R_advance_1 rfl)
theorem d_R_advance_39 : decode y_R_advance.2.1 39 = .ok (.aload_n 0, 1) := op_aload_n0 (gk (k := 32) (t := 7) ck_R_advance_1 rfl)
theorem fl_R_15 : FL "SinglesUp$Reader" 15 7 2 := ⟨"SinglesUp$Reader", zT7, 13, rfl, by decide, rfl, Or.inl (tw_c1 223 (by decide +kernel) rfl)⟩
theorem rc_7_2 : ∀ o, KC[o]? = some (10, 13) → RC o 2 = some (o + 2) ∧ KC[o + 2]? = some (0, 401) := by
  intro o h
  have hl : o < 166 := (List.getElem?_eq_some_iff.mp h).1
  exact (by decide +kernel : ∀ o, o < 166 → KC[o]? = some (10, 13) → RC o 2 = some (o + 2) ∧ KC[o + 2]? = some (0, 401)) o hl h
theorem d_R_advance_40 : decode y_R_advance.2.1 40 = .ok (.getfield 15, 3) := op_getfield (gk (k := 32) (t := 8) ck_R_advance_1 rfl) (gk (k := 32) (t := 9) ck_R_advance_1 rfl) (gk (k := 32) (t := 10) ck_R_advance_1 rfl) rfl
theorem d_R_advance_43 : decode y_R_advance.2.1 43 = .ok (.iload_n 1, 1) := op_iload_n1 (gk (k := 32) (t := 11) ck_R_advance_1 rfl)
theorem d_R_advance_44 : decode y_R_advance.2.1 44 = .ok (.iaload, 1) := op_iaload (gk (k := 32) (t := 12) ck_R_advance_1 rfl)
theorem fl_R_60 : FL "SinglesUp$Reader" 60 7 7 := ⟨"SinglesUp$Reader", zT7, 13, rfl, by decide, rfl, Or.inl (tw_c1 228 (by decide +kernel) rfl)⟩
theorem d_R_advance_45 : decode y_R_advance.2.1 45 = .ok (.putfield 60, 3) := op_putfield (gk (k := 32) (t := 13) ck_R_advance_1 rfl) (gk (k := 32) (t := 14) ck_R_advance_1 rfl) (gk (k := 32) (t := 15) ck_R_advance_1 rfl) rfl
theorem d_R_advance_48 : decode y_R_advance.2.1 48 = .ok (.aload_n 0, 1) := op_aload_n0 (gk (k := 32) (t := 16) ck_R_advance_1 rfl)
theorem d_R_advance_49 : decode y_R_advance.2.1 49 = .ok (.aload_n 0, 1) := op_aload_n0 (gk (k := 32) (t := 17) ck_R_advance_1 rfl)
theorem fl_R_21 : FL "SinglesUp$Reader" 21 7 4 := ⟨"SinglesUp$Reader", zT7, 13, rfl, by decide, rfl, Or.inl (tw_c1 225 (by decide +kernel) rfl)⟩
theorem rc_7_4 : ∀ o, KC[o]? = some (10, 13) → RC o 4 = some (o + 4) ∧ KC[o + 4]? = some (0, 401) := by
  intro o h
  have hl : o < 166 := (List.getElem?_eq_some_iff.mp h).1
  exact (by decide +kernel : ∀ o, o < 166 → KC[o]? = some (10, 13) → RC o 4 = some (o + 4) ∧ KC[o + 4]? = some (0, 401)) o hl h
theorem d_R_advance_50 : decode y_R_advance.2.1 50 = .ok (.getfield 21, 3) := op_getfield (gk (k := 32) (t := 18) ck_R_advance_1 rfl) (gk (k := 32) (t := 19) ck_R_advance_1 rfl) (gk (k := 32) (t := 20) ck_R_advance_1 rfl) rfl
theorem d_R_advance_53 : decode y_R_advance.2.1 53 = .ok (.iload_n 1, 1) := op_iload_n1 (gk (k := 32) (t := 21) ck_R_advance_1 rfl)
theorem d_R_advance_54 : decode y_R_advance.2.1 54 = .ok (.iaload, 1) := op_iaload (gk (k := 32) (t := 22) ck_R_advance_1 rfl)
theorem fl_R_109 : FL "SinglesUp$Reader" 109 7 8 := ⟨"SinglesUp$Reader", zT7, 13, rfl, by decide, rfl, Or.inl (tw_c1 229 (by decide +kernel) rfl)⟩
theorem d_R_advance_55 : decode y_R_advance.2.1 55 = .ok (.putfield 109, 3) := op_putfield (gk (k := 32) (t := 23) ck_R_advance_1 rfl) (gk (k := 32) (t := 24) ck_R_advance_1 rfl) (gk (k := 32) (t := 25) ck_R_advance_1 rfl) rfl
abbrev y_R_fail : MI := (⟨"SinglesUp$Reader", "fail", "(I)V"⟩, prog_9_method_14_code, 2, none)
theorem ck_R_fail_0 : (y_R_fail.2.1.data.toList.drop 0).take 32 = [42, 180, 0, 38, 154, 0, 38, 42, 180, 0, 54, 155, 0, 31, 42, 180, 0, 54, 17, 1, 144, 163, 0, 21, 42, 27, 181, 0, 38, 42, 42, 180] := by decide +kernel
theorem d_R_fail_0 : decode y_R_fail.2.1 0 = .ok (.aload_n 0, 1) := op_aload_n0 (gk (k := 0) (t := 0) ck_R_fail_0 rfl)
theorem d_R_fail_1 : decode y_R_fail.2.1 1 = .ok (.getfield 38, 3) := op_getfield (gk (k := 0) (t := 1) ck_R_fail_0 rfl) (gk (k := 0) (t := 2) ck_R_fail_0 rfl) (gk (k := 0) (t := 3) ck_R_fail_0 rfl) rfl
theorem d_R_fail_4 : decode y_R_fail.2.1 4 = .ok (.ifCond .ne 38, 3) := op_if_ne (gk (k := 0) (t := 4) ck_R_fail_0 rfl) (gk (k := 0) (t := 5) ck_R_fail_0 rfl) (gk (k := 0) (t := 6) ck_R_fail_0 rfl) (by decide +kernel)
theorem ck_R_fail_1 : (y_R_fail.2.1.data.toList.drop 32).take 32 = [0, 18, 42, 180, 0, 54, 46, 181, 0, 24, 177] := by decide +kernel
theorem d_R_fail_42 : decode y_R_fail.2.1 42 = .ok (.return_, 1) := op_return_ (gk (k := 32) (t := 10) ck_R_fail_1 rfl)
theorem d_R_fail_7 : decode y_R_fail.2.1 7 = .ok (.aload_n 0, 1) := op_aload_n0 (gk (k := 0) (t := 7) ck_R_fail_0 rfl)
theorem d_R_fail_8 : decode y_R_fail.2.1 8 = .ok (.getfield 54, 3) := op_getfield (gk (k := 0) (t := 8) ck_R_fail_0 rfl) (gk (k := 0) (t := 9) ck_R_fail_0 rfl) (gk (k := 0) (t := 10) ck_R_fail_0 rfl) rfl
theorem d_R_fail_11 : decode y_R_fail.2.1 11 = .ok (.ifCond .lt 31, 3) := op_if_lt (gk (k := 0) (t := 11) ck_R_fail_0 rfl) (gk (k := 0) (t := 12) ck_R_fail_0 rfl) (gk (k := 0) (t := 13) ck_R_fail_0 rfl) (by decide +kernel)
theorem d_R_fail_14 : decode y_R_fail.2.1 14 = .ok (.aload_n 0, 1) := op_aload_n0 (gk (k := 0) (t := 14) ck_R_fail_0 rfl)
theorem d_R_fail_15 : decode y_R_fail.2.1 15 = .ok (.getfield 54, 3) := op_getfield (gk (k := 0) (t := 15) ck_R_fail_0 rfl) (gk (k := 0) (t := 16) ck_R_fail_0 rfl) (gk (k := 0) (t := 17) ck_R_fail_0 rfl) rfl
theorem d_R_fail_18 : decode y_R_fail.2.1 18 = .ok (.sipush 400, 3) := op_sipush (gk (k := 0) (t := 18) ck_R_fail_0 rfl) (gk (k := 0) (t := 19) ck_R_fail_0 rfl) (gk (k := 0) (t := 20) ck_R_fail_0 rfl) (by decide +kernel)
theorem d_R_fail_21 : decode y_R_fail.2.1 21 = .ok (.if_icmp .gt 21, 3) := op_icmp_gt (gk (k := 0) (t := 21) ck_R_fail_0 rfl) (gk (k := 0) (t := 22) ck_R_fail_0 rfl) (gk (k := 0) (t := 23) ck_R_fail_0 rfl) (by decide +kernel)
theorem d_R_fail_24 : decode y_R_fail.2.1 24 = .ok (.aload_n 0, 1) := op_aload_n0 (gk (k := 0) (t := 24) ck_R_fail_0 rfl)
theorem d_R_fail_25 : decode y_R_fail.2.1 25 = .ok (.iload_n 1, 1) := op_iload_n1 (gk (k := 0) (t := 25) ck_R_fail_0 rfl)
theorem d_R_fail_26 : decode y_R_fail.2.1 26 = .ok (.putfield 38, 3) := op_putfield (gk (k := 0) (t := 26) ck_R_fail_0 rfl) (gk (k := 0) (t := 27) ck_R_fail_0 rfl) (gk (k := 0) (t := 28) ck_R_fail_0 rfl) rfl
theorem d_R_fail_29 : decode y_R_fail.2.1 29 = .ok (.aload_n 0, 1) := op_aload_n0 (gk (k := 0) (t := 29) ck_R_fail_0 rfl)
theorem d_R_fail_30 : decode y_R_fail.2.1 30 = .ok (.aload_n 0, 1) := op_aload_n0 (gk (k := 0) (t := 30) ck_R_fail_0 rfl)
theorem fl_R_18 : FL "SinglesUp$Reader" 18 7 3 := ⟨"SinglesUp$Reader", zT7, 13, rfl, by decide, rfl, Or.inl (tw_c1 224 (by decide +kernel) rfl)⟩
theorem rc_7_3 : ∀ o, KC[o]? = some (10, 13) → RC o 3 = some (o + 3) ∧ KC[o + 3]? = some (0, 401) := by
  intro o h
  have hl : o < 166 := (List.getElem?_eq_some_iff.mp h).1
  exact (by decide +kernel : ∀ o, o < 166 → KC[o]? = some (10, 13) → RC o 3 = some (o + 3) ∧ KC[o + 3]? = some (0, 401)) o hl h
theorem d_R_fail_31 : decode y_R_fail.2.1 31 = .ok (.getfield 18, 3) := op_getfield (gk (k := 0) (t := 31) ck_R_fail_0 rfl) (gk (k := 32) (t := 0) ck_R_fail_1 rfl) (gk (k := 32) (t := 1) ck_R_fail_1 rfl) rfl
theorem d_R_fail_34 : decode y_R_fail.2.1 34 = .ok (.aload_n 0, 1) := op_aload_n0 (gk (k := 32) (t := 2) ck_R_fail_1 rfl)
theorem d_R_fail_35 : decode y_R_fail.2.1 35 = .ok (.getfield 54, 3) := op_getfield (gk (k := 32) (t := 3) ck_R_fail_1 rfl) (gk (k := 32) (t := 4) ck_R_fail_1 rfl) (gk (k := 32) (t := 5) ck_R_fail_1 rfl) rfl
theorem d_R_fail_38 : decode y_R_fail.2.1 38 = .ok (.iaload, 1) := op_iaload (gk (k := 32) (t := 6) ck_R_fail_1 rfl)
theorem d_R_fail_39 : decode y_R_fail.2.1 39 = .ok (.putfield 24, 3) := op_putfield (gk (k := 32) (t := 7) ck_R_fail_1 rfl) (gk (k := 32) (t := 8) ck_R_fail_1 rfl) (gk (k := 32) (t := 9) ck_R_fail_1 rfl) rfl
abbrev y_R_expect : MI := (⟨"SinglesUp$Reader", "expect", "(I)V"⟩, prog_9_method_15_code, 2, none)
theorem ck_R_expect_0 : (y_R_expect.2.1.data.toList.drop 0).take 32 = [42, 180, 0, 60, 27, 160, 0, 10, 42, 182, 0, 57, 167, 0, 8, 42, 4, 182, 0, 112, 177] := by decide +kernel
theorem d_R_expect_0 : decode y_R_expect.2.1 0 = .ok (.aload_n 0, 1) := op_aload_n0 (gk (k := 0) (t := 0) ck_R_expect_0 rfl)
theorem d_R_expect_1 : decode y_R_expect.2.1 1 = .ok (.getfield 60, 3) := op_getfield (gk (k := 0) (t := 1) ck_R_expect_0 rfl) (gk (k := 0) (t := 2) ck_R_expect_0 rfl) (gk (k := 0) (t := 3) ck_R_expect_0 rfl) rfl
theorem d_R_expect_4 : decode y_R_expect.2.1 4 = .ok (.iload_n 1, 1) := op_iload_n1 (gk (k := 0) (t := 4) ck_R_expect_0 rfl)
theorem d_R_expect_5 : decode y_R_expect.2.1 5 = .ok (.if_icmp .ne 10, 3) := op_icmp_ne (gk (k := 0) (t := 5) ck_R_expect_0 rfl) (gk (k := 0) (t := 6) ck_R_expect_0 rfl) (gk (k := 0) (t := 7) ck_R_expect_0 rfl) (by decide +kernel)
theorem d_R_expect_15 : decode y_R_expect.2.1 15 = .ok (.aload_n 0, 1) := op_aload_n0 (gk (k := 0) (t := 15) ck_R_expect_0 rfl)
theorem d_R_expect_16 : decode y_R_expect.2.1 16 = .ok (.iconst 1, 1) := op_iconst1 (gk (k := 0) (t := 16) ck_R_expect_0 rfl)
theorem lk_R_112 : LkV "SinglesUp$Reader" 112 y_R_fail := ⟨tw_c3 105 (by decide +kernel) rfl, tw_in 8 (by decide +kernel) rfl, Or.inl (tw_c3 103 (by decide +kernel) rfl)⟩
set_option maxRecDepth 100000 in
theorem mo_R_fail : MOk y_R_fail 1 := ⟨by decide +kernel, tw_c3 106 rfl rfl, tw_c1 8 (by decide +kernel) rfl, by decide +kernel, by decide +kernel, by decide +kernel⟩
theorem d_R_expect_17 : decode y_R_expect.2.1 17 = .ok (.invokevirtual 112, 3) := op_invokevirtual (gk (k := 0) (t := 17) ck_R_expect_0 rfl) (gk (k := 0) (t := 18) ck_R_expect_0 rfl) (gk (k := 0) (t := 19) ck_R_expect_0 rfl) rfl
theorem d_R_expect_20 : decode y_R_expect.2.1 20 = .ok (.return_, 1) := op_return_ (gk (k := 0) (t := 20) ck_R_expect_0 rfl)
theorem d_R_expect_8 : decode y_R_expect.2.1 8 = .ok (.aload_n 0, 1) := op_aload_n0 (gk (k := 0) (t := 8) ck_R_expect_0 rfl)
theorem lk_R_57 : LkV "SinglesUp$Reader" 57 y_R_advance := ⟨tw_c3 93 (by decide +kernel) rfl, tw_in 6 (by decide +kernel) rfl, Or.inl (tw_c3 91 (by decide +kernel) rfl)⟩
set_option maxRecDepth 100000 in
theorem mo_R_advance : MOk y_R_advance 0 := ⟨by decide +kernel, tw_c3 94 rfl rfl, tw_c1 8 (by decide +kernel) rfl, by decide +kernel, by decide +kernel, by decide +kernel⟩
theorem d_R_expect_9 : decode y_R_expect.2.1 9 = .ok (.invokevirtual 57, 3) := op_invokevirtual (gk (k := 0) (t := 9) ck_R_expect_0 rfl) (gk (k := 0) (t := 10) ck_R_expect_0 rfl) (gk (k := 0) (t := 11) ck_R_expect_0 rfl) rfl
theorem d_R_expect_12 : decode y_R_expect.2.1 12 = .ok (.goto 8, 3) := op_goto (gk (k := 0) (t := 12) ck_R_expect_0 rfl) (gk (k := 0) (t := 13) ck_R_expect_0 rfl) (gk (k := 0) (t := 14) ck_R_expect_0 rfl) (by decide +kernel)
abbrev y_W_addStep : MI := (⟨"SinglesUp$Law", "addStep", "(I)V"⟩, prog_5_method_4_code, 2, none)
theorem ck_W_addStep_0 : (y_W_addStep.2.1.data.toList.drop 0).take 32 = [42, 180, 0, 22, 155, 0, 33, 42, 180, 0, 22, 17, 1, 144, 162, 0, 23, 42, 180, 0, 9, 42, 180, 0, 22, 27, 79, 42, 89, 180, 0, 22] := by decide +kernel
theorem d_W_addStep_0 : decode y_W_addStep.2.1 0 = .ok (.aload_n 0, 1) := op_aload_n0 (gk (k := 0) (t := 0) ck_W_addStep_0 rfl)
theorem fl_W_22 : FL "SinglesUp$Law" 22 3 1 := ⟨"SinglesUp$Law", zT3, 6, rfl, by decide, rfl, Or.inl (tw_c1 65 (by decide +kernel) rfl)⟩
theorem d_W_addStep_1 : decode y_W_addStep.2.1 1 = .ok (.getfield 22, 3) := op_getfield (gk (k := 0) (t := 1) ck_W_addStep_0 rfl) (gk (k := 0) (t := 2) ck_W_addStep_0 rfl) (gk (k := 0) (t := 3) ck_W_addStep_0 rfl) rfl
theorem d_W_addStep_4 : decode y_W_addStep.2.1 4 = .ok (.ifCond .lt 33, 3) := op_if_lt (gk (k := 0) (t := 4) ck_W_addStep_0 rfl) (gk (k := 0) (t := 5) ck_W_addStep_0 rfl) (gk (k := 0) (t := 6) ck_W_addStep_0 rfl) (by decide +kernel)
theorem ck_W_addStep_1 : (y_W_addStep.2.1.data.toList.drop 32).take 32 = [4, 96, 181, 0, 22, 177] := by decide +kernel
theorem d_W_addStep_37 : decode y_W_addStep.2.1 37 = .ok (.return_, 1) := op_return_ (gk (k := 32) (t := 5) ck_W_addStep_1 rfl)
theorem d_W_addStep_7 : decode y_W_addStep.2.1 7 = .ok (.aload_n 0, 1) := op_aload_n0 (gk (k := 0) (t := 7) ck_W_addStep_0 rfl)
theorem d_W_addStep_8 : decode y_W_addStep.2.1 8 = .ok (.getfield 22, 3) := op_getfield (gk (k := 0) (t := 8) ck_W_addStep_0 rfl) (gk (k := 0) (t := 9) ck_W_addStep_0 rfl) (gk (k := 0) (t := 10) ck_W_addStep_0 rfl) rfl
theorem d_W_addStep_11 : decode y_W_addStep.2.1 11 = .ok (.sipush 400, 3) := op_sipush (gk (k := 0) (t := 11) ck_W_addStep_0 rfl) (gk (k := 0) (t := 12) ck_W_addStep_0 rfl) (gk (k := 0) (t := 13) ck_W_addStep_0 rfl) (by decide +kernel)
theorem d_W_addStep_14 : decode y_W_addStep.2.1 14 = .ok (.if_icmp .ge 23, 3) := op_icmp_ge (gk (k := 0) (t := 14) ck_W_addStep_0 rfl) (gk (k := 0) (t := 15) ck_W_addStep_0 rfl) (gk (k := 0) (t := 16) ck_W_addStep_0 rfl) (by decide +kernel)
theorem d_W_addStep_17 : decode y_W_addStep.2.1 17 = .ok (.aload_n 0, 1) := op_aload_n0 (gk (k := 0) (t := 17) ck_W_addStep_0 rfl)
theorem fl_W_9 : FL "SinglesUp$Law" 9 3 0 := ⟨"SinglesUp$Law", zT3, 6, rfl, by decide, rfl, Or.inl (tw_c1 64 (by decide +kernel) rfl)⟩
theorem rc_3_0 : ∀ o, KC[o]? = some (6, 6) → RC o 0 = some (o + 1) ∧ KC[o + 1]? = some (0, 400) := by
  intro o h
  have hl : o < 166 := (List.getElem?_eq_some_iff.mp h).1
  exact (by decide +kernel : ∀ o, o < 166 → KC[o]? = some (6, 6) → RC o 0 = some (o + 1) ∧ KC[o + 1]? = some (0, 400)) o hl h
theorem d_W_addStep_18 : decode y_W_addStep.2.1 18 = .ok (.getfield 9, 3) := op_getfield (gk (k := 0) (t := 18) ck_W_addStep_0 rfl) (gk (k := 0) (t := 19) ck_W_addStep_0 rfl) (gk (k := 0) (t := 20) ck_W_addStep_0 rfl) rfl
theorem d_W_addStep_21 : decode y_W_addStep.2.1 21 = .ok (.aload_n 0, 1) := op_aload_n0 (gk (k := 0) (t := 21) ck_W_addStep_0 rfl)
theorem d_W_addStep_22 : decode y_W_addStep.2.1 22 = .ok (.getfield 22, 3) := op_getfield (gk (k := 0) (t := 22) ck_W_addStep_0 rfl) (gk (k := 0) (t := 23) ck_W_addStep_0 rfl) (gk (k := 0) (t := 24) ck_W_addStep_0 rfl) rfl
theorem d_W_addStep_25 : decode y_W_addStep.2.1 25 = .ok (.iload_n 1, 1) := op_iload_n1 (gk (k := 0) (t := 25) ck_W_addStep_0 rfl)
theorem d_W_addStep_26 : decode y_W_addStep.2.1 26 = .ok (.iastore, 1) := op_iastore (gk (k := 0) (t := 26) ck_W_addStep_0 rfl)
theorem d_W_addStep_27 : decode y_W_addStep.2.1 27 = .ok (.aload_n 0, 1) := op_aload_n0 (gk (k := 0) (t := 27) ck_W_addStep_0 rfl)
theorem d_W_addStep_28 : decode y_W_addStep.2.1 28 = .ok (.dup, 1) := op_dup (gk (k := 0) (t := 28) ck_W_addStep_0 rfl)
theorem d_W_addStep_29 : decode y_W_addStep.2.1 29 = .ok (.getfield 22, 3) := op_getfield (gk (k := 0) (t := 29) ck_W_addStep_0 rfl) (gk (k := 0) (t := 30) ck_W_addStep_0 rfl) (gk (k := 0) (t := 31) ck_W_addStep_0 rfl) rfl
theorem d_W_addStep_32 : decode y_W_addStep.2.1 32 = .ok (.iconst 1, 1) := op_iconst1 (gk (k := 32) (t := 0) ck_W_addStep_1 rfl)
theorem d_W_addStep_33 : decode y_W_addStep.2.1 33 = .ok (.iadd, 1) := op_iadd (gk (k := 32) (t := 1) ck_W_addStep_1 rfl)
theorem d_W_addStep_34 : decode y_W_addStep.2.1 34 = .ok (.putfield 22, 3) := op_putfield (gk (k := 32) (t := 2) ck_W_addStep_1 rfl) (gk (k := 32) (t := 3) ck_W_addStep_1 rfl) (gk (k := 32) (t := 4) ck_W_addStep_1 rfl) rfl
abbrev y_R_readDivisor : MI := (⟨"SinglesUp$Reader", "readDivisor", "()V"⟩, prog_9_method_22_code, 1, none)
theorem ck_R_readDivisor_0 : (y_R_readDivisor.2.1.data.toList.drop 0).take 32 = [42, 180, 0, 60, 16, 16, 159, 0, 11, 42, 4, 182, 0, 112, 167, 0, 42, 42, 180, 0, 109, 154, 0, 11, 42, 5, 182, 0, 112, 167, 0, 27] := by decide +kernel
theorem d_R_readDivisor_0 : decode y_R_readDivisor.2.1 0 = .ok (.aload_n 0, 1) := op_aload_n0 (gk (k := 0) (t := 0) ck_R_readDivisor_0 rfl)
theorem d_R_readDivisor_1 : decode y_R_readDivisor.2.1 1 = .ok (.getfield 60, 3) := op_getfield (gk (k := 0) (t := 1) ck_R_readDivisor_0 rfl) (gk (k := 0) (t := 2) ck_R_readDivisor_0 rfl) (gk (k := 0) (t := 3) ck_R_readDivisor_0 rfl) rfl
theorem cb_16 : (Int8.ofInt 16).toInt32 = iv 16 := by decide +kernel
theorem d_R_readDivisor_4 : decode y_R_readDivisor.2.1 4 = .ok (.bipush 16, 2) := op_bipush (gk (k := 0) (t := 4) ck_R_readDivisor_0 rfl) (gk (k := 0) (t := 5) ck_R_readDivisor_0 rfl) rfl
theorem in_16 : inr (16) := lit_in rfl
theorem d_R_readDivisor_6 : decode y_R_readDivisor.2.1 6 = .ok (.if_icmp .eq 11, 3) := op_icmp_eq (gk (k := 0) (t := 6) ck_R_readDivisor_0 rfl) (gk (k := 0) (t := 7) ck_R_readDivisor_0 rfl) (gk (k := 0) (t := 8) ck_R_readDivisor_0 rfl) (by decide +kernel)
theorem d_R_readDivisor_17 : decode y_R_readDivisor.2.1 17 = .ok (.aload_n 0, 1) := op_aload_n0 (gk (k := 0) (t := 17) ck_R_readDivisor_0 rfl)
theorem d_R_readDivisor_18 : decode y_R_readDivisor.2.1 18 = .ok (.getfield 109, 3) := op_getfield (gk (k := 0) (t := 18) ck_R_readDivisor_0 rfl) (gk (k := 0) (t := 19) ck_R_readDivisor_0 rfl) (gk (k := 0) (t := 20) ck_R_readDivisor_0 rfl) rfl
theorem d_R_readDivisor_21 : decode y_R_readDivisor.2.1 21 = .ok (.ifCond .ne 11, 3) := op_if_ne (gk (k := 0) (t := 21) ck_R_readDivisor_0 rfl) (gk (k := 0) (t := 22) ck_R_readDivisor_0 rfl) (gk (k := 0) (t := 23) ck_R_readDivisor_0 rfl) (by decide +kernel)
theorem ck_R_readDivisor_1 : (y_R_readDivisor.2.1.data.toList.drop 32).take 32 = [42, 180, 0, 31, 42, 180, 0, 109, 182, 0, 138, 42, 180, 0, 31, 16, 252, 182, 0, 138, 42, 182, 0, 57, 177] := by decide +kernel
theorem d_R_readDivisor_32 : decode y_R_readDivisor.2.1 32 = .ok (.aload_n 0, 1) := op_aload_n0 (gk (k := 32) (t := 0) ck_R_readDivisor_1 rfl)
theorem fl_R_31 : FL "SinglesUp$Reader" 31 7 12 := ⟨"SinglesUp$Reader", zT7, 13, rfl, by decide, rfl, Or.inl (tw_c1 235 (by decide +kernel) rfl)⟩
theorem rc_7_12 : ∀ o, KC[o]? = some (10, 13) → RC o 12 = some (o + 5) ∧ KC[o + 5]? = some (6, 6) := by
  intro o h
  have hl : o < 166 := (List.getElem?_eq_some_iff.mp h).1
  exact (by decide +kernel : ∀ o, o < 166 → KC[o]? = some (10, 13) → RC o 12 = some (o + 5) ∧ KC[o + 5]? = some (6, 6)) o hl h
theorem d_R_readDivisor_33 : decode y_R_readDivisor.2.1 33 = .ok (.getfield 31, 3) := op_getfield (gk (k := 32) (t := 1) ck_R_readDivisor_1 rfl) (gk (k := 32) (t := 2) ck_R_readDivisor_1 rfl) (gk (k := 32) (t := 3) ck_R_readDivisor_1 rfl) rfl
theorem d_R_readDivisor_36 : decode y_R_readDivisor.2.1 36 = .ok (.aload_n 0, 1) := op_aload_n0 (gk (k := 32) (t := 4) ck_R_readDivisor_1 rfl)
theorem d_R_readDivisor_37 : decode y_R_readDivisor.2.1 37 = .ok (.getfield 109, 3) := op_getfield (gk (k := 32) (t := 5) ck_R_readDivisor_1 rfl) (gk (k := 32) (t := 6) ck_R_readDivisor_1 rfl) (gk (k := 32) (t := 7) ck_R_readDivisor_1 rfl) rfl
theorem lk_R_138 : LkV "SinglesUp$Reader" 138 y_W_addStep := ⟨tw_c3 116 (by decide +kernel) rfl, tw_c3 117 (by decide +kernel) rfl, Or.inl (tw_c3 115 (by decide +kernel) rfl)⟩
set_option maxRecDepth 100000 in
theorem mo_W_addStep : MOk y_W_addStep 1 := ⟨by decide +kernel, tw_c3 118 rfl rfl, tw_c1 5 (by decide +kernel) rfl, by decide +kernel, by decide +kernel, by decide +kernel⟩
theorem d_R_readDivisor_40 : decode y_R_readDivisor.2.1 40 = .ok (.invokevirtual 138, 3) := op_invokevirtual (gk (k := 32) (t := 8) ck_R_readDivisor_1 rfl) (gk (k := 32) (t := 9) ck_R_readDivisor_1 rfl) (gk (k := 32) (t := 10) ck_R_readDivisor_1 rfl) rfl
theorem d_R_readDivisor_43 : decode y_R_readDivisor.2.1 43 = .ok (.aload_n 0, 1) := op_aload_n0 (gk (k := 32) (t := 11) ck_R_readDivisor_1 rfl)
theorem d_R_readDivisor_44 : decode y_R_readDivisor.2.1 44 = .ok (.getfield 31, 3) := op_getfield (gk (k := 32) (t := 12) ck_R_readDivisor_1 rfl) (gk (k := 32) (t := 13) ck_R_readDivisor_1 rfl) (gk (k := 32) (t := 14) ck_R_readDivisor_1 rfl) rfl
theorem cb_m4 : (Int8.ofInt (-4)).toInt32 = iv (-4) := by decide +kernel
theorem d_R_readDivisor_47 : decode y_R_readDivisor.2.1 47 = .ok (.bipush (-4), 2) := op_bipush (gk (k := 32) (t := 15) ck_R_readDivisor_1 rfl) (gk (k := 32) (t := 16) ck_R_readDivisor_1 rfl) rfl
theorem in_m4 : inr (-4) := lit_in rfl
theorem d_R_readDivisor_49 : decode y_R_readDivisor.2.1 49 = .ok (.invokevirtual 138, 3) := op_invokevirtual (gk (k := 32) (t := 17) ck_R_readDivisor_1 rfl) (gk (k := 32) (t := 18) ck_R_readDivisor_1 rfl) (gk (k := 32) (t := 19) ck_R_readDivisor_1 rfl) rfl
theorem d_R_readDivisor_52 : decode y_R_readDivisor.2.1 52 = .ok (.aload_n 0, 1) := op_aload_n0 (gk (k := 32) (t := 20) ck_R_readDivisor_1 rfl)
theorem d_R_readDivisor_53 : decode y_R_readDivisor.2.1 53 = .ok (.invokevirtual 57, 3) := op_invokevirtual (gk (k := 32) (t := 21) ck_R_readDivisor_1 rfl) (gk (k := 32) (t := 22) ck_R_readDivisor_1 rfl) (gk (k := 32) (t := 23) ck_R_readDivisor_1 rfl) rfl
theorem d_R_readDivisor_56 : decode y_R_readDivisor.2.1 56 = .ok (.return_, 1) := op_return_ (gk (k := 32) (t := 24) ck_R_readDivisor_1 rfl)
theorem d_R_readDivisor_24 : decode y_R_readDivisor.2.1 24 = .ok (.aload_n 0, 1) := op_aload_n0 (gk (k := 0) (t := 24) ck_R_readDivisor_0 rfl)
theorem d_R_readDivisor_25 : decode y_R_readDivisor.2.1 25 = .ok (.iconst 2, 1) := op_iconst2 (gk (k := 0) (t := 25) ck_R_readDivisor_0 rfl)
theorem d_R_readDivisor_26 : decode y_R_readDivisor.2.1 26 = .ok (.invokevirtual 112, 3) := op_invokevirtual (gk (k := 0) (t := 26) ck_R_readDivisor_0 rfl) (gk (k := 0) (t := 27) ck_R_readDivisor_0 rfl) (gk (k := 0) (t := 28) ck_R_readDivisor_0 rfl) rfl
theorem d_R_readDivisor_29 : decode y_R_readDivisor.2.1 29 = .ok (.goto 27, 3) := op_goto (gk (k := 0) (t := 29) ck_R_readDivisor_0 rfl) (gk (k := 0) (t := 30) ck_R_readDivisor_0 rfl) (gk (k := 0) (t := 31) ck_R_readDivisor_0 rfl) (by decide +kernel)
theorem d_R_readDivisor_9 : decode y_R_readDivisor.2.1 9 = .ok (.aload_n 0, 1) := op_aload_n0 (gk (k := 0) (t := 9) ck_R_readDivisor_0 rfl)
theorem d_R_readDivisor_10 : decode y_R_readDivisor.2.1 10 = .ok (.iconst 1, 1) := op_iconst1 (gk (k := 0) (t := 10) ck_R_readDivisor_0 rfl)
theorem d_R_readDivisor_11 : decode y_R_readDivisor.2.1 11 = .ok (.invokevirtual 112, 3) := op_invokevirtual (gk (k := 0) (t := 11) ck_R_readDivisor_0 rfl) (gk (k := 0) (t := 12) ck_R_readDivisor_0 rfl) (gk (k := 0) (t := 13) ck_R_readDivisor_0 rfl) rfl
theorem d_R_readDivisor_14 : decode y_R_readDivisor.2.1 14 = .ok (.goto 42, 3) := op_goto (gk (k := 0) (t := 14) ck_R_readDivisor_0 rfl) (gk (k := 0) (t := 15) ck_R_readDivisor_0 rfl) (gk (k := 0) (t := 16) ck_R_readDivisor_0 rfl) (by decide +kernel)
abbrev y_R_readUnit : MI := (⟨"SinglesUp$Reader", "readUnit", "()V"⟩, prog_9_method_21_code, 3, none)
theorem ck_R_readUnit_0 : (y_R_readUnit.2.1.data.toList.drop 0).take 32 = [42, 180, 0, 47, 153, 0, 7, 8, 167, 0, 5, 16, 7, 60, 42, 180, 0, 47, 153, 0, 8, 16, 8, 167, 0, 5, 16, 15, 61, 42, 180, 0] := by decide +kernel
theorem d_R_readUnit_0 : decode y_R_readUnit.2.1 0 = .ok (.aload_n 0, 1) := op_aload_n0 (gk (k := 0) (t := 0) ck_R_readUnit_0 rfl)
theorem fl_R_47 : FL "SinglesUp$Reader" 47 7 9 := ⟨"SinglesUp$Reader", zT7, 13, rfl, by decide, rfl, Or.inl (tw_c1 230 (by decide +kernel) rfl)⟩
theorem d_R_readUnit_1 : decode y_R_readUnit.2.1 1 = .ok (.getfield 47, 3) := op_getfield (gk (k := 0) (t := 1) ck_R_readUnit_0 rfl) (gk (k := 0) (t := 2) ck_R_readUnit_0 rfl) (gk (k := 0) (t := 3) ck_R_readUnit_0 rfl) rfl
theorem d_R_readUnit_13 : decode y_R_readUnit.2.1 13 = .ok (.istore_n 1, 1) := op_istore_n1 (gk (k := 0) (t := 13) ck_R_readUnit_0 rfl)
theorem d_R_readUnit_14 : decode y_R_readUnit.2.1 14 = .ok (.aload_n 0, 1) := op_aload_n0 (gk (k := 0) (t := 14) ck_R_readUnit_0 rfl)
theorem d_R_readUnit_15 : decode y_R_readUnit.2.1 15 = .ok (.getfield 47, 3) := op_getfield (gk (k := 0) (t := 15) ck_R_readUnit_0 rfl) (gk (k := 0) (t := 16) ck_R_readUnit_0 rfl) (gk (k := 0) (t := 17) ck_R_readUnit_0 rfl) rfl
theorem d_R_readUnit_28 : decode y_R_readUnit.2.1 28 = .ok (.istore_n 2, 1) := op_istore_n2 (gk (k := 0) (t := 28) ck_R_readUnit_0 rfl)
theorem d_R_readUnit_29 : decode y_R_readUnit.2.1 29 = .ok (.aload_n 0, 1) := op_aload_n0 (gk (k := 0) (t := 29) ck_R_readUnit_0 rfl)
theorem ck_R_readUnit_1 : (y_R_readUnit.2.1.data.toList.drop 32).take 32 = [60, 16, 16, 160, 0, 21, 42, 180, 0, 31, 42, 180, 0, 109, 182, 0, 138, 42, 182, 0, 57, 167, 0, 46, 42, 180, 0, 60, 27, 161, 0, 33] := by decide +kernel
theorem d_R_readUnit_30 : decode y_R_readUnit.2.1 30 = .ok (.getfield 60, 3) := op_getfield (gk (k := 0) (t := 30) ck_R_readUnit_0 rfl) (gk (k := 0) (t := 31) ck_R_readUnit_0 rfl) (gk (k := 32) (t := 0) ck_R_readUnit_1 rfl) rfl
theorem d_R_readUnit_33 : decode y_R_readUnit.2.1 33 = .ok (.bipush 16, 2) := op_bipush (gk (k := 32) (t := 1) ck_R_readUnit_1 rfl) (gk (k := 32) (t := 2) ck_R_readUnit_1 rfl) rfl
theorem d_R_readUnit_35 : decode y_R_readUnit.2.1 35 = .ok (.if_icmp .ne 21, 3) := op_icmp_ne (gk (k := 32) (t := 3) ck_R_readUnit_1 rfl) (gk (k := 32) (t := 4) ck_R_readUnit_1 rfl) (gk (k := 32) (t := 5) ck_R_readUnit_1 rfl) (by decide +kernel)
theorem d_R_readUnit_56 : decode y_R_readUnit.2.1 56 = .ok (.aload_n 0, 1) := op_aload_n0 (gk (k := 32) (t := 24) ck_R_readUnit_1 rfl)
theorem d_R_readUnit_57 : decode y_R_readUnit.2.1 57 = .ok (.getfield 60, 3) := op_getfield (gk (k := 32) (t := 25) ck_R_readUnit_1 rfl) (gk (k := 32) (t := 26) ck_R_readUnit_1 rfl) (gk (k := 32) (t := 27) ck_R_readUnit_1 rfl) rfl
theorem d_R_readUnit_60 : decode y_R_readUnit.2.1 60 = .ok (.iload_n 1, 1) := op_iload_n1 (gk (k := 32) (t := 28) ck_R_readUnit_1 rfl)
theorem ck_R_readUnit_2 : (y_R_readUnit.2.1.data.toList.drop 64).take 32 = [42, 180, 0, 60, 28, 163, 0, 25, 42, 180, 0, 31, 17, 39, 16, 42, 180, 0, 60, 96, 182, 0, 138, 42, 182, 0, 57, 167, 0, 8, 42, 4] := by decide +kernel
theorem d_R_readUnit_94 : decode y_R_readUnit.2.1 94 = .ok (.aload_n 0, 1) := op_aload_n0 (gk (k := 64) (t := 30) ck_R_readUnit_2 rfl)
theorem d_R_readUnit_95 : decode y_R_readUnit.2.1 95 = .ok (.iconst 1, 1) := op_iconst1 (gk (k := 64) (t := 31) ck_R_readUnit_2 rfl)
theorem ck_R_readUnit_3 : (y_R_readUnit.2.1.data.toList.drop 96).take 32 = [182, 0, 112, 177] := by decide +kernel
theorem d_R_readUnit_96 : decode y_R_readUnit.2.1 96 = .ok (.invokevirtual 112, 3) := op_invokevirtual (gk (k := 96) (t := 0) ck_R_readUnit_3 rfl) (gk (k := 96) (t := 1) ck_R_readUnit_3 rfl) (gk (k := 96) (t := 2) ck_R_readUnit_3 rfl) rfl
theorem d_R_readUnit_99 : decode y_R_readUnit.2.1 99 = .ok (.return_, 1) := op_return_ (gk (k := 96) (t := 3) ck_R_readUnit_3 rfl)
theorem d_R_readUnit_61 : decode y_R_readUnit.2.1 61 = .ok (.if_icmp .lt 33, 3) := op_icmp_lt (gk (k := 32) (t := 29) ck_R_readUnit_1 rfl) (gk (k := 32) (t := 30) ck_R_readUnit_1 rfl) (gk (k := 32) (t := 31) ck_R_readUnit_1 rfl) (by decide +kernel)
theorem d_R_readUnit_64 : decode y_R_readUnit.2.1 64 = .ok (.aload_n 0, 1) := op_aload_n0 (gk (k := 64) (t := 0) ck_R_readUnit_2 rfl)
theorem d_R_readUnit_65 : decode y_R_readUnit.2.1 65 = .ok (.getfield 60, 3) := op_getfield (gk (k := 64) (t := 1) ck_R_readUnit_2 rfl) (gk (k := 64) (t := 2) ck_R_readUnit_2 rfl) (gk (k := 64) (t := 3) ck_R_readUnit_2 rfl) rfl
theorem d_R_readUnit_68 : decode y_R_readUnit.2.1 68 = .ok (.iload_n 2, 1) := op_iload_n2 (gk (k := 64) (t := 4) ck_R_readUnit_2 rfl)
theorem d_R_readUnit_69 : decode y_R_readUnit.2.1 69 = .ok (.if_icmp .gt 25, 3) := op_icmp_gt (gk (k := 64) (t := 5) ck_R_readUnit_2 rfl) (gk (k := 64) (t := 6) ck_R_readUnit_2 rfl) (gk (k := 64) (t := 7) ck_R_readUnit_2 rfl) (by decide +kernel)
theorem d_R_readUnit_72 : decode y_R_readUnit.2.1 72 = .ok (.aload_n 0, 1) := op_aload_n0 (gk (k := 64) (t := 8) ck_R_readUnit_2 rfl)
theorem d_R_readUnit_73 : decode y_R_readUnit.2.1 73 = .ok (.getfield 31, 3) := op_getfield (gk (k := 64) (t := 9) ck_R_readUnit_2 rfl) (gk (k := 64) (t := 10) ck_R_readUnit_2 rfl) (gk (k := 64) (t := 11) ck_R_readUnit_2 rfl) rfl
theorem cs_10000 : (Int16.ofInt 10000).toInt32 = iv 10000 := by decide +kernel
theorem d_R_readUnit_76 : decode y_R_readUnit.2.1 76 = .ok (.sipush 10000, 3) := op_sipush (gk (k := 64) (t := 12) ck_R_readUnit_2 rfl) (gk (k := 64) (t := 13) ck_R_readUnit_2 rfl) (gk (k := 64) (t := 14) ck_R_readUnit_2 rfl) (by decide +kernel)
theorem d_R_readUnit_79 : decode y_R_readUnit.2.1 79 = .ok (.aload_n 0, 1) := op_aload_n0 (gk (k := 64) (t := 15) ck_R_readUnit_2 rfl)
theorem d_R_readUnit_80 : decode y_R_readUnit.2.1 80 = .ok (.getfield 60, 3) := op_getfield (gk (k := 64) (t := 16) ck_R_readUnit_2 rfl) (gk (k := 64) (t := 17) ck_R_readUnit_2 rfl) (gk (k := 64) (t := 18) ck_R_readUnit_2 rfl) rfl
theorem d_R_readUnit_83 : decode y_R_readUnit.2.1 83 = .ok (.iadd, 1) := op_iadd (gk (k := 64) (t := 19) ck_R_readUnit_2 rfl)
theorem d_R_readUnit_84 : decode y_R_readUnit.2.1 84 = .ok (.invokevirtual 138, 3) := op_invokevirtual (gk (k := 64) (t := 20) ck_R_readUnit_2 rfl) (gk (k := 64) (t := 21) ck_R_readUnit_2 rfl) (gk (k := 64) (t := 22) ck_R_readUnit_2 rfl) rfl
theorem d_R_readUnit_87 : decode y_R_readUnit.2.1 87 = .ok (.aload_n 0, 1) := op_aload_n0 (gk (k := 64) (t := 23) ck_R_readUnit_2 rfl)
theorem d_R_readUnit_88 : decode y_R_readUnit.2.1 88 = .ok (.invokevirtual 57, 3) := op_invokevirtual (gk (k := 64) (t := 24) ck_R_readUnit_2 rfl) (gk (k := 64) (t := 25) ck_R_readUnit_2 rfl) (gk (k := 64) (t := 26) ck_R_readUnit_2 rfl) rfl
theorem d_R_readUnit_91 : decode y_R_readUnit.2.1 91 = .ok (.goto 8, 3) := op_goto (gk (k := 64) (t := 27) ck_R_readUnit_2 rfl) (gk (k := 64) (t := 28) ck_R_readUnit_2 rfl) (gk (k := 64) (t := 29) ck_R_readUnit_2 rfl) (by decide +kernel)
theorem d_R_readUnit_38 : decode y_R_readUnit.2.1 38 = .ok (.aload_n 0, 1) := op_aload_n0 (gk (k := 32) (t := 6) ck_R_readUnit_1 rfl)
theorem d_R_readUnit_39 : decode y_R_readUnit.2.1 39 = .ok (.getfield 31, 3) := op_getfield (gk (k := 32) (t := 7) ck_R_readUnit_1 rfl) (gk (k := 32) (t := 8) ck_R_readUnit_1 rfl) (gk (k := 32) (t := 9) ck_R_readUnit_1 rfl) rfl
theorem d_R_readUnit_42 : decode y_R_readUnit.2.1 42 = .ok (.aload_n 0, 1) := op_aload_n0 (gk (k := 32) (t := 10) ck_R_readUnit_1 rfl)
theorem d_R_readUnit_43 : decode y_R_readUnit.2.1 43 = .ok (.getfield 109, 3) := op_getfield (gk (k := 32) (t := 11) ck_R_readUnit_1 rfl) (gk (k := 32) (t := 12) ck_R_readUnit_1 rfl) (gk (k := 32) (t := 13) ck_R_readUnit_1 rfl) rfl
theorem d_R_readUnit_46 : decode y_R_readUnit.2.1 46 = .ok (.invokevirtual 138, 3) := op_invokevirtual (gk (k := 32) (t := 14) ck_R_readUnit_1 rfl) (gk (k := 32) (t := 15) ck_R_readUnit_1 rfl) (gk (k := 32) (t := 16) ck_R_readUnit_1 rfl) rfl
theorem d_R_readUnit_49 : decode y_R_readUnit.2.1 49 = .ok (.aload_n 0, 1) := op_aload_n0 (gk (k := 32) (t := 17) ck_R_readUnit_1 rfl)
theorem d_R_readUnit_50 : decode y_R_readUnit.2.1 50 = .ok (.invokevirtual 57, 3) := op_invokevirtual (gk (k := 32) (t := 18) ck_R_readUnit_1 rfl) (gk (k := 32) (t := 19) ck_R_readUnit_1 rfl) (gk (k := 32) (t := 20) ck_R_readUnit_1 rfl) rfl
theorem d_R_readUnit_53 : decode y_R_readUnit.2.1 53 = .ok (.goto 46, 3) := op_goto (gk (k := 32) (t := 21) ck_R_readUnit_1 rfl) (gk (k := 32) (t := 22) ck_R_readUnit_1 rfl) (gk (k := 32) (t := 23) ck_R_readUnit_1 rfl) (by decide +kernel)
theorem d_R_readUnit_18 : decode y_R_readUnit.2.1 18 = .ok (.ifCond .eq 8, 3) := op_if_eq (gk (k := 0) (t := 18) ck_R_readUnit_0 rfl) (gk (k := 0) (t := 19) ck_R_readUnit_0 rfl) (gk (k := 0) (t := 20) ck_R_readUnit_0 rfl) (by decide +kernel)
theorem cb_15 : (Int8.ofInt 15).toInt32 = iv 15 := by decide +kernel
theorem d_R_readUnit_26 : decode y_R_readUnit.2.1 26 = .ok (.bipush 15, 2) := op_bipush (gk (k := 0) (t := 26) ck_R_readUnit_0 rfl) (gk (k := 0) (t := 27) ck_R_readUnit_0 rfl) rfl
theorem in_15 : inr (15) := lit_in rfl
theorem d_R_readUnit_21 : decode y_R_readUnit.2.1 21 = .ok (.bipush 8, 2) := op_bipush (gk (k := 0) (t := 21) ck_R_readUnit_0 rfl) (gk (k := 0) (t := 22) ck_R_readUnit_0 rfl) rfl
theorem d_R_readUnit_23 : decode y_R_readUnit.2.1 23 = .ok (.goto 5, 3) := op_goto (gk (k := 0) (t := 23) ck_R_readUnit_0 rfl) (gk (k := 0) (t := 24) ck_R_readUnit_0 rfl) (gk (k := 0) (t := 25) ck_R_readUnit_0 rfl) (by decide +kernel)
theorem d_R_readUnit_4 : decode y_R_readUnit.2.1 4 = .ok (.ifCond .eq 7, 3) := op_if_eq (gk (k := 0) (t := 4) ck_R_readUnit_0 rfl) (gk (k := 0) (t := 5) ck_R_readUnit_0 rfl) (gk (k := 0) (t := 6) ck_R_readUnit_0 rfl) (by decide +kernel)
theorem cb_7 : (Int8.ofInt 7).toInt32 = iv 7 := by decide +kernel
theorem d_R_readUnit_11 : decode y_R_readUnit.2.1 11 = .ok (.bipush 7, 2) := op_bipush (gk (k := 0) (t := 11) ck_R_readUnit_0 rfl) (gk (k := 0) (t := 12) ck_R_readUnit_0 rfl) rfl
theorem in_7 : inr (7) := lit_in rfl
theorem d_R_readUnit_7 : decode y_R_readUnit.2.1 7 = .ok (.iconst 5, 1) := op_iconst5 (gk (k := 0) (t := 7) ck_R_readUnit_0 rfl)
theorem d_R_readUnit_8 : decode y_R_readUnit.2.1 8 = .ok (.goto 5, 3) := op_goto (gk (k := 0) (t := 8) ck_R_readUnit_0 rfl) (gk (k := 0) (t := 9) ck_R_readUnit_0 rfl) (gk (k := 0) (t := 10) ck_R_readUnit_0 rfl) (by decide +kernel)
abbrev y_R_readSum : MI := (⟨"SinglesUp$Reader", "readSum", "()V"⟩, prog_9_method_20_code, 4, none)
theorem ck_R_readSum_0 : (y_R_readSum.2.1.data.toList.drop 0).take 32 = [3, 60, 42, 182, 0, 144, 3, 61, 28, 17, 1, 144, 162, 0, 109, 42, 180, 0, 38, 154, 0, 102, 42, 180, 0, 60, 62, 29, 16, 42, 160, 0] := by decide +kernel
theorem d_R_readSum_0 : decode y_R_readSum.2.1 0 = .ok (.iconst 0, 1) := op_iconst0 (gk (k := 0) (t := 0) ck_R_readSum_0 rfl)
theorem d_R_readSum_1 : decode y_R_readSum.2.1 1 = .ok (.istore_n 1, 1) := op_istore_n1 (gk (k := 0) (t := 1) ck_R_readSum_0 rfl)
theorem d_R_readSum_2 : decode y_R_readSum.2.1 2 = .ok (.aload_n 0, 1) := op_aload_n0 (gk (k := 0) (t := 2) ck_R_readSum_0 rfl)
theorem lk_R_144 : LkV "SinglesUp$Reader" 144 y_R_readUnit := ⟨tw_c3 125 (by decide +kernel) rfl, tw_in 12 (by decide +kernel) rfl, Or.inl (tw_c3 123 (by decide +kernel) rfl)⟩
set_option maxRecDepth 100000 in
theorem mo_R_readUnit : MOk y_R_readUnit 0 := ⟨by decide +kernel, tw_c3 126 rfl rfl, tw_c1 8 (by decide +kernel) rfl, by decide +kernel, by decide +kernel, by decide +kernel⟩
theorem d_R_readSum_3 : decode y_R_readSum.2.1 3 = .ok (.invokevirtual 144, 3) := op_invokevirtual (gk (k := 0) (t := 3) ck_R_readSum_0 rfl) (gk (k := 0) (t := 4) ck_R_readSum_0 rfl) (gk (k := 0) (t := 5) ck_R_readSum_0 rfl) rfl
theorem d_R_readSum_6 : decode y_R_readSum.2.1 6 = .ok (.iconst 0, 1) := op_iconst0 (gk (k := 0) (t := 6) ck_R_readSum_0 rfl)
theorem d_R_readSum_7 : decode y_R_readSum.2.1 7 = .ok (.istore_n 2, 1) := op_istore_n2 (gk (k := 0) (t := 7) ck_R_readSum_0 rfl)
theorem d_R_readSum_8 : decode y_R_readSum.2.1 8 = .ok (.iload_n 2, 1) := op_iload_n2 (gk (k := 0) (t := 8) ck_R_readSum_0 rfl)
theorem d_R_readSum_9 : decode y_R_readSum.2.1 9 = .ok (.sipush 400, 3) := op_sipush (gk (k := 0) (t := 9) ck_R_readSum_0 rfl) (gk (k := 0) (t := 10) ck_R_readSum_0 rfl) (gk (k := 0) (t := 11) ck_R_readSum_0 rfl) (by decide +kernel)
theorem d_R_readSum_12 : decode y_R_readSum.2.1 12 = .ok (.if_icmp .ge 109, 3) := op_icmp_ge (gk (k := 0) (t := 12) ck_R_readSum_0 rfl) (gk (k := 0) (t := 13) ck_R_readSum_0 rfl) (gk (k := 0) (t := 14) ck_R_readSum_0 rfl) (by decide +kernel)
theorem d_R_readSum_15 : decode y_R_readSum.2.1 15 = .ok (.aload_n 0, 1) := op_aload_n0 (gk (k := 0) (t := 15) ck_R_readSum_0 rfl)
theorem d_R_readSum_16 : decode y_R_readSum.2.1 16 = .ok (.getfield 38, 3) := op_getfield (gk (k := 0) (t := 16) ck_R_readSum_0 rfl) (gk (k := 0) (t := 17) ck_R_readSum_0 rfl) (gk (k := 0) (t := 18) ck_R_readSum_0 rfl) rfl
theorem d_R_readSum_19 : decode y_R_readSum.2.1 19 = .ok (.ifCond .ne 102, 3) := op_if_ne (gk (k := 0) (t := 19) ck_R_readSum_0 rfl) (gk (k := 0) (t := 20) ck_R_readSum_0 rfl) (gk (k := 0) (t := 21) ck_R_readSum_0 rfl) (by decide +kernel)
theorem d_R_readSum_22 : decode y_R_readSum.2.1 22 = .ok (.aload_n 0, 1) := op_aload_n0 (gk (k := 0) (t := 22) ck_R_readSum_0 rfl)
theorem d_R_readSum_23 : decode y_R_readSum.2.1 23 = .ok (.getfield 60, 3) := op_getfield (gk (k := 0) (t := 23) ck_R_readSum_0 rfl) (gk (k := 0) (t := 24) ck_R_readSum_0 rfl) (gk (k := 0) (t := 25) ck_R_readSum_0 rfl) rfl
theorem d_R_readSum_26 : decode y_R_readSum.2.1 26 = .ok (.istore_n 3, 1) := op_istore_n3 (gk (k := 0) (t := 26) ck_R_readSum_0 rfl)
theorem d_R_readSum_27 : decode y_R_readSum.2.1 27 = .ok (.iload_n 3, 1) := op_iload_n3 (gk (k := 0) (t := 27) ck_R_readSum_0 rfl)
theorem cb_42 : (Int8.ofInt 42).toInt32 = iv 42 := by decide +kernel
theorem d_R_readSum_28 : decode y_R_readSum.2.1 28 = .ok (.bipush 42, 2) := op_bipush (gk (k := 0) (t := 28) ck_R_readSum_0 rfl) (gk (k := 0) (t := 29) ck_R_readSum_0 rfl) rfl
theorem ck_R_readSum_3 : (y_R_readSum.2.1.data.toList.drop 96).take 32 = [0, 138, 29, 16, 43, 160, 0, 7, 2, 167, 0, 5, 16, 254, 60, 42, 182, 0, 144, 132, 2, 1, 167, 255, 146, 27, 153, 0, 11, 42, 180, 0] := by decide +kernel
theorem d_R_readSum_115 : decode y_R_readSum.2.1 115 = .ok (.iinc 2 1, 3) := op_iinc (gk (k := 96) (t := 19) ck_R_readSum_3 rfl) (gk (k := 96) (t := 20) ck_R_readSum_3 rfl) (gk (k := 96) (t := 21) ck_R_readSum_3 rfl) rfl rfl
theorem d_R_readSum_118 : decode y_R_readSum.2.1 118 = .ok (.goto (-110), 3) := op_goto (gk (k := 96) (t := 22) ck_R_readSum_3 rfl) (gk (k := 96) (t := 23) ck_R_readSum_3 rfl) (gk (k := 96) (t := 24) ck_R_readSum_3 rfl) (by decide +kernel)
theorem in_42 : inr (42) := lit_in rfl
theorem ck_R_readSum_1 : (y_R_readSum.2.1.data.toList.drop 32).take 32 = [23, 42, 182, 0, 57, 42, 182, 0, 144, 42, 180, 0, 31, 16, 253, 182, 0, 138, 167, 0, 65, 29, 16, 47, 160, 0, 14, 42, 182, 0, 57, 42] := by decide +kernel
theorem d_R_readSum_30 : decode y_R_readSum.2.1 30 = .ok (.if_icmp .ne 23, 3) := op_icmp_ne (gk (k := 0) (t := 30) ck_R_readSum_0 rfl) (gk (k := 0) (t := 31) ck_R_readSum_0 rfl) (gk (k := 32) (t := 0) ck_R_readSum_1 rfl) (by decide +kernel)
theorem d_R_readSum_53 : decode y_R_readSum.2.1 53 = .ok (.iload_n 3, 1) := op_iload_n3 (gk (k := 32) (t := 21) ck_R_readSum_1 rfl)
theorem cb_47 : (Int8.ofInt 47).toInt32 = iv 47 := by decide +kernel
theorem d_R_readSum_54 : decode y_R_readSum.2.1 54 = .ok (.bipush 47, 2) := op_bipush (gk (k := 32) (t := 22) ck_R_readSum_1 rfl) (gk (k := 32) (t := 23) ck_R_readSum_1 rfl) rfl
theorem in_47 : inr (47) := lit_in rfl
theorem d_R_readSum_56 : decode y_R_readSum.2.1 56 = .ok (.if_icmp .ne 14, 3) := op_icmp_ne (gk (k := 32) (t := 24) ck_R_readSum_1 rfl) (gk (k := 32) (t := 25) ck_R_readSum_1 rfl) (gk (k := 32) (t := 26) ck_R_readSum_1 rfl) (by decide +kernel)
theorem ck_R_readSum_2 : (y_R_readSum.2.1.data.toList.drop 64).take 32 = [182, 0, 147, 167, 0, 48, 29, 16, 43, 159, 0, 9, 29, 16, 45, 160, 0, 42, 42, 182, 0, 57, 27, 153, 0, 11, 42, 180, 0, 31, 27, 182] := by decide +kernel
theorem d_R_readSum_70 : decode y_R_readSum.2.1 70 = .ok (.iload_n 3, 1) := op_iload_n3 (gk (k := 64) (t := 6) ck_R_readSum_2 rfl)
theorem cb_43 : (Int8.ofInt 43).toInt32 = iv 43 := by decide +kernel
theorem d_R_readSum_71 : decode y_R_readSum.2.1 71 = .ok (.bipush 43, 2) := op_bipush (gk (k := 64) (t := 7) ck_R_readSum_2 rfl) (gk (k := 64) (t := 8) ck_R_readSum_2 rfl) rfl
theorem d_R_readSum_82 : decode y_R_readSum.2.1 82 = .ok (.aload_n 0, 1) := op_aload_n0 (gk (k := 64) (t := 18) ck_R_readSum_2 rfl)
theorem d_R_readSum_83 : decode y_R_readSum.2.1 83 = .ok (.invokevirtual 57, 3) := op_invokevirtual (gk (k := 64) (t := 19) ck_R_readSum_2 rfl) (gk (k := 64) (t := 20) ck_R_readSum_2 rfl) (gk (k := 64) (t := 21) ck_R_readSum_2 rfl) rfl
theorem d_R_readSum_86 : decode y_R_readSum.2.1 86 = .ok (.iload_n 1, 1) := op_iload_n1 (gk (k := 64) (t := 22) ck_R_readSum_2 rfl)
theorem d_R_readSum_98 : decode y_R_readSum.2.1 98 = .ok (.iload_n 3, 1) := op_iload_n3 (gk (k := 96) (t := 2) ck_R_readSum_3 rfl)
theorem d_R_readSum_99 : decode y_R_readSum.2.1 99 = .ok (.bipush 43, 2) := op_bipush (gk (k := 96) (t := 3) ck_R_readSum_3 rfl) (gk (k := 96) (t := 4) ck_R_readSum_3 rfl) rfl
theorem d_R_readSum_110 : decode y_R_readSum.2.1 110 = .ok (.istore_n 1, 1) := op_istore_n1 (gk (k := 96) (t := 14) ck_R_readSum_3 rfl)
theorem d_R_readSum_111 : decode y_R_readSum.2.1 111 = .ok (.aload_n 0, 1) := op_aload_n0 (gk (k := 96) (t := 15) ck_R_readSum_3 rfl)
theorem d_R_readSum_112 : decode y_R_readSum.2.1 112 = .ok (.invokevirtual 144, 3) := op_invokevirtual (gk (k := 96) (t := 16) ck_R_readSum_3 rfl) (gk (k := 96) (t := 17) ck_R_readSum_3 rfl) (gk (k := 96) (t := 18) ck_R_readSum_3 rfl) rfl
theorem in_43 : inr (43) := lit_in rfl
theorem d_R_readSum_101 : decode y_R_readSum.2.1 101 = .ok (.if_icmp .ne 7, 3) := op_icmp_ne (gk (k := 96) (t := 5) ck_R_readSum_3 rfl) (gk (k := 96) (t := 6) ck_R_readSum_3 rfl) (gk (k := 96) (t := 7) ck_R_readSum_3 rfl) (by decide +kernel)
theorem cb_m2 : (Int8.ofInt (-2)).toInt32 = iv (-2) := by decide +kernel
theorem d_R_readSum_108 : decode y_R_readSum.2.1 108 = .ok (.bipush (-2), 2) := op_bipush (gk (k := 96) (t := 12) ck_R_readSum_3 rfl) (gk (k := 96) (t := 13) ck_R_readSum_3 rfl) rfl
theorem in_m2 : inr (-2) := lit_in rfl
theorem d_R_readSum_104 : decode y_R_readSum.2.1 104 = .ok (.iconst (-1), 1) := op_iconstm1 (gk (k := 96) (t := 8) ck_R_readSum_3 rfl)
theorem d_R_readSum_105 : decode y_R_readSum.2.1 105 = .ok (.goto 5, 3) := op_goto (gk (k := 96) (t := 9) ck_R_readSum_3 rfl) (gk (k := 96) (t := 10) ck_R_readSum_3 rfl) (gk (k := 96) (t := 11) ck_R_readSum_3 rfl) (by decide +kernel)
theorem d_R_readSum_87 : decode y_R_readSum.2.1 87 = .ok (.ifCond .eq 11, 3) := op_if_eq (gk (k := 64) (t := 23) ck_R_readSum_2 rfl) (gk (k := 64) (t := 24) ck_R_readSum_2 rfl) (gk (k := 64) (t := 25) ck_R_readSum_2 rfl) (by decide +kernel)
theorem d_R_readSum_90 : decode y_R_readSum.2.1 90 = .ok (.aload_n 0, 1) := op_aload_n0 (gk (k := 64) (t := 26) ck_R_readSum_2 rfl)
theorem d_R_readSum_91 : decode y_R_readSum.2.1 91 = .ok (.getfield 31, 3) := op_getfield (gk (k := 64) (t := 27) ck_R_readSum_2 rfl) (gk (k := 64) (t := 28) ck_R_readSum_2 rfl) (gk (k := 64) (t := 29) ck_R_readSum_2 rfl) rfl
theorem d_R_readSum_94 : decode y_R_readSum.2.1 94 = .ok (.iload_n 1, 1) := op_iload_n1 (gk (k := 64) (t := 30) ck_R_readSum_2 rfl)
theorem d_R_readSum_95 : decode y_R_readSum.2.1 95 = .ok (.invokevirtual 138, 3) := op_invokevirtual (gk (k := 64) (t := 31) ck_R_readSum_2 rfl) (gk (k := 96) (t := 0) ck_R_readSum_3 rfl) (gk (k := 96) (t := 1) ck_R_readSum_3 rfl) rfl
theorem d_R_readSum_73 : decode y_R_readSum.2.1 73 = .ok (.if_icmp .eq 9, 3) := op_icmp_eq (gk (k := 64) (t := 9) ck_R_readSum_2 rfl) (gk (k := 64) (t := 10) ck_R_readSum_2 rfl) (gk (k := 64) (t := 11) ck_R_readSum_2 rfl) (by decide +kernel)
theorem d_R_readSum_76 : decode y_R_readSum.2.1 76 = .ok (.iload_n 3, 1) := op_iload_n3 (gk (k := 64) (t := 12) ck_R_readSum_2 rfl)
theorem cb_45 : (Int8.ofInt 45).toInt32 = iv 45 := by decide +kernel
theorem d_R_readSum_77 : decode y_R_readSum.2.1 77 = .ok (.bipush 45, 2) := op_bipush (gk (k := 64) (t := 13) ck_R_readSum_2 rfl) (gk (k := 64) (t := 14) ck_R_readSum_2 rfl) rfl
theorem in_45 : inr (45) := lit_in rfl
theorem d_R_readSum_79 : decode y_R_readSum.2.1 79 = .ok (.if_icmp .ne 42, 3) := op_icmp_ne (gk (k := 64) (t := 15) ck_R_readSum_2 rfl) (gk (k := 64) (t := 16) ck_R_readSum_2 rfl) (gk (k := 64) (t := 17) ck_R_readSum_2 rfl) (by decide +kernel)
theorem d_R_readSum_59 : decode y_R_readSum.2.1 59 = .ok (.aload_n 0, 1) := op_aload_n0 (gk (k := 32) (t := 27) ck_R_readSum_1 rfl)
theorem d_R_readSum_60 : decode y_R_readSum.2.1 60 = .ok (.invokevirtual 57, 3) := op_invokevirtual (gk (k := 32) (t := 28) ck_R_readSum_1 rfl) (gk (k := 32) (t := 29) ck_R_readSum_1 rfl) (gk (k := 32) (t := 30) ck_R_readSum_1 rfl) rfl
theorem d_R_readSum_63 : decode y_R_readSum.2.1 63 = .ok (.aload_n 0, 1) := op_aload_n0 (gk (k := 32) (t := 31) ck_R_readSum_1 rfl)
theorem lk_R_147 : LkV "SinglesUp$Reader" 147 y_R_readDivisor := ⟨tw_c3 129 (by decide +kernel) rfl, tw_in 13 (by decide +kernel) rfl, Or.inl (tw_c3 127 (by decide +kernel) rfl)⟩
set_option maxRecDepth 100000 in
theorem mo_R_readDivisor : MOk y_R_readDivisor 0 := ⟨by decide +kernel, tw_c3 130 rfl rfl, tw_c1 8 (by decide +kernel) rfl, by decide +kernel, by decide +kernel, by decide +kernel⟩
theorem d_R_readSum_64 : decode y_R_readSum.2.1 64 = .ok (.invokevirtual 147, 3) := op_invokevirtual (gk (k := 64) (t := 0) ck_R_readSum_2 rfl) (gk (k := 64) (t := 1) ck_R_readSum_2 rfl) (gk (k := 64) (t := 2) ck_R_readSum_2 rfl) rfl
theorem d_R_readSum_67 : decode y_R_readSum.2.1 67 = .ok (.goto 48, 3) := op_goto (gk (k := 64) (t := 3) ck_R_readSum_2 rfl) (gk (k := 64) (t := 4) ck_R_readSum_2 rfl) (gk (k := 64) (t := 5) ck_R_readSum_2 rfl) (by decide +kernel)
theorem d_R_readSum_33 : decode y_R_readSum.2.1 33 = .ok (.aload_n 0, 1) := op_aload_n0 (gk (k := 32) (t := 1) ck_R_readSum_1 rfl)
theorem d_R_readSum_34 : decode y_R_readSum.2.1 34 = .ok (.invokevirtual 57, 3) := op_invokevirtual (gk (k := 32) (t := 2) ck_R_readSum_1 rfl) (gk (k := 32) (t := 3) ck_R_readSum_1 rfl) (gk (k := 32) (t := 4) ck_R_readSum_1 rfl) rfl
theorem d_R_readSum_37 : decode y_R_readSum.2.1 37 = .ok (.aload_n 0, 1) := op_aload_n0 (gk (k := 32) (t := 5) ck_R_readSum_1 rfl)
theorem d_R_readSum_38 : decode y_R_readSum.2.1 38 = .ok (.invokevirtual 144, 3) := op_invokevirtual (gk (k := 32) (t := 6) ck_R_readSum_1 rfl) (gk (k := 32) (t := 7) ck_R_readSum_1 rfl) (gk (k := 32) (t := 8) ck_R_readSum_1 rfl) rfl
theorem d_R_readSum_41 : decode y_R_readSum.2.1 41 = .ok (.aload_n 0, 1) := op_aload_n0 (gk (k := 32) (t := 9) ck_R_readSum_1 rfl)
theorem d_R_readSum_42 : decode y_R_readSum.2.1 42 = .ok (.getfield 31, 3) := op_getfield (gk (k := 32) (t := 10) ck_R_readSum_1 rfl) (gk (k := 32) (t := 11) ck_R_readSum_1 rfl) (gk (k := 32) (t := 12) ck_R_readSum_1 rfl) rfl
theorem cb_m3 : (Int8.ofInt (-3)).toInt32 = iv (-3) := by decide +kernel
theorem d_R_readSum_45 : decode y_R_readSum.2.1 45 = .ok (.bipush (-3), 2) := op_bipush (gk (k := 32) (t := 13) ck_R_readSum_1 rfl) (gk (k := 32) (t := 14) ck_R_readSum_1 rfl) rfl
theorem in_m3 : inr (-3) := lit_in rfl
theorem d_R_readSum_47 : decode y_R_readSum.2.1 47 = .ok (.invokevirtual 138, 3) := op_invokevirtual (gk (k := 32) (t := 15) ck_R_readSum_1 rfl) (gk (k := 32) (t := 16) ck_R_readSum_1 rfl) (gk (k := 32) (t := 17) ck_R_readSum_1 rfl) rfl
theorem d_R_readSum_50 : decode y_R_readSum.2.1 50 = .ok (.goto 65, 3) := op_goto (gk (k := 32) (t := 18) ck_R_readSum_1 rfl) (gk (k := 32) (t := 19) ck_R_readSum_1 rfl) (gk (k := 32) (t := 20) ck_R_readSum_1 rfl) (by decide +kernel)
theorem d_R_readSum_121 : decode y_R_readSum.2.1 121 = .ok (.iload_n 1, 1) := op_iload_n1 (gk (k := 96) (t := 25) ck_R_readSum_3 rfl)
theorem d_R_readSum_122 : decode y_R_readSum.2.1 122 = .ok (.ifCond .eq 11, 3) := op_if_eq (gk (k := 96) (t := 26) ck_R_readSum_3 rfl) (gk (k := 96) (t := 27) ck_R_readSum_3 rfl) (gk (k := 96) (t := 28) ck_R_readSum_3 rfl) (by decide +kernel)
theorem ck_R_readSum_4 : (y_R_readSum.2.1.data.toList.drop 128).take 32 = [31, 27, 182, 0, 138, 177] := by decide +kernel
theorem d_R_readSum_133 : decode y_R_readSum.2.1 133 = .ok (.return_, 1) := op_return_ (gk (k := 128) (t := 5) ck_R_readSum_4 rfl)
theorem d_R_readSum_125 : decode y_R_readSum.2.1 125 = .ok (.aload_n 0, 1) := op_aload_n0 (gk (k := 96) (t := 29) ck_R_readSum_3 rfl)
theorem d_R_readSum_126 : decode y_R_readSum.2.1 126 = .ok (.getfield 31, 3) := op_getfield (gk (k := 96) (t := 30) ck_R_readSum_3 rfl) (gk (k := 96) (t := 31) ck_R_readSum_3 rfl) (gk (k := 128) (t := 0) ck_R_readSum_4 rfl) rfl
theorem d_R_readSum_129 : decode y_R_readSum.2.1 129 = .ok (.iload_n 1, 1) := op_iload_n1 (gk (k := 128) (t := 1) ck_R_readSum_4 rfl)
theorem d_R_readSum_130 : decode y_R_readSum.2.1 130 = .ok (.invokevirtual 138, 3) := op_invokevirtual (gk (k := 128) (t := 2) ck_R_readSum_4 rfl) (gk (k := 128) (t := 3) ck_R_readSum_4 rfl) (gk (k := 128) (t := 4) ck_R_readSum_4 rfl) rfl
abbrev y_R_readEither : MI := (⟨"SinglesUp$Reader", "readEither", "(I)V"⟩, prog_9_method_18_code, 5, none)
abbrev y_R_readTest : MI := (⟨"SinglesUp$Reader", "readTest", "(I)V"⟩, prog_9_method_19_code, 4, none)
theorem ck_R_readEither_0 : (y_R_readEither.2.1.data.toList.drop 0).take 32 = [3, 61, 42, 27, 182, 0, 141, 3, 62, 29, 17, 1, 144, 162, 0, 93, 42, 180, 0, 38, 154, 0, 86, 42, 180, 0, 60, 5, 159, 0, 11, 42] := by decide +kernel
theorem d_R_readEither_0 : decode y_R_readEither.2.1 0 = .ok (.iconst 0, 1) := op_iconst0 (gk (k := 0) (t := 0) ck_R_readEither_0 rfl)
theorem d_R_readEither_1 : decode y_R_readEither.2.1 1 = .ok (.istore_n 2, 1) := op_istore_n2 (gk (k := 0) (t := 1) ck_R_readEither_0 rfl)
theorem d_R_readEither_2 : decode y_R_readEither.2.1 2 = .ok (.aload_n 0, 1) := op_aload_n0 (gk (k := 0) (t := 2) ck_R_readEither_0 rfl)
theorem d_R_readEither_3 : decode y_R_readEither.2.1 3 = .ok (.iload_n 1, 1) := op_iload_n1 (gk (k := 0) (t := 3) ck_R_readEither_0 rfl)
theorem lk_R_141 : LkV "SinglesUp$Reader" 141 y_R_readTest := ⟨tw_c3 141 (by decide +kernel) rfl, tw_in 15 (by decide +kernel) rfl, Or.inl (tw_c3 139 (by decide +kernel) rfl)⟩
set_option maxRecDepth 100000 in
theorem mo_R_readTest : MOk y_R_readTest 1 := ⟨by decide +kernel, tw_c3 142 rfl rfl, tw_c1 8 (by decide +kernel) rfl, by decide +kernel, by decide +kernel, by decide +kernel⟩
theorem d_R_readEither_4 : decode y_R_readEither.2.1 4 = .ok (.invokevirtual 141, 3) := op_invokevirtual (gk (k := 0) (t := 4) ck_R_readEither_0 rfl) (gk (k := 0) (t := 5) ck_R_readEither_0 rfl) (gk (k := 0) (t := 6) ck_R_readEither_0 rfl) rfl
theorem d_R_readEither_7 : decode y_R_readEither.2.1 7 = .ok (.iconst 0, 1) := op_iconst0 (gk (k := 0) (t := 7) ck_R_readEither_0 rfl)
theorem d_R_readEither_8 : decode y_R_readEither.2.1 8 = .ok (.istore_n 3, 1) := op_istore_n3 (gk (k := 0) (t := 8) ck_R_readEither_0 rfl)
theorem d_R_readEither_9 : decode y_R_readEither.2.1 9 = .ok (.iload_n 3, 1) := op_iload_n3 (gk (k := 0) (t := 9) ck_R_readEither_0 rfl)
theorem d_R_readEither_10 : decode y_R_readEither.2.1 10 = .ok (.sipush 400, 3) := op_sipush (gk (k := 0) (t := 10) ck_R_readEither_0 rfl) (gk (k := 0) (t := 11) ck_R_readEither_0 rfl) (gk (k := 0) (t := 12) ck_R_readEither_0 rfl) (by decide +kernel)
theorem d_R_readEither_13 : decode y_R_readEither.2.1 13 = .ok (.if_icmp .ge 93, 3) := op_icmp_ge (gk (k := 0) (t := 13) ck_R_readEither_0 rfl) (gk (k := 0) (t := 14) ck_R_readEither_0 rfl) (gk (k := 0) (t := 15) ck_R_readEither_0 rfl) (by decide +kernel)
theorem d_R_readEither_16 : decode y_R_readEither.2.1 16 = .ok (.aload_n 0, 1) := op_aload_n0 (gk (k := 0) (t := 16) ck_R_readEither_0 rfl)
theorem d_R_readEither_17 : decode y_R_readEither.2.1 17 = .ok (.getfield 38, 3) := op_getfield (gk (k := 0) (t := 17) ck_R_readEither_0 rfl) (gk (k := 0) (t := 18) ck_R_readEither_0 rfl) (gk (k := 0) (t := 19) ck_R_readEither_0 rfl) rfl
theorem d_R_readEither_20 : decode y_R_readEither.2.1 20 = .ok (.ifCond .ne 86, 3) := op_if_ne (gk (k := 0) (t := 20) ck_R_readEither_0 rfl) (gk (k := 0) (t := 21) ck_R_readEither_0 rfl) (gk (k := 0) (t := 22) ck_R_readEither_0 rfl) (by decide +kernel)
theorem d_R_readEither_23 : decode y_R_readEither.2.1 23 = .ok (.aload_n 0, 1) := op_aload_n0 (gk (k := 0) (t := 23) ck_R_readEither_0 rfl)
theorem d_R_readEither_24 : decode y_R_readEither.2.1 24 = .ok (.getfield 60, 3) := op_getfield (gk (k := 0) (t := 24) ck_R_readEither_0 rfl) (gk (k := 0) (t := 25) ck_R_readEither_0 rfl) (gk (k := 0) (t := 26) ck_R_readEither_0 rfl) rfl
theorem d_R_readEither_27 : decode y_R_readEither.2.1 27 = .ok (.iconst 2, 1) := op_iconst2 (gk (k := 0) (t := 27) ck_R_readEither_0 rfl)
theorem ck_R_readEither_1 : (y_R_readEither.2.1.data.toList.drop 32).take 32 = [180, 0, 60, 6, 160, 0, 70, 42, 180, 0, 60, 6, 160, 0, 7, 4, 167, 0, 4, 3, 54, 4, 42, 182, 0, 57, 28, 153, 0, 17, 21, 4] := by decide +kernel
theorem d_R_readEither_39 : decode y_R_readEither.2.1 39 = .ok (.aload_n 0, 1) := op_aload_n0 (gk (k := 32) (t := 7) ck_R_readEither_1 rfl)
theorem d_R_readEither_40 : decode y_R_readEither.2.1 40 = .ok (.getfield 60, 3) := op_getfield (gk (k := 32) (t := 8) ck_R_readEither_1 rfl) (gk (k := 32) (t := 9) ck_R_readEither_1 rfl) (gk (k := 32) (t := 10) ck_R_readEither_1 rfl) rfl
theorem d_R_readEither_43 : decode y_R_readEither.2.1 43 = .ok (.iconst 3, 1) := op_iconst3 (gk (k := 32) (t := 11) ck_R_readEither_1 rfl)
theorem d_R_readEither_52 : decode y_R_readEither.2.1 52 = .ok (.istore 4, 2) := op_istore (gk (k := 32) (t := 20) ck_R_readEither_1 rfl) (gk (k := 32) (t := 21) ck_R_readEither_1 rfl) rfl
theorem d_R_readEither_54 : decode y_R_readEither.2.1 54 = .ok (.aload_n 0, 1) := op_aload_n0 (gk (k := 32) (t := 22) ck_R_readEither_1 rfl)
theorem d_R_readEither_55 : decode y_R_readEither.2.1 55 = .ok (.invokevirtual 57, 3) := op_invokevirtual (gk (k := 32) (t := 23) ck_R_readEither_1 rfl) (gk (k := 32) (t := 24) ck_R_readEither_1 rfl) (gk (k := 32) (t := 25) ck_R_readEither_1 rfl) rfl
theorem d_R_readEither_58 : decode y_R_readEither.2.1 58 = .ok (.iload_n 2, 1) := op_iload_n2 (gk (k := 32) (t := 26) ck_R_readEither_1 rfl)
theorem ck_R_readEither_2 : (y_R_readEither.2.1.data.toList.drop 64).take 32 = [154, 0, 12, 42, 180, 0, 31, 16, 247, 182, 0, 138, 42, 27, 182, 0, 141, 21, 4, 153, 0, 15, 42, 180, 0, 31, 16, 248, 182, 0, 138, 167] := by decide +kernel
theorem d_R_readEither_76 : decode y_R_readEither.2.1 76 = .ok (.aload_n 0, 1) := op_aload_n0 (gk (k := 64) (t := 12) ck_R_readEither_2 rfl)
theorem d_R_readEither_77 : decode y_R_readEither.2.1 77 = .ok (.iload_n 1, 1) := op_iload_n1 (gk (k := 64) (t := 13) ck_R_readEither_2 rfl)
theorem d_R_readEither_78 : decode y_R_readEither.2.1 78 = .ok (.invokevirtual 141, 3) := op_invokevirtual (gk (k := 64) (t := 14) ck_R_readEither_2 rfl) (gk (k := 64) (t := 15) ck_R_readEither_2 rfl) (gk (k := 64) (t := 16) ck_R_readEither_2 rfl) rfl
theorem d_R_readEither_81 : decode y_R_readEither.2.1 81 = .ok (.iload 4, 2) := op_iload (gk (k := 64) (t := 17) ck_R_readEither_2 rfl) (gk (k := 64) (t := 18) ck_R_readEither_2 rfl) rfl
theorem ck_R_readEither_3 : (y_R_readEither.2.1.data.toList.drop 96).take 32 = [0, 5, 4, 61, 132, 3, 1, 167, 255, 162, 28, 153, 0, 12, 42, 180, 0, 31, 16, 247, 182, 0, 138, 177] := by decide +kernel
theorem d_R_readEither_100 : decode y_R_readEither.2.1 100 = .ok (.iinc 3 1, 3) := op_iinc (gk (k := 96) (t := 4) ck_R_readEither_3 rfl) (gk (k := 96) (t := 5) ck_R_readEither_3 rfl) (gk (k := 96) (t := 6) ck_R_readEither_3 rfl) rfl rfl
theorem d_R_readEither_103 : decode y_R_readEither.2.1 103 = .ok (.goto (-94), 3) := op_goto (gk (k := 96) (t := 7) ck_R_readEither_3 rfl) (gk (k := 96) (t := 8) ck_R_readEither_3 rfl) (gk (k := 96) (t := 9) ck_R_readEither_3 rfl) (by decide +kernel)
theorem d_R_readEither_83 : decode y_R_readEither.2.1 83 = .ok (.ifCond .eq 15, 3) := op_if_eq (gk (k := 64) (t := 19) ck_R_readEither_2 rfl) (gk (k := 64) (t := 20) ck_R_readEither_2 rfl) (gk (k := 64) (t := 21) ck_R_readEither_2 rfl) (by decide +kernel)
theorem d_R_readEither_98 : decode y_R_readEither.2.1 98 = .ok (.iconst 1, 1) := op_iconst1 (gk (k := 96) (t := 2) ck_R_readEither_3 rfl)
theorem d_R_readEither_99 : decode y_R_readEither.2.1 99 = .ok (.istore_n 2, 1) := op_istore_n2 (gk (k := 96) (t := 3) ck_R_readEither_3 rfl)
theorem d_R_readEither_86 : decode y_R_readEither.2.1 86 = .ok (.aload_n 0, 1) := op_aload_n0 (gk (k := 64) (t := 22) ck_R_readEither_2 rfl)
theorem d_R_readEither_87 : decode y_R_readEither.2.1 87 = .ok (.getfield 31, 3) := op_getfield (gk (k := 64) (t := 23) ck_R_readEither_2 rfl) (gk (k := 64) (t := 24) ck_R_readEither_2 rfl) (gk (k := 64) (t := 25) ck_R_readEither_2 rfl) rfl
theorem cb_m8 : (Int8.ofInt (-8)).toInt32 = iv (-8) := by decide +kernel
theorem d_R_readEither_90 : decode y_R_readEither.2.1 90 = .ok (.bipush (-8), 2) := op_bipush (gk (k := 64) (t := 26) ck_R_readEither_2 rfl) (gk (k := 64) (t := 27) ck_R_readEither_2 rfl) rfl
theorem in_m8 : inr (-8) := lit_in rfl
theorem d_R_readEither_92 : decode y_R_readEither.2.1 92 = .ok (.invokevirtual 138, 3) := op_invokevirtual (gk (k := 64) (t := 28) ck_R_readEither_2 rfl) (gk (k := 64) (t := 29) ck_R_readEither_2 rfl) (gk (k := 64) (t := 30) ck_R_readEither_2 rfl) rfl
theorem d_R_readEither_95 : decode y_R_readEither.2.1 95 = .ok (.goto 5, 3) := op_goto (gk (k := 64) (t := 31) ck_R_readEither_2 rfl) (gk (k := 96) (t := 0) ck_R_readEither_3 rfl) (gk (k := 96) (t := 1) ck_R_readEither_3 rfl) (by decide +kernel)
theorem d_R_readEither_59 : decode y_R_readEither.2.1 59 = .ok (.ifCond .eq 17, 3) := op_if_eq (gk (k := 32) (t := 27) ck_R_readEither_1 rfl) (gk (k := 32) (t := 28) ck_R_readEither_1 rfl) (gk (k := 32) (t := 29) ck_R_readEither_1 rfl) (by decide +kernel)
theorem d_R_readEither_62 : decode y_R_readEither.2.1 62 = .ok (.iload 4, 2) := op_iload (gk (k := 32) (t := 30) ck_R_readEither_1 rfl) (gk (k := 32) (t := 31) ck_R_readEither_1 rfl) rfl
theorem d_R_readEither_64 : decode y_R_readEither.2.1 64 = .ok (.ifCond .ne 12, 3) := op_if_ne (gk (k := 64) (t := 0) ck_R_readEither_2 rfl) (gk (k := 64) (t := 1) ck_R_readEither_2 rfl) (gk (k := 64) (t := 2) ck_R_readEither_2 rfl) (by decide +kernel)
theorem d_R_readEither_67 : decode y_R_readEither.2.1 67 = .ok (.aload_n 0, 1) := op_aload_n0 (gk (k := 64) (t := 3) ck_R_readEither_2 rfl)
theorem d_R_readEither_68 : decode y_R_readEither.2.1 68 = .ok (.getfield 31, 3) := op_getfield (gk (k := 64) (t := 4) ck_R_readEither_2 rfl) (gk (k := 64) (t := 5) ck_R_readEither_2 rfl) (gk (k := 64) (t := 6) ck_R_readEither_2 rfl) rfl
theorem cb_m9 : (Int8.ofInt (-9)).toInt32 = iv (-9) := by decide +kernel
theorem d_R_readEither_71 : decode y_R_readEither.2.1 71 = .ok (.bipush (-9), 2) := op_bipush (gk (k := 64) (t := 7) ck_R_readEither_2 rfl) (gk (k := 64) (t := 8) ck_R_readEither_2 rfl) rfl
theorem in_m9 : inr (-9) := lit_in rfl
theorem d_R_readEither_73 : decode y_R_readEither.2.1 73 = .ok (.invokevirtual 138, 3) := op_invokevirtual (gk (k := 64) (t := 9) ck_R_readEither_2 rfl) (gk (k := 64) (t := 10) ck_R_readEither_2 rfl) (gk (k := 64) (t := 11) ck_R_readEither_2 rfl) rfl
theorem d_R_readEither_44 : decode y_R_readEither.2.1 44 = .ok (.if_icmp .ne 7, 3) := op_icmp_ne (gk (k := 32) (t := 12) ck_R_readEither_1 rfl) (gk (k := 32) (t := 13) ck_R_readEither_1 rfl) (gk (k := 32) (t := 14) ck_R_readEither_1 rfl) (by decide +kernel)
theorem d_R_readEither_51 : decode y_R_readEither.2.1 51 = .ok (.iconst 0, 1) := op_iconst0 (gk (k := 32) (t := 19) ck_R_readEither_1 rfl)
theorem d_R_readEither_47 : decode y_R_readEither.2.1 47 = .ok (.iconst 1, 1) := op_iconst1 (gk (k := 32) (t := 15) ck_R_readEither_1 rfl)
theorem d_R_readEither_48 : decode y_R_readEither.2.1 48 = .ok (.goto 4, 3) := op_goto (gk (k := 32) (t := 16) ck_R_readEither_1 rfl) (gk (k := 32) (t := 17) ck_R_readEither_1 rfl) (gk (k := 32) (t := 18) ck_R_readEither_1 rfl) (by decide +kernel)
theorem d_R_readEither_28 : decode y_R_readEither.2.1 28 = .ok (.if_icmp .eq 11, 3) := op_icmp_eq (gk (k := 0) (t := 28) ck_R_readEither_0 rfl) (gk (k := 0) (t := 29) ck_R_readEither_0 rfl) (gk (k := 0) (t := 30) ck_R_readEither_0 rfl) (by decide +kernel)
theorem d_R_readEither_31 : decode y_R_readEither.2.1 31 = .ok (.aload_n 0, 1) := op_aload_n0 (gk (k := 0) (t := 31) ck_R_readEither_0 rfl)
theorem d_R_readEither_32 : decode y_R_readEither.2.1 32 = .ok (.getfield 60, 3) := op_getfield (gk (k := 32) (t := 0) ck_R_readEither_1 rfl) (gk (k := 32) (t := 1) ck_R_readEither_1 rfl) (gk (k := 32) (t := 2) ck_R_readEither_1 rfl) rfl
theorem d_R_readEither_35 : decode y_R_readEither.2.1 35 = .ok (.iconst 3, 1) := op_iconst3 (gk (k := 32) (t := 3) ck_R_readEither_1 rfl)
theorem d_R_readEither_36 : decode y_R_readEither.2.1 36 = .ok (.if_icmp .ne 70, 3) := op_icmp_ne (gk (k := 32) (t := 4) ck_R_readEither_1 rfl) (gk (k := 32) (t := 5) ck_R_readEither_1 rfl) (gk (k := 32) (t := 6) ck_R_readEither_1 rfl) (by decide +kernel)
theorem d_R_readEither_106 : decode y_R_readEither.2.1 106 = .ok (.iload_n 2, 1) := op_iload_n2 (gk (k := 96) (t := 10) ck_R_readEither_3 rfl)
theorem d_R_readEither_107 : decode y_R_readEither.2.1 107 = .ok (.ifCond .eq 12, 3) := op_if_eq (gk (k := 96) (t := 11) ck_R_readEither_3 rfl) (gk (k := 96) (t := 12) ck_R_readEither_3 rfl) (gk (k := 96) (t := 13) ck_R_readEither_3 rfl) (by decide +kernel)
theorem d_R_readEither_119 : decode y_R_readEither.2.1 119 = .ok (.return_, 1) := op_return_ (gk (k := 96) (t := 23) ck_R_readEither_3 rfl)
theorem d_R_readEither_110 : decode y_R_readEither.2.1 110 = .ok (.aload_n 0, 1) := op_aload_n0 (gk (k := 96) (t := 14) ck_R_readEither_3 rfl)
theorem d_R_readEither_111 : decode y_R_readEither.2.1 111 = .ok (.getfield 31, 3) := op_getfield (gk (k := 96) (t := 15) ck_R_readEither_3 rfl) (gk (k := 96) (t := 16) ck_R_readEither_3 rfl) (gk (k := 96) (t := 17) ck_R_readEither_3 rfl) rfl
theorem d_R_readEither_114 : decode y_R_readEither.2.1 114 = .ok (.bipush (-9), 2) := op_bipush (gk (k := 96) (t := 18) ck_R_readEither_3 rfl) (gk (k := 96) (t := 19) ck_R_readEither_3 rfl) rfl
theorem d_R_readEither_116 : decode y_R_readEither.2.1 116 = .ok (.invokevirtual 138, 3) := op_invokevirtual (gk (k := 96) (t := 20) ck_R_readEither_3 rfl) (gk (k := 96) (t := 21) ck_R_readEither_3 rfl) (gk (k := 96) (t := 22) ck_R_readEither_3 rfl) rfl
theorem ck_R_readTest_0 : (y_R_readTest.2.1.data.toList.drop 0).take 32 = [42, 180, 0, 38, 153, 0, 4, 177, 42, 180, 0, 60, 7, 159, 0, 12, 42, 180, 0, 60, 16, 40, 160, 0, 7, 4, 167, 0, 4, 3, 61, 28] := by decide +kernel
theorem d_R_readTest_0 : decode y_R_readTest.2.1 0 = .ok (.aload_n 0, 1) := op_aload_n0 (gk (k := 0) (t := 0) ck_R_readTest_0 rfl)
theorem d_R_readTest_1 : decode y_R_readTest.2.1 1 = .ok (.getfield 38, 3) := op_getfield (gk (k := 0) (t := 1) ck_R_readTest_0 rfl) (gk (k := 0) (t := 2) ck_R_readTest_0 rfl) (gk (k := 0) (t := 3) ck_R_readTest_0 rfl) rfl
theorem d_R_readTest_4 : decode y_R_readTest.2.1 4 = .ok (.ifCond .eq 4, 3) := op_if_eq (gk (k := 0) (t := 4) ck_R_readTest_0 rfl) (gk (k := 0) (t := 5) ck_R_readTest_0 rfl) (gk (k := 0) (t := 6) ck_R_readTest_0 rfl) (by decide +kernel)
theorem d_R_readTest_8 : decode y_R_readTest.2.1 8 = .ok (.aload_n 0, 1) := op_aload_n0 (gk (k := 0) (t := 8) ck_R_readTest_0 rfl)
theorem d_R_readTest_9 : decode y_R_readTest.2.1 9 = .ok (.getfield 60, 3) := op_getfield (gk (k := 0) (t := 9) ck_R_readTest_0 rfl) (gk (k := 0) (t := 10) ck_R_readTest_0 rfl) (gk (k := 0) (t := 11) ck_R_readTest_0 rfl) rfl
theorem d_R_readTest_12 : decode y_R_readTest.2.1 12 = .ok (.iconst 4, 1) := op_iconst4 (gk (k := 0) (t := 12) ck_R_readTest_0 rfl)
theorem d_R_readTest_30 : decode y_R_readTest.2.1 30 = .ok (.istore_n 2, 1) := op_istore_n2 (gk (k := 0) (t := 30) ck_R_readTest_0 rfl)
theorem d_R_readTest_31 : decode y_R_readTest.2.1 31 = .ok (.iload_n 2, 1) := op_iload_n2 (gk (k := 0) (t := 31) ck_R_readTest_0 rfl)
theorem ck_R_readTest_1 : (y_R_readTest.2.1.data.toList.drop 32).take 32 = [153, 0, 17, 27, 16, 8, 161, 0, 11, 42, 6, 182, 0, 112, 167, 0, 124, 42, 180, 0, 60, 7, 160, 0, 26, 42, 182, 0, 57, 42, 27, 4] := by decide +kernel
theorem d_R_readTest_49 : decode y_R_readTest.2.1 49 = .ok (.aload_n 0, 1) := op_aload_n0 (gk (k := 32) (t := 17) ck_R_readTest_1 rfl)
theorem d_R_readTest_50 : decode y_R_readTest.2.1 50 = .ok (.getfield 60, 3) := op_getfield (gk (k := 32) (t := 18) ck_R_readTest_1 rfl) (gk (k := 32) (t := 19) ck_R_readTest_1 rfl) (gk (k := 32) (t := 20) ck_R_readTest_1 rfl) rfl
theorem d_R_readTest_53 : decode y_R_readTest.2.1 53 = .ok (.iconst 4, 1) := op_iconst4 (gk (k := 32) (t := 21) ck_R_readTest_1 rfl)
theorem in_4 : inr (4) := lit_in rfl
theorem d_R_readTest_54 : decode y_R_readTest.2.1 54 = .ok (.if_icmp .ne 26, 3) := op_icmp_ne (gk (k := 32) (t := 22) ck_R_readTest_1 rfl) (gk (k := 32) (t := 23) ck_R_readTest_1 rfl) (gk (k := 32) (t := 24) ck_R_readTest_1 rfl) (by decide +kernel)
theorem ck_R_readTest_2 : (y_R_readTest.2.1.data.toList.drop 64).take 32 = [96, 182, 0, 141, 42, 180, 0, 31, 16, 246, 182, 0, 138, 167, 0, 93, 28, 153, 0, 23, 42, 182, 0, 57, 42, 27, 4, 96, 182, 0, 132, 42] := by decide +kernel
theorem d_R_readTest_80 : decode y_R_readTest.2.1 80 = .ok (.iload_n 2, 1) := op_iload_n2 (gk (k := 64) (t := 16) ck_R_readTest_2 rfl)
theorem d_R_readTest_81 : decode y_R_readTest.2.1 81 = .ok (.ifCond .eq 23, 3) := op_if_eq (gk (k := 64) (t := 17) ck_R_readTest_2 rfl) (gk (k := 64) (t := 18) ck_R_readTest_2 rfl) (gk (k := 64) (t := 19) ck_R_readTest_2 rfl) (by decide +kernel)
theorem ck_R_readTest_3 : (y_R_readTest.2.1.data.toList.drop 96).take 32 = [16, 41, 182, 0, 120, 167, 0, 69, 42, 182, 0, 126, 42, 180, 0, 60, 62, 42, 29, 16, 60, 159, 0, 9, 29, 16, 62, 160, 0, 7, 29, 167] := by decide +kernel
theorem d_R_readTest_104 : decode y_R_readTest.2.1 104 = .ok (.aload_n 0, 1) := op_aload_n0 (gk (k := 96) (t := 8) ck_R_readTest_3 rfl)
theorem lk_R_126 : LkV "SinglesUp$Reader" 126 y_R_readSum := ⟨tw_c3 121 (by decide +kernel) rfl, tw_in 11 (by decide +kernel) rfl, Or.inl (tw_c3 119 (by decide +kernel) rfl)⟩
set_option maxRecDepth 100000 in
theorem mo_R_readSum : MOk y_R_readSum 0 := ⟨by decide +kernel, tw_c3 122 rfl rfl, tw_c1 8 (by decide +kernel) rfl, by decide +kernel, by decide +kernel, by decide +kernel⟩
theorem d_R_readTest_105 : decode y_R_readTest.2.1 105 = .ok (.invokevirtual 126, 3) := op_invokevirtual (gk (k := 96) (t := 9) ck_R_readTest_3 rfl) (gk (k := 96) (t := 10) ck_R_readTest_3 rfl) (gk (k := 96) (t := 11) ck_R_readTest_3 rfl) rfl
theorem d_R_readTest_108 : decode y_R_readTest.2.1 108 = .ok (.aload_n 0, 1) := op_aload_n0 (gk (k := 96) (t := 12) ck_R_readTest_3 rfl)
theorem d_R_readTest_109 : decode y_R_readTest.2.1 109 = .ok (.getfield 60, 3) := op_getfield (gk (k := 96) (t := 13) ck_R_readTest_3 rfl) (gk (k := 96) (t := 14) ck_R_readTest_3 rfl) (gk (k := 96) (t := 15) ck_R_readTest_3 rfl) rfl
theorem d_R_readTest_112 : decode y_R_readTest.2.1 112 = .ok (.istore_n 3, 1) := op_istore_n3 (gk (k := 96) (t := 16) ck_R_readTest_3 rfl)
theorem d_R_readTest_113 : decode y_R_readTest.2.1 113 = .ok (.aload_n 0, 1) := op_aload_n0 (gk (k := 96) (t := 17) ck_R_readTest_3 rfl)
theorem d_R_readTest_114 : decode y_R_readTest.2.1 114 = .ok (.iload_n 3, 1) := op_iload_n3 (gk (k := 96) (t := 18) ck_R_readTest_3 rfl)
theorem cb_60 : (Int8.ofInt 60).toInt32 = iv 60 := by decide +kernel
theorem d_R_readTest_115 : decode y_R_readTest.2.1 115 = .ok (.bipush 60, 2) := op_bipush (gk (k := 96) (t := 19) ck_R_readTest_3 rfl) (gk (k := 96) (t := 20) ck_R_readTest_3 rfl) rfl
theorem lk_R_120 : LkV "SinglesUp$Reader" 120 y_R_expect := ⟨tw_c3 109 (by decide +kernel) rfl, tw_in 9 (by decide +kernel) rfl, Or.inl (tw_c3 107 (by decide +kernel) rfl)⟩
set_option maxRecDepth 100000 in
theorem mo_R_expect : MOk y_R_expect 1 := ⟨by decide +kernel, tw_c3 110 rfl rfl, tw_c1 8 (by decide +kernel) rfl, by decide +kernel, by decide +kernel, by decide +kernel⟩
theorem ck_R_readTest_4 : (y_R_readTest.2.1.data.toList.drop 128).take 32 = [0, 5, 16, 61, 182, 0, 120, 42, 182, 0, 126, 42, 180, 0, 31, 29, 16, 60, 160, 0, 8, 16, 251, 167, 0, 16, 29, 16, 62, 160, 0, 8] := by decide +kernel
theorem d_R_readTest_132 : decode y_R_readTest.2.1 132 = .ok (.invokevirtual 120, 3) := op_invokevirtual (gk (k := 128) (t := 4) ck_R_readTest_4 rfl) (gk (k := 128) (t := 5) ck_R_readTest_4 rfl) (gk (k := 128) (t := 6) ck_R_readTest_4 rfl) rfl
theorem d_R_readTest_135 : decode y_R_readTest.2.1 135 = .ok (.aload_n 0, 1) := op_aload_n0 (gk (k := 128) (t := 7) ck_R_readTest_4 rfl)
theorem d_R_readTest_136 : decode y_R_readTest.2.1 136 = .ok (.invokevirtual 126, 3) := op_invokevirtual (gk (k := 128) (t := 8) ck_R_readTest_4 rfl) (gk (k := 128) (t := 9) ck_R_readTest_4 rfl) (gk (k := 128) (t := 10) ck_R_readTest_4 rfl) rfl
theorem d_R_readTest_139 : decode y_R_readTest.2.1 139 = .ok (.aload_n 0, 1) := op_aload_n0 (gk (k := 128) (t := 11) ck_R_readTest_4 rfl)
theorem d_R_readTest_140 : decode y_R_readTest.2.1 140 = .ok (.getfield 31, 3) := op_getfield (gk (k := 128) (t := 12) ck_R_readTest_4 rfl) (gk (k := 128) (t := 13) ck_R_readTest_4 rfl) (gk (k := 128) (t := 14) ck_R_readTest_4 rfl) rfl
theorem d_R_readTest_143 : decode y_R_readTest.2.1 143 = .ok (.iload_n 3, 1) := op_iload_n3 (gk (k := 128) (t := 15) ck_R_readTest_4 rfl)
theorem d_R_readTest_144 : decode y_R_readTest.2.1 144 = .ok (.bipush 60, 2) := op_bipush (gk (k := 128) (t := 16) ck_R_readTest_4 rfl) (gk (k := 128) (t := 17) ck_R_readTest_4 rfl) rfl
theorem ck_R_readTest_5 : (y_R_readTest.2.1.data.toList.drop 160).take 32 = [16, 249, 167, 0, 5, 16, 250, 182, 0, 138, 177] := by decide +kernel
theorem d_R_readTest_167 : decode y_R_readTest.2.1 167 = .ok (.invokevirtual 138, 3) := op_invokevirtual (gk (k := 160) (t := 7) ck_R_readTest_5 rfl) (gk (k := 160) (t := 8) ck_R_readTest_5 rfl) (gk (k := 160) (t := 9) ck_R_readTest_5 rfl) rfl
theorem d_R_readTest_170 : decode y_R_readTest.2.1 170 = .ok (.return_, 1) := op_return_ (gk (k := 160) (t := 10) ck_R_readTest_5 rfl)
theorem in_60 : inr (60) := lit_in rfl
theorem d_R_readTest_146 : decode y_R_readTest.2.1 146 = .ok (.if_icmp .ne 8, 3) := op_icmp_ne (gk (k := 128) (t := 18) ck_R_readTest_4 rfl) (gk (k := 128) (t := 19) ck_R_readTest_4 rfl) (gk (k := 128) (t := 20) ck_R_readTest_4 rfl) (by decide +kernel)
theorem d_R_readTest_154 : decode y_R_readTest.2.1 154 = .ok (.iload_n 3, 1) := op_iload_n3 (gk (k := 128) (t := 26) ck_R_readTest_4 rfl)
theorem cb_62 : (Int8.ofInt 62).toInt32 = iv 62 := by decide +kernel
theorem d_R_readTest_155 : decode y_R_readTest.2.1 155 = .ok (.bipush 62, 2) := op_bipush (gk (k := 128) (t := 27) ck_R_readTest_4 rfl) (gk (k := 128) (t := 28) ck_R_readTest_4 rfl) rfl
theorem in_62 : inr (62) := lit_in rfl
theorem d_R_readTest_157 : decode y_R_readTest.2.1 157 = .ok (.if_icmp .ne 8, 3) := op_icmp_ne (gk (k := 128) (t := 29) ck_R_readTest_4 rfl) (gk (k := 128) (t := 30) ck_R_readTest_4 rfl) (gk (k := 128) (t := 31) ck_R_readTest_4 rfl) (by decide +kernel)
theorem cb_m6 : (Int8.ofInt (-6)).toInt32 = iv (-6) := by decide +kernel
theorem d_R_readTest_165 : decode y_R_readTest.2.1 165 = .ok (.bipush (-6), 2) := op_bipush (gk (k := 160) (t := 5) ck_R_readTest_5 rfl) (gk (k := 160) (t := 6) ck_R_readTest_5 rfl) rfl
theorem in_m6 : inr (-6) := lit_in rfl
theorem cb_m7 : (Int8.ofInt (-7)).toInt32 = iv (-7) := by decide +kernel
theorem d_R_readTest_160 : decode y_R_readTest.2.1 160 = .ok (.bipush (-7), 2) := op_bipush (gk (k := 160) (t := 0) ck_R_readTest_5 rfl) (gk (k := 160) (t := 1) ck_R_readTest_5 rfl) rfl
theorem d_R_readTest_162 : decode y_R_readTest.2.1 162 = .ok (.goto 5, 3) := op_goto (gk (k := 160) (t := 2) ck_R_readTest_5 rfl) (gk (k := 160) (t := 3) ck_R_readTest_5 rfl) (gk (k := 160) (t := 4) ck_R_readTest_5 rfl) (by decide +kernel)
theorem in_m7 : inr (-7) := lit_in rfl
theorem cb_m5 : (Int8.ofInt (-5)).toInt32 = iv (-5) := by decide +kernel
theorem d_R_readTest_149 : decode y_R_readTest.2.1 149 = .ok (.bipush (-5), 2) := op_bipush (gk (k := 128) (t := 21) ck_R_readTest_4 rfl) (gk (k := 128) (t := 22) ck_R_readTest_4 rfl) rfl
theorem d_R_readTest_151 : decode y_R_readTest.2.1 151 = .ok (.goto 16, 3) := op_goto (gk (k := 128) (t := 23) ck_R_readTest_4 rfl) (gk (k := 128) (t := 24) ck_R_readTest_4 rfl) (gk (k := 128) (t := 25) ck_R_readTest_4 rfl) (by decide +kernel)
theorem in_m5 : inr (-5) := lit_in rfl
theorem d_R_readTest_117 : decode y_R_readTest.2.1 117 = .ok (.if_icmp .eq 9, 3) := op_icmp_eq (gk (k := 96) (t := 21) ck_R_readTest_3 rfl) (gk (k := 96) (t := 22) ck_R_readTest_3 rfl) (gk (k := 96) (t := 23) ck_R_readTest_3 rfl) (by decide +kernel)
theorem d_R_readTest_126 : decode y_R_readTest.2.1 126 = .ok (.iload_n 3, 1) := op_iload_n3 (gk (k := 96) (t := 30) ck_R_readTest_3 rfl)
theorem d_R_readTest_127 : decode y_R_readTest.2.1 127 = .ok (.goto 5, 3) := op_goto (gk (k := 96) (t := 31) ck_R_readTest_3 rfl) (gk (k := 128) (t := 0) ck_R_readTest_4 rfl) (gk (k := 128) (t := 1) ck_R_readTest_4 rfl) (by decide +kernel)
theorem d_R_readTest_120 : decode y_R_readTest.2.1 120 = .ok (.iload_n 3, 1) := op_iload_n3 (gk (k := 96) (t := 24) ck_R_readTest_3 rfl)
theorem d_R_readTest_121 : decode y_R_readTest.2.1 121 = .ok (.bipush 62, 2) := op_bipush (gk (k := 96) (t := 25) ck_R_readTest_3 rfl) (gk (k := 96) (t := 26) ck_R_readTest_3 rfl) rfl
theorem d_R_readTest_123 : decode y_R_readTest.2.1 123 = .ok (.if_icmp .ne 7, 3) := op_icmp_ne (gk (k := 96) (t := 27) ck_R_readTest_3 rfl) (gk (k := 96) (t := 28) ck_R_readTest_3 rfl) (gk (k := 96) (t := 29) ck_R_readTest_3 rfl) (by decide +kernel)
theorem cb_61 : (Int8.ofInt 61).toInt32 = iv 61 := by decide +kernel
theorem d_R_readTest_130 : decode y_R_readTest.2.1 130 = .ok (.bipush 61, 2) := op_bipush (gk (k := 128) (t := 2) ck_R_readTest_4 rfl) (gk (k := 128) (t := 3) ck_R_readTest_4 rfl) rfl
theorem in_61 : inr (61) := lit_in rfl
theorem d_R_readTest_84 : decode y_R_readTest.2.1 84 = .ok (.aload_n 0, 1) := op_aload_n0 (gk (k := 64) (t := 20) ck_R_readTest_2 rfl)
theorem d_R_readTest_85 : decode y_R_readTest.2.1 85 = .ok (.invokevirtual 57, 3) := op_invokevirtual (gk (k := 64) (t := 21) ck_R_readTest_2 rfl) (gk (k := 64) (t := 22) ck_R_readTest_2 rfl) (gk (k := 64) (t := 23) ck_R_readTest_2 rfl) rfl
theorem d_R_readTest_88 : decode y_R_readTest.2.1 88 = .ok (.aload_n 0, 1) := op_aload_n0 (gk (k := 64) (t := 24) ck_R_readTest_2 rfl)
theorem d_R_readTest_89 : decode y_R_readTest.2.1 89 = .ok (.iload_n 1, 1) := op_iload_n1 (gk (k := 64) (t := 25) ck_R_readTest_2 rfl)
theorem d_R_readTest_90 : decode y_R_readTest.2.1 90 = .ok (.iconst 1, 1) := op_iconst1 (gk (k := 64) (t := 26) ck_R_readTest_2 rfl)
theorem d_R_readTest_91 : decode y_R_readTest.2.1 91 = .ok (.iadd, 1) := op_iadd (gk (k := 64) (t := 27) ck_R_readTest_2 rfl)
theorem lk_R_132 : LkV "SinglesUp$Reader" 132 y_R_readEither := ⟨tw_c3 137 (by decide +kernel) rfl, tw_in 14 (by decide +kernel) rfl, Or.inl (tw_c3 135 (by decide +kernel) rfl)⟩
set_option maxRecDepth 100000 in
theorem mo_R_readEither : MOk y_R_readEither 1 := ⟨by decide +kernel, tw_c3 138 rfl rfl, tw_c1 8 (by decide +kernel) rfl, by decide +kernel, by decide +kernel, by decide +kernel⟩
theorem d_R_readTest_92 : decode y_R_readTest.2.1 92 = .ok (.invokevirtual 132, 3) := op_invokevirtual (gk (k := 64) (t := 28) ck_R_readTest_2 rfl) (gk (k := 64) (t := 29) ck_R_readTest_2 rfl) (gk (k := 64) (t := 30) ck_R_readTest_2 rfl) rfl
theorem d_R_readTest_95 : decode y_R_readTest.2.1 95 = .ok (.aload_n 0, 1) := op_aload_n0 (gk (k := 64) (t := 31) ck_R_readTest_2 rfl)
theorem cb_41 : (Int8.ofInt 41).toInt32 = iv 41 := by decide +kernel
theorem d_R_readTest_96 : decode y_R_readTest.2.1 96 = .ok (.bipush 41, 2) := op_bipush (gk (k := 96) (t := 0) ck_R_readTest_3 rfl) (gk (k := 96) (t := 1) ck_R_readTest_3 rfl) rfl
theorem in_41 : inr (41) := lit_in rfl
theorem d_R_readTest_98 : decode y_R_readTest.2.1 98 = .ok (.invokevirtual 120, 3) := op_invokevirtual (gk (k := 96) (t := 2) ck_R_readTest_3 rfl) (gk (k := 96) (t := 3) ck_R_readTest_3 rfl) (gk (k := 96) (t := 4) ck_R_readTest_3 rfl) rfl
theorem d_R_readTest_101 : decode y_R_readTest.2.1 101 = .ok (.goto 69, 3) := op_goto (gk (k := 96) (t := 5) ck_R_readTest_3 rfl) (gk (k := 96) (t := 6) ck_R_readTest_3 rfl) (gk (k := 96) (t := 7) ck_R_readTest_3 rfl) (by decide +kernel)
theorem d_R_readTest_57 : decode y_R_readTest.2.1 57 = .ok (.aload_n 0, 1) := op_aload_n0 (gk (k := 32) (t := 25) ck_R_readTest_1 rfl)
theorem d_R_readTest_58 : decode y_R_readTest.2.1 58 = .ok (.invokevirtual 57, 3) := op_invokevirtual (gk (k := 32) (t := 26) ck_R_readTest_1 rfl) (gk (k := 32) (t := 27) ck_R_readTest_1 rfl) (gk (k := 32) (t := 28) ck_R_readTest_1 rfl) rfl
theorem d_R_readTest_61 : decode y_R_readTest.2.1 61 = .ok (.aload_n 0, 1) := op_aload_n0 (gk (k := 32) (t := 29) ck_R_readTest_1 rfl)
theorem d_R_readTest_62 : decode y_R_readTest.2.1 62 = .ok (.iload_n 1, 1) := op_iload_n1 (gk (k := 32) (t := 30) ck_R_readTest_1 rfl)
theorem d_R_readTest_63 : decode y_R_readTest.2.1 63 = .ok (.iconst 1, 1) := op_iconst1 (gk (k := 32) (t := 31) ck_R_readTest_1 rfl)
theorem d_R_readTest_64 : decode y_R_readTest.2.1 64 = .ok (.iadd, 1) := op_iadd (gk (k := 64) (t := 0) ck_R_readTest_2 rfl)
theorem d_R_readTest_65 : decode y_R_readTest.2.1 65 = .ok (.invokevirtual 141, 3) := op_invokevirtual (gk (k := 64) (t := 1) ck_R_readTest_2 rfl) (gk (k := 64) (t := 2) ck_R_readTest_2 rfl) (gk (k := 64) (t := 3) ck_R_readTest_2 rfl) rfl
theorem d_R_readTest_68 : decode y_R_readTest.2.1 68 = .ok (.aload_n 0, 1) := op_aload_n0 (gk (k := 64) (t := 4) ck_R_readTest_2 rfl)
theorem d_R_readTest_69 : decode y_R_readTest.2.1 69 = .ok (.getfield 31, 3) := op_getfield (gk (k := 64) (t := 5) ck_R_readTest_2 rfl) (gk (k := 64) (t := 6) ck_R_readTest_2 rfl) (gk (k := 64) (t := 7) ck_R_readTest_2 rfl) rfl
theorem cb_m10 : (Int8.ofInt (-10)).toInt32 = iv (-10) := by decide +kernel
theorem d_R_readTest_72 : decode y_R_readTest.2.1 72 = .ok (.bipush (-10), 2) := op_bipush (gk (k := 64) (t := 8) ck_R_readTest_2 rfl) (gk (k := 64) (t := 9) ck_R_readTest_2 rfl) rfl
theorem in_m10 : inr (-10) := lit_in rfl
theorem d_R_readTest_74 : decode y_R_readTest.2.1 74 = .ok (.invokevirtual 138, 3) := op_invokevirtual (gk (k := 64) (t := 10) ck_R_readTest_2 rfl) (gk (k := 64) (t := 11) ck_R_readTest_2 rfl) (gk (k := 64) (t := 12) ck_R_readTest_2 rfl) rfl
theorem d_R_readTest_77 : decode y_R_readTest.2.1 77 = .ok (.goto 93, 3) := op_goto (gk (k := 64) (t := 13) ck_R_readTest_2 rfl) (gk (k := 64) (t := 14) ck_R_readTest_2 rfl) (gk (k := 64) (t := 15) ck_R_readTest_2 rfl) (by decide +kernel)
theorem d_R_readTest_32 : decode y_R_readTest.2.1 32 = .ok (.ifCond .eq 17, 3) := op_if_eq (gk (k := 32) (t := 0) ck_R_readTest_1 rfl) (gk (k := 32) (t := 1) ck_R_readTest_1 rfl) (gk (k := 32) (t := 2) ck_R_readTest_1 rfl) (by decide +kernel)
theorem d_R_readTest_35 : decode y_R_readTest.2.1 35 = .ok (.iload_n 1, 1) := op_iload_n1 (gk (k := 32) (t := 3) ck_R_readTest_1 rfl)
theorem d_R_readTest_36 : decode y_R_readTest.2.1 36 = .ok (.bipush 8, 2) := op_bipush (gk (k := 32) (t := 4) ck_R_readTest_1 rfl) (gk (k := 32) (t := 5) ck_R_readTest_1 rfl) rfl
theorem d_R_readTest_38 : decode y_R_readTest.2.1 38 = .ok (.if_icmp .lt 11, 3) := op_icmp_lt (gk (k := 32) (t := 6) ck_R_readTest_1 rfl) (gk (k := 32) (t := 7) ck_R_readTest_1 rfl) (gk (k := 32) (t := 8) ck_R_readTest_1 rfl) (by decide +kernel)
theorem d_R_readTest_41 : decode y_R_readTest.2.1 41 = .ok (.aload_n 0, 1) := op_aload_n0 (gk (k := 32) (t := 9) ck_R_readTest_1 rfl)
theorem d_R_readTest_42 : decode y_R_readTest.2.1 42 = .ok (.iconst 3, 1) := op_iconst3 (gk (k := 32) (t := 10) ck_R_readTest_1 rfl)
theorem d_R_readTest_43 : decode y_R_readTest.2.1 43 = .ok (.invokevirtual 112, 3) := op_invokevirtual (gk (k := 32) (t := 11) ck_R_readTest_1 rfl) (gk (k := 32) (t := 12) ck_R_readTest_1 rfl) (gk (k := 32) (t := 13) ck_R_readTest_1 rfl) rfl
theorem d_R_readTest_46 : decode y_R_readTest.2.1 46 = .ok (.goto 124, 3) := op_goto (gk (k := 32) (t := 14) ck_R_readTest_1 rfl) (gk (k := 32) (t := 15) ck_R_readTest_1 rfl) (gk (k := 32) (t := 16) ck_R_readTest_1 rfl) (by decide +kernel)
theorem d_R_readTest_13 : decode y_R_readTest.2.1 13 = .ok (.if_icmp .eq 12, 3) := op_icmp_eq (gk (k := 0) (t := 13) ck_R_readTest_0 rfl) (gk (k := 0) (t := 14) ck_R_readTest_0 rfl) (gk (k := 0) (t := 15) ck_R_readTest_0 rfl) (by decide +kernel)
theorem d_R_readTest_25 : decode y_R_readTest.2.1 25 = .ok (.iconst 1, 1) := op_iconst1 (gk (k := 0) (t := 25) ck_R_readTest_0 rfl)
theorem d_R_readTest_26 : decode y_R_readTest.2.1 26 = .ok (.goto 4, 3) := op_goto (gk (k := 0) (t := 26) ck_R_readTest_0 rfl) (gk (k := 0) (t := 27) ck_R_readTest_0 rfl) (gk (k := 0) (t := 28) ck_R_readTest_0 rfl) (by decide +kernel)
theorem d_R_readTest_16 : decode y_R_readTest.2.1 16 = .ok (.aload_n 0, 1) := op_aload_n0 (gk (k := 0) (t := 16) ck_R_readTest_0 rfl)
theorem d_R_readTest_17 : decode y_R_readTest.2.1 17 = .ok (.getfield 60, 3) := op_getfield (gk (k := 0) (t := 17) ck_R_readTest_0 rfl) (gk (k := 0) (t := 18) ck_R_readTest_0 rfl) (gk (k := 0) (t := 19) ck_R_readTest_0 rfl) rfl
theorem cb_40 : (Int8.ofInt 40).toInt32 = iv 40 := by decide +kernel
theorem d_R_readTest_20 : decode y_R_readTest.2.1 20 = .ok (.bipush 40, 2) := op_bipush (gk (k := 0) (t := 20) ck_R_readTest_0 rfl) (gk (k := 0) (t := 21) ck_R_readTest_0 rfl) rfl
theorem in_40 : inr (40) := lit_in rfl
theorem d_R_readTest_22 : decode y_R_readTest.2.1 22 = .ok (.if_icmp .ne 7, 3) := op_icmp_ne (gk (k := 0) (t := 22) ck_R_readTest_0 rfl) (gk (k := 0) (t := 23) ck_R_readTest_0 rfl) (gk (k := 0) (t := 24) ck_R_readTest_0 rfl) (by decide +kernel)
theorem d_R_readTest_29 : decode y_R_readTest.2.1 29 = .ok (.iconst 0, 1) := op_iconst0 (gk (k := 0) (t := 29) ck_R_readTest_0 rfl)
theorem d_R_readTest_7 : decode y_R_readTest.2.1 7 = .ok (.return_, 1) := op_return_ (gk (k := 0) (t := 7) ck_R_readTest_0 rfl)
abbrev y_R_readTarget : MI := (⟨"SinglesUp$Reader", "readTarget", "()V"⟩, prog_9_method_17_code, 1, none)
theorem ck_R_readTarget_0 : (y_R_readTarget.2.1.data.toList.drop 0).take 32 = [42, 180, 0, 60, 16, 16, 160, 0, 17, 42, 180, 0, 109, 16, 6, 161, 0, 8, 42, 5, 182, 0, 112, 42, 180, 0, 31, 42, 180, 0, 109, 182] := by decide +kernel
theorem d_R_readTarget_0 : decode y_R_readTarget.2.1 0 = .ok (.aload_n 0, 1) := op_aload_n0 (gk (k := 0) (t := 0) ck_R_readTarget_0 rfl)
theorem d_R_readTarget_1 : decode y_R_readTarget.2.1 1 = .ok (.getfield 60, 3) := op_getfield (gk (k := 0) (t := 1) ck_R_readTarget_0 rfl) (gk (k := 0) (t := 2) ck_R_readTarget_0 rfl) (gk (k := 0) (t := 3) ck_R_readTarget_0 rfl) rfl
theorem d_R_readTarget_4 : decode y_R_readTarget.2.1 4 = .ok (.bipush 16, 2) := op_bipush (gk (k := 0) (t := 4) ck_R_readTarget_0 rfl) (gk (k := 0) (t := 5) ck_R_readTarget_0 rfl) rfl
theorem d_R_readTarget_23 : decode y_R_readTarget.2.1 23 = .ok (.aload_n 0, 1) := op_aload_n0 (gk (k := 0) (t := 23) ck_R_readTarget_0 rfl)
theorem d_R_readTarget_24 : decode y_R_readTarget.2.1 24 = .ok (.getfield 31, 3) := op_getfield (gk (k := 0) (t := 24) ck_R_readTarget_0 rfl) (gk (k := 0) (t := 25) ck_R_readTarget_0 rfl) (gk (k := 0) (t := 26) ck_R_readTarget_0 rfl) rfl
theorem d_R_readTarget_27 : decode y_R_readTarget.2.1 27 = .ok (.aload_n 0, 1) := op_aload_n0 (gk (k := 0) (t := 27) ck_R_readTarget_0 rfl)
theorem d_R_readTarget_28 : decode y_R_readTarget.2.1 28 = .ok (.getfield 109, 3) := op_getfield (gk (k := 0) (t := 28) ck_R_readTarget_0 rfl) (gk (k := 0) (t := 29) ck_R_readTarget_0 rfl) (gk (k := 0) (t := 30) ck_R_readTarget_0 rfl) rfl
theorem ck_R_readTarget_1 : (y_R_readTarget.2.1.data.toList.drop 32).take 32 = [0, 138, 42, 16, 16, 182, 0, 120, 177] := by decide +kernel
theorem d_R_readTarget_31 : decode y_R_readTarget.2.1 31 = .ok (.invokevirtual 138, 3) := op_invokevirtual (gk (k := 0) (t := 31) ck_R_readTarget_0 rfl) (gk (k := 32) (t := 0) ck_R_readTarget_1 rfl) (gk (k := 32) (t := 1) ck_R_readTarget_1 rfl) rfl
theorem d_R_readTarget_34 : decode y_R_readTarget.2.1 34 = .ok (.aload_n 0, 1) := op_aload_n0 (gk (k := 32) (t := 2) ck_R_readTarget_1 rfl)
theorem d_R_readTarget_35 : decode y_R_readTarget.2.1 35 = .ok (.bipush 16, 2) := op_bipush (gk (k := 32) (t := 3) ck_R_readTarget_1 rfl) (gk (k := 32) (t := 4) ck_R_readTarget_1 rfl) rfl
theorem d_R_readTarget_37 : decode y_R_readTarget.2.1 37 = .ok (.invokevirtual 120, 3) := op_invokevirtual (gk (k := 32) (t := 5) ck_R_readTarget_1 rfl) (gk (k := 32) (t := 6) ck_R_readTarget_1 rfl) (gk (k := 32) (t := 7) ck_R_readTarget_1 rfl) rfl
theorem d_R_readTarget_40 : decode y_R_readTarget.2.1 40 = .ok (.return_, 1) := op_return_ (gk (k := 32) (t := 8) ck_R_readTarget_1 rfl)
theorem d_R_readTarget_6 : decode y_R_readTarget.2.1 6 = .ok (.if_icmp .ne 17, 3) := op_icmp_ne (gk (k := 0) (t := 6) ck_R_readTarget_0 rfl) (gk (k := 0) (t := 7) ck_R_readTarget_0 rfl) (gk (k := 0) (t := 8) ck_R_readTarget_0 rfl) (by decide +kernel)
theorem d_R_readTarget_9 : decode y_R_readTarget.2.1 9 = .ok (.aload_n 0, 1) := op_aload_n0 (gk (k := 0) (t := 9) ck_R_readTarget_0 rfl)
theorem d_R_readTarget_10 : decode y_R_readTarget.2.1 10 = .ok (.getfield 109, 3) := op_getfield (gk (k := 0) (t := 10) ck_R_readTarget_0 rfl) (gk (k := 0) (t := 11) ck_R_readTarget_0 rfl) (gk (k := 0) (t := 12) ck_R_readTarget_0 rfl) rfl
theorem d_R_readTarget_13 : decode y_R_readTarget.2.1 13 = .ok (.bipush 6, 2) := op_bipush (gk (k := 0) (t := 13) ck_R_readTarget_0 rfl) (gk (k := 0) (t := 14) ck_R_readTarget_0 rfl) rfl
theorem d_R_readTarget_15 : decode y_R_readTarget.2.1 15 = .ok (.if_icmp .lt 8, 3) := op_icmp_lt (gk (k := 0) (t := 15) ck_R_readTarget_0 rfl) (gk (k := 0) (t := 16) ck_R_readTarget_0 rfl) (gk (k := 0) (t := 17) ck_R_readTarget_0 rfl) (by decide +kernel)
theorem d_R_readTarget_18 : decode y_R_readTarget.2.1 18 = .ok (.aload_n 0, 1) := op_aload_n0 (gk (k := 0) (t := 18) ck_R_readTarget_0 rfl)
theorem d_R_readTarget_19 : decode y_R_readTarget.2.1 19 = .ok (.iconst 2, 1) := op_iconst2 (gk (k := 0) (t := 19) ck_R_readTarget_0 rfl)
theorem d_R_readTarget_20 : decode y_R_readTarget.2.1 20 = .ok (.invokevirtual 112, 3) := op_invokevirtual (gk (k := 0) (t := 20) ck_R_readTarget_0 rfl) (gk (k := 0) (t := 21) ck_R_readTarget_0 rfl) (gk (k := 0) (t := 22) ck_R_readTarget_0 rfl) rfl
abbrev y_W_closeLine : MI := (⟨"SinglesUp$Law", "closeLine", "()V"⟩, prog_5_method_6_code, 1, none)
theorem ck_W_closeLine_0 : (y_W_closeLine.2.1.data.toList.drop 0).take 32 = [42, 180, 0, 26, 155, 0, 35, 42, 180, 0, 26, 16, 16, 162, 0, 26, 42, 89, 180, 0, 26, 4, 96, 181, 0, 26, 42, 180, 0, 13, 42, 180] := by decide +kernel
theorem d_W_closeLine_0 : decode y_W_closeLine.2.1 0 = .ok (.aload_n 0, 1) := op_aload_n0 (gk (k := 0) (t := 0) ck_W_closeLine_0 rfl)
theorem fl_W_26 : FL "SinglesUp$Law" 26 3 4 := ⟨"SinglesUp$Law", zT3, 6, rfl, by decide, rfl, Or.inl (tw_c1 68 (by decide +kernel) rfl)⟩
theorem d_W_closeLine_1 : decode y_W_closeLine.2.1 1 = .ok (.getfield 26, 3) := op_getfield (gk (k := 0) (t := 1) ck_W_closeLine_0 rfl) (gk (k := 0) (t := 2) ck_W_closeLine_0 rfl) (gk (k := 0) (t := 3) ck_W_closeLine_0 rfl) rfl
theorem d_W_closeLine_4 : decode y_W_closeLine.2.1 4 = .ok (.ifCond .lt 35, 3) := op_if_lt (gk (k := 0) (t := 4) ck_W_closeLine_0 rfl) (gk (k := 0) (t := 5) ck_W_closeLine_0 rfl) (gk (k := 0) (t := 6) ck_W_closeLine_0 rfl) (by decide +kernel)
theorem ck_W_closeLine_1 : (y_W_closeLine.2.1.data.toList.drop 32).take 32 = [0, 26, 42, 180, 0, 22, 79, 177] := by decide +kernel
theorem d_W_closeLine_39 : decode y_W_closeLine.2.1 39 = .ok (.return_, 1) := op_return_ (gk (k := 32) (t := 7) ck_W_closeLine_1 rfl)
theorem d_W_closeLine_7 : decode y_W_closeLine.2.1 7 = .ok (.aload_n 0, 1) := op_aload_n0 (gk (k := 0) (t := 7) ck_W_closeLine_0 rfl)
theorem d_W_closeLine_8 : decode y_W_closeLine.2.1 8 = .ok (.getfield 26, 3) := op_getfield (gk (k := 0) (t := 8) ck_W_closeLine_0 rfl) (gk (k := 0) (t := 9) ck_W_closeLine_0 rfl) (gk (k := 0) (t := 10) ck_W_closeLine_0 rfl) rfl
theorem d_W_closeLine_11 : decode y_W_closeLine.2.1 11 = .ok (.bipush 16, 2) := op_bipush (gk (k := 0) (t := 11) ck_W_closeLine_0 rfl) (gk (k := 0) (t := 12) ck_W_closeLine_0 rfl) rfl
theorem d_W_closeLine_13 : decode y_W_closeLine.2.1 13 = .ok (.if_icmp .ge 26, 3) := op_icmp_ge (gk (k := 0) (t := 13) ck_W_closeLine_0 rfl) (gk (k := 0) (t := 14) ck_W_closeLine_0 rfl) (gk (k := 0) (t := 15) ck_W_closeLine_0 rfl) (by decide +kernel)
theorem d_W_closeLine_16 : decode y_W_closeLine.2.1 16 = .ok (.aload_n 0, 1) := op_aload_n0 (gk (k := 0) (t := 16) ck_W_closeLine_0 rfl)
theorem d_W_closeLine_17 : decode y_W_closeLine.2.1 17 = .ok (.dup, 1) := op_dup (gk (k := 0) (t := 17) ck_W_closeLine_0 rfl)
theorem d_W_closeLine_18 : decode y_W_closeLine.2.1 18 = .ok (.getfield 26, 3) := op_getfield (gk (k := 0) (t := 18) ck_W_closeLine_0 rfl) (gk (k := 0) (t := 19) ck_W_closeLine_0 rfl) (gk (k := 0) (t := 20) ck_W_closeLine_0 rfl) rfl
theorem d_W_closeLine_21 : decode y_W_closeLine.2.1 21 = .ok (.iconst 1, 1) := op_iconst1 (gk (k := 0) (t := 21) ck_W_closeLine_0 rfl)
theorem d_W_closeLine_22 : decode y_W_closeLine.2.1 22 = .ok (.iadd, 1) := op_iadd (gk (k := 0) (t := 22) ck_W_closeLine_0 rfl)
theorem d_W_closeLine_23 : decode y_W_closeLine.2.1 23 = .ok (.putfield 26, 3) := op_putfield (gk (k := 0) (t := 23) ck_W_closeLine_0 rfl) (gk (k := 0) (t := 24) ck_W_closeLine_0 rfl) (gk (k := 0) (t := 25) ck_W_closeLine_0 rfl) rfl
theorem d_W_closeLine_26 : decode y_W_closeLine.2.1 26 = .ok (.aload_n 0, 1) := op_aload_n0 (gk (k := 0) (t := 26) ck_W_closeLine_0 rfl)
theorem fl_W_13 : FL "SinglesUp$Law" 13 3 2 := ⟨"SinglesUp$Law", zT3, 6, rfl, by decide, rfl, Or.inl (tw_c1 66 (by decide +kernel) rfl)⟩
theorem rc_3_2 : ∀ o, KC[o]? = some (6, 6) → RC o 2 = some (o + 2) ∧ KC[o + 2]? = some (0, 17) := by
  intro o h
  have hl : o < 166 := (List.getElem?_eq_some_iff.mp h).1
  exact (by decide +kernel : ∀ o, o < 166 → KC[o]? = some (6, 6) → RC o 2 = some (o + 2) ∧ KC[o + 2]? = some (0, 17)) o hl h
theorem d_W_closeLine_27 : decode y_W_closeLine.2.1 27 = .ok (.getfield 13, 3) := op_getfield (gk (k := 0) (t := 27) ck_W_closeLine_0 rfl) (gk (k := 0) (t := 28) ck_W_closeLine_0 rfl) (gk (k := 0) (t := 29) ck_W_closeLine_0 rfl) rfl
theorem d_W_closeLine_30 : decode y_W_closeLine.2.1 30 = .ok (.aload_n 0, 1) := op_aload_n0 (gk (k := 0) (t := 30) ck_W_closeLine_0 rfl)
theorem d_W_closeLine_31 : decode y_W_closeLine.2.1 31 = .ok (.getfield 26, 3) := op_getfield (gk (k := 0) (t := 31) ck_W_closeLine_0 rfl) (gk (k := 32) (t := 0) ck_W_closeLine_1 rfl) (gk (k := 32) (t := 1) ck_W_closeLine_1 rfl) rfl
theorem d_W_closeLine_34 : decode y_W_closeLine.2.1 34 = .ok (.aload_n 0, 1) := op_aload_n0 (gk (k := 32) (t := 2) ck_W_closeLine_1 rfl)
theorem d_W_closeLine_35 : decode y_W_closeLine.2.1 35 = .ok (.getfield 22, 3) := op_getfield (gk (k := 32) (t := 3) ck_W_closeLine_1 rfl) (gk (k := 32) (t := 4) ck_W_closeLine_1 rfl) (gk (k := 32) (t := 5) ck_W_closeLine_1 rfl) rfl
theorem d_W_closeLine_38 : decode y_W_closeLine.2.1 38 = .ok (.iastore, 1) := op_iastore (gk (k := 32) (t := 6) ck_W_closeLine_1 rfl)
abbrev y_W_isFull : MI := (⟨"SinglesUp$Law", "isFull", "()Z"⟩, prog_5_method_3_code, 1, some .boolean)
theorem ck_W_isFull_0 : (y_W_isFull.2.1.data.toList.drop 0).take 32 = [42, 180, 0, 26, 16, 16, 161, 0, 7, 4, 167, 0, 4, 3, 172] := by decide +kernel
theorem d_W_isFull_0 : decode y_W_isFull.2.1 0 = .ok (.aload_n 0, 1) := op_aload_n0 (gk (k := 0) (t := 0) ck_W_isFull_0 rfl)
theorem d_W_isFull_1 : decode y_W_isFull.2.1 1 = .ok (.getfield 26, 3) := op_getfield (gk (k := 0) (t := 1) ck_W_isFull_0 rfl) (gk (k := 0) (t := 2) ck_W_isFull_0 rfl) (gk (k := 0) (t := 3) ck_W_isFull_0 rfl) rfl
theorem d_W_isFull_4 : decode y_W_isFull.2.1 4 = .ok (.bipush 16, 2) := op_bipush (gk (k := 0) (t := 4) ck_W_isFull_0 rfl) (gk (k := 0) (t := 5) ck_W_isFull_0 rfl) rfl
theorem d_W_isFull_6 : decode y_W_isFull.2.1 6 = .ok (.if_icmp .lt 7, 3) := op_icmp_lt (gk (k := 0) (t := 6) ck_W_isFull_0 rfl) (gk (k := 0) (t := 7) ck_W_isFull_0 rfl) (gk (k := 0) (t := 8) ck_W_isFull_0 rfl) (by decide +kernel)
theorem d_W_isFull_13 : decode y_W_isFull.2.1 13 = .ok (.iconst 0, 1) := op_iconst0 (gk (k := 0) (t := 13) ck_W_isFull_0 rfl)
theorem d_W_isFull_14 : decode y_W_isFull.2.1 14 = .ok (.ireturn, 1) := op_ireturn (gk (k := 0) (t := 14) ck_W_isFull_0 rfl)
theorem d_W_isFull_9 : decode y_W_isFull.2.1 9 = .ok (.iconst 1, 1) := op_iconst1 (gk (k := 0) (t := 9) ck_W_isFull_0 rfl)
theorem d_W_isFull_10 : decode y_W_isFull.2.1 10 = .ok (.goto 4, 3) := op_goto (gk (k := 0) (t := 10) ck_W_isFull_0 rfl) (gk (k := 0) (t := 11) ck_W_isFull_0 rfl) (gk (k := 0) (t := 12) ck_W_isFull_0 rfl) (by decide +kernel)
abbrev y_W_startWhen : MI := (⟨"SinglesUp$Law", "startWhen", "()V"⟩, prog_5_method_5_code, 1, none)
theorem ck_W_startWhen_0 : (y_W_startWhen.2.1.data.toList.drop 0).take 32 = [42, 180, 0, 26, 155, 0, 25, 42, 180, 0, 26, 16, 16, 162, 0, 16, 42, 180, 0, 16, 42, 180, 0, 26, 42, 180, 0, 22, 79, 177] := by decide +kernel
theorem d_W_startWhen_0 : decode y_W_startWhen.2.1 0 = .ok (.aload_n 0, 1) := op_aload_n0 (gk (k := 0) (t := 0) ck_W_startWhen_0 rfl)
theorem d_W_startWhen_1 : decode y_W_startWhen.2.1 1 = .ok (.getfield 26, 3) := op_getfield (gk (k := 0) (t := 1) ck_W_startWhen_0 rfl) (gk (k := 0) (t := 2) ck_W_startWhen_0 rfl) (gk (k := 0) (t := 3) ck_W_startWhen_0 rfl) rfl
theorem d_W_startWhen_4 : decode y_W_startWhen.2.1 4 = .ok (.ifCond .lt 25, 3) := op_if_lt (gk (k := 0) (t := 4) ck_W_startWhen_0 rfl) (gk (k := 0) (t := 5) ck_W_startWhen_0 rfl) (gk (k := 0) (t := 6) ck_W_startWhen_0 rfl) (by decide +kernel)
theorem d_W_startWhen_29 : decode y_W_startWhen.2.1 29 = .ok (.return_, 1) := op_return_ (gk (k := 0) (t := 29) ck_W_startWhen_0 rfl)
theorem d_W_startWhen_7 : decode y_W_startWhen.2.1 7 = .ok (.aload_n 0, 1) := op_aload_n0 (gk (k := 0) (t := 7) ck_W_startWhen_0 rfl)
theorem d_W_startWhen_8 : decode y_W_startWhen.2.1 8 = .ok (.getfield 26, 3) := op_getfield (gk (k := 0) (t := 8) ck_W_startWhen_0 rfl) (gk (k := 0) (t := 9) ck_W_startWhen_0 rfl) (gk (k := 0) (t := 10) ck_W_startWhen_0 rfl) rfl
theorem d_W_startWhen_11 : decode y_W_startWhen.2.1 11 = .ok (.bipush 16, 2) := op_bipush (gk (k := 0) (t := 11) ck_W_startWhen_0 rfl) (gk (k := 0) (t := 12) ck_W_startWhen_0 rfl) rfl
theorem d_W_startWhen_13 : decode y_W_startWhen.2.1 13 = .ok (.if_icmp .ge 16, 3) := op_icmp_ge (gk (k := 0) (t := 13) ck_W_startWhen_0 rfl) (gk (k := 0) (t := 14) ck_W_startWhen_0 rfl) (gk (k := 0) (t := 15) ck_W_startWhen_0 rfl) (by decide +kernel)
theorem d_W_startWhen_16 : decode y_W_startWhen.2.1 16 = .ok (.aload_n 0, 1) := op_aload_n0 (gk (k := 0) (t := 16) ck_W_startWhen_0 rfl)
theorem fl_W_16 : FL "SinglesUp$Law" 16 3 3 := ⟨"SinglesUp$Law", zT3, 6, rfl, by decide, rfl, Or.inl (tw_c1 67 (by decide +kernel) rfl)⟩
theorem rc_3_3 : ∀ o, KC[o]? = some (6, 6) → RC o 3 = some (o + 3) ∧ KC[o + 3]? = some (0, 16) := by
  intro o h
  have hl : o < 166 := (List.getElem?_eq_some_iff.mp h).1
  exact (by decide +kernel : ∀ o, o < 166 → KC[o]? = some (6, 6) → RC o 3 = some (o + 3) ∧ KC[o + 3]? = some (0, 16)) o hl h
theorem d_W_startWhen_17 : decode y_W_startWhen.2.1 17 = .ok (.getfield 16, 3) := op_getfield (gk (k := 0) (t := 17) ck_W_startWhen_0 rfl) (gk (k := 0) (t := 18) ck_W_startWhen_0 rfl) (gk (k := 0) (t := 19) ck_W_startWhen_0 rfl) rfl
theorem d_W_startWhen_20 : decode y_W_startWhen.2.1 20 = .ok (.aload_n 0, 1) := op_aload_n0 (gk (k := 0) (t := 20) ck_W_startWhen_0 rfl)
theorem d_W_startWhen_21 : decode y_W_startWhen.2.1 21 = .ok (.getfield 26, 3) := op_getfield (gk (k := 0) (t := 21) ck_W_startWhen_0 rfl) (gk (k := 0) (t := 22) ck_W_startWhen_0 rfl) (gk (k := 0) (t := 23) ck_W_startWhen_0 rfl) rfl
theorem d_W_startWhen_24 : decode y_W_startWhen.2.1 24 = .ok (.aload_n 0, 1) := op_aload_n0 (gk (k := 0) (t := 24) ck_W_startWhen_0 rfl)
theorem d_W_startWhen_25 : decode y_W_startWhen.2.1 25 = .ok (.getfield 22, 3) := op_getfield (gk (k := 0) (t := 25) ck_W_startWhen_0 rfl) (gk (k := 0) (t := 26) ck_W_startWhen_0 rfl) (gk (k := 0) (t := 27) ck_W_startWhen_0 rfl) rfl
theorem d_W_startWhen_28 : decode y_W_startWhen.2.1 28 = .ok (.iastore, 1) := op_iastore (gk (k := 0) (t := 28) ck_W_startWhen_0 rfl)
abbrev y_R_readLine : MI := (⟨"SinglesUp$Reader", "readLine", "()V"⟩, prog_9_method_16_code, 2, none)
theorem ck_R_readLine_0 : (y_R_readLine.2.1.data.toList.drop 0).take 32 = [42, 180, 0, 47, 153, 0, 8, 16, 11, 167, 0, 4, 3, 60, 42, 180, 0, 60, 27, 160, 0, 18, 42, 180, 0, 31, 182, 0, 116, 153, 0, 8] := by decide +kernel
theorem d_R_readLine_0 : decode y_R_readLine.2.1 0 = .ok (.aload_n 0, 1) := op_aload_n0 (gk (k := 0) (t := 0) ck_R_readLine_0 rfl)
theorem d_R_readLine_1 : decode y_R_readLine.2.1 1 = .ok (.getfield 47, 3) := op_getfield (gk (k := 0) (t := 1) ck_R_readLine_0 rfl) (gk (k := 0) (t := 2) ck_R_readLine_0 rfl) (gk (k := 0) (t := 3) ck_R_readLine_0 rfl) rfl
theorem d_R_readLine_13 : decode y_R_readLine.2.1 13 = .ok (.istore_n 1, 1) := op_istore_n1 (gk (k := 0) (t := 13) ck_R_readLine_0 rfl)
theorem d_R_readLine_14 : decode y_R_readLine.2.1 14 = .ok (.aload_n 0, 1) := op_aload_n0 (gk (k := 0) (t := 14) ck_R_readLine_0 rfl)
theorem d_R_readLine_15 : decode y_R_readLine.2.1 15 = .ok (.getfield 60, 3) := op_getfield (gk (k := 0) (t := 15) ck_R_readLine_0 rfl) (gk (k := 0) (t := 16) ck_R_readLine_0 rfl) (gk (k := 0) (t := 17) ck_R_readLine_0 rfl) rfl
theorem d_R_readLine_18 : decode y_R_readLine.2.1 18 = .ok (.iload_n 1, 1) := op_iload_n1 (gk (k := 0) (t := 18) ck_R_readLine_0 rfl)
theorem ck_R_readLine_1 : (y_R_readLine.2.1.data.toList.drop 32).take 32 = [42, 6, 182, 0, 112, 42, 27, 182, 0, 120, 42, 180, 0, 47, 153, 0, 10, 42, 182, 0, 123, 167, 0, 7, 42, 182, 0, 126, 42, 180, 0, 31] := by decide +kernel
theorem d_R_readLine_37 : decode y_R_readLine.2.1 37 = .ok (.aload_n 0, 1) := op_aload_n0 (gk (k := 32) (t := 5) ck_R_readLine_1 rfl)
theorem d_R_readLine_38 : decode y_R_readLine.2.1 38 = .ok (.iload_n 1, 1) := op_iload_n1 (gk (k := 32) (t := 6) ck_R_readLine_1 rfl)
theorem d_R_readLine_39 : decode y_R_readLine.2.1 39 = .ok (.invokevirtual 120, 3) := op_invokevirtual (gk (k := 32) (t := 7) ck_R_readLine_1 rfl) (gk (k := 32) (t := 8) ck_R_readLine_1 rfl) (gk (k := 32) (t := 9) ck_R_readLine_1 rfl) rfl
theorem d_R_readLine_42 : decode y_R_readLine.2.1 42 = .ok (.aload_n 0, 1) := op_aload_n0 (gk (k := 32) (t := 10) ck_R_readLine_1 rfl)
theorem d_R_readLine_43 : decode y_R_readLine.2.1 43 = .ok (.getfield 47, 3) := op_getfield (gk (k := 32) (t := 11) ck_R_readLine_1 rfl) (gk (k := 32) (t := 12) ck_R_readLine_1 rfl) (gk (k := 32) (t := 13) ck_R_readLine_1 rfl) rfl
theorem d_R_readLine_60 : decode y_R_readLine.2.1 60 = .ok (.aload_n 0, 1) := op_aload_n0 (gk (k := 32) (t := 28) ck_R_readLine_1 rfl)
theorem d_R_readLine_61 : decode y_R_readLine.2.1 61 = .ok (.getfield 31, 3) := op_getfield (gk (k := 32) (t := 29) ck_R_readLine_1 rfl) (gk (k := 32) (t := 30) ck_R_readLine_1 rfl) (gk (k := 32) (t := 31) ck_R_readLine_1 rfl) rfl
theorem lk_R_129 : LkV "SinglesUp$Reader" 129 y_W_startWhen := ⟨tw_c3 132 (by decide +kernel) rfl, tw_c3 133 (by decide +kernel) rfl, Or.inl (tw_c3 131 (by decide +kernel) rfl)⟩
set_option maxRecDepth 100000 in
theorem mo_W_startWhen : MOk y_W_startWhen 0 := ⟨by decide +kernel, tw_c3 134 rfl rfl, tw_c1 5 (by decide +kernel) rfl, by decide +kernel, by decide +kernel, by decide +kernel⟩
theorem ck_R_readLine_2 : (y_R_readLine.2.1.data.toList.drop 64).take 32 = [182, 0, 129, 42, 180, 0, 47, 154, 0, 11, 42, 180, 0, 60, 4, 160, 0, 13, 42, 4, 182, 0, 120, 42, 3, 182, 0, 132, 42, 16, 59, 182] := by decide +kernel
theorem d_R_readLine_64 : decode y_R_readLine.2.1 64 = .ok (.invokevirtual 129, 3) := op_invokevirtual (gk (k := 64) (t := 0) ck_R_readLine_2 rfl) (gk (k := 64) (t := 1) ck_R_readLine_2 rfl) (gk (k := 64) (t := 2) ck_R_readLine_2 rfl) rfl
theorem d_R_readLine_67 : decode y_R_readLine.2.1 67 = .ok (.aload_n 0, 1) := op_aload_n0 (gk (k := 64) (t := 3) ck_R_readLine_2 rfl)
theorem d_R_readLine_68 : decode y_R_readLine.2.1 68 = .ok (.getfield 47, 3) := op_getfield (gk (k := 64) (t := 4) ck_R_readLine_2 rfl) (gk (k := 64) (t := 5) ck_R_readLine_2 rfl) (gk (k := 64) (t := 6) ck_R_readLine_2 rfl) rfl
theorem d_R_readLine_92 : decode y_R_readLine.2.1 92 = .ok (.aload_n 0, 1) := op_aload_n0 (gk (k := 64) (t := 28) ck_R_readLine_2 rfl)
theorem cb_59 : (Int8.ofInt 59).toInt32 = iv 59 := by decide +kernel
theorem d_R_readLine_93 : decode y_R_readLine.2.1 93 = .ok (.bipush 59, 2) := op_bipush (gk (k := 64) (t := 29) ck_R_readLine_2 rfl) (gk (k := 64) (t := 30) ck_R_readLine_2 rfl) rfl
theorem in_59 : inr (59) := lit_in rfl
theorem ck_R_readLine_3 : (y_R_readLine.2.1.data.toList.drop 96).take 32 = [0, 120, 42, 180, 0, 31, 182, 0, 135, 177] := by decide +kernel
theorem d_R_readLine_95 : decode y_R_readLine.2.1 95 = .ok (.invokevirtual 120, 3) := op_invokevirtual (gk (k := 64) (t := 31) ck_R_readLine_2 rfl) (gk (k := 96) (t := 0) ck_R_readLine_3 rfl) (gk (k := 96) (t := 1) ck_R_readLine_3 rfl) rfl
theorem d_R_readLine_98 : decode y_R_readLine.2.1 98 = .ok (.aload_n 0, 1) := op_aload_n0 (gk (k := 96) (t := 2) ck_R_readLine_3 rfl)
theorem d_R_readLine_99 : decode y_R_readLine.2.1 99 = .ok (.getfield 31, 3) := op_getfield (gk (k := 96) (t := 3) ck_R_readLine_3 rfl) (gk (k := 96) (t := 4) ck_R_readLine_3 rfl) (gk (k := 96) (t := 5) ck_R_readLine_3 rfl) rfl
theorem lk_R_135 : LkV "SinglesUp$Reader" 135 y_W_closeLine := ⟨tw_c3 144 (by decide +kernel) rfl, tw_c3 145 (by decide +kernel) rfl, Or.inl (tw_c3 143 (by decide +kernel) rfl)⟩
set_option maxRecDepth 100000 in
theorem mo_W_closeLine : MOk y_W_closeLine 0 := ⟨by decide +kernel, tw_c3 146 rfl rfl, tw_c1 5 (by decide +kernel) rfl, by decide +kernel, by decide +kernel, by decide +kernel⟩
theorem d_R_readLine_102 : decode y_R_readLine.2.1 102 = .ok (.invokevirtual 135, 3) := op_invokevirtual (gk (k := 96) (t := 6) ck_R_readLine_3 rfl) (gk (k := 96) (t := 7) ck_R_readLine_3 rfl) (gk (k := 96) (t := 8) ck_R_readLine_3 rfl) rfl
theorem d_R_readLine_105 : decode y_R_readLine.2.1 105 = .ok (.return_, 1) := op_return_ (gk (k := 96) (t := 9) ck_R_readLine_3 rfl)
theorem d_R_readLine_82 : decode y_R_readLine.2.1 82 = .ok (.aload_n 0, 1) := op_aload_n0 (gk (k := 64) (t := 18) ck_R_readLine_2 rfl)
theorem d_R_readLine_83 : decode y_R_readLine.2.1 83 = .ok (.iconst 1, 1) := op_iconst1 (gk (k := 64) (t := 19) ck_R_readLine_2 rfl)
theorem d_R_readLine_84 : decode y_R_readLine.2.1 84 = .ok (.invokevirtual 120, 3) := op_invokevirtual (gk (k := 64) (t := 20) ck_R_readLine_2 rfl) (gk (k := 64) (t := 21) ck_R_readLine_2 rfl) (gk (k := 64) (t := 22) ck_R_readLine_2 rfl) rfl
theorem d_R_readLine_87 : decode y_R_readLine.2.1 87 = .ok (.aload_n 0, 1) := op_aload_n0 (gk (k := 64) (t := 23) ck_R_readLine_2 rfl)
theorem d_R_readLine_88 : decode y_R_readLine.2.1 88 = .ok (.iconst 0, 1) := op_iconst0 (gk (k := 64) (t := 24) ck_R_readLine_2 rfl)
theorem d_R_readLine_89 : decode y_R_readLine.2.1 89 = .ok (.invokevirtual 132, 3) := op_invokevirtual (gk (k := 64) (t := 25) ck_R_readLine_2 rfl) (gk (k := 64) (t := 26) ck_R_readLine_2 rfl) (gk (k := 64) (t := 27) ck_R_readLine_2 rfl) rfl
theorem d_R_readLine_71 : decode y_R_readLine.2.1 71 = .ok (.ifCond .ne 11, 3) := op_if_ne (gk (k := 64) (t := 7) ck_R_readLine_2 rfl) (gk (k := 64) (t := 8) ck_R_readLine_2 rfl) (gk (k := 64) (t := 9) ck_R_readLine_2 rfl) (by decide +kernel)
theorem d_R_readLine_74 : decode y_R_readLine.2.1 74 = .ok (.aload_n 0, 1) := op_aload_n0 (gk (k := 64) (t := 10) ck_R_readLine_2 rfl)
theorem d_R_readLine_75 : decode y_R_readLine.2.1 75 = .ok (.getfield 60, 3) := op_getfield (gk (k := 64) (t := 11) ck_R_readLine_2 rfl) (gk (k := 64) (t := 12) ck_R_readLine_2 rfl) (gk (k := 64) (t := 13) ck_R_readLine_2 rfl) rfl
theorem d_R_readLine_78 : decode y_R_readLine.2.1 78 = .ok (.iconst 1, 1) := op_iconst1 (gk (k := 64) (t := 14) ck_R_readLine_2 rfl)
theorem d_R_readLine_79 : decode y_R_readLine.2.1 79 = .ok (.if_icmp .ne 13, 3) := op_icmp_ne (gk (k := 64) (t := 15) ck_R_readLine_2 rfl) (gk (k := 64) (t := 16) ck_R_readLine_2 rfl) (gk (k := 64) (t := 17) ck_R_readLine_2 rfl) (by decide +kernel)
theorem d_R_readLine_46 : decode y_R_readLine.2.1 46 = .ok (.ifCond .eq 10, 3) := op_if_eq (gk (k := 32) (t := 14) ck_R_readLine_1 rfl) (gk (k := 32) (t := 15) ck_R_readLine_1 rfl) (gk (k := 32) (t := 16) ck_R_readLine_1 rfl) (by decide +kernel)
theorem d_R_readLine_56 : decode y_R_readLine.2.1 56 = .ok (.aload_n 0, 1) := op_aload_n0 (gk (k := 32) (t := 24) ck_R_readLine_1 rfl)
theorem d_R_readLine_57 : decode y_R_readLine.2.1 57 = .ok (.invokevirtual 126, 3) := op_invokevirtual (gk (k := 32) (t := 25) ck_R_readLine_1 rfl) (gk (k := 32) (t := 26) ck_R_readLine_1 rfl) (gk (k := 32) (t := 27) ck_R_readLine_1 rfl) rfl
theorem d_R_readLine_49 : decode y_R_readLine.2.1 49 = .ok (.aload_n 0, 1) := op_aload_n0 (gk (k := 32) (t := 17) ck_R_readLine_1 rfl)
theorem lk_R_123 : LkV "SinglesUp$Reader" 123 y_R_readTarget := ⟨tw_c3 113 (by decide +kernel) rfl, tw_in 10 (by decide +kernel) rfl, Or.inl (tw_c3 111 (by decide +kernel) rfl)⟩
set_option maxRecDepth 100000 in
theorem mo_R_readTarget : MOk y_R_readTarget 0 := ⟨by decide +kernel, tw_c3 114 rfl rfl, tw_c1 8 (by decide +kernel) rfl, by decide +kernel, by decide +kernel, by decide +kernel⟩
theorem d_R_readLine_50 : decode y_R_readLine.2.1 50 = .ok (.invokevirtual 123, 3) := op_invokevirtual (gk (k := 32) (t := 18) ck_R_readLine_1 rfl) (gk (k := 32) (t := 19) ck_R_readLine_1 rfl) (gk (k := 32) (t := 20) ck_R_readLine_1 rfl) rfl
theorem d_R_readLine_53 : decode y_R_readLine.2.1 53 = .ok (.goto 7, 3) := op_goto (gk (k := 32) (t := 21) ck_R_readLine_1 rfl) (gk (k := 32) (t := 22) ck_R_readLine_1 rfl) (gk (k := 32) (t := 23) ck_R_readLine_1 rfl) (by decide +kernel)
theorem d_R_readLine_19 : decode y_R_readLine.2.1 19 = .ok (.if_icmp .ne 18, 3) := op_icmp_ne (gk (k := 0) (t := 19) ck_R_readLine_0 rfl) (gk (k := 0) (t := 20) ck_R_readLine_0 rfl) (gk (k := 0) (t := 21) ck_R_readLine_0 rfl) (by decide +kernel)
theorem d_R_readLine_22 : decode y_R_readLine.2.1 22 = .ok (.aload_n 0, 1) := op_aload_n0 (gk (k := 0) (t := 22) ck_R_readLine_0 rfl)
theorem d_R_readLine_23 : decode y_R_readLine.2.1 23 = .ok (.getfield 31, 3) := op_getfield (gk (k := 0) (t := 23) ck_R_readLine_0 rfl) (gk (k := 0) (t := 24) ck_R_readLine_0 rfl) (gk (k := 0) (t := 25) ck_R_readLine_0 rfl) rfl
theorem lk_R_116 : LkV "SinglesUp$Reader" 116 y_W_isFull := ⟨tw_c3 100 (by decide +kernel) rfl, tw_c3 101 (by decide +kernel) rfl, Or.inl (tw_c3 99 (by decide +kernel) rfl)⟩
set_option maxRecDepth 100000 in
theorem mo_W_isFull : MOk y_W_isFull 0 := ⟨by decide +kernel, tw_c3 102 rfl rfl, tw_c1 5 (by decide +kernel) rfl, by decide +kernel, by decide +kernel, by decide +kernel⟩
theorem d_R_readLine_26 : decode y_R_readLine.2.1 26 = .ok (.invokevirtual 116, 3) := op_invokevirtual (gk (k := 0) (t := 26) ck_R_readLine_0 rfl) (gk (k := 0) (t := 27) ck_R_readLine_0 rfl) (gk (k := 0) (t := 28) ck_R_readLine_0 rfl) rfl
theorem d_R_readLine_29 : decode y_R_readLine.2.1 29 = .ok (.ifCond .eq 8, 3) := op_if_eq (gk (k := 0) (t := 29) ck_R_readLine_0 rfl) (gk (k := 0) (t := 30) ck_R_readLine_0 rfl) (gk (k := 0) (t := 31) ck_R_readLine_0 rfl) (by decide +kernel)
theorem d_R_readLine_32 : decode y_R_readLine.2.1 32 = .ok (.aload_n 0, 1) := op_aload_n0 (gk (k := 32) (t := 0) ck_R_readLine_1 rfl)
theorem d_R_readLine_33 : decode y_R_readLine.2.1 33 = .ok (.iconst 3, 1) := op_iconst3 (gk (k := 32) (t := 1) ck_R_readLine_1 rfl)
theorem d_R_readLine_34 : decode y_R_readLine.2.1 34 = .ok (.invokevirtual 112, 3) := op_invokevirtual (gk (k := 32) (t := 2) ck_R_readLine_1 rfl) (gk (k := 32) (t := 3) ck_R_readLine_1 rfl) (gk (k := 32) (t := 4) ck_R_readLine_1 rfl) rfl
theorem d_R_readLine_4 : decode y_R_readLine.2.1 4 = .ok (.ifCond .eq 8, 3) := op_if_eq (gk (k := 0) (t := 4) ck_R_readLine_0 rfl) (gk (k := 0) (t := 5) ck_R_readLine_0 rfl) (gk (k := 0) (t := 6) ck_R_readLine_0 rfl) (by decide +kernel)
theorem d_R_readLine_12 : decode y_R_readLine.2.1 12 = .ok (.iconst 0, 1) := op_iconst0 (gk (k := 0) (t := 12) ck_R_readLine_0 rfl)
theorem cb_11 : (Int8.ofInt 11).toInt32 = iv 11 := by decide +kernel
theorem d_R_readLine_7 : decode y_R_readLine.2.1 7 = .ok (.bipush 11, 2) := op_bipush (gk (k := 0) (t := 7) ck_R_readLine_0 rfl) (gk (k := 0) (t := 8) ck_R_readLine_0 rfl) rfl
theorem d_R_readLine_9 : decode y_R_readLine.2.1 9 = .ok (.goto 4, 3) := op_goto (gk (k := 0) (t := 9) ck_R_readLine_0 rfl) (gk (k := 0) (t := 10) ck_R_readLine_0 rfl) (gk (k := 0) (t := 11) ck_R_readLine_0 rfl) (by decide +kernel)
theorem in_11 : inr (11) := lit_in rfl
abbrev y_R_addToken : MI := (⟨"SinglesUp$Reader", "addToken", "(III)V"⟩, prog_9_method_10_code, 4, none)
theorem ck_R_addToken_0 : (y_R_addToken.2.1.data.toList.drop 0).take 32 = [42, 180, 0, 66, 155, 0, 53, 42, 180, 0, 66, 17, 1, 144, 163, 0, 43, 42, 180, 0, 15, 42, 180, 0, 66, 27, 79, 42, 180, 0, 18, 42] := by decide +kernel
theorem d_R_addToken_0 : decode y_R_addToken.2.1 0 = .ok (.aload_n 0, 1) := op_aload_n0 (gk (k := 0) (t := 0) ck_R_addToken_0 rfl)
theorem d_R_addToken_1 : decode y_R_addToken.2.1 1 = .ok (.getfield 66, 3) := op_getfield (gk (k := 0) (t := 1) ck_R_addToken_0 rfl) (gk (k := 0) (t := 2) ck_R_addToken_0 rfl) (gk (k := 0) (t := 3) ck_R_addToken_0 rfl) rfl
theorem d_R_addToken_4 : decode y_R_addToken.2.1 4 = .ok (.ifCond .lt 53, 3) := op_if_lt (gk (k := 0) (t := 4) ck_R_addToken_0 rfl) (gk (k := 0) (t := 5) ck_R_addToken_0 rfl) (gk (k := 0) (t := 6) ck_R_addToken_0 rfl) (by decide +kernel)
theorem ck_R_addToken_1 : (y_R_addToken.2.1.data.toList.drop 32).take 32 = [180, 0, 66, 28, 79, 42, 180, 0, 21, 42, 180, 0, 66, 29, 79, 42, 89, 180, 0, 66, 4, 96, 181, 0, 66, 177] := by decide +kernel
theorem d_R_addToken_57 : decode y_R_addToken.2.1 57 = .ok (.return_, 1) := op_return_ (gk (k := 32) (t := 25) ck_R_addToken_1 rfl)
theorem d_R_addToken_7 : decode y_R_addToken.2.1 7 = .ok (.aload_n 0, 1) := op_aload_n0 (gk (k := 0) (t := 7) ck_R_addToken_0 rfl)
theorem d_R_addToken_8 : decode y_R_addToken.2.1 8 = .ok (.getfield 66, 3) := op_getfield (gk (k := 0) (t := 8) ck_R_addToken_0 rfl) (gk (k := 0) (t := 9) ck_R_addToken_0 rfl) (gk (k := 0) (t := 10) ck_R_addToken_0 rfl) rfl
theorem d_R_addToken_11 : decode y_R_addToken.2.1 11 = .ok (.sipush 400, 3) := op_sipush (gk (k := 0) (t := 11) ck_R_addToken_0 rfl) (gk (k := 0) (t := 12) ck_R_addToken_0 rfl) (gk (k := 0) (t := 13) ck_R_addToken_0 rfl) (by decide +kernel)
theorem d_R_addToken_14 : decode y_R_addToken.2.1 14 = .ok (.if_icmp .gt 43, 3) := op_icmp_gt (gk (k := 0) (t := 14) ck_R_addToken_0 rfl) (gk (k := 0) (t := 15) ck_R_addToken_0 rfl) (gk (k := 0) (t := 16) ck_R_addToken_0 rfl) (by decide +kernel)
theorem d_R_addToken_17 : decode y_R_addToken.2.1 17 = .ok (.aload_n 0, 1) := op_aload_n0 (gk (k := 0) (t := 17) ck_R_addToken_0 rfl)
theorem d_R_addToken_18 : decode y_R_addToken.2.1 18 = .ok (.getfield 15, 3) := op_getfield (gk (k := 0) (t := 18) ck_R_addToken_0 rfl) (gk (k := 0) (t := 19) ck_R_addToken_0 rfl) (gk (k := 0) (t := 20) ck_R_addToken_0 rfl) rfl
theorem d_R_addToken_21 : decode y_R_addToken.2.1 21 = .ok (.aload_n 0, 1) := op_aload_n0 (gk (k := 0) (t := 21) ck_R_addToken_0 rfl)
theorem d_R_addToken_22 : decode y_R_addToken.2.1 22 = .ok (.getfield 66, 3) := op_getfield (gk (k := 0) (t := 22) ck_R_addToken_0 rfl) (gk (k := 0) (t := 23) ck_R_addToken_0 rfl) (gk (k := 0) (t := 24) ck_R_addToken_0 rfl) rfl
theorem d_R_addToken_25 : decode y_R_addToken.2.1 25 = .ok (.iload_n 1, 1) := op_iload_n1 (gk (k := 0) (t := 25) ck_R_addToken_0 rfl)
theorem d_R_addToken_26 : decode y_R_addToken.2.1 26 = .ok (.iastore, 1) := op_iastore (gk (k := 0) (t := 26) ck_R_addToken_0 rfl)
theorem d_R_addToken_27 : decode y_R_addToken.2.1 27 = .ok (.aload_n 0, 1) := op_aload_n0 (gk (k := 0) (t := 27) ck_R_addToken_0 rfl)
theorem d_R_addToken_28 : decode y_R_addToken.2.1 28 = .ok (.getfield 18, 3) := op_getfield (gk (k := 0) (t := 28) ck_R_addToken_0 rfl) (gk (k := 0) (t := 29) ck_R_addToken_0 rfl) (gk (k := 0) (t := 30) ck_R_addToken_0 rfl) rfl
theorem d_R_addToken_31 : decode y_R_addToken.2.1 31 = .ok (.aload_n 0, 1) := op_aload_n0 (gk (k := 0) (t := 31) ck_R_addToken_0 rfl)
theorem d_R_addToken_32 : decode y_R_addToken.2.1 32 = .ok (.getfield 66, 3) := op_getfield (gk (k := 32) (t := 0) ck_R_addToken_1 rfl) (gk (k := 32) (t := 1) ck_R_addToken_1 rfl) (gk (k := 32) (t := 2) ck_R_addToken_1 rfl) rfl
theorem d_R_addToken_35 : decode y_R_addToken.2.1 35 = .ok (.iload_n 2, 1) := op_iload_n2 (gk (k := 32) (t := 3) ck_R_addToken_1 rfl)
theorem d_R_addToken_36 : decode y_R_addToken.2.1 36 = .ok (.iastore, 1) := op_iastore (gk (k := 32) (t := 4) ck_R_addToken_1 rfl)
theorem d_R_addToken_37 : decode y_R_addToken.2.1 37 = .ok (.aload_n 0, 1) := op_aload_n0 (gk (k := 32) (t := 5) ck_R_addToken_1 rfl)
theorem d_R_addToken_38 : decode y_R_addToken.2.1 38 = .ok (.getfield 21, 3) := op_getfield (gk (k := 32) (t := 6) ck_R_addToken_1 rfl) (gk (k := 32) (t := 7) ck_R_addToken_1 rfl) (gk (k := 32) (t := 8) ck_R_addToken_1 rfl) rfl
theorem d_R_addToken_41 : decode y_R_addToken.2.1 41 = .ok (.aload_n 0, 1) := op_aload_n0 (gk (k := 32) (t := 9) ck_R_addToken_1 rfl)
theorem d_R_addToken_42 : decode y_R_addToken.2.1 42 = .ok (.getfield 66, 3) := op_getfield (gk (k := 32) (t := 10) ck_R_addToken_1 rfl) (gk (k := 32) (t := 11) ck_R_addToken_1 rfl) (gk (k := 32) (t := 12) ck_R_addToken_1 rfl) rfl
theorem d_R_addToken_45 : decode y_R_addToken.2.1 45 = .ok (.iload_n 3, 1) := op_iload_n3 (gk (k := 32) (t := 13) ck_R_addToken_1 rfl)
theorem d_R_addToken_46 : decode y_R_addToken.2.1 46 = .ok (.iastore, 1) := op_iastore (gk (k := 32) (t := 14) ck_R_addToken_1 rfl)
theorem d_R_addToken_47 : decode y_R_addToken.2.1 47 = .ok (.aload_n 0, 1) := op_aload_n0 (gk (k := 32) (t := 15) ck_R_addToken_1 rfl)
theorem d_R_addToken_48 : decode y_R_addToken.2.1 48 = .ok (.dup, 1) := op_dup (gk (k := 32) (t := 16) ck_R_addToken_1 rfl)
theorem d_R_addToken_49 : decode y_R_addToken.2.1 49 = .ok (.getfield 66, 3) := op_getfield (gk (k := 32) (t := 17) ck_R_addToken_1 rfl) (gk (k := 32) (t := 18) ck_R_addToken_1 rfl) (gk (k := 32) (t := 19) ck_R_addToken_1 rfl) rfl
theorem d_R_addToken_52 : decode y_R_addToken.2.1 52 = .ok (.iconst 1, 1) := op_iconst1 (gk (k := 32) (t := 20) ck_R_addToken_1 rfl)
theorem d_R_addToken_53 : decode y_R_addToken.2.1 53 = .ok (.iadd, 1) := op_iadd (gk (k := 32) (t := 21) ck_R_addToken_1 rfl)
theorem d_R_addToken_54 : decode y_R_addToken.2.1 54 = .ok (.putfield 66, 3) := op_putfield (gk (k := 32) (t := 22) ck_R_addToken_1 rfl) (gk (k := 32) (t := 23) ck_R_addToken_1 rfl) (gk (k := 32) (t := 24) ck_R_addToken_1 rfl) rfl
abbrev y_R_isDigit : MI := (⟨"SinglesUp$Reader", "isDigit", "(I)Z"⟩, prog_9_method_9_code, 1, some .boolean)
theorem ck_R_isDigit_0 : (y_R_isDigit.2.1.data.toList.drop 0).take 32 = [26, 16, 48, 161, 0, 13, 26, 16, 57, 163, 0, 7, 4, 167, 0, 4, 3, 172] := by decide +kernel
theorem d_R_isDigit_0 : decode y_R_isDigit.2.1 0 = .ok (.iload_n 0, 1) := op_iload_n0 (gk (k := 0) (t := 0) ck_R_isDigit_0 rfl)
theorem cb_48 : (Int8.ofInt 48).toInt32 = iv 48 := by decide +kernel
theorem d_R_isDigit_1 : decode y_R_isDigit.2.1 1 = .ok (.bipush 48, 2) := op_bipush (gk (k := 0) (t := 1) ck_R_isDigit_0 rfl) (gk (k := 0) (t := 2) ck_R_isDigit_0 rfl) rfl
theorem in_48 : inr (48) := lit_in rfl
theorem d_R_isDigit_3 : decode y_R_isDigit.2.1 3 = .ok (.if_icmp .lt 13, 3) := op_icmp_lt (gk (k := 0) (t := 3) ck_R_isDigit_0 rfl) (gk (k := 0) (t := 4) ck_R_isDigit_0 rfl) (gk (k := 0) (t := 5) ck_R_isDigit_0 rfl) (by decide +kernel)
theorem d_R_isDigit_16 : decode y_R_isDigit.2.1 16 = .ok (.iconst 0, 1) := op_iconst0 (gk (k := 0) (t := 16) ck_R_isDigit_0 rfl)
theorem d_R_isDigit_17 : decode y_R_isDigit.2.1 17 = .ok (.ireturn, 1) := op_ireturn (gk (k := 0) (t := 17) ck_R_isDigit_0 rfl)
theorem d_R_isDigit_6 : decode y_R_isDigit.2.1 6 = .ok (.iload_n 0, 1) := op_iload_n0 (gk (k := 0) (t := 6) ck_R_isDigit_0 rfl)
theorem cb_57 : (Int8.ofInt 57).toInt32 = iv 57 := by decide +kernel
theorem d_R_isDigit_7 : decode y_R_isDigit.2.1 7 = .ok (.bipush 57, 2) := op_bipush (gk (k := 0) (t := 7) ck_R_isDigit_0 rfl) (gk (k := 0) (t := 8) ck_R_isDigit_0 rfl) rfl
theorem in_57 : inr (57) := lit_in rfl
theorem d_R_isDigit_9 : decode y_R_isDigit.2.1 9 = .ok (.if_icmp .gt 7, 3) := op_icmp_gt (gk (k := 0) (t := 9) ck_R_isDigit_0 rfl) (gk (k := 0) (t := 10) ck_R_isDigit_0 rfl) (gk (k := 0) (t := 11) ck_R_isDigit_0 rfl) (by decide +kernel)
theorem d_R_isDigit_12 : decode y_R_isDigit.2.1 12 = .ok (.iconst 1, 1) := op_iconst1 (gk (k := 0) (t := 12) ck_R_isDigit_0 rfl)
theorem d_R_isDigit_13 : decode y_R_isDigit.2.1 13 = .ok (.goto 4, 3) := op_goto (gk (k := 0) (t := 13) ck_R_isDigit_0 rfl) (gk (k := 0) (t := 14) ck_R_isDigit_0 rfl) (gk (k := 0) (t := 15) ck_R_isDigit_0 rfl) (by decide +kernel)
abbrev y_R_isLetter : MI := (⟨"SinglesUp$Reader", "isLetter", "(I)Z"⟩, prog_9_method_8_code, 1, some .boolean)
theorem ck_R_isLetter_0 : (y_R_isLetter.2.1.data.toList.drop 0).take 32 = [26, 16, 97, 161, 0, 9, 26, 16, 122, 164, 0, 15, 26, 16, 65, 161, 0, 13, 26, 16, 90, 163, 0, 7, 4, 167, 0, 4, 3, 172] := by decide +kernel
theorem d_R_isLetter_0 : decode y_R_isLetter.2.1 0 = .ok (.iload_n 0, 1) := op_iload_n0 (gk (k := 0) (t := 0) ck_R_isLetter_0 rfl)
theorem cb_97 : (Int8.ofInt 97).toInt32 = iv 97 := by decide +kernel
theorem d_R_isLetter_1 : decode y_R_isLetter.2.1 1 = .ok (.bipush 97, 2) := op_bipush (gk (k := 0) (t := 1) ck_R_isLetter_0 rfl) (gk (k := 0) (t := 2) ck_R_isLetter_0 rfl) rfl
theorem d_R_isLetter_12 : decode y_R_isLetter.2.1 12 = .ok (.iload_n 0, 1) := op_iload_n0 (gk (k := 0) (t := 12) ck_R_isLetter_0 rfl)
theorem cb_65 : (Int8.ofInt 65).toInt32 = iv 65 := by decide +kernel
theorem d_R_isLetter_13 : decode y_R_isLetter.2.1 13 = .ok (.bipush 65, 2) := op_bipush (gk (k := 0) (t := 13) ck_R_isLetter_0 rfl) (gk (k := 0) (t := 14) ck_R_isLetter_0 rfl) rfl
theorem in_65 : inr (65) := lit_in rfl
theorem d_R_isLetter_15 : decode y_R_isLetter.2.1 15 = .ok (.if_icmp .lt 13, 3) := op_icmp_lt (gk (k := 0) (t := 15) ck_R_isLetter_0 rfl) (gk (k := 0) (t := 16) ck_R_isLetter_0 rfl) (gk (k := 0) (t := 17) ck_R_isLetter_0 rfl) (by decide +kernel)
theorem d_R_isLetter_28 : decode y_R_isLetter.2.1 28 = .ok (.iconst 0, 1) := op_iconst0 (gk (k := 0) (t := 28) ck_R_isLetter_0 rfl)
theorem d_R_isLetter_29 : decode y_R_isLetter.2.1 29 = .ok (.ireturn, 1) := op_ireturn (gk (k := 0) (t := 29) ck_R_isLetter_0 rfl)
theorem d_R_isLetter_18 : decode y_R_isLetter.2.1 18 = .ok (.iload_n 0, 1) := op_iload_n0 (gk (k := 0) (t := 18) ck_R_isLetter_0 rfl)
theorem cb_90 : (Int8.ofInt 90).toInt32 = iv 90 := by decide +kernel
theorem d_R_isLetter_19 : decode y_R_isLetter.2.1 19 = .ok (.bipush 90, 2) := op_bipush (gk (k := 0) (t := 19) ck_R_isLetter_0 rfl) (gk (k := 0) (t := 20) ck_R_isLetter_0 rfl) rfl
theorem in_90 : inr (90) := lit_in rfl
theorem d_R_isLetter_21 : decode y_R_isLetter.2.1 21 = .ok (.if_icmp .gt 7, 3) := op_icmp_gt (gk (k := 0) (t := 21) ck_R_isLetter_0 rfl) (gk (k := 0) (t := 22) ck_R_isLetter_0 rfl) (gk (k := 0) (t := 23) ck_R_isLetter_0 rfl) (by decide +kernel)
theorem d_R_isLetter_24 : decode y_R_isLetter.2.1 24 = .ok (.iconst 1, 1) := op_iconst1 (gk (k := 0) (t := 24) ck_R_isLetter_0 rfl)
theorem d_R_isLetter_25 : decode y_R_isLetter.2.1 25 = .ok (.goto 4, 3) := op_goto (gk (k := 0) (t := 25) ck_R_isLetter_0 rfl) (gk (k := 0) (t := 26) ck_R_isLetter_0 rfl) (gk (k := 0) (t := 27) ck_R_isLetter_0 rfl) (by decide +kernel)
theorem in_97 : inr (97) := lit_in rfl
theorem d_R_isLetter_3 : decode y_R_isLetter.2.1 3 = .ok (.if_icmp .lt 9, 3) := op_icmp_lt (gk (k := 0) (t := 3) ck_R_isLetter_0 rfl) (gk (k := 0) (t := 4) ck_R_isLetter_0 rfl) (gk (k := 0) (t := 5) ck_R_isLetter_0 rfl) (by decide +kernel)
theorem d_R_isLetter_6 : decode y_R_isLetter.2.1 6 = .ok (.iload_n 0, 1) := op_iload_n0 (gk (k := 0) (t := 6) ck_R_isLetter_0 rfl)
theorem cb_122 : (Int8.ofInt 122).toInt32 = iv 122 := by decide +kernel
theorem d_R_isLetter_7 : decode y_R_isLetter.2.1 7 = .ok (.bipush 122, 2) := op_bipush (gk (k := 0) (t := 7) ck_R_isLetter_0 rfl) (gk (k := 0) (t := 8) ck_R_isLetter_0 rfl) rfl
theorem in_122 : inr (122) := lit_in rfl
theorem d_R_isLetter_9 : decode y_R_isLetter.2.1 9 = .ok (.if_icmp .le 15, 3) := op_icmp_le (gk (k := 0) (t := 9) ck_R_isLetter_0 rfl) (gk (k := 0) (t := 10) ck_R_isLetter_0 rfl) (gk (k := 0) (t := 11) ck_R_isLetter_0 rfl) (by decide +kernel)
abbrev y_R_numberAt : MI := (⟨"SinglesUp$Reader", "numberAt", "(II)I"⟩, prog_9_method_12_code, 5, some .int)
theorem ck_R_numberAt_0 : (y_R_numberAt.2.1.data.toList.drop 0).take 32 = [3, 62, 27, 3, 184, 0, 104, 54, 4, 21, 4, 28, 162, 0, 33, 21, 4, 17, 1, 144, 162, 0, 25, 16, 10, 29, 104, 42, 180, 0, 11, 21] := by decide +kernel
theorem d_R_numberAt_0 : decode y_R_numberAt.2.1 0 = .ok (.iconst 0, 1) := op_iconst0 (gk (k := 0) (t := 0) ck_R_numberAt_0 rfl)
theorem d_R_numberAt_1 : decode y_R_numberAt.2.1 1 = .ok (.istore_n 3, 1) := op_istore_n3 (gk (k := 0) (t := 1) ck_R_numberAt_0 rfl)
theorem d_R_numberAt_2 : decode y_R_numberAt.2.1 2 = .ok (.iload_n 1, 1) := op_iload_n1 (gk (k := 0) (t := 2) ck_R_numberAt_0 rfl)
theorem d_R_numberAt_3 : decode y_R_numberAt.2.1 3 = .ok (.iconst 0, 1) := op_iconst0 (gk (k := 0) (t := 3) ck_R_numberAt_0 rfl)
theorem lk_R_104 : LkS "SinglesUp$Reader" 104 y_JM_max := ⟨tw_c3 26 (by decide +kernel) rfl, Or.inl (tw_c3 25 (by decide +kernel) rfl)⟩
theorem d_R_numberAt_4 : decode y_R_numberAt.2.1 4 = .ok (.invokestatic 104, 3) := op_invokestatic (gk (k := 0) (t := 4) ck_R_numberAt_0 rfl) (gk (k := 0) (t := 5) ck_R_numberAt_0 rfl) (gk (k := 0) (t := 6) ck_R_numberAt_0 rfl) rfl
theorem d_R_numberAt_7 : decode y_R_numberAt.2.1 7 = .ok (.istore 4, 2) := op_istore (gk (k := 0) (t := 7) ck_R_numberAt_0 rfl) (gk (k := 0) (t := 8) ck_R_numberAt_0 rfl) rfl
theorem d_R_numberAt_9 : decode y_R_numberAt.2.1 9 = .ok (.iload 4, 2) := op_iload (gk (k := 0) (t := 9) ck_R_numberAt_0 rfl) (gk (k := 0) (t := 10) ck_R_numberAt_0 rfl) rfl
theorem d_R_numberAt_11 : decode y_R_numberAt.2.1 11 = .ok (.iload_n 2, 1) := op_iload_n2 (gk (k := 0) (t := 11) ck_R_numberAt_0 rfl)
theorem d_R_numberAt_12 : decode y_R_numberAt.2.1 12 = .ok (.if_icmp .ge 33, 3) := op_icmp_ge (gk (k := 0) (t := 12) ck_R_numberAt_0 rfl) (gk (k := 0) (t := 13) ck_R_numberAt_0 rfl) (gk (k := 0) (t := 14) ck_R_numberAt_0 rfl) (by decide +kernel)
theorem ck_R_numberAt_1 : (y_R_numberAt.2.1.data.toList.drop 32).take 32 = [4, 46, 96, 16, 48, 100, 62, 132, 4, 1, 167, 255, 223, 29, 172] := by decide +kernel
theorem d_R_numberAt_45 : decode y_R_numberAt.2.1 45 = .ok (.iload_n 3, 1) := op_iload_n3 (gk (k := 32) (t := 13) ck_R_numberAt_1 rfl)
theorem d_R_numberAt_46 : decode y_R_numberAt.2.1 46 = .ok (.ireturn, 1) := op_ireturn (gk (k := 32) (t := 14) ck_R_numberAt_1 rfl)
theorem d_R_numberAt_15 : decode y_R_numberAt.2.1 15 = .ok (.iload 4, 2) := op_iload (gk (k := 0) (t := 15) ck_R_numberAt_0 rfl) (gk (k := 0) (t := 16) ck_R_numberAt_0 rfl) rfl
theorem d_R_numberAt_17 : decode y_R_numberAt.2.1 17 = .ok (.sipush 400, 3) := op_sipush (gk (k := 0) (t := 17) ck_R_numberAt_0 rfl) (gk (k := 0) (t := 18) ck_R_numberAt_0 rfl) (gk (k := 0) (t := 19) ck_R_numberAt_0 rfl) (by decide +kernel)
theorem d_R_numberAt_20 : decode y_R_numberAt.2.1 20 = .ok (.if_icmp .ge 25, 3) := op_icmp_ge (gk (k := 0) (t := 20) ck_R_numberAt_0 rfl) (gk (k := 0) (t := 21) ck_R_numberAt_0 rfl) (gk (k := 0) (t := 22) ck_R_numberAt_0 rfl) (by decide +kernel)
theorem cb_10 : (Int8.ofInt 10).toInt32 = iv 10 := by decide +kernel
theorem d_R_numberAt_23 : decode y_R_numberAt.2.1 23 = .ok (.bipush 10, 2) := op_bipush (gk (k := 0) (t := 23) ck_R_numberAt_0 rfl) (gk (k := 0) (t := 24) ck_R_numberAt_0 rfl) rfl
theorem d_R_numberAt_25 : decode y_R_numberAt.2.1 25 = .ok (.iload_n 3, 1) := op_iload_n3 (gk (k := 0) (t := 25) ck_R_numberAt_0 rfl)
theorem d_R_numberAt_26 : decode y_R_numberAt.2.1 26 = .ok (.imul, 1) := op_imul (gk (k := 0) (t := 26) ck_R_numberAt_0 rfl)
theorem d_R_numberAt_27 : decode y_R_numberAt.2.1 27 = .ok (.aload_n 0, 1) := op_aload_n0 (gk (k := 0) (t := 27) ck_R_numberAt_0 rfl)
theorem d_R_numberAt_28 : decode y_R_numberAt.2.1 28 = .ok (.getfield 11, 3) := op_getfield (gk (k := 0) (t := 28) ck_R_numberAt_0 rfl) (gk (k := 0) (t := 29) ck_R_numberAt_0 rfl) (gk (k := 0) (t := 30) ck_R_numberAt_0 rfl) rfl
theorem d_R_numberAt_31 : decode y_R_numberAt.2.1 31 = .ok (.iload 4, 2) := op_iload (gk (k := 0) (t := 31) ck_R_numberAt_0 rfl) (gk (k := 32) (t := 0) ck_R_numberAt_1 rfl) rfl
theorem d_R_numberAt_33 : decode y_R_numberAt.2.1 33 = .ok (.iaload, 1) := op_iaload (gk (k := 32) (t := 1) ck_R_numberAt_1 rfl)
theorem d_R_numberAt_34 : decode y_R_numberAt.2.1 34 = .ok (.iadd, 1) := op_iadd (gk (k := 32) (t := 2) ck_R_numberAt_1 rfl)
theorem d_R_numberAt_35 : decode y_R_numberAt.2.1 35 = .ok (.bipush 48, 2) := op_bipush (gk (k := 32) (t := 3) ck_R_numberAt_1 rfl) (gk (k := 32) (t := 4) ck_R_numberAt_1 rfl) rfl
theorem d_R_numberAt_37 : decode y_R_numberAt.2.1 37 = .ok (.isub, 1) := op_isub (gk (k := 32) (t := 5) ck_R_numberAt_1 rfl)
theorem d_R_numberAt_38 : decode y_R_numberAt.2.1 38 = .ok (.istore_n 3, 1) := op_istore_n3 (gk (k := 32) (t := 6) ck_R_numberAt_1 rfl)
theorem d_R_numberAt_39 : decode y_R_numberAt.2.1 39 = .ok (.iinc 4 1, 3) := op_iinc (gk (k := 32) (t := 7) ck_R_numberAt_1 rfl) (gk (k := 32) (t := 8) ck_R_numberAt_1 rfl) (gk (k := 32) (t := 9) ck_R_numberAt_1 rfl) rfl rfl
theorem d_R_numberAt_42 : decode y_R_numberAt.2.1 42 = .ok (.goto (-33), 3) := op_goto (gk (k := 32) (t := 10) ck_R_numberAt_1 rfl) (gk (k := 32) (t := 11) ck_R_numberAt_1 rfl) (gk (k := 32) (t := 12) ck_R_numberAt_1 rfl) (by decide +kernel)
def f_S_state (fu : Nat) (o0 : Nat) (a1 : Int) (I0 : IMem) : Res :=
  zl (I0 (o0 + 1) 6) fun x1 =>
    zw I0 (o0 + 1) 6 a1 fun I2 =>
    zr x1 I2
def f_C_clear (fu : Nat) (o0 : Nat) (a1 : Int) (I0 : IMem) : Res :=
  zb (f_JA_fill fu (o0 + 1) 240 0 I0) fun _ I2 =>
    zw I2 o0 7 a1 fun I4 =>
    zw I4 o0 8 0 fun I5 =>
    zw I5 o0 9 0 fun I6 =>
    zw I6 o0 10 0 fun I7 =>
    zw I7 o0 11 0 fun I8 =>
    zr 0 I8
def f_S_canTell (fu : Nat) (a0 : Int) (a1 : Int) (I0 : IMem) : Res :=
  if a0 < 0 then (
      zr 0 I0)
    else (
      if 5 < a0 then (
        zr 0 I0)
      else (
        zg (0 ≤ a0 ∧ a0 < 6) (
        if a1 < leastZ a0.toNat then (
          zr 0 I0)
        else (
          zg (0 ≤ a0 ∧ a0 < 6) (
          if mostZ a0.toNat < a1 then (
            zr 0 I0)
          else (
            zr 1 I0))))))
def f_S_set (fu : Nat) (o0 : Nat) (a1 : Int) (a2 : Int) (I0 : IMem) : Res :=
  zb (f_S_canTell fu a1 a2 I0) fun y1 I2 =>
    if y1 = 0 then (
      zr 0 I2)
    else (
      zg (0 ≤ a1 ∧ a1 < 6) (zw I2 (o0 + 2) a1.toNat a2 fun I4 =>
      if a1 = 0 then (
        zb (f_C_clear fu (o0 + 137) a2 I4) fun _ I6 =>
        zr 1 I6)
      else (
        zr 1 I4)))
def f_S_isLine (fu : Nat) (a0 : Int) (I0 : IMem) : Res :=
  if a0 < 0 then (
      zr 0 I0)
    else (
      if a0 < 6 then (
        zr 1 I0)
      else (
        zr 0 I0))
def f_S_seen (fu : Nat) (o0 : Nat) (a1 : Int) (a2 : Int) (I0 : IMem) : Res :=
  zb (f_S_isLine fu a1 I0) fun y1 I2 =>
    if y1 = 0 then (
      zr 0 I2)
    else (
      if a2 < 1 then (
        zr 0 I2)
      else (
        if 24 < a2 then (
          zr 0 I2)
        else (
          zg (0 ≤ a1 ∧ a1 < 6) (zw I2 (o0 + 10) a1.toNat a2 fun I4 =>
          zr 1 I4))))
def f_S_parts (fu : Nat) (o0 : Nat) (a1 : Int) (a2 : Int) (I0 : IMem) : Res :=
  if a1 < 2 then (
      zr 0 I0)
    else (
      if 8 < a1 then (
        zr 0 I0)
      else (
        if a2 < 0 then (
          zr 0 I0)
        else (
          if a2 < a1 then (
            zg (0 ≤ a1 ∧ a1 < 9) (zw I0 (o0 + 4) a1.toNat a2 fun I1 =>
            zr 1 I1))
          else (
            zr 0 I0))))
def f_H_tellComer (fu : Nat) (o0 : Nat) (a1 : Int) (a2 : Int) (a3 : Int) (a4 : Int) (a5 : Int) (I0 : IMem) : Res :=
  if a1 < 0 then (
      zr 0 I0)
    else (
      if a1 < 8 then (
        zl (wr32 (4 * a1)) fun x2 =>
        zg (0 ≤ x2 ∧ x2 < 32) (zw I0 (o0 + 4) x2.toNat a2 fun I1 =>
        zl (wr32 ((wr32 (4 * a1)) + 1)) fun x4 =>
        zg (0 ≤ x4 ∧ x4 < 32) (zw I1 (o0 + 4) x4.toNat a3 fun I3 =>
        zl (wr32 ((wr32 (4 * a1)) + 2)) fun x6 =>
        zg (0 ≤ x6 ∧ x6 < 32) (zw I3 (o0 + 4) x6.toNat a4 fun I5 =>
        zl (wr32 ((wr32 (4 * a1)) + 3)) fun x8 =>
        zg (0 ≤ x8 ∧ x8 < 32) (zw I5 (o0 + 4) x8.toNat a5 fun I7 =>
        zr 0 I7)))))
      else (
        zr 0 I0))
def f_S_canBe (fu : Nat) (a0 : Int) (a1 : Int) (a2 : Int) (I0 : IMem) : Res :=
  if a0 < 1 then (
      zr 0 I0)
    else (
      if 8 < a0 then (
        zr 0 I0)
      else (
        if a1 < 1 then (
          zr 0 I0)
        else (
          if a0 < a1 then (
            zr 0 I0)
          else (
            if a2 < 0 then (
              zr 0 I0)
            else (
              if 3 < a2 then (
                zr 0 I0)
              else (
                zr 1 I0))))))
def f_S_comer (fu : Nat) (o0 : Nat) (a1 : Int) (a2 : Int) (a3 : Int) (a4 : Int) (a5 : Int) (I0 : IMem) : Res :=
  if a1 < 0 then (
      zr 0 I0)
    else (
      if a1 < 8 then (
        zb (f_S_canBe fu a2 a3 a4 I0) fun y1 I2 =>
        if y1 = 0 then (
          zr 0 I2)
        else (
          if a5 < 0 then (
            zr 0 I2)
          else (
            if 1000 < a5 then (
              zr 0 I2)
            else (
              zb (f_H_tellComer fu (o0 + 1) a1 a2 a3 a4 a5 I2) fun _ I5 =>
              zr 1 I5))))
      else (
        zr 0 I0))
def f_R_hasRoomForFive (fu : Nat) (o0 : Nat) (I0 : IMem) : Res :=
  if 380 < I0 o0 1 then (
      zr 0 I0)
    else (
      zr 1 I0)
def fb_R_take_3 (fu : Nat) (o0 : Nat) (p1 : Int) (R_ : Int → IMem → Res) (w2 : Int) (I0 : IMem) : Res :=
  if w2 < 0 then (
      zr 0 I0)
    else (
      zj (fun  (I2 : IMem) =>
          zl (wr32 (w2 + (-8))) fun x3 =>
          R_ x3 I2) fun k1 =>
        if I0 o0 1 < 0 then (
          k1 I0)
        else (
          if I0 o0 1 < 400 then (
            zl (I0 o0 1) fun x5 =>
            zg (0 ≤ x5 ∧ x5 < 400) (zw I0 (o0 + 1) x5.toNat (wand (wushr p1 w2) 255) fun I4 =>
            zw I4 o0 1 (wr32 ((I4 o0 1) + 1)) fun I6 =>
            k1 I6))
          else (
            k1 I0)))
def f_R_take_3 (fu : Nat) (o0 : Nat) (p1 : Int) : Nat → Int → IMem → Res
 | 0 => fun _ _ => none
 | n + 1 => fb_R_take_3 fu o0 p1 (f_R_take_3 fu o0 p1 n)
def f_R_take (fu : Nat) (o0 : Nat) (a1 : Int) (I0 : IMem) : Res :=
  f_R_take_3 fu  o0 a1 fu 24 I0
def f_S_feed (fu : Nat) (o0 : Nat) (a1 : Int) (a2 : Int) (a3 : Int) (a4 : Int) (a5 : Int) (I0 : IMem) : Res :=
  zb (f_R_hasRoomForFive fu (o0 + 144) I0) fun y1 I2 =>
    if y1 = 0 then (
      zr ((-1)) I2)
    else (
      zb (f_R_take fu (o0 + 144) a1 I2) fun _ I5 =>
      zb (f_R_take fu (o0 + 144) a2 I5) fun _ I8 =>
      zb (f_R_take fu (o0 + 144) a3 I8) fun _ I11 =>
      zb (f_R_take fu (o0 + 144) a4 I11) fun _ I14 =>
      zb (f_R_take fu (o0 + 144) a5 I14) fun _ I17 =>
      zr (I17 (o0 + 144) 1) I17)
def f_R_cut (fu : Nat) (o0 : Nat) (a1 : Int) (I0 : IMem) : Res :=
  if a1 < 0 then (
      zr 0 I0)
    else (
      if I0 o0 1 < a1 then (
        zr 0 I0)
      else (
        zw I0 o0 1 a1 fun I1 =>
        zr 1 I1))
def f_S_end (fu : Nat) (o0 : Nat) (a1 : Int) (I0 : IMem) : Res :=
  zb (f_R_cut fu (o0 + 144) a1 I0) fun y1 I2 =>
    zg (y1 = 0 ∨ y1 = 1) (zr y1 I2)
def f_R_forget (fu : Nat) (o0 : Nat) (I0 : IMem) : Res :=
  zw I0 o0 1 0 fun I1 =>
    zw I1 o0 10 0 fun I2 =>
    zw I2 o0 11 ((-1)) fun I3 =>
    zr 0 I3
def f_R_advance (fu : Nat) (o0 : Nat) (I0 : IMem) : Res :=
  zl (wr32 ((I0 o0 6) + 1)) fun x1 =>
    if I0 o0 10 = 0 then (
      if x1 < 0 then (
        zr 0 I0)
      else (
        if 400 < x1 then (
          zr 0 I0)
        else (
          if x1 < I0 o0 5 then (
            zw I0 o0 6 x1 fun I2 =>
            zg (0 ≤ x1 ∧ x1 < 401) (
            zw I2 o0 7 (I2 (o0 + 2) x1.toNat) fun I3 =>
            zg (0 ≤ x1 ∧ x1 < 401) (
            zw I3 o0 8 (I3 (o0 + 4) x1.toNat) fun I4 =>
            zr 0 I4)))
          else (
            zr 0 I0))))
    else (
      zr 0 I0)
def f_R_fail (fu : Nat) (o0 : Nat) (a1 : Int) (I0 : IMem) : Res :=
  if I0 o0 10 = 0 then (
      if I0 o0 6 < 0 then (
        zr 0 I0)
      else (
        if 400 < I0 o0 6 then (
          zr 0 I0)
        else (
          zw I0 o0 10 a1 fun I1 =>
          zl (I1 o0 6) fun x2 =>
          zg (0 ≤ x2 ∧ x2 < 401) (
          zw I1 o0 11 (I1 (o0 + 3) x2.toNat) fun I3 =>
          zr 0 I3))))
    else (
      zr 0 I0)
def f_R_expect (fu : Nat) (o0 : Nat) (a1 : Int) (I0 : IMem) : Res :=
  if I0 o0 7 = a1 then (
      zb (f_R_advance fu o0 I0) fun _ I5 =>
      zr 0 I5)
    else (
      zb (f_R_fail fu o0 1 I0) fun _ I2 =>
      zr 0 I2)
def f_W_addStep (fu : Nat) (o0 : Nat) (a1 : Int) (I0 : IMem) : Res :=
  if I0 o0 1 < 0 then (
      zr 0 I0)
    else (
      if I0 o0 1 < 400 then (
        zl (I0 o0 1) fun x2 =>
        zg (0 ≤ x2 ∧ x2 < 400) (zw I0 (o0 + 1) x2.toNat a1 fun I1 =>
        zw I1 o0 1 (wr32 ((I1 o0 1) + 1)) fun I3 =>
        zr 0 I3))
      else (
        zr 0 I0))
def f_R_readDivisor (fu : Nat) (o0 : Nat) (I0 : IMem) : Res :=
  if I0 o0 7 = 16 then (
      if I0 o0 8 = 0 then (
        zb (f_R_fail fu o0 2 I0) fun _ I11 =>
        zr 0 I11)
      else (
        zb (f_W_addStep fu (o0 + 5) (I0 o0 8) I0) fun _ I2 =>
        zb (f_W_addStep fu (o0 + 5) ((-4)) I2) fun _ I5 =>
        zb (f_R_advance fu o0 I5) fun _ I8 =>
        zr 0 I8))
    else (
      zb (f_R_fail fu o0 1 I0) fun _ I14 =>
      zr 0 I14)
def f_R_readUnit (fu : Nat) (o0 : Nat) (I0 : IMem) : Res :=
  zj (fun (x3 : Int) (I2 : IMem) =>
        zj (fun (x6 : Int) (I5 : IMem) =>
            if I5 o0 7 = 16 then (
              zb (f_W_addStep fu (o0 + 5) (I5 o0 8) I5) fun _ I19 =>
              zb (f_R_advance fu o0 I19) fun _ I22 =>
              zr 0 I22)
            else (
              zj (fun  (I8 : IMem) =>
                  zb (f_R_fail fu o0 1 I8) fun _ I10 =>
                  zr 0 I10) fun k7 =>
                if I5 o0 7 < x3 then (
                  k7 I5)
                else (
                  if x6 < I5 o0 7 then (
                    k7 I5)
                  else (
                    zb (f_W_addStep fu (o0 + 5) (wr32 (10000 + (I5 o0 7))) I5) fun _ I13 =>
                    zb (f_R_advance fu o0 I13) fun _ I16 =>
                    zr 0 I16)))) fun k4 =>
          if I2 o0 9 = 0 then (
            k4 15 I2)
          else (
            k4 8 I2)) fun k1 =>
      if I0 o0 9 = 0 then (
        k1 7 I0)
      else (
        k1 5 I0)
def fb_R_readSum_8 (fu : Nat) (k_121 : Int → IMem → Res) (o0 : Nat) (R_ : Int → Int → IMem → Res) (w1 : Int) (w2 : Int) (I0 : IMem) : Res :=
  if w2 < 400 then (
      if I0 o0 10 = 0 then (
        zl (I0 o0 7) fun x4 =>
        zj (fun (x7 : Int) (I6 : IMem) =>
            zl (wr32 (w2 + 1)) fun x8 =>
            R_ x7 x8 I6) fun k5 =>
          if x4 = 42 then (
            zb (f_R_advance fu o0 I0) fun _ I32 =>
            zb (f_R_readUnit fu o0 I32) fun _ I35 =>
            zb (f_W_addStep fu (o0 + 5) ((-3)) I35) fun _ I38 =>
            k5 w1 I38)
          else (
            if x4 = 47 then (
              zb (f_R_advance fu o0 I0) fun _ I26 =>
              zb (f_R_readDivisor fu o0 I26) fun _ I29 =>
              k5 w1 I29)
            else (
              zj (fun  (I10 : IMem) =>
                  zb (f_R_advance fu o0 I10) fun _ I12 =>
                  zj (fun  (I15 : IMem) =>
                      zj (fun (x18 : Int) (I17 : IMem) =>
                          zb (f_R_readUnit fu o0 I17) fun _ I20 =>
                          k5 x18 I20) fun k16 =>
                        if x4 = 43 then (
                          k16 ((-1)) I15)
                        else (
                          k16 ((-2)) I15)) fun k14 =>
                    if w1 = 0 then (
                      k14 I12)
                    else (
                      zb (f_W_addStep fu (o0 + 5) w1 I12) fun _ I23 =>
                      k14 I23)) fun k9 =>
                if x4 = 43 then (
                  k9 I0)
                else (
                  if x4 = 45 then (
                    k9 I0)
                  else (
                    k_121 w1 I0)))))
      else (
        k_121 w1 I0))
    else (
      k_121 w1 I0)
def f_R_readSum_8 (fu : Nat) (k_121 : Int → IMem → Res) (o0 : Nat) : Nat → Int → Int → IMem → Res
 | 0 => fun _ _ _ => none
 | n + 1 => fb_R_readSum_8 fu k_121 o0 (f_R_readSum_8 fu k_121 o0 n)
def f_R_readSum (fu : Nat) (o0 : Nat) (I0 : IMem) : Res :=
  zb (f_R_readUnit fu o0 I0) fun _ I2 =>
    f_R_readSum_8 fu (fun (x41 : Int) (I40 : IMem) =>
      if x41 = 0 then (
        zr 0 I40)
      else (
        zb (f_W_addStep fu (o0 + 5) x41 I40) fun _ I43 =>
        zr 0 I43)) o0 fu 0 0 I2
def fb_R_readEither_9 (fu : Nat) (R : (Nat → Int → IMem → Res) × (Nat → Int → IMem → Res)) (k_106 : Int → IMem → Res) (o0 : Nat) (p1 : Int) (R_ : Int → Int → IMem → Res) (w2 : Int) (w3 : Int) (I0 : IMem) : Res :=
  if w3 < 400 then (
      if I0 o0 10 = 0 then (
        zj (fun  (I5 : IMem) =>
            zj (fun (x8 : Int) (I7 : IMem) =>
                zb (f_R_advance fu o0 I7) fun _ I10 =>
                zj (fun  (I13 : IMem) =>
                    zb (R.2 o0 p1 I13) fun _ I15 =>
                    zj (fun (x19 : Int) (I18 : IMem) =>
                        zl (wr32 (w3 + 1)) fun x20 =>
                        R_ x19 x20 I18) fun k17 =>
                      if x8 = 0 then (
                        k17 1 I15)
                      else (
                        zb (f_W_addStep fu (o0 + 5) ((-8)) I15) fun _ I22 =>
                        k17 w2 I22)) fun k12 =>
                  if w2 = 0 then (
                    k12 I10)
                  else (
                    if x8 = 0 then (
                      zb (f_W_addStep fu (o0 + 5) ((-9)) I10) fun _ I25 =>
                      k12 I25)
                    else (
                      k12 I10))) fun k6 =>
              if I5 o0 7 = 3 then (
                k6 1 I5)
              else (
                k6 0 I5)) fun k4 =>
          if I0 o0 7 = 2 then (
            k4 I0)
          else (
            if I0 o0 7 = 3 then (
              k4 I0)
            else (
              k_106 w2 I0)))
      else (
        k_106 w2 I0))
    else (
      k_106 w2 I0)
def f_R_readEither_9 (fu : Nat) (R : (Nat → Int → IMem → Res) × (Nat → Int → IMem → Res)) (k_106 : Int → IMem → Res) (o0 : Nat) (p1 : Int) : Nat → Int → Int → IMem → Res
 | 0 => fun _ _ _ => none
 | n + 1 => fb_R_readEither_9 fu R k_106 o0 p1 (f_R_readEither_9 fu R k_106 o0 p1 n)
def fb_R_readEither (fu : Nat) (R : (Nat → Int → IMem → Res) × (Nat → Int → IMem → Res)) (o0 : Nat) (a1 : Int) (I0 : IMem) : Res :=
  zb (R.2 o0 a1 I0) fun _ I2 =>
    f_R_readEither_9 fu R (fun (x28 : Int) (I27 : IMem) =>
      if x28 = 0 then (
        zr 0 I27)
      else (
        zb (f_W_addStep fu (o0 + 5) ((-9)) I27) fun _ I30 =>
        zr 0 I30)) o0 a1 fu 0 0 I2
def fb_R_readTest (fu : Nat) (R : (Nat → Int → IMem → Res) × (Nat → Int → IMem → Res)) (o0 : Nat) (a1 : Int) (I0 : IMem) : Res :=
  if I0 o0 10 = 0 then (
      zj (fun (x3 : Int) (I2 : IMem) =>
          zj (fun  (I5 : IMem) =>
              if I5 o0 7 = 4 then (
                zb (f_R_advance fu o0 I5) fun _ I35 =>
                zb (R.2 o0 (wr32 (a1 + 1)) I35) fun _ I38 =>
                zb (f_W_addStep fu (o0 + 5) ((-10)) I38) fun _ I41 =>
                zr 0 I41)
              else (
                if x3 = 0 then (
                  zb (f_R_readSum fu o0 I5) fun _ I7 =>
                  zl (I7 o0 7) fun x9 =>
                  zj (fun (x12 : Int) (I11 : IMem) =>
                      zb (f_R_expect fu o0 x12 I11) fun _ I14 =>
                      zb (f_R_readSum fu o0 I14) fun _ I17 =>
                      zj (fun (x21 : Int) (I20 : IMem) =>
                          zb (f_W_addStep fu (o0 + 5) x21 I20) fun _ I23 =>
                          zr 0 I23) fun k19 =>
                        if x9 = 60 then (
                          k19 ((-5)) I17)
                        else (
                          if x9 = 62 then (
                            k19 ((-7)) I17)
                          else (
                            k19 ((-6)) I17))) fun k10 =>
                    if x9 = 60 then (
                      k10 x9 I7)
                    else (
                      if x9 = 62 then (
                        k10 x9 I7)
                      else (
                        k10 61 I7)))
                else (
                  zb (f_R_advance fu o0 I5) fun _ I26 =>
                  zb (R.1 o0 (wr32 (a1 + 1)) I26) fun _ I29 =>
                  zb (f_R_expect fu o0 41 I29) fun _ I32 =>
                  zr 0 I32))) fun k4 =>
            if x3 = 0 then (
              k4 I2)
            else (
              if a1 < 8 then (
                k4 I2)
              else (
                zb (f_R_fail fu o0 3 I2) fun _ I44 =>
                zr 0 I44))) fun k1 =>
        if I0 o0 7 = 4 then (
          k1 1 I0)
        else (
          if I0 o0 7 = 40 then (
            k1 1 I0)
          else (
            k1 0 I0)))
    else (
      zr 0 I0)
def gRD (fu : Nat) : Nat → (Nat → Int → IMem → Res) × (Nat → Int → IMem → Res)
  | 0 => (fun _ _ _ => none, fun _ _ _ => none)
  | n + 1 => (fb_R_readEither fu (gRD fu n), fb_R_readTest fu (gRD fu n))
def f_R_readEither (fu : Nat) (o0 : Nat) (a1 : Int) (I0 : IMem) : Res := (gRD fu 40).1 o0 a1 I0
def f_R_readTest (fu : Nat) (o0 : Nat) (a1 : Int) (I0 : IMem) : Res := (gRD fu 40).2 o0 a1 I0
def f_R_readTarget (fu : Nat) (o0 : Nat) (I0 : IMem) : Res :=
  zj (fun  (I2 : IMem) =>
        zb (f_W_addStep fu (o0 + 5) (I2 o0 8) I2) fun _ I4 =>
        zb (f_R_expect fu o0 16 I4) fun _ I7 =>
        zr 0 I7) fun k1 =>
      if I0 o0 7 = 16 then (
        if I0 o0 8 < 6 then (
          k1 I0)
        else (
          zb (f_R_fail fu o0 2 I0) fun _ I10 =>
          k1 I10))
      else (
        k1 I0)
def f_W_closeLine (fu : Nat) (o0 : Nat) (I0 : IMem) : Res :=
  if I0 o0 4 < 0 then (
      zr 0 I0)
    else (
      if I0 o0 4 < 16 then (
        zw I0 o0 4 (wr32 ((I0 o0 4) + 1)) fun I1 =>
        zl (I1 o0 4) fun x3 =>
        zg (0 ≤ x3 ∧ x3 < 17) (zw I1 (o0 + 2) x3.toNat (I1 o0 1) fun I2 =>
        zr 0 I2))
      else (
        zr 0 I0))
def f_W_isFull (fu : Nat) (o0 : Nat) (I0 : IMem) : Res :=
  if I0 o0 4 < 16 then (
      zr 0 I0)
    else (
      zr 1 I0)
def f_W_startWhen (fu : Nat) (o0 : Nat) (I0 : IMem) : Res :=
  if I0 o0 4 < 0 then (
      zr 0 I0)
    else (
      if I0 o0 4 < 16 then (
        zl (I0 o0 4) fun x2 =>
        zg (0 ≤ x2 ∧ x2 < 16) (zw I0 (o0 + 3) x2.toNat (I0 o0 1) fun I1 =>
        zr 0 I1))
      else (
        zr 0 I0))
def f_R_readLine (fu : Nat) (o0 : Nat) (I0 : IMem) : Res :=
  zj (fun (x3 : Int) (I2 : IMem) =>
        zj (fun  (I5 : IMem) =>
            zb (f_R_expect fu o0 x3 I5) fun _ I7 =>
            zj (fun  (I10 : IMem) =>
                zb (f_W_startWhen fu (o0 + 5) I10) fun _ I12 =>
                zj (fun  (I15 : IMem) =>
                    zb (f_R_expect fu o0 59 I15) fun _ I17 =>
                    zb (f_W_closeLine fu (o0 + 5) I17) fun _ I20 =>
                    zr 0 I20) fun k14 =>
                  zj (fun  (I23 : IMem) =>
                      zb (f_R_expect fu o0 1 I23) fun _ I25 =>
                      zb (f_R_readEither fu o0 0 I25) fun _ I28 =>
                      k14 I28) fun k22 =>
                    if I12 o0 9 = 0 then (
                      if I12 o0 7 = 1 then (
                        k22 I12)
                      else (
                        k14 I12))
                    else (
                      k22 I12)) fun k9 =>
              if I7 o0 9 = 0 then (
                zb (f_R_readSum fu o0 I7) fun _ I31 =>
                k9 I31)
              else (
                zb (f_R_readTarget fu o0 I7) fun _ I34 =>
                k9 I34)) fun k4 =>
          if I2 o0 7 = x3 then (
            zb (f_W_isFull fu (o0 + 5) I2) fun y36 I37 =>
            if y36 = 0 then (
              k4 I37)
            else (
              zb (f_R_fail fu o0 3 I37) fun _ I40 =>
              k4 I40))
          else (
            k4 I2)) fun k1 =>
      if I0 o0 9 = 0 then (
        k1 0 I0)
      else (
        k1 11 I0)
def f_R_addToken (fu : Nat) (o0 : Nat) (a1 : Int) (a2 : Int) (a3 : Int) (I0 : IMem) : Res :=
  if I0 o0 5 < 0 then (
      zr 0 I0)
    else (
      if 400 < I0 o0 5 then (
        zr 0 I0)
      else (
        zl (I0 o0 5) fun x2 =>
        zg (0 ≤ x2 ∧ x2 < 401) (zw I0 (o0 + 2) x2.toNat a1 fun I1 =>
        zl (I1 o0 5) fun x4 =>
        zg (0 ≤ x4 ∧ x4 < 401) (zw I1 (o0 + 3) x4.toNat a2 fun I3 =>
        zl (I3 o0 5) fun x6 =>
        zg (0 ≤ x6 ∧ x6 < 401) (zw I3 (o0 + 4) x6.toNat a3 fun I5 =>
        zw I5 o0 5 (wr32 ((I5 o0 5) + 1)) fun I7 =>
        zr 0 I7)))))
def f_R_isDigit (fu : Nat) (a0 : Int) (I0 : IMem) : Res :=
  if a0 < 48 then (
      zr 0 I0)
    else (
      if 57 < a0 then (
        zr 0 I0)
      else (
        zr 1 I0))
def f_R_isLetter (fu : Nat) (a0 : Int) (I0 : IMem) : Res :=
  zj (fun  (I2 : IMem) =>
        if a0 < 65 then (
          zr 0 I2)
        else (
          if 90 < a0 then (
            zr 0 I2)
          else (
            zr 1 I2))) fun k1 =>
      if a0 < 97 then (
        k1 I0)
      else (
        if 122 < a0 then (
          k1 I0)
        else (
          zr 1 I0))
def fb_R_numberAt_9 (fu : Nat) (o0 : Nat) (p2 : Int) (R_ : Int → Int → IMem → Res) (w3 : Int) (w4 : Int) (I0 : IMem) : Res :=
  if w4 < p2 then (
      if w4 < 400 then (
        zg (0 ≤ w4 ∧ w4 < 400) (
        zl (wr32 ((wr32 ((wr32 (10 * w3)) + (I0 (o0 + 1) w4.toNat))) - 48)) fun x4 =>
        zl (wr32 (w4 + 1)) fun x5 =>
        R_ x4 x5 I0))
      else (
        zr w3 I0))
    else (
      zr w3 I0)
def f_R_numberAt_9 (fu : Nat) (o0 : Nat) (p2 : Int) : Nat → Int → Int → IMem → Res
 | 0 => fun _ _ _ => none
 | n + 1 => fb_R_numberAt_9 fu o0 p2 (f_R_numberAt_9 fu o0 p2 n)
def f_R_numberAt (fu : Nat) (o0 : Nat) (a1 : Int) (a2 : Int) (I0 : IMem) : Res :=
  zb (f_JM_max fu a1 0 I0) fun y1 I2 =>
    f_R_numberAt_9 fu  o0 a2 fu 0 y1 I2
section
variable {l : Launch} {b : PB}
set_option maxRecDepth 20000 in
theorem t_S_state (fu : Nat) (o0 : Nat) (a1 : Int) (I0 : IMem) (hI : RG I0) (h_o0 : KC[o0]? = some (11, 9)) (h_a1 : inr a1) {r : Int × IMem} (hf : f_S_state fu o0 a1 I0 = some r) : Ss l b 1 y_S_state KC RC [.ref o0, .int (iv a1)] (ivm I0) (Ps r) := by
  unfold f_S_state at hf
  refine Ss.of (show Ai l b 1 y_S_state KC RC (Ps r) I0 0 [.ref o0, .int (iv a1), uu] [] from ?_)
  refine aw_aload_n rfl rfl d_S_state_0 (aw_getr (r := o0 + 1) fl_S_12 h_o0 (by decide) rfl (rc_8_0 _ h_o0).1 d_S_state_1 (ai_geti fl_S_57 (rc_8_0 _ h_o0).2 (by decide) rfl d_S_state_4 ?_))
  refine ai_name hf (hI (o0 + 1) 6) (fun x1 h_x1 hf => ?_)
  refine aw_istore_n (lv2 := [.ref o0, .int (iv a1), .int (iv x1)]) rfl (Nat.le_of_ble_eq_true rfl) rfl d_S_state_7 ?_
  refine aw_aload_n rfl rfl d_S_state_8 (aw_getr (r := o0 + 1) fl_S_12 h_o0 (by decide) rfl (rc_8_0 _ h_o0).1 d_S_state_9 (aw_iload_n rfl rfl d_S_state_12 ?_))
  refine ai_puti hf hI h_a1 fl_S_57 (rc_8_0 _ h_o0).2 (by decide) rfl rfl rfl rfl d_S_state_13 (fun I2 h_I2 hf => ?_)
  refine aw_iload_n rfl rfl d_S_state_16 ?_
  exact ai_reti rfl d_S_state_17 hf h_x1 h_I2
set_option maxRecDepth 20000 in
theorem t_C_clear (fu : Nat) (o0 : Nat) (a1 : Int) (I0 : IMem) (hI : RG I0) (h_o0 : KC[o0]? = some (3, 12)) (h_a1 : inr a1) {r : Int × IMem} (hf : f_C_clear fu o0 a1 I0 = some r) : Ss l b 2 y_C_clear KC RC [.ref o0, .int (iv a1)] (ivm I0) (Pv r) := by
  unfold f_C_clear at hf
  refine Ss.of (show Ai l b 2 y_C_clear KC RC (Pv r) I0 0 [.ref o0, .int (iv a1)] [] from ?_)
  refine aw_aload_n rfl rfl d_C_clear_0 (aw_getr (r := o0 + 1) fl_C_9 h_o0 (by decide) rfl (rc_0_0 _ h_o0).1 d_C_clear_1 (aw_iconst (v := iv 0) rfl d_C_clear_4 ?_))
  obtain ⟨y1, I2, c3, hf⟩ := of_zb hf
  refine ai_callSv (as := [.ref (o0 + 1), .int (iv 0)]) (d' := 1) mo_JA_fill lk_C_34 rfl ⟨by decide, by decide⟩ rfl rfl (by decide) d_C_clear_5 (t_JA_fill fu (o0 + 1) 240 0 I0 hI ⟨(rc_0_0 _ h_o0).2, by decide⟩ in_0 c3) (fun h_I2 => ?_)
  refine aw_aload_n rfl rfl d_C_clear_8 (aw_iload_n rfl rfl d_C_clear_9 ?_)
  refine ai_puti hf h_I2 h_a1 fl_C_30 h_o0 (by decide) rfl rfl rfl rfl d_C_clear_10 (fun I4 h_I4 hf => ?_)
  refine aw_aload_n rfl rfl d_C_clear_13 (aw_iconst (v := iv 0) rfl d_C_clear_14 ?_)
  refine ai_puti hf h_I4 in_0 fl_C_40 h_o0 (by decide) rfl rfl rfl rfl d_C_clear_15 (fun I5 h_I5 hf => ?_)
  refine aw_aload_n rfl rfl d_C_clear_18 (aw_iconst (v := iv 0) rfl d_C_clear_19 ?_)
  refine ai_puti hf h_I5 in_0 fl_C_43 h_o0 (by decide) rfl rfl rfl rfl d_C_clear_20 (fun I6 h_I6 hf => ?_)
  refine aw_aload_n rfl rfl d_C_clear_23 (aw_iconst (v := iv 0) rfl d_C_clear_24 ?_)
  refine ai_puti hf h_I6 in_0 fl_C_46 h_o0 (by decide) rfl (nar_z (Or.inl rfl)) (fit_z (Or.inl rfl)) rfl d_C_clear_25 (fun I7 h_I7 hf => ?_)
  refine aw_aload_n rfl rfl d_C_clear_28 (aw_iconst (v := iv 0) rfl d_C_clear_29 ?_)
  refine ai_puti hf h_I7 in_0 fl_C_50 h_o0 (by decide) rfl (nar_z (Or.inl rfl)) (fit_z (Or.inl rfl)) rfl d_C_clear_30 (fun I8 h_I8 hf => ?_)
  exact ai_retv rfl d_C_clear_33 hf h_I8
set_option maxRecDepth 20000 in
theorem t_S_canTell (fu : Nat) (a0 : Int) (a1 : Int) (I0 : IMem) (hI : RG I0) (h_a0 : inr a0) (h_a1 : inr a1) {r : Int × IMem} (hf : f_S_canTell fu a0 a1 I0 = some r) : Ss l b 1 y_S_canTell KC RC [.int (iv a0), .int (iv a1)] (ivm I0) (Ps r) := by
  unfold f_S_canTell at hf
  refine Ss.of (show Ai l b 1 y_S_canTell KC RC (Ps r) I0 0 [.int (iv a0), .int (iv a1)] [] from ?_)
  refine aw_iload_n rfl rfl d_S_canTell_0 ?_
  refine ai_if_lt h_a0 hf (tgt := 31) (by decide) d_S_canTell_1 (fun hf => ?_) (fun hf => ?_)
  · refine aw_iconst (v := iv 0) rfl d_S_canTell_31 ?_
    exact ai_retn rfl (nar_z (Or.inl rfl)) d_S_canTell_32 hf in_0 hI
  · refine aw_iload_n rfl rfl d_S_canTell_4 (aw_iconst (v := iv 5) rfl d_S_canTell_5 ?_)
    refine ai_icmp_gt h_a0 in_5 hf (tgt := 31) (by decide) d_S_canTell_6 (fun hf => ?_) (fun hf => ?_)
    · refine aw_iconst (v := iv 0) rfl d_S_canTell_31 ?_
      exact ai_retn rfl (nar_z (Or.inl rfl)) d_S_canTell_32 hf in_0 hI
    · refine aw_iload_n rfl rfl d_S_canTell_9 (aw_getsL gs_S_265 d_S_canTell_10 (aw_iload_n rfl rfl d_S_canTell_13 ?_))
      refine ai_ialdL h_a0 hf d_S_canTell_14 (fun _ hf => ?_)
      refine ai_icmp_lt h_a1 (leastZ_in _) hf (tgt := 31) (by decide) d_S_canTell_15 (fun hf => ?_) (fun hf => ?_)
      · refine aw_iconst (v := iv 0) rfl d_S_canTell_31 ?_
        exact ai_retn rfl (nar_z (Or.inl rfl)) d_S_canTell_32 hf in_0 hI
      · refine aw_iload_n rfl rfl d_S_canTell_18 (aw_getsM gs_S_268 d_S_canTell_19 (aw_iload_n rfl rfl d_S_canTell_22 ?_))
        refine ai_ialdM h_a0 hf d_S_canTell_23 (fun _ hf => ?_)
        refine ai_icmp_gt h_a1 (mostZ_in _) hf (tgt := 31) (by decide) d_S_canTell_24 (fun hf => ?_) (fun hf => ?_)
        · refine aw_iconst (v := iv 0) rfl d_S_canTell_31 ?_
          exact ai_retn rfl (nar_z (Or.inl rfl)) d_S_canTell_32 hf in_0 hI
        · refine aw_iconst (v := iv 1) rfl d_S_canTell_27 (aw_goto (tgt := 32) (by decide) d_S_canTell_28 ?_)
          exact ai_retn rfl (nar_z (Or.inr rfl)) d_S_canTell_32 hf in_1 hI
set_option maxRecDepth 20000 in
theorem t_S_set (fu : Nat) (o0 : Nat) (a1 : Int) (a2 : Int) (I0 : IMem) (hI : RG I0) (h_o0 : KC[o0]? = some (11, 9)) (h_a1 : inr a1) (h_a2 : inr a2) {r : Int × IMem} (hf : f_S_set fu o0 a1 a2 I0 = some r) : Ss l b 3 y_S_set KC RC [.ref o0, .int (iv a1), .int (iv a2)] (ivm I0) (Ps r) := by
  unfold f_S_set at hf
  refine Ss.of (show Ai l b 3 y_S_set KC RC (Ps r) I0 0 [.ref o0, .int (iv a1), .int (iv a2)] [] from ?_)
  refine aw_iload_n rfl rfl d_S_set_0 (aw_iload_n rfl rfl d_S_set_1 ?_)
  obtain ⟨y1, I2, c3, hf⟩ := of_zb hf
  refine ai_callS (as := [.int (iv a1), .int (iv a2)]) (d' := 1) mo_S_canTell lk_S_61 rfl ⟨by decide, by decide⟩ rfl rfl (by decide) d_S_set_2 (t_S_canTell fu a1 a2 I0 hI h_a1 h_a2 c3) (fun h_y1 h_I2 => ?_)
  refine ai_if_ne h_y1 hf (tgt := 10) (by decide) d_S_set_5 (fun hf => ?_) (fun hf => ?_)
  · refine aw_aload_n rfl rfl d_S_set_10 (aw_getr (r := o0 + 1) fl_S_12 h_o0 (by decide) rfl (rc_8_0 _ h_o0).1 d_S_set_11 (aw_getr (r := o0 + 2) fl_S_65 ((rc_8_0 _ h_o0).2) (by decide) rfl (rc_2_0 _ (rc_8_0 _ h_o0).2).1 d_S_set_14 (aw_iload_n rfl rfl d_S_set_17 (aw_iload_n rfl rfl d_S_set_18 ?_))))
    refine ai_iast (rc_2_0 _ (rc_8_0 _ h_o0).2).2 rfl h_a1 h_a2 h_I2 hf d_S_set_19 (fun _ I4 h_I4 hf => ?_)
    refine aw_iload_n rfl rfl d_S_set_20 ?_
    refine ai_if_ne h_a1 hf (tgt := 32) (by decide) d_S_set_21 (fun hf => ?_) (fun hf => ?_)
    · refine aw_iconst (v := iv 1) rfl d_S_set_32 ?_
      exact ai_retn rfl (nar_z (Or.inr rfl)) d_S_set_33 hf in_1 h_I4
    · refine aw_aload_n rfl rfl d_S_set_24 (aw_getr (r := o0 + 137) fl_S_33 h_o0 (by decide) rfl (rc_8_4 _ h_o0).1 d_S_set_25 (aw_iload_n rfl rfl d_S_set_28 ?_))
      obtain ⟨y5, I6, c7, hf⟩ := of_zb hf
      refine ai_callVv (as := [.int (iv a2)]) (d' := 2) (q := ("SinglesUp$Chair", zT0, 12)) mo_C_clear lk_S_69 (rc_8_4 _ h_o0).2 rfl rfl rfl ⟨by decide, by decide⟩ rfl rfl (by decide) d_S_set_29 (t_C_clear fu (o0 + 137) a2 I4 h_I4 (rc_8_4 _ h_o0).2 h_a2 c7) (fun h_I6 => ?_)
      refine aw_iconst (v := iv 1) rfl d_S_set_32 ?_
      exact ai_retn rfl (nar_z (Or.inr rfl)) d_S_set_33 hf in_1 h_I6
  · refine aw_iconst (v := iv 0) rfl d_S_set_8 ?_
    exact ai_retn rfl (nar_z (Or.inl rfl)) d_S_set_9 hf in_0 h_I2
set_option maxRecDepth 20000 in
theorem t_S_isLine (fu : Nat) (a0 : Int) (I0 : IMem) (hI : RG I0) (h_a0 : inr a0) {r : Int × IMem} (hf : f_S_isLine fu a0 I0 = some r) : Ss l b 1 y_S_isLine KC RC [.int (iv a0)] (ivm I0) (Ps r) := by
  unfold f_S_isLine at hf
  refine Ss.of (show Ai l b 1 y_S_isLine KC RC (Ps r) I0 0 [.int (iv a0)] [] from ?_)
  refine aw_iload_n rfl rfl d_S_isLine_0 ?_
  refine ai_if_lt h_a0 hf (tgt := 14) (by decide) d_S_isLine_1 (fun hf => ?_) (fun hf => ?_)
  · refine aw_iconst (v := iv 0) rfl d_S_isLine_14 ?_
    exact ai_retn rfl (nar_z (Or.inl rfl)) d_S_isLine_15 hf in_0 hI
  · refine aw_iload_n rfl rfl d_S_isLine_4 (aw_bipush (v := iv 6) cb_6 d_S_isLine_5 ?_)
    refine ai_icmp_ge h_a0 in_6 hf (tgt := 14) (by decide) d_S_isLine_7 (fun hf => ?_) (fun hf => ?_)
    · refine aw_iconst (v := iv 0) rfl d_S_isLine_14 ?_
      exact ai_retn rfl (nar_z (Or.inl rfl)) d_S_isLine_15 hf in_0 hI
    · refine aw_iconst (v := iv 1) rfl d_S_isLine_10 (aw_goto (tgt := 15) (by decide) d_S_isLine_11 ?_)
      exact ai_retn rfl (nar_z (Or.inr rfl)) d_S_isLine_15 hf in_1 hI
set_option maxRecDepth 20000 in
theorem t_S_seen (fu : Nat) (o0 : Nat) (a1 : Int) (a2 : Int) (I0 : IMem) (hI : RG I0) (h_o0 : KC[o0]? = some (11, 9)) (h_a1 : inr a1) (h_a2 : inr a2) {r : Int × IMem} (hf : f_S_seen fu o0 a1 a2 I0 = some r) : Ss l b 2 y_S_seen KC RC [.ref o0, .int (iv a1), .int (iv a2)] (ivm I0) (Ps r) := by
  unfold f_S_seen at hf
  refine Ss.of (show Ai l b 2 y_S_seen KC RC (Ps r) I0 0 [.ref o0, .int (iv a1), .int (iv a2)] [] from ?_)
  refine aw_iload_n rfl rfl d_S_seen_0 ?_
  obtain ⟨y1, I2, c3, hf⟩ := of_zb hf
  refine ai_callS (as := [.int (iv a1)]) (d' := 1) mo_S_isLine lk_S_73 rfl ⟨by decide, by decide⟩ rfl rfl (by decide) d_S_seen_1 (t_S_isLine fu a1 I0 hI h_a1 c3) (fun h_y1 h_I2 => ?_)
  refine ai_if_eq h_y1 hf (tgt := 18) (by decide) d_S_seen_4 (fun hf => ?_) (fun hf => ?_)
  · refine aw_iconst (v := iv 0) rfl d_S_seen_18 ?_
    exact ai_retn rfl (nar_z (Or.inl rfl)) d_S_seen_19 hf in_0 h_I2
  · refine aw_iload_n rfl rfl d_S_seen_7 (aw_iconst (v := iv 1) rfl d_S_seen_8 ?_)
    refine ai_icmp_lt h_a2 in_1 hf (tgt := 18) (by decide) d_S_seen_9 (fun hf => ?_) (fun hf => ?_)
    · refine aw_iconst (v := iv 0) rfl d_S_seen_18 ?_
      exact ai_retn rfl (nar_z (Or.inl rfl)) d_S_seen_19 hf in_0 h_I2
    · refine aw_iload_n rfl rfl d_S_seen_12 (aw_bipush (v := iv 24) cb_24 d_S_seen_13 ?_)
      refine ai_icmp_le h_a2 in_24 hf (tgt := 20) (by decide) d_S_seen_15 (fun hf => ?_) (fun hf => ?_)
      · refine aw_aload_n rfl rfl d_S_seen_20 (aw_getr (r := o0 + 1) fl_S_12 h_o0 (by decide) rfl (rc_8_0 _ h_o0).1 d_S_seen_21 (aw_getr (r := o0 + 7) fl_S_77 ((rc_8_0 _ h_o0).2) (by decide) rfl (rc_2_5 _ (rc_8_0 _ h_o0).2).1 d_S_seen_24 (aw_getr (r := o0 + 10) fl_S_81 ((rc_2_5 _ (rc_8_0 _ h_o0).2).2) (by decide) rfl (rc_4_2 _ (rc_2_5 _ (rc_8_0 _ h_o0).2).2).1 d_S_seen_27 (aw_iload_n rfl rfl d_S_seen_30 (aw_iload_n rfl rfl d_S_seen_31 ?_)))))
        refine ai_iast (rc_4_2 _ (rc_2_5 _ (rc_8_0 _ h_o0).2).2).2 rfl h_a1 h_a2 h_I2 hf d_S_seen_32 (fun _ I4 h_I4 hf => ?_)
        refine aw_iconst (v := iv 1) rfl d_S_seen_33 ?_
        exact ai_retn rfl (nar_z (Or.inr rfl)) d_S_seen_34 hf in_1 h_I4
      · refine aw_iconst (v := iv 0) rfl d_S_seen_18 ?_
        exact ai_retn rfl (nar_z (Or.inl rfl)) d_S_seen_19 hf in_0 h_I2
set_option maxRecDepth 20000 in
theorem t_S_parts (fu : Nat) (o0 : Nat) (a1 : Int) (a2 : Int) (I0 : IMem) (hI : RG I0) (h_o0 : KC[o0]? = some (11, 9)) (h_a1 : inr a1) (h_a2 : inr a2) {r : Int × IMem} (hf : f_S_parts fu o0 a1 a2 I0 = some r) : Ss l b 1 y_S_parts KC RC [.ref o0, .int (iv a1), .int (iv a2)] (ivm I0) (Ps r) := by
  unfold f_S_parts at hf
  refine Ss.of (show Ai l b 1 y_S_parts KC RC (Ps r) I0 0 [.ref o0, .int (iv a1), .int (iv a2)] [] from ?_)
  refine aw_iload_n rfl rfl d_S_parts_0 (aw_iconst (v := iv 2) rfl d_S_parts_1 ?_)
  refine ai_icmp_lt h_a1 in_2 hf (tgt := 20) (by decide) d_S_parts_2 (fun hf => ?_) (fun hf => ?_)
  · refine aw_iconst (v := iv 0) rfl d_S_parts_20 ?_
    exact ai_retn rfl (nar_z (Or.inl rfl)) d_S_parts_21 hf in_0 hI
  · refine aw_iload_n rfl rfl d_S_parts_5 (aw_bipush (v := iv 8) cb_8 d_S_parts_6 ?_)
    refine ai_icmp_gt h_a1 in_8 hf (tgt := 20) (by decide) d_S_parts_8 (fun hf => ?_) (fun hf => ?_)
    · refine aw_iconst (v := iv 0) rfl d_S_parts_20 ?_
      exact ai_retn rfl (nar_z (Or.inl rfl)) d_S_parts_21 hf in_0 hI
    · refine aw_iload_n rfl rfl d_S_parts_11 ?_
      refine ai_if_lt h_a2 hf (tgt := 20) (by decide) d_S_parts_12 (fun hf => ?_) (fun hf => ?_)
      · refine aw_iconst (v := iv 0) rfl d_S_parts_20 ?_
        exact ai_retn rfl (nar_z (Or.inl rfl)) d_S_parts_21 hf in_0 hI
      · refine aw_iload_n rfl rfl d_S_parts_15 (aw_iload_n rfl rfl d_S_parts_16 ?_)
        refine ai_icmp_lt h_a2 h_a1 hf (tgt := 22) (by decide) d_S_parts_17 (fun hf => ?_) (fun hf => ?_)
        · refine aw_aload_n rfl rfl d_S_parts_22 (aw_getr (r := o0 + 1) fl_S_12 h_o0 (by decide) rfl (rc_8_0 _ h_o0).1 d_S_parts_23 (aw_getr (r := o0 + 4) fl_S_86 ((rc_8_0 _ h_o0).2) (by decide) rfl (rc_2_2 _ (rc_8_0 _ h_o0).2).1 d_S_parts_26 (aw_iload_n rfl rfl d_S_parts_29 (aw_iload_n rfl rfl d_S_parts_30 ?_))))
          refine ai_iast (rc_2_2 _ (rc_8_0 _ h_o0).2).2 rfl h_a1 h_a2 hI hf d_S_parts_31 (fun _ I1 h_I1 hf => ?_)
          refine aw_iconst (v := iv 1) rfl d_S_parts_32 ?_
          exact ai_retn rfl (nar_z (Or.inr rfl)) d_S_parts_33 hf in_1 h_I1
        · refine aw_iconst (v := iv 0) rfl d_S_parts_20 ?_
          exact ai_retn rfl (nar_z (Or.inl rfl)) d_S_parts_21 hf in_0 hI
set_option maxRecDepth 20000 in
theorem t_H_tellComer (fu : Nat) (o0 : Nat) (a1 : Int) (a2 : Int) (a3 : Int) (a4 : Int) (a5 : Int) (I0 : IMem) (hI : RG I0) (h_o0 : KC[o0]? = some (5, 14)) (h_a1 : inr a1) (h_a2 : inr a2) (h_a3 : inr a3) (h_a4 : inr a4) (h_a5 : inr a5) {r : Int × IMem} (hf : f_H_tellComer fu o0 a1 a2 a3 a4 a5 I0 = some r) : Ss l b 1 y_H_tellComer KC RC [.ref o0, .int (iv a1), .int (iv a2), .int (iv a3), .int (iv a4), .int (iv a5)] (ivm I0) (Pv r) := by
  unfold f_H_tellComer at hf
  refine Ss.of (show Ai l b 1 y_H_tellComer KC RC (Pv r) I0 0 [.ref o0, .int (iv a1), .int (iv a2), .int (iv a3), .int (iv a4), .int (iv a5)] [] from ?_)
  refine aw_iload_n rfl rfl d_H_tellComer_0 ?_
  refine ai_if_lt h_a1 hf (tgt := 54) (by decide) d_H_tellComer_1 (fun hf => ?_) (fun hf => ?_)
  · exact ai_retv rfl d_H_tellComer_54 hf hI
  · refine aw_iload_n rfl rfl d_H_tellComer_4 (aw_bipush (v := iv 8) cb_8 d_H_tellComer_5 ?_)
    refine ai_icmp_ge h_a1 in_8 hf (tgt := 54) (by decide) d_H_tellComer_7 (fun hf => ?_) (fun hf => ?_)
    · exact ai_retv rfl d_H_tellComer_54 hf hI
    · refine aw_aload_n rfl rfl d_H_tellComer_10 (aw_getr (r := o0 + 4) fl_H_24 h_o0 (by decide) rfl (rc_2_3 _ h_o0).1 d_H_tellComer_11 (aw_iconst (v := iv 4) rfl d_H_tellComer_14 (aw_iload_n rfl rfl d_H_tellComer_15 (ai_imul d_H_tellComer_16 (aw_iload_n rfl rfl d_H_tellComer_17 ?_)))))
      refine ai_nameU hf (wr32_in _) (fun x2 h_x2 hf => ?_)
      refine ai_iast (rc_2_3 _ h_o0).2 rfl h_x2 h_a2 hI hf d_H_tellComer_18 (fun _ I1 h_I1 hf => ?_)
      refine aw_aload_n rfl rfl d_H_tellComer_19 (aw_getr (r := o0 + 4) fl_H_24 h_o0 (by decide) rfl (rc_2_3 _ h_o0).1 d_H_tellComer_20 (aw_iconst (v := iv 4) rfl d_H_tellComer_23 (aw_iload_n rfl rfl d_H_tellComer_24 (ai_imul d_H_tellComer_25 (aw_iconst (v := iv 1) rfl d_H_tellComer_26 (ai_iadd d_H_tellComer_27 (aw_iload_n rfl rfl d_H_tellComer_28 ?_)))))))
      refine ai_nameU hf (wr32_in _) (fun x4 h_x4 hf => ?_)
      refine ai_iast (rc_2_3 _ h_o0).2 rfl h_x4 h_a3 h_I1 hf d_H_tellComer_29 (fun _ I3 h_I3 hf => ?_)
      refine aw_aload_n rfl rfl d_H_tellComer_30 (aw_getr (r := o0 + 4) fl_H_24 h_o0 (by decide) rfl (rc_2_3 _ h_o0).1 d_H_tellComer_31 (aw_iconst (v := iv 4) rfl d_H_tellComer_34 (aw_iload_n rfl rfl d_H_tellComer_35 (ai_imul d_H_tellComer_36 (aw_iconst (v := iv 2) rfl d_H_tellComer_37 (ai_iadd d_H_tellComer_38 (aw_iload rfl d_H_tellComer_39 ?_)))))))
      refine ai_nameU hf (wr32_in _) (fun x6 h_x6 hf => ?_)
      refine ai_iast (rc_2_3 _ h_o0).2 rfl h_x6 h_a4 h_I3 hf d_H_tellComer_41 (fun _ I5 h_I5 hf => ?_)
      refine aw_aload_n rfl rfl d_H_tellComer_42 (aw_getr (r := o0 + 4) fl_H_24 h_o0 (by decide) rfl (rc_2_3 _ h_o0).1 d_H_tellComer_43 (aw_iconst (v := iv 4) rfl d_H_tellComer_46 (aw_iload_n rfl rfl d_H_tellComer_47 (ai_imul d_H_tellComer_48 (aw_iconst (v := iv 3) rfl d_H_tellComer_49 (ai_iadd d_H_tellComer_50 (aw_iload rfl d_H_tellComer_51 ?_)))))))
      refine ai_nameU hf (wr32_in _) (fun x8 h_x8 hf => ?_)
      refine ai_iast (rc_2_3 _ h_o0).2 rfl h_x8 h_a5 h_I5 hf d_H_tellComer_53 (fun _ I7 h_I7 hf => ?_)
      exact ai_retv rfl d_H_tellComer_54 hf h_I7
set_option maxRecDepth 20000 in
theorem t_S_canBe (fu : Nat) (a0 : Int) (a1 : Int) (a2 : Int) (I0 : IMem) (hI : RG I0) (h_a0 : inr a0) (h_a1 : inr a1) (h_a2 : inr a2) {r : Int × IMem} (hf : f_S_canBe fu a0 a1 a2 I0 = some r) : Ss l b 1 y_S_canBe KC RC [.int (iv a0), .int (iv a1), .int (iv a2)] (ivm I0) (Ps r) := by
  unfold f_S_canBe at hf
  refine Ss.of (show Ai l b 1 y_S_canBe KC RC (Ps r) I0 0 [.int (iv a0), .int (iv a1), .int (iv a2)] [] from ?_)
  refine aw_iload_n rfl rfl d_S_canBe_0 (aw_iconst (v := iv 1) rfl d_S_canBe_1 ?_)
  refine ai_icmp_lt h_a0 in_1 hf (tgt := 34) (by decide) d_S_canBe_2 (fun hf => ?_) (fun hf => ?_)
  · refine aw_iconst (v := iv 0) rfl d_S_canBe_34 ?_
    exact ai_retn rfl (nar_z (Or.inl rfl)) d_S_canBe_35 hf in_0 hI
  · refine aw_iload_n rfl rfl d_S_canBe_5 (aw_bipush (v := iv 8) cb_8 d_S_canBe_6 ?_)
    refine ai_icmp_gt h_a0 in_8 hf (tgt := 34) (by decide) d_S_canBe_8 (fun hf => ?_) (fun hf => ?_)
    · refine aw_iconst (v := iv 0) rfl d_S_canBe_34 ?_
      exact ai_retn rfl (nar_z (Or.inl rfl)) d_S_canBe_35 hf in_0 hI
    · refine aw_iload_n rfl rfl d_S_canBe_11 (aw_iconst (v := iv 1) rfl d_S_canBe_12 ?_)
      refine ai_icmp_lt h_a1 in_1 hf (tgt := 34) (by decide) d_S_canBe_13 (fun hf => ?_) (fun hf => ?_)
      · refine aw_iconst (v := iv 0) rfl d_S_canBe_34 ?_
        exact ai_retn rfl (nar_z (Or.inl rfl)) d_S_canBe_35 hf in_0 hI
      · refine aw_iload_n rfl rfl d_S_canBe_16 (aw_iload_n rfl rfl d_S_canBe_17 ?_)
        refine ai_icmp_gt h_a1 h_a0 hf (tgt := 34) (by decide) d_S_canBe_18 (fun hf => ?_) (fun hf => ?_)
        · refine aw_iconst (v := iv 0) rfl d_S_canBe_34 ?_
          exact ai_retn rfl (nar_z (Or.inl rfl)) d_S_canBe_35 hf in_0 hI
        · refine aw_iload_n rfl rfl d_S_canBe_21 ?_
          refine ai_if_lt h_a2 hf (tgt := 34) (by decide) d_S_canBe_22 (fun hf => ?_) (fun hf => ?_)
          · refine aw_iconst (v := iv 0) rfl d_S_canBe_34 ?_
            exact ai_retn rfl (nar_z (Or.inl rfl)) d_S_canBe_35 hf in_0 hI
          · refine aw_iload_n rfl rfl d_S_canBe_25 (aw_iconst (v := iv 3) rfl d_S_canBe_26 ?_)
            refine ai_icmp_gt h_a2 in_3 hf (tgt := 34) (by decide) d_S_canBe_27 (fun hf => ?_) (fun hf => ?_)
            · refine aw_iconst (v := iv 0) rfl d_S_canBe_34 ?_
              exact ai_retn rfl (nar_z (Or.inl rfl)) d_S_canBe_35 hf in_0 hI
            · refine aw_iconst (v := iv 1) rfl d_S_canBe_30 (aw_goto (tgt := 35) (by decide) d_S_canBe_31 ?_)
              exact ai_retn rfl (nar_z (Or.inr rfl)) d_S_canBe_35 hf in_1 hI
set_option maxRecDepth 20000 in
theorem t_S_comer (fu : Nat) (o0 : Nat) (a1 : Int) (a2 : Int) (a3 : Int) (a4 : Int) (a5 : Int) (I0 : IMem) (hI : RG I0) (h_o0 : KC[o0]? = some (11, 9)) (h_a1 : inr a1) (h_a2 : inr a2) (h_a3 : inr a3) (h_a4 : inr a4) (h_a5 : inr a5) {r : Int × IMem} (hf : f_S_comer fu o0 a1 a2 a3 a4 a5 I0 = some r) : Ss l b 2 y_S_comer KC RC [.ref o0, .int (iv a1), .int (iv a2), .int (iv a3), .int (iv a4), .int (iv a5)] (ivm I0) (Ps r) := by
  unfold f_S_comer at hf
  refine Ss.of (show Ai l b 2 y_S_comer KC RC (Ps r) I0 0 [.ref o0, .int (iv a1), .int (iv a2), .int (iv a3), .int (iv a4), .int (iv a5)] [] from ?_)
  refine aw_iload_n rfl rfl d_S_comer_0 ?_
  refine ai_if_lt h_a1 hf (tgt := 33) (by decide) d_S_comer_1 (fun hf => ?_) (fun hf => ?_)
  · refine aw_iconst (v := iv 0) rfl d_S_comer_33 ?_
    exact ai_retn rfl (nar_z (Or.inl rfl)) d_S_comer_34 hf in_0 hI
  · refine aw_iload_n rfl rfl d_S_comer_4 (aw_bipush (v := iv 8) cb_8 d_S_comer_5 ?_)
    refine ai_icmp_ge h_a1 in_8 hf (tgt := 33) (by decide) d_S_comer_7 (fun hf => ?_) (fun hf => ?_)
    · refine aw_iconst (v := iv 0) rfl d_S_comer_33 ?_
      exact ai_retn rfl (nar_z (Or.inl rfl)) d_S_comer_34 hf in_0 hI
    · refine aw_iload_n rfl rfl d_S_comer_10 (aw_iload_n rfl rfl d_S_comer_11 (aw_iload rfl d_S_comer_12 ?_))
      obtain ⟨y1, I2, c3, hf⟩ := of_zb hf
      refine ai_callS (as := [.int (iv a2), .int (iv a3), .int (iv a4)]) (d' := 1) mo_S_canBe lk_S_89 rfl ⟨by decide, by decide⟩ rfl rfl (by decide) d_S_comer_14 (t_S_canBe fu a2 a3 a4 I0 hI h_a2 h_a3 h_a4 c3) (fun h_y1 h_I2 => ?_)
      refine ai_if_eq h_y1 hf (tgt := 33) (by decide) d_S_comer_17 (fun hf => ?_) (fun hf => ?_)
      · refine aw_iconst (v := iv 0) rfl d_S_comer_33 ?_
        exact ai_retn rfl (nar_z (Or.inl rfl)) d_S_comer_34 hf in_0 h_I2
      · refine aw_iload rfl d_S_comer_20 ?_
        refine ai_if_lt h_a5 hf (tgt := 33) (by decide) d_S_comer_22 (fun hf => ?_) (fun hf => ?_)
        · refine aw_iconst (v := iv 0) rfl d_S_comer_33 ?_
          exact ai_retn rfl (nar_z (Or.inl rfl)) d_S_comer_34 hf in_0 h_I2
        · refine aw_iload rfl d_S_comer_25 (aw_sipush (v := iv 1000) cs_1000 d_S_comer_27 ?_)
          refine ai_icmp_le h_a5 in_1000 hf (tgt := 35) (by decide) d_S_comer_30 (fun hf => ?_) (fun hf => ?_)
          · refine aw_aload_n rfl rfl d_S_comer_35 (aw_getr (r := o0 + 1) fl_S_12 h_o0 (by decide) rfl (rc_8_0 _ h_o0).1 d_S_comer_36 (aw_iload_n rfl rfl d_S_comer_39 (aw_iload_n rfl rfl d_S_comer_40 (aw_iload_n rfl rfl d_S_comer_41 (aw_iload rfl d_S_comer_42 (aw_iload rfl d_S_comer_44 ?_))))))
            obtain ⟨y4, I5, c6, hf⟩ := of_zb hf
            refine ai_callVv (as := [.int (iv a1), .int (iv a2), .int (iv a3), .int (iv a4), .int (iv a5)]) (d' := 1) (q := ("SinglesUp$Hill", zT2, 14)) mo_H_tellComer lk_S_93 (rc_8_0 _ h_o0).2 rfl rfl rfl ⟨by decide, by decide⟩ rfl rfl (by decide) d_S_comer_46 (t_H_tellComer fu (o0 + 1) a1 a2 a3 a4 a5 I2 h_I2 (rc_8_0 _ h_o0).2 h_a1 h_a2 h_a3 h_a4 h_a5 c6) (fun h_I5 => ?_)
            refine aw_iconst (v := iv 1) rfl d_S_comer_49 ?_
            exact ai_retn rfl (nar_z (Or.inr rfl)) d_S_comer_50 hf in_1 h_I5
          · refine aw_iconst (v := iv 0) rfl d_S_comer_33 ?_
            exact ai_retn rfl (nar_z (Or.inl rfl)) d_S_comer_34 hf in_0 h_I2
set_option maxRecDepth 20000 in
theorem t_R_hasRoomForFive (fu : Nat) (o0 : Nat) (I0 : IMem) (hI : RG I0) (h_o0 : KC[o0]? = some (10, 13)) {r : Int × IMem} (hf : f_R_hasRoomForFive fu o0 I0 = some r) : Ss l b 1 y_R_hasRoomForFive KC RC [.ref o0] (ivm I0) (Ps r) := by
  unfold f_R_hasRoomForFive at hf
  refine Ss.of (show Ai l b 1 y_R_hasRoomForFive KC RC (Ps r) I0 0 [.ref o0] [] from ?_)
  refine aw_aload_n rfl rfl d_R_hasRoomForFive_0 (ai_geti fl_R_35 h_o0 (by decide) rfl d_R_hasRoomForFive_1 (aw_sipush (v := iv 380) cs_380 d_R_hasRoomForFive_4 ?_))
  refine ai_icmp_gt (hI o0 1) in_380 hf (tgt := 14) (by decide) d_R_hasRoomForFive_7 (fun hf => ?_) (fun hf => ?_)
  · refine aw_iconst (v := iv 0) rfl d_R_hasRoomForFive_14 ?_
    exact ai_retn rfl (nar_z (Or.inl rfl)) d_R_hasRoomForFive_15 hf in_0 hI
  · refine aw_iconst (v := iv 1) rfl d_R_hasRoomForFive_10 (aw_goto (tgt := 15) (by decide) d_R_hasRoomForFive_11 ?_)
    exact ai_retn rfl (nar_z (Or.inr rfl)) d_R_hasRoomForFive_15 hf in_1 hI
set_option maxRecDepth 20000 in
theorem t_R_take_3 (fu : Nat) {r : Int × IMem} (o0 : Nat) (p1 : Int) (h_o0 : KC[o0]? = some (10, 13)) (h_p1 : inr p1) : ∀ (m : Nat) (w2 : Int) (I0 : IMem), inr w2 → RG I0 → f_R_take_3 fu o0 p1 m w2 I0 = some r → Ai l b 1 y_R_take KC RC (Pv r) I0 3 [.ref o0, .int (iv p1), .int (iv w2)] [] := by
  intro m
  induction m with
  | zero => intro w2 I0 h_w2 h_I0 hf; cases hf
  | succ m ih =>
    intro w2 I0 h_w2 h_I0 hf
    replace hf : fb_R_take_3 fu o0 p1 (f_R_take_3 fu o0 p1 m) w2 I0 = some r := hf
    unfold fb_R_take_3 at hf
    refine aw_iload_n rfl rfl d_R_take_3 ?_
    refine ai_if_lt h_w2 hf (tgt := 56) (by decide) d_R_take_4 (fun hf => ?_) (fun hf => ?_)
    · exact ai_retv rfl d_R_take_56 hf h_I0
    · refine aw_aload_n rfl rfl d_R_take_7 (ai_geti fl_R_35 h_o0 (by decide) rfl d_R_take_8 ?_)
      obtain ⟨k1, ek1, hf⟩ := of_zj hf
      have hk1 : ∀  (I2 : IMem), RG I2 → k1 I2 = some r → Ai l b 1 y_R_take KC RC (Pv r) I2 50 [.ref o0, .int (iv p1), .int (iv w2)] [] := by
        intro I2 h_I2 hf
        subst ek1
        refine ai_iinc (n := (-8)) (lv2 := fun x3 => [.ref o0, .int (iv p1), .int (iv x3)]) hf rfl (Nat.le_of_ble_eq_true rfl) (fun _ => rfl) d_R_take_50 (fun x3 h_x3 hf => ?_)
        refine aw_goto (tgt := 3) (by decide) d_R_take_53 ?_
        exact ih x3 I2 h_x3 h_I2 hf
      refine ai_if_lt (h_I0 o0 1) hf (tgt := 50) (by decide) d_R_take_11 (fun hf => ?_) (fun hf => ?_)
      · exact hk1 I0 h_I0 hf
      · refine aw_aload_n rfl rfl d_R_take_14 (ai_geti fl_R_35 h_o0 (by decide) rfl d_R_take_15 (aw_sipush (v := iv 400) cs_400 d_R_take_18 ?_))
        refine ai_icmp_ge (h_I0 o0 1) in_400 hf (tgt := 50) (by decide) d_R_take_21 (fun hf => ?_) (fun hf => ?_)
        · exact hk1 I0 h_I0 hf
        · refine aw_aload_n rfl rfl d_R_take_24 (aw_getr (r := o0 + 1) fl_R_11 h_o0 (by decide) rfl (rc_7_0 _ h_o0).1 d_R_take_25 (aw_aload_n rfl rfl d_R_take_28 (ai_geti fl_R_35 h_o0 (by decide) rfl d_R_take_29 (aw_iload_n rfl rfl d_R_take_32 (aw_iload_n rfl rfl d_R_take_33 (ai_iushr d_R_take_34 (aw_sipush (v := iv 255) cs_255 d_R_take_35 (ai_iand d_R_take_38 ?_))))))))
          refine ai_nameU hf (h_I0 o0 1) (fun x5 h_x5 hf => ?_)
          refine ai_iast (rc_7_0 _ h_o0).2 rfl h_x5 (wand_in _ _) h_I0 hf d_R_take_39 (fun _ I4 h_I4 hf => ?_)
          refine aw_aload_n rfl rfl d_R_take_40 (aw_dup rfl d_R_take_41 (ai_geti fl_R_35 h_o0 (by decide) rfl d_R_take_42 (aw_iconst (v := iv 1) rfl d_R_take_45 (ai_iadd d_R_take_46 ?_))))
          refine ai_puti hf h_I4 (wr32_in _) fl_R_35 h_o0 (by decide) rfl rfl rfl rfl d_R_take_47 (fun I6 h_I6 hf => ?_)
          exact hk1 I6 h_I6 hf
set_option maxRecDepth 20000 in
theorem t_R_take (fu : Nat) (o0 : Nat) (a1 : Int) (I0 : IMem) (hI : RG I0) (h_o0 : KC[o0]? = some (10, 13)) (h_a1 : inr a1) {r : Int × IMem} (hf : f_R_take fu o0 a1 I0 = some r) : Ss l b 1 y_R_take KC RC [.ref o0, .int (iv a1)] (ivm I0) (Pv r) := by
  unfold f_R_take at hf
  refine Ss.of (show Ai l b 1 y_R_take KC RC (Pv r) I0 0 [.ref o0, .int (iv a1), uu] [] from ?_)
  refine aw_bipush (v := iv 24) cb_24 d_R_take_0 (aw_istore_n (lv2 := [.ref o0, .int (iv a1), .int (iv 24)]) rfl (Nat.le_of_ble_eq_true rfl) rfl d_R_take_2 ?_)
  refine t_R_take_3 fu o0 a1 h_o0 h_a1 fu 24 I0 in_24 hI hf
set_option maxRecDepth 20000 in
theorem t_S_feed (fu : Nat) (o0 : Nat) (a1 : Int) (a2 : Int) (a3 : Int) (a4 : Int) (a5 : Int) (I0 : IMem) (hI : RG I0) (h_o0 : KC[o0]? = some (11, 9)) (h_a1 : inr a1) (h_a2 : inr a2) (h_a3 : inr a3) (h_a4 : inr a4) (h_a5 : inr a5) {r : Int × IMem} (hf : f_S_feed fu o0 a1 a2 a3 a4 a5 I0 = some r) : Ss l b 2 y_S_feed KC RC [.ref o0, .int (iv a1), .int (iv a2), .int (iv a3), .int (iv a4), .int (iv a5)] (ivm I0) (Ps r) := by
  unfold f_S_feed at hf
  refine Ss.of (show Ai l b 2 y_S_feed KC RC (Ps r) I0 0 [.ref o0, .int (iv a1), .int (iv a2), .int (iv a3), .int (iv a4), .int (iv a5)] [] from ?_)
  refine aw_aload_n rfl rfl d_S_feed_0 (aw_getr (r := o0 + 144) fl_S_39 h_o0 (by decide) rfl (rc_8_5 _ h_o0).1 d_S_feed_1 ?_)
  obtain ⟨y1, I2, c3, hf⟩ := of_zb hf
  refine ai_callV (as := []) (d' := 1) (q := ("SinglesUp$Reader", zT7, 13)) mo_R_hasRoomForFive lk_S_97 (rc_8_5 _ h_o0).2 rfl rfl rfl ⟨by decide, by decide⟩ rfl rfl (by decide) d_S_feed_4 (t_R_hasRoomForFive fu (o0 + 144) I0 hI (rc_8_5 _ h_o0).2 c3) (fun h_y1 h_I2 => ?_)
  refine ai_if_ne h_y1 hf (tgt := 12) (by decide) d_S_feed_7 (fun hf => ?_) (fun hf => ?_)
  · refine aw_aload_n rfl rfl d_S_feed_12 (aw_getr (r := o0 + 144) fl_S_39 h_o0 (by decide) rfl (rc_8_5 _ h_o0).1 d_S_feed_13 (aw_iload_n rfl rfl d_S_feed_16 ?_))
    obtain ⟨y4, I5, c6, hf⟩ := of_zb hf
    refine ai_callVv (as := [.int (iv a1)]) (d' := 1) (q := ("SinglesUp$Reader", zT7, 13)) mo_R_take lk_S_101 (rc_8_5 _ h_o0).2 rfl rfl rfl ⟨by decide, by decide⟩ rfl rfl (by decide) d_S_feed_17 (t_R_take fu (o0 + 144) a1 I2 h_I2 (rc_8_5 _ h_o0).2 h_a1 c6) (fun h_I5 => ?_)
    refine aw_aload_n rfl rfl d_S_feed_20 (aw_getr (r := o0 + 144) fl_S_39 h_o0 (by decide) rfl (rc_8_5 _ h_o0).1 d_S_feed_21 (aw_iload_n rfl rfl d_S_feed_24 ?_))
    obtain ⟨y7, I8, c9, hf⟩ := of_zb hf
    refine ai_callVv (as := [.int (iv a2)]) (d' := 1) (q := ("SinglesUp$Reader", zT7, 13)) mo_R_take lk_S_101 (rc_8_5 _ h_o0).2 rfl rfl rfl ⟨by decide, by decide⟩ rfl rfl (by decide) d_S_feed_25 (t_R_take fu (o0 + 144) a2 I5 h_I5 (rc_8_5 _ h_o0).2 h_a2 c9) (fun h_I8 => ?_)
    refine aw_aload_n rfl rfl d_S_feed_28 (aw_getr (r := o0 + 144) fl_S_39 h_o0 (by decide) rfl (rc_8_5 _ h_o0).1 d_S_feed_29 (aw_iload_n rfl rfl d_S_feed_32 ?_))
    obtain ⟨y10, I11, c12, hf⟩ := of_zb hf
    refine ai_callVv (as := [.int (iv a3)]) (d' := 1) (q := ("SinglesUp$Reader", zT7, 13)) mo_R_take lk_S_101 (rc_8_5 _ h_o0).2 rfl rfl rfl ⟨by decide, by decide⟩ rfl rfl (by decide) d_S_feed_33 (t_R_take fu (o0 + 144) a3 I8 h_I8 (rc_8_5 _ h_o0).2 h_a3 c12) (fun h_I11 => ?_)
    refine aw_aload_n rfl rfl d_S_feed_36 (aw_getr (r := o0 + 144) fl_S_39 h_o0 (by decide) rfl (rc_8_5 _ h_o0).1 d_S_feed_37 (aw_iload rfl d_S_feed_40 ?_))
    obtain ⟨y13, I14, c15, hf⟩ := of_zb hf
    refine ai_callVv (as := [.int (iv a4)]) (d' := 1) (q := ("SinglesUp$Reader", zT7, 13)) mo_R_take lk_S_101 (rc_8_5 _ h_o0).2 rfl rfl rfl ⟨by decide, by decide⟩ rfl rfl (by decide) d_S_feed_42 (t_R_take fu (o0 + 144) a4 I11 h_I11 (rc_8_5 _ h_o0).2 h_a4 c15) (fun h_I14 => ?_)
    refine aw_aload_n rfl rfl d_S_feed_45 (aw_getr (r := o0 + 144) fl_S_39 h_o0 (by decide) rfl (rc_8_5 _ h_o0).1 d_S_feed_46 (aw_iload rfl d_S_feed_49 ?_))
    obtain ⟨y16, I17, c18, hf⟩ := of_zb hf
    refine ai_callVv (as := [.int (iv a5)]) (d' := 1) (q := ("SinglesUp$Reader", zT7, 13)) mo_R_take lk_S_101 (rc_8_5 _ h_o0).2 rfl rfl rfl ⟨by decide, by decide⟩ rfl rfl (by decide) d_S_feed_51 (t_R_take fu (o0 + 144) a5 I14 h_I14 (rc_8_5 _ h_o0).2 h_a5 c18) (fun h_I17 => ?_)
    refine aw_aload_n rfl rfl d_S_feed_54 (aw_getr (r := o0 + 144) fl_S_39 h_o0 (by decide) rfl (rc_8_5 _ h_o0).1 d_S_feed_55 (ai_geti fl_S_104 (rc_8_5 _ h_o0).2 (by decide) rfl d_S_feed_58 ?_))
    exact ai_reti rfl d_S_feed_61 hf (h_I17 (o0 + 144) 1) h_I17
  · refine aw_iconst (v := iv (-1)) rfl d_S_feed_10 ?_
    exact ai_reti rfl d_S_feed_11 hf in_m1 h_I2
set_option maxRecDepth 20000 in
theorem t_R_cut (fu : Nat) (o0 : Nat) (a1 : Int) (I0 : IMem) (hI : RG I0) (h_o0 : KC[o0]? = some (10, 13)) (h_a1 : inr a1) {r : Int × IMem} (hf : f_R_cut fu o0 a1 I0 = some r) : Ss l b 1 y_R_cut KC RC [.ref o0, .int (iv a1)] (ivm I0) (Ps r) := by
  unfold f_R_cut at hf
  refine Ss.of (show Ai l b 1 y_R_cut KC RC (Ps r) I0 0 [.ref o0, .int (iv a1)] [] from ?_)
  refine aw_iload_n rfl rfl d_R_cut_0 ?_
  refine ai_if_lt h_a1 hf (tgt := 12) (by decide) d_R_cut_1 (fun hf => ?_) (fun hf => ?_)
  · refine aw_iconst (v := iv 0) rfl d_R_cut_12 ?_
    exact ai_retn rfl (nar_z (Or.inl rfl)) d_R_cut_13 hf in_0 hI
  · refine aw_iload_n rfl rfl d_R_cut_4 (aw_aload_n rfl rfl d_R_cut_5 (ai_geti fl_R_35 h_o0 (by decide) rfl d_R_cut_6 ?_))
    refine ai_icmp_le h_a1 (hI o0 1) hf (tgt := 14) (by decide) d_R_cut_9 (fun hf => ?_) (fun hf => ?_)
    · refine aw_aload_n rfl rfl d_R_cut_14 (aw_iload_n rfl rfl d_R_cut_15 ?_)
      refine ai_puti hf hI h_a1 fl_R_35 h_o0 (by decide) rfl rfl rfl rfl d_R_cut_16 (fun I1 h_I1 hf => ?_)
      refine aw_iconst (v := iv 1) rfl d_R_cut_19 ?_
      exact ai_retn rfl (nar_z (Or.inr rfl)) d_R_cut_20 hf in_1 h_I1
    · refine aw_iconst (v := iv 0) rfl d_R_cut_12 ?_
      exact ai_retn rfl (nar_z (Or.inl rfl)) d_R_cut_13 hf in_0 hI
set_option maxRecDepth 20000 in
theorem t_S_end (fu : Nat) (o0 : Nat) (a1 : Int) (I0 : IMem) (hI : RG I0) (h_o0 : KC[o0]? = some (11, 9)) (h_a1 : inr a1) {r : Int × IMem} (hf : f_S_end fu o0 a1 I0 = some r) : Ss l b 2 y_S_end KC RC [.ref o0, .int (iv a1)] (ivm I0) (Ps r) := by
  unfold f_S_end at hf
  refine Ss.of (show Ai l b 2 y_S_end KC RC (Ps r) I0 0 [.ref o0, .int (iv a1)] [] from ?_)
  refine aw_aload_n rfl rfl d_S_end_0 (aw_getr (r := o0 + 144) fl_S_39 h_o0 (by decide) rfl (rc_8_5 _ h_o0).1 d_S_end_1 (aw_iload_n rfl rfl d_S_end_4 ?_))
  obtain ⟨y1, I2, c3, hf⟩ := of_zb hf
  refine ai_callV (as := [.int (iv a1)]) (d' := 1) (q := ("SinglesUp$Reader", zT7, 13)) mo_R_cut lk_S_107 (rc_8_5 _ h_o0).2 rfl rfl rfl ⟨by decide, by decide⟩ rfl rfl (by decide) d_S_end_5 (t_R_cut fu (o0 + 144) a1 I0 hI (rc_8_5 _ h_o0).2 h_a1 c3) (fun h_y1 h_I2 => ?_)
  obtain ⟨g, hf⟩ := of_zg hf
  exact ai_retn rfl (nar_z g) d_S_end_8 hf h_y1 h_I2
set_option maxRecDepth 20000 in
theorem t_R_forget (fu : Nat) (o0 : Nat) (I0 : IMem) (hI : RG I0) (h_o0 : KC[o0]? = some (10, 13)) {r : Int × IMem} (hf : f_R_forget fu o0 I0 = some r) : Ss l b 1 y_R_forget KC RC [.ref o0] (ivm I0) (Pv r) := by
  unfold f_R_forget at hf
  refine Ss.of (show Ai l b 1 y_R_forget KC RC (Pv r) I0 0 [.ref o0] [] from ?_)
  refine aw_aload_n rfl rfl d_R_forget_0 (aw_iconst (v := iv 0) rfl d_R_forget_1 ?_)
  refine ai_puti hf hI in_0 fl_R_35 h_o0 (by decide) rfl rfl rfl rfl d_R_forget_2 (fun I1 h_I1 hf => ?_)
  refine aw_aload_n rfl rfl d_R_forget_5 (aw_iconst (v := iv 0) rfl d_R_forget_6 ?_)
  refine ai_puti hf h_I1 in_0 fl_R_38 h_o0 (by decide) rfl rfl rfl rfl d_R_forget_7 (fun I2 h_I2 hf => ?_)
  refine aw_aload_n rfl rfl d_R_forget_10 (aw_iconst (v := iv (-1)) rfl d_R_forget_11 ?_)
  refine ai_puti hf h_I2 in_m1 fl_R_24 h_o0 (by decide) rfl rfl rfl rfl d_R_forget_12 (fun I3 h_I3 hf => ?_)
  exact ai_retv rfl d_R_forget_15 hf h_I3
set_option maxRecDepth 20000 in
theorem t_R_advance (fu : Nat) (o0 : Nat) (I0 : IMem) (hI : RG I0) (h_o0 : KC[o0]? = some (10, 13)) {r : Int × IMem} (hf : f_R_advance fu o0 I0 = some r) : Ss l b 1 y_R_advance KC RC [.ref o0] (ivm I0) (Pv r) := by
  unfold f_R_advance at hf
  refine Ss.of (show Ai l b 1 y_R_advance KC RC (Pv r) I0 0 [.ref o0, uu] [] from ?_)
  refine aw_aload_n rfl rfl d_R_advance_0 (ai_geti fl_R_54 h_o0 (by decide) rfl d_R_advance_1 (aw_iconst (v := iv 1) rfl d_R_advance_4 (ai_iadd d_R_advance_5 ?_)))
  refine ai_name hf (wr32_in _) (fun x1 h_x1 hf => ?_)
  refine aw_istore_n (lv2 := [.ref o0, .int (iv x1)]) rfl (Nat.le_of_ble_eq_true rfl) rfl d_R_advance_6 ?_
  refine aw_aload_n rfl rfl d_R_advance_7 (ai_geti fl_R_38 h_o0 (by decide) rfl d_R_advance_8 ?_)
  refine ai_if_ne (hI o0 10) hf (tgt := 58) (by decide) d_R_advance_11 (fun hf => ?_) (fun hf => ?_)
  · exact ai_retv rfl d_R_advance_58 hf hI
  · refine aw_iload_n rfl rfl d_R_advance_14 ?_
    refine ai_if_lt h_x1 hf (tgt := 58) (by decide) d_R_advance_15 (fun hf => ?_) (fun hf => ?_)
    · exact ai_retv rfl d_R_advance_58 hf hI
    · refine aw_iload_n rfl rfl d_R_advance_18 (aw_sipush (v := iv 400) cs_400 d_R_advance_19 ?_)
      refine ai_icmp_gt h_x1 in_400 hf (tgt := 58) (by decide) d_R_advance_22 (fun hf => ?_) (fun hf => ?_)
      · exact ai_retv rfl d_R_advance_58 hf hI
      · refine aw_iload_n rfl rfl d_R_advance_25 (aw_aload_n rfl rfl d_R_advance_26 (ai_geti fl_R_66 h_o0 (by decide) rfl d_R_advance_27 ?_))
        refine ai_icmp_ge h_x1 (hI o0 5) hf (tgt := 58) (by decide) d_R_advance_30 (fun hf => ?_) (fun hf => ?_)
        · exact ai_retv rfl d_R_advance_58 hf hI
        · refine aw_aload_n rfl rfl d_R_advance_33 (aw_iload_n rfl rfl d_R_advance_34 ?_)
          refine ai_puti hf hI h_x1 fl_R_54 h_o0 (by decide) rfl rfl rfl rfl d_R_advance_35 (fun I2 h_I2 hf => ?_)
          refine aw_aload_n rfl rfl d_R_advance_38 (aw_aload_n rfl rfl d_R_advance_39 (aw_getr (r := o0 + 2) fl_R_15 h_o0 (by decide) rfl (rc_7_2 _ h_o0).1 d_R_advance_40 (aw_iload_n rfl rfl d_R_advance_43 ?_)))
          refine ai_iald (rc_7_2 _ h_o0).2 rfl h_x1 hf d_R_advance_44 (fun _ hf => ?_)
          refine ai_puti hf h_I2 (h_I2 (o0 + 2) x1.toNat) fl_R_60 h_o0 (by decide) rfl rfl rfl rfl d_R_advance_45 (fun I3 h_I3 hf => ?_)
          refine aw_aload_n rfl rfl d_R_advance_48 (aw_aload_n rfl rfl d_R_advance_49 (aw_getr (r := o0 + 4) fl_R_21 h_o0 (by decide) rfl (rc_7_4 _ h_o0).1 d_R_advance_50 (aw_iload_n rfl rfl d_R_advance_53 ?_)))
          refine ai_iald (rc_7_4 _ h_o0).2 rfl h_x1 hf d_R_advance_54 (fun _ hf => ?_)
          refine ai_puti hf h_I3 (h_I3 (o0 + 4) x1.toNat) fl_R_109 h_o0 (by decide) rfl rfl rfl rfl d_R_advance_55 (fun I4 h_I4 hf => ?_)
          exact ai_retv rfl d_R_advance_58 hf h_I4
set_option maxRecDepth 20000 in
theorem t_R_fail (fu : Nat) (o0 : Nat) (a1 : Int) (I0 : IMem) (hI : RG I0) (h_o0 : KC[o0]? = some (10, 13)) (h_a1 : inr a1) {r : Int × IMem} (hf : f_R_fail fu o0 a1 I0 = some r) : Ss l b 1 y_R_fail KC RC [.ref o0, .int (iv a1)] (ivm I0) (Pv r) := by
  unfold f_R_fail at hf
  refine Ss.of (show Ai l b 1 y_R_fail KC RC (Pv r) I0 0 [.ref o0, .int (iv a1)] [] from ?_)
  refine aw_aload_n rfl rfl d_R_fail_0 (ai_geti fl_R_38 h_o0 (by decide) rfl d_R_fail_1 ?_)
  refine ai_if_ne (hI o0 10) hf (tgt := 42) (by decide) d_R_fail_4 (fun hf => ?_) (fun hf => ?_)
  · exact ai_retv rfl d_R_fail_42 hf hI
  · refine aw_aload_n rfl rfl d_R_fail_7 (ai_geti fl_R_54 h_o0 (by decide) rfl d_R_fail_8 ?_)
    refine ai_if_lt (hI o0 6) hf (tgt := 42) (by decide) d_R_fail_11 (fun hf => ?_) (fun hf => ?_)
    · exact ai_retv rfl d_R_fail_42 hf hI
    · refine aw_aload_n rfl rfl d_R_fail_14 (ai_geti fl_R_54 h_o0 (by decide) rfl d_R_fail_15 (aw_sipush (v := iv 400) cs_400 d_R_fail_18 ?_))
      refine ai_icmp_gt (hI o0 6) in_400 hf (tgt := 42) (by decide) d_R_fail_21 (fun hf => ?_) (fun hf => ?_)
      · exact ai_retv rfl d_R_fail_42 hf hI
      · refine aw_aload_n rfl rfl d_R_fail_24 (aw_iload_n rfl rfl d_R_fail_25 ?_)
        refine ai_puti hf hI h_a1 fl_R_38 h_o0 (by decide) rfl rfl rfl rfl d_R_fail_26 (fun I1 h_I1 hf => ?_)
        refine aw_aload_n rfl rfl d_R_fail_29 (aw_aload_n rfl rfl d_R_fail_30 (aw_getr (r := o0 + 3) fl_R_18 h_o0 (by decide) rfl (rc_7_3 _ h_o0).1 d_R_fail_31 (aw_aload_n rfl rfl d_R_fail_34 (ai_geti fl_R_54 h_o0 (by decide) rfl d_R_fail_35 ?_))))
        refine ai_name hf (h_I1 o0 6) (fun x2 h_x2 hf => ?_)
        refine ai_iald (rc_7_3 _ h_o0).2 rfl h_x2 hf d_R_fail_38 (fun _ hf => ?_)
        refine ai_puti hf h_I1 (h_I1 (o0 + 3) x2.toNat) fl_R_24 h_o0 (by decide) rfl rfl rfl rfl d_R_fail_39 (fun I3 h_I3 hf => ?_)
        exact ai_retv rfl d_R_fail_42 hf h_I3
set_option maxRecDepth 20000 in
theorem t_R_expect (fu : Nat) (o0 : Nat) (a1 : Int) (I0 : IMem) (hI : RG I0) (h_o0 : KC[o0]? = some (10, 13)) (h_a1 : inr a1) {r : Int × IMem} (hf : f_R_expect fu o0 a1 I0 = some r) : Ss l b 2 y_R_expect KC RC [.ref o0, .int (iv a1)] (ivm I0) (Pv r) := by
  unfold f_R_expect at hf
  refine Ss.of (show Ai l b 2 y_R_expect KC RC (Pv r) I0 0 [.ref o0, .int (iv a1)] [] from ?_)
  refine aw_aload_n rfl rfl d_R_expect_0 (ai_geti fl_R_60 h_o0 (by decide) rfl d_R_expect_1 (aw_iload_n rfl rfl d_R_expect_4 ?_))
  refine ai_icmp_ne (hI o0 7) h_a1 hf (tgt := 15) (by decide) d_R_expect_5 (fun hf => ?_) (fun hf => ?_)
  · refine aw_aload_n rfl rfl d_R_expect_15 (aw_iconst (v := iv 1) rfl d_R_expect_16 ?_)
    obtain ⟨y1, I2, c3, hf⟩ := of_zb hf
    refine ai_callVv (as := [.int (iv 1)]) (d' := 1) (q := ("SinglesUp$Reader", zT7, 13)) mo_R_fail lk_R_112 h_o0 rfl rfl rfl ⟨by decide, by decide⟩ rfl rfl (by decide) d_R_expect_17 (t_R_fail fu o0 1 I0 hI h_o0 in_1 c3) (fun h_I2 => ?_)
    exact ai_retv rfl d_R_expect_20 hf h_I2
  · refine aw_aload_n rfl rfl d_R_expect_8 ?_
    obtain ⟨y4, I5, c6, hf⟩ := of_zb hf
    refine ai_callVv (as := []) (d' := 1) (q := ("SinglesUp$Reader", zT7, 13)) mo_R_advance lk_R_57 h_o0 rfl rfl rfl ⟨by decide, by decide⟩ rfl rfl (by decide) d_R_expect_9 (t_R_advance fu o0 I0 hI h_o0 c6) (fun h_I5 => ?_)
    refine aw_goto (tgt := 20) (by decide) d_R_expect_12 ?_
    exact ai_retv rfl d_R_expect_20 hf h_I5
set_option maxRecDepth 20000 in
theorem t_W_addStep (fu : Nat) (o0 : Nat) (a1 : Int) (I0 : IMem) (hI : RG I0) (h_o0 : KC[o0]? = some (6, 6)) (h_a1 : inr a1) {r : Int × IMem} (hf : f_W_addStep fu o0 a1 I0 = some r) : Ss l b 1 y_W_addStep KC RC [.ref o0, .int (iv a1)] (ivm I0) (Pv r) := by
  unfold f_W_addStep at hf
  refine Ss.of (show Ai l b 1 y_W_addStep KC RC (Pv r) I0 0 [.ref o0, .int (iv a1)] [] from ?_)
  refine aw_aload_n rfl rfl d_W_addStep_0 (ai_geti fl_W_22 h_o0 (by decide) rfl d_W_addStep_1 ?_)
  refine ai_if_lt (hI o0 1) hf (tgt := 37) (by decide) d_W_addStep_4 (fun hf => ?_) (fun hf => ?_)
  · exact ai_retv rfl d_W_addStep_37 hf hI
  · refine aw_aload_n rfl rfl d_W_addStep_7 (ai_geti fl_W_22 h_o0 (by decide) rfl d_W_addStep_8 (aw_sipush (v := iv 400) cs_400 d_W_addStep_11 ?_))
    refine ai_icmp_ge (hI o0 1) in_400 hf (tgt := 37) (by decide) d_W_addStep_14 (fun hf => ?_) (fun hf => ?_)
    · exact ai_retv rfl d_W_addStep_37 hf hI
    · refine aw_aload_n rfl rfl d_W_addStep_17 (aw_getr (r := o0 + 1) fl_W_9 h_o0 (by decide) rfl (rc_3_0 _ h_o0).1 d_W_addStep_18 (aw_aload_n rfl rfl d_W_addStep_21 (ai_geti fl_W_22 h_o0 (by decide) rfl d_W_addStep_22 (aw_iload_n rfl rfl d_W_addStep_25 ?_))))
      refine ai_nameU hf (hI o0 1) (fun x2 h_x2 hf => ?_)
      refine ai_iast (rc_3_0 _ h_o0).2 rfl h_x2 h_a1 hI hf d_W_addStep_26 (fun _ I1 h_I1 hf => ?_)
      refine aw_aload_n rfl rfl d_W_addStep_27 (aw_dup rfl d_W_addStep_28 (ai_geti fl_W_22 h_o0 (by decide) rfl d_W_addStep_29 (aw_iconst (v := iv 1) rfl d_W_addStep_32 (ai_iadd d_W_addStep_33 ?_))))
      refine ai_puti hf h_I1 (wr32_in _) fl_W_22 h_o0 (by decide) rfl rfl rfl rfl d_W_addStep_34 (fun I3 h_I3 hf => ?_)
      exact ai_retv rfl d_W_addStep_37 hf h_I3
set_option maxRecDepth 20000 in
theorem t_R_readDivisor (fu : Nat) (o0 : Nat) (I0 : IMem) (hI : RG I0) (h_o0 : KC[o0]? = some (10, 13)) {r : Int × IMem} (hf : f_R_readDivisor fu o0 I0 = some r) : Ss l b 2 y_R_readDivisor KC RC [.ref o0] (ivm I0) (Pv r) := by
  unfold f_R_readDivisor at hf
  refine Ss.of (show Ai l b 2 y_R_readDivisor KC RC (Pv r) I0 0 [.ref o0] [] from ?_)
  refine aw_aload_n rfl rfl d_R_readDivisor_0 (ai_geti fl_R_60 h_o0 (by decide) rfl d_R_readDivisor_1 (aw_bipush (v := iv 16) cb_16 d_R_readDivisor_4 ?_))
  refine ai_icmp_eq (hI o0 7) in_16 hf (tgt := 17) (by decide) d_R_readDivisor_6 (fun hf => ?_) (fun hf => ?_)
  · refine aw_aload_n rfl rfl d_R_readDivisor_17 (ai_geti fl_R_109 h_o0 (by decide) rfl d_R_readDivisor_18 ?_)
    refine ai_if_ne (hI o0 8) hf (tgt := 32) (by decide) d_R_readDivisor_21 (fun hf => ?_) (fun hf => ?_)
    · refine aw_aload_n rfl rfl d_R_readDivisor_32 (aw_getr (r := o0 + 5) fl_R_31 h_o0 (by decide) rfl (rc_7_12 _ h_o0).1 d_R_readDivisor_33 (aw_aload_n rfl rfl d_R_readDivisor_36 (ai_geti fl_R_109 h_o0 (by decide) rfl d_R_readDivisor_37 ?_)))
      obtain ⟨y1, I2, c3, hf⟩ := of_zb hf
      refine ai_callVv (as := [.int (iv (I0 o0 8))]) (d' := 1) (q := ("SinglesUp$Law", zT3, 6)) mo_W_addStep lk_R_138 (rc_7_12 _ h_o0).2 rfl rfl rfl ⟨by decide, by decide⟩ rfl rfl (by decide) d_R_readDivisor_40 (t_W_addStep fu (o0 + 5) (I0 o0 8) I0 hI (rc_7_12 _ h_o0).2 (hI o0 8) c3) (fun h_I2 => ?_)
      refine aw_aload_n rfl rfl d_R_readDivisor_43 (aw_getr (r := o0 + 5) fl_R_31 h_o0 (by decide) rfl (rc_7_12 _ h_o0).1 d_R_readDivisor_44 (aw_bipush (v := iv (-4)) cb_m4 d_R_readDivisor_47 ?_))
      obtain ⟨y4, I5, c6, hf⟩ := of_zb hf
      refine ai_callVv (as := [.int (iv ((-4)))]) (d' := 1) (q := ("SinglesUp$Law", zT3, 6)) mo_W_addStep lk_R_138 (rc_7_12 _ h_o0).2 rfl rfl rfl ⟨by decide, by decide⟩ rfl rfl (by decide) d_R_readDivisor_49 (t_W_addStep fu (o0 + 5) ((-4)) I2 h_I2 (rc_7_12 _ h_o0).2 in_m4 c6) (fun h_I5 => ?_)
      refine aw_aload_n rfl rfl d_R_readDivisor_52 ?_
      obtain ⟨y7, I8, c9, hf⟩ := of_zb hf
      refine ai_callVv (as := []) (d' := 1) (q := ("SinglesUp$Reader", zT7, 13)) mo_R_advance lk_R_57 h_o0 rfl rfl rfl ⟨by decide, by decide⟩ rfl rfl (by decide) d_R_readDivisor_53 (t_R_advance fu o0 I5 h_I5 h_o0 c9) (fun h_I8 => ?_)
      exact ai_retv rfl d_R_readDivisor_56 hf h_I8
    · refine aw_aload_n rfl rfl d_R_readDivisor_24 (aw_iconst (v := iv 2) rfl d_R_readDivisor_25 ?_)
      obtain ⟨y10, I11, c12, hf⟩ := of_zb hf
      refine ai_callVv (as := [.int (iv 2)]) (d' := 1) (q := ("SinglesUp$Reader", zT7, 13)) mo_R_fail lk_R_112 h_o0 rfl rfl rfl ⟨by decide, by decide⟩ rfl rfl (by decide) d_R_readDivisor_26 (t_R_fail fu o0 2 I0 hI h_o0 in_2 c12) (fun h_I11 => ?_)
      refine aw_goto (tgt := 56) (by decide) d_R_readDivisor_29 ?_
      exact ai_retv rfl d_R_readDivisor_56 hf h_I11
  · refine aw_aload_n rfl rfl d_R_readDivisor_9 (aw_iconst (v := iv 1) rfl d_R_readDivisor_10 ?_)
    obtain ⟨y13, I14, c15, hf⟩ := of_zb hf
    refine ai_callVv (as := [.int (iv 1)]) (d' := 1) (q := ("SinglesUp$Reader", zT7, 13)) mo_R_fail lk_R_112 h_o0 rfl rfl rfl ⟨by decide, by decide⟩ rfl rfl (by decide) d_R_readDivisor_11 (t_R_fail fu o0 1 I0 hI h_o0 in_1 c15) (fun h_I14 => ?_)
    refine aw_goto (tgt := 56) (by decide) d_R_readDivisor_14 ?_
    exact ai_retv rfl d_R_readDivisor_56 hf h_I14
set_option maxRecDepth 20000 in
theorem t_R_readUnit (fu : Nat) (o0 : Nat) (I0 : IMem) (hI : RG I0) (h_o0 : KC[o0]? = some (10, 13)) {r : Int × IMem} (hf : f_R_readUnit fu o0 I0 = some r) : Ss l b 2 y_R_readUnit KC RC [.ref o0] (ivm I0) (Pv r) := by
  unfold f_R_readUnit at hf
  refine Ss.of (show Ai l b 2 y_R_readUnit KC RC (Pv r) I0 0 [.ref o0, uu, uu] [] from ?_)
  refine aw_aload_n rfl rfl d_R_readUnit_0 (ai_geti fl_R_47 h_o0 (by decide) rfl d_R_readUnit_1 ?_)
  obtain ⟨k1, ek1, hf⟩ := of_zj hf
  have hk1 : ∀ (x3 : Int) (I2 : IMem), inr x3 → RG I2 → k1 x3 I2 = some r → Ai l b 2 y_R_readUnit KC RC (Pv r) I2 13 [.ref o0, uu, uu] [.int (iv x3)] := by
    intro x3 I2 h_x3 h_I2 hf
    subst ek1
    refine aw_istore_n (lv2 := [.ref o0, .int (iv x3), uu]) rfl (Nat.le_of_ble_eq_true rfl) rfl d_R_readUnit_13 (aw_aload_n rfl rfl d_R_readUnit_14 (ai_geti fl_R_47 h_o0 (by decide) rfl d_R_readUnit_15 ?_))
    obtain ⟨k4, ek4, hf⟩ := of_zj hf
    have hk4 : ∀ (x6 : Int) (I5 : IMem), inr x6 → RG I5 → k4 x6 I5 = some r → Ai l b 2 y_R_readUnit KC RC (Pv r) I5 28 [.ref o0, .int (iv x3), uu] [.int (iv x6)] := by
      intro x6 I5 h_x6 h_I5 hf
      subst ek4
      refine aw_istore_n (lv2 := [.ref o0, .int (iv x3), .int (iv x6)]) rfl (Nat.le_of_ble_eq_true rfl) rfl d_R_readUnit_28 (aw_aload_n rfl rfl d_R_readUnit_29 (ai_geti fl_R_60 h_o0 (by decide) rfl d_R_readUnit_30 (aw_bipush (v := iv 16) cb_16 d_R_readUnit_33 ?_)))
      refine ai_icmp_ne (h_I5 o0 7) in_16 hf (tgt := 56) (by decide) d_R_readUnit_35 (fun hf => ?_) (fun hf => ?_)
      · refine aw_aload_n rfl rfl d_R_readUnit_56 (ai_geti fl_R_60 h_o0 (by decide) rfl d_R_readUnit_57 (aw_iload_n rfl rfl d_R_readUnit_60 ?_))
        obtain ⟨k7, ek7, hf⟩ := of_zj hf
        have hk7 : ∀  (I8 : IMem), RG I8 → k7 I8 = some r → Ai l b 2 y_R_readUnit KC RC (Pv r) I8 94 [.ref o0, uu, uu] [] := by
          intro I8 h_I8 hf
          subst ek7
          refine aw_aload_n rfl rfl d_R_readUnit_94 (aw_iconst (v := iv 1) rfl d_R_readUnit_95 ?_)
          obtain ⟨y9, I10, c11, hf⟩ := of_zb hf
          refine ai_callVv (as := [.int (iv 1)]) (d' := 1) (q := ("SinglesUp$Reader", zT7, 13)) mo_R_fail lk_R_112 h_o0 rfl rfl rfl ⟨by decide, by decide⟩ rfl rfl (by decide) d_R_readUnit_96 (t_R_fail fu o0 1 I8 h_I8 h_o0 in_1 c11) (fun h_I10 => ?_)
          exact ai_retv rfl d_R_readUnit_99 hf h_I10
        refine ai_icmp_lt (h_I5 o0 7) h_x3 hf (tgt := 94) (by decide) d_R_readUnit_61 (fun hf => ?_) (fun hf => ?_)
        · refine aw_weakB (lv2 := [.ref o0, uu, uu]) (wk_s (wk_u (wk_u wk_n))) ?_
          exact hk7 I5 h_I5 hf
        · refine aw_aload_n rfl rfl d_R_readUnit_64 (ai_geti fl_R_60 h_o0 (by decide) rfl d_R_readUnit_65 (aw_iload_n rfl rfl d_R_readUnit_68 ?_))
          refine ai_icmp_gt (h_I5 o0 7) h_x6 hf (tgt := 94) (by decide) d_R_readUnit_69 (fun hf => ?_) (fun hf => ?_)
          · refine aw_weakB (lv2 := [.ref o0, uu, uu]) (wk_s (wk_u (wk_u wk_n))) ?_
            exact hk7 I5 h_I5 hf
          · refine aw_aload_n rfl rfl d_R_readUnit_72 (aw_getr (r := o0 + 5) fl_R_31 h_o0 (by decide) rfl (rc_7_12 _ h_o0).1 d_R_readUnit_73 (aw_sipush (v := iv 10000) cs_10000 d_R_readUnit_76 (aw_aload_n rfl rfl d_R_readUnit_79 (ai_geti fl_R_60 h_o0 (by decide) rfl d_R_readUnit_80 (ai_iadd d_R_readUnit_83 ?_)))))
            obtain ⟨y12, I13, c14, hf⟩ := of_zb hf
            refine ai_callVv (as := [.int (iv (wr32 (10000 + (I5 o0 7))))]) (d' := 1) (q := ("SinglesUp$Law", zT3, 6)) mo_W_addStep lk_R_138 (rc_7_12 _ h_o0).2 rfl rfl rfl ⟨by decide, by decide⟩ rfl rfl (by decide) d_R_readUnit_84 (t_W_addStep fu (o0 + 5) (wr32 (10000 + (I5 o0 7))) I5 h_I5 (rc_7_12 _ h_o0).2 (wr32_in _) c14) (fun h_I13 => ?_)
            refine aw_aload_n rfl rfl d_R_readUnit_87 ?_
            obtain ⟨y15, I16, c17, hf⟩ := of_zb hf
            refine ai_callVv (as := []) (d' := 1) (q := ("SinglesUp$Reader", zT7, 13)) mo_R_advance lk_R_57 h_o0 rfl rfl rfl ⟨by decide, by decide⟩ rfl rfl (by decide) d_R_readUnit_88 (t_R_advance fu o0 I13 h_I13 h_o0 c17) (fun h_I16 => ?_)
            refine aw_goto (tgt := 99) (by decide) d_R_readUnit_91 ?_
            exact ai_retv rfl d_R_readUnit_99 hf h_I16
      · refine aw_aload_n rfl rfl d_R_readUnit_38 (aw_getr (r := o0 + 5) fl_R_31 h_o0 (by decide) rfl (rc_7_12 _ h_o0).1 d_R_readUnit_39 (aw_aload_n rfl rfl d_R_readUnit_42 (ai_geti fl_R_109 h_o0 (by decide) rfl d_R_readUnit_43 ?_)))
        obtain ⟨y18, I19, c20, hf⟩ := of_zb hf
        refine ai_callVv (as := [.int (iv (I5 o0 8))]) (d' := 1) (q := ("SinglesUp$Law", zT3, 6)) mo_W_addStep lk_R_138 (rc_7_12 _ h_o0).2 rfl rfl rfl ⟨by decide, by decide⟩ rfl rfl (by decide) d_R_readUnit_46 (t_W_addStep fu (o0 + 5) (I5 o0 8) I5 h_I5 (rc_7_12 _ h_o0).2 (h_I5 o0 8) c20) (fun h_I19 => ?_)
        refine aw_aload_n rfl rfl d_R_readUnit_49 ?_
        obtain ⟨y21, I22, c23, hf⟩ := of_zb hf
        refine ai_callVv (as := []) (d' := 1) (q := ("SinglesUp$Reader", zT7, 13)) mo_R_advance lk_R_57 h_o0 rfl rfl rfl ⟨by decide, by decide⟩ rfl rfl (by decide) d_R_readUnit_50 (t_R_advance fu o0 I19 h_I19 h_o0 c23) (fun h_I22 => ?_)
        refine aw_goto (tgt := 99) (by decide) d_R_readUnit_53 ?_
        exact ai_retv rfl d_R_readUnit_99 hf h_I22
    refine ai_if_eq (h_I2 o0 9) hf (tgt := 26) (by decide) d_R_readUnit_18 (fun hf => ?_) (fun hf => ?_)
    · refine aw_bipush (v := iv 15) cb_15 d_R_readUnit_26 ?_
      exact hk4 15 I2 in_15 h_I2 hf
    · refine aw_bipush (v := iv 8) cb_8 d_R_readUnit_21 (aw_goto (tgt := 28) (by decide) d_R_readUnit_23 ?_)
      exact hk4 8 I2 in_8 h_I2 hf
  refine ai_if_eq (hI o0 9) hf (tgt := 11) (by decide) d_R_readUnit_4 (fun hf => ?_) (fun hf => ?_)
  · refine aw_bipush (v := iv 7) cb_7 d_R_readUnit_11 ?_
    exact hk1 7 I0 in_7 hI hf
  · refine aw_iconst (v := iv 5) rfl d_R_readUnit_7 (aw_goto (tgt := 13) (by decide) d_R_readUnit_8 ?_)
    exact hk1 5 I0 in_5 hI hf
set_option maxRecDepth 20000 in
theorem t_R_readSum_8 (fu : Nat) {r : Int × IMem} (k_121 : Int → IMem → Res) (o0 : Nat) (h_o0 : KC[o0]? = some (10, 13)) (hk_121 : ∀ (z1 : Int) (I9 : IMem), inr z1 → RG I9 → k_121 z1 I9 = some r → Ai l b 3 y_R_readSum KC RC (Pv r) I9 121 [.ref o0, .int (iv z1), uu, uu] []) : ∀ (m : Nat) (w1 : Int) (w2 : Int) (I0 : IMem), inr w1 → inr w2 → RG I0 → f_R_readSum_8 fu k_121 o0 m w1 w2 I0 = some r → Ai l b 3 y_R_readSum KC RC (Pv r) I0 8 [.ref o0, .int (iv w1), .int (iv w2), uu] [] := by
  intro m
  induction m with
  | zero => intro w1 w2 I0 h_w1 h_w2 h_I0 hf; cases hf
  | succ m ih =>
    intro w1 w2 I0 h_w1 h_w2 h_I0 hf
    replace hf : fb_R_readSum_8 fu k_121 o0 (f_R_readSum_8 fu k_121 o0 m) w1 w2 I0 = some r := hf
    unfold fb_R_readSum_8 at hf
    refine aw_iload_n rfl rfl d_R_readSum_8 (aw_sipush (v := iv 400) cs_400 d_R_readSum_9 ?_)
    refine ai_icmp_ge h_w2 in_400 hf (tgt := 121) (by decide) d_R_readSum_12 (fun hf => ?_) (fun hf => ?_)
    · refine aw_weakB (lv2 := [.ref o0, .int (iv w1), uu, uu]) (wk_s (wk_s (wk_u (wk_u wk_n)))) ?_
      exact hk_121 w1 I0 h_w1 h_I0 hf
    · refine aw_aload_n rfl rfl d_R_readSum_15 (ai_geti fl_R_38 h_o0 (by decide) rfl d_R_readSum_16 ?_)
      refine ai_if_ne (h_I0 o0 10) hf (tgt := 121) (by decide) d_R_readSum_19 (fun hf => ?_) (fun hf => ?_)
      · refine aw_weakB (lv2 := [.ref o0, .int (iv w1), uu, uu]) (wk_s (wk_s (wk_u (wk_u wk_n)))) ?_
        exact hk_121 w1 I0 h_w1 h_I0 hf
      · refine aw_aload_n rfl rfl d_R_readSum_22 (ai_geti fl_R_60 h_o0 (by decide) rfl d_R_readSum_23 ?_)
        refine ai_name hf (h_I0 o0 7) (fun x4 h_x4 hf => ?_)
        refine aw_istore_n (lv2 := [.ref o0, .int (iv w1), .int (iv w2), .int (iv x4)]) rfl (Nat.le_of_ble_eq_true rfl) rfl d_R_readSum_26 ?_
        refine aw_iload_n rfl rfl d_R_readSum_27 (aw_bipush (v := iv 42) cb_42 d_R_readSum_28 ?_)
        obtain ⟨k5, ek5, hf⟩ := of_zj hf
        have hk5 : ∀ (x7 : Int) (I6 : IMem), inr x7 → RG I6 → k5 x7 I6 = some r → Ai l b 3 y_R_readSum KC RC (Pv r) I6 115 [.ref o0, .int (iv x7), .int (iv w2), uu] [] := by
          intro x7 I6 h_x7 h_I6 hf
          subst ek5
          refine ai_iinc (n := 1) (lv2 := fun x8 => [.ref o0, .int (iv x7), .int (iv x8), uu]) hf rfl (Nat.le_of_ble_eq_true rfl) (fun _ => rfl) d_R_readSum_115 (fun x8 h_x8 hf => ?_)
          refine aw_goto (tgt := 8) (by decide) d_R_readSum_118 ?_
          exact ih x7 x8 I6 h_x7 h_x8 h_I6 hf
        refine ai_icmp_ne h_x4 in_42 hf (tgt := 53) (by decide) d_R_readSum_30 (fun hf => ?_) (fun hf => ?_)
        · refine aw_iload_n rfl rfl d_R_readSum_53 (aw_bipush (v := iv 47) cb_47 d_R_readSum_54 ?_)
          refine ai_icmp_ne h_x4 in_47 hf (tgt := 70) (by decide) d_R_readSum_56 (fun hf => ?_) (fun hf => ?_)
          · refine aw_iload_n rfl rfl d_R_readSum_70 (aw_bipush (v := iv 43) cb_43 d_R_readSum_71 ?_)
            obtain ⟨k9, ek9, hf⟩ := of_zj hf
            have hk9 : ∀  (I10 : IMem), RG I10 → k9 I10 = some r → Ai l b 3 y_R_readSum KC RC (Pv r) I10 82 [.ref o0, .int (iv w1), .int (iv w2), .int (iv x4)] [] := by
              intro I10 h_I10 hf
              subst ek9
              refine aw_aload_n rfl rfl d_R_readSum_82 ?_
              obtain ⟨y11, I12, c13, hf⟩ := of_zb hf
              refine ai_callVv (as := []) (d' := 1) (q := ("SinglesUp$Reader", zT7, 13)) mo_R_advance lk_R_57 h_o0 rfl rfl rfl ⟨by decide, by decide⟩ rfl rfl (by decide) d_R_readSum_83 (t_R_advance fu o0 I10 h_I10 h_o0 c13) (fun h_I12 => ?_)
              refine aw_iload_n rfl rfl d_R_readSum_86 ?_
              obtain ⟨k14, ek14, hf⟩ := of_zj hf
              have hk14 : ∀  (I15 : IMem), RG I15 → k14 I15 = some r → Ai l b 3 y_R_readSum KC RC (Pv r) I15 98 [.ref o0, uu, .int (iv w2), .int (iv x4)] [] := by
                intro I15 h_I15 hf
                subst ek14
                refine aw_iload_n rfl rfl d_R_readSum_98 (aw_bipush (v := iv 43) cb_43 d_R_readSum_99 ?_)
                obtain ⟨k16, ek16, hf⟩ := of_zj hf
                have hk16 : ∀ (x18 : Int) (I17 : IMem), inr x18 → RG I17 → k16 x18 I17 = some r → Ai l b 3 y_R_readSum KC RC (Pv r) I17 110 [.ref o0, uu, .int (iv w2), uu] [.int (iv x18)] := by
                  intro x18 I17 h_x18 h_I17 hf
                  subst ek16
                  refine aw_istore_n (lv2 := [.ref o0, .int (iv x18), .int (iv w2), uu]) rfl (Nat.le_of_ble_eq_true rfl) rfl d_R_readSum_110 (aw_aload_n rfl rfl d_R_readSum_111 ?_)
                  obtain ⟨y19, I20, c21, hf⟩ := of_zb hf
                  refine ai_callVv (as := []) (d' := 2) (q := ("SinglesUp$Reader", zT7, 13)) mo_R_readUnit lk_R_144 h_o0 rfl rfl rfl ⟨by decide, by decide⟩ rfl rfl (by decide) d_R_readSum_112 (t_R_readUnit fu o0 I17 h_I17 h_o0 c21) (fun h_I20 => ?_)
                  exact hk5 x18 I20 h_x18 h_I20 hf
                refine ai_icmp_ne h_x4 in_43 hf (tgt := 108) (by decide) d_R_readSum_101 (fun hf => ?_) (fun hf => ?_)
                · refine aw_bipush (v := iv (-2)) cb_m2 d_R_readSum_108 ?_
                  refine aw_weakB (lv2 := [.ref o0, uu, .int (iv w2), uu]) (wk_s (wk_u (wk_s (wk_u wk_n)))) ?_
                  exact hk16 ((-2)) I15 in_m2 h_I15 hf
                · refine aw_iconst (v := iv (-1)) rfl d_R_readSum_104 (aw_goto (tgt := 110) (by decide) d_R_readSum_105 ?_)
                  refine aw_weakB (lv2 := [.ref o0, uu, .int (iv w2), uu]) (wk_s (wk_u (wk_s (wk_u wk_n)))) ?_
                  exact hk16 ((-1)) I15 in_m1 h_I15 hf
              refine ai_if_eq h_w1 hf (tgt := 98) (by decide) d_R_readSum_87 (fun hf => ?_) (fun hf => ?_)
              · refine aw_weakB (lv2 := [.ref o0, uu, .int (iv w2), .int (iv x4)]) (wk_s (wk_u (wk_s (wk_s wk_n)))) ?_
                exact hk14 I12 h_I12 hf
              · refine aw_aload_n rfl rfl d_R_readSum_90 (aw_getr (r := o0 + 5) fl_R_31 h_o0 (by decide) rfl (rc_7_12 _ h_o0).1 d_R_readSum_91 (aw_iload_n rfl rfl d_R_readSum_94 ?_))
                obtain ⟨y22, I23, c24, hf⟩ := of_zb hf
                refine ai_callVv (as := [.int (iv w1)]) (d' := 1) (q := ("SinglesUp$Law", zT3, 6)) mo_W_addStep lk_R_138 (rc_7_12 _ h_o0).2 rfl rfl rfl ⟨by decide, by decide⟩ rfl rfl (by decide) d_R_readSum_95 (t_W_addStep fu (o0 + 5) w1 I12 h_I12 (rc_7_12 _ h_o0).2 h_w1 c24) (fun h_I23 => ?_)
                refine aw_weakB (lv2 := [.ref o0, uu, .int (iv w2), .int (iv x4)]) (wk_s (wk_u (wk_s (wk_s wk_n)))) ?_
                exact hk14 I23 h_I23 hf
            refine ai_icmp_eq h_x4 in_43 hf (tgt := 82) (by decide) d_R_readSum_73 (fun hf => ?_) (fun hf => ?_)
            · exact hk9 I0 h_I0 hf
            · refine aw_iload_n rfl rfl d_R_readSum_76 (aw_bipush (v := iv 45) cb_45 d_R_readSum_77 ?_)
              refine ai_icmp_ne h_x4 in_45 hf (tgt := 121) (by decide) d_R_readSum_79 (fun hf => ?_) (fun hf => ?_)
              · refine aw_weakB (lv2 := [.ref o0, .int (iv w1), uu, uu]) (wk_s (wk_s (wk_u (wk_u wk_n)))) ?_
                exact hk_121 w1 I0 h_w1 h_I0 hf
              · exact hk9 I0 h_I0 hf
          · refine aw_aload_n rfl rfl d_R_readSum_59 ?_
            obtain ⟨y25, I26, c27, hf⟩ := of_zb hf
            refine ai_callVv (as := []) (d' := 1) (q := ("SinglesUp$Reader", zT7, 13)) mo_R_advance lk_R_57 h_o0 rfl rfl rfl ⟨by decide, by decide⟩ rfl rfl (by decide) d_R_readSum_60 (t_R_advance fu o0 I0 h_I0 h_o0 c27) (fun h_I26 => ?_)
            refine aw_aload_n rfl rfl d_R_readSum_63 ?_
            obtain ⟨y28, I29, c30, hf⟩ := of_zb hf
            refine ai_callVv (as := []) (d' := 2) (q := ("SinglesUp$Reader", zT7, 13)) mo_R_readDivisor lk_R_147 h_o0 rfl rfl rfl ⟨by decide, by decide⟩ rfl rfl (by decide) d_R_readSum_64 (t_R_readDivisor fu o0 I26 h_I26 h_o0 c30) (fun h_I29 => ?_)
            refine aw_goto (tgt := 115) (by decide) d_R_readSum_67 ?_
            refine aw_weakB (lv2 := [.ref o0, .int (iv w1), .int (iv w2), uu]) (wk_s (wk_s (wk_s (wk_u wk_n)))) ?_
            exact hk5 w1 I29 h_w1 h_I29 hf
        · refine aw_aload_n rfl rfl d_R_readSum_33 ?_
          obtain ⟨y31, I32, c33, hf⟩ := of_zb hf
          refine ai_callVv (as := []) (d' := 1) (q := ("SinglesUp$Reader", zT7, 13)) mo_R_advance lk_R_57 h_o0 rfl rfl rfl ⟨by decide, by decide⟩ rfl rfl (by decide) d_R_readSum_34 (t_R_advance fu o0 I0 h_I0 h_o0 c33) (fun h_I32 => ?_)
          refine aw_aload_n rfl rfl d_R_readSum_37 ?_
          obtain ⟨y34, I35, c36, hf⟩ := of_zb hf
          refine ai_callVv (as := []) (d' := 2) (q := ("SinglesUp$Reader", zT7, 13)) mo_R_readUnit lk_R_144 h_o0 rfl rfl rfl ⟨by decide, by decide⟩ rfl rfl (by decide) d_R_readSum_38 (t_R_readUnit fu o0 I32 h_I32 h_o0 c36) (fun h_I35 => ?_)
          refine aw_aload_n rfl rfl d_R_readSum_41 (aw_getr (r := o0 + 5) fl_R_31 h_o0 (by decide) rfl (rc_7_12 _ h_o0).1 d_R_readSum_42 (aw_bipush (v := iv (-3)) cb_m3 d_R_readSum_45 ?_))
          obtain ⟨y37, I38, c39, hf⟩ := of_zb hf
          refine ai_callVv (as := [.int (iv ((-3)))]) (d' := 1) (q := ("SinglesUp$Law", zT3, 6)) mo_W_addStep lk_R_138 (rc_7_12 _ h_o0).2 rfl rfl rfl ⟨by decide, by decide⟩ rfl rfl (by decide) d_R_readSum_47 (t_W_addStep fu (o0 + 5) ((-3)) I35 h_I35 (rc_7_12 _ h_o0).2 in_m3 c39) (fun h_I38 => ?_)
          refine aw_goto (tgt := 115) (by decide) d_R_readSum_50 ?_
          refine aw_weakB (lv2 := [.ref o0, .int (iv w1), .int (iv w2), uu]) (wk_s (wk_s (wk_s (wk_u wk_n)))) ?_
          exact hk5 w1 I38 h_w1 h_I38 hf
set_option maxRecDepth 20000 in
theorem t_R_readSum (fu : Nat) (o0 : Nat) (I0 : IMem) (hI : RG I0) (h_o0 : KC[o0]? = some (10, 13)) {r : Int × IMem} (hf : f_R_readSum fu o0 I0 = some r) : Ss l b 3 y_R_readSum KC RC [.ref o0] (ivm I0) (Pv r) := by
  unfold f_R_readSum at hf
  refine Ss.of (show Ai l b 3 y_R_readSum KC RC (Pv r) I0 0 [.ref o0, uu, uu, uu] [] from ?_)
  refine aw_iconst (v := iv 0) rfl d_R_readSum_0 (aw_istore_n (lv2 := [.ref o0, .int (iv 0), uu, uu]) rfl (Nat.le_of_ble_eq_true rfl) rfl d_R_readSum_1 (aw_aload_n rfl rfl d_R_readSum_2 ?_))
  obtain ⟨y1, I2, c3, hf⟩ := of_zb hf
  refine ai_callVv (as := []) (d' := 2) (q := ("SinglesUp$Reader", zT7, 13)) mo_R_readUnit lk_R_144 h_o0 rfl rfl rfl ⟨by decide, by decide⟩ rfl rfl (by decide) d_R_readSum_3 (t_R_readUnit fu o0 I0 hI h_o0 c3) (fun h_I2 => ?_)
  refine aw_iconst (v := iv 0) rfl d_R_readSum_6 (aw_istore_n (lv2 := [.ref o0, .int (iv 0), .int (iv 0), uu]) rfl (Nat.le_of_ble_eq_true rfl) rfl d_R_readSum_7 ?_)
  refine t_R_readSum_8 fu _ o0 h_o0 ?_ fu 0 0 I2 in_0 in_0 h_I2 hf
  · intro x41 I40 h_x41 h_I40 hf
    refine aw_iload_n rfl rfl d_R_readSum_121 ?_
    refine ai_if_eq h_x41 hf (tgt := 133) (by decide) d_R_readSum_122 (fun hf => ?_) (fun hf => ?_)
    · exact ai_retv rfl d_R_readSum_133 hf h_I40
    · refine aw_aload_n rfl rfl d_R_readSum_125 (aw_getr (r := o0 + 5) fl_R_31 h_o0 (by decide) rfl (rc_7_12 _ h_o0).1 d_R_readSum_126 (aw_iload_n rfl rfl d_R_readSum_129 ?_))
      obtain ⟨y42, I43, c44, hf⟩ := of_zb hf
      refine ai_callVv (as := [.int (iv x41)]) (d' := 1) (q := ("SinglesUp$Law", zT3, 6)) mo_W_addStep lk_R_138 (rc_7_12 _ h_o0).2 rfl rfl rfl ⟨by decide, by decide⟩ rfl rfl (by decide) d_R_readSum_130 (t_W_addStep fu (o0 + 5) x41 I40 h_I40 (rc_7_12 _ h_o0).2 h_x41 c44) (fun h_I43 => ?_)
      exact ai_retv rfl d_R_readSum_133 hf h_I43
set_option maxRecDepth 20000 in
theorem t_R_readEither_9 (fu : Nat) (n : Nat) {R : (Nat → Int → IMem → Res) × (Nat → Int → IMem → Res)} (ihg : (∀ (o0 : Nat) (a1 : Int) (I0 : IMem), RG I0 → KC[o0]? = some (10, 13) → inr a1 → ∀ (r : Int × IMem), R.1 o0 a1 I0 = some r → Ss l b (4 + n) y_R_readEither KC RC [.ref o0, .int (iv a1)] (ivm I0) (Pv r)) ∧ (∀ (o0 : Nat) (a1 : Int) (I0 : IMem), RG I0 → KC[o0]? = some (10, 13) → inr a1 → ∀ (r : Int × IMem), R.2 o0 a1 I0 = some r → Ss l b (4 + n) y_R_readTest KC RC [.ref o0, .int (iv a1)] (ivm I0) (Pv r))) {r : Int × IMem} (k_106 : Int → IMem → Res) (o0 : Nat) (p1 : Int) (h_o0 : KC[o0]? = some (10, 13)) (h_p1 : inr p1) (hk_106 : ∀ (z2 : Int) (I9 : IMem), inr z2 → RG I9 → k_106 z2 I9 = some r → Ai l b (4 + (n + 1)) y_R_readEither KC RC (Pv r) I9 106 [.ref o0, uu, .int (iv z2), uu, uu] []) : ∀ (m : Nat) (w2 : Int) (w3 : Int) (I0 : IMem), inr w2 → inr w3 → RG I0 → f_R_readEither_9 fu R k_106 o0 p1 m w2 w3 I0 = some r → Ai l b (4 + (n + 1)) y_R_readEither KC RC (Pv r) I0 9 [.ref o0, .int (iv p1), .int (iv w2), .int (iv w3), uu] [] := by
  intro m
  induction m with
  | zero => intro w2 w3 I0 h_w2 h_w3 h_I0 hf; cases hf
  | succ m ih =>
    intro w2 w3 I0 h_w2 h_w3 h_I0 hf
    replace hf : fb_R_readEither_9 fu R k_106 o0 p1 (f_R_readEither_9 fu R k_106 o0 p1 m) w2 w3 I0 = some r := hf
    unfold fb_R_readEither_9 at hf
    refine aw_iload_n rfl rfl d_R_readEither_9 (aw_sipush (v := iv 400) cs_400 d_R_readEither_10 ?_)
    refine ai_icmp_ge h_w3 in_400 hf (tgt := 106) (by decide) d_R_readEither_13 (fun hf => ?_) (fun hf => ?_)
    · refine aw_weakB (lv2 := [.ref o0, uu, .int (iv w2), uu, uu]) (wk_s (wk_u (wk_s (wk_u (wk_u wk_n))))) ?_
      exact hk_106 w2 I0 h_w2 h_I0 hf
    · refine aw_aload_n rfl rfl d_R_readEither_16 (ai_geti fl_R_38 h_o0 (by decide) rfl d_R_readEither_17 ?_)
      refine ai_if_ne (h_I0 o0 10) hf (tgt := 106) (by decide) d_R_readEither_20 (fun hf => ?_) (fun hf => ?_)
      · refine aw_weakB (lv2 := [.ref o0, uu, .int (iv w2), uu, uu]) (wk_s (wk_u (wk_s (wk_u (wk_u wk_n))))) ?_
        exact hk_106 w2 I0 h_w2 h_I0 hf
      · refine aw_aload_n rfl rfl d_R_readEither_23 (ai_geti fl_R_60 h_o0 (by decide) rfl d_R_readEither_24 (aw_iconst (v := iv 2) rfl d_R_readEither_27 ?_))
        obtain ⟨k4, ek4, hf⟩ := of_zj hf
        have hk4 : ∀  (I5 : IMem), RG I5 → k4 I5 = some r → Ai l b (4 + (n + 1)) y_R_readEither KC RC (Pv r) I5 39 [.ref o0, .int (iv p1), .int (iv w2), .int (iv w3), uu] [] := by
          intro I5 h_I5 hf
          subst ek4
          refine aw_aload_n rfl rfl d_R_readEither_39 (ai_geti fl_R_60 h_o0 (by decide) rfl d_R_readEither_40 (aw_iconst (v := iv 3) rfl d_R_readEither_43 ?_))
          obtain ⟨k6, ek6, hf⟩ := of_zj hf
          have hk6 : ∀ (x8 : Int) (I7 : IMem), inr x8 → RG I7 → k6 x8 I7 = some r → Ai l b (4 + (n + 1)) y_R_readEither KC RC (Pv r) I7 52 [.ref o0, .int (iv p1), .int (iv w2), .int (iv w3), uu] [.int (iv x8)] := by
            intro x8 I7 h_x8 h_I7 hf
            subst ek6
            refine aw_istore (lv2 := [.ref o0, .int (iv p1), .int (iv w2), .int (iv w3), .int (iv x8)]) (Nat.le_of_ble_eq_true rfl) rfl d_R_readEither_52 (aw_aload_n rfl rfl d_R_readEither_54 ?_)
            obtain ⟨y9, I10, c11, hf⟩ := of_zb hf
            refine ai_callVv (as := []) (d' := 1) (q := ("SinglesUp$Reader", zT7, 13)) mo_R_advance lk_R_57 h_o0 rfl rfl rfl ⟨by show 1 + 1 ≤ 4 + (n + 1); omega, by show 8 + (2 + 11) + 40 * 1 ≤ 40 * (4 + (n + 1)); omega⟩ rfl rfl (by decide) d_R_readEither_55 (t_R_advance fu o0 I7 h_I7 h_o0 c11) (fun h_I10 => ?_)
            refine aw_iload_n rfl rfl d_R_readEither_58 ?_
            obtain ⟨k12, ek12, hf⟩ := of_zj hf
            have hk12 : ∀  (I13 : IMem), RG I13 → k12 I13 = some r → Ai l b (4 + (n + 1)) y_R_readEither KC RC (Pv r) I13 76 [.ref o0, .int (iv p1), .int (iv w2), .int (iv w3), .int (iv x8)] [] := by
              intro I13 h_I13 hf
              subst ek12
              refine aw_aload_n rfl rfl d_R_readEither_76 (aw_iload_n rfl rfl d_R_readEither_77 ?_)
              obtain ⟨y14, I15, c16, hf⟩ := of_zb hf
              refine ai_callVv (as := [.int (iv p1)]) (d' := (4 + n)) (q := ("SinglesUp$Reader", zT7, 13)) mo_R_readTest lk_R_141 h_o0 rfl rfl rfl ⟨by show 4 + n + 1 ≤ 4 + (n + 1); omega, by show 8 + (4 + 11) + 40 * (4 + n) ≤ 40 * (4 + (n + 1)); omega⟩ rfl rfl (by decide) d_R_readEither_78 (ihg.2 o0 p1 I13 h_I13 h_o0 h_p1 _ c16) (fun h_I15 => ?_)
              refine aw_iload rfl d_R_readEither_81 ?_
              obtain ⟨k17, ek17, hf⟩ := of_zj hf
              have hk17 : ∀ (x19 : Int) (I18 : IMem), inr x19 → RG I18 → k17 x19 I18 = some r → Ai l b (4 + (n + 1)) y_R_readEither KC RC (Pv r) I18 100 [.ref o0, .int (iv p1), .int (iv x19), .int (iv w3), uu] [] := by
                intro x19 I18 h_x19 h_I18 hf
                subst ek17
                refine ai_iinc (n := 1) (lv2 := fun x20 => [.ref o0, .int (iv p1), .int (iv x19), .int (iv x20), uu]) hf rfl (Nat.le_of_ble_eq_true rfl) (fun _ => rfl) d_R_readEither_100 (fun x20 h_x20 hf => ?_)
                refine aw_goto (tgt := 9) (by decide) d_R_readEither_103 ?_
                exact ih x19 x20 I18 h_x19 h_x20 h_I18 hf
              refine ai_if_eq h_x8 hf (tgt := 98) (by decide) d_R_readEither_83 (fun hf => ?_) (fun hf => ?_)
              · refine aw_iconst (v := iv 1) rfl d_R_readEither_98 (aw_istore_n (lv2 := [.ref o0, .int (iv p1), .int (iv 1), .int (iv w3), .int (iv x8)]) rfl (Nat.le_of_ble_eq_true rfl) rfl d_R_readEither_99 ?_)
                refine aw_weakB (lv2 := [.ref o0, .int (iv p1), .int (iv 1), .int (iv w3), uu]) (wk_s (wk_s (wk_s (wk_s (wk_u wk_n))))) ?_
                exact hk17 1 I15 in_1 h_I15 hf
              · refine aw_aload_n rfl rfl d_R_readEither_86 (aw_getr (r := o0 + 5) fl_R_31 h_o0 (by decide) rfl (rc_7_12 _ h_o0).1 d_R_readEither_87 (aw_bipush (v := iv (-8)) cb_m8 d_R_readEither_90 ?_))
                obtain ⟨y21, I22, c23, hf⟩ := of_zb hf
                refine ai_callVv (as := [.int (iv ((-8)))]) (d' := 1) (q := ("SinglesUp$Law", zT3, 6)) mo_W_addStep lk_R_138 (rc_7_12 _ h_o0).2 rfl rfl rfl ⟨by show 1 + 1 ≤ 4 + (n + 1); omega, by show 8 + (2 + 11) + 40 * 1 ≤ 40 * (4 + (n + 1)); omega⟩ rfl rfl (by decide) d_R_readEither_92 (t_W_addStep fu (o0 + 5) ((-8)) I15 h_I15 (rc_7_12 _ h_o0).2 in_m8 c23) (fun h_I22 => ?_)
                refine aw_goto (tgt := 100) (by decide) d_R_readEither_95 ?_
                refine aw_weakB (lv2 := [.ref o0, .int (iv p1), .int (iv w2), .int (iv w3), uu]) (wk_s (wk_s (wk_s (wk_s (wk_u wk_n))))) ?_
                exact hk17 w2 I22 h_w2 h_I22 hf
            refine ai_if_eq h_w2 hf (tgt := 76) (by decide) d_R_readEither_59 (fun hf => ?_) (fun hf => ?_)
            · exact hk12 I10 h_I10 hf
            · refine aw_iload rfl d_R_readEither_62 ?_
              refine ai_if_ne h_x8 hf (tgt := 76) (by decide) d_R_readEither_64 (fun hf => ?_) (fun hf => ?_)
              · exact hk12 I10 h_I10 hf
              · refine aw_aload_n rfl rfl d_R_readEither_67 (aw_getr (r := o0 + 5) fl_R_31 h_o0 (by decide) rfl (rc_7_12 _ h_o0).1 d_R_readEither_68 (aw_bipush (v := iv (-9)) cb_m9 d_R_readEither_71 ?_))
                obtain ⟨y24, I25, c26, hf⟩ := of_zb hf
                refine ai_callVv (as := [.int (iv ((-9)))]) (d' := 1) (q := ("SinglesUp$Law", zT3, 6)) mo_W_addStep lk_R_138 (rc_7_12 _ h_o0).2 rfl rfl rfl ⟨by show 1 + 1 ≤ 4 + (n + 1); omega, by show 8 + (2 + 11) + 40 * 1 ≤ 40 * (4 + (n + 1)); omega⟩ rfl rfl (by decide) d_R_readEither_73 (t_W_addStep fu (o0 + 5) ((-9)) I10 h_I10 (rc_7_12 _ h_o0).2 in_m9 c26) (fun h_I25 => ?_)
                exact hk12 I25 h_I25 hf
          refine ai_icmp_ne (h_I5 o0 7) in_3 hf (tgt := 51) (by decide) d_R_readEither_44 (fun hf => ?_) (fun hf => ?_)
          · refine aw_iconst (v := iv 0) rfl d_R_readEither_51 ?_
            exact hk6 0 I5 in_0 h_I5 hf
          · refine aw_iconst (v := iv 1) rfl d_R_readEither_47 (aw_goto (tgt := 52) (by decide) d_R_readEither_48 ?_)
            exact hk6 1 I5 in_1 h_I5 hf
        refine ai_icmp_eq (h_I0 o0 7) in_2 hf (tgt := 39) (by decide) d_R_readEither_28 (fun hf => ?_) (fun hf => ?_)
        · exact hk4 I0 h_I0 hf
        · refine aw_aload_n rfl rfl d_R_readEither_31 (ai_geti fl_R_60 h_o0 (by decide) rfl d_R_readEither_32 (aw_iconst (v := iv 3) rfl d_R_readEither_35 ?_))
          refine ai_icmp_ne (h_I0 o0 7) in_3 hf (tgt := 106) (by decide) d_R_readEither_36 (fun hf => ?_) (fun hf => ?_)
          · refine aw_weakB (lv2 := [.ref o0, uu, .int (iv w2), uu, uu]) (wk_s (wk_u (wk_s (wk_u (wk_u wk_n))))) ?_
            exact hk_106 w2 I0 h_w2 h_I0 hf
          · exact hk4 I0 h_I0 hf
set_option maxRecDepth 20000 in
theorem t_gRD (fu : Nat) : ∀ n : Nat, (∀ (o0 : Nat) (a1 : Int) (I0 : IMem), RG I0 → KC[o0]? = some (10, 13) → inr a1 → ∀ (r : Int × IMem), (gRD fu n).1 o0 a1 I0 = some r → Ss l b (4 + n) y_R_readEither KC RC [.ref o0, .int (iv a1)] (ivm I0) (Pv r)) ∧ (∀ (o0 : Nat) (a1 : Int) (I0 : IMem), RG I0 → KC[o0]? = some (10, 13) → inr a1 → ∀ (r : Int × IMem), (gRD fu n).2 o0 a1 I0 = some r → Ss l b (4 + n) y_R_readTest KC RC [.ref o0, .int (iv a1)] (ivm I0) (Pv r)) := by
  intro n
  induction n with
  | zero => exact ⟨(fun o0 a1 I0 _ _ _ r hf => by cases hf), (fun o0 a1 I0 _ _ _ r hf => by cases hf)⟩
  | succ n ihg =>
    refine ⟨?_, ?_⟩
    · intro o0 a1 I0 hI h_o0 h_a1 r hf
      replace hf : fb_R_readEither fu (gRD fu n) o0 a1 I0 = some r := hf
      unfold fb_R_readEither at hf
      refine Ss.of (show Ai l b (4 + (n + 1)) y_R_readEither KC RC (Pv r) I0 0 [.ref o0, .int (iv a1), uu, uu, uu] [] from ?_)
      refine aw_iconst (v := iv 0) rfl d_R_readEither_0 (aw_istore_n (lv2 := [.ref o0, .int (iv a1), .int (iv 0), uu, uu]) rfl (Nat.le_of_ble_eq_true rfl) rfl d_R_readEither_1 (aw_aload_n rfl rfl d_R_readEither_2 (aw_iload_n rfl rfl d_R_readEither_3 ?_)))
      obtain ⟨y1, I2, c3, hf⟩ := of_zb hf
      refine ai_callVv (as := [.int (iv a1)]) (d' := (4 + n)) (q := ("SinglesUp$Reader", zT7, 13)) mo_R_readTest lk_R_141 h_o0 rfl rfl rfl ⟨by show 4 + n + 1 ≤ 4 + (n + 1); omega, by show 8 + (4 + 11) + 40 * (4 + n) ≤ 40 * (4 + (n + 1)); omega⟩ rfl rfl (by decide) d_R_readEither_4 (ihg.2 o0 a1 I0 hI h_o0 h_a1 _ c3) (fun h_I2 => ?_)
      refine aw_iconst (v := iv 0) rfl d_R_readEither_7 (aw_istore_n (lv2 := [.ref o0, .int (iv a1), .int (iv 0), .int (iv 0), uu]) rfl (Nat.le_of_ble_eq_true rfl) rfl d_R_readEither_8 ?_)
      refine t_R_readEither_9 fu n ihg _ o0 a1 h_o0 h_a1 ?_ fu 0 0 I2 in_0 in_0 h_I2 hf
      · intro x28 I27 h_x28 h_I27 hf
        refine aw_iload_n rfl rfl d_R_readEither_106 ?_
        refine ai_if_eq h_x28 hf (tgt := 119) (by decide) d_R_readEither_107 (fun hf => ?_) (fun hf => ?_)
        · exact ai_retv rfl d_R_readEither_119 hf h_I27
        · refine aw_aload_n rfl rfl d_R_readEither_110 (aw_getr (r := o0 + 5) fl_R_31 h_o0 (by decide) rfl (rc_7_12 _ h_o0).1 d_R_readEither_111 (aw_bipush (v := iv (-9)) cb_m9 d_R_readEither_114 ?_))
          obtain ⟨y29, I30, c31, hf⟩ := of_zb hf
          refine ai_callVv (as := [.int (iv ((-9)))]) (d' := 1) (q := ("SinglesUp$Law", zT3, 6)) mo_W_addStep lk_R_138 (rc_7_12 _ h_o0).2 rfl rfl rfl ⟨by show 1 + 1 ≤ 4 + (n + 1); omega, by show 8 + (2 + 11) + 40 * 1 ≤ 40 * (4 + (n + 1)); omega⟩ rfl rfl (by decide) d_R_readEither_116 (t_W_addStep fu (o0 + 5) ((-9)) I27 h_I27 (rc_7_12 _ h_o0).2 in_m9 c31) (fun h_I30 => ?_)
          exact ai_retv rfl d_R_readEither_119 hf h_I30
    · intro o0 a1 I0 hI h_o0 h_a1 r hf
      replace hf : fb_R_readTest fu (gRD fu n) o0 a1 I0 = some r := hf
      unfold fb_R_readTest at hf
      refine Ss.of (show Ai l b (4 + (n + 1)) y_R_readTest KC RC (Pv r) I0 0 [.ref o0, .int (iv a1), uu, uu] [] from ?_)
      refine aw_aload_n rfl rfl d_R_readTest_0 (ai_geti fl_R_38 h_o0 (by decide) rfl d_R_readTest_1 ?_)
      refine ai_if_eq (hI o0 10) hf (tgt := 8) (by decide) d_R_readTest_4 (fun hf => ?_) (fun hf => ?_)
      · refine aw_aload_n rfl rfl d_R_readTest_8 (ai_geti fl_R_60 h_o0 (by decide) rfl d_R_readTest_9 (aw_iconst (v := iv 4) rfl d_R_readTest_12 ?_))
        obtain ⟨k1, ek1, hf⟩ := of_zj hf
        have hk1 : ∀ (x3 : Int) (I2 : IMem), inr x3 → RG I2 → k1 x3 I2 = some r → Ai l b (4 + (n + 1)) y_R_readTest KC RC (Pv r) I2 30 [.ref o0, .int (iv a1), uu, uu] [.int (iv x3)] := by
          intro x3 I2 h_x3 h_I2 hf
          subst ek1
          refine aw_istore_n (lv2 := [.ref o0, .int (iv a1), .int (iv x3), uu]) rfl (Nat.le_of_ble_eq_true rfl) rfl d_R_readTest_30 (aw_iload_n rfl rfl d_R_readTest_31 ?_)
          obtain ⟨k4, ek4, hf⟩ := of_zj hf
          have hk4 : ∀  (I5 : IMem), RG I5 → k4 I5 = some r → Ai l b (4 + (n + 1)) y_R_readTest KC RC (Pv r) I5 49 [.ref o0, .int (iv a1), .int (iv x3), uu] [] := by
            intro I5 h_I5 hf
            subst ek4
            refine aw_aload_n rfl rfl d_R_readTest_49 (ai_geti fl_R_60 h_o0 (by decide) rfl d_R_readTest_50 (aw_iconst (v := iv 4) rfl d_R_readTest_53 ?_))
            refine ai_icmp_ne (h_I5 o0 7) in_4 hf (tgt := 80) (by decide) d_R_readTest_54 (fun hf => ?_) (fun hf => ?_)
            · refine aw_iload_n rfl rfl d_R_readTest_80 ?_
              refine ai_if_eq h_x3 hf (tgt := 104) (by decide) d_R_readTest_81 (fun hf => ?_) (fun hf => ?_)
              · refine aw_aload_n rfl rfl d_R_readTest_104 ?_
                obtain ⟨y6, I7, c8, hf⟩ := of_zb hf
                refine ai_callVv (as := []) (d' := 3) (q := ("SinglesUp$Reader", zT7, 13)) mo_R_readSum lk_R_126 h_o0 rfl rfl rfl ⟨by show 3 + 1 ≤ 4 + (n + 1); omega, by show 8 + (4 + 11) + 40 * 3 ≤ 40 * (4 + (n + 1)); omega⟩ rfl rfl (by decide) d_R_readTest_105 (t_R_readSum fu o0 I5 h_I5 h_o0 c8) (fun h_I7 => ?_)
                refine aw_aload_n rfl rfl d_R_readTest_108 (ai_geti fl_R_60 h_o0 (by decide) rfl d_R_readTest_109 ?_)
                refine ai_name hf (h_I7 o0 7) (fun x9 h_x9 hf => ?_)
                refine aw_istore_n (lv2 := [.ref o0, .int (iv a1), .int (iv x3), .int (iv x9)]) rfl (Nat.le_of_ble_eq_true rfl) rfl d_R_readTest_112 ?_
                refine aw_aload_n rfl rfl d_R_readTest_113 (aw_iload_n rfl rfl d_R_readTest_114 (aw_bipush (v := iv 60) cb_60 d_R_readTest_115 ?_))
                obtain ⟨k10, ek10, hf⟩ := of_zj hf
                have hk10 : ∀ (x12 : Int) (I11 : IMem), inr x12 → RG I11 → k10 x12 I11 = some r → Ai l b (4 + (n + 1)) y_R_readTest KC RC (Pv r) I11 132 [.ref o0, uu, uu, .int (iv x9)] [.int (iv x12), .ref o0] := by
                  intro x12 I11 h_x12 h_I11 hf
                  subst ek10
                  obtain ⟨y13, I14, c15, hf⟩ := of_zb hf
                  refine ai_callVv (as := [.int (iv x12)]) (d' := 2) (q := ("SinglesUp$Reader", zT7, 13)) mo_R_expect lk_R_120 h_o0 rfl rfl rfl ⟨by show 2 + 1 ≤ 4 + (n + 1); omega, by show 8 + (2 + 11) + 40 * 2 ≤ 40 * (4 + (n + 1)); omega⟩ rfl rfl (by decide) d_R_readTest_132 (t_R_expect fu o0 x12 I11 h_I11 h_o0 h_x12 c15) (fun h_I14 => ?_)
                  refine aw_aload_n rfl rfl d_R_readTest_135 ?_
                  obtain ⟨y16, I17, c18, hf⟩ := of_zb hf
                  refine ai_callVv (as := []) (d' := 3) (q := ("SinglesUp$Reader", zT7, 13)) mo_R_readSum lk_R_126 h_o0 rfl rfl rfl ⟨by show 3 + 1 ≤ 4 + (n + 1); omega, by show 8 + (4 + 11) + 40 * 3 ≤ 40 * (4 + (n + 1)); omega⟩ rfl rfl (by decide) d_R_readTest_136 (t_R_readSum fu o0 I14 h_I14 h_o0 c18) (fun h_I17 => ?_)
                  refine aw_aload_n rfl rfl d_R_readTest_139 (aw_getr (r := o0 + 5) fl_R_31 h_o0 (by decide) rfl (rc_7_12 _ h_o0).1 d_R_readTest_140 (aw_iload_n rfl rfl d_R_readTest_143 (aw_bipush (v := iv 60) cb_60 d_R_readTest_144 ?_)))
                  obtain ⟨k19, ek19, hf⟩ := of_zj hf
                  have hk19 : ∀ (x21 : Int) (I20 : IMem), inr x21 → RG I20 → k19 x21 I20 = some r → Ai l b (4 + (n + 1)) y_R_readTest KC RC (Pv r) I20 167 [uu, uu, uu, uu] [.int (iv x21), .ref (o0 + 5)] := by
                    intro x21 I20 h_x21 h_I20 hf
                    subst ek19
                    obtain ⟨y22, I23, c24, hf⟩ := of_zb hf
                    refine ai_callVv (as := [.int (iv x21)]) (d' := 1) (q := ("SinglesUp$Law", zT3, 6)) mo_W_addStep lk_R_138 (rc_7_12 _ h_o0).2 rfl rfl rfl ⟨by show 1 + 1 ≤ 4 + (n + 1); omega, by show 8 + (2 + 11) + 40 * 1 ≤ 40 * (4 + (n + 1)); omega⟩ rfl rfl (by decide) d_R_readTest_167 (t_W_addStep fu (o0 + 5) x21 I20 h_I20 (rc_7_12 _ h_o0).2 h_x21 c24) (fun h_I23 => ?_)
                    exact ai_retv rfl d_R_readTest_170 hf h_I23
                  refine ai_icmp_ne h_x9 in_60 hf (tgt := 154) (by decide) d_R_readTest_146 (fun hf => ?_) (fun hf => ?_)
                  · refine aw_iload_n rfl rfl d_R_readTest_154 (aw_bipush (v := iv 62) cb_62 d_R_readTest_155 ?_)
                    refine ai_icmp_ne h_x9 in_62 hf (tgt := 165) (by decide) d_R_readTest_157 (fun hf => ?_) (fun hf => ?_)
                    · refine aw_bipush (v := iv (-6)) cb_m6 d_R_readTest_165 ?_
                      refine aw_weakB (lv2 := [uu, uu, uu, uu]) (wk_u (wk_u (wk_u (wk_u wk_n)))) ?_
                      exact hk19 ((-6)) I17 in_m6 h_I17 hf
                    · refine aw_bipush (v := iv (-7)) cb_m7 d_R_readTest_160 (aw_goto (tgt := 167) (by decide) d_R_readTest_162 ?_)
                      refine aw_weakB (lv2 := [uu, uu, uu, uu]) (wk_u (wk_u (wk_u (wk_u wk_n)))) ?_
                      exact hk19 ((-7)) I17 in_m7 h_I17 hf
                  · refine aw_bipush (v := iv (-5)) cb_m5 d_R_readTest_149 (aw_goto (tgt := 167) (by decide) d_R_readTest_151 ?_)
                    refine aw_weakB (lv2 := [uu, uu, uu, uu]) (wk_u (wk_u (wk_u (wk_u wk_n)))) ?_
                    exact hk19 ((-5)) I17 in_m5 h_I17 hf
                refine ai_icmp_eq h_x9 in_60 hf (tgt := 126) (by decide) d_R_readTest_117 (fun hf => ?_) (fun hf => ?_)
                · refine aw_iload_n rfl rfl d_R_readTest_126 (aw_goto (tgt := 132) (by decide) d_R_readTest_127 ?_)
                  refine aw_weakB (lv2 := [.ref o0, uu, uu, .int (iv x9)]) (wk_s (wk_u (wk_u (wk_s wk_n)))) ?_
                  exact hk10 x9 I7 h_x9 h_I7 hf
                · refine aw_iload_n rfl rfl d_R_readTest_120 (aw_bipush (v := iv 62) cb_62 d_R_readTest_121 ?_)
                  refine ai_icmp_ne h_x9 in_62 hf (tgt := 130) (by decide) d_R_readTest_123 (fun hf => ?_) (fun hf => ?_)
                  · refine aw_bipush (v := iv 61) cb_61 d_R_readTest_130 ?_
                    refine aw_weakB (lv2 := [.ref o0, uu, uu, .int (iv x9)]) (wk_s (wk_u (wk_u (wk_s wk_n)))) ?_
                    exact hk10 61 I7 in_61 h_I7 hf
                  · refine aw_iload_n rfl rfl d_R_readTest_126 (aw_goto (tgt := 132) (by decide) d_R_readTest_127 ?_)
                    refine aw_weakB (lv2 := [.ref o0, uu, uu, .int (iv x9)]) (wk_s (wk_u (wk_u (wk_s wk_n)))) ?_
                    exact hk10 x9 I7 h_x9 h_I7 hf
              · refine aw_aload_n rfl rfl d_R_readTest_84 ?_
                obtain ⟨y25, I26, c27, hf⟩ := of_zb hf
                refine ai_callVv (as := []) (d' := 1) (q := ("SinglesUp$Reader", zT7, 13)) mo_R_advance lk_R_57 h_o0 rfl rfl rfl ⟨by show 1 + 1 ≤ 4 + (n + 1); omega, by show 8 + (2 + 11) + 40 * 1 ≤ 40 * (4 + (n + 1)); omega⟩ rfl rfl (by decide) d_R_readTest_85 (t_R_advance fu o0 I5 h_I5 h_o0 c27) (fun h_I26 => ?_)
                refine aw_aload_n rfl rfl d_R_readTest_88 (aw_iload_n rfl rfl d_R_readTest_89 (aw_iconst (v := iv 1) rfl d_R_readTest_90 (ai_iadd d_R_readTest_91 ?_)))
                obtain ⟨y28, I29, c30, hf⟩ := of_zb hf
                refine ai_callVv (as := [.int (iv (wr32 (a1 + 1)))]) (d' := (4 + n)) (q := ("SinglesUp$Reader", zT7, 13)) mo_R_readEither lk_R_132 h_o0 rfl rfl rfl ⟨by show 4 + n + 1 ≤ 4 + (n + 1); omega, by show 8 + (5 + 11) + 40 * (4 + n) ≤ 40 * (4 + (n + 1)); omega⟩ rfl rfl (by decide) d_R_readTest_92 (ihg.1 o0 (wr32 (a1 + 1)) I26 h_I26 h_o0 (wr32_in _) _ c30) (fun h_I29 => ?_)
                refine aw_aload_n rfl rfl d_R_readTest_95 (aw_bipush (v := iv 41) cb_41 d_R_readTest_96 ?_)
                obtain ⟨y31, I32, c33, hf⟩ := of_zb hf
                refine ai_callVv (as := [.int (iv 41)]) (d' := 2) (q := ("SinglesUp$Reader", zT7, 13)) mo_R_expect lk_R_120 h_o0 rfl rfl rfl ⟨by show 2 + 1 ≤ 4 + (n + 1); omega, by show 8 + (2 + 11) + 40 * 2 ≤ 40 * (4 + (n + 1)); omega⟩ rfl rfl (by decide) d_R_readTest_98 (t_R_expect fu o0 41 I29 h_I29 h_o0 in_41 c33) (fun h_I32 => ?_)
                refine aw_goto (tgt := 170) (by decide) d_R_readTest_101 ?_
                exact ai_retv rfl d_R_readTest_170 hf h_I32
            · refine aw_aload_n rfl rfl d_R_readTest_57 ?_
              obtain ⟨y34, I35, c36, hf⟩ := of_zb hf
              refine ai_callVv (as := []) (d' := 1) (q := ("SinglesUp$Reader", zT7, 13)) mo_R_advance lk_R_57 h_o0 rfl rfl rfl ⟨by show 1 + 1 ≤ 4 + (n + 1); omega, by show 8 + (2 + 11) + 40 * 1 ≤ 40 * (4 + (n + 1)); omega⟩ rfl rfl (by decide) d_R_readTest_58 (t_R_advance fu o0 I5 h_I5 h_o0 c36) (fun h_I35 => ?_)
              refine aw_aload_n rfl rfl d_R_readTest_61 (aw_iload_n rfl rfl d_R_readTest_62 (aw_iconst (v := iv 1) rfl d_R_readTest_63 (ai_iadd d_R_readTest_64 ?_)))
              obtain ⟨y37, I38, c39, hf⟩ := of_zb hf
              refine ai_callVv (as := [.int (iv (wr32 (a1 + 1)))]) (d' := (4 + n)) (q := ("SinglesUp$Reader", zT7, 13)) mo_R_readTest lk_R_141 h_o0 rfl rfl rfl ⟨by show 4 + n + 1 ≤ 4 + (n + 1); omega, by show 8 + (4 + 11) + 40 * (4 + n) ≤ 40 * (4 + (n + 1)); omega⟩ rfl rfl (by decide) d_R_readTest_65 (ihg.2 o0 (wr32 (a1 + 1)) I35 h_I35 h_o0 (wr32_in _) _ c39) (fun h_I38 => ?_)
              refine aw_aload_n rfl rfl d_R_readTest_68 (aw_getr (r := o0 + 5) fl_R_31 h_o0 (by decide) rfl (rc_7_12 _ h_o0).1 d_R_readTest_69 (aw_bipush (v := iv (-10)) cb_m10 d_R_readTest_72 ?_))
              obtain ⟨y40, I41, c42, hf⟩ := of_zb hf
              refine ai_callVv (as := [.int (iv ((-10)))]) (d' := 1) (q := ("SinglesUp$Law", zT3, 6)) mo_W_addStep lk_R_138 (rc_7_12 _ h_o0).2 rfl rfl rfl ⟨by show 1 + 1 ≤ 4 + (n + 1); omega, by show 8 + (2 + 11) + 40 * 1 ≤ 40 * (4 + (n + 1)); omega⟩ rfl rfl (by decide) d_R_readTest_74 (t_W_addStep fu (o0 + 5) ((-10)) I38 h_I38 (rc_7_12 _ h_o0).2 in_m10 c42) (fun h_I41 => ?_)
              refine aw_goto (tgt := 170) (by decide) d_R_readTest_77 ?_
              exact ai_retv rfl d_R_readTest_170 hf h_I41
          refine ai_if_eq h_x3 hf (tgt := 49) (by decide) d_R_readTest_32 (fun hf => ?_) (fun hf => ?_)
          · exact hk4 I2 h_I2 hf
          · refine aw_iload_n rfl rfl d_R_readTest_35 (aw_bipush (v := iv 8) cb_8 d_R_readTest_36 ?_)
            refine ai_icmp_lt h_a1 in_8 hf (tgt := 49) (by decide) d_R_readTest_38 (fun hf => ?_) (fun hf => ?_)
            · exact hk4 I2 h_I2 hf
            · refine aw_aload_n rfl rfl d_R_readTest_41 (aw_iconst (v := iv 3) rfl d_R_readTest_42 ?_)
              obtain ⟨y43, I44, c45, hf⟩ := of_zb hf
              refine ai_callVv (as := [.int (iv 3)]) (d' := 1) (q := ("SinglesUp$Reader", zT7, 13)) mo_R_fail lk_R_112 h_o0 rfl rfl rfl ⟨by show 1 + 1 ≤ 4 + (n + 1); omega, by show 8 + (2 + 11) + 40 * 1 ≤ 40 * (4 + (n + 1)); omega⟩ rfl rfl (by decide) d_R_readTest_43 (t_R_fail fu o0 3 I2 h_I2 h_o0 in_3 c45) (fun h_I44 => ?_)
              refine aw_goto (tgt := 170) (by decide) d_R_readTest_46 ?_
              exact ai_retv rfl d_R_readTest_170 hf h_I44
        refine ai_icmp_eq (hI o0 7) in_4 hf (tgt := 25) (by decide) d_R_readTest_13 (fun hf => ?_) (fun hf => ?_)
        · refine aw_iconst (v := iv 1) rfl d_R_readTest_25 (aw_goto (tgt := 30) (by decide) d_R_readTest_26 ?_)
          exact hk1 1 I0 in_1 hI hf
        · refine aw_aload_n rfl rfl d_R_readTest_16 (ai_geti fl_R_60 h_o0 (by decide) rfl d_R_readTest_17 (aw_bipush (v := iv 40) cb_40 d_R_readTest_20 ?_))
          refine ai_icmp_ne (hI o0 7) in_40 hf (tgt := 29) (by decide) d_R_readTest_22 (fun hf => ?_) (fun hf => ?_)
          · refine aw_iconst (v := iv 0) rfl d_R_readTest_29 ?_
            exact hk1 0 I0 in_0 hI hf
          · refine aw_iconst (v := iv 1) rfl d_R_readTest_25 (aw_goto (tgt := 30) (by decide) d_R_readTest_26 ?_)
            exact hk1 1 I0 in_1 hI hf
      · exact ai_retv rfl d_R_readTest_7 hf hI
set_option maxRecDepth 20000 in
theorem t_R_readEither (fu : Nat) (o0 : Nat) (a1 : Int) (I0 : IMem) (hI : RG I0) (h_o0 : KC[o0]? = some (10, 13)) (h_a1 : inr a1) {r : Int × IMem} (hf : f_R_readEither fu o0 a1 I0 = some r) : Ss l b 44 y_R_readEither KC RC [.ref o0, .int (iv a1)] (ivm I0) (Pv r) := (t_gRD fu 40).1 o0 a1 I0 hI h_o0 h_a1 r hf
set_option maxRecDepth 20000 in
theorem t_R_readTest (fu : Nat) (o0 : Nat) (a1 : Int) (I0 : IMem) (hI : RG I0) (h_o0 : KC[o0]? = some (10, 13)) (h_a1 : inr a1) {r : Int × IMem} (hf : f_R_readTest fu o0 a1 I0 = some r) : Ss l b 44 y_R_readTest KC RC [.ref o0, .int (iv a1)] (ivm I0) (Pv r) := (t_gRD fu 40).2 o0 a1 I0 hI h_o0 h_a1 r hf
set_option maxRecDepth 20000 in
theorem t_R_readTarget (fu : Nat) (o0 : Nat) (I0 : IMem) (hI : RG I0) (h_o0 : KC[o0]? = some (10, 13)) {r : Int × IMem} (hf : f_R_readTarget fu o0 I0 = some r) : Ss l b 3 y_R_readTarget KC RC [.ref o0] (ivm I0) (Pv r) := by
  unfold f_R_readTarget at hf
  refine Ss.of (show Ai l b 3 y_R_readTarget KC RC (Pv r) I0 0 [.ref o0] [] from ?_)
  refine aw_aload_n rfl rfl d_R_readTarget_0 (ai_geti fl_R_60 h_o0 (by decide) rfl d_R_readTarget_1 (aw_bipush (v := iv 16) cb_16 d_R_readTarget_4 ?_))
  obtain ⟨k1, ek1, hf⟩ := of_zj hf
  have hk1 : ∀  (I2 : IMem), RG I2 → k1 I2 = some r → Ai l b 3 y_R_readTarget KC RC (Pv r) I2 23 [.ref o0] [] := by
    intro I2 h_I2 hf
    subst ek1
    refine aw_aload_n rfl rfl d_R_readTarget_23 (aw_getr (r := o0 + 5) fl_R_31 h_o0 (by decide) rfl (rc_7_12 _ h_o0).1 d_R_readTarget_24 (aw_aload_n rfl rfl d_R_readTarget_27 (ai_geti fl_R_109 h_o0 (by decide) rfl d_R_readTarget_28 ?_)))
    obtain ⟨y3, I4, c5, hf⟩ := of_zb hf
    refine ai_callVv (as := [.int (iv (I2 o0 8))]) (d' := 1) (q := ("SinglesUp$Law", zT3, 6)) mo_W_addStep lk_R_138 (rc_7_12 _ h_o0).2 rfl rfl rfl ⟨by decide, by decide⟩ rfl rfl (by decide) d_R_readTarget_31 (t_W_addStep fu (o0 + 5) (I2 o0 8) I2 h_I2 (rc_7_12 _ h_o0).2 (h_I2 o0 8) c5) (fun h_I4 => ?_)
    refine aw_aload_n rfl rfl d_R_readTarget_34 (aw_bipush (v := iv 16) cb_16 d_R_readTarget_35 ?_)
    obtain ⟨y6, I7, c8, hf⟩ := of_zb hf
    refine ai_callVv (as := [.int (iv 16)]) (d' := 2) (q := ("SinglesUp$Reader", zT7, 13)) mo_R_expect lk_R_120 h_o0 rfl rfl rfl ⟨by decide, by decide⟩ rfl rfl (by decide) d_R_readTarget_37 (t_R_expect fu o0 16 I4 h_I4 h_o0 in_16 c8) (fun h_I7 => ?_)
    exact ai_retv rfl d_R_readTarget_40 hf h_I7
  refine ai_icmp_ne (hI o0 7) in_16 hf (tgt := 23) (by decide) d_R_readTarget_6 (fun hf => ?_) (fun hf => ?_)
  · exact hk1 I0 hI hf
  · refine aw_aload_n rfl rfl d_R_readTarget_9 (ai_geti fl_R_109 h_o0 (by decide) rfl d_R_readTarget_10 (aw_bipush (v := iv 6) cb_6 d_R_readTarget_13 ?_))
    refine ai_icmp_lt (hI o0 8) in_6 hf (tgt := 23) (by decide) d_R_readTarget_15 (fun hf => ?_) (fun hf => ?_)
    · exact hk1 I0 hI hf
    · refine aw_aload_n rfl rfl d_R_readTarget_18 (aw_iconst (v := iv 2) rfl d_R_readTarget_19 ?_)
      obtain ⟨y9, I10, c11, hf⟩ := of_zb hf
      refine ai_callVv (as := [.int (iv 2)]) (d' := 1) (q := ("SinglesUp$Reader", zT7, 13)) mo_R_fail lk_R_112 h_o0 rfl rfl rfl ⟨by decide, by decide⟩ rfl rfl (by decide) d_R_readTarget_20 (t_R_fail fu o0 2 I0 hI h_o0 in_2 c11) (fun h_I10 => ?_)
      exact hk1 I10 h_I10 hf
set_option maxRecDepth 20000 in
theorem t_W_closeLine (fu : Nat) (o0 : Nat) (I0 : IMem) (hI : RG I0) (h_o0 : KC[o0]? = some (6, 6)) {r : Int × IMem} (hf : f_W_closeLine fu o0 I0 = some r) : Ss l b 1 y_W_closeLine KC RC [.ref o0] (ivm I0) (Pv r) := by
  unfold f_W_closeLine at hf
  refine Ss.of (show Ai l b 1 y_W_closeLine KC RC (Pv r) I0 0 [.ref o0] [] from ?_)
  refine aw_aload_n rfl rfl d_W_closeLine_0 (ai_geti fl_W_26 h_o0 (by decide) rfl d_W_closeLine_1 ?_)
  refine ai_if_lt (hI o0 4) hf (tgt := 39) (by decide) d_W_closeLine_4 (fun hf => ?_) (fun hf => ?_)
  · exact ai_retv rfl d_W_closeLine_39 hf hI
  · refine aw_aload_n rfl rfl d_W_closeLine_7 (ai_geti fl_W_26 h_o0 (by decide) rfl d_W_closeLine_8 (aw_bipush (v := iv 16) cb_16 d_W_closeLine_11 ?_))
    refine ai_icmp_ge (hI o0 4) in_16 hf (tgt := 39) (by decide) d_W_closeLine_13 (fun hf => ?_) (fun hf => ?_)
    · exact ai_retv rfl d_W_closeLine_39 hf hI
    · refine aw_aload_n rfl rfl d_W_closeLine_16 (aw_dup rfl d_W_closeLine_17 (ai_geti fl_W_26 h_o0 (by decide) rfl d_W_closeLine_18 (aw_iconst (v := iv 1) rfl d_W_closeLine_21 (ai_iadd d_W_closeLine_22 ?_))))
      refine ai_puti hf hI (wr32_in _) fl_W_26 h_o0 (by decide) rfl rfl rfl rfl d_W_closeLine_23 (fun I1 h_I1 hf => ?_)
      refine aw_aload_n rfl rfl d_W_closeLine_26 (aw_getr (r := o0 + 2) fl_W_13 h_o0 (by decide) rfl (rc_3_2 _ h_o0).1 d_W_closeLine_27 (aw_aload_n rfl rfl d_W_closeLine_30 (ai_geti fl_W_26 h_o0 (by decide) rfl d_W_closeLine_31 (aw_aload_n rfl rfl d_W_closeLine_34 (ai_geti fl_W_22 h_o0 (by decide) rfl d_W_closeLine_35 ?_)))))
      refine ai_nameU hf (h_I1 o0 4) (fun x3 h_x3 hf => ?_)
      refine ai_iast (rc_3_2 _ h_o0).2 rfl h_x3 (h_I1 o0 1) h_I1 hf d_W_closeLine_38 (fun _ I2 h_I2 hf => ?_)
      exact ai_retv rfl d_W_closeLine_39 hf h_I2
set_option maxRecDepth 20000 in
theorem t_W_isFull (fu : Nat) (o0 : Nat) (I0 : IMem) (hI : RG I0) (h_o0 : KC[o0]? = some (6, 6)) {r : Int × IMem} (hf : f_W_isFull fu o0 I0 = some r) : Ss l b 1 y_W_isFull KC RC [.ref o0] (ivm I0) (Ps r) := by
  unfold f_W_isFull at hf
  refine Ss.of (show Ai l b 1 y_W_isFull KC RC (Ps r) I0 0 [.ref o0] [] from ?_)
  refine aw_aload_n rfl rfl d_W_isFull_0 (ai_geti fl_W_26 h_o0 (by decide) rfl d_W_isFull_1 (aw_bipush (v := iv 16) cb_16 d_W_isFull_4 ?_))
  refine ai_icmp_lt (hI o0 4) in_16 hf (tgt := 13) (by decide) d_W_isFull_6 (fun hf => ?_) (fun hf => ?_)
  · refine aw_iconst (v := iv 0) rfl d_W_isFull_13 ?_
    exact ai_retn rfl (nar_z (Or.inl rfl)) d_W_isFull_14 hf in_0 hI
  · refine aw_iconst (v := iv 1) rfl d_W_isFull_9 (aw_goto (tgt := 14) (by decide) d_W_isFull_10 ?_)
    exact ai_retn rfl (nar_z (Or.inr rfl)) d_W_isFull_14 hf in_1 hI
set_option maxRecDepth 20000 in
theorem t_W_startWhen (fu : Nat) (o0 : Nat) (I0 : IMem) (hI : RG I0) (h_o0 : KC[o0]? = some (6, 6)) {r : Int × IMem} (hf : f_W_startWhen fu o0 I0 = some r) : Ss l b 1 y_W_startWhen KC RC [.ref o0] (ivm I0) (Pv r) := by
  unfold f_W_startWhen at hf
  refine Ss.of (show Ai l b 1 y_W_startWhen KC RC (Pv r) I0 0 [.ref o0] [] from ?_)
  refine aw_aload_n rfl rfl d_W_startWhen_0 (ai_geti fl_W_26 h_o0 (by decide) rfl d_W_startWhen_1 ?_)
  refine ai_if_lt (hI o0 4) hf (tgt := 29) (by decide) d_W_startWhen_4 (fun hf => ?_) (fun hf => ?_)
  · exact ai_retv rfl d_W_startWhen_29 hf hI
  · refine aw_aload_n rfl rfl d_W_startWhen_7 (ai_geti fl_W_26 h_o0 (by decide) rfl d_W_startWhen_8 (aw_bipush (v := iv 16) cb_16 d_W_startWhen_11 ?_))
    refine ai_icmp_ge (hI o0 4) in_16 hf (tgt := 29) (by decide) d_W_startWhen_13 (fun hf => ?_) (fun hf => ?_)
    · exact ai_retv rfl d_W_startWhen_29 hf hI
    · refine aw_aload_n rfl rfl d_W_startWhen_16 (aw_getr (r := o0 + 3) fl_W_16 h_o0 (by decide) rfl (rc_3_3 _ h_o0).1 d_W_startWhen_17 (aw_aload_n rfl rfl d_W_startWhen_20 (ai_geti fl_W_26 h_o0 (by decide) rfl d_W_startWhen_21 (aw_aload_n rfl rfl d_W_startWhen_24 (ai_geti fl_W_22 h_o0 (by decide) rfl d_W_startWhen_25 ?_)))))
      refine ai_nameU hf (hI o0 4) (fun x2 h_x2 hf => ?_)
      refine ai_iast (rc_3_3 _ h_o0).2 rfl h_x2 (hI o0 1) hI hf d_W_startWhen_28 (fun _ I1 h_I1 hf => ?_)
      exact ai_retv rfl d_W_startWhen_29 hf h_I1
set_option maxRecDepth 20000 in
theorem t_R_readLine (fu : Nat) (o0 : Nat) (I0 : IMem) (hI : RG I0) (h_o0 : KC[o0]? = some (10, 13)) {r : Int × IMem} (hf : f_R_readLine fu o0 I0 = some r) : Ss l b 45 y_R_readLine KC RC [.ref o0] (ivm I0) (Pv r) := by
  unfold f_R_readLine at hf
  refine Ss.of (show Ai l b 45 y_R_readLine KC RC (Pv r) I0 0 [.ref o0, uu] [] from ?_)
  refine aw_aload_n rfl rfl d_R_readLine_0 (ai_geti fl_R_47 h_o0 (by decide) rfl d_R_readLine_1 ?_)
  obtain ⟨k1, ek1, hf⟩ := of_zj hf
  have hk1 : ∀ (x3 : Int) (I2 : IMem), inr x3 → RG I2 → k1 x3 I2 = some r → Ai l b 45 y_R_readLine KC RC (Pv r) I2 13 [.ref o0, uu] [.int (iv x3)] := by
    intro x3 I2 h_x3 h_I2 hf
    subst ek1
    refine aw_istore_n (lv2 := [.ref o0, .int (iv x3)]) rfl (Nat.le_of_ble_eq_true rfl) rfl d_R_readLine_13 (aw_aload_n rfl rfl d_R_readLine_14 (ai_geti fl_R_60 h_o0 (by decide) rfl d_R_readLine_15 (aw_iload_n rfl rfl d_R_readLine_18 ?_)))
    obtain ⟨k4, ek4, hf⟩ := of_zj hf
    have hk4 : ∀  (I5 : IMem), RG I5 → k4 I5 = some r → Ai l b 45 y_R_readLine KC RC (Pv r) I5 37 [.ref o0, .int (iv x3)] [] := by
      intro I5 h_I5 hf
      subst ek4
      refine aw_aload_n rfl rfl d_R_readLine_37 (aw_iload_n rfl rfl d_R_readLine_38 ?_)
      obtain ⟨y6, I7, c8, hf⟩ := of_zb hf
      refine ai_callVv (as := [.int (iv x3)]) (d' := 2) (q := ("SinglesUp$Reader", zT7, 13)) mo_R_expect lk_R_120 h_o0 rfl rfl rfl ⟨by decide, by decide⟩ rfl rfl (by decide) d_R_readLine_39 (t_R_expect fu o0 x3 I5 h_I5 h_o0 h_x3 c8) (fun h_I7 => ?_)
      refine aw_aload_n rfl rfl d_R_readLine_42 (ai_geti fl_R_47 h_o0 (by decide) rfl d_R_readLine_43 ?_)
      obtain ⟨k9, ek9, hf⟩ := of_zj hf
      have hk9 : ∀  (I10 : IMem), RG I10 → k9 I10 = some r → Ai l b 45 y_R_readLine KC RC (Pv r) I10 60 [.ref o0, uu] [] := by
        intro I10 h_I10 hf
        subst ek9
        refine aw_aload_n rfl rfl d_R_readLine_60 (aw_getr (r := o0 + 5) fl_R_31 h_o0 (by decide) rfl (rc_7_12 _ h_o0).1 d_R_readLine_61 ?_)
        obtain ⟨y11, I12, c13, hf⟩ := of_zb hf
        refine ai_callVv (as := []) (d' := 1) (q := ("SinglesUp$Law", zT3, 6)) mo_W_startWhen lk_R_129 (rc_7_12 _ h_o0).2 rfl rfl rfl ⟨by decide, by decide⟩ rfl rfl (by decide) d_R_readLine_64 (t_W_startWhen fu (o0 + 5) I10 h_I10 (rc_7_12 _ h_o0).2 c13) (fun h_I12 => ?_)
        refine aw_aload_n rfl rfl d_R_readLine_67 (ai_geti fl_R_47 h_o0 (by decide) rfl d_R_readLine_68 ?_)
        obtain ⟨k14, ek14, hf⟩ := of_zj hf
        have hk14 : ∀  (I15 : IMem), RG I15 → k14 I15 = some r → Ai l b 45 y_R_readLine KC RC (Pv r) I15 92 [.ref o0, uu] [] := by
          intro I15 h_I15 hf
          subst ek14
          refine aw_aload_n rfl rfl d_R_readLine_92 (aw_bipush (v := iv 59) cb_59 d_R_readLine_93 ?_)
          obtain ⟨y16, I17, c18, hf⟩ := of_zb hf
          refine ai_callVv (as := [.int (iv 59)]) (d' := 2) (q := ("SinglesUp$Reader", zT7, 13)) mo_R_expect lk_R_120 h_o0 rfl rfl rfl ⟨by decide, by decide⟩ rfl rfl (by decide) d_R_readLine_95 (t_R_expect fu o0 59 I15 h_I15 h_o0 in_59 c18) (fun h_I17 => ?_)
          refine aw_aload_n rfl rfl d_R_readLine_98 (aw_getr (r := o0 + 5) fl_R_31 h_o0 (by decide) rfl (rc_7_12 _ h_o0).1 d_R_readLine_99 ?_)
          obtain ⟨y19, I20, c21, hf⟩ := of_zb hf
          refine ai_callVv (as := []) (d' := 1) (q := ("SinglesUp$Law", zT3, 6)) mo_W_closeLine lk_R_135 (rc_7_12 _ h_o0).2 rfl rfl rfl ⟨by decide, by decide⟩ rfl rfl (by decide) d_R_readLine_102 (t_W_closeLine fu (o0 + 5) I17 h_I17 (rc_7_12 _ h_o0).2 c21) (fun h_I20 => ?_)
          exact ai_retv rfl d_R_readLine_105 hf h_I20
        obtain ⟨k22, ek22, hf⟩ := of_zj hf
        have hk22 : ∀  (I23 : IMem), RG I23 → k22 I23 = some r → Ai l b 45 y_R_readLine KC RC (Pv r) I23 82 [.ref o0, uu] [] := by
          intro I23 h_I23 hf
          subst ek22
          refine aw_aload_n rfl rfl d_R_readLine_82 (aw_iconst (v := iv 1) rfl d_R_readLine_83 ?_)
          obtain ⟨y24, I25, c26, hf⟩ := of_zb hf
          refine ai_callVv (as := [.int (iv 1)]) (d' := 2) (q := ("SinglesUp$Reader", zT7, 13)) mo_R_expect lk_R_120 h_o0 rfl rfl rfl ⟨by decide, by decide⟩ rfl rfl (by decide) d_R_readLine_84 (t_R_expect fu o0 1 I23 h_I23 h_o0 in_1 c26) (fun h_I25 => ?_)
          refine aw_aload_n rfl rfl d_R_readLine_87 (aw_iconst (v := iv 0) rfl d_R_readLine_88 ?_)
          obtain ⟨y27, I28, c29, hf⟩ := of_zb hf
          refine ai_callVv (as := [.int (iv 0)]) (d' := 44) (q := ("SinglesUp$Reader", zT7, 13)) mo_R_readEither lk_R_132 h_o0 rfl rfl rfl ⟨by decide, by decide⟩ rfl rfl (by decide) d_R_readLine_89 (t_R_readEither fu o0 0 I25 h_I25 h_o0 in_0 c29) (fun h_I28 => ?_)
          exact hk14 I28 h_I28 hf
        refine ai_if_ne (h_I12 o0 9) hf (tgt := 82) (by decide) d_R_readLine_71 (fun hf => ?_) (fun hf => ?_)
        · exact hk22 I12 h_I12 hf
        · refine aw_aload_n rfl rfl d_R_readLine_74 (ai_geti fl_R_60 h_o0 (by decide) rfl d_R_readLine_75 (aw_iconst (v := iv 1) rfl d_R_readLine_78 ?_))
          refine ai_icmp_ne (h_I12 o0 7) in_1 hf (tgt := 92) (by decide) d_R_readLine_79 (fun hf => ?_) (fun hf => ?_)
          · exact hk14 I12 h_I12 hf
          · exact hk22 I12 h_I12 hf
      refine ai_if_eq (h_I7 o0 9) hf (tgt := 56) (by decide) d_R_readLine_46 (fun hf => ?_) (fun hf => ?_)
      · refine aw_aload_n rfl rfl d_R_readLine_56 ?_
        obtain ⟨y30, I31, c32, hf⟩ := of_zb hf
        refine ai_callVv (as := []) (d' := 3) (q := ("SinglesUp$Reader", zT7, 13)) mo_R_readSum lk_R_126 h_o0 rfl rfl rfl ⟨by decide, by decide⟩ rfl rfl (by decide) d_R_readLine_57 (t_R_readSum fu o0 I7 h_I7 h_o0 c32) (fun h_I31 => ?_)
        refine aw_weakB (lv2 := [.ref o0, uu]) (wk_s (wk_u wk_n)) ?_
        exact hk9 I31 h_I31 hf
      · refine aw_aload_n rfl rfl d_R_readLine_49 ?_
        obtain ⟨y33, I34, c35, hf⟩ := of_zb hf
        refine ai_callVv (as := []) (d' := 3) (q := ("SinglesUp$Reader", zT7, 13)) mo_R_readTarget lk_R_123 h_o0 rfl rfl rfl ⟨by decide, by decide⟩ rfl rfl (by decide) d_R_readLine_50 (t_R_readTarget fu o0 I7 h_I7 h_o0 c35) (fun h_I34 => ?_)
        refine aw_goto (tgt := 60) (by decide) d_R_readLine_53 ?_
        refine aw_weakB (lv2 := [.ref o0, uu]) (wk_s (wk_u wk_n)) ?_
        exact hk9 I34 h_I34 hf
    refine ai_icmp_ne (h_I2 o0 7) h_x3 hf (tgt := 37) (by decide) d_R_readLine_19 (fun hf => ?_) (fun hf => ?_)
    · exact hk4 I2 h_I2 hf
    · refine aw_aload_n rfl rfl d_R_readLine_22 (aw_getr (r := o0 + 5) fl_R_31 h_o0 (by decide) rfl (rc_7_12 _ h_o0).1 d_R_readLine_23 ?_)
      obtain ⟨y36, I37, c38, hf⟩ := of_zb hf
      refine ai_callV (as := []) (d' := 1) (q := ("SinglesUp$Law", zT3, 6)) mo_W_isFull lk_R_116 (rc_7_12 _ h_o0).2 rfl rfl rfl ⟨by decide, by decide⟩ rfl rfl (by decide) d_R_readLine_26 (t_W_isFull fu (o0 + 5) I2 h_I2 (rc_7_12 _ h_o0).2 c38) (fun h_y36 h_I37 => ?_)
      refine ai_if_eq h_y36 hf (tgt := 37) (by decide) d_R_readLine_29 (fun hf => ?_) (fun hf => ?_)
      · exact hk4 I37 h_I37 hf
      · refine aw_aload_n rfl rfl d_R_readLine_32 (aw_iconst (v := iv 3) rfl d_R_readLine_33 ?_)
        obtain ⟨y39, I40, c41, hf⟩ := of_zb hf
        refine ai_callVv (as := [.int (iv 3)]) (d' := 1) (q := ("SinglesUp$Reader", zT7, 13)) mo_R_fail lk_R_112 h_o0 rfl rfl rfl ⟨by decide, by decide⟩ rfl rfl (by decide) d_R_readLine_34 (t_R_fail fu o0 3 I37 h_I37 h_o0 in_3 c41) (fun h_I40 => ?_)
        exact hk4 I40 h_I40 hf
  refine ai_if_eq (hI o0 9) hf (tgt := 12) (by decide) d_R_readLine_4 (fun hf => ?_) (fun hf => ?_)
  · refine aw_iconst (v := iv 0) rfl d_R_readLine_12 ?_
    exact hk1 0 I0 in_0 hI hf
  · refine aw_bipush (v := iv 11) cb_11 d_R_readLine_7 (aw_goto (tgt := 13) (by decide) d_R_readLine_9 ?_)
    exact hk1 11 I0 in_11 hI hf
set_option maxRecDepth 20000 in
theorem t_R_addToken (fu : Nat) (o0 : Nat) (a1 : Int) (a2 : Int) (a3 : Int) (I0 : IMem) (hI : RG I0) (h_o0 : KC[o0]? = some (10, 13)) (h_a1 : inr a1) (h_a2 : inr a2) (h_a3 : inr a3) {r : Int × IMem} (hf : f_R_addToken fu o0 a1 a2 a3 I0 = some r) : Ss l b 1 y_R_addToken KC RC [.ref o0, .int (iv a1), .int (iv a2), .int (iv a3)] (ivm I0) (Pv r) := by
  unfold f_R_addToken at hf
  refine Ss.of (show Ai l b 1 y_R_addToken KC RC (Pv r) I0 0 [.ref o0, .int (iv a1), .int (iv a2), .int (iv a3)] [] from ?_)
  refine aw_aload_n rfl rfl d_R_addToken_0 (ai_geti fl_R_66 h_o0 (by decide) rfl d_R_addToken_1 ?_)
  refine ai_if_lt (hI o0 5) hf (tgt := 57) (by decide) d_R_addToken_4 (fun hf => ?_) (fun hf => ?_)
  · exact ai_retv rfl d_R_addToken_57 hf hI
  · refine aw_aload_n rfl rfl d_R_addToken_7 (ai_geti fl_R_66 h_o0 (by decide) rfl d_R_addToken_8 (aw_sipush (v := iv 400) cs_400 d_R_addToken_11 ?_))
    refine ai_icmp_gt (hI o0 5) in_400 hf (tgt := 57) (by decide) d_R_addToken_14 (fun hf => ?_) (fun hf => ?_)
    · exact ai_retv rfl d_R_addToken_57 hf hI
    · refine aw_aload_n rfl rfl d_R_addToken_17 (aw_getr (r := o0 + 2) fl_R_15 h_o0 (by decide) rfl (rc_7_2 _ h_o0).1 d_R_addToken_18 (aw_aload_n rfl rfl d_R_addToken_21 (ai_geti fl_R_66 h_o0 (by decide) rfl d_R_addToken_22 (aw_iload_n rfl rfl d_R_addToken_25 ?_))))
      refine ai_nameU hf (hI o0 5) (fun x2 h_x2 hf => ?_)
      refine ai_iast (rc_7_2 _ h_o0).2 rfl h_x2 h_a1 hI hf d_R_addToken_26 (fun _ I1 h_I1 hf => ?_)
      refine aw_aload_n rfl rfl d_R_addToken_27 (aw_getr (r := o0 + 3) fl_R_18 h_o0 (by decide) rfl (rc_7_3 _ h_o0).1 d_R_addToken_28 (aw_aload_n rfl rfl d_R_addToken_31 (ai_geti fl_R_66 h_o0 (by decide) rfl d_R_addToken_32 (aw_iload_n rfl rfl d_R_addToken_35 ?_))))
      refine ai_nameU hf (h_I1 o0 5) (fun x4 h_x4 hf => ?_)
      refine ai_iast (rc_7_3 _ h_o0).2 rfl h_x4 h_a2 h_I1 hf d_R_addToken_36 (fun _ I3 h_I3 hf => ?_)
      refine aw_aload_n rfl rfl d_R_addToken_37 (aw_getr (r := o0 + 4) fl_R_21 h_o0 (by decide) rfl (rc_7_4 _ h_o0).1 d_R_addToken_38 (aw_aload_n rfl rfl d_R_addToken_41 (ai_geti fl_R_66 h_o0 (by decide) rfl d_R_addToken_42 (aw_iload_n rfl rfl d_R_addToken_45 ?_))))
      refine ai_nameU hf (h_I3 o0 5) (fun x6 h_x6 hf => ?_)
      refine ai_iast (rc_7_4 _ h_o0).2 rfl h_x6 h_a3 h_I3 hf d_R_addToken_46 (fun _ I5 h_I5 hf => ?_)
      refine aw_aload_n rfl rfl d_R_addToken_47 (aw_dup rfl d_R_addToken_48 (ai_geti fl_R_66 h_o0 (by decide) rfl d_R_addToken_49 (aw_iconst (v := iv 1) rfl d_R_addToken_52 (ai_iadd d_R_addToken_53 ?_))))
      refine ai_puti hf h_I5 (wr32_in _) fl_R_66 h_o0 (by decide) rfl rfl rfl rfl d_R_addToken_54 (fun I7 h_I7 hf => ?_)
      exact ai_retv rfl d_R_addToken_57 hf h_I7
set_option maxRecDepth 20000 in
theorem t_R_isDigit (fu : Nat) (a0 : Int) (I0 : IMem) (hI : RG I0) (h_a0 : inr a0) {r : Int × IMem} (hf : f_R_isDigit fu a0 I0 = some r) : Ss l b 1 y_R_isDigit KC RC [.int (iv a0)] (ivm I0) (Ps r) := by
  unfold f_R_isDigit at hf
  refine Ss.of (show Ai l b 1 y_R_isDigit KC RC (Ps r) I0 0 [.int (iv a0)] [] from ?_)
  refine aw_iload_n rfl rfl d_R_isDigit_0 (aw_bipush (v := iv 48) cb_48 d_R_isDigit_1 ?_)
  refine ai_icmp_lt h_a0 in_48 hf (tgt := 16) (by decide) d_R_isDigit_3 (fun hf => ?_) (fun hf => ?_)
  · refine aw_iconst (v := iv 0) rfl d_R_isDigit_16 ?_
    exact ai_retn rfl (nar_z (Or.inl rfl)) d_R_isDigit_17 hf in_0 hI
  · refine aw_iload_n rfl rfl d_R_isDigit_6 (aw_bipush (v := iv 57) cb_57 d_R_isDigit_7 ?_)
    refine ai_icmp_gt h_a0 in_57 hf (tgt := 16) (by decide) d_R_isDigit_9 (fun hf => ?_) (fun hf => ?_)
    · refine aw_iconst (v := iv 0) rfl d_R_isDigit_16 ?_
      exact ai_retn rfl (nar_z (Or.inl rfl)) d_R_isDigit_17 hf in_0 hI
    · refine aw_iconst (v := iv 1) rfl d_R_isDigit_12 (aw_goto (tgt := 17) (by decide) d_R_isDigit_13 ?_)
      exact ai_retn rfl (nar_z (Or.inr rfl)) d_R_isDigit_17 hf in_1 hI
set_option maxRecDepth 20000 in
theorem t_R_isLetter (fu : Nat) (a0 : Int) (I0 : IMem) (hI : RG I0) (h_a0 : inr a0) {r : Int × IMem} (hf : f_R_isLetter fu a0 I0 = some r) : Ss l b 1 y_R_isLetter KC RC [.int (iv a0)] (ivm I0) (Ps r) := by
  unfold f_R_isLetter at hf
  refine Ss.of (show Ai l b 1 y_R_isLetter KC RC (Ps r) I0 0 [.int (iv a0)] [] from ?_)
  refine aw_iload_n rfl rfl d_R_isLetter_0 (aw_bipush (v := iv 97) cb_97 d_R_isLetter_1 ?_)
  obtain ⟨k1, ek1, hf⟩ := of_zj hf
  have hk1 : ∀  (I2 : IMem), RG I2 → k1 I2 = some r → Ai l b 1 y_R_isLetter KC RC (Ps r) I2 12 [.int (iv a0)] [] := by
    intro I2 h_I2 hf
    subst ek1
    refine aw_iload_n rfl rfl d_R_isLetter_12 (aw_bipush (v := iv 65) cb_65 d_R_isLetter_13 ?_)
    refine ai_icmp_lt h_a0 in_65 hf (tgt := 28) (by decide) d_R_isLetter_15 (fun hf => ?_) (fun hf => ?_)
    · refine aw_iconst (v := iv 0) rfl d_R_isLetter_28 ?_
      exact ai_retn rfl (nar_z (Or.inl rfl)) d_R_isLetter_29 hf in_0 h_I2
    · refine aw_iload_n rfl rfl d_R_isLetter_18 (aw_bipush (v := iv 90) cb_90 d_R_isLetter_19 ?_)
      refine ai_icmp_gt h_a0 in_90 hf (tgt := 28) (by decide) d_R_isLetter_21 (fun hf => ?_) (fun hf => ?_)
      · refine aw_iconst (v := iv 0) rfl d_R_isLetter_28 ?_
        exact ai_retn rfl (nar_z (Or.inl rfl)) d_R_isLetter_29 hf in_0 h_I2
      · refine aw_iconst (v := iv 1) rfl d_R_isLetter_24 (aw_goto (tgt := 29) (by decide) d_R_isLetter_25 ?_)
        exact ai_retn rfl (nar_z (Or.inr rfl)) d_R_isLetter_29 hf in_1 h_I2
  refine ai_icmp_lt h_a0 in_97 hf (tgt := 12) (by decide) d_R_isLetter_3 (fun hf => ?_) (fun hf => ?_)
  · exact hk1 I0 hI hf
  · refine aw_iload_n rfl rfl d_R_isLetter_6 (aw_bipush (v := iv 122) cb_122 d_R_isLetter_7 ?_)
    refine ai_icmp_le h_a0 in_122 hf (tgt := 24) (by decide) d_R_isLetter_9 (fun hf => ?_) (fun hf => ?_)
    · refine aw_iconst (v := iv 1) rfl d_R_isLetter_24 (aw_goto (tgt := 29) (by decide) d_R_isLetter_25 ?_)
      exact ai_retn rfl (nar_z (Or.inr rfl)) d_R_isLetter_29 hf in_1 hI
    · exact hk1 I0 hI hf
set_option maxRecDepth 20000 in
theorem t_R_numberAt_9 (fu : Nat) {r : Int × IMem} (o0 : Nat) (p2 : Int) (h_o0 : KC[o0]? = some (10, 13)) (h_p2 : inr p2) : ∀ (m : Nat) (w3 : Int) (w4 : Int) (I0 : IMem), inr w3 → inr w4 → RG I0 → f_R_numberAt_9 fu o0 p2 m w3 w4 I0 = some r → Ai l b 2 y_R_numberAt KC RC (Ps r) I0 9 [.ref o0, uu, .int (iv p2), .int (iv w3), .int (iv w4)] [] := by
  intro m
  induction m with
  | zero => intro w3 w4 I0 h_w3 h_w4 h_I0 hf; cases hf
  | succ m ih =>
    intro w3 w4 I0 h_w3 h_w4 h_I0 hf
    replace hf : fb_R_numberAt_9 fu o0 p2 (f_R_numberAt_9 fu o0 p2 m) w3 w4 I0 = some r := hf
    unfold fb_R_numberAt_9 at hf
    refine aw_iload rfl d_R_numberAt_9 (aw_iload_n rfl rfl d_R_numberAt_11 ?_)
    refine ai_icmp_ge h_w4 h_p2 hf (tgt := 45) (by decide) d_R_numberAt_12 (fun hf => ?_) (fun hf => ?_)
    · refine aw_iload_n rfl rfl d_R_numberAt_45 ?_
      exact ai_reti rfl d_R_numberAt_46 hf h_w3 h_I0
    · refine aw_iload rfl d_R_numberAt_15 (aw_sipush (v := iv 400) cs_400 d_R_numberAt_17 ?_)
      refine ai_icmp_ge h_w4 in_400 hf (tgt := 45) (by decide) d_R_numberAt_20 (fun hf => ?_) (fun hf => ?_)
      · refine aw_iload_n rfl rfl d_R_numberAt_45 ?_
        exact ai_reti rfl d_R_numberAt_46 hf h_w3 h_I0
      · refine aw_bipush (v := iv 10) cb_10 d_R_numberAt_23 (aw_iload_n rfl rfl d_R_numberAt_25 (ai_imul d_R_numberAt_26 (aw_aload_n rfl rfl d_R_numberAt_27 (aw_getr (r := o0 + 1) fl_R_11 h_o0 (by decide) rfl (rc_7_0 _ h_o0).1 d_R_numberAt_28 (aw_iload rfl d_R_numberAt_31 ?_)))))
        refine ai_iald (rc_7_0 _ h_o0).2 rfl h_w4 hf d_R_numberAt_33 (fun _ hf => ?_)
        refine ai_iadd d_R_numberAt_34 (aw_bipush (v := iv 48) cb_48 d_R_numberAt_35 (ai_isub d_R_numberAt_37 ?_))
        refine ai_name hf (wr32_in _) (fun x4 h_x4 hf => ?_)
        refine aw_istore_n (lv2 := [.ref o0, uu, .int (iv p2), .int (iv x4), .int (iv w4)]) rfl (Nat.le_of_ble_eq_true rfl) rfl d_R_numberAt_38 ?_
        refine ai_iinc (n := 1) (lv2 := fun x5 => [.ref o0, uu, .int (iv p2), .int (iv x4), .int (iv x5)]) hf rfl (Nat.le_of_ble_eq_true rfl) (fun _ => rfl) d_R_numberAt_39 (fun x5 h_x5 hf => ?_)
        refine aw_goto (tgt := 9) (by decide) d_R_numberAt_42 ?_
        exact ih x4 x5 I0 h_x4 h_x5 h_I0 hf
set_option maxRecDepth 20000 in
theorem t_R_numberAt (fu : Nat) (o0 : Nat) (a1 : Int) (a2 : Int) (I0 : IMem) (hI : RG I0) (h_o0 : KC[o0]? = some (10, 13)) (h_a1 : inr a1) (h_a2 : inr a2) {r : Int × IMem} (hf : f_R_numberAt fu o0 a1 a2 I0 = some r) : Ss l b 2 y_R_numberAt KC RC [.ref o0, .int (iv a1), .int (iv a2)] (ivm I0) (Ps r) := by
  unfold f_R_numberAt at hf
  refine Ss.of (show Ai l b 2 y_R_numberAt KC RC (Ps r) I0 0 [.ref o0, .int (iv a1), .int (iv a2), uu, uu] [] from ?_)
  refine aw_iconst (v := iv 0) rfl d_R_numberAt_0 (aw_istore_n (lv2 := [.ref o0, .int (iv a1), .int (iv a2), .int (iv 0), uu]) rfl (Nat.le_of_ble_eq_true rfl) rfl d_R_numberAt_1 (aw_iload_n rfl rfl d_R_numberAt_2 (aw_iconst (v := iv 0) rfl d_R_numberAt_3 ?_)))
  obtain ⟨y1, I2, c3, hf⟩ := of_zb hf
  refine ai_callS (as := [.int (iv a1), .int (iv 0)]) (d' := 1) mo_JM_max lk_R_104 rfl ⟨by decide, by decide⟩ rfl rfl (by decide) d_R_numberAt_4 (t_JM_max fu a1 0 I0 hI h_a1 in_0 c3) (fun h_y1 h_I2 => ?_)
  refine aw_istore (lv2 := [.ref o0, .int (iv a1), .int (iv a2), .int (iv 0), .int (iv y1)]) (Nat.le_of_ble_eq_true rfl) rfl d_R_numberAt_7 ?_
  refine aw_weakB (lv2 := [.ref o0, uu, .int (iv a2), .int (iv 0), .int (iv y1)]) (wk_s (wk_u (wk_s (wk_s (wk_s wk_n))))) ?_
  refine t_R_numberAt_9 fu o0 a2 h_o0 h_a2 fu 0 y1 I2 in_0 h_y1 h_I2 hf
end
