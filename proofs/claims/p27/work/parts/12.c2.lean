/-! the class: shallow functions and the machine -/
abbrev y_L_people : MI := (⟨"SinglesUp$Lines", "people", "(I)I"⟩, prog_6_method_13_code, 5, some .int)
theorem ck_L_people_0 : (y_L_people.2.1.data.toList.drop 0).take 32 = [3, 61, 42, 27, 182, 0, 60, 62, 3, 54, 4, 21, 4, 29, 162, 0, 24, 28, 42, 27, 16, 40, 104, 21, 4, 96, 4, 182, 0, 53, 96, 61] := by decide +kernel
theorem d_L_people_0 : decode y_L_people.2.1 0 = .ok (.iconst 0, 1) := op_iconst0 (gk (k := 0) (t := 0) ck_L_people_0 rfl)
theorem d_L_people_1 : decode y_L_people.2.1 1 = .ok (.istore_n 2, 1) := op_istore_n2 (gk (k := 0) (t := 1) ck_L_people_0 rfl)
theorem d_L_people_2 : decode y_L_people.2.1 2 = .ok (.aload_n 0, 1) := op_aload_n0 (gk (k := 0) (t := 2) ck_L_people_0 rfl)
theorem d_L_people_3 : decode y_L_people.2.1 3 = .ok (.iload_n 1, 1) := op_iload_n1 (gk (k := 0) (t := 3) ck_L_people_0 rfl)
theorem lk_L_60 : LkV "SinglesUp$Lines" 60 y_L_countOf := ⟨tw_c3 206 (by decide +kernel) rfl, tw_c3 207 (by decide +kernel) rfl, Or.inl (tw_c3 223 (by decide +kernel) rfl)⟩
theorem d_L_people_4 : decode y_L_people.2.1 4 = .ok (.invokevirtual 60, 3) := op_invokevirtual (gk (k := 0) (t := 4) ck_L_people_0 rfl) (gk (k := 0) (t := 5) ck_L_people_0 rfl) (gk (k := 0) (t := 6) ck_L_people_0 rfl) rfl
theorem d_L_people_7 : decode y_L_people.2.1 7 = .ok (.istore_n 3, 1) := op_istore_n3 (gk (k := 0) (t := 7) ck_L_people_0 rfl)
theorem d_L_people_8 : decode y_L_people.2.1 8 = .ok (.iconst 0, 1) := op_iconst0 (gk (k := 0) (t := 8) ck_L_people_0 rfl)
theorem d_L_people_9 : decode y_L_people.2.1 9 = .ok (.istore 4, 2) := op_istore (gk (k := 0) (t := 9) ck_L_people_0 rfl) (gk (k := 0) (t := 10) ck_L_people_0 rfl) rfl
theorem d_L_people_11 : decode y_L_people.2.1 11 = .ok (.iload 4, 2) := op_iload (gk (k := 0) (t := 11) ck_L_people_0 rfl) (gk (k := 0) (t := 12) ck_L_people_0 rfl) rfl
theorem d_L_people_13 : decode y_L_people.2.1 13 = .ok (.iload_n 3, 1) := op_iload_n3 (gk (k := 0) (t := 13) ck_L_people_0 rfl)
theorem d_L_people_14 : decode y_L_people.2.1 14 = .ok (.if_icmp .ge 24, 3) := op_icmp_ge (gk (k := 0) (t := 14) ck_L_people_0 rfl) (gk (k := 0) (t := 15) ck_L_people_0 rfl) (gk (k := 0) (t := 16) ck_L_people_0 rfl) (by decide +kernel)
theorem ck_L_people_1 : (y_L_people.2.1.data.toList.drop 32).take 32 = [132, 4, 1, 167, 255, 232, 28, 172] := by decide +kernel
theorem d_L_people_38 : decode y_L_people.2.1 38 = .ok (.iload_n 2, 1) := op_iload_n2 (gk (k := 32) (t := 6) ck_L_people_1 rfl)
theorem d_L_people_39 : decode y_L_people.2.1 39 = .ok (.ireturn, 1) := op_ireturn (gk (k := 32) (t := 7) ck_L_people_1 rfl)
theorem d_L_people_17 : decode y_L_people.2.1 17 = .ok (.iload_n 2, 1) := op_iload_n2 (gk (k := 0) (t := 17) ck_L_people_0 rfl)
theorem d_L_people_18 : decode y_L_people.2.1 18 = .ok (.aload_n 0, 1) := op_aload_n0 (gk (k := 0) (t := 18) ck_L_people_0 rfl)
theorem d_L_people_19 : decode y_L_people.2.1 19 = .ok (.iload_n 1, 1) := op_iload_n1 (gk (k := 0) (t := 19) ck_L_people_0 rfl)
theorem d_L_people_20 : decode y_L_people.2.1 20 = .ok (.bipush 40, 2) := op_bipush (gk (k := 0) (t := 20) ck_L_people_0 rfl) (gk (k := 0) (t := 21) ck_L_people_0 rfl) rfl
theorem d_L_people_22 : decode y_L_people.2.1 22 = .ok (.imul, 1) := op_imul (gk (k := 0) (t := 22) ck_L_people_0 rfl)
theorem d_L_people_23 : decode y_L_people.2.1 23 = .ok (.iload 4, 2) := op_iload (gk (k := 0) (t := 23) ck_L_people_0 rfl) (gk (k := 0) (t := 24) ck_L_people_0 rfl) rfl
theorem d_L_people_25 : decode y_L_people.2.1 25 = .ok (.iadd, 1) := op_iadd (gk (k := 0) (t := 25) ck_L_people_0 rfl)
theorem d_L_people_26 : decode y_L_people.2.1 26 = .ok (.iconst 1, 1) := op_iconst1 (gk (k := 0) (t := 26) ck_L_people_0 rfl)
theorem lk_L_53 : LkV "SinglesUp$Lines" 53 y_L_get := ⟨tw_c3 197 (by decide +kernel) rfl, tw_c3 198 (by decide +kernel) rfl, Or.inl (tw_c3 224 (by decide +kernel) rfl)⟩
theorem d_L_people_27 : decode y_L_people.2.1 27 = .ok (.invokevirtual 53, 3) := op_invokevirtual (gk (k := 0) (t := 27) ck_L_people_0 rfl) (gk (k := 0) (t := 28) ck_L_people_0 rfl) (gk (k := 0) (t := 29) ck_L_people_0 rfl) rfl
theorem d_L_people_30 : decode y_L_people.2.1 30 = .ok (.iadd, 1) := op_iadd (gk (k := 0) (t := 30) ck_L_people_0 rfl)
theorem d_L_people_31 : decode y_L_people.2.1 31 = .ok (.istore_n 2, 1) := op_istore_n2 (gk (k := 0) (t := 31) ck_L_people_0 rfl)
theorem d_L_people_32 : decode y_L_people.2.1 32 = .ok (.iinc 4 1, 3) := op_iinc (gk (k := 32) (t := 0) ck_L_people_1 rfl) (gk (k := 32) (t := 1) ck_L_people_1 rfl) (gk (k := 32) (t := 2) ck_L_people_1 rfl) rfl rfl
theorem d_L_people_35 : decode y_L_people.2.1 35 = .ok (.goto (-24), 3) := op_goto (gk (k := 32) (t := 3) ck_L_people_1 rfl) (gk (k := 32) (t := 4) ck_L_people_1 rfl) (gk (k := 32) (t := 5) ck_L_people_1 rfl) (by decide +kernel)
abbrev y_S_line : MI := (⟨"SinglesUp", "line", "(II)I"⟩, prog_1_method_13_code, 3, some .int)
theorem ck_S_line_0 : (y_S_line.2.1.data.toList.drop 0).take 32 = [27, 184, 0, 73, 153, 0, 12, 28, 155, 0, 8, 28, 4, 164, 0, 5, 2, 172, 28, 154, 0, 18, 42, 180, 0, 12, 180, 0, 77, 180, 0, 166] := by decide +kernel
theorem d_S_line_0 : decode y_S_line.2.1 0 = .ok (.iload_n 1, 1) := op_iload_n1 (gk (k := 0) (t := 0) ck_S_line_0 rfl)
theorem d_S_line_1 : decode y_S_line.2.1 1 = .ok (.invokestatic 73, 3) := op_invokestatic (gk (k := 0) (t := 1) ck_S_line_0 rfl) (gk (k := 0) (t := 2) ck_S_line_0 rfl) (gk (k := 0) (t := 3) ck_S_line_0 rfl) rfl
theorem d_S_line_4 : decode y_S_line.2.1 4 = .ok (.ifCond .eq 12, 3) := op_if_eq (gk (k := 0) (t := 4) ck_S_line_0 rfl) (gk (k := 0) (t := 5) ck_S_line_0 rfl) (gk (k := 0) (t := 6) ck_S_line_0 rfl) (by decide +kernel)
theorem d_S_line_16 : decode y_S_line.2.1 16 = .ok (.iconst (-1), 1) := op_iconstm1 (gk (k := 0) (t := 16) ck_S_line_0 rfl)
theorem d_S_line_17 : decode y_S_line.2.1 17 = .ok (.ireturn, 1) := op_ireturn (gk (k := 0) (t := 17) ck_S_line_0 rfl)
theorem d_S_line_7 : decode y_S_line.2.1 7 = .ok (.iload_n 2, 1) := op_iload_n2 (gk (k := 0) (t := 7) ck_S_line_0 rfl)
theorem d_S_line_8 : decode y_S_line.2.1 8 = .ok (.ifCond .lt 8, 3) := op_if_lt (gk (k := 0) (t := 8) ck_S_line_0 rfl) (gk (k := 0) (t := 9) ck_S_line_0 rfl) (gk (k := 0) (t := 10) ck_S_line_0 rfl) (by decide +kernel)
theorem d_S_line_11 : decode y_S_line.2.1 11 = .ok (.iload_n 2, 1) := op_iload_n2 (gk (k := 0) (t := 11) ck_S_line_0 rfl)
theorem d_S_line_12 : decode y_S_line.2.1 12 = .ok (.iconst 1, 1) := op_iconst1 (gk (k := 0) (t := 12) ck_S_line_0 rfl)
theorem d_S_line_13 : decode y_S_line.2.1 13 = .ok (.if_icmp .le 5, 3) := op_icmp_le (gk (k := 0) (t := 13) ck_S_line_0 rfl) (gk (k := 0) (t := 14) ck_S_line_0 rfl) (gk (k := 0) (t := 15) ck_S_line_0 rfl) (by decide +kernel)
theorem d_S_line_18 : decode y_S_line.2.1 18 = .ok (.iload_n 2, 1) := op_iload_n2 (gk (k := 0) (t := 18) ck_S_line_0 rfl)
theorem d_S_line_19 : decode y_S_line.2.1 19 = .ok (.ifCond .ne 18, 3) := op_if_ne (gk (k := 0) (t := 19) ck_S_line_0 rfl) (gk (k := 0) (t := 20) ck_S_line_0 rfl) (gk (k := 0) (t := 21) ck_S_line_0 rfl) (by decide +kernel)
theorem ck_S_line_1 : (y_S_line.2.1.data.toList.drop 32).take 32 = [27, 46, 167, 0, 14, 42, 180, 0, 12, 180, 0, 77, 27, 182, 0, 169, 172] := by decide +kernel
theorem d_S_line_37 : decode y_S_line.2.1 37 = .ok (.aload_n 0, 1) := op_aload_n0 (gk (k := 32) (t := 5) ck_S_line_1 rfl)
theorem d_S_line_38 : decode y_S_line.2.1 38 = .ok (.getfield 12, 3) := op_getfield (gk (k := 32) (t := 6) ck_S_line_1 rfl) (gk (k := 32) (t := 7) ck_S_line_1 rfl) (gk (k := 32) (t := 8) ck_S_line_1 rfl) rfl
theorem d_S_line_41 : decode y_S_line.2.1 41 = .ok (.getfield 77, 3) := op_getfield (gk (k := 32) (t := 9) ck_S_line_1 rfl) (gk (k := 32) (t := 10) ck_S_line_1 rfl) (gk (k := 32) (t := 11) ck_S_line_1 rfl) rfl
theorem d_S_line_44 : decode y_S_line.2.1 44 = .ok (.iload_n 1, 1) := op_iload_n1 (gk (k := 32) (t := 12) ck_S_line_1 rfl)
theorem lk_S_169 : LkV "SinglesUp" 169 y_L_people := ⟨tw_c3 220 (by decide +kernel) rfl, tw_c3 221 (by decide +kernel) rfl, Or.inl (tw_c3 219 (by decide +kernel) rfl)⟩
set_option maxRecDepth 100000 in
theorem mo_L_people : MOk y_L_people 1 := ⟨by decide +kernel, tw_c3 222 rfl rfl, tw_c1 3 (by decide +kernel) rfl, by decide +kernel, by decide +kernel, by decide +kernel⟩
theorem d_S_line_45 : decode y_S_line.2.1 45 = .ok (.invokevirtual 169, 3) := op_invokevirtual (gk (k := 32) (t := 13) ck_S_line_1 rfl) (gk (k := 32) (t := 14) ck_S_line_1 rfl) (gk (k := 32) (t := 15) ck_S_line_1 rfl) rfl
theorem d_S_line_48 : decode y_S_line.2.1 48 = .ok (.ireturn, 1) := op_ireturn (gk (k := 32) (t := 16) ck_S_line_1 rfl)
theorem d_S_line_22 : decode y_S_line.2.1 22 = .ok (.aload_n 0, 1) := op_aload_n0 (gk (k := 0) (t := 22) ck_S_line_0 rfl)
theorem d_S_line_23 : decode y_S_line.2.1 23 = .ok (.getfield 12, 3) := op_getfield (gk (k := 0) (t := 23) ck_S_line_0 rfl) (gk (k := 0) (t := 24) ck_S_line_0 rfl) (gk (k := 0) (t := 25) ck_S_line_0 rfl) rfl
theorem d_S_line_26 : decode y_S_line.2.1 26 = .ok (.getfield 77, 3) := op_getfield (gk (k := 0) (t := 26) ck_S_line_0 rfl) (gk (k := 0) (t := 27) ck_S_line_0 rfl) (gk (k := 0) (t := 28) ck_S_line_0 rfl) rfl
theorem fl_S_166 : FL "SinglesUp" 166 4 1 := ⟨"SinglesUp$Lines", zT4, 3, rfl, by decide, rfl, Or.inr ⟨"SinglesUp", nw_in 48 (by decide +kernel) rfl⟩⟩
theorem d_S_line_29 : decode y_S_line.2.1 29 = .ok (.getfield 166, 3) := op_getfield (gk (k := 0) (t := 29) ck_S_line_0 rfl) (gk (k := 0) (t := 30) ck_S_line_0 rfl) (gk (k := 0) (t := 31) ck_S_line_0 rfl) rfl
theorem d_S_line_32 : decode y_S_line.2.1 32 = .ok (.iload_n 1, 1) := op_iload_n1 (gk (k := 32) (t := 0) ck_S_line_1 rfl)
theorem d_S_line_33 : decode y_S_line.2.1 33 = .ok (.iaload, 1) := op_iaload (gk (k := 32) (t := 1) ck_S_line_1 rfl)
theorem d_S_line_34 : decode y_S_line.2.1 34 = .ok (.goto 14, 3) := op_goto (gk (k := 32) (t := 2) ck_S_line_1 rfl) (gk (k := 32) (t := 3) ck_S_line_1 rfl) (gk (k := 32) (t := 4) ck_S_line_1 rfl) (by decide +kernel)
abbrev y_C_sit : MI := (⟨"SinglesUp$Chair", "sit", "(IIII)V"⟩, prog_2_method_11_code, 5, none)
theorem ck_C_sit_0 : (y_C_sit.2.1.data.toList.drop 0).take 32 = [27, 155, 0, 26, 27, 17, 0, 240, 162, 0, 19, 42, 180, 0, 40, 155, 0, 12, 42, 180, 0, 40, 16, 8, 161, 0, 4, 177, 42, 180, 0, 9] := by decide +kernel
theorem d_C_sit_0 : decode y_C_sit.2.1 0 = .ok (.iload_n 1, 1) := op_iload_n1 (gk (k := 0) (t := 0) ck_C_sit_0 rfl)
theorem d_C_sit_1 : decode y_C_sit.2.1 1 = .ok (.ifCond .lt 26, 3) := op_if_lt (gk (k := 0) (t := 1) ck_C_sit_0 rfl) (gk (k := 0) (t := 2) ck_C_sit_0 rfl) (gk (k := 0) (t := 3) ck_C_sit_0 rfl) (by decide +kernel)
theorem d_C_sit_27 : decode y_C_sit.2.1 27 = .ok (.return_, 1) := op_return_ (gk (k := 0) (t := 27) ck_C_sit_0 rfl)
theorem d_C_sit_4 : decode y_C_sit.2.1 4 = .ok (.iload_n 1, 1) := op_iload_n1 (gk (k := 0) (t := 4) ck_C_sit_0 rfl)
theorem cs_240 : (Int16.ofInt 240).toInt32 = iv 240 := by decide +kernel
theorem d_C_sit_5 : decode y_C_sit.2.1 5 = .ok (.sipush 240, 3) := op_sipush (gk (k := 0) (t := 5) ck_C_sit_0 rfl) (gk (k := 0) (t := 6) ck_C_sit_0 rfl) (gk (k := 0) (t := 7) ck_C_sit_0 rfl) (by decide +kernel)
theorem in_240 : inr (240) := lit_in rfl
theorem d_C_sit_8 : decode y_C_sit.2.1 8 = .ok (.if_icmp .ge 19, 3) := op_icmp_ge (gk (k := 0) (t := 8) ck_C_sit_0 rfl) (gk (k := 0) (t := 9) ck_C_sit_0 rfl) (gk (k := 0) (t := 10) ck_C_sit_0 rfl) (by decide +kernel)
theorem d_C_sit_11 : decode y_C_sit.2.1 11 = .ok (.aload_n 0, 1) := op_aload_n0 (gk (k := 0) (t := 11) ck_C_sit_0 rfl)
theorem d_C_sit_12 : decode y_C_sit.2.1 12 = .ok (.getfield 40, 3) := op_getfield (gk (k := 0) (t := 12) ck_C_sit_0 rfl) (gk (k := 0) (t := 13) ck_C_sit_0 rfl) (gk (k := 0) (t := 14) ck_C_sit_0 rfl) rfl
theorem d_C_sit_15 : decode y_C_sit.2.1 15 = .ok (.ifCond .lt 12, 3) := op_if_lt (gk (k := 0) (t := 15) ck_C_sit_0 rfl) (gk (k := 0) (t := 16) ck_C_sit_0 rfl) (gk (k := 0) (t := 17) ck_C_sit_0 rfl) (by decide +kernel)
theorem d_C_sit_18 : decode y_C_sit.2.1 18 = .ok (.aload_n 0, 1) := op_aload_n0 (gk (k := 0) (t := 18) ck_C_sit_0 rfl)
theorem d_C_sit_19 : decode y_C_sit.2.1 19 = .ok (.getfield 40, 3) := op_getfield (gk (k := 0) (t := 19) ck_C_sit_0 rfl) (gk (k := 0) (t := 20) ck_C_sit_0 rfl) (gk (k := 0) (t := 21) ck_C_sit_0 rfl) rfl
theorem d_C_sit_22 : decode y_C_sit.2.1 22 = .ok (.bipush 8, 2) := op_bipush (gk (k := 0) (t := 22) ck_C_sit_0 rfl) (gk (k := 0) (t := 23) ck_C_sit_0 rfl) rfl
theorem d_C_sit_24 : decode y_C_sit.2.1 24 = .ok (.if_icmp .lt 4, 3) := op_icmp_lt (gk (k := 0) (t := 24) ck_C_sit_0 rfl) (gk (k := 0) (t := 25) ck_C_sit_0 rfl) (gk (k := 0) (t := 26) ck_C_sit_0 rfl) (by decide +kernel)
theorem d_C_sit_28 : decode y_C_sit.2.1 28 = .ok (.aload_n 0, 1) := op_aload_n0 (gk (k := 0) (t := 28) ck_C_sit_0 rfl)
theorem d_C_sit_29 : decode y_C_sit.2.1 29 = .ok (.getfield 9, 3) := op_getfield (gk (k := 0) (t := 29) ck_C_sit_0 rfl) (gk (k := 0) (t := 30) ck_C_sit_0 rfl) (gk (k := 0) (t := 31) ck_C_sit_0 rfl) rfl
theorem ck_C_sit_1 : (y_C_sit.2.1.data.toList.drop 32).take 32 = [27, 21, 4, 79, 42, 180, 0, 15, 42, 180, 0, 40, 27, 79, 42, 180, 0, 18, 42, 180, 0, 40, 28, 79, 42, 89, 180, 0, 40, 4, 96, 181] := by decide +kernel
theorem d_C_sit_32 : decode y_C_sit.2.1 32 = .ok (.iload_n 1, 1) := op_iload_n1 (gk (k := 32) (t := 0) ck_C_sit_1 rfl)
theorem d_C_sit_33 : decode y_C_sit.2.1 33 = .ok (.iload 4, 2) := op_iload (gk (k := 32) (t := 1) ck_C_sit_1 rfl) (gk (k := 32) (t := 2) ck_C_sit_1 rfl) rfl
theorem d_C_sit_35 : decode y_C_sit.2.1 35 = .ok (.iastore, 1) := op_iastore (gk (k := 32) (t := 3) ck_C_sit_1 rfl)
theorem d_C_sit_36 : decode y_C_sit.2.1 36 = .ok (.aload_n 0, 1) := op_aload_n0 (gk (k := 32) (t := 4) ck_C_sit_1 rfl)
theorem fl_C_15 : FL "SinglesUp$Chair" 15 0 1 := ⟨"SinglesUp$Chair", zT0, 12, rfl, by decide, rfl, Or.inl (tw_c1 163 (by decide +kernel) rfl)⟩
theorem rc_0_1 : ∀ o, KC[o]? = some (3, 12) → RC o 1 = some (o + 2) ∧ KC[o + 2]? = some (0, 8) := by
  intro o h
  have hl : o < 166 := (List.getElem?_eq_some_iff.mp h).1
  exact (by decide +kernel : ∀ o, o < 166 → KC[o]? = some (3, 12) → RC o 1 = some (o + 2) ∧ KC[o + 2]? = some (0, 8)) o hl h
theorem d_C_sit_37 : decode y_C_sit.2.1 37 = .ok (.getfield 15, 3) := op_getfield (gk (k := 32) (t := 5) ck_C_sit_1 rfl) (gk (k := 32) (t := 6) ck_C_sit_1 rfl) (gk (k := 32) (t := 7) ck_C_sit_1 rfl) rfl
theorem d_C_sit_40 : decode y_C_sit.2.1 40 = .ok (.aload_n 0, 1) := op_aload_n0 (gk (k := 32) (t := 8) ck_C_sit_1 rfl)
theorem d_C_sit_41 : decode y_C_sit.2.1 41 = .ok (.getfield 40, 3) := op_getfield (gk (k := 32) (t := 9) ck_C_sit_1 rfl) (gk (k := 32) (t := 10) ck_C_sit_1 rfl) (gk (k := 32) (t := 11) ck_C_sit_1 rfl) rfl
theorem d_C_sit_44 : decode y_C_sit.2.1 44 = .ok (.iload_n 1, 1) := op_iload_n1 (gk (k := 32) (t := 12) ck_C_sit_1 rfl)
theorem d_C_sit_45 : decode y_C_sit.2.1 45 = .ok (.iastore, 1) := op_iastore (gk (k := 32) (t := 13) ck_C_sit_1 rfl)
theorem d_C_sit_46 : decode y_C_sit.2.1 46 = .ok (.aload_n 0, 1) := op_aload_n0 (gk (k := 32) (t := 14) ck_C_sit_1 rfl)
theorem fl_C_18 : FL "SinglesUp$Chair" 18 0 2 := ⟨"SinglesUp$Chair", zT0, 12, rfl, by decide, rfl, Or.inl (tw_c1 164 (by decide +kernel) rfl)⟩
theorem rc_0_2 : ∀ o, KC[o]? = some (3, 12) → RC o 2 = some (o + 3) ∧ KC[o + 3]? = some (0, 8) := by
  intro o h
  have hl : o < 166 := (List.getElem?_eq_some_iff.mp h).1
  exact (by decide +kernel : ∀ o, o < 166 → KC[o]? = some (3, 12) → RC o 2 = some (o + 3) ∧ KC[o + 3]? = some (0, 8)) o hl h
theorem d_C_sit_47 : decode y_C_sit.2.1 47 = .ok (.getfield 18, 3) := op_getfield (gk (k := 32) (t := 15) ck_C_sit_1 rfl) (gk (k := 32) (t := 16) ck_C_sit_1 rfl) (gk (k := 32) (t := 17) ck_C_sit_1 rfl) rfl
theorem d_C_sit_50 : decode y_C_sit.2.1 50 = .ok (.aload_n 0, 1) := op_aload_n0 (gk (k := 32) (t := 18) ck_C_sit_1 rfl)
theorem d_C_sit_51 : decode y_C_sit.2.1 51 = .ok (.getfield 40, 3) := op_getfield (gk (k := 32) (t := 19) ck_C_sit_1 rfl) (gk (k := 32) (t := 20) ck_C_sit_1 rfl) (gk (k := 32) (t := 21) ck_C_sit_1 rfl) rfl
theorem d_C_sit_54 : decode y_C_sit.2.1 54 = .ok (.iload_n 2, 1) := op_iload_n2 (gk (k := 32) (t := 22) ck_C_sit_1 rfl)
theorem d_C_sit_55 : decode y_C_sit.2.1 55 = .ok (.iastore, 1) := op_iastore (gk (k := 32) (t := 23) ck_C_sit_1 rfl)
theorem d_C_sit_56 : decode y_C_sit.2.1 56 = .ok (.aload_n 0, 1) := op_aload_n0 (gk (k := 32) (t := 24) ck_C_sit_1 rfl)
theorem d_C_sit_57 : decode y_C_sit.2.1 57 = .ok (.dup, 1) := op_dup (gk (k := 32) (t := 25) ck_C_sit_1 rfl)
theorem d_C_sit_58 : decode y_C_sit.2.1 58 = .ok (.getfield 40, 3) := op_getfield (gk (k := 32) (t := 26) ck_C_sit_1 rfl) (gk (k := 32) (t := 27) ck_C_sit_1 rfl) (gk (k := 32) (t := 28) ck_C_sit_1 rfl) rfl
theorem d_C_sit_61 : decode y_C_sit.2.1 61 = .ok (.iconst 1, 1) := op_iconst1 (gk (k := 32) (t := 29) ck_C_sit_1 rfl)
theorem d_C_sit_62 : decode y_C_sit.2.1 62 = .ok (.iadd, 1) := op_iadd (gk (k := 32) (t := 30) ck_C_sit_1 rfl)
theorem ck_C_sit_2 : (y_C_sit.2.1.data.toList.drop 64).take 32 = [0, 40, 42, 89, 180, 0, 30, 28, 100, 181, 0, 30, 42, 42, 180, 0, 46, 154, 0, 8, 29, 5, 160, 0, 7, 4, 167, 0, 4, 3, 181, 0] := by decide +kernel
theorem d_C_sit_63 : decode y_C_sit.2.1 63 = .ok (.putfield 40, 3) := op_putfield (gk (k := 32) (t := 31) ck_C_sit_1 rfl) (gk (k := 64) (t := 0) ck_C_sit_2 rfl) (gk (k := 64) (t := 1) ck_C_sit_2 rfl) rfl
theorem d_C_sit_66 : decode y_C_sit.2.1 66 = .ok (.aload_n 0, 1) := op_aload_n0 (gk (k := 64) (t := 2) ck_C_sit_2 rfl)
theorem d_C_sit_67 : decode y_C_sit.2.1 67 = .ok (.dup, 1) := op_dup (gk (k := 64) (t := 3) ck_C_sit_2 rfl)
theorem d_C_sit_68 : decode y_C_sit.2.1 68 = .ok (.getfield 30, 3) := op_getfield (gk (k := 64) (t := 4) ck_C_sit_2 rfl) (gk (k := 64) (t := 5) ck_C_sit_2 rfl) (gk (k := 64) (t := 6) ck_C_sit_2 rfl) rfl
theorem d_C_sit_71 : decode y_C_sit.2.1 71 = .ok (.iload_n 2, 1) := op_iload_n2 (gk (k := 64) (t := 7) ck_C_sit_2 rfl)
theorem d_C_sit_72 : decode y_C_sit.2.1 72 = .ok (.isub, 1) := op_isub (gk (k := 64) (t := 8) ck_C_sit_2 rfl)
theorem d_C_sit_73 : decode y_C_sit.2.1 73 = .ok (.putfield 30, 3) := op_putfield (gk (k := 64) (t := 9) ck_C_sit_2 rfl) (gk (k := 64) (t := 10) ck_C_sit_2 rfl) (gk (k := 64) (t := 11) ck_C_sit_2 rfl) rfl
theorem d_C_sit_76 : decode y_C_sit.2.1 76 = .ok (.aload_n 0, 1) := op_aload_n0 (gk (k := 64) (t := 12) ck_C_sit_2 rfl)
theorem d_C_sit_77 : decode y_C_sit.2.1 77 = .ok (.aload_n 0, 1) := op_aload_n0 (gk (k := 64) (t := 13) ck_C_sit_2 rfl)
theorem d_C_sit_78 : decode y_C_sit.2.1 78 = .ok (.getfield 46, 3) := op_getfield (gk (k := 64) (t := 14) ck_C_sit_2 rfl) (gk (k := 64) (t := 15) ck_C_sit_2 rfl) (gk (k := 64) (t := 16) ck_C_sit_2 rfl) rfl
theorem ck_C_sit_3 : (y_C_sit.2.1.data.toList.drop 96).take 32 = [46, 42, 42, 180, 0, 50, 154, 0, 8, 29, 4, 159, 0, 7, 4, 167, 0, 4, 3, 181, 0, 50, 177] := by decide +kernel
theorem d_C_sit_94 : decode y_C_sit.2.1 94 = .ok (.putfield 46, 3) := op_putfield (gk (k := 64) (t := 30) ck_C_sit_2 rfl) (gk (k := 64) (t := 31) ck_C_sit_2 rfl) (gk (k := 96) (t := 0) ck_C_sit_3 rfl) rfl
theorem d_C_sit_97 : decode y_C_sit.2.1 97 = .ok (.aload_n 0, 1) := op_aload_n0 (gk (k := 96) (t := 1) ck_C_sit_3 rfl)
theorem d_C_sit_98 : decode y_C_sit.2.1 98 = .ok (.aload_n 0, 1) := op_aload_n0 (gk (k := 96) (t := 2) ck_C_sit_3 rfl)
theorem d_C_sit_99 : decode y_C_sit.2.1 99 = .ok (.getfield 50, 3) := op_getfield (gk (k := 96) (t := 3) ck_C_sit_3 rfl) (gk (k := 96) (t := 4) ck_C_sit_3 rfl) (gk (k := 96) (t := 5) ck_C_sit_3 rfl) rfl
theorem d_C_sit_115 : decode y_C_sit.2.1 115 = .ok (.putfield 50, 3) := op_putfield (gk (k := 96) (t := 19) ck_C_sit_3 rfl) (gk (k := 96) (t := 20) ck_C_sit_3 rfl) (gk (k := 96) (t := 21) ck_C_sit_3 rfl) rfl
theorem d_C_sit_118 : decode y_C_sit.2.1 118 = .ok (.return_, 1) := op_return_ (gk (k := 96) (t := 22) ck_C_sit_3 rfl)
theorem d_C_sit_102 : decode y_C_sit.2.1 102 = .ok (.ifCond .ne 8, 3) := op_if_ne (gk (k := 96) (t := 6) ck_C_sit_3 rfl) (gk (k := 96) (t := 7) ck_C_sit_3 rfl) (gk (k := 96) (t := 8) ck_C_sit_3 rfl) (by decide +kernel)
theorem d_C_sit_110 : decode y_C_sit.2.1 110 = .ok (.iconst 1, 1) := op_iconst1 (gk (k := 96) (t := 14) ck_C_sit_3 rfl)
theorem d_C_sit_111 : decode y_C_sit.2.1 111 = .ok (.goto 4, 3) := op_goto (gk (k := 96) (t := 15) ck_C_sit_3 rfl) (gk (k := 96) (t := 16) ck_C_sit_3 rfl) (gk (k := 96) (t := 17) ck_C_sit_3 rfl) (by decide +kernel)
theorem d_C_sit_105 : decode y_C_sit.2.1 105 = .ok (.iload_n 3, 1) := op_iload_n3 (gk (k := 96) (t := 9) ck_C_sit_3 rfl)
theorem d_C_sit_106 : decode y_C_sit.2.1 106 = .ok (.iconst 1, 1) := op_iconst1 (gk (k := 96) (t := 10) ck_C_sit_3 rfl)
theorem d_C_sit_107 : decode y_C_sit.2.1 107 = .ok (.if_icmp .eq 7, 3) := op_icmp_eq (gk (k := 96) (t := 11) ck_C_sit_3 rfl) (gk (k := 96) (t := 12) ck_C_sit_3 rfl) (gk (k := 96) (t := 13) ck_C_sit_3 rfl) (by decide +kernel)
theorem d_C_sit_114 : decode y_C_sit.2.1 114 = .ok (.iconst 0, 1) := op_iconst0 (gk (k := 96) (t := 18) ck_C_sit_3 rfl)
theorem d_C_sit_81 : decode y_C_sit.2.1 81 = .ok (.ifCond .ne 8, 3) := op_if_ne (gk (k := 64) (t := 17) ck_C_sit_2 rfl) (gk (k := 64) (t := 18) ck_C_sit_2 rfl) (gk (k := 64) (t := 19) ck_C_sit_2 rfl) (by decide +kernel)
theorem d_C_sit_89 : decode y_C_sit.2.1 89 = .ok (.iconst 1, 1) := op_iconst1 (gk (k := 64) (t := 25) ck_C_sit_2 rfl)
theorem d_C_sit_90 : decode y_C_sit.2.1 90 = .ok (.goto 4, 3) := op_goto (gk (k := 64) (t := 26) ck_C_sit_2 rfl) (gk (k := 64) (t := 27) ck_C_sit_2 rfl) (gk (k := 64) (t := 28) ck_C_sit_2 rfl) (by decide +kernel)
theorem d_C_sit_84 : decode y_C_sit.2.1 84 = .ok (.iload_n 3, 1) := op_iload_n3 (gk (k := 64) (t := 20) ck_C_sit_2 rfl)
theorem d_C_sit_85 : decode y_C_sit.2.1 85 = .ok (.iconst 2, 1) := op_iconst2 (gk (k := 64) (t := 21) ck_C_sit_2 rfl)
theorem d_C_sit_86 : decode y_C_sit.2.1 86 = .ok (.if_icmp .ne 7, 3) := op_icmp_ne (gk (k := 64) (t := 22) ck_C_sit_2 rfl) (gk (k := 64) (t := 23) ck_C_sit_2 rfl) (gk (k := 64) (t := 24) ck_C_sit_2 rfl) (by decide +kernel)
theorem d_C_sit_93 : decode y_C_sit.2.1 93 = .ok (.iconst 0, 1) := op_iconst0 (gk (k := 64) (t := 29) ck_C_sit_2 rfl)
abbrev y_C_stands : MI := (⟨"SinglesUp$Chair", "stands", "(I)Z"⟩, prog_2_method_6_code, 2, some .boolean)
theorem ck_C_stands_0 : (y_C_stands.2.1.data.toList.drop 0).take 32 = [27, 155, 0, 23, 27, 17, 0, 240, 162, 0, 16, 42, 180, 0, 9, 27, 46, 154, 0, 7, 4, 167, 0, 4, 3, 172] := by decide +kernel
theorem d_C_stands_0 : decode y_C_stands.2.1 0 = .ok (.iload_n 1, 1) := op_iload_n1 (gk (k := 0) (t := 0) ck_C_stands_0 rfl)
theorem d_C_stands_1 : decode y_C_stands.2.1 1 = .ok (.ifCond .lt 23, 3) := op_if_lt (gk (k := 0) (t := 1) ck_C_stands_0 rfl) (gk (k := 0) (t := 2) ck_C_stands_0 rfl) (gk (k := 0) (t := 3) ck_C_stands_0 rfl) (by decide +kernel)
theorem d_C_stands_24 : decode y_C_stands.2.1 24 = .ok (.iconst 0, 1) := op_iconst0 (gk (k := 0) (t := 24) ck_C_stands_0 rfl)
theorem d_C_stands_25 : decode y_C_stands.2.1 25 = .ok (.ireturn, 1) := op_ireturn (gk (k := 0) (t := 25) ck_C_stands_0 rfl)
theorem d_C_stands_4 : decode y_C_stands.2.1 4 = .ok (.iload_n 1, 1) := op_iload_n1 (gk (k := 0) (t := 4) ck_C_stands_0 rfl)
theorem d_C_stands_5 : decode y_C_stands.2.1 5 = .ok (.sipush 240, 3) := op_sipush (gk (k := 0) (t := 5) ck_C_stands_0 rfl) (gk (k := 0) (t := 6) ck_C_stands_0 rfl) (gk (k := 0) (t := 7) ck_C_stands_0 rfl) (by decide +kernel)
theorem d_C_stands_8 : decode y_C_stands.2.1 8 = .ok (.if_icmp .ge 16, 3) := op_icmp_ge (gk (k := 0) (t := 8) ck_C_stands_0 rfl) (gk (k := 0) (t := 9) ck_C_stands_0 rfl) (gk (k := 0) (t := 10) ck_C_stands_0 rfl) (by decide +kernel)
theorem d_C_stands_11 : decode y_C_stands.2.1 11 = .ok (.aload_n 0, 1) := op_aload_n0 (gk (k := 0) (t := 11) ck_C_stands_0 rfl)
theorem d_C_stands_12 : decode y_C_stands.2.1 12 = .ok (.getfield 9, 3) := op_getfield (gk (k := 0) (t := 12) ck_C_stands_0 rfl) (gk (k := 0) (t := 13) ck_C_stands_0 rfl) (gk (k := 0) (t := 14) ck_C_stands_0 rfl) rfl
theorem d_C_stands_15 : decode y_C_stands.2.1 15 = .ok (.iload_n 1, 1) := op_iload_n1 (gk (k := 0) (t := 15) ck_C_stands_0 rfl)
theorem d_C_stands_16 : decode y_C_stands.2.1 16 = .ok (.iaload, 1) := op_iaload (gk (k := 0) (t := 16) ck_C_stands_0 rfl)
theorem d_C_stands_17 : decode y_C_stands.2.1 17 = .ok (.ifCond .ne 7, 3) := op_if_ne (gk (k := 0) (t := 17) ck_C_stands_0 rfl) (gk (k := 0) (t := 18) ck_C_stands_0 rfl) (gk (k := 0) (t := 19) ck_C_stands_0 rfl) (by decide +kernel)
theorem d_C_stands_20 : decode y_C_stands.2.1 20 = .ok (.iconst 1, 1) := op_iconst1 (gk (k := 0) (t := 20) ck_C_stands_0 rfl)
theorem d_C_stands_21 : decode y_C_stands.2.1 21 = .ok (.goto 4, 3) := op_goto (gk (k := 0) (t := 21) ck_C_stands_0 rfl) (gk (k := 0) (t := 22) ck_C_stands_0 rfl) (gk (k := 0) (t := 23) ck_C_stands_0 rfl) (by decide +kernel)
abbrev y_L_isSeen : MI := (⟨"SinglesUp$Lines", "isSeen", "(II)Z"⟩, prog_6_method_5_code, 3, some .boolean)
theorem ck_L_isSeen_0 : (y_L_isSeen.2.1.data.toList.drop 0).take 32 = [42, 27, 28, 182, 0, 43, 153, 0, 17, 28, 42, 180, 0, 18, 27, 46, 162, 0, 7, 4, 167, 0, 4, 3, 172] := by decide +kernel
theorem d_L_isSeen_0 : decode y_L_isSeen.2.1 0 = .ok (.aload_n 0, 1) := op_aload_n0 (gk (k := 0) (t := 0) ck_L_isSeen_0 rfl)
theorem d_L_isSeen_1 : decode y_L_isSeen.2.1 1 = .ok (.iload_n 1, 1) := op_iload_n1 (gk (k := 0) (t := 1) ck_L_isSeen_0 rfl)
theorem d_L_isSeen_2 : decode y_L_isSeen.2.1 2 = .ok (.iload_n 2, 1) := op_iload_n2 (gk (k := 0) (t := 2) ck_L_isSeen_0 rfl)
theorem lk_L_43 : LkV "SinglesUp$Lines" 43 y_L_has := ⟨tw_c3 193 (by decide +kernel) rfl, tw_c3 194 (by decide +kernel) rfl, Or.inl (tw_c4 3 (by decide +kernel) rfl)⟩
theorem d_L_isSeen_3 : decode y_L_isSeen.2.1 3 = .ok (.invokevirtual 43, 3) := op_invokevirtual (gk (k := 0) (t := 3) ck_L_isSeen_0 rfl) (gk (k := 0) (t := 4) ck_L_isSeen_0 rfl) (gk (k := 0) (t := 5) ck_L_isSeen_0 rfl) rfl
theorem d_L_isSeen_6 : decode y_L_isSeen.2.1 6 = .ok (.ifCond .eq 17, 3) := op_if_eq (gk (k := 0) (t := 6) ck_L_isSeen_0 rfl) (gk (k := 0) (t := 7) ck_L_isSeen_0 rfl) (gk (k := 0) (t := 8) ck_L_isSeen_0 rfl) (by decide +kernel)
theorem d_L_isSeen_23 : decode y_L_isSeen.2.1 23 = .ok (.iconst 0, 1) := op_iconst0 (gk (k := 0) (t := 23) ck_L_isSeen_0 rfl)
theorem d_L_isSeen_24 : decode y_L_isSeen.2.1 24 = .ok (.ireturn, 1) := op_ireturn (gk (k := 0) (t := 24) ck_L_isSeen_0 rfl)
theorem d_L_isSeen_9 : decode y_L_isSeen.2.1 9 = .ok (.iload_n 2, 1) := op_iload_n2 (gk (k := 0) (t := 9) ck_L_isSeen_0 rfl)
theorem d_L_isSeen_10 : decode y_L_isSeen.2.1 10 = .ok (.aload_n 0, 1) := op_aload_n0 (gk (k := 0) (t := 10) ck_L_isSeen_0 rfl)
theorem fl_L_18 : FL "SinglesUp$Lines" 18 4 2 := ⟨"SinglesUp$Lines", zT4, 3, rfl, by decide, rfl, Or.inl (tw_c1 49 (by decide +kernel) rfl)⟩
theorem d_L_isSeen_11 : decode y_L_isSeen.2.1 11 = .ok (.getfield 18, 3) := op_getfield (gk (k := 0) (t := 11) ck_L_isSeen_0 rfl) (gk (k := 0) (t := 12) ck_L_isSeen_0 rfl) (gk (k := 0) (t := 13) ck_L_isSeen_0 rfl) rfl
theorem d_L_isSeen_14 : decode y_L_isSeen.2.1 14 = .ok (.iload_n 1, 1) := op_iload_n1 (gk (k := 0) (t := 14) ck_L_isSeen_0 rfl)
theorem d_L_isSeen_15 : decode y_L_isSeen.2.1 15 = .ok (.iaload, 1) := op_iaload (gk (k := 0) (t := 15) ck_L_isSeen_0 rfl)
theorem d_L_isSeen_16 : decode y_L_isSeen.2.1 16 = .ok (.if_icmp .ge 7, 3) := op_icmp_ge (gk (k := 0) (t := 16) ck_L_isSeen_0 rfl) (gk (k := 0) (t := 17) ck_L_isSeen_0 rfl) (gk (k := 0) (t := 18) ck_L_isSeen_0 rfl) (by decide +kernel)
theorem d_L_isSeen_19 : decode y_L_isSeen.2.1 19 = .ok (.iconst 1, 1) := op_iconst1 (gk (k := 0) (t := 19) ck_L_isSeen_0 rfl)
theorem d_L_isSeen_20 : decode y_L_isSeen.2.1 20 = .ok (.goto 4, 3) := op_goto (gk (k := 0) (t := 20) ck_L_isSeen_0 rfl) (gk (k := 0) (t := 21) ck_L_isSeen_0 rfl) (gk (k := 0) (t := 22) ck_L_isSeen_0 rfl) (by decide +kernel)
abbrev y_C_judge : MI := (⟨"SinglesUp$Chair", "judge", "(LSinglesUp$Hill;II)I"⟩, prog_2_method_15_code, 7, some .int)
theorem ck_C_judge_0 : (y_C_judge.2.1.data.toList.drop 0).take 32 = [28, 16, 40, 104, 29, 96, 54, 4, 43, 180, 0, 72, 28, 29, 182, 0, 177, 153, 0, 12, 42, 21, 4, 182, 0, 107, 154, 0, 5, 4, 172, 43] := by decide +kernel
theorem d_C_judge_0 : decode y_C_judge.2.1 0 = .ok (.iload_n 2, 1) := op_iload_n2 (gk (k := 0) (t := 0) ck_C_judge_0 rfl)
theorem d_C_judge_1 : decode y_C_judge.2.1 1 = .ok (.bipush 40, 2) := op_bipush (gk (k := 0) (t := 1) ck_C_judge_0 rfl) (gk (k := 0) (t := 2) ck_C_judge_0 rfl) rfl
theorem d_C_judge_3 : decode y_C_judge.2.1 3 = .ok (.imul, 1) := op_imul (gk (k := 0) (t := 3) ck_C_judge_0 rfl)
theorem d_C_judge_4 : decode y_C_judge.2.1 4 = .ok (.iload_n 3, 1) := op_iload_n3 (gk (k := 0) (t := 4) ck_C_judge_0 rfl)
theorem d_C_judge_5 : decode y_C_judge.2.1 5 = .ok (.iadd, 1) := op_iadd (gk (k := 0) (t := 5) ck_C_judge_0 rfl)
theorem d_C_judge_6 : decode y_C_judge.2.1 6 = .ok (.istore 4, 2) := op_istore (gk (k := 0) (t := 6) ck_C_judge_0 rfl) (gk (k := 0) (t := 7) ck_C_judge_0 rfl) rfl
theorem d_C_judge_8 : decode y_C_judge.2.1 8 = .ok (.aload_n 1, 1) := op_aload_n1 (gk (k := 0) (t := 8) ck_C_judge_0 rfl)
theorem fl_C_72 : FL "SinglesUp$Chair" 72 2 5 := ⟨"SinglesUp$Hill", zT2, 14, rfl, by decide, rfl, Or.inr ⟨"SinglesUp", nw_in 100 (by decide +kernel) rfl⟩⟩
theorem d_C_judge_9 : decode y_C_judge.2.1 9 = .ok (.getfield 72, 3) := op_getfield (gk (k := 0) (t := 9) ck_C_judge_0 rfl) (gk (k := 0) (t := 10) ck_C_judge_0 rfl) (gk (k := 0) (t := 11) ck_C_judge_0 rfl) rfl
theorem d_C_judge_12 : decode y_C_judge.2.1 12 = .ok (.iload_n 2, 1) := op_iload_n2 (gk (k := 0) (t := 12) ck_C_judge_0 rfl)
theorem d_C_judge_13 : decode y_C_judge.2.1 13 = .ok (.iload_n 3, 1) := op_iload_n3 (gk (k := 0) (t := 13) ck_C_judge_0 rfl)
theorem lk_C_177 : LkV "SinglesUp$Chair" 177 y_L_has := ⟨tw_c3 193 (by decide +kernel) rfl, tw_c3 194 (by decide +kernel) rfl, Or.inl (tw_c3 233 (by decide +kernel) rfl)⟩
theorem d_C_judge_14 : decode y_C_judge.2.1 14 = .ok (.invokevirtual 177, 3) := op_invokevirtual (gk (k := 0) (t := 14) ck_C_judge_0 rfl) (gk (k := 0) (t := 15) ck_C_judge_0 rfl) (gk (k := 0) (t := 16) ck_C_judge_0 rfl) rfl
theorem d_C_judge_17 : decode y_C_judge.2.1 17 = .ok (.ifCond .eq 12, 3) := op_if_eq (gk (k := 0) (t := 17) ck_C_judge_0 rfl) (gk (k := 0) (t := 18) ck_C_judge_0 rfl) (gk (k := 0) (t := 19) ck_C_judge_0 rfl) (by decide +kernel)
theorem d_C_judge_29 : decode y_C_judge.2.1 29 = .ok (.iconst 1, 1) := op_iconst1 (gk (k := 0) (t := 29) ck_C_judge_0 rfl)
theorem d_C_judge_30 : decode y_C_judge.2.1 30 = .ok (.ireturn, 1) := op_ireturn (gk (k := 0) (t := 30) ck_C_judge_0 rfl)
theorem d_C_judge_20 : decode y_C_judge.2.1 20 = .ok (.aload_n 0, 1) := op_aload_n0 (gk (k := 0) (t := 20) ck_C_judge_0 rfl)
theorem d_C_judge_21 : decode y_C_judge.2.1 21 = .ok (.iload 4, 2) := op_iload (gk (k := 0) (t := 21) ck_C_judge_0 rfl) (gk (k := 0) (t := 22) ck_C_judge_0 rfl) rfl
theorem lk_C_107 : LkV "SinglesUp$Chair" 107 y_C_stands := ⟨tw_c3 236 (by decide +kernel) rfl, tw_in 18 (by decide +kernel) rfl, Or.inl (tw_c3 234 (by decide +kernel) rfl)⟩
set_option maxRecDepth 100000 in
theorem mo_C_stands : MOk y_C_stands 1 := ⟨by decide +kernel, tw_c3 237 rfl rfl, tw_c1 7 (by decide +kernel) rfl, by decide +kernel, by decide +kernel, by decide +kernel⟩
theorem d_C_judge_23 : decode y_C_judge.2.1 23 = .ok (.invokevirtual 107, 3) := op_invokevirtual (gk (k := 0) (t := 23) ck_C_judge_0 rfl) (gk (k := 0) (t := 24) ck_C_judge_0 rfl) (gk (k := 0) (t := 25) ck_C_judge_0 rfl) rfl
theorem d_C_judge_26 : decode y_C_judge.2.1 26 = .ok (.ifCond .ne 5, 3) := op_if_ne (gk (k := 0) (t := 26) ck_C_judge_0 rfl) (gk (k := 0) (t := 27) ck_C_judge_0 rfl) (gk (k := 0) (t := 28) ck_C_judge_0 rfl) (by decide +kernel)
theorem d_C_judge_31 : decode y_C_judge.2.1 31 = .ok (.aload_n 1, 1) := op_aload_n1 (gk (k := 0) (t := 31) ck_C_judge_0 rfl)
theorem ck_C_judge_1 : (y_C_judge.2.1.data.toList.drop 32).take 32 = [180, 0, 72, 21, 4, 4, 182, 0, 92, 54, 5, 43, 180, 0, 72, 21, 4, 6, 182, 0, 92, 54, 6, 43, 180, 0, 72, 28, 29, 182, 0, 181] := by decide +kernel
theorem d_C_judge_32 : decode y_C_judge.2.1 32 = .ok (.getfield 72, 3) := op_getfield (gk (k := 32) (t := 0) ck_C_judge_1 rfl) (gk (k := 32) (t := 1) ck_C_judge_1 rfl) (gk (k := 32) (t := 2) ck_C_judge_1 rfl) rfl
theorem d_C_judge_35 : decode y_C_judge.2.1 35 = .ok (.iload 4, 2) := op_iload (gk (k := 32) (t := 3) ck_C_judge_1 rfl) (gk (k := 32) (t := 4) ck_C_judge_1 rfl) rfl
theorem d_C_judge_37 : decode y_C_judge.2.1 37 = .ok (.iconst 1, 1) := op_iconst1 (gk (k := 32) (t := 5) ck_C_judge_1 rfl)
theorem lk_C_92 : LkV "SinglesUp$Chair" 92 y_L_get := ⟨tw_c3 197 (by decide +kernel) rfl, tw_c3 198 (by decide +kernel) rfl, Or.inl (tw_c3 238 (by decide +kernel) rfl)⟩
theorem d_C_judge_38 : decode y_C_judge.2.1 38 = .ok (.invokevirtual 92, 3) := op_invokevirtual (gk (k := 32) (t := 6) ck_C_judge_1 rfl) (gk (k := 32) (t := 7) ck_C_judge_1 rfl) (gk (k := 32) (t := 8) ck_C_judge_1 rfl) rfl
theorem d_C_judge_41 : decode y_C_judge.2.1 41 = .ok (.istore 5, 2) := op_istore (gk (k := 32) (t := 9) ck_C_judge_1 rfl) (gk (k := 32) (t := 10) ck_C_judge_1 rfl) rfl
theorem d_C_judge_43 : decode y_C_judge.2.1 43 = .ok (.aload_n 1, 1) := op_aload_n1 (gk (k := 32) (t := 11) ck_C_judge_1 rfl)
theorem d_C_judge_44 : decode y_C_judge.2.1 44 = .ok (.getfield 72, 3) := op_getfield (gk (k := 32) (t := 12) ck_C_judge_1 rfl) (gk (k := 32) (t := 13) ck_C_judge_1 rfl) (gk (k := 32) (t := 14) ck_C_judge_1 rfl) rfl
theorem d_C_judge_47 : decode y_C_judge.2.1 47 = .ok (.iload 4, 2) := op_iload (gk (k := 32) (t := 15) ck_C_judge_1 rfl) (gk (k := 32) (t := 16) ck_C_judge_1 rfl) rfl
theorem d_C_judge_49 : decode y_C_judge.2.1 49 = .ok (.iconst 3, 1) := op_iconst3 (gk (k := 32) (t := 17) ck_C_judge_1 rfl)
theorem d_C_judge_50 : decode y_C_judge.2.1 50 = .ok (.invokevirtual 92, 3) := op_invokevirtual (gk (k := 32) (t := 18) ck_C_judge_1 rfl) (gk (k := 32) (t := 19) ck_C_judge_1 rfl) (gk (k := 32) (t := 20) ck_C_judge_1 rfl) rfl
theorem d_C_judge_53 : decode y_C_judge.2.1 53 = .ok (.istore 6, 2) := op_istore (gk (k := 32) (t := 21) ck_C_judge_1 rfl) (gk (k := 32) (t := 22) ck_C_judge_1 rfl) rfl
theorem d_C_judge_55 : decode y_C_judge.2.1 55 = .ok (.aload_n 1, 1) := op_aload_n1 (gk (k := 32) (t := 23) ck_C_judge_1 rfl)
theorem d_C_judge_56 : decode y_C_judge.2.1 56 = .ok (.getfield 72, 3) := op_getfield (gk (k := 32) (t := 24) ck_C_judge_1 rfl) (gk (k := 32) (t := 25) ck_C_judge_1 rfl) (gk (k := 32) (t := 26) ck_C_judge_1 rfl) rfl
theorem d_C_judge_59 : decode y_C_judge.2.1 59 = .ok (.iload_n 2, 1) := op_iload_n2 (gk (k := 32) (t := 27) ck_C_judge_1 rfl)
theorem d_C_judge_60 : decode y_C_judge.2.1 60 = .ok (.iload_n 3, 1) := op_iload_n3 (gk (k := 32) (t := 28) ck_C_judge_1 rfl)
theorem lk_C_181 : LkV "SinglesUp$Chair" 181 y_L_isSeen := ⟨tw_c4 0 (by decide +kernel) rfl, tw_c4 1 (by decide +kernel) rfl, Or.inl (tw_c3 239 (by decide +kernel) rfl)⟩
set_option maxRecDepth 100000 in
theorem mo_L_isSeen : MOk y_L_isSeen 2 := ⟨by decide +kernel, tw_c4 2 rfl rfl, tw_c1 3 (by decide +kernel) rfl, by decide +kernel, by decide +kernel, by decide +kernel⟩
theorem d_C_judge_61 : decode y_C_judge.2.1 61 = .ok (.invokevirtual 181, 3) := op_invokevirtual (gk (k := 32) (t := 29) ck_C_judge_1 rfl) (gk (k := 32) (t := 30) ck_C_judge_1 rfl) (gk (k := 32) (t := 31) ck_C_judge_1 rfl) rfl
theorem ck_C_judge_2 : (y_C_judge.2.1.data.toList.drop 64).take 32 = [154, 0, 5, 5, 172, 21, 5, 42, 180, 0, 30, 164, 0, 5, 6, 172, 21, 6, 4, 160, 0, 12, 42, 180, 0, 50, 154, 0, 5, 7, 172, 42] := by decide +kernel
theorem d_C_judge_64 : decode y_C_judge.2.1 64 = .ok (.ifCond .ne 5, 3) := op_if_ne (gk (k := 64) (t := 0) ck_C_judge_2 rfl) (gk (k := 64) (t := 1) ck_C_judge_2 rfl) (gk (k := 64) (t := 2) ck_C_judge_2 rfl) (by decide +kernel)
theorem d_C_judge_69 : decode y_C_judge.2.1 69 = .ok (.iload 5, 2) := op_iload (gk (k := 64) (t := 5) ck_C_judge_2 rfl) (gk (k := 64) (t := 6) ck_C_judge_2 rfl) rfl
theorem d_C_judge_71 : decode y_C_judge.2.1 71 = .ok (.aload_n 0, 1) := op_aload_n0 (gk (k := 64) (t := 7) ck_C_judge_2 rfl)
theorem d_C_judge_72 : decode y_C_judge.2.1 72 = .ok (.getfield 30, 3) := op_getfield (gk (k := 64) (t := 8) ck_C_judge_2 rfl) (gk (k := 64) (t := 9) ck_C_judge_2 rfl) (gk (k := 64) (t := 10) ck_C_judge_2 rfl) rfl
theorem d_C_judge_75 : decode y_C_judge.2.1 75 = .ok (.if_icmp .le 5, 3) := op_icmp_le (gk (k := 64) (t := 11) ck_C_judge_2 rfl) (gk (k := 64) (t := 12) ck_C_judge_2 rfl) (gk (k := 64) (t := 13) ck_C_judge_2 rfl) (by decide +kernel)
theorem d_C_judge_80 : decode y_C_judge.2.1 80 = .ok (.iload 6, 2) := op_iload (gk (k := 64) (t := 16) ck_C_judge_2 rfl) (gk (k := 64) (t := 17) ck_C_judge_2 rfl) rfl
theorem d_C_judge_82 : decode y_C_judge.2.1 82 = .ok (.iconst 1, 1) := op_iconst1 (gk (k := 64) (t := 18) ck_C_judge_2 rfl)
theorem d_C_judge_95 : decode y_C_judge.2.1 95 = .ok (.aload_n 0, 1) := op_aload_n0 (gk (k := 64) (t := 31) ck_C_judge_2 rfl)
theorem ck_C_judge_3 : (y_C_judge.2.1.data.toList.drop 96).take 32 = [180, 0, 46, 154, 0, 16, 21, 6, 5, 160, 0, 12, 42, 180, 0, 40, 158, 0, 5, 8, 172, 42, 21, 4, 21, 5, 21, 6, 4, 182, 0, 100] := by decide +kernel
theorem d_C_judge_96 : decode y_C_judge.2.1 96 = .ok (.getfield 46, 3) := op_getfield (gk (k := 96) (t := 0) ck_C_judge_3 rfl) (gk (k := 96) (t := 1) ck_C_judge_3 rfl) (gk (k := 96) (t := 2) ck_C_judge_3 rfl) rfl
theorem d_C_judge_99 : decode y_C_judge.2.1 99 = .ok (.ifCond .ne 16, 3) := op_if_ne (gk (k := 96) (t := 3) ck_C_judge_3 rfl) (gk (k := 96) (t := 4) ck_C_judge_3 rfl) (gk (k := 96) (t := 5) ck_C_judge_3 rfl) (by decide +kernel)
theorem d_C_judge_115 : decode y_C_judge.2.1 115 = .ok (.iconst 5, 1) := op_iconst5 (gk (k := 96) (t := 19) ck_C_judge_3 rfl)
theorem d_C_judge_116 : decode y_C_judge.2.1 116 = .ok (.ireturn, 1) := op_ireturn (gk (k := 96) (t := 20) ck_C_judge_3 rfl)
theorem d_C_judge_102 : decode y_C_judge.2.1 102 = .ok (.iload 6, 2) := op_iload (gk (k := 96) (t := 6) ck_C_judge_3 rfl) (gk (k := 96) (t := 7) ck_C_judge_3 rfl) rfl
theorem d_C_judge_104 : decode y_C_judge.2.1 104 = .ok (.iconst 2, 1) := op_iconst2 (gk (k := 96) (t := 8) ck_C_judge_3 rfl)
theorem d_C_judge_117 : decode y_C_judge.2.1 117 = .ok (.aload_n 0, 1) := op_aload_n0 (gk (k := 96) (t := 21) ck_C_judge_3 rfl)
theorem d_C_judge_118 : decode y_C_judge.2.1 118 = .ok (.iload 4, 2) := op_iload (gk (k := 96) (t := 22) ck_C_judge_3 rfl) (gk (k := 96) (t := 23) ck_C_judge_3 rfl) rfl
theorem d_C_judge_120 : decode y_C_judge.2.1 120 = .ok (.iload 5, 2) := op_iload (gk (k := 96) (t := 24) ck_C_judge_3 rfl) (gk (k := 96) (t := 25) ck_C_judge_3 rfl) rfl
theorem d_C_judge_122 : decode y_C_judge.2.1 122 = .ok (.iload 6, 2) := op_iload (gk (k := 96) (t := 26) ck_C_judge_3 rfl) (gk (k := 96) (t := 27) ck_C_judge_3 rfl) rfl
theorem d_C_judge_124 : decode y_C_judge.2.1 124 = .ok (.iconst 1, 1) := op_iconst1 (gk (k := 96) (t := 28) ck_C_judge_3 rfl)
theorem lk_C_100 : LkV "SinglesUp$Chair" 100 y_C_sit := ⟨tw_c4 6 (by decide +kernel) rfl, tw_in 19 (by decide +kernel) rfl, Or.inl (tw_c4 4 (by decide +kernel) rfl)⟩
set_option maxRecDepth 100000 in
theorem mo_C_sit : MOk y_C_sit 4 := ⟨by decide +kernel, tw_c4 7 rfl rfl, tw_c1 7 (by decide +kernel) rfl, by decide +kernel, by decide +kernel, by decide +kernel⟩
theorem d_C_judge_125 : decode y_C_judge.2.1 125 = .ok (.invokevirtual 100, 3) := op_invokevirtual (gk (k := 96) (t := 29) ck_C_judge_3 rfl) (gk (k := 96) (t := 30) ck_C_judge_3 rfl) (gk (k := 96) (t := 31) ck_C_judge_3 rfl) rfl
theorem ck_C_judge_4 : (y_C_judge.2.1.data.toList.drop 128).take 32 = [3, 172] := by decide +kernel
theorem d_C_judge_128 : decode y_C_judge.2.1 128 = .ok (.iconst 0, 1) := op_iconst0 (gk (k := 128) (t := 0) ck_C_judge_4 rfl)
theorem d_C_judge_129 : decode y_C_judge.2.1 129 = .ok (.ireturn, 1) := op_ireturn (gk (k := 128) (t := 1) ck_C_judge_4 rfl)
theorem d_C_judge_105 : decode y_C_judge.2.1 105 = .ok (.if_icmp .ne 12, 3) := op_icmp_ne (gk (k := 96) (t := 9) ck_C_judge_3 rfl) (gk (k := 96) (t := 10) ck_C_judge_3 rfl) (gk (k := 96) (t := 11) ck_C_judge_3 rfl) (by decide +kernel)
theorem d_C_judge_108 : decode y_C_judge.2.1 108 = .ok (.aload_n 0, 1) := op_aload_n0 (gk (k := 96) (t := 12) ck_C_judge_3 rfl)
theorem d_C_judge_109 : decode y_C_judge.2.1 109 = .ok (.getfield 40, 3) := op_getfield (gk (k := 96) (t := 13) ck_C_judge_3 rfl) (gk (k := 96) (t := 14) ck_C_judge_3 rfl) (gk (k := 96) (t := 15) ck_C_judge_3 rfl) rfl
theorem d_C_judge_112 : decode y_C_judge.2.1 112 = .ok (.ifCond .le 5, 3) := op_if_le (gk (k := 96) (t := 16) ck_C_judge_3 rfl) (gk (k := 96) (t := 17) ck_C_judge_3 rfl) (gk (k := 96) (t := 18) ck_C_judge_3 rfl) (by decide +kernel)
theorem d_C_judge_83 : decode y_C_judge.2.1 83 = .ok (.if_icmp .ne 12, 3) := op_icmp_ne (gk (k := 64) (t := 19) ck_C_judge_2 rfl) (gk (k := 64) (t := 20) ck_C_judge_2 rfl) (gk (k := 64) (t := 21) ck_C_judge_2 rfl) (by decide +kernel)
theorem d_C_judge_86 : decode y_C_judge.2.1 86 = .ok (.aload_n 0, 1) := op_aload_n0 (gk (k := 64) (t := 22) ck_C_judge_2 rfl)
theorem d_C_judge_87 : decode y_C_judge.2.1 87 = .ok (.getfield 50, 3) := op_getfield (gk (k := 64) (t := 23) ck_C_judge_2 rfl) (gk (k := 64) (t := 24) ck_C_judge_2 rfl) (gk (k := 64) (t := 25) ck_C_judge_2 rfl) rfl
theorem d_C_judge_90 : decode y_C_judge.2.1 90 = .ok (.ifCond .ne 5, 3) := op_if_ne (gk (k := 64) (t := 26) ck_C_judge_2 rfl) (gk (k := 64) (t := 27) ck_C_judge_2 rfl) (gk (k := 64) (t := 28) ck_C_judge_2 rfl) (by decide +kernel)
theorem d_C_judge_93 : decode y_C_judge.2.1 93 = .ok (.iconst 4, 1) := op_iconst4 (gk (k := 64) (t := 29) ck_C_judge_2 rfl)
theorem d_C_judge_94 : decode y_C_judge.2.1 94 = .ok (.ireturn, 1) := op_ireturn (gk (k := 64) (t := 30) ck_C_judge_2 rfl)
theorem d_C_judge_78 : decode y_C_judge.2.1 78 = .ok (.iconst 3, 1) := op_iconst3 (gk (k := 64) (t := 14) ck_C_judge_2 rfl)
theorem d_C_judge_79 : decode y_C_judge.2.1 79 = .ok (.ireturn, 1) := op_ireturn (gk (k := 64) (t := 15) ck_C_judge_2 rfl)
theorem d_C_judge_67 : decode y_C_judge.2.1 67 = .ok (.iconst 2, 1) := op_iconst2 (gk (k := 64) (t := 3) ck_C_judge_2 rfl)
theorem d_C_judge_68 : decode y_C_judge.2.1 68 = .ok (.ireturn, 1) := op_ireturn (gk (k := 64) (t := 4) ck_C_judge_2 rfl)
abbrev y_S_pick : MI := (⟨"SinglesUp", "pick", "(II)I"⟩, prog_1_method_14_code, 3, some .int)
theorem ck_S_pick_0 : (y_S_pick.2.1.data.toList.drop 0).take 32 = [42, 180, 0, 33, 42, 180, 0, 12, 27, 28, 182, 0, 173, 172] := by decide +kernel
theorem d_S_pick_0 : decode y_S_pick.2.1 0 = .ok (.aload_n 0, 1) := op_aload_n0 (gk (k := 0) (t := 0) ck_S_pick_0 rfl)
theorem d_S_pick_1 : decode y_S_pick.2.1 1 = .ok (.getfield 33, 3) := op_getfield (gk (k := 0) (t := 1) ck_S_pick_0 rfl) (gk (k := 0) (t := 2) ck_S_pick_0 rfl) (gk (k := 0) (t := 3) ck_S_pick_0 rfl) rfl
theorem d_S_pick_4 : decode y_S_pick.2.1 4 = .ok (.aload_n 0, 1) := op_aload_n0 (gk (k := 0) (t := 4) ck_S_pick_0 rfl)
theorem d_S_pick_5 : decode y_S_pick.2.1 5 = .ok (.getfield 12, 3) := op_getfield (gk (k := 0) (t := 5) ck_S_pick_0 rfl) (gk (k := 0) (t := 6) ck_S_pick_0 rfl) (gk (k := 0) (t := 7) ck_S_pick_0 rfl) rfl
theorem d_S_pick_8 : decode y_S_pick.2.1 8 = .ok (.iload_n 1, 1) := op_iload_n1 (gk (k := 0) (t := 8) ck_S_pick_0 rfl)
theorem d_S_pick_9 : decode y_S_pick.2.1 9 = .ok (.iload_n 2, 1) := op_iload_n2 (gk (k := 0) (t := 9) ck_S_pick_0 rfl)
theorem lk_S_173 : LkV "SinglesUp" 173 y_C_judge := ⟨tw_c3 230 (by decide +kernel) rfl, tw_c3 231 (by decide +kernel) rfl, Or.inl (tw_c3 229 (by decide +kernel) rfl)⟩
set_option maxRecDepth 100000 in
theorem mo_C_judge : MOk y_C_judge 3 := ⟨by decide +kernel, tw_c3 232 rfl rfl, tw_c1 7 (by decide +kernel) rfl, by decide +kernel, by decide +kernel, by decide +kernel⟩
theorem d_S_pick_10 : decode y_S_pick.2.1 10 = .ok (.invokevirtual 173, 3) := op_invokevirtual (gk (k := 0) (t := 10) ck_S_pick_0 rfl) (gk (k := 0) (t := 11) ck_S_pick_0 rfl) (gk (k := 0) (t := 12) ck_S_pick_0 rfl) rfl
theorem d_S_pick_13 : decode y_S_pick.2.1 13 = .ok (.ireturn, 1) := op_ireturn (gk (k := 0) (t := 13) ck_S_pick_0 rfl)
abbrev y_H_draw : MI := (⟨"SinglesUp$Hill", "draw", "(I)I"⟩, prog_4_method_3_code, 2, some .int)
theorem ck_H_draw_0 : (y_H_draw.2.1.data.toList.drop 0).take 32 = [42, 42, 180, 0, 70, 18, 76, 104, 18, 77, 96, 181, 0, 70, 27, 158, 0, 15, 42, 180, 0, 70, 16, 8, 124, 27, 112, 167, 0, 4, 3, 172] := by decide +kernel
theorem d_H_draw_0 : decode y_H_draw.2.1 0 = .ok (.aload_n 0, 1) := op_aload_n0 (gk (k := 0) (t := 0) ck_H_draw_0 rfl)
theorem d_H_draw_1 : decode y_H_draw.2.1 1 = .ok (.aload_n 0, 1) := op_aload_n0 (gk (k := 0) (t := 1) ck_H_draw_0 rfl)
theorem fl_H_70 : FL "SinglesUp$Hill" 70 2 6 := ⟨"SinglesUp$Hill", zT2, 14, rfl, by decide, rfl, Or.inl (tw_c1 103 (by decide +kernel) rfl)⟩
theorem d_H_draw_2 : decode y_H_draw.2.1 2 = .ok (.getfield 70, 3) := op_getfield (gk (k := 0) (t := 2) ck_H_draw_0 rfl) (gk (k := 0) (t := 3) ck_H_draw_0 rfl) (gk (k := 0) (t := 4) ck_H_draw_0 rfl) rfl
theorem kc_H_76 : Cond.constant "SinglesUp$Hill" 76 1664525 ∈ TW := tw_c4 42 (by decide +kernel) rfl
theorem kc_H_76e : (1664525 : Int32) = iv 1664525 := by decide +kernel
theorem d_H_draw_5 : decode y_H_draw.2.1 5 = .ok (.ldc 76, 2) := op_ldc (gk (k := 0) (t := 5) ck_H_draw_0 rfl) (gk (k := 0) (t := 6) ck_H_draw_0 rfl) rfl
theorem d_H_draw_7 : decode y_H_draw.2.1 7 = .ok (.imul, 1) := op_imul (gk (k := 0) (t := 7) ck_H_draw_0 rfl)
theorem kc_H_77 : Cond.constant "SinglesUp$Hill" 77 1013904223 ∈ TW := tw_c4 43 (by decide +kernel) rfl
theorem kc_H_77e : (1013904223 : Int32) = iv 1013904223 := by decide +kernel
theorem d_H_draw_8 : decode y_H_draw.2.1 8 = .ok (.ldc 77, 2) := op_ldc (gk (k := 0) (t := 8) ck_H_draw_0 rfl) (gk (k := 0) (t := 9) ck_H_draw_0 rfl) rfl
theorem d_H_draw_10 : decode y_H_draw.2.1 10 = .ok (.iadd, 1) := op_iadd (gk (k := 0) (t := 10) ck_H_draw_0 rfl)
theorem d_H_draw_11 : decode y_H_draw.2.1 11 = .ok (.putfield 70, 3) := op_putfield (gk (k := 0) (t := 11) ck_H_draw_0 rfl) (gk (k := 0) (t := 12) ck_H_draw_0 rfl) (gk (k := 0) (t := 13) ck_H_draw_0 rfl) rfl
theorem d_H_draw_14 : decode y_H_draw.2.1 14 = .ok (.iload_n 1, 1) := op_iload_n1 (gk (k := 0) (t := 14) ck_H_draw_0 rfl)
theorem d_H_draw_15 : decode y_H_draw.2.1 15 = .ok (.ifCond .le 15, 3) := op_if_le (gk (k := 0) (t := 15) ck_H_draw_0 rfl) (gk (k := 0) (t := 16) ck_H_draw_0 rfl) (gk (k := 0) (t := 17) ck_H_draw_0 rfl) (by decide +kernel)
theorem d_H_draw_30 : decode y_H_draw.2.1 30 = .ok (.iconst 0, 1) := op_iconst0 (gk (k := 0) (t := 30) ck_H_draw_0 rfl)
theorem d_H_draw_31 : decode y_H_draw.2.1 31 = .ok (.ireturn, 1) := op_ireturn (gk (k := 0) (t := 31) ck_H_draw_0 rfl)
theorem d_H_draw_18 : decode y_H_draw.2.1 18 = .ok (.aload_n 0, 1) := op_aload_n0 (gk (k := 0) (t := 18) ck_H_draw_0 rfl)
theorem d_H_draw_19 : decode y_H_draw.2.1 19 = .ok (.getfield 70, 3) := op_getfield (gk (k := 0) (t := 19) ck_H_draw_0 rfl) (gk (k := 0) (t := 20) ck_H_draw_0 rfl) (gk (k := 0) (t := 21) ck_H_draw_0 rfl) rfl
theorem d_H_draw_22 : decode y_H_draw.2.1 22 = .ok (.bipush 8, 2) := op_bipush (gk (k := 0) (t := 22) ck_H_draw_0 rfl) (gk (k := 0) (t := 23) ck_H_draw_0 rfl) rfl
theorem d_H_draw_24 : decode y_H_draw.2.1 24 = .ok (.iushr, 1) := op_iushr (gk (k := 0) (t := 24) ck_H_draw_0 rfl)
theorem d_H_draw_25 : decode y_H_draw.2.1 25 = .ok (.iload_n 1, 1) := op_iload_n1 (gk (k := 0) (t := 25) ck_H_draw_0 rfl)
theorem d_H_draw_26 : decode y_H_draw.2.1 26 = .ok (.irem, 1) := op_irem (gk (k := 0) (t := 26) ck_H_draw_0 rfl)
theorem d_H_draw_27 : decode y_H_draw.2.1 27 = .ok (.goto 4, 3) := op_goto (gk (k := 0) (t := 27) ck_H_draw_0 rfl) (gk (k := 0) (t := 28) ck_H_draw_0 rfl) (gk (k := 0) (t := 29) ck_H_draw_0 rfl) (by decide +kernel)
abbrev y_H_pastAt : MI := (⟨"SinglesUp$Hill", "pastAt", "(I)I"⟩, prog_4_method_12_code, 1, some .int)
theorem ck_H_pastAt_0 : (y_H_pastAt.2.1.data.toList.drop 0).take 32 = [26, 16, 60, 184, 0, 119, 6, 104, 172] := by decide +kernel
theorem d_H_pastAt_0 : decode y_H_pastAt.2.1 0 = .ok (.iload_n 0, 1) := op_iload_n0 (gk (k := 0) (t := 0) ck_H_pastAt_0 rfl)
theorem d_H_pastAt_1 : decode y_H_pastAt.2.1 1 = .ok (.bipush 60, 2) := op_bipush (gk (k := 0) (t := 1) ck_H_pastAt_0 rfl) (gk (k := 0) (t := 2) ck_H_pastAt_0 rfl) rfl
theorem lk_H_119 : LkS "SinglesUp$Hill" 119 y_JM_floorMod := ⟨tw_c4 48 (by decide +kernel) rfl, Or.inl (tw_c4 47 (by decide +kernel) rfl)⟩
set_option maxRecDepth 100000 in
theorem mo_JM_floorMod : MOk y_JM_floorMod 2 := ⟨by decide +kernel, tw_c4 49 rfl rfl, tw_c1 17 (by decide +kernel) rfl, by decide +kernel, by decide +kernel, by decide +kernel⟩
theorem d_H_pastAt_3 : decode y_H_pastAt.2.1 3 = .ok (.invokestatic 119, 3) := op_invokestatic (gk (k := 0) (t := 3) ck_H_pastAt_0 rfl) (gk (k := 0) (t := 4) ck_H_pastAt_0 rfl) (gk (k := 0) (t := 5) ck_H_pastAt_0 rfl) rfl
theorem d_H_pastAt_6 : decode y_H_pastAt.2.1 6 = .ok (.iconst 3, 1) := op_iconst3 (gk (k := 0) (t := 6) ck_H_pastAt_0 rfl)
theorem d_H_pastAt_7 : decode y_H_pastAt.2.1 7 = .ok (.imul, 1) := op_imul (gk (k := 0) (t := 7) ck_H_pastAt_0 rfl)
theorem d_H_pastAt_8 : decode y_H_pastAt.2.1 8 = .ok (.ireturn, 1) := op_ireturn (gk (k := 0) (t := 8) ck_H_pastAt_0 rfl)
abbrev y_H_close : MI := (⟨"SinglesUp$Hill", "close", "(II)V"⟩, prog_4_method_11_code, 4, none)
theorem ck_H_close_0 : (y_H_close.2.1.data.toList.drop 0).take 32 = [42, 180, 0, 37, 4, 92, 46, 27, 96, 79, 42, 180, 0, 37, 6, 92, 46, 42, 180, 0, 9, 4, 46, 96, 79, 42, 180, 0, 9, 6, 46, 158] := by decide +kernel
theorem d_H_close_0 : decode y_H_close.2.1 0 = .ok (.aload_n 0, 1) := op_aload_n0 (gk (k := 0) (t := 0) ck_H_close_0 rfl)
theorem d_H_close_1 : decode y_H_close.2.1 1 = .ok (.getfield 37, 3) := op_getfield (gk (k := 0) (t := 1) ck_H_close_0 rfl) (gk (k := 0) (t := 2) ck_H_close_0 rfl) (gk (k := 0) (t := 3) ck_H_close_0 rfl) rfl
theorem d_H_close_4 : decode y_H_close.2.1 4 = .ok (.iconst 1, 1) := op_iconst1 (gk (k := 0) (t := 4) ck_H_close_0 rfl)
theorem d_H_close_5 : decode y_H_close.2.1 5 = .ok (.dup2, 1) := op_dup2 (gk (k := 0) (t := 5) ck_H_close_0 rfl)
theorem d_H_close_6 : decode y_H_close.2.1 6 = .ok (.iaload, 1) := op_iaload (gk (k := 0) (t := 6) ck_H_close_0 rfl)
theorem d_H_close_7 : decode y_H_close.2.1 7 = .ok (.iload_n 1, 1) := op_iload_n1 (gk (k := 0) (t := 7) ck_H_close_0 rfl)
theorem d_H_close_8 : decode y_H_close.2.1 8 = .ok (.iadd, 1) := op_iadd (gk (k := 0) (t := 8) ck_H_close_0 rfl)
theorem d_H_close_9 : decode y_H_close.2.1 9 = .ok (.iastore, 1) := op_iastore (gk (k := 0) (t := 9) ck_H_close_0 rfl)
theorem d_H_close_10 : decode y_H_close.2.1 10 = .ok (.aload_n 0, 1) := op_aload_n0 (gk (k := 0) (t := 10) ck_H_close_0 rfl)
theorem d_H_close_11 : decode y_H_close.2.1 11 = .ok (.getfield 37, 3) := op_getfield (gk (k := 0) (t := 11) ck_H_close_0 rfl) (gk (k := 0) (t := 12) ck_H_close_0 rfl) (gk (k := 0) (t := 13) ck_H_close_0 rfl) rfl
theorem d_H_close_14 : decode y_H_close.2.1 14 = .ok (.iconst 3, 1) := op_iconst3 (gk (k := 0) (t := 14) ck_H_close_0 rfl)
theorem d_H_close_15 : decode y_H_close.2.1 15 = .ok (.dup2, 1) := op_dup2 (gk (k := 0) (t := 15) ck_H_close_0 rfl)
theorem d_H_close_16 : decode y_H_close.2.1 16 = .ok (.iaload, 1) := op_iaload (gk (k := 0) (t := 16) ck_H_close_0 rfl)
theorem d_H_close_17 : decode y_H_close.2.1 17 = .ok (.aload_n 0, 1) := op_aload_n0 (gk (k := 0) (t := 17) ck_H_close_0 rfl)
theorem d_H_close_18 : decode y_H_close.2.1 18 = .ok (.getfield 9, 3) := op_getfield (gk (k := 0) (t := 18) ck_H_close_0 rfl) (gk (k := 0) (t := 19) ck_H_close_0 rfl) (gk (k := 0) (t := 20) ck_H_close_0 rfl) rfl
theorem d_H_close_21 : decode y_H_close.2.1 21 = .ok (.iconst 1, 1) := op_iconst1 (gk (k := 0) (t := 21) ck_H_close_0 rfl)
theorem d_H_close_22 : decode y_H_close.2.1 22 = .ok (.iaload, 1) := op_iaload (gk (k := 0) (t := 22) ck_H_close_0 rfl)
theorem d_H_close_23 : decode y_H_close.2.1 23 = .ok (.iadd, 1) := op_iadd (gk (k := 0) (t := 23) ck_H_close_0 rfl)
theorem d_H_close_24 : decode y_H_close.2.1 24 = .ok (.iastore, 1) := op_iastore (gk (k := 0) (t := 24) ck_H_close_0 rfl)
theorem d_H_close_25 : decode y_H_close.2.1 25 = .ok (.aload_n 0, 1) := op_aload_n0 (gk (k := 0) (t := 25) ck_H_close_0 rfl)
theorem d_H_close_26 : decode y_H_close.2.1 26 = .ok (.getfield 9, 3) := op_getfield (gk (k := 0) (t := 26) ck_H_close_0 rfl) (gk (k := 0) (t := 27) ck_H_close_0 rfl) (gk (k := 0) (t := 28) ck_H_close_0 rfl) rfl
theorem d_H_close_29 : decode y_H_close.2.1 29 = .ok (.iconst 3, 1) := op_iconst3 (gk (k := 0) (t := 29) ck_H_close_0 rfl)
theorem d_H_close_30 : decode y_H_close.2.1 30 = .ok (.iaload, 1) := op_iaload (gk (k := 0) (t := 30) ck_H_close_0 rfl)
theorem ck_H_close_2 : (y_H_close.2.1.data.toList.drop 64).take 32 = [79, 42, 180, 0, 37, 7, 92, 46, 4, 96, 79, 42, 180, 0, 40, 3, 28, 79, 42, 180, 0, 40, 4, 27, 79, 42, 180, 0, 37, 3, 46, 184] := by decide +kernel
theorem d_H_close_75 : decode y_H_close.2.1 75 = .ok (.aload_n 0, 1) := op_aload_n0 (gk (k := 64) (t := 11) ck_H_close_2 rfl)
theorem fl_H_40 : FL "SinglesUp$Hill" 40 2 9 := ⟨"SinglesUp$Hill", zT2, 14, rfl, by decide, rfl, Or.inl (tw_c1 110 (by decide +kernel) rfl)⟩
theorem rc_2_9 : ∀ o, KC[o]? = some (5, 14) → RC o 9 = some (o + 11) ∧ KC[o + 11]? = some (0, 30) := by
  intro o h
  have hl : o < 166 := (List.getElem?_eq_some_iff.mp h).1
  exact (by decide +kernel : ∀ o, o < 166 → KC[o]? = some (5, 14) → RC o 9 = some (o + 11) ∧ KC[o + 11]? = some (0, 30)) o hl h
theorem d_H_close_76 : decode y_H_close.2.1 76 = .ok (.getfield 40, 3) := op_getfield (gk (k := 64) (t := 12) ck_H_close_2 rfl) (gk (k := 64) (t := 13) ck_H_close_2 rfl) (gk (k := 64) (t := 14) ck_H_close_2 rfl) rfl
theorem d_H_close_79 : decode y_H_close.2.1 79 = .ok (.iconst 0, 1) := op_iconst0 (gk (k := 64) (t := 15) ck_H_close_2 rfl)
theorem d_H_close_80 : decode y_H_close.2.1 80 = .ok (.iload_n 2, 1) := op_iload_n2 (gk (k := 64) (t := 16) ck_H_close_2 rfl)
theorem d_H_close_81 : decode y_H_close.2.1 81 = .ok (.iastore, 1) := op_iastore (gk (k := 64) (t := 17) ck_H_close_2 rfl)
theorem d_H_close_82 : decode y_H_close.2.1 82 = .ok (.aload_n 0, 1) := op_aload_n0 (gk (k := 64) (t := 18) ck_H_close_2 rfl)
theorem d_H_close_83 : decode y_H_close.2.1 83 = .ok (.getfield 40, 3) := op_getfield (gk (k := 64) (t := 19) ck_H_close_2 rfl) (gk (k := 64) (t := 20) ck_H_close_2 rfl) (gk (k := 64) (t := 21) ck_H_close_2 rfl) rfl
theorem d_H_close_86 : decode y_H_close.2.1 86 = .ok (.iconst 1, 1) := op_iconst1 (gk (k := 64) (t := 22) ck_H_close_2 rfl)
theorem d_H_close_87 : decode y_H_close.2.1 87 = .ok (.iload_n 1, 1) := op_iload_n1 (gk (k := 64) (t := 23) ck_H_close_2 rfl)
theorem d_H_close_88 : decode y_H_close.2.1 88 = .ok (.iastore, 1) := op_iastore (gk (k := 64) (t := 24) ck_H_close_2 rfl)
theorem d_H_close_89 : decode y_H_close.2.1 89 = .ok (.aload_n 0, 1) := op_aload_n0 (gk (k := 64) (t := 25) ck_H_close_2 rfl)
theorem d_H_close_90 : decode y_H_close.2.1 90 = .ok (.getfield 37, 3) := op_getfield (gk (k := 64) (t := 26) ck_H_close_2 rfl) (gk (k := 64) (t := 27) ck_H_close_2 rfl) (gk (k := 64) (t := 28) ck_H_close_2 rfl) rfl
theorem d_H_close_93 : decode y_H_close.2.1 93 = .ok (.iconst 0, 1) := op_iconst0 (gk (k := 64) (t := 29) ck_H_close_2 rfl)
theorem d_H_close_94 : decode y_H_close.2.1 94 = .ok (.iaload, 1) := op_iaload (gk (k := 64) (t := 30) ck_H_close_2 rfl)
theorem lk_H_116 : LkS "SinglesUp$Hill" 116 y_H_pastAt := ⟨tw_c4 45 (by decide +kernel) rfl, Or.inl (tw_c4 44 (by decide +kernel) rfl)⟩
set_option maxRecDepth 100000 in
theorem mo_H_pastAt : MOk y_H_pastAt 1 := ⟨by decide +kernel, tw_c4 46 rfl rfl, tw_c1 2 (by decide +kernel) rfl, by decide +kernel, by decide +kernel, by decide +kernel⟩
theorem ck_H_close_3 : (y_H_close.2.1.data.toList.drop 96).take 32 = [0, 116, 62, 42, 180, 0, 43, 29, 27, 79, 42, 180, 0, 43, 29, 4, 96, 28, 79, 42, 180, 0, 43, 29, 5, 96, 42, 180, 0, 37, 6, 46] := by decide +kernel
theorem d_H_close_95 : decode y_H_close.2.1 95 = .ok (.invokestatic 116, 3) := op_invokestatic (gk (k := 64) (t := 31) ck_H_close_2 rfl) (gk (k := 96) (t := 0) ck_H_close_3 rfl) (gk (k := 96) (t := 1) ck_H_close_3 rfl) rfl
theorem d_H_close_98 : decode y_H_close.2.1 98 = .ok (.istore_n 3, 1) := op_istore_n3 (gk (k := 96) (t := 2) ck_H_close_3 rfl)
theorem d_H_close_99 : decode y_H_close.2.1 99 = .ok (.aload_n 0, 1) := op_aload_n0 (gk (k := 96) (t := 3) ck_H_close_3 rfl)
theorem fl_H_43 : FL "SinglesUp$Hill" 43 2 10 := ⟨"SinglesUp$Hill", zT2, 14, rfl, by decide, rfl, Or.inl (tw_c1 112 (by decide +kernel) rfl)⟩
theorem rc_2_10 : ∀ o, KC[o]? = some (5, 14) → RC o 10 = some (o + 12) ∧ KC[o + 12]? = some (0, 180) := by
  intro o h
  have hl : o < 166 := (List.getElem?_eq_some_iff.mp h).1
  exact (by decide +kernel : ∀ o, o < 166 → KC[o]? = some (5, 14) → RC o 10 = some (o + 12) ∧ KC[o + 12]? = some (0, 180)) o hl h
theorem d_H_close_100 : decode y_H_close.2.1 100 = .ok (.getfield 43, 3) := op_getfield (gk (k := 96) (t := 4) ck_H_close_3 rfl) (gk (k := 96) (t := 5) ck_H_close_3 rfl) (gk (k := 96) (t := 6) ck_H_close_3 rfl) rfl
theorem d_H_close_103 : decode y_H_close.2.1 103 = .ok (.iload_n 3, 1) := op_iload_n3 (gk (k := 96) (t := 7) ck_H_close_3 rfl)
theorem d_H_close_104 : decode y_H_close.2.1 104 = .ok (.iload_n 1, 1) := op_iload_n1 (gk (k := 96) (t := 8) ck_H_close_3 rfl)
theorem d_H_close_105 : decode y_H_close.2.1 105 = .ok (.iastore, 1) := op_iastore (gk (k := 96) (t := 9) ck_H_close_3 rfl)
theorem d_H_close_106 : decode y_H_close.2.1 106 = .ok (.aload_n 0, 1) := op_aload_n0 (gk (k := 96) (t := 10) ck_H_close_3 rfl)
theorem d_H_close_107 : decode y_H_close.2.1 107 = .ok (.getfield 43, 3) := op_getfield (gk (k := 96) (t := 11) ck_H_close_3 rfl) (gk (k := 96) (t := 12) ck_H_close_3 rfl) (gk (k := 96) (t := 13) ck_H_close_3 rfl) rfl
theorem d_H_close_110 : decode y_H_close.2.1 110 = .ok (.iload_n 3, 1) := op_iload_n3 (gk (k := 96) (t := 14) ck_H_close_3 rfl)
theorem d_H_close_111 : decode y_H_close.2.1 111 = .ok (.iconst 1, 1) := op_iconst1 (gk (k := 96) (t := 15) ck_H_close_3 rfl)
theorem d_H_close_112 : decode y_H_close.2.1 112 = .ok (.iadd, 1) := op_iadd (gk (k := 96) (t := 16) ck_H_close_3 rfl)
theorem d_H_close_113 : decode y_H_close.2.1 113 = .ok (.iload_n 2, 1) := op_iload_n2 (gk (k := 96) (t := 17) ck_H_close_3 rfl)
theorem d_H_close_114 : decode y_H_close.2.1 114 = .ok (.iastore, 1) := op_iastore (gk (k := 96) (t := 18) ck_H_close_3 rfl)
theorem d_H_close_115 : decode y_H_close.2.1 115 = .ok (.aload_n 0, 1) := op_aload_n0 (gk (k := 96) (t := 19) ck_H_close_3 rfl)
theorem d_H_close_116 : decode y_H_close.2.1 116 = .ok (.getfield 43, 3) := op_getfield (gk (k := 96) (t := 20) ck_H_close_3 rfl) (gk (k := 96) (t := 21) ck_H_close_3 rfl) (gk (k := 96) (t := 22) ck_H_close_3 rfl) rfl
theorem d_H_close_119 : decode y_H_close.2.1 119 = .ok (.iload_n 3, 1) := op_iload_n3 (gk (k := 96) (t := 23) ck_H_close_3 rfl)
theorem d_H_close_120 : decode y_H_close.2.1 120 = .ok (.iconst 2, 1) := op_iconst2 (gk (k := 96) (t := 24) ck_H_close_3 rfl)
theorem d_H_close_121 : decode y_H_close.2.1 121 = .ok (.iadd, 1) := op_iadd (gk (k := 96) (t := 25) ck_H_close_3 rfl)
theorem d_H_close_122 : decode y_H_close.2.1 122 = .ok (.aload_n 0, 1) := op_aload_n0 (gk (k := 96) (t := 26) ck_H_close_3 rfl)
theorem d_H_close_123 : decode y_H_close.2.1 123 = .ok (.getfield 37, 3) := op_getfield (gk (k := 96) (t := 27) ck_H_close_3 rfl) (gk (k := 96) (t := 28) ck_H_close_3 rfl) (gk (k := 96) (t := 29) ck_H_close_3 rfl) rfl
theorem d_H_close_126 : decode y_H_close.2.1 126 = .ok (.iconst 3, 1) := op_iconst3 (gk (k := 96) (t := 30) ck_H_close_3 rfl)
theorem d_H_close_127 : decode y_H_close.2.1 127 = .ok (.iaload, 1) := op_iaload (gk (k := 96) (t := 31) ck_H_close_3 rfl)
theorem ck_H_close_4 : (y_H_close.2.1.data.toList.drop 128).take 32 = [79, 42, 180, 0, 37, 3, 92, 46, 4, 96, 79, 177] := by decide +kernel
theorem d_H_close_128 : decode y_H_close.2.1 128 = .ok (.iastore, 1) := op_iastore (gk (k := 128) (t := 0) ck_H_close_4 rfl)
theorem d_H_close_129 : decode y_H_close.2.1 129 = .ok (.aload_n 0, 1) := op_aload_n0 (gk (k := 128) (t := 1) ck_H_close_4 rfl)
theorem d_H_close_130 : decode y_H_close.2.1 130 = .ok (.getfield 37, 3) := op_getfield (gk (k := 128) (t := 2) ck_H_close_4 rfl) (gk (k := 128) (t := 3) ck_H_close_4 rfl) (gk (k := 128) (t := 4) ck_H_close_4 rfl) rfl
theorem d_H_close_133 : decode y_H_close.2.1 133 = .ok (.iconst 0, 1) := op_iconst0 (gk (k := 128) (t := 5) ck_H_close_4 rfl)
theorem d_H_close_134 : decode y_H_close.2.1 134 = .ok (.dup2, 1) := op_dup2 (gk (k := 128) (t := 6) ck_H_close_4 rfl)
theorem d_H_close_135 : decode y_H_close.2.1 135 = .ok (.iaload, 1) := op_iaload (gk (k := 128) (t := 7) ck_H_close_4 rfl)
theorem d_H_close_136 : decode y_H_close.2.1 136 = .ok (.iconst 1, 1) := op_iconst1 (gk (k := 128) (t := 8) ck_H_close_4 rfl)
theorem d_H_close_137 : decode y_H_close.2.1 137 = .ok (.iadd, 1) := op_iadd (gk (k := 128) (t := 9) ck_H_close_4 rfl)
theorem d_H_close_138 : decode y_H_close.2.1 138 = .ok (.iastore, 1) := op_iastore (gk (k := 128) (t := 10) ck_H_close_4 rfl)
theorem d_H_close_139 : decode y_H_close.2.1 139 = .ok (.return_, 1) := op_return_ (gk (k := 128) (t := 11) ck_H_close_4 rfl)
theorem ck_H_close_1 : (y_H_close.2.1.data.toList.drop 32).take 32 = [0, 44, 42, 17, 3, 232, 182, 0, 78, 42, 180, 0, 9, 6, 46, 162, 0, 28, 42, 180, 0, 37, 6, 92, 46, 42, 180, 0, 9, 5, 46, 96] := by decide +kernel
theorem d_H_close_31 : decode y_H_close.2.1 31 = .ok (.ifCond .le 44, 3) := op_if_le (gk (k := 0) (t := 31) ck_H_close_0 rfl) (gk (k := 32) (t := 0) ck_H_close_1 rfl) (gk (k := 32) (t := 1) ck_H_close_1 rfl) (by decide +kernel)
theorem d_H_close_34 : decode y_H_close.2.1 34 = .ok (.aload_n 0, 1) := op_aload_n0 (gk (k := 32) (t := 2) ck_H_close_1 rfl)
theorem d_H_close_35 : decode y_H_close.2.1 35 = .ok (.sipush 1000, 3) := op_sipush (gk (k := 32) (t := 3) ck_H_close_1 rfl) (gk (k := 32) (t := 4) ck_H_close_1 rfl) (gk (k := 32) (t := 5) ck_H_close_1 rfl) (by decide +kernel)
theorem lk_H_78 : LkV "SinglesUp$Hill" 78 y_H_draw := ⟨tw_c4 40 (by decide +kernel) rfl, tw_in 21 (by decide +kernel) rfl, Or.inl (tw_c4 38 (by decide +kernel) rfl)⟩
set_option maxRecDepth 100000 in
theorem mo_H_draw : MOk y_H_draw 1 := ⟨by decide +kernel, tw_c4 41 rfl rfl, tw_c1 2 (by decide +kernel) rfl, by decide +kernel, by decide +kernel, by decide +kernel⟩
theorem d_H_close_38 : decode y_H_close.2.1 38 = .ok (.invokevirtual 78, 3) := op_invokevirtual (gk (k := 32) (t := 6) ck_H_close_1 rfl) (gk (k := 32) (t := 7) ck_H_close_1 rfl) (gk (k := 32) (t := 8) ck_H_close_1 rfl) rfl
theorem d_H_close_41 : decode y_H_close.2.1 41 = .ok (.aload_n 0, 1) := op_aload_n0 (gk (k := 32) (t := 9) ck_H_close_1 rfl)
theorem d_H_close_42 : decode y_H_close.2.1 42 = .ok (.getfield 9, 3) := op_getfield (gk (k := 32) (t := 10) ck_H_close_1 rfl) (gk (k := 32) (t := 11) ck_H_close_1 rfl) (gk (k := 32) (t := 12) ck_H_close_1 rfl) rfl
theorem d_H_close_45 : decode y_H_close.2.1 45 = .ok (.iconst 3, 1) := op_iconst3 (gk (k := 32) (t := 13) ck_H_close_1 rfl)
theorem d_H_close_46 : decode y_H_close.2.1 46 = .ok (.iaload, 1) := op_iaload (gk (k := 32) (t := 14) ck_H_close_1 rfl)
theorem d_H_close_47 : decode y_H_close.2.1 47 = .ok (.if_icmp .ge 28, 3) := op_icmp_ge (gk (k := 32) (t := 15) ck_H_close_1 rfl) (gk (k := 32) (t := 16) ck_H_close_1 rfl) (gk (k := 32) (t := 17) ck_H_close_1 rfl) (by decide +kernel)
theorem d_H_close_50 : decode y_H_close.2.1 50 = .ok (.aload_n 0, 1) := op_aload_n0 (gk (k := 32) (t := 18) ck_H_close_1 rfl)
theorem d_H_close_51 : decode y_H_close.2.1 51 = .ok (.getfield 37, 3) := op_getfield (gk (k := 32) (t := 19) ck_H_close_1 rfl) (gk (k := 32) (t := 20) ck_H_close_1 rfl) (gk (k := 32) (t := 21) ck_H_close_1 rfl) rfl
theorem d_H_close_54 : decode y_H_close.2.1 54 = .ok (.iconst 3, 1) := op_iconst3 (gk (k := 32) (t := 22) ck_H_close_1 rfl)
theorem d_H_close_55 : decode y_H_close.2.1 55 = .ok (.dup2, 1) := op_dup2 (gk (k := 32) (t := 23) ck_H_close_1 rfl)
theorem d_H_close_56 : decode y_H_close.2.1 56 = .ok (.iaload, 1) := op_iaload (gk (k := 32) (t := 24) ck_H_close_1 rfl)
theorem d_H_close_57 : decode y_H_close.2.1 57 = .ok (.aload_n 0, 1) := op_aload_n0 (gk (k := 32) (t := 25) ck_H_close_1 rfl)
theorem d_H_close_58 : decode y_H_close.2.1 58 = .ok (.getfield 9, 3) := op_getfield (gk (k := 32) (t := 26) ck_H_close_1 rfl) (gk (k := 32) (t := 27) ck_H_close_1 rfl) (gk (k := 32) (t := 28) ck_H_close_1 rfl) rfl
theorem d_H_close_61 : decode y_H_close.2.1 61 = .ok (.iconst 2, 1) := op_iconst2 (gk (k := 32) (t := 29) ck_H_close_1 rfl)
theorem d_H_close_62 : decode y_H_close.2.1 62 = .ok (.iaload, 1) := op_iaload (gk (k := 32) (t := 30) ck_H_close_1 rfl)
theorem d_H_close_63 : decode y_H_close.2.1 63 = .ok (.iadd, 1) := op_iadd (gk (k := 32) (t := 31) ck_H_close_1 rfl)
theorem d_H_close_64 : decode y_H_close.2.1 64 = .ok (.iastore, 1) := op_iastore (gk (k := 64) (t := 0) ck_H_close_2 rfl)
theorem d_H_close_65 : decode y_H_close.2.1 65 = .ok (.aload_n 0, 1) := op_aload_n0 (gk (k := 64) (t := 1) ck_H_close_2 rfl)
theorem d_H_close_66 : decode y_H_close.2.1 66 = .ok (.getfield 37, 3) := op_getfield (gk (k := 64) (t := 2) ck_H_close_2 rfl) (gk (k := 64) (t := 3) ck_H_close_2 rfl) (gk (k := 64) (t := 4) ck_H_close_2 rfl) rfl
theorem d_H_close_69 : decode y_H_close.2.1 69 = .ok (.iconst 4, 1) := op_iconst4 (gk (k := 64) (t := 5) ck_H_close_2 rfl)
theorem d_H_close_70 : decode y_H_close.2.1 70 = .ok (.dup2, 1) := op_dup2 (gk (k := 64) (t := 6) ck_H_close_2 rfl)
theorem d_H_close_71 : decode y_H_close.2.1 71 = .ok (.iaload, 1) := op_iaload (gk (k := 64) (t := 7) ck_H_close_2 rfl)
theorem d_H_close_72 : decode y_H_close.2.1 72 = .ok (.iconst 1, 1) := op_iconst1 (gk (k := 64) (t := 8) ck_H_close_2 rfl)
theorem d_H_close_73 : decode y_H_close.2.1 73 = .ok (.iadd, 1) := op_iadd (gk (k := 64) (t := 9) ck_H_close_2 rfl)
theorem d_H_close_74 : decode y_H_close.2.1 74 = .ok (.iastore, 1) := op_iastore (gk (k := 64) (t := 10) ck_H_close_2 rfl)
abbrev y_H_note : MI := (⟨"SinglesUp$Hill", "note", "(III)V"⟩, prog_4_method_10_code, 5, none)
theorem ck_H_note_0 : (y_H_note.2.1.data.toList.drop 0).take 32 = [27, 155, 0, 20, 27, 16, 8, 162, 0, 14, 29, 4, 161, 0, 9, 29, 16, 8, 164, 0, 4, 177, 42, 180, 0, 33, 28, 7, 182, 0, 105, 54] := by decide +kernel
theorem d_H_note_0 : decode y_H_note.2.1 0 = .ok (.iload_n 1, 1) := op_iload_n1 (gk (k := 0) (t := 0) ck_H_note_0 rfl)
theorem d_H_note_1 : decode y_H_note.2.1 1 = .ok (.ifCond .lt 20, 3) := op_if_lt (gk (k := 0) (t := 1) ck_H_note_0 rfl) (gk (k := 0) (t := 2) ck_H_note_0 rfl) (gk (k := 0) (t := 3) ck_H_note_0 rfl) (by decide +kernel)
theorem d_H_note_21 : decode y_H_note.2.1 21 = .ok (.return_, 1) := op_return_ (gk (k := 0) (t := 21) ck_H_note_0 rfl)
theorem d_H_note_4 : decode y_H_note.2.1 4 = .ok (.iload_n 1, 1) := op_iload_n1 (gk (k := 0) (t := 4) ck_H_note_0 rfl)
theorem d_H_note_5 : decode y_H_note.2.1 5 = .ok (.bipush 8, 2) := op_bipush (gk (k := 0) (t := 5) ck_H_note_0 rfl) (gk (k := 0) (t := 6) ck_H_note_0 rfl) rfl
theorem d_H_note_7 : decode y_H_note.2.1 7 = .ok (.if_icmp .ge 14, 3) := op_icmp_ge (gk (k := 0) (t := 7) ck_H_note_0 rfl) (gk (k := 0) (t := 8) ck_H_note_0 rfl) (gk (k := 0) (t := 9) ck_H_note_0 rfl) (by decide +kernel)
theorem d_H_note_10 : decode y_H_note.2.1 10 = .ok (.iload_n 3, 1) := op_iload_n3 (gk (k := 0) (t := 10) ck_H_note_0 rfl)
theorem d_H_note_11 : decode y_H_note.2.1 11 = .ok (.iconst 1, 1) := op_iconst1 (gk (k := 0) (t := 11) ck_H_note_0 rfl)
theorem d_H_note_12 : decode y_H_note.2.1 12 = .ok (.if_icmp .lt 9, 3) := op_icmp_lt (gk (k := 0) (t := 12) ck_H_note_0 rfl) (gk (k := 0) (t := 13) ck_H_note_0 rfl) (gk (k := 0) (t := 14) ck_H_note_0 rfl) (by decide +kernel)
theorem d_H_note_15 : decode y_H_note.2.1 15 = .ok (.iload_n 3, 1) := op_iload_n3 (gk (k := 0) (t := 15) ck_H_note_0 rfl)
theorem d_H_note_16 : decode y_H_note.2.1 16 = .ok (.bipush 8, 2) := op_bipush (gk (k := 0) (t := 16) ck_H_note_0 rfl) (gk (k := 0) (t := 17) ck_H_note_0 rfl) rfl
theorem d_H_note_18 : decode y_H_note.2.1 18 = .ok (.if_icmp .le 4, 3) := op_icmp_le (gk (k := 0) (t := 18) ck_H_note_0 rfl) (gk (k := 0) (t := 19) ck_H_note_0 rfl) (gk (k := 0) (t := 20) ck_H_note_0 rfl) (by decide +kernel)
theorem d_H_note_22 : decode y_H_note.2.1 22 = .ok (.aload_n 0, 1) := op_aload_n0 (gk (k := 0) (t := 22) ck_H_note_0 rfl)
theorem d_H_note_23 : decode y_H_note.2.1 23 = .ok (.getfield 33, 3) := op_getfield (gk (k := 0) (t := 23) ck_H_note_0 rfl) (gk (k := 0) (t := 24) ck_H_note_0 rfl) (gk (k := 0) (t := 25) ck_H_note_0 rfl) rfl
theorem d_H_note_26 : decode y_H_note.2.1 26 = .ok (.iload_n 2, 1) := op_iload_n2 (gk (k := 0) (t := 26) ck_H_note_0 rfl)
theorem d_H_note_27 : decode y_H_note.2.1 27 = .ok (.iconst 4, 1) := op_iconst4 (gk (k := 0) (t := 27) ck_H_note_0 rfl)
theorem d_H_note_28 : decode y_H_note.2.1 28 = .ok (.invokevirtual 105, 3) := op_invokevirtual (gk (k := 0) (t := 28) ck_H_note_0 rfl) (gk (k := 0) (t := 29) ck_H_note_0 rfl) (gk (k := 0) (t := 30) ck_H_note_0 rfl) rfl
theorem ck_H_note_1 : (y_H_note.2.1.data.toList.drop 32).take 32 = [4, 42, 180, 0, 37, 16, 10, 29, 96, 92, 46, 4, 96, 79, 42, 180, 0, 37, 16, 20, 29, 96, 92, 46, 21, 4, 96, 79, 42, 180, 0, 37] := by decide +kernel
theorem d_H_note_31 : decode y_H_note.2.1 31 = .ok (.istore 4, 2) := op_istore (gk (k := 0) (t := 31) ck_H_note_0 rfl) (gk (k := 32) (t := 0) ck_H_note_1 rfl) rfl
theorem d_H_note_33 : decode y_H_note.2.1 33 = .ok (.aload_n 0, 1) := op_aload_n0 (gk (k := 32) (t := 1) ck_H_note_1 rfl)
theorem d_H_note_34 : decode y_H_note.2.1 34 = .ok (.getfield 37, 3) := op_getfield (gk (k := 32) (t := 2) ck_H_note_1 rfl) (gk (k := 32) (t := 3) ck_H_note_1 rfl) (gk (k := 32) (t := 4) ck_H_note_1 rfl) rfl
theorem d_H_note_37 : decode y_H_note.2.1 37 = .ok (.bipush 10, 2) := op_bipush (gk (k := 32) (t := 5) ck_H_note_1 rfl) (gk (k := 32) (t := 6) ck_H_note_1 rfl) rfl
theorem d_H_note_39 : decode y_H_note.2.1 39 = .ok (.iload_n 3, 1) := op_iload_n3 (gk (k := 32) (t := 7) ck_H_note_1 rfl)
theorem d_H_note_40 : decode y_H_note.2.1 40 = .ok (.iadd, 1) := op_iadd (gk (k := 32) (t := 8) ck_H_note_1 rfl)
theorem d_H_note_41 : decode y_H_note.2.1 41 = .ok (.dup2, 1) := op_dup2 (gk (k := 32) (t := 9) ck_H_note_1 rfl)
theorem d_H_note_42 : decode y_H_note.2.1 42 = .ok (.iaload, 1) := op_iaload (gk (k := 32) (t := 10) ck_H_note_1 rfl)
theorem d_H_note_43 : decode y_H_note.2.1 43 = .ok (.iconst 1, 1) := op_iconst1 (gk (k := 32) (t := 11) ck_H_note_1 rfl)
theorem d_H_note_44 : decode y_H_note.2.1 44 = .ok (.iadd, 1) := op_iadd (gk (k := 32) (t := 12) ck_H_note_1 rfl)
theorem d_H_note_45 : decode y_H_note.2.1 45 = .ok (.iastore, 1) := op_iastore (gk (k := 32) (t := 13) ck_H_note_1 rfl)
theorem d_H_note_46 : decode y_H_note.2.1 46 = .ok (.aload_n 0, 1) := op_aload_n0 (gk (k := 32) (t := 14) ck_H_note_1 rfl)
theorem d_H_note_47 : decode y_H_note.2.1 47 = .ok (.getfield 37, 3) := op_getfield (gk (k := 32) (t := 15) ck_H_note_1 rfl) (gk (k := 32) (t := 16) ck_H_note_1 rfl) (gk (k := 32) (t := 17) ck_H_note_1 rfl) rfl
theorem cb_20 : (Int8.ofInt 20).toInt32 = iv 20 := by decide +kernel
theorem d_H_note_50 : decode y_H_note.2.1 50 = .ok (.bipush 20, 2) := op_bipush (gk (k := 32) (t := 18) ck_H_note_1 rfl) (gk (k := 32) (t := 19) ck_H_note_1 rfl) rfl
theorem d_H_note_52 : decode y_H_note.2.1 52 = .ok (.iload_n 3, 1) := op_iload_n3 (gk (k := 32) (t := 20) ck_H_note_1 rfl)
theorem d_H_note_53 : decode y_H_note.2.1 53 = .ok (.iadd, 1) := op_iadd (gk (k := 32) (t := 21) ck_H_note_1 rfl)
theorem d_H_note_54 : decode y_H_note.2.1 54 = .ok (.dup2, 1) := op_dup2 (gk (k := 32) (t := 22) ck_H_note_1 rfl)
theorem d_H_note_55 : decode y_H_note.2.1 55 = .ok (.iaload, 1) := op_iaload (gk (k := 32) (t := 23) ck_H_note_1 rfl)
theorem d_H_note_56 : decode y_H_note.2.1 56 = .ok (.iload 4, 2) := op_iload (gk (k := 32) (t := 24) ck_H_note_1 rfl) (gk (k := 32) (t := 25) ck_H_note_1 rfl) rfl
theorem d_H_note_58 : decode y_H_note.2.1 58 = .ok (.iadd, 1) := op_iadd (gk (k := 32) (t := 26) ck_H_note_1 rfl)
theorem d_H_note_59 : decode y_H_note.2.1 59 = .ok (.iastore, 1) := op_iastore (gk (k := 32) (t := 27) ck_H_note_1 rfl)
theorem d_H_note_60 : decode y_H_note.2.1 60 = .ok (.aload_n 0, 1) := op_aload_n0 (gk (k := 32) (t := 28) ck_H_note_1 rfl)
theorem d_H_note_61 : decode y_H_note.2.1 61 = .ok (.getfield 37, 3) := op_getfield (gk (k := 32) (t := 29) ck_H_note_1 rfl) (gk (k := 32) (t := 30) ck_H_note_1 rfl) (gk (k := 32) (t := 31) ck_H_note_1 rfl) rfl
theorem cb_30 : (Int8.ofInt 30).toInt32 = iv 30 := by decide +kernel
theorem ck_H_note_2 : (y_H_note.2.1.data.toList.drop 64).take 32 = [16, 30, 29, 96, 42, 180, 0, 37, 16, 30, 29, 96, 46, 21, 4, 184, 0, 111, 79, 42, 180, 0, 37, 5, 92, 46, 29, 96, 79, 42, 180, 0] := by decide +kernel
theorem d_H_note_64 : decode y_H_note.2.1 64 = .ok (.bipush 30, 2) := op_bipush (gk (k := 64) (t := 0) ck_H_note_2 rfl) (gk (k := 64) (t := 1) ck_H_note_2 rfl) rfl
theorem d_H_note_66 : decode y_H_note.2.1 66 = .ok (.iload_n 3, 1) := op_iload_n3 (gk (k := 64) (t := 2) ck_H_note_2 rfl)
theorem d_H_note_67 : decode y_H_note.2.1 67 = .ok (.iadd, 1) := op_iadd (gk (k := 64) (t := 3) ck_H_note_2 rfl)
theorem d_H_note_68 : decode y_H_note.2.1 68 = .ok (.aload_n 0, 1) := op_aload_n0 (gk (k := 64) (t := 4) ck_H_note_2 rfl)
theorem d_H_note_69 : decode y_H_note.2.1 69 = .ok (.getfield 37, 3) := op_getfield (gk (k := 64) (t := 5) ck_H_note_2 rfl) (gk (k := 64) (t := 6) ck_H_note_2 rfl) (gk (k := 64) (t := 7) ck_H_note_2 rfl) rfl
theorem d_H_note_72 : decode y_H_note.2.1 72 = .ok (.bipush 30, 2) := op_bipush (gk (k := 64) (t := 8) ck_H_note_2 rfl) (gk (k := 64) (t := 9) ck_H_note_2 rfl) rfl
theorem d_H_note_74 : decode y_H_note.2.1 74 = .ok (.iload_n 3, 1) := op_iload_n3 (gk (k := 64) (t := 10) ck_H_note_2 rfl)
theorem d_H_note_75 : decode y_H_note.2.1 75 = .ok (.iadd, 1) := op_iadd (gk (k := 64) (t := 11) ck_H_note_2 rfl)
theorem d_H_note_76 : decode y_H_note.2.1 76 = .ok (.iaload, 1) := op_iaload (gk (k := 64) (t := 12) ck_H_note_2 rfl)
theorem d_H_note_77 : decode y_H_note.2.1 77 = .ok (.iload 4, 2) := op_iload (gk (k := 64) (t := 13) ck_H_note_2 rfl) (gk (k := 64) (t := 14) ck_H_note_2 rfl) rfl
theorem lk_H_111 : LkS "SinglesUp$Hill" 111 y_JM_max := ⟨tw_c3 26 (by decide +kernel) rfl, Or.inl (tw_c4 20 (by decide +kernel) rfl)⟩
theorem d_H_note_79 : decode y_H_note.2.1 79 = .ok (.invokestatic 111, 3) := op_invokestatic (gk (k := 64) (t := 15) ck_H_note_2 rfl) (gk (k := 64) (t := 16) ck_H_note_2 rfl) (gk (k := 64) (t := 17) ck_H_note_2 rfl) rfl
theorem d_H_note_82 : decode y_H_note.2.1 82 = .ok (.iastore, 1) := op_iastore (gk (k := 64) (t := 18) ck_H_note_2 rfl)
theorem d_H_note_83 : decode y_H_note.2.1 83 = .ok (.aload_n 0, 1) := op_aload_n0 (gk (k := 64) (t := 19) ck_H_note_2 rfl)
theorem d_H_note_84 : decode y_H_note.2.1 84 = .ok (.getfield 37, 3) := op_getfield (gk (k := 64) (t := 20) ck_H_note_2 rfl) (gk (k := 64) (t := 21) ck_H_note_2 rfl) (gk (k := 64) (t := 22) ck_H_note_2 rfl) rfl
theorem d_H_note_87 : decode y_H_note.2.1 87 = .ok (.iconst 2, 1) := op_iconst2 (gk (k := 64) (t := 23) ck_H_note_2 rfl)
theorem d_H_note_88 : decode y_H_note.2.1 88 = .ok (.dup2, 1) := op_dup2 (gk (k := 64) (t := 24) ck_H_note_2 rfl)
theorem d_H_note_89 : decode y_H_note.2.1 89 = .ok (.iaload, 1) := op_iaload (gk (k := 64) (t := 25) ck_H_note_2 rfl)
theorem d_H_note_90 : decode y_H_note.2.1 90 = .ok (.iload_n 3, 1) := op_iload_n3 (gk (k := 64) (t := 26) ck_H_note_2 rfl)
theorem d_H_note_91 : decode y_H_note.2.1 91 = .ok (.iadd, 1) := op_iadd (gk (k := 64) (t := 27) ck_H_note_2 rfl)
theorem d_H_note_92 : decode y_H_note.2.1 92 = .ok (.iastore, 1) := op_iastore (gk (k := 64) (t := 28) ck_H_note_2 rfl)
theorem d_H_note_93 : decode y_H_note.2.1 93 = .ok (.aload_n 0, 1) := op_aload_n0 (gk (k := 64) (t := 29) ck_H_note_2 rfl)
theorem ck_H_note_3 : (y_H_note.2.1.data.toList.drop 96).take 32 = [40, 16, 10, 27, 96, 42, 180, 0, 33, 28, 3, 182, 0, 105, 79, 42, 180, 0, 40, 16, 20, 27, 96, 29, 79, 177] := by decide +kernel
theorem d_H_note_94 : decode y_H_note.2.1 94 = .ok (.getfield 40, 3) := op_getfield (gk (k := 64) (t := 30) ck_H_note_2 rfl) (gk (k := 64) (t := 31) ck_H_note_2 rfl) (gk (k := 96) (t := 0) ck_H_note_3 rfl) rfl
theorem d_H_note_97 : decode y_H_note.2.1 97 = .ok (.bipush 10, 2) := op_bipush (gk (k := 96) (t := 1) ck_H_note_3 rfl) (gk (k := 96) (t := 2) ck_H_note_3 rfl) rfl
theorem d_H_note_99 : decode y_H_note.2.1 99 = .ok (.iload_n 1, 1) := op_iload_n1 (gk (k := 96) (t := 3) ck_H_note_3 rfl)
theorem d_H_note_100 : decode y_H_note.2.1 100 = .ok (.iadd, 1) := op_iadd (gk (k := 96) (t := 4) ck_H_note_3 rfl)
theorem d_H_note_101 : decode y_H_note.2.1 101 = .ok (.aload_n 0, 1) := op_aload_n0 (gk (k := 96) (t := 5) ck_H_note_3 rfl)
theorem d_H_note_102 : decode y_H_note.2.1 102 = .ok (.getfield 33, 3) := op_getfield (gk (k := 96) (t := 6) ck_H_note_3 rfl) (gk (k := 96) (t := 7) ck_H_note_3 rfl) (gk (k := 96) (t := 8) ck_H_note_3 rfl) rfl
theorem d_H_note_105 : decode y_H_note.2.1 105 = .ok (.iload_n 2, 1) := op_iload_n2 (gk (k := 96) (t := 9) ck_H_note_3 rfl)
theorem d_H_note_106 : decode y_H_note.2.1 106 = .ok (.iconst 0, 1) := op_iconst0 (gk (k := 96) (t := 10) ck_H_note_3 rfl)
theorem d_H_note_107 : decode y_H_note.2.1 107 = .ok (.invokevirtual 105, 3) := op_invokevirtual (gk (k := 96) (t := 11) ck_H_note_3 rfl) (gk (k := 96) (t := 12) ck_H_note_3 rfl) (gk (k := 96) (t := 13) ck_H_note_3 rfl) rfl
theorem d_H_note_110 : decode y_H_note.2.1 110 = .ok (.iastore, 1) := op_iastore (gk (k := 96) (t := 14) ck_H_note_3 rfl)
theorem d_H_note_111 : decode y_H_note.2.1 111 = .ok (.aload_n 0, 1) := op_aload_n0 (gk (k := 96) (t := 15) ck_H_note_3 rfl)
theorem d_H_note_112 : decode y_H_note.2.1 112 = .ok (.getfield 40, 3) := op_getfield (gk (k := 96) (t := 16) ck_H_note_3 rfl) (gk (k := 96) (t := 17) ck_H_note_3 rfl) (gk (k := 96) (t := 18) ck_H_note_3 rfl) rfl
theorem d_H_note_115 : decode y_H_note.2.1 115 = .ok (.bipush 20, 2) := op_bipush (gk (k := 96) (t := 19) ck_H_note_3 rfl) (gk (k := 96) (t := 20) ck_H_note_3 rfl) rfl
theorem d_H_note_117 : decode y_H_note.2.1 117 = .ok (.iload_n 1, 1) := op_iload_n1 (gk (k := 96) (t := 21) ck_H_note_3 rfl)
theorem d_H_note_118 : decode y_H_note.2.1 118 = .ok (.iadd, 1) := op_iadd (gk (k := 96) (t := 22) ck_H_note_3 rfl)
theorem d_H_note_119 : decode y_H_note.2.1 119 = .ok (.iload_n 3, 1) := op_iload_n3 (gk (k := 96) (t := 23) ck_H_note_3 rfl)
theorem d_H_note_120 : decode y_H_note.2.1 120 = .ok (.iastore, 1) := op_iastore (gk (k := 96) (t := 24) ck_H_note_3 rfl)
theorem d_H_note_121 : decode y_H_note.2.1 121 = .ok (.return_, 1) := op_return_ (gk (k := 96) (t := 25) ck_H_note_3 rfl)
abbrev y_L_put : MI := (⟨"SinglesUp$Lines", "put", "(III)V"⟩, prog_6_method_8_code, 5, none)
theorem ck_L_put_0 : (y_L_put.2.1.data.toList.drop 0).take 32 = [27, 16, 6, 104, 28, 96, 54, 4, 21, 4, 155, 0, 21, 21, 4, 42, 180, 0, 9, 190, 162, 0, 11, 42, 180, 0, 9, 21, 4, 29, 79, 177] := by decide +kernel
theorem d_L_put_0 : decode y_L_put.2.1 0 = .ok (.iload_n 1, 1) := op_iload_n1 (gk (k := 0) (t := 0) ck_L_put_0 rfl)
theorem d_L_put_1 : decode y_L_put.2.1 1 = .ok (.bipush 6, 2) := op_bipush (gk (k := 0) (t := 1) ck_L_put_0 rfl) (gk (k := 0) (t := 2) ck_L_put_0 rfl) rfl
theorem d_L_put_3 : decode y_L_put.2.1 3 = .ok (.imul, 1) := op_imul (gk (k := 0) (t := 3) ck_L_put_0 rfl)
theorem d_L_put_4 : decode y_L_put.2.1 4 = .ok (.iload_n 2, 1) := op_iload_n2 (gk (k := 0) (t := 4) ck_L_put_0 rfl)
theorem d_L_put_5 : decode y_L_put.2.1 5 = .ok (.iadd, 1) := op_iadd (gk (k := 0) (t := 5) ck_L_put_0 rfl)
theorem d_L_put_6 : decode y_L_put.2.1 6 = .ok (.istore 4, 2) := op_istore (gk (k := 0) (t := 6) ck_L_put_0 rfl) (gk (k := 0) (t := 7) ck_L_put_0 rfl) rfl
theorem d_L_put_8 : decode y_L_put.2.1 8 = .ok (.iload 4, 2) := op_iload (gk (k := 0) (t := 8) ck_L_put_0 rfl) (gk (k := 0) (t := 9) ck_L_put_0 rfl) rfl
theorem d_L_put_10 : decode y_L_put.2.1 10 = .ok (.ifCond .lt 21, 3) := op_if_lt (gk (k := 0) (t := 10) ck_L_put_0 rfl) (gk (k := 0) (t := 11) ck_L_put_0 rfl) (gk (k := 0) (t := 12) ck_L_put_0 rfl) (by decide +kernel)
theorem d_L_put_31 : decode y_L_put.2.1 31 = .ok (.return_, 1) := op_return_ (gk (k := 0) (t := 31) ck_L_put_0 rfl)
theorem d_L_put_13 : decode y_L_put.2.1 13 = .ok (.iload 4, 2) := op_iload (gk (k := 0) (t := 13) ck_L_put_0 rfl) (gk (k := 0) (t := 14) ck_L_put_0 rfl) rfl
theorem d_L_put_15 : decode y_L_put.2.1 15 = .ok (.aload_n 0, 1) := op_aload_n0 (gk (k := 0) (t := 15) ck_L_put_0 rfl)
theorem d_L_put_16 : decode y_L_put.2.1 16 = .ok (.getfield 9, 3) := op_getfield (gk (k := 0) (t := 16) ck_L_put_0 rfl) (gk (k := 0) (t := 17) ck_L_put_0 rfl) (gk (k := 0) (t := 18) ck_L_put_0 rfl) rfl
theorem d_L_put_19 : decode y_L_put.2.1 19 = .ok (.arraylength, 1) := op_arraylength (gk (k := 0) (t := 19) ck_L_put_0 rfl)
theorem d_L_put_20 : decode y_L_put.2.1 20 = .ok (.if_icmp .ge 11, 3) := op_icmp_ge (gk (k := 0) (t := 20) ck_L_put_0 rfl) (gk (k := 0) (t := 21) ck_L_put_0 rfl) (gk (k := 0) (t := 22) ck_L_put_0 rfl) (by decide +kernel)
theorem d_L_put_23 : decode y_L_put.2.1 23 = .ok (.aload_n 0, 1) := op_aload_n0 (gk (k := 0) (t := 23) ck_L_put_0 rfl)
theorem d_L_put_24 : decode y_L_put.2.1 24 = .ok (.getfield 9, 3) := op_getfield (gk (k := 0) (t := 24) ck_L_put_0 rfl) (gk (k := 0) (t := 25) ck_L_put_0 rfl) (gk (k := 0) (t := 26) ck_L_put_0 rfl) rfl
theorem d_L_put_27 : decode y_L_put.2.1 27 = .ok (.iload 4, 2) := op_iload (gk (k := 0) (t := 27) ck_L_put_0 rfl) (gk (k := 0) (t := 28) ck_L_put_0 rfl) rfl
theorem d_L_put_29 : decode y_L_put.2.1 29 = .ok (.iload_n 3, 1) := op_iload_n3 (gk (k := 0) (t := 29) ck_L_put_0 rfl)
theorem d_L_put_30 : decode y_L_put.2.1 30 = .ok (.iastore, 1) := op_iastore (gk (k := 0) (t := 30) ck_L_put_0 rfl)
abbrev y_L_rearmostSitting : MI := (⟨"SinglesUp$Lines", "rearmostSitting", "([II)I"⟩, prog_6_method_12_code, 5, some .int)
theorem ck_L_rearmostSitting_0 : (y_L_rearmostSitting.2.1.data.toList.drop 0).take 32 = [42, 180, 0, 15, 28, 46, 4, 100, 62, 29, 155, 0, 42, 28, 16, 40, 104, 29, 96, 54, 4, 21, 4, 43, 190, 162, 0, 21, 43, 21, 4, 46] := by decide +kernel
theorem d_L_rearmostSitting_0 : decode y_L_rearmostSitting.2.1 0 = .ok (.aload_n 0, 1) := op_aload_n0 (gk (k := 0) (t := 0) ck_L_rearmostSitting_0 rfl)
theorem d_L_rearmostSitting_1 : decode y_L_rearmostSitting.2.1 1 = .ok (.getfield 15, 3) := op_getfield (gk (k := 0) (t := 1) ck_L_rearmostSitting_0 rfl) (gk (k := 0) (t := 2) ck_L_rearmostSitting_0 rfl) (gk (k := 0) (t := 3) ck_L_rearmostSitting_0 rfl) rfl
theorem d_L_rearmostSitting_4 : decode y_L_rearmostSitting.2.1 4 = .ok (.iload_n 2, 1) := op_iload_n2 (gk (k := 0) (t := 4) ck_L_rearmostSitting_0 rfl)
theorem d_L_rearmostSitting_5 : decode y_L_rearmostSitting.2.1 5 = .ok (.iaload, 1) := op_iaload (gk (k := 0) (t := 5) ck_L_rearmostSitting_0 rfl)
theorem d_L_rearmostSitting_6 : decode y_L_rearmostSitting.2.1 6 = .ok (.iconst 1, 1) := op_iconst1 (gk (k := 0) (t := 6) ck_L_rearmostSitting_0 rfl)
theorem d_L_rearmostSitting_7 : decode y_L_rearmostSitting.2.1 7 = .ok (.isub, 1) := op_isub (gk (k := 0) (t := 7) ck_L_rearmostSitting_0 rfl)
theorem d_L_rearmostSitting_8 : decode y_L_rearmostSitting.2.1 8 = .ok (.istore_n 3, 1) := op_istore_n3 (gk (k := 0) (t := 8) ck_L_rearmostSitting_0 rfl)
theorem d_L_rearmostSitting_9 : decode y_L_rearmostSitting.2.1 9 = .ok (.iload_n 3, 1) := op_iload_n3 (gk (k := 0) (t := 9) ck_L_rearmostSitting_0 rfl)
theorem d_L_rearmostSitting_10 : decode y_L_rearmostSitting.2.1 10 = .ok (.ifCond .lt 42, 3) := op_if_lt (gk (k := 0) (t := 10) ck_L_rearmostSitting_0 rfl) (gk (k := 0) (t := 11) ck_L_rearmostSitting_0 rfl) (gk (k := 0) (t := 12) ck_L_rearmostSitting_0 rfl) (by decide +kernel)
theorem ck_L_rearmostSitting_1 : (y_L_rearmostSitting.2.1.data.toList.drop 32).take 32 = [4, 159, 0, 11, 43, 21, 4, 46, 6, 160, 0, 5, 29, 172, 132, 3, 255, 167, 255, 216, 2, 172] := by decide +kernel
theorem d_L_rearmostSitting_52 : decode y_L_rearmostSitting.2.1 52 = .ok (.iconst (-1), 1) := op_iconstm1 (gk (k := 32) (t := 20) ck_L_rearmostSitting_1 rfl)
theorem d_L_rearmostSitting_53 : decode y_L_rearmostSitting.2.1 53 = .ok (.ireturn, 1) := op_ireturn (gk (k := 32) (t := 21) ck_L_rearmostSitting_1 rfl)
theorem d_L_rearmostSitting_13 : decode y_L_rearmostSitting.2.1 13 = .ok (.iload_n 2, 1) := op_iload_n2 (gk (k := 0) (t := 13) ck_L_rearmostSitting_0 rfl)
theorem d_L_rearmostSitting_14 : decode y_L_rearmostSitting.2.1 14 = .ok (.bipush 40, 2) := op_bipush (gk (k := 0) (t := 14) ck_L_rearmostSitting_0 rfl) (gk (k := 0) (t := 15) ck_L_rearmostSitting_0 rfl) rfl
theorem d_L_rearmostSitting_16 : decode y_L_rearmostSitting.2.1 16 = .ok (.imul, 1) := op_imul (gk (k := 0) (t := 16) ck_L_rearmostSitting_0 rfl)
theorem d_L_rearmostSitting_17 : decode y_L_rearmostSitting.2.1 17 = .ok (.iload_n 3, 1) := op_iload_n3 (gk (k := 0) (t := 17) ck_L_rearmostSitting_0 rfl)
theorem d_L_rearmostSitting_18 : decode y_L_rearmostSitting.2.1 18 = .ok (.iadd, 1) := op_iadd (gk (k := 0) (t := 18) ck_L_rearmostSitting_0 rfl)
theorem d_L_rearmostSitting_19 : decode y_L_rearmostSitting.2.1 19 = .ok (.istore 4, 2) := op_istore (gk (k := 0) (t := 19) ck_L_rearmostSitting_0 rfl) (gk (k := 0) (t := 20) ck_L_rearmostSitting_0 rfl) rfl
theorem d_L_rearmostSitting_21 : decode y_L_rearmostSitting.2.1 21 = .ok (.iload 4, 2) := op_iload (gk (k := 0) (t := 21) ck_L_rearmostSitting_0 rfl) (gk (k := 0) (t := 22) ck_L_rearmostSitting_0 rfl) rfl
theorem d_L_rearmostSitting_23 : decode y_L_rearmostSitting.2.1 23 = .ok (.aload_n 1, 1) := op_aload_n1 (gk (k := 0) (t := 23) ck_L_rearmostSitting_0 rfl)
theorem d_L_rearmostSitting_24 : decode y_L_rearmostSitting.2.1 24 = .ok (.arraylength, 1) := op_arraylength (gk (k := 0) (t := 24) ck_L_rearmostSitting_0 rfl)
theorem d_L_rearmostSitting_46 : decode y_L_rearmostSitting.2.1 46 = .ok (.iinc 3 (-1), 3) := op_iinc (gk (k := 32) (t := 14) ck_L_rearmostSitting_1 rfl) (gk (k := 32) (t := 15) ck_L_rearmostSitting_1 rfl) (gk (k := 32) (t := 16) ck_L_rearmostSitting_1 rfl) rfl rfl
theorem d_L_rearmostSitting_49 : decode y_L_rearmostSitting.2.1 49 = .ok (.goto (-40), 3) := op_goto (gk (k := 32) (t := 17) ck_L_rearmostSitting_1 rfl) (gk (k := 32) (t := 18) ck_L_rearmostSitting_1 rfl) (gk (k := 32) (t := 19) ck_L_rearmostSitting_1 rfl) (by decide +kernel)
theorem d_L_rearmostSitting_25 : decode y_L_rearmostSitting.2.1 25 = .ok (.if_icmp .ge 21, 3) := op_icmp_ge (gk (k := 0) (t := 25) ck_L_rearmostSitting_0 rfl) (gk (k := 0) (t := 26) ck_L_rearmostSitting_0 rfl) (gk (k := 0) (t := 27) ck_L_rearmostSitting_0 rfl) (by decide +kernel)
theorem d_L_rearmostSitting_28 : decode y_L_rearmostSitting.2.1 28 = .ok (.aload_n 1, 1) := op_aload_n1 (gk (k := 0) (t := 28) ck_L_rearmostSitting_0 rfl)
theorem d_L_rearmostSitting_29 : decode y_L_rearmostSitting.2.1 29 = .ok (.iload 4, 2) := op_iload (gk (k := 0) (t := 29) ck_L_rearmostSitting_0 rfl) (gk (k := 0) (t := 30) ck_L_rearmostSitting_0 rfl) rfl
theorem d_L_rearmostSitting_31 : decode y_L_rearmostSitting.2.1 31 = .ok (.iaload, 1) := op_iaload (gk (k := 0) (t := 31) ck_L_rearmostSitting_0 rfl)
theorem d_L_rearmostSitting_32 : decode y_L_rearmostSitting.2.1 32 = .ok (.iconst 1, 1) := op_iconst1 (gk (k := 32) (t := 0) ck_L_rearmostSitting_1 rfl)
theorem d_L_rearmostSitting_33 : decode y_L_rearmostSitting.2.1 33 = .ok (.if_icmp .eq 11, 3) := op_icmp_eq (gk (k := 32) (t := 1) ck_L_rearmostSitting_1 rfl) (gk (k := 32) (t := 2) ck_L_rearmostSitting_1 rfl) (gk (k := 32) (t := 3) ck_L_rearmostSitting_1 rfl) (by decide +kernel)
theorem d_L_rearmostSitting_44 : decode y_L_rearmostSitting.2.1 44 = .ok (.iload_n 3, 1) := op_iload_n3 (gk (k := 32) (t := 12) ck_L_rearmostSitting_1 rfl)
theorem d_L_rearmostSitting_45 : decode y_L_rearmostSitting.2.1 45 = .ok (.ireturn, 1) := op_ireturn (gk (k := 32) (t := 13) ck_L_rearmostSitting_1 rfl)
theorem d_L_rearmostSitting_36 : decode y_L_rearmostSitting.2.1 36 = .ok (.aload_n 1, 1) := op_aload_n1 (gk (k := 32) (t := 4) ck_L_rearmostSitting_1 rfl)
theorem d_L_rearmostSitting_37 : decode y_L_rearmostSitting.2.1 37 = .ok (.iload 4, 2) := op_iload (gk (k := 32) (t := 5) ck_L_rearmostSitting_1 rfl) (gk (k := 32) (t := 6) ck_L_rearmostSitting_1 rfl) rfl
theorem d_L_rearmostSitting_39 : decode y_L_rearmostSitting.2.1 39 = .ok (.iaload, 1) := op_iaload (gk (k := 32) (t := 7) ck_L_rearmostSitting_1 rfl)
theorem d_L_rearmostSitting_40 : decode y_L_rearmostSitting.2.1 40 = .ok (.iconst 3, 1) := op_iconst3 (gk (k := 32) (t := 8) ck_L_rearmostSitting_1 rfl)
theorem d_L_rearmostSitting_41 : decode y_L_rearmostSitting.2.1 41 = .ok (.if_icmp .ne 5, 3) := op_icmp_ne (gk (k := 32) (t := 9) ck_L_rearmostSitting_1 rfl) (gk (k := 32) (t := 10) ck_L_rearmostSitting_1 rfl) (gk (k := 32) (t := 11) ck_L_rearmostSitting_1 rfl) (by decide +kernel)
abbrev y_L_depart : MI := (⟨"SinglesUp$Lines", "depart", "([I)V"⟩, prog_6_method_11_code, 9, none)
theorem ck_L_depart_0 : (y_L_depart.2.1.data.toList.drop 0).take 32 = [3, 61, 28, 16, 6, 162, 0, 168, 42, 43, 28, 182, 0, 47, 62, 3, 54, 4, 3, 54, 5, 21, 5, 42, 180, 0, 15, 28, 46, 162, 0, 130] := by decide +kernel
theorem d_L_depart_0 : decode y_L_depart.2.1 0 = .ok (.iconst 0, 1) := op_iconst0 (gk (k := 0) (t := 0) ck_L_depart_0 rfl)
theorem d_L_depart_1 : decode y_L_depart.2.1 1 = .ok (.istore_n 2, 1) := op_istore_n2 (gk (k := 0) (t := 1) ck_L_depart_0 rfl)
theorem d_L_depart_2 : decode y_L_depart.2.1 2 = .ok (.iload_n 2, 1) := op_iload_n2 (gk (k := 0) (t := 2) ck_L_depart_0 rfl)
theorem d_L_depart_3 : decode y_L_depart.2.1 3 = .ok (.bipush 6, 2) := op_bipush (gk (k := 0) (t := 3) ck_L_depart_0 rfl) (gk (k := 0) (t := 4) ck_L_depart_0 rfl) rfl
theorem d_L_depart_5 : decode y_L_depart.2.1 5 = .ok (.if_icmp .ge 168, 3) := op_icmp_ge (gk (k := 0) (t := 5) ck_L_depart_0 rfl) (gk (k := 0) (t := 6) ck_L_depart_0 rfl) (gk (k := 0) (t := 7) ck_L_depart_0 rfl) (by decide +kernel)
theorem ck_L_depart_5 : (y_L_depart.2.1.data.toList.drop 160).take 32 = [180, 0, 15, 28, 21, 4, 79, 132, 2, 1, 167, 255, 88, 177] := by decide +kernel
theorem d_L_depart_173 : decode y_L_depart.2.1 173 = .ok (.return_, 1) := op_return_ (gk (k := 160) (t := 13) ck_L_depart_5 rfl)
theorem d_L_depart_8 : decode y_L_depart.2.1 8 = .ok (.aload_n 0, 1) := op_aload_n0 (gk (k := 0) (t := 8) ck_L_depart_0 rfl)
theorem d_L_depart_9 : decode y_L_depart.2.1 9 = .ok (.aload_n 1, 1) := op_aload_n1 (gk (k := 0) (t := 9) ck_L_depart_0 rfl)
theorem d_L_depart_10 : decode y_L_depart.2.1 10 = .ok (.iload_n 2, 1) := op_iload_n2 (gk (k := 0) (t := 10) ck_L_depart_0 rfl)
theorem lk_L_47 : LkV "SinglesUp$Lines" 47 y_L_rearmostSitting := ⟨tw_c4 27 (by decide +kernel) rfl, tw_in 20 (by decide +kernel) rfl, Or.inl (tw_c4 25 (by decide +kernel) rfl)⟩
set_option maxRecDepth 100000 in
theorem mo_L_rearmostSitting : MOk y_L_rearmostSitting 2 := ⟨by decide +kernel, tw_c4 28 rfl rfl, tw_c1 3 (by decide +kernel) rfl, by decide +kernel, by decide +kernel, by decide +kernel⟩
theorem d_L_depart_11 : decode y_L_depart.2.1 11 = .ok (.invokevirtual 47, 3) := op_invokevirtual (gk (k := 0) (t := 11) ck_L_depart_0 rfl) (gk (k := 0) (t := 12) ck_L_depart_0 rfl) (gk (k := 0) (t := 13) ck_L_depart_0 rfl) rfl
theorem d_L_depart_14 : decode y_L_depart.2.1 14 = .ok (.istore_n 3, 1) := op_istore_n3 (gk (k := 0) (t := 14) ck_L_depart_0 rfl)
theorem d_L_depart_15 : decode y_L_depart.2.1 15 = .ok (.iconst 0, 1) := op_iconst0 (gk (k := 0) (t := 15) ck_L_depart_0 rfl)
theorem d_L_depart_16 : decode y_L_depart.2.1 16 = .ok (.istore 4, 2) := op_istore (gk (k := 0) (t := 16) ck_L_depart_0 rfl) (gk (k := 0) (t := 17) ck_L_depart_0 rfl) rfl
theorem d_L_depart_18 : decode y_L_depart.2.1 18 = .ok (.iconst 0, 1) := op_iconst0 (gk (k := 0) (t := 18) ck_L_depart_0 rfl)
theorem d_L_depart_19 : decode y_L_depart.2.1 19 = .ok (.istore 5, 2) := op_istore (gk (k := 0) (t := 19) ck_L_depart_0 rfl) (gk (k := 0) (t := 20) ck_L_depart_0 rfl) rfl
theorem d_L_depart_21 : decode y_L_depart.2.1 21 = .ok (.iload 5, 2) := op_iload (gk (k := 0) (t := 21) ck_L_depart_0 rfl) (gk (k := 0) (t := 22) ck_L_depart_0 rfl) rfl
theorem d_L_depart_23 : decode y_L_depart.2.1 23 = .ok (.aload_n 0, 1) := op_aload_n0 (gk (k := 0) (t := 23) ck_L_depart_0 rfl)
theorem d_L_depart_24 : decode y_L_depart.2.1 24 = .ok (.getfield 15, 3) := op_getfield (gk (k := 0) (t := 24) ck_L_depart_0 rfl) (gk (k := 0) (t := 25) ck_L_depart_0 rfl) (gk (k := 0) (t := 26) ck_L_depart_0 rfl) rfl
theorem d_L_depart_27 : decode y_L_depart.2.1 27 = .ok (.iload_n 2, 1) := op_iload_n2 (gk (k := 0) (t := 27) ck_L_depart_0 rfl)
theorem d_L_depart_28 : decode y_L_depart.2.1 28 = .ok (.iaload, 1) := op_iaload (gk (k := 0) (t := 28) ck_L_depart_0 rfl)
theorem d_L_depart_29 : decode y_L_depart.2.1 29 = .ok (.if_icmp .ge 130, 3) := op_icmp_ge (gk (k := 0) (t := 29) ck_L_depart_0 rfl) (gk (k := 0) (t := 30) ck_L_depart_0 rfl) (gk (k := 0) (t := 31) ck_L_depart_0 rfl) (by decide +kernel)
theorem ck_L_depart_1 : (y_L_depart.2.1.data.toList.drop 32).take 32 = [21, 5, 16, 40, 162, 0, 123, 28, 16, 40, 104, 21, 5, 96, 54, 6, 21, 6, 43, 190, 162, 0, 10, 43, 21, 6, 46, 167, 0, 4, 3, 54] := by decide +kernel
theorem d_L_depart_32 : decode y_L_depart.2.1 32 = .ok (.iload 5, 2) := op_iload (gk (k := 32) (t := 0) ck_L_depart_1 rfl) (gk (k := 32) (t := 1) ck_L_depart_1 rfl) rfl
theorem d_L_depart_34 : decode y_L_depart.2.1 34 = .ok (.bipush 40, 2) := op_bipush (gk (k := 32) (t := 2) ck_L_depart_1 rfl) (gk (k := 32) (t := 3) ck_L_depart_1 rfl) rfl
theorem d_L_depart_36 : decode y_L_depart.2.1 36 = .ok (.if_icmp .ge 123, 3) := op_icmp_ge (gk (k := 32) (t := 4) ck_L_depart_1 rfl) (gk (k := 32) (t := 5) ck_L_depart_1 rfl) (gk (k := 32) (t := 6) ck_L_depart_1 rfl) (by decide +kernel)
theorem d_L_depart_39 : decode y_L_depart.2.1 39 = .ok (.iload_n 2, 1) := op_iload_n2 (gk (k := 32) (t := 7) ck_L_depart_1 rfl)
theorem d_L_depart_40 : decode y_L_depart.2.1 40 = .ok (.bipush 40, 2) := op_bipush (gk (k := 32) (t := 8) ck_L_depart_1 rfl) (gk (k := 32) (t := 9) ck_L_depart_1 rfl) rfl
theorem d_L_depart_42 : decode y_L_depart.2.1 42 = .ok (.imul, 1) := op_imul (gk (k := 32) (t := 10) ck_L_depart_1 rfl)
theorem d_L_depart_43 : decode y_L_depart.2.1 43 = .ok (.iload 5, 2) := op_iload (gk (k := 32) (t := 11) ck_L_depart_1 rfl) (gk (k := 32) (t := 12) ck_L_depart_1 rfl) rfl
theorem d_L_depart_45 : decode y_L_depart.2.1 45 = .ok (.iadd, 1) := op_iadd (gk (k := 32) (t := 13) ck_L_depart_1 rfl)
theorem d_L_depart_46 : decode y_L_depart.2.1 46 = .ok (.istore 6, 2) := op_istore (gk (k := 32) (t := 14) ck_L_depart_1 rfl) (gk (k := 32) (t := 15) ck_L_depart_1 rfl) rfl
theorem d_L_depart_48 : decode y_L_depart.2.1 48 = .ok (.iload 6, 2) := op_iload (gk (k := 32) (t := 16) ck_L_depart_1 rfl) (gk (k := 32) (t := 17) ck_L_depart_1 rfl) rfl
theorem d_L_depart_50 : decode y_L_depart.2.1 50 = .ok (.aload_n 1, 1) := op_aload_n1 (gk (k := 32) (t := 18) ck_L_depart_1 rfl)
theorem d_L_depart_51 : decode y_L_depart.2.1 51 = .ok (.arraylength, 1) := op_arraylength (gk (k := 32) (t := 19) ck_L_depart_1 rfl)
theorem ck_L_depart_2 : (y_L_depart.2.1.data.toList.drop 64).take 32 = [7, 21, 7, 153, 0, 9, 21, 7, 6, 160, 0, 80, 28, 16, 40, 104, 21, 4, 96, 54, 8, 42, 180, 0, 9, 21, 6, 16, 6, 104, 42, 180] := by decide +kernel
theorem d_L_depart_63 : decode y_L_depart.2.1 63 = .ok (.istore 7, 2) := op_istore (gk (k := 32) (t := 31) ck_L_depart_1 rfl) (gk (k := 64) (t := 0) ck_L_depart_2 rfl) rfl
theorem d_L_depart_65 : decode y_L_depart.2.1 65 = .ok (.iload 7, 2) := op_iload (gk (k := 64) (t := 1) ck_L_depart_2 rfl) (gk (k := 64) (t := 2) ck_L_depart_2 rfl) rfl
theorem ck_L_depart_4 : (y_L_depart.2.1.data.toList.drop 128).take 32 = [42, 21, 8, 8, 182, 0, 53, 21, 5, 29, 162, 0, 7, 4, 167, 0, 4, 3, 96, 182, 0, 56, 132, 4, 1, 132, 5, 1, 167, 255, 121, 42] := by decide +kernel
theorem d_L_depart_153 : decode y_L_depart.2.1 153 = .ok (.iinc 5 1, 3) := op_iinc (gk (k := 128) (t := 25) ck_L_depart_4 rfl) (gk (k := 128) (t := 26) ck_L_depart_4 rfl) (gk (k := 128) (t := 27) ck_L_depart_4 rfl) rfl rfl
theorem d_L_depart_156 : decode y_L_depart.2.1 156 = .ok (.goto (-135), 3) := op_goto (gk (k := 128) (t := 28) ck_L_depart_4 rfl) (gk (k := 128) (t := 29) ck_L_depart_4 rfl) (gk (k := 128) (t := 30) ck_L_depart_4 rfl) (by decide +kernel)
theorem d_L_depart_76 : decode y_L_depart.2.1 76 = .ok (.iload_n 2, 1) := op_iload_n2 (gk (k := 64) (t := 12) ck_L_depart_2 rfl)
theorem d_L_depart_77 : decode y_L_depart.2.1 77 = .ok (.bipush 40, 2) := op_bipush (gk (k := 64) (t := 13) ck_L_depart_2 rfl) (gk (k := 64) (t := 14) ck_L_depart_2 rfl) rfl
theorem d_L_depart_79 : decode y_L_depart.2.1 79 = .ok (.imul, 1) := op_imul (gk (k := 64) (t := 15) ck_L_depart_2 rfl)
theorem d_L_depart_80 : decode y_L_depart.2.1 80 = .ok (.iload 4, 2) := op_iload (gk (k := 64) (t := 16) ck_L_depart_2 rfl) (gk (k := 64) (t := 17) ck_L_depart_2 rfl) rfl
theorem d_L_depart_82 : decode y_L_depart.2.1 82 = .ok (.iadd, 1) := op_iadd (gk (k := 64) (t := 18) ck_L_depart_2 rfl)
theorem d_L_depart_83 : decode y_L_depart.2.1 83 = .ok (.istore 8, 2) := op_istore (gk (k := 64) (t := 19) ck_L_depart_2 rfl) (gk (k := 64) (t := 20) ck_L_depart_2 rfl) rfl
theorem d_L_depart_85 : decode y_L_depart.2.1 85 = .ok (.aload_n 0, 1) := op_aload_n0 (gk (k := 64) (t := 21) ck_L_depart_2 rfl)
theorem d_L_depart_86 : decode y_L_depart.2.1 86 = .ok (.getfield 9, 3) := op_getfield (gk (k := 64) (t := 22) ck_L_depart_2 rfl) (gk (k := 64) (t := 23) ck_L_depart_2 rfl) (gk (k := 64) (t := 24) ck_L_depart_2 rfl) rfl
theorem d_L_depart_89 : decode y_L_depart.2.1 89 = .ok (.iload 6, 2) := op_iload (gk (k := 64) (t := 25) ck_L_depart_2 rfl) (gk (k := 64) (t := 26) ck_L_depart_2 rfl) rfl
theorem d_L_depart_91 : decode y_L_depart.2.1 91 = .ok (.bipush 6, 2) := op_bipush (gk (k := 64) (t := 27) ck_L_depart_2 rfl) (gk (k := 64) (t := 28) ck_L_depart_2 rfl) rfl
theorem d_L_depart_93 : decode y_L_depart.2.1 93 = .ok (.imul, 1) := op_imul (gk (k := 64) (t := 29) ck_L_depart_2 rfl)
theorem d_L_depart_94 : decode y_L_depart.2.1 94 = .ok (.aload_n 0, 1) := op_aload_n0 (gk (k := 64) (t := 30) ck_L_depart_2 rfl)
theorem ck_L_depart_3 : (y_L_depart.2.1.data.toList.drop 96).take 32 = [0, 9, 21, 8, 16, 6, 104, 16, 6, 184, 0, 27, 42, 21, 8, 7, 42, 21, 8, 7, 182, 0, 53, 4, 96, 182, 0, 56, 42, 21, 8, 8] := by decide +kernel
theorem d_L_depart_95 : decode y_L_depart.2.1 95 = .ok (.getfield 9, 3) := op_getfield (gk (k := 64) (t := 31) ck_L_depart_2 rfl) (gk (k := 96) (t := 0) ck_L_depart_3 rfl) (gk (k := 96) (t := 1) ck_L_depart_3 rfl) rfl
theorem d_L_depart_98 : decode y_L_depart.2.1 98 = .ok (.iload 8, 2) := op_iload (gk (k := 96) (t := 2) ck_L_depart_3 rfl) (gk (k := 96) (t := 3) ck_L_depart_3 rfl) rfl
theorem d_L_depart_100 : decode y_L_depart.2.1 100 = .ok (.bipush 6, 2) := op_bipush (gk (k := 96) (t := 4) ck_L_depart_3 rfl) (gk (k := 96) (t := 5) ck_L_depart_3 rfl) rfl
theorem d_L_depart_102 : decode y_L_depart.2.1 102 = .ok (.imul, 1) := op_imul (gk (k := 96) (t := 6) ck_L_depart_3 rfl)
theorem d_L_depart_103 : decode y_L_depart.2.1 103 = .ok (.bipush 6, 2) := op_bipush (gk (k := 96) (t := 7) ck_L_depart_3 rfl) (gk (k := 96) (t := 8) ck_L_depart_3 rfl) rfl
theorem d_L_depart_105 : decode y_L_depart.2.1 105 = .ok (.invokestatic 27, 3) := op_invokestatic (gk (k := 96) (t := 9) ck_L_depart_3 rfl) (gk (k := 96) (t := 10) ck_L_depart_3 rfl) (gk (k := 96) (t := 11) ck_L_depart_3 rfl) rfl
theorem d_L_depart_108 : decode y_L_depart.2.1 108 = .ok (.aload_n 0, 1) := op_aload_n0 (gk (k := 96) (t := 12) ck_L_depart_3 rfl)
theorem d_L_depart_109 : decode y_L_depart.2.1 109 = .ok (.iload 8, 2) := op_iload (gk (k := 96) (t := 13) ck_L_depart_3 rfl) (gk (k := 96) (t := 14) ck_L_depart_3 rfl) rfl
theorem d_L_depart_111 : decode y_L_depart.2.1 111 = .ok (.iconst 4, 1) := op_iconst4 (gk (k := 96) (t := 15) ck_L_depart_3 rfl)
theorem d_L_depart_112 : decode y_L_depart.2.1 112 = .ok (.aload_n 0, 1) := op_aload_n0 (gk (k := 96) (t := 16) ck_L_depart_3 rfl)
theorem d_L_depart_113 : decode y_L_depart.2.1 113 = .ok (.iload 8, 2) := op_iload (gk (k := 96) (t := 17) ck_L_depart_3 rfl) (gk (k := 96) (t := 18) ck_L_depart_3 rfl) rfl
theorem d_L_depart_115 : decode y_L_depart.2.1 115 = .ok (.iconst 4, 1) := op_iconst4 (gk (k := 96) (t := 19) ck_L_depart_3 rfl)
theorem d_L_depart_116 : decode y_L_depart.2.1 116 = .ok (.invokevirtual 53, 3) := op_invokevirtual (gk (k := 96) (t := 20) ck_L_depart_3 rfl) (gk (k := 96) (t := 21) ck_L_depart_3 rfl) (gk (k := 96) (t := 22) ck_L_depart_3 rfl) rfl
theorem d_L_depart_119 : decode y_L_depart.2.1 119 = .ok (.iconst 1, 1) := op_iconst1 (gk (k := 96) (t := 23) ck_L_depart_3 rfl)
theorem d_L_depart_120 : decode y_L_depart.2.1 120 = .ok (.iadd, 1) := op_iadd (gk (k := 96) (t := 24) ck_L_depart_3 rfl)
theorem lk_L_56 : LkV "SinglesUp$Lines" 56 y_L_put := ⟨tw_c4 30 (by decide +kernel) rfl, tw_c4 31 (by decide +kernel) rfl, Or.inl (tw_c4 29 (by decide +kernel) rfl)⟩
set_option maxRecDepth 100000 in
theorem mo_L_put : MOk y_L_put 3 := ⟨by decide +kernel, tw_c4 32 rfl rfl, tw_c1 3 (by decide +kernel) rfl, by decide +kernel, by decide +kernel, by decide +kernel⟩
theorem d_L_depart_121 : decode y_L_depart.2.1 121 = .ok (.invokevirtual 56, 3) := op_invokevirtual (gk (k := 96) (t := 25) ck_L_depart_3 rfl) (gk (k := 96) (t := 26) ck_L_depart_3 rfl) (gk (k := 96) (t := 27) ck_L_depart_3 rfl) rfl
theorem d_L_depart_124 : decode y_L_depart.2.1 124 = .ok (.aload_n 0, 1) := op_aload_n0 (gk (k := 96) (t := 28) ck_L_depart_3 rfl)
theorem d_L_depart_125 : decode y_L_depart.2.1 125 = .ok (.iload 8, 2) := op_iload (gk (k := 96) (t := 29) ck_L_depart_3 rfl) (gk (k := 96) (t := 30) ck_L_depart_3 rfl) rfl
theorem d_L_depart_127 : decode y_L_depart.2.1 127 = .ok (.iconst 5, 1) := op_iconst5 (gk (k := 96) (t := 31) ck_L_depart_3 rfl)
theorem d_L_depart_128 : decode y_L_depart.2.1 128 = .ok (.aload_n 0, 1) := op_aload_n0 (gk (k := 128) (t := 0) ck_L_depart_4 rfl)
theorem d_L_depart_129 : decode y_L_depart.2.1 129 = .ok (.iload 8, 2) := op_iload (gk (k := 128) (t := 1) ck_L_depart_4 rfl) (gk (k := 128) (t := 2) ck_L_depart_4 rfl) rfl
theorem d_L_depart_131 : decode y_L_depart.2.1 131 = .ok (.iconst 5, 1) := op_iconst5 (gk (k := 128) (t := 3) ck_L_depart_4 rfl)
theorem d_L_depart_132 : decode y_L_depart.2.1 132 = .ok (.invokevirtual 53, 3) := op_invokevirtual (gk (k := 128) (t := 4) ck_L_depart_4 rfl) (gk (k := 128) (t := 5) ck_L_depart_4 rfl) (gk (k := 128) (t := 6) ck_L_depart_4 rfl) rfl
theorem d_L_depart_135 : decode y_L_depart.2.1 135 = .ok (.iload 5, 2) := op_iload (gk (k := 128) (t := 7) ck_L_depart_4 rfl) (gk (k := 128) (t := 8) ck_L_depart_4 rfl) rfl
theorem d_L_depart_137 : decode y_L_depart.2.1 137 = .ok (.iload_n 3, 1) := op_iload_n3 (gk (k := 128) (t := 9) ck_L_depart_4 rfl)
theorem d_L_depart_146 : decode y_L_depart.2.1 146 = .ok (.iadd, 1) := op_iadd (gk (k := 128) (t := 18) ck_L_depart_4 rfl)
theorem d_L_depart_147 : decode y_L_depart.2.1 147 = .ok (.invokevirtual 56, 3) := op_invokevirtual (gk (k := 128) (t := 19) ck_L_depart_4 rfl) (gk (k := 128) (t := 20) ck_L_depart_4 rfl) (gk (k := 128) (t := 21) ck_L_depart_4 rfl) rfl
theorem d_L_depart_150 : decode y_L_depart.2.1 150 = .ok (.iinc 4 1, 3) := op_iinc (gk (k := 128) (t := 22) ck_L_depart_4 rfl) (gk (k := 128) (t := 23) ck_L_depart_4 rfl) (gk (k := 128) (t := 24) ck_L_depart_4 rfl) rfl rfl
theorem d_L_depart_138 : decode y_L_depart.2.1 138 = .ok (.if_icmp .ge 7, 3) := op_icmp_ge (gk (k := 128) (t := 10) ck_L_depart_4 rfl) (gk (k := 128) (t := 11) ck_L_depart_4 rfl) (gk (k := 128) (t := 12) ck_L_depart_4 rfl) (by decide +kernel)
theorem d_L_depart_145 : decode y_L_depart.2.1 145 = .ok (.iconst 0, 1) := op_iconst0 (gk (k := 128) (t := 17) ck_L_depart_4 rfl)
theorem d_L_depart_141 : decode y_L_depart.2.1 141 = .ok (.iconst 1, 1) := op_iconst1 (gk (k := 128) (t := 13) ck_L_depart_4 rfl)
theorem d_L_depart_142 : decode y_L_depart.2.1 142 = .ok (.goto 4, 3) := op_goto (gk (k := 128) (t := 14) ck_L_depart_4 rfl) (gk (k := 128) (t := 15) ck_L_depart_4 rfl) (gk (k := 128) (t := 16) ck_L_depart_4 rfl) (by decide +kernel)
theorem d_L_depart_67 : decode y_L_depart.2.1 67 = .ok (.ifCond .eq 9, 3) := op_if_eq (gk (k := 64) (t := 3) ck_L_depart_2 rfl) (gk (k := 64) (t := 4) ck_L_depart_2 rfl) (gk (k := 64) (t := 5) ck_L_depart_2 rfl) (by decide +kernel)
theorem d_L_depart_70 : decode y_L_depart.2.1 70 = .ok (.iload 7, 2) := op_iload (gk (k := 64) (t := 6) ck_L_depart_2 rfl) (gk (k := 64) (t := 7) ck_L_depart_2 rfl) rfl
theorem d_L_depart_72 : decode y_L_depart.2.1 72 = .ok (.iconst 3, 1) := op_iconst3 (gk (k := 64) (t := 8) ck_L_depart_2 rfl)
theorem d_L_depart_73 : decode y_L_depart.2.1 73 = .ok (.if_icmp .ne 80, 3) := op_icmp_ne (gk (k := 64) (t := 9) ck_L_depart_2 rfl) (gk (k := 64) (t := 10) ck_L_depart_2 rfl) (gk (k := 64) (t := 11) ck_L_depart_2 rfl) (by decide +kernel)
theorem d_L_depart_52 : decode y_L_depart.2.1 52 = .ok (.if_icmp .ge 10, 3) := op_icmp_ge (gk (k := 32) (t := 20) ck_L_depart_1 rfl) (gk (k := 32) (t := 21) ck_L_depart_1 rfl) (gk (k := 32) (t := 22) ck_L_depart_1 rfl) (by decide +kernel)
theorem d_L_depart_62 : decode y_L_depart.2.1 62 = .ok (.iconst 0, 1) := op_iconst0 (gk (k := 32) (t := 30) ck_L_depart_1 rfl)
theorem d_L_depart_55 : decode y_L_depart.2.1 55 = .ok (.aload_n 1, 1) := op_aload_n1 (gk (k := 32) (t := 23) ck_L_depart_1 rfl)
theorem d_L_depart_56 : decode y_L_depart.2.1 56 = .ok (.iload 6, 2) := op_iload (gk (k := 32) (t := 24) ck_L_depart_1 rfl) (gk (k := 32) (t := 25) ck_L_depart_1 rfl) rfl
theorem d_L_depart_58 : decode y_L_depart.2.1 58 = .ok (.iaload, 1) := op_iaload (gk (k := 32) (t := 26) ck_L_depart_1 rfl)
theorem d_L_depart_59 : decode y_L_depart.2.1 59 = .ok (.goto 4, 3) := op_goto (gk (k := 32) (t := 27) ck_L_depart_1 rfl) (gk (k := 32) (t := 28) ck_L_depart_1 rfl) (gk (k := 32) (t := 29) ck_L_depart_1 rfl) (by decide +kernel)
theorem d_L_depart_159 : decode y_L_depart.2.1 159 = .ok (.aload_n 0, 1) := op_aload_n0 (gk (k := 128) (t := 31) ck_L_depart_4 rfl)
theorem d_L_depart_160 : decode y_L_depart.2.1 160 = .ok (.getfield 15, 3) := op_getfield (gk (k := 160) (t := 0) ck_L_depart_5 rfl) (gk (k := 160) (t := 1) ck_L_depart_5 rfl) (gk (k := 160) (t := 2) ck_L_depart_5 rfl) rfl
theorem d_L_depart_163 : decode y_L_depart.2.1 163 = .ok (.iload_n 2, 1) := op_iload_n2 (gk (k := 160) (t := 3) ck_L_depart_5 rfl)
theorem d_L_depart_164 : decode y_L_depart.2.1 164 = .ok (.iload 4, 2) := op_iload (gk (k := 160) (t := 4) ck_L_depart_5 rfl) (gk (k := 160) (t := 5) ck_L_depart_5 rfl) rfl
theorem d_L_depart_166 : decode y_L_depart.2.1 166 = .ok (.iastore, 1) := op_iastore (gk (k := 160) (t := 6) ck_L_depart_5 rfl)
theorem d_L_depart_167 : decode y_L_depart.2.1 167 = .ok (.iinc 2 1, 3) := op_iinc (gk (k := 160) (t := 7) ck_L_depart_5 rfl) (gk (k := 160) (t := 8) ck_L_depart_5 rfl) (gk (k := 160) (t := 9) ck_L_depart_5 rfl) rfl rfl
theorem d_L_depart_170 : decode y_L_depart.2.1 170 = .ok (.goto (-168), 3) := op_goto (gk (k := 160) (t := 10) ck_L_depart_5 rfl) (gk (k := 160) (t := 11) ck_L_depart_5 rfl) (gk (k := 160) (t := 12) ck_L_depart_5 rfl) (by decide +kernel)
abbrev y_C_leave : MI := (⟨"SinglesUp$Chair", "leave", "(LSinglesUp$Hill;)I"⟩, prog_2_method_14_code, 4, some .int)
theorem ck_C_leave_0 : (y_C_leave.2.1.data.toList.drop 0).take 32 = [43, 180, 0, 141, 5, 46, 61, 3, 62, 29, 42, 180, 0, 40, 162, 0, 32, 29, 16, 8, 162, 0, 26, 43, 29, 42, 180, 0, 15, 29, 46, 42] := by decide +kernel
theorem d_C_leave_0 : decode y_C_leave.2.1 0 = .ok (.aload_n 1, 1) := op_aload_n1 (gk (k := 0) (t := 0) ck_C_leave_0 rfl)
theorem fl_C_141 : FL "SinglesUp$Chair" 141 2 8 := ⟨"SinglesUp$Hill", zT2, 14, rfl, by decide, rfl, Or.inr ⟨"SinglesUp", nw_in 108 (by decide +kernel) rfl⟩⟩
theorem d_C_leave_1 : decode y_C_leave.2.1 1 = .ok (.getfield 141, 3) := op_getfield (gk (k := 0) (t := 1) ck_C_leave_0 rfl) (gk (k := 0) (t := 2) ck_C_leave_0 rfl) (gk (k := 0) (t := 3) ck_C_leave_0 rfl) rfl
theorem d_C_leave_4 : decode y_C_leave.2.1 4 = .ok (.iconst 2, 1) := op_iconst2 (gk (k := 0) (t := 4) ck_C_leave_0 rfl)
theorem d_C_leave_5 : decode y_C_leave.2.1 5 = .ok (.iaload, 1) := op_iaload (gk (k := 0) (t := 5) ck_C_leave_0 rfl)
theorem d_C_leave_6 : decode y_C_leave.2.1 6 = .ok (.istore_n 2, 1) := op_istore_n2 (gk (k := 0) (t := 6) ck_C_leave_0 rfl)
theorem d_C_leave_7 : decode y_C_leave.2.1 7 = .ok (.iconst 0, 1) := op_iconst0 (gk (k := 0) (t := 7) ck_C_leave_0 rfl)
theorem d_C_leave_8 : decode y_C_leave.2.1 8 = .ok (.istore_n 3, 1) := op_istore_n3 (gk (k := 0) (t := 8) ck_C_leave_0 rfl)
theorem d_C_leave_9 : decode y_C_leave.2.1 9 = .ok (.iload_n 3, 1) := op_iload_n3 (gk (k := 0) (t := 9) ck_C_leave_0 rfl)
theorem d_C_leave_10 : decode y_C_leave.2.1 10 = .ok (.aload_n 0, 1) := op_aload_n0 (gk (k := 0) (t := 10) ck_C_leave_0 rfl)
theorem d_C_leave_11 : decode y_C_leave.2.1 11 = .ok (.getfield 40, 3) := op_getfield (gk (k := 0) (t := 11) ck_C_leave_0 rfl) (gk (k := 0) (t := 12) ck_C_leave_0 rfl) (gk (k := 0) (t := 13) ck_C_leave_0 rfl) rfl
theorem d_C_leave_14 : decode y_C_leave.2.1 14 = .ok (.if_icmp .ge 32, 3) := op_icmp_ge (gk (k := 0) (t := 14) ck_C_leave_0 rfl) (gk (k := 0) (t := 15) ck_C_leave_0 rfl) (gk (k := 0) (t := 16) ck_C_leave_0 rfl) (by decide +kernel)
theorem d_C_leave_17 : decode y_C_leave.2.1 17 = .ok (.iload_n 3, 1) := op_iload_n3 (gk (k := 0) (t := 17) ck_C_leave_0 rfl)
theorem d_C_leave_18 : decode y_C_leave.2.1 18 = .ok (.bipush 8, 2) := op_bipush (gk (k := 0) (t := 18) ck_C_leave_0 rfl) (gk (k := 0) (t := 19) ck_C_leave_0 rfl) rfl
theorem d_C_leave_20 : decode y_C_leave.2.1 20 = .ok (.if_icmp .ge 26, 3) := op_icmp_ge (gk (k := 0) (t := 20) ck_C_leave_0 rfl) (gk (k := 0) (t := 21) ck_C_leave_0 rfl) (gk (k := 0) (t := 22) ck_C_leave_0 rfl) (by decide +kernel)
theorem d_C_leave_23 : decode y_C_leave.2.1 23 = .ok (.aload_n 1, 1) := op_aload_n1 (gk (k := 0) (t := 23) ck_C_leave_0 rfl)
theorem d_C_leave_24 : decode y_C_leave.2.1 24 = .ok (.iload_n 3, 1) := op_iload_n3 (gk (k := 0) (t := 24) ck_C_leave_0 rfl)
theorem d_C_leave_25 : decode y_C_leave.2.1 25 = .ok (.aload_n 0, 1) := op_aload_n0 (gk (k := 0) (t := 25) ck_C_leave_0 rfl)
theorem d_C_leave_26 : decode y_C_leave.2.1 26 = .ok (.getfield 15, 3) := op_getfield (gk (k := 0) (t := 26) ck_C_leave_0 rfl) (gk (k := 0) (t := 27) ck_C_leave_0 rfl) (gk (k := 0) (t := 28) ck_C_leave_0 rfl) rfl
theorem d_C_leave_29 : decode y_C_leave.2.1 29 = .ok (.iload_n 3, 1) := op_iload_n3 (gk (k := 0) (t := 29) ck_C_leave_0 rfl)
theorem d_C_leave_30 : decode y_C_leave.2.1 30 = .ok (.iaload, 1) := op_iaload (gk (k := 0) (t := 30) ck_C_leave_0 rfl)
theorem d_C_leave_31 : decode y_C_leave.2.1 31 = .ok (.aload_n 0, 1) := op_aload_n0 (gk (k := 0) (t := 31) ck_C_leave_0 rfl)
theorem ck_C_leave_1 : (y_C_leave.2.1.data.toList.drop 32).take 32 = [180, 0, 18, 29, 46, 182, 0, 162, 132, 3, 1, 167, 255, 222, 43, 180, 0, 72, 42, 180, 0, 9, 182, 0, 165, 3, 62, 29, 42, 180, 0, 43] := by decide +kernel
theorem d_C_leave_32 : decode y_C_leave.2.1 32 = .ok (.getfield 18, 3) := op_getfield (gk (k := 32) (t := 0) ck_C_leave_1 rfl) (gk (k := 32) (t := 1) ck_C_leave_1 rfl) (gk (k := 32) (t := 2) ck_C_leave_1 rfl) rfl
theorem d_C_leave_35 : decode y_C_leave.2.1 35 = .ok (.iload_n 3, 1) := op_iload_n3 (gk (k := 32) (t := 3) ck_C_leave_1 rfl)
theorem d_C_leave_36 : decode y_C_leave.2.1 36 = .ok (.iaload, 1) := op_iaload (gk (k := 32) (t := 4) ck_C_leave_1 rfl)
theorem lk_C_162 : LkV "SinglesUp$Chair" 162 y_H_note := ⟨tw_c4 17 (by decide +kernel) rfl, tw_c4 18 (by decide +kernel) rfl, Or.inl (tw_c4 16 (by decide +kernel) rfl)⟩
set_option maxRecDepth 100000 in
theorem mo_H_note : MOk y_H_note 3 := ⟨by decide +kernel, tw_c4 19 rfl rfl, tw_c1 2 (by decide +kernel) rfl, by decide +kernel, by decide +kernel, by decide +kernel⟩
theorem d_C_leave_37 : decode y_C_leave.2.1 37 = .ok (.invokevirtual 162, 3) := op_invokevirtual (gk (k := 32) (t := 5) ck_C_leave_1 rfl) (gk (k := 32) (t := 6) ck_C_leave_1 rfl) (gk (k := 32) (t := 7) ck_C_leave_1 rfl) rfl
theorem d_C_leave_40 : decode y_C_leave.2.1 40 = .ok (.iinc 3 1, 3) := op_iinc (gk (k := 32) (t := 8) ck_C_leave_1 rfl) (gk (k := 32) (t := 9) ck_C_leave_1 rfl) (gk (k := 32) (t := 10) ck_C_leave_1 rfl) rfl rfl
theorem d_C_leave_43 : decode y_C_leave.2.1 43 = .ok (.goto (-34), 3) := op_goto (gk (k := 32) (t := 11) ck_C_leave_1 rfl) (gk (k := 32) (t := 12) ck_C_leave_1 rfl) (gk (k := 32) (t := 13) ck_C_leave_1 rfl) (by decide +kernel)
theorem d_C_leave_46 : decode y_C_leave.2.1 46 = .ok (.aload_n 1, 1) := op_aload_n1 (gk (k := 32) (t := 14) ck_C_leave_1 rfl)
theorem d_C_leave_47 : decode y_C_leave.2.1 47 = .ok (.getfield 72, 3) := op_getfield (gk (k := 32) (t := 15) ck_C_leave_1 rfl) (gk (k := 32) (t := 16) ck_C_leave_1 rfl) (gk (k := 32) (t := 17) ck_C_leave_1 rfl) rfl
theorem d_C_leave_50 : decode y_C_leave.2.1 50 = .ok (.aload_n 0, 1) := op_aload_n0 (gk (k := 32) (t := 18) ck_C_leave_1 rfl)
theorem d_C_leave_51 : decode y_C_leave.2.1 51 = .ok (.getfield 9, 3) := op_getfield (gk (k := 32) (t := 19) ck_C_leave_1 rfl) (gk (k := 32) (t := 20) ck_C_leave_1 rfl) (gk (k := 32) (t := 21) ck_C_leave_1 rfl) rfl
theorem lk_C_165 : LkV "SinglesUp$Chair" 165 y_L_depart := ⟨tw_c4 22 (by decide +kernel) rfl, tw_c4 23 (by decide +kernel) rfl, Or.inl (tw_c4 21 (by decide +kernel) rfl)⟩
set_option maxRecDepth 100000 in
theorem mo_L_depart : MOk y_L_depart 1 := ⟨by decide +kernel, tw_c4 24 rfl rfl, tw_c1 3 (by decide +kernel) rfl, by decide +kernel, by decide +kernel, by decide +kernel⟩
theorem d_C_leave_54 : decode y_C_leave.2.1 54 = .ok (.invokevirtual 165, 3) := op_invokevirtual (gk (k := 32) (t := 22) ck_C_leave_1 rfl) (gk (k := 32) (t := 23) ck_C_leave_1 rfl) (gk (k := 32) (t := 24) ck_C_leave_1 rfl) rfl
theorem d_C_leave_57 : decode y_C_leave.2.1 57 = .ok (.iconst 0, 1) := op_iconst0 (gk (k := 32) (t := 25) ck_C_leave_1 rfl)
theorem d_C_leave_58 : decode y_C_leave.2.1 58 = .ok (.istore_n 3, 1) := op_istore_n3 (gk (k := 32) (t := 26) ck_C_leave_1 rfl)
theorem d_C_leave_59 : decode y_C_leave.2.1 59 = .ok (.iload_n 3, 1) := op_iload_n3 (gk (k := 32) (t := 27) ck_C_leave_1 rfl)
theorem d_C_leave_60 : decode y_C_leave.2.1 60 = .ok (.aload_n 0, 1) := op_aload_n0 (gk (k := 32) (t := 28) ck_C_leave_1 rfl)
theorem d_C_leave_61 : decode y_C_leave.2.1 61 = .ok (.getfield 43, 3) := op_getfield (gk (k := 32) (t := 29) ck_C_leave_1 rfl) (gk (k := 32) (t := 30) ck_C_leave_1 rfl) (gk (k := 32) (t := 31) ck_C_leave_1 rfl) rfl
theorem ck_C_leave_2 : (y_C_leave.2.1.data.toList.drop 64).take 32 = [162, 0, 39, 43, 180, 0, 72, 3, 42, 180, 0, 21, 29, 16, 6, 104, 182, 0, 169, 154, 0, 14, 43, 180, 0, 141, 16, 6, 92, 46, 4, 96] := by decide +kernel
theorem d_C_leave_64 : decode y_C_leave.2.1 64 = .ok (.if_icmp .ge 39, 3) := op_icmp_ge (gk (k := 64) (t := 0) ck_C_leave_2 rfl) (gk (k := 64) (t := 1) ck_C_leave_2 rfl) (gk (k := 64) (t := 2) ck_C_leave_2 rfl) (by decide +kernel)
theorem d_C_leave_67 : decode y_C_leave.2.1 67 = .ok (.aload_n 1, 1) := op_aload_n1 (gk (k := 64) (t := 3) ck_C_leave_2 rfl)
theorem d_C_leave_68 : decode y_C_leave.2.1 68 = .ok (.getfield 72, 3) := op_getfield (gk (k := 64) (t := 4) ck_C_leave_2 rfl) (gk (k := 64) (t := 5) ck_C_leave_2 rfl) (gk (k := 64) (t := 6) ck_C_leave_2 rfl) rfl
theorem d_C_leave_71 : decode y_C_leave.2.1 71 = .ok (.iconst 0, 1) := op_iconst0 (gk (k := 64) (t := 7) ck_C_leave_2 rfl)
theorem d_C_leave_72 : decode y_C_leave.2.1 72 = .ok (.aload_n 0, 1) := op_aload_n0 (gk (k := 64) (t := 8) ck_C_leave_2 rfl)
theorem fl_C_21 : FL "SinglesUp$Chair" 21 0 3 := ⟨"SinglesUp$Chair", zT0, 12, rfl, by decide, rfl, Or.inl (tw_c1 165 (by decide +kernel) rfl)⟩
theorem rc_0_3 : ∀ o, KC[o]? = some (3, 12) → RC o 3 = some (o + 4) ∧ KC[o + 4]? = some (0, 864) := by
  intro o h
  have hl : o < 166 := (List.getElem?_eq_some_iff.mp h).1
  exact (by decide +kernel : ∀ o, o < 166 → KC[o]? = some (3, 12) → RC o 3 = some (o + 4) ∧ KC[o + 4]? = some (0, 864)) o hl h
theorem d_C_leave_73 : decode y_C_leave.2.1 73 = .ok (.getfield 21, 3) := op_getfield (gk (k := 64) (t := 9) ck_C_leave_2 rfl) (gk (k := 64) (t := 10) ck_C_leave_2 rfl) (gk (k := 64) (t := 11) ck_C_leave_2 rfl) rfl
theorem d_C_leave_76 : decode y_C_leave.2.1 76 = .ok (.iload_n 3, 1) := op_iload_n3 (gk (k := 64) (t := 12) ck_C_leave_2 rfl)
theorem d_C_leave_77 : decode y_C_leave.2.1 77 = .ok (.bipush 6, 2) := op_bipush (gk (k := 64) (t := 13) ck_C_leave_2 rfl) (gk (k := 64) (t := 14) ck_C_leave_2 rfl) rfl
theorem d_C_leave_79 : decode y_C_leave.2.1 79 = .ok (.imul, 1) := op_imul (gk (k := 64) (t := 15) ck_C_leave_2 rfl)
theorem lk_C_169 : LkV "SinglesUp$Chair" 169 y_L_append := ⟨tw_c3 182 (by decide +kernel) rfl, tw_c3 183 (by decide +kernel) rfl, Or.inl (tw_c4 33 (by decide +kernel) rfl)⟩
theorem d_C_leave_80 : decode y_C_leave.2.1 80 = .ok (.invokevirtual 169, 3) := op_invokevirtual (gk (k := 64) (t := 16) ck_C_leave_2 rfl) (gk (k := 64) (t := 17) ck_C_leave_2 rfl) (gk (k := 64) (t := 18) ck_C_leave_2 rfl) rfl
theorem ck_C_leave_3 : (y_C_leave.2.1.data.toList.drop 96).take 32 = [79, 132, 3, 1, 167, 255, 215, 43, 42, 180, 0, 30, 42, 180, 0, 40, 182, 0, 173, 43, 180, 0, 141, 5, 46, 28, 100, 172] := by decide +kernel
theorem d_C_leave_97 : decode y_C_leave.2.1 97 = .ok (.iinc 3 1, 3) := op_iinc (gk (k := 96) (t := 1) ck_C_leave_3 rfl) (gk (k := 96) (t := 2) ck_C_leave_3 rfl) (gk (k := 96) (t := 3) ck_C_leave_3 rfl) rfl rfl
theorem d_C_leave_100 : decode y_C_leave.2.1 100 = .ok (.goto (-41), 3) := op_goto (gk (k := 96) (t := 4) ck_C_leave_3 rfl) (gk (k := 96) (t := 5) ck_C_leave_3 rfl) (gk (k := 96) (t := 6) ck_C_leave_3 rfl) (by decide +kernel)
theorem d_C_leave_83 : decode y_C_leave.2.1 83 = .ok (.ifCond .ne 14, 3) := op_if_ne (gk (k := 64) (t := 19) ck_C_leave_2 rfl) (gk (k := 64) (t := 20) ck_C_leave_2 rfl) (gk (k := 64) (t := 21) ck_C_leave_2 rfl) (by decide +kernel)
theorem d_C_leave_86 : decode y_C_leave.2.1 86 = .ok (.aload_n 1, 1) := op_aload_n1 (gk (k := 64) (t := 22) ck_C_leave_2 rfl)
theorem d_C_leave_87 : decode y_C_leave.2.1 87 = .ok (.getfield 141, 3) := op_getfield (gk (k := 64) (t := 23) ck_C_leave_2 rfl) (gk (k := 64) (t := 24) ck_C_leave_2 rfl) (gk (k := 64) (t := 25) ck_C_leave_2 rfl) rfl
theorem d_C_leave_90 : decode y_C_leave.2.1 90 = .ok (.bipush 6, 2) := op_bipush (gk (k := 64) (t := 26) ck_C_leave_2 rfl) (gk (k := 64) (t := 27) ck_C_leave_2 rfl) rfl
theorem d_C_leave_92 : decode y_C_leave.2.1 92 = .ok (.dup2, 1) := op_dup2 (gk (k := 64) (t := 28) ck_C_leave_2 rfl)
theorem d_C_leave_93 : decode y_C_leave.2.1 93 = .ok (.iaload, 1) := op_iaload (gk (k := 64) (t := 29) ck_C_leave_2 rfl)
theorem d_C_leave_94 : decode y_C_leave.2.1 94 = .ok (.iconst 1, 1) := op_iconst1 (gk (k := 64) (t := 30) ck_C_leave_2 rfl)
theorem d_C_leave_95 : decode y_C_leave.2.1 95 = .ok (.iadd, 1) := op_iadd (gk (k := 64) (t := 31) ck_C_leave_2 rfl)
theorem d_C_leave_96 : decode y_C_leave.2.1 96 = .ok (.iastore, 1) := op_iastore (gk (k := 96) (t := 0) ck_C_leave_3 rfl)
theorem d_C_leave_103 : decode y_C_leave.2.1 103 = .ok (.aload_n 1, 1) := op_aload_n1 (gk (k := 96) (t := 7) ck_C_leave_3 rfl)
theorem d_C_leave_104 : decode y_C_leave.2.1 104 = .ok (.aload_n 0, 1) := op_aload_n0 (gk (k := 96) (t := 8) ck_C_leave_3 rfl)
theorem d_C_leave_105 : decode y_C_leave.2.1 105 = .ok (.getfield 30, 3) := op_getfield (gk (k := 96) (t := 9) ck_C_leave_3 rfl) (gk (k := 96) (t := 10) ck_C_leave_3 rfl) (gk (k := 96) (t := 11) ck_C_leave_3 rfl) rfl
theorem d_C_leave_108 : decode y_C_leave.2.1 108 = .ok (.aload_n 0, 1) := op_aload_n0 (gk (k := 96) (t := 12) ck_C_leave_3 rfl)
theorem d_C_leave_109 : decode y_C_leave.2.1 109 = .ok (.getfield 40, 3) := op_getfield (gk (k := 96) (t := 13) ck_C_leave_3 rfl) (gk (k := 96) (t := 14) ck_C_leave_3 rfl) (gk (k := 96) (t := 15) ck_C_leave_3 rfl) rfl
theorem lk_C_173 : LkV "SinglesUp$Chair" 173 y_H_close := ⟨tw_c4 35 (by decide +kernel) rfl, tw_c4 36 (by decide +kernel) rfl, Or.inl (tw_c4 34 (by decide +kernel) rfl)⟩
set_option maxRecDepth 100000 in
theorem mo_H_close : MOk y_H_close 2 := ⟨by decide +kernel, tw_c4 37 rfl rfl, tw_c1 2 (by decide +kernel) rfl, by decide +kernel, by decide +kernel, by decide +kernel⟩
theorem d_C_leave_112 : decode y_C_leave.2.1 112 = .ok (.invokevirtual 173, 3) := op_invokevirtual (gk (k := 96) (t := 16) ck_C_leave_3 rfl) (gk (k := 96) (t := 17) ck_C_leave_3 rfl) (gk (k := 96) (t := 18) ck_C_leave_3 rfl) rfl
theorem d_C_leave_115 : decode y_C_leave.2.1 115 = .ok (.aload_n 1, 1) := op_aload_n1 (gk (k := 96) (t := 19) ck_C_leave_3 rfl)
theorem d_C_leave_116 : decode y_C_leave.2.1 116 = .ok (.getfield 141, 3) := op_getfield (gk (k := 96) (t := 20) ck_C_leave_3 rfl) (gk (k := 96) (t := 21) ck_C_leave_3 rfl) (gk (k := 96) (t := 22) ck_C_leave_3 rfl) rfl
theorem d_C_leave_119 : decode y_C_leave.2.1 119 = .ok (.iconst 2, 1) := op_iconst2 (gk (k := 96) (t := 23) ck_C_leave_3 rfl)
theorem d_C_leave_120 : decode y_C_leave.2.1 120 = .ok (.iaload, 1) := op_iaload (gk (k := 96) (t := 24) ck_C_leave_3 rfl)
theorem d_C_leave_121 : decode y_C_leave.2.1 121 = .ok (.iload_n 2, 1) := op_iload_n2 (gk (k := 96) (t := 25) ck_C_leave_3 rfl)
theorem d_C_leave_122 : decode y_C_leave.2.1 122 = .ok (.isub, 1) := op_isub (gk (k := 96) (t := 26) ck_C_leave_3 rfl)
theorem d_C_leave_123 : decode y_C_leave.2.1 123 = .ok (.ireturn, 1) := op_ireturn (gk (k := 96) (t := 27) ck_C_leave_3 rfl)
abbrev y_S_dropPicked : MI := (⟨"SinglesUp", "dropPicked", "()V"⟩, prog_1_method_34_code, 1, none)
theorem ck_S_dropPicked_0 : (y_S_dropPicked.2.1.data.toList.drop 0).take 32 = [42, 180, 0, 33, 42, 180, 0, 12, 180, 0, 65, 3, 46, 182, 0, 69, 177] := by decide +kernel
theorem d_S_dropPicked_0 : decode y_S_dropPicked.2.1 0 = .ok (.aload_n 0, 1) := op_aload_n0 (gk (k := 0) (t := 0) ck_S_dropPicked_0 rfl)
theorem d_S_dropPicked_1 : decode y_S_dropPicked.2.1 1 = .ok (.getfield 33, 3) := op_getfield (gk (k := 0) (t := 1) ck_S_dropPicked_0 rfl) (gk (k := 0) (t := 2) ck_S_dropPicked_0 rfl) (gk (k := 0) (t := 3) ck_S_dropPicked_0 rfl) rfl
theorem d_S_dropPicked_4 : decode y_S_dropPicked.2.1 4 = .ok (.aload_n 0, 1) := op_aload_n0 (gk (k := 0) (t := 4) ck_S_dropPicked_0 rfl)
theorem d_S_dropPicked_5 : decode y_S_dropPicked.2.1 5 = .ok (.getfield 12, 3) := op_getfield (gk (k := 0) (t := 5) ck_S_dropPicked_0 rfl) (gk (k := 0) (t := 6) ck_S_dropPicked_0 rfl) (gk (k := 0) (t := 7) ck_S_dropPicked_0 rfl) rfl
theorem d_S_dropPicked_8 : decode y_S_dropPicked.2.1 8 = .ok (.getfield 65, 3) := op_getfield (gk (k := 0) (t := 8) ck_S_dropPicked_0 rfl) (gk (k := 0) (t := 9) ck_S_dropPicked_0 rfl) (gk (k := 0) (t := 10) ck_S_dropPicked_0 rfl) rfl
theorem d_S_dropPicked_11 : decode y_S_dropPicked.2.1 11 = .ok (.iconst 0, 1) := op_iconst0 (gk (k := 0) (t := 11) ck_S_dropPicked_0 rfl)
theorem d_S_dropPicked_12 : decode y_S_dropPicked.2.1 12 = .ok (.iaload, 1) := op_iaload (gk (k := 0) (t := 12) ck_S_dropPicked_0 rfl)
theorem d_S_dropPicked_13 : decode y_S_dropPicked.2.1 13 = .ok (.invokevirtual 69, 3) := op_invokevirtual (gk (k := 0) (t := 13) ck_S_dropPicked_0 rfl) (gk (k := 0) (t := 14) ck_S_dropPicked_0 rfl) (gk (k := 0) (t := 15) ck_S_dropPicked_0 rfl) rfl
theorem d_S_dropPicked_16 : decode y_S_dropPicked.2.1 16 = .ok (.return_, 1) := op_return_ (gk (k := 0) (t := 16) ck_S_dropPicked_0 rfl)
abbrev y_S_send : MI := (⟨"SinglesUp", "send", "()I"⟩, prog_1_method_15_code, 2, some .int)
theorem ck_S_send_0 : (y_S_send.2.1.data.toList.drop 0).take 32 = [42, 180, 0, 33, 42, 180, 0, 12, 182, 0, 177, 60, 42, 182, 0, 181, 27, 172] := by decide +kernel
theorem d_S_send_0 : decode y_S_send.2.1 0 = .ok (.aload_n 0, 1) := op_aload_n0 (gk (k := 0) (t := 0) ck_S_send_0 rfl)
theorem d_S_send_1 : decode y_S_send.2.1 1 = .ok (.getfield 33, 3) := op_getfield (gk (k := 0) (t := 1) ck_S_send_0 rfl) (gk (k := 0) (t := 2) ck_S_send_0 rfl) (gk (k := 0) (t := 3) ck_S_send_0 rfl) rfl
theorem d_S_send_4 : decode y_S_send.2.1 4 = .ok (.aload_n 0, 1) := op_aload_n0 (gk (k := 0) (t := 4) ck_S_send_0 rfl)
theorem d_S_send_5 : decode y_S_send.2.1 5 = .ok (.getfield 12, 3) := op_getfield (gk (k := 0) (t := 5) ck_S_send_0 rfl) (gk (k := 0) (t := 6) ck_S_send_0 rfl) (gk (k := 0) (t := 7) ck_S_send_0 rfl) rfl
theorem lk_S_177 : LkV "SinglesUp" 177 y_C_leave := ⟨tw_c4 13 (by decide +kernel) rfl, tw_c4 14 (by decide +kernel) rfl, Or.inl (tw_c4 12 (by decide +kernel) rfl)⟩
set_option maxRecDepth 100000 in
theorem mo_C_leave : MOk y_C_leave 1 := ⟨by decide +kernel, tw_c4 15 rfl rfl, tw_c1 7 (by decide +kernel) rfl, by decide +kernel, by decide +kernel, by decide +kernel⟩
theorem d_S_send_8 : decode y_S_send.2.1 8 = .ok (.invokevirtual 177, 3) := op_invokevirtual (gk (k := 0) (t := 8) ck_S_send_0 rfl) (gk (k := 0) (t := 9) ck_S_send_0 rfl) (gk (k := 0) (t := 10) ck_S_send_0 rfl) rfl
theorem d_S_send_11 : decode y_S_send.2.1 11 = .ok (.istore_n 1, 1) := op_istore_n1 (gk (k := 0) (t := 11) ck_S_send_0 rfl)
theorem d_S_send_12 : decode y_S_send.2.1 12 = .ok (.aload_n 0, 1) := op_aload_n0 (gk (k := 0) (t := 12) ck_S_send_0 rfl)
theorem lk_S_181 : LkV "SinglesUp" 181 y_S_dropPicked := ⟨tw_c4 52 (by decide +kernel) rfl, tw_in 22 (by decide +kernel) rfl, Or.inl (tw_c4 50 (by decide +kernel) rfl)⟩
set_option maxRecDepth 100000 in
theorem mo_S_dropPicked : MOk y_S_dropPicked 0 := ⟨by decide +kernel, tw_c4 53 rfl rfl, tw_c1 1 (by decide +kernel) rfl, by decide +kernel, by decide +kernel, by decide +kernel⟩
theorem d_S_send_13 : decode y_S_send.2.1 13 = .ok (.invokevirtual 181, 3) := op_invokevirtual (gk (k := 0) (t := 13) ck_S_send_0 rfl) (gk (k := 0) (t := 14) ck_S_send_0 rfl) (gk (k := 0) (t := 15) ck_S_send_0 rfl) rfl
theorem d_S_send_16 : decode y_S_send.2.1 16 = .ok (.iload_n 1, 1) := op_iload_n1 (gk (k := 0) (t := 16) ck_S_send_0 rfl)
theorem d_S_send_17 : decode y_S_send.2.1 17 = .ok (.ireturn, 1) := op_ireturn (gk (k := 0) (t := 17) ck_S_send_0 rfl)
abbrev y_C_findOut : MI := (⟨"SinglesUp$Chair", "findOut", "(LSinglesUp$Hill;I)V"⟩, prog_2_method_10_code, 4, none)
theorem ck_C_findOut_0 : (y_C_findOut.2.1.data.toList.drop 0).take 32 = [42, 180, 0, 43, 16, 6, 104, 62, 28, 155, 0, 26, 28, 17, 0, 240, 162, 0, 19, 29, 155, 0, 15, 29, 42, 180, 0, 21, 190, 16, 6, 100] := by decide +kernel
theorem d_C_findOut_0 : decode y_C_findOut.2.1 0 = .ok (.aload_n 0, 1) := op_aload_n0 (gk (k := 0) (t := 0) ck_C_findOut_0 rfl)
theorem d_C_findOut_1 : decode y_C_findOut.2.1 1 = .ok (.getfield 43, 3) := op_getfield (gk (k := 0) (t := 1) ck_C_findOut_0 rfl) (gk (k := 0) (t := 2) ck_C_findOut_0 rfl) (gk (k := 0) (t := 3) ck_C_findOut_0 rfl) rfl
theorem d_C_findOut_4 : decode y_C_findOut.2.1 4 = .ok (.bipush 6, 2) := op_bipush (gk (k := 0) (t := 4) ck_C_findOut_0 rfl) (gk (k := 0) (t := 5) ck_C_findOut_0 rfl) rfl
theorem d_C_findOut_6 : decode y_C_findOut.2.1 6 = .ok (.imul, 1) := op_imul (gk (k := 0) (t := 6) ck_C_findOut_0 rfl)
theorem d_C_findOut_7 : decode y_C_findOut.2.1 7 = .ok (.istore_n 3, 1) := op_istore_n3 (gk (k := 0) (t := 7) ck_C_findOut_0 rfl)
theorem d_C_findOut_8 : decode y_C_findOut.2.1 8 = .ok (.iload_n 2, 1) := op_iload_n2 (gk (k := 0) (t := 8) ck_C_findOut_0 rfl)
theorem d_C_findOut_9 : decode y_C_findOut.2.1 9 = .ok (.ifCond .lt 26, 3) := op_if_lt (gk (k := 0) (t := 9) ck_C_findOut_0 rfl) (gk (k := 0) (t := 10) ck_C_findOut_0 rfl) (gk (k := 0) (t := 11) ck_C_findOut_0 rfl) (by decide +kernel)
theorem ck_C_findOut_1 : (y_C_findOut.2.1.data.toList.drop 32).take 32 = [164, 0, 4, 177, 42, 180, 0, 9, 28, 5, 79, 43, 180, 0, 72, 180, 0, 132, 28, 16, 6, 104, 42, 180, 0, 21, 29, 16, 6, 184, 0, 135] := by decide +kernel
theorem d_C_findOut_35 : decode y_C_findOut.2.1 35 = .ok (.return_, 1) := op_return_ (gk (k := 32) (t := 3) ck_C_findOut_1 rfl)
theorem d_C_findOut_12 : decode y_C_findOut.2.1 12 = .ok (.iload_n 2, 1) := op_iload_n2 (gk (k := 0) (t := 12) ck_C_findOut_0 rfl)
theorem d_C_findOut_13 : decode y_C_findOut.2.1 13 = .ok (.sipush 240, 3) := op_sipush (gk (k := 0) (t := 13) ck_C_findOut_0 rfl) (gk (k := 0) (t := 14) ck_C_findOut_0 rfl) (gk (k := 0) (t := 15) ck_C_findOut_0 rfl) (by decide +kernel)
theorem d_C_findOut_16 : decode y_C_findOut.2.1 16 = .ok (.if_icmp .ge 19, 3) := op_icmp_ge (gk (k := 0) (t := 16) ck_C_findOut_0 rfl) (gk (k := 0) (t := 17) ck_C_findOut_0 rfl) (gk (k := 0) (t := 18) ck_C_findOut_0 rfl) (by decide +kernel)
theorem d_C_findOut_19 : decode y_C_findOut.2.1 19 = .ok (.iload_n 3, 1) := op_iload_n3 (gk (k := 0) (t := 19) ck_C_findOut_0 rfl)
theorem d_C_findOut_20 : decode y_C_findOut.2.1 20 = .ok (.ifCond .lt 15, 3) := op_if_lt (gk (k := 0) (t := 20) ck_C_findOut_0 rfl) (gk (k := 0) (t := 21) ck_C_findOut_0 rfl) (gk (k := 0) (t := 22) ck_C_findOut_0 rfl) (by decide +kernel)
theorem d_C_findOut_23 : decode y_C_findOut.2.1 23 = .ok (.iload_n 3, 1) := op_iload_n3 (gk (k := 0) (t := 23) ck_C_findOut_0 rfl)
theorem d_C_findOut_24 : decode y_C_findOut.2.1 24 = .ok (.aload_n 0, 1) := op_aload_n0 (gk (k := 0) (t := 24) ck_C_findOut_0 rfl)
theorem d_C_findOut_25 : decode y_C_findOut.2.1 25 = .ok (.getfield 21, 3) := op_getfield (gk (k := 0) (t := 25) ck_C_findOut_0 rfl) (gk (k := 0) (t := 26) ck_C_findOut_0 rfl) (gk (k := 0) (t := 27) ck_C_findOut_0 rfl) rfl
theorem d_C_findOut_28 : decode y_C_findOut.2.1 28 = .ok (.arraylength, 1) := op_arraylength (gk (k := 0) (t := 28) ck_C_findOut_0 rfl)
theorem d_C_findOut_29 : decode y_C_findOut.2.1 29 = .ok (.bipush 6, 2) := op_bipush (gk (k := 0) (t := 29) ck_C_findOut_0 rfl) (gk (k := 0) (t := 30) ck_C_findOut_0 rfl) rfl
theorem d_C_findOut_31 : decode y_C_findOut.2.1 31 = .ok (.isub, 1) := op_isub (gk (k := 0) (t := 31) ck_C_findOut_0 rfl)
theorem d_C_findOut_32 : decode y_C_findOut.2.1 32 = .ok (.if_icmp .le 4, 3) := op_icmp_le (gk (k := 32) (t := 0) ck_C_findOut_1 rfl) (gk (k := 32) (t := 1) ck_C_findOut_1 rfl) (gk (k := 32) (t := 2) ck_C_findOut_1 rfl) (by decide +kernel)
theorem d_C_findOut_36 : decode y_C_findOut.2.1 36 = .ok (.aload_n 0, 1) := op_aload_n0 (gk (k := 32) (t := 4) ck_C_findOut_1 rfl)
theorem d_C_findOut_37 : decode y_C_findOut.2.1 37 = .ok (.getfield 9, 3) := op_getfield (gk (k := 32) (t := 5) ck_C_findOut_1 rfl) (gk (k := 32) (t := 6) ck_C_findOut_1 rfl) (gk (k := 32) (t := 7) ck_C_findOut_1 rfl) rfl
theorem d_C_findOut_40 : decode y_C_findOut.2.1 40 = .ok (.iload_n 2, 1) := op_iload_n2 (gk (k := 32) (t := 8) ck_C_findOut_1 rfl)
theorem d_C_findOut_41 : decode y_C_findOut.2.1 41 = .ok (.iconst 2, 1) := op_iconst2 (gk (k := 32) (t := 9) ck_C_findOut_1 rfl)
theorem d_C_findOut_42 : decode y_C_findOut.2.1 42 = .ok (.iastore, 1) := op_iastore (gk (k := 32) (t := 10) ck_C_findOut_1 rfl)
theorem d_C_findOut_43 : decode y_C_findOut.2.1 43 = .ok (.aload_n 1, 1) := op_aload_n1 (gk (k := 32) (t := 11) ck_C_findOut_1 rfl)
theorem d_C_findOut_44 : decode y_C_findOut.2.1 44 = .ok (.getfield 72, 3) := op_getfield (gk (k := 32) (t := 12) ck_C_findOut_1 rfl) (gk (k := 32) (t := 13) ck_C_findOut_1 rfl) (gk (k := 32) (t := 14) ck_C_findOut_1 rfl) rfl
theorem fl_C_132 : FL "SinglesUp$Chair" 132 4 0 := ⟨"SinglesUp$Lines", zT4, 3, rfl, by decide, rfl, Or.inr ⟨"SinglesUp", nw_in 45 (by decide +kernel) rfl⟩⟩
theorem d_C_findOut_47 : decode y_C_findOut.2.1 47 = .ok (.getfield 132, 3) := op_getfield (gk (k := 32) (t := 15) ck_C_findOut_1 rfl) (gk (k := 32) (t := 16) ck_C_findOut_1 rfl) (gk (k := 32) (t := 17) ck_C_findOut_1 rfl) rfl
theorem d_C_findOut_50 : decode y_C_findOut.2.1 50 = .ok (.iload_n 2, 1) := op_iload_n2 (gk (k := 32) (t := 18) ck_C_findOut_1 rfl)
theorem d_C_findOut_51 : decode y_C_findOut.2.1 51 = .ok (.bipush 6, 2) := op_bipush (gk (k := 32) (t := 19) ck_C_findOut_1 rfl) (gk (k := 32) (t := 20) ck_C_findOut_1 rfl) rfl
theorem d_C_findOut_53 : decode y_C_findOut.2.1 53 = .ok (.imul, 1) := op_imul (gk (k := 32) (t := 21) ck_C_findOut_1 rfl)
theorem d_C_findOut_54 : decode y_C_findOut.2.1 54 = .ok (.aload_n 0, 1) := op_aload_n0 (gk (k := 32) (t := 22) ck_C_findOut_1 rfl)
theorem d_C_findOut_55 : decode y_C_findOut.2.1 55 = .ok (.getfield 21, 3) := op_getfield (gk (k := 32) (t := 23) ck_C_findOut_1 rfl) (gk (k := 32) (t := 24) ck_C_findOut_1 rfl) (gk (k := 32) (t := 25) ck_C_findOut_1 rfl) rfl
theorem d_C_findOut_58 : decode y_C_findOut.2.1 58 = .ok (.iload_n 3, 1) := op_iload_n3 (gk (k := 32) (t := 26) ck_C_findOut_1 rfl)
theorem d_C_findOut_59 : decode y_C_findOut.2.1 59 = .ok (.bipush 6, 2) := op_bipush (gk (k := 32) (t := 27) ck_C_findOut_1 rfl) (gk (k := 32) (t := 28) ck_C_findOut_1 rfl) rfl
theorem lka_C_135 : Cond.methodLink "SinglesUp$Chair" 135 arraycopyName ∈ TW := tw_c4 90 (by decide +kernel) rfl
theorem d_C_findOut_61 : decode y_C_findOut.2.1 61 = .ok (.invokestatic 135, 3) := op_invokestatic (gk (k := 32) (t := 29) ck_C_findOut_1 rfl) (gk (k := 32) (t := 30) ck_C_findOut_1 rfl) (gk (k := 32) (t := 31) ck_C_findOut_1 rfl) rfl
theorem ck_C_findOut_2 : (y_C_findOut.2.1.data.toList.drop 64).take 32 = [42, 180, 0, 21, 29, 5, 96, 42, 180, 0, 21, 29, 4, 96, 46, 79, 42, 89, 180, 0, 43, 4, 96, 181, 0, 43, 43, 180, 0, 141, 8, 92] := by decide +kernel
theorem d_C_findOut_64 : decode y_C_findOut.2.1 64 = .ok (.aload_n 0, 1) := op_aload_n0 (gk (k := 64) (t := 0) ck_C_findOut_2 rfl)
theorem d_C_findOut_65 : decode y_C_findOut.2.1 65 = .ok (.getfield 21, 3) := op_getfield (gk (k := 64) (t := 1) ck_C_findOut_2 rfl) (gk (k := 64) (t := 2) ck_C_findOut_2 rfl) (gk (k := 64) (t := 3) ck_C_findOut_2 rfl) rfl
theorem d_C_findOut_68 : decode y_C_findOut.2.1 68 = .ok (.iload_n 3, 1) := op_iload_n3 (gk (k := 64) (t := 4) ck_C_findOut_2 rfl)
theorem d_C_findOut_69 : decode y_C_findOut.2.1 69 = .ok (.iconst 2, 1) := op_iconst2 (gk (k := 64) (t := 5) ck_C_findOut_2 rfl)
theorem d_C_findOut_70 : decode y_C_findOut.2.1 70 = .ok (.iadd, 1) := op_iadd (gk (k := 64) (t := 6) ck_C_findOut_2 rfl)
theorem d_C_findOut_71 : decode y_C_findOut.2.1 71 = .ok (.aload_n 0, 1) := op_aload_n0 (gk (k := 64) (t := 7) ck_C_findOut_2 rfl)
theorem d_C_findOut_72 : decode y_C_findOut.2.1 72 = .ok (.getfield 21, 3) := op_getfield (gk (k := 64) (t := 8) ck_C_findOut_2 rfl) (gk (k := 64) (t := 9) ck_C_findOut_2 rfl) (gk (k := 64) (t := 10) ck_C_findOut_2 rfl) rfl
theorem d_C_findOut_75 : decode y_C_findOut.2.1 75 = .ok (.iload_n 3, 1) := op_iload_n3 (gk (k := 64) (t := 11) ck_C_findOut_2 rfl)
theorem d_C_findOut_76 : decode y_C_findOut.2.1 76 = .ok (.iconst 1, 1) := op_iconst1 (gk (k := 64) (t := 12) ck_C_findOut_2 rfl)
theorem d_C_findOut_77 : decode y_C_findOut.2.1 77 = .ok (.iadd, 1) := op_iadd (gk (k := 64) (t := 13) ck_C_findOut_2 rfl)
theorem d_C_findOut_78 : decode y_C_findOut.2.1 78 = .ok (.iaload, 1) := op_iaload (gk (k := 64) (t := 14) ck_C_findOut_2 rfl)
theorem d_C_findOut_79 : decode y_C_findOut.2.1 79 = .ok (.iastore, 1) := op_iastore (gk (k := 64) (t := 15) ck_C_findOut_2 rfl)
theorem d_C_findOut_80 : decode y_C_findOut.2.1 80 = .ok (.aload_n 0, 1) := op_aload_n0 (gk (k := 64) (t := 16) ck_C_findOut_2 rfl)
theorem d_C_findOut_81 : decode y_C_findOut.2.1 81 = .ok (.dup, 1) := op_dup (gk (k := 64) (t := 17) ck_C_findOut_2 rfl)
theorem d_C_findOut_82 : decode y_C_findOut.2.1 82 = .ok (.getfield 43, 3) := op_getfield (gk (k := 64) (t := 18) ck_C_findOut_2 rfl) (gk (k := 64) (t := 19) ck_C_findOut_2 rfl) (gk (k := 64) (t := 20) ck_C_findOut_2 rfl) rfl
theorem d_C_findOut_85 : decode y_C_findOut.2.1 85 = .ok (.iconst 1, 1) := op_iconst1 (gk (k := 64) (t := 21) ck_C_findOut_2 rfl)
theorem d_C_findOut_86 : decode y_C_findOut.2.1 86 = .ok (.iadd, 1) := op_iadd (gk (k := 64) (t := 22) ck_C_findOut_2 rfl)
theorem d_C_findOut_87 : decode y_C_findOut.2.1 87 = .ok (.putfield 43, 3) := op_putfield (gk (k := 64) (t := 23) ck_C_findOut_2 rfl) (gk (k := 64) (t := 24) ck_C_findOut_2 rfl) (gk (k := 64) (t := 25) ck_C_findOut_2 rfl) rfl
theorem d_C_findOut_90 : decode y_C_findOut.2.1 90 = .ok (.aload_n 1, 1) := op_aload_n1 (gk (k := 64) (t := 26) ck_C_findOut_2 rfl)
theorem d_C_findOut_91 : decode y_C_findOut.2.1 91 = .ok (.getfield 141, 3) := op_getfield (gk (k := 64) (t := 27) ck_C_findOut_2 rfl) (gk (k := 64) (t := 28) ck_C_findOut_2 rfl) (gk (k := 64) (t := 29) ck_C_findOut_2 rfl) rfl
theorem d_C_findOut_94 : decode y_C_findOut.2.1 94 = .ok (.iconst 5, 1) := op_iconst5 (gk (k := 64) (t := 30) ck_C_findOut_2 rfl)
theorem d_C_findOut_95 : decode y_C_findOut.2.1 95 = .ok (.dup2, 1) := op_dup2 (gk (k := 64) (t := 31) ck_C_findOut_2 rfl)
theorem ck_C_findOut_3 : (y_C_findOut.2.1.data.toList.drop 96).take 32 = [46, 4, 96, 79, 177] := by decide +kernel
theorem d_C_findOut_96 : decode y_C_findOut.2.1 96 = .ok (.iaload, 1) := op_iaload (gk (k := 96) (t := 0) ck_C_findOut_3 rfl)
theorem d_C_findOut_97 : decode y_C_findOut.2.1 97 = .ok (.iconst 1, 1) := op_iconst1 (gk (k := 96) (t := 1) ck_C_findOut_3 rfl)
theorem d_C_findOut_98 : decode y_C_findOut.2.1 98 = .ok (.iadd, 1) := op_iadd (gk (k := 96) (t := 2) ck_C_findOut_3 rfl)
theorem d_C_findOut_99 : decode y_C_findOut.2.1 99 = .ok (.iastore, 1) := op_iastore (gk (k := 96) (t := 3) ck_C_findOut_3 rfl)
theorem d_C_findOut_100 : decode y_C_findOut.2.1 100 = .ok (.return_, 1) := op_return_ (gk (k := 96) (t := 4) ck_C_findOut_3 rfl)
abbrev y_C_fits : MI := (⟨"SinglesUp$Chair", "fits", "(LSinglesUp$Hill;I)Z"⟩, prog_2_method_7_code, 4, some .boolean)
theorem ck_C_fits_0 : (y_C_fits.2.1.data.toList.drop 0).take 32 = [42, 28, 182, 0, 107, 153, 0, 26, 42, 180, 0, 46, 154, 0, 19, 43, 180, 0, 72, 28, 5, 182, 0, 92, 42, 180, 0, 30, 164, 0, 5, 3] := by decide +kernel
theorem d_C_fits_0 : decode y_C_fits.2.1 0 = .ok (.aload_n 0, 1) := op_aload_n0 (gk (k := 0) (t := 0) ck_C_fits_0 rfl)
theorem d_C_fits_1 : decode y_C_fits.2.1 1 = .ok (.iload_n 2, 1) := op_iload_n2 (gk (k := 0) (t := 1) ck_C_fits_0 rfl)
theorem d_C_fits_2 : decode y_C_fits.2.1 2 = .ok (.invokevirtual 107, 3) := op_invokevirtual (gk (k := 0) (t := 2) ck_C_fits_0 rfl) (gk (k := 0) (t := 3) ck_C_fits_0 rfl) (gk (k := 0) (t := 4) ck_C_fits_0 rfl) rfl
theorem d_C_fits_5 : decode y_C_fits.2.1 5 = .ok (.ifCond .eq 26, 3) := op_if_eq (gk (k := 0) (t := 5) ck_C_fits_0 rfl) (gk (k := 0) (t := 6) ck_C_fits_0 rfl) (gk (k := 0) (t := 7) ck_C_fits_0 rfl) (by decide +kernel)
theorem d_C_fits_31 : decode y_C_fits.2.1 31 = .ok (.iconst 0, 1) := op_iconst0 (gk (k := 0) (t := 31) ck_C_fits_0 rfl)
theorem ck_C_fits_1 : (y_C_fits.2.1.data.toList.drop 32).take 32 = [172, 43, 180, 0, 72, 28, 6, 182, 0, 92, 62, 29, 4, 160, 0, 10, 42, 180, 0, 50, 153, 0, 19, 29, 5, 160, 0, 10, 42, 180, 0, 40] := by decide +kernel
theorem d_C_fits_32 : decode y_C_fits.2.1 32 = .ok (.ireturn, 1) := op_ireturn (gk (k := 32) (t := 0) ck_C_fits_1 rfl)
theorem d_C_fits_8 : decode y_C_fits.2.1 8 = .ok (.aload_n 0, 1) := op_aload_n0 (gk (k := 0) (t := 8) ck_C_fits_0 rfl)
theorem d_C_fits_9 : decode y_C_fits.2.1 9 = .ok (.getfield 46, 3) := op_getfield (gk (k := 0) (t := 9) ck_C_fits_0 rfl) (gk (k := 0) (t := 10) ck_C_fits_0 rfl) (gk (k := 0) (t := 11) ck_C_fits_0 rfl) rfl
theorem d_C_fits_12 : decode y_C_fits.2.1 12 = .ok (.ifCond .ne 19, 3) := op_if_ne (gk (k := 0) (t := 12) ck_C_fits_0 rfl) (gk (k := 0) (t := 13) ck_C_fits_0 rfl) (gk (k := 0) (t := 14) ck_C_fits_0 rfl) (by decide +kernel)
theorem d_C_fits_15 : decode y_C_fits.2.1 15 = .ok (.aload_n 1, 1) := op_aload_n1 (gk (k := 0) (t := 15) ck_C_fits_0 rfl)
theorem d_C_fits_16 : decode y_C_fits.2.1 16 = .ok (.getfield 72, 3) := op_getfield (gk (k := 0) (t := 16) ck_C_fits_0 rfl) (gk (k := 0) (t := 17) ck_C_fits_0 rfl) (gk (k := 0) (t := 18) ck_C_fits_0 rfl) rfl
theorem d_C_fits_19 : decode y_C_fits.2.1 19 = .ok (.iload_n 2, 1) := op_iload_n2 (gk (k := 0) (t := 19) ck_C_fits_0 rfl)
theorem d_C_fits_20 : decode y_C_fits.2.1 20 = .ok (.iconst 2, 1) := op_iconst2 (gk (k := 0) (t := 20) ck_C_fits_0 rfl)
theorem d_C_fits_21 : decode y_C_fits.2.1 21 = .ok (.invokevirtual 92, 3) := op_invokevirtual (gk (k := 0) (t := 21) ck_C_fits_0 rfl) (gk (k := 0) (t := 22) ck_C_fits_0 rfl) (gk (k := 0) (t := 23) ck_C_fits_0 rfl) rfl
theorem d_C_fits_24 : decode y_C_fits.2.1 24 = .ok (.aload_n 0, 1) := op_aload_n0 (gk (k := 0) (t := 24) ck_C_fits_0 rfl)
theorem d_C_fits_25 : decode y_C_fits.2.1 25 = .ok (.getfield 30, 3) := op_getfield (gk (k := 0) (t := 25) ck_C_fits_0 rfl) (gk (k := 0) (t := 26) ck_C_fits_0 rfl) (gk (k := 0) (t := 27) ck_C_fits_0 rfl) rfl
theorem d_C_fits_28 : decode y_C_fits.2.1 28 = .ok (.if_icmp .le 5, 3) := op_icmp_le (gk (k := 0) (t := 28) ck_C_fits_0 rfl) (gk (k := 0) (t := 29) ck_C_fits_0 rfl) (gk (k := 0) (t := 30) ck_C_fits_0 rfl) (by decide +kernel)
theorem d_C_fits_33 : decode y_C_fits.2.1 33 = .ok (.aload_n 1, 1) := op_aload_n1 (gk (k := 32) (t := 1) ck_C_fits_1 rfl)
theorem d_C_fits_34 : decode y_C_fits.2.1 34 = .ok (.getfield 72, 3) := op_getfield (gk (k := 32) (t := 2) ck_C_fits_1 rfl) (gk (k := 32) (t := 3) ck_C_fits_1 rfl) (gk (k := 32) (t := 4) ck_C_fits_1 rfl) rfl
theorem d_C_fits_37 : decode y_C_fits.2.1 37 = .ok (.iload_n 2, 1) := op_iload_n2 (gk (k := 32) (t := 5) ck_C_fits_1 rfl)
theorem d_C_fits_38 : decode y_C_fits.2.1 38 = .ok (.iconst 3, 1) := op_iconst3 (gk (k := 32) (t := 6) ck_C_fits_1 rfl)
theorem d_C_fits_39 : decode y_C_fits.2.1 39 = .ok (.invokevirtual 92, 3) := op_invokevirtual (gk (k := 32) (t := 7) ck_C_fits_1 rfl) (gk (k := 32) (t := 8) ck_C_fits_1 rfl) (gk (k := 32) (t := 9) ck_C_fits_1 rfl) rfl
theorem d_C_fits_42 : decode y_C_fits.2.1 42 = .ok (.istore_n 3, 1) := op_istore_n3 (gk (k := 32) (t := 10) ck_C_fits_1 rfl)
theorem d_C_fits_43 : decode y_C_fits.2.1 43 = .ok (.iload_n 3, 1) := op_iload_n3 (gk (k := 32) (t := 11) ck_C_fits_1 rfl)
theorem d_C_fits_44 : decode y_C_fits.2.1 44 = .ok (.iconst 1, 1) := op_iconst1 (gk (k := 32) (t := 12) ck_C_fits_1 rfl)
theorem d_C_fits_55 : decode y_C_fits.2.1 55 = .ok (.iload_n 3, 1) := op_iload_n3 (gk (k := 32) (t := 23) ck_C_fits_1 rfl)
theorem d_C_fits_56 : decode y_C_fits.2.1 56 = .ok (.iconst 2, 1) := op_iconst2 (gk (k := 32) (t := 24) ck_C_fits_1 rfl)
theorem d_C_fits_57 : decode y_C_fits.2.1 57 = .ok (.if_icmp .ne 10, 3) := op_icmp_ne (gk (k := 32) (t := 25) ck_C_fits_1 rfl) (gk (k := 32) (t := 26) ck_C_fits_1 rfl) (gk (k := 32) (t := 27) ck_C_fits_1 rfl) (by decide +kernel)
theorem ck_C_fits_2 : (y_C_fits.2.1.data.toList.drop 64).take 32 = [154, 0, 7, 4, 167, 0, 4, 3, 172] := by decide +kernel
theorem d_C_fits_67 : decode y_C_fits.2.1 67 = .ok (.iconst 1, 1) := op_iconst1 (gk (k := 64) (t := 3) ck_C_fits_2 rfl)
theorem d_C_fits_68 : decode y_C_fits.2.1 68 = .ok (.goto 4, 3) := op_goto (gk (k := 64) (t := 4) ck_C_fits_2 rfl) (gk (k := 64) (t := 5) ck_C_fits_2 rfl) (gk (k := 64) (t := 6) ck_C_fits_2 rfl) (by decide +kernel)
theorem d_C_fits_72 : decode y_C_fits.2.1 72 = .ok (.ireturn, 1) := op_ireturn (gk (k := 64) (t := 8) ck_C_fits_2 rfl)
theorem d_C_fits_60 : decode y_C_fits.2.1 60 = .ok (.aload_n 0, 1) := op_aload_n0 (gk (k := 32) (t := 28) ck_C_fits_1 rfl)
theorem d_C_fits_61 : decode y_C_fits.2.1 61 = .ok (.getfield 40, 3) := op_getfield (gk (k := 32) (t := 29) ck_C_fits_1 rfl) (gk (k := 32) (t := 30) ck_C_fits_1 rfl) (gk (k := 32) (t := 31) ck_C_fits_1 rfl) rfl
theorem d_C_fits_64 : decode y_C_fits.2.1 64 = .ok (.ifCond .ne 7, 3) := op_if_ne (gk (k := 64) (t := 0) ck_C_fits_2 rfl) (gk (k := 64) (t := 1) ck_C_fits_2 rfl) (gk (k := 64) (t := 2) ck_C_fits_2 rfl) (by decide +kernel)
theorem d_C_fits_71 : decode y_C_fits.2.1 71 = .ok (.iconst 0, 1) := op_iconst0 (gk (k := 64) (t := 7) ck_C_fits_2 rfl)
theorem d_C_fits_45 : decode y_C_fits.2.1 45 = .ok (.if_icmp .ne 10, 3) := op_icmp_ne (gk (k := 32) (t := 13) ck_C_fits_1 rfl) (gk (k := 32) (t := 14) ck_C_fits_1 rfl) (gk (k := 32) (t := 15) ck_C_fits_1 rfl) (by decide +kernel)
theorem d_C_fits_48 : decode y_C_fits.2.1 48 = .ok (.aload_n 0, 1) := op_aload_n0 (gk (k := 32) (t := 16) ck_C_fits_1 rfl)
theorem d_C_fits_49 : decode y_C_fits.2.1 49 = .ok (.getfield 50, 3) := op_getfield (gk (k := 32) (t := 17) ck_C_fits_1 rfl) (gk (k := 32) (t := 18) ck_C_fits_1 rfl) (gk (k := 32) (t := 19) ck_C_fits_1 rfl) rfl
theorem d_C_fits_52 : decode y_C_fits.2.1 52 = .ok (.ifCond .eq 19, 3) := op_if_eq (gk (k := 32) (t := 20) ck_C_fits_1 rfl) (gk (k := 32) (t := 21) ck_C_fits_1 rfl) (gk (k := 32) (t := 22) ck_C_fits_1 rfl) (by decide +kernel)
abbrev y_C_mostPassed : MI := (⟨"SinglesUp$Chair", "mostPassed", "(LSinglesUp$Hill;)I"⟩, prog_2_method_8_code, 7, some .int)
theorem ck_C_mostPassed_0 : (y_C_mostPassed.2.1.data.toList.drop 0).take 32 = [43, 180, 0, 65, 7, 46, 61, 28, 4, 100, 62, 2, 54, 4, 3, 54, 5, 21, 5, 42, 180, 0, 82, 162, 0, 71, 21, 5, 17, 0, 144, 162] := by decide +kernel
theorem d_C_mostPassed_0 : decode y_C_mostPassed.2.1 0 = .ok (.aload_n 1, 1) := op_aload_n1 (gk (k := 0) (t := 0) ck_C_mostPassed_0 rfl)
theorem fl_C_65 : FL "SinglesUp$Chair" 65 2 0 := ⟨"SinglesUp$Hill", zT2, 14, rfl, by decide, rfl, Or.inr ⟨"SinglesUp", nw_in 88 (by decide +kernel) rfl⟩⟩
theorem d_C_mostPassed_1 : decode y_C_mostPassed.2.1 1 = .ok (.getfield 65, 3) := op_getfield (gk (k := 0) (t := 1) ck_C_mostPassed_0 rfl) (gk (k := 0) (t := 2) ck_C_mostPassed_0 rfl) (gk (k := 0) (t := 3) ck_C_mostPassed_0 rfl) rfl
theorem d_C_mostPassed_4 : decode y_C_mostPassed.2.1 4 = .ok (.iconst 4, 1) := op_iconst4 (gk (k := 0) (t := 4) ck_C_mostPassed_0 rfl)
theorem d_C_mostPassed_5 : decode y_C_mostPassed.2.1 5 = .ok (.iaload, 1) := op_iaload (gk (k := 0) (t := 5) ck_C_mostPassed_0 rfl)
theorem d_C_mostPassed_6 : decode y_C_mostPassed.2.1 6 = .ok (.istore_n 2, 1) := op_istore_n2 (gk (k := 0) (t := 6) ck_C_mostPassed_0 rfl)
theorem d_C_mostPassed_7 : decode y_C_mostPassed.2.1 7 = .ok (.iload_n 2, 1) := op_iload_n2 (gk (k := 0) (t := 7) ck_C_mostPassed_0 rfl)
theorem d_C_mostPassed_8 : decode y_C_mostPassed.2.1 8 = .ok (.iconst 1, 1) := op_iconst1 (gk (k := 0) (t := 8) ck_C_mostPassed_0 rfl)
theorem d_C_mostPassed_9 : decode y_C_mostPassed.2.1 9 = .ok (.isub, 1) := op_isub (gk (k := 0) (t := 9) ck_C_mostPassed_0 rfl)
theorem d_C_mostPassed_10 : decode y_C_mostPassed.2.1 10 = .ok (.istore_n 3, 1) := op_istore_n3 (gk (k := 0) (t := 10) ck_C_mostPassed_0 rfl)
theorem d_C_mostPassed_11 : decode y_C_mostPassed.2.1 11 = .ok (.iconst (-1), 1) := op_iconstm1 (gk (k := 0) (t := 11) ck_C_mostPassed_0 rfl)
theorem d_C_mostPassed_12 : decode y_C_mostPassed.2.1 12 = .ok (.istore 4, 2) := op_istore (gk (k := 0) (t := 12) ck_C_mostPassed_0 rfl) (gk (k := 0) (t := 13) ck_C_mostPassed_0 rfl) rfl
theorem d_C_mostPassed_14 : decode y_C_mostPassed.2.1 14 = .ok (.iconst 0, 1) := op_iconst0 (gk (k := 0) (t := 14) ck_C_mostPassed_0 rfl)
theorem d_C_mostPassed_15 : decode y_C_mostPassed.2.1 15 = .ok (.istore 5, 2) := op_istore (gk (k := 0) (t := 15) ck_C_mostPassed_0 rfl) (gk (k := 0) (t := 16) ck_C_mostPassed_0 rfl) rfl
theorem d_C_mostPassed_17 : decode y_C_mostPassed.2.1 17 = .ok (.iload 5, 2) := op_iload (gk (k := 0) (t := 17) ck_C_mostPassed_0 rfl) (gk (k := 0) (t := 18) ck_C_mostPassed_0 rfl) rfl
theorem d_C_mostPassed_19 : decode y_C_mostPassed.2.1 19 = .ok (.aload_n 0, 1) := op_aload_n0 (gk (k := 0) (t := 19) ck_C_mostPassed_0 rfl)
theorem fl_C_82 : FL "SinglesUp$Chair" 82 0 5 := ⟨"SinglesUp$Chair", zT0, 12, rfl, by decide, rfl, Or.inl (tw_c1 167 (by decide +kernel) rfl)⟩
theorem d_C_mostPassed_20 : decode y_C_mostPassed.2.1 20 = .ok (.getfield 82, 3) := op_getfield (gk (k := 0) (t := 20) ck_C_mostPassed_0 rfl) (gk (k := 0) (t := 21) ck_C_mostPassed_0 rfl) (gk (k := 0) (t := 22) ck_C_mostPassed_0 rfl) rfl
theorem d_C_mostPassed_23 : decode y_C_mostPassed.2.1 23 = .ok (.if_icmp .ge 71, 3) := op_icmp_ge (gk (k := 0) (t := 23) ck_C_mostPassed_0 rfl) (gk (k := 0) (t := 24) ck_C_mostPassed_0 rfl) (gk (k := 0) (t := 25) ck_C_mostPassed_0 rfl) (by decide +kernel)
theorem ck_C_mostPassed_2 : (y_C_mostPassed.2.1.data.toList.drop 64).take 32 = [180, 0, 24, 21, 5, 46, 182, 0, 111, 153, 0, 15, 21, 6, 62, 42, 180, 0, 24, 21, 5, 46, 54, 4, 132, 5, 1, 167, 255, 182, 21, 4] := by decide +kernel
theorem d_C_mostPassed_94 : decode y_C_mostPassed.2.1 94 = .ok (.iload 4, 2) := op_iload (gk (k := 64) (t := 30) ck_C_mostPassed_2 rfl) (gk (k := 64) (t := 31) ck_C_mostPassed_2 rfl) rfl
theorem ck_C_mostPassed_3 : (y_C_mostPassed.2.1.data.toList.drop 96).take 32 = [172] := by decide +kernel
theorem d_C_mostPassed_96 : decode y_C_mostPassed.2.1 96 = .ok (.ireturn, 1) := op_ireturn (gk (k := 96) (t := 0) ck_C_mostPassed_3 rfl)
theorem d_C_mostPassed_26 : decode y_C_mostPassed.2.1 26 = .ok (.iload 5, 2) := op_iload (gk (k := 0) (t := 26) ck_C_mostPassed_0 rfl) (gk (k := 0) (t := 27) ck_C_mostPassed_0 rfl) rfl
theorem cs_144 : (Int16.ofInt 144).toInt32 = iv 144 := by decide +kernel
theorem d_C_mostPassed_28 : decode y_C_mostPassed.2.1 28 = .ok (.sipush 144, 3) := op_sipush (gk (k := 0) (t := 28) ck_C_mostPassed_0 rfl) (gk (k := 0) (t := 29) ck_C_mostPassed_0 rfl) (gk (k := 0) (t := 30) ck_C_mostPassed_0 rfl) (by decide +kernel)
theorem in_144 : inr (144) := lit_in rfl
theorem ck_C_mostPassed_1 : (y_C_mostPassed.2.1.data.toList.drop 32).take 32 = [0, 63, 28, 158, 0, 59, 43, 180, 0, 72, 42, 180, 0, 24, 21, 5, 46, 8, 182, 0, 92, 54, 6, 21, 6, 29, 164, 0, 30, 42, 43, 42] := by decide +kernel
theorem d_C_mostPassed_31 : decode y_C_mostPassed.2.1 31 = .ok (.if_icmp .ge 63, 3) := op_icmp_ge (gk (k := 0) (t := 31) ck_C_mostPassed_0 rfl) (gk (k := 32) (t := 0) ck_C_mostPassed_1 rfl) (gk (k := 32) (t := 1) ck_C_mostPassed_1 rfl) (by decide +kernel)
theorem d_C_mostPassed_34 : decode y_C_mostPassed.2.1 34 = .ok (.iload_n 2, 1) := op_iload_n2 (gk (k := 32) (t := 2) ck_C_mostPassed_1 rfl)
theorem d_C_mostPassed_35 : decode y_C_mostPassed.2.1 35 = .ok (.ifCond .le 59, 3) := op_if_le (gk (k := 32) (t := 3) ck_C_mostPassed_1 rfl) (gk (k := 32) (t := 4) ck_C_mostPassed_1 rfl) (gk (k := 32) (t := 5) ck_C_mostPassed_1 rfl) (by decide +kernel)
theorem d_C_mostPassed_38 : decode y_C_mostPassed.2.1 38 = .ok (.aload_n 1, 1) := op_aload_n1 (gk (k := 32) (t := 6) ck_C_mostPassed_1 rfl)
theorem d_C_mostPassed_39 : decode y_C_mostPassed.2.1 39 = .ok (.getfield 72, 3) := op_getfield (gk (k := 32) (t := 7) ck_C_mostPassed_1 rfl) (gk (k := 32) (t := 8) ck_C_mostPassed_1 rfl) (gk (k := 32) (t := 9) ck_C_mostPassed_1 rfl) rfl
theorem d_C_mostPassed_42 : decode y_C_mostPassed.2.1 42 = .ok (.aload_n 0, 1) := op_aload_n0 (gk (k := 32) (t := 10) ck_C_mostPassed_1 rfl)
theorem fl_C_24 : FL "SinglesUp$Chair" 24 0 4 := ⟨"SinglesUp$Chair", zT0, 12, rfl, by decide, rfl, Or.inl (tw_c1 166 (by decide +kernel) rfl)⟩
theorem rc_0_4 : ∀ o, KC[o]? = some (3, 12) → RC o 4 = some (o + 5) ∧ KC[o + 5]? = some (0, 144) := by
  intro o h
  have hl : o < 166 := (List.getElem?_eq_some_iff.mp h).1
  exact (by decide +kernel : ∀ o, o < 166 → KC[o]? = some (3, 12) → RC o 4 = some (o + 5) ∧ KC[o + 5]? = some (0, 144)) o hl h
theorem d_C_mostPassed_43 : decode y_C_mostPassed.2.1 43 = .ok (.getfield 24, 3) := op_getfield (gk (k := 32) (t := 11) ck_C_mostPassed_1 rfl) (gk (k := 32) (t := 12) ck_C_mostPassed_1 rfl) (gk (k := 32) (t := 13) ck_C_mostPassed_1 rfl) rfl
theorem d_C_mostPassed_46 : decode y_C_mostPassed.2.1 46 = .ok (.iload 5, 2) := op_iload (gk (k := 32) (t := 14) ck_C_mostPassed_1 rfl) (gk (k := 32) (t := 15) ck_C_mostPassed_1 rfl) rfl
theorem d_C_mostPassed_48 : decode y_C_mostPassed.2.1 48 = .ok (.iaload, 1) := op_iaload (gk (k := 32) (t := 16) ck_C_mostPassed_1 rfl)
theorem d_C_mostPassed_49 : decode y_C_mostPassed.2.1 49 = .ok (.iconst 5, 1) := op_iconst5 (gk (k := 32) (t := 17) ck_C_mostPassed_1 rfl)
theorem d_C_mostPassed_50 : decode y_C_mostPassed.2.1 50 = .ok (.invokevirtual 92, 3) := op_invokevirtual (gk (k := 32) (t := 18) ck_C_mostPassed_1 rfl) (gk (k := 32) (t := 19) ck_C_mostPassed_1 rfl) (gk (k := 32) (t := 20) ck_C_mostPassed_1 rfl) rfl
theorem d_C_mostPassed_53 : decode y_C_mostPassed.2.1 53 = .ok (.istore 6, 2) := op_istore (gk (k := 32) (t := 21) ck_C_mostPassed_1 rfl) (gk (k := 32) (t := 22) ck_C_mostPassed_1 rfl) rfl
theorem d_C_mostPassed_55 : decode y_C_mostPassed.2.1 55 = .ok (.iload 6, 2) := op_iload (gk (k := 32) (t := 23) ck_C_mostPassed_1 rfl) (gk (k := 32) (t := 24) ck_C_mostPassed_1 rfl) rfl
theorem d_C_mostPassed_57 : decode y_C_mostPassed.2.1 57 = .ok (.iload_n 3, 1) := op_iload_n3 (gk (k := 32) (t := 25) ck_C_mostPassed_1 rfl)
theorem d_C_mostPassed_88 : decode y_C_mostPassed.2.1 88 = .ok (.iinc 5 1, 3) := op_iinc (gk (k := 64) (t := 24) ck_C_mostPassed_2 rfl) (gk (k := 64) (t := 25) ck_C_mostPassed_2 rfl) (gk (k := 64) (t := 26) ck_C_mostPassed_2 rfl) rfl rfl
theorem d_C_mostPassed_91 : decode y_C_mostPassed.2.1 91 = .ok (.goto (-74), 3) := op_goto (gk (k := 64) (t := 27) ck_C_mostPassed_2 rfl) (gk (k := 64) (t := 28) ck_C_mostPassed_2 rfl) (gk (k := 64) (t := 29) ck_C_mostPassed_2 rfl) (by decide +kernel)
theorem d_C_mostPassed_58 : decode y_C_mostPassed.2.1 58 = .ok (.if_icmp .le 30, 3) := op_icmp_le (gk (k := 32) (t := 26) ck_C_mostPassed_1 rfl) (gk (k := 32) (t := 27) ck_C_mostPassed_1 rfl) (gk (k := 32) (t := 28) ck_C_mostPassed_1 rfl) (by decide +kernel)
theorem d_C_mostPassed_61 : decode y_C_mostPassed.2.1 61 = .ok (.aload_n 0, 1) := op_aload_n0 (gk (k := 32) (t := 29) ck_C_mostPassed_1 rfl)
theorem d_C_mostPassed_62 : decode y_C_mostPassed.2.1 62 = .ok (.aload_n 1, 1) := op_aload_n1 (gk (k := 32) (t := 30) ck_C_mostPassed_1 rfl)
theorem d_C_mostPassed_63 : decode y_C_mostPassed.2.1 63 = .ok (.aload_n 0, 1) := op_aload_n0 (gk (k := 32) (t := 31) ck_C_mostPassed_1 rfl)
theorem d_C_mostPassed_64 : decode y_C_mostPassed.2.1 64 = .ok (.getfield 24, 3) := op_getfield (gk (k := 64) (t := 0) ck_C_mostPassed_2 rfl) (gk (k := 64) (t := 1) ck_C_mostPassed_2 rfl) (gk (k := 64) (t := 2) ck_C_mostPassed_2 rfl) rfl
theorem d_C_mostPassed_67 : decode y_C_mostPassed.2.1 67 = .ok (.iload 5, 2) := op_iload (gk (k := 64) (t := 3) ck_C_mostPassed_2 rfl) (gk (k := 64) (t := 4) ck_C_mostPassed_2 rfl) rfl
theorem d_C_mostPassed_69 : decode y_C_mostPassed.2.1 69 = .ok (.iaload, 1) := op_iaload (gk (k := 64) (t := 5) ck_C_mostPassed_2 rfl)
theorem lk_C_111 : LkV "SinglesUp$Chair" 111 y_C_fits := ⟨tw_c4 77 (by decide +kernel) rfl, tw_in 24 (by decide +kernel) rfl, Or.inl (tw_c4 75 (by decide +kernel) rfl)⟩
set_option maxRecDepth 100000 in
theorem mo_C_fits : MOk y_C_fits 2 := ⟨by decide +kernel, tw_c4 78 rfl rfl, tw_c1 7 (by decide +kernel) rfl, by decide +kernel, by decide +kernel, by decide +kernel⟩
theorem d_C_mostPassed_70 : decode y_C_mostPassed.2.1 70 = .ok (.invokevirtual 111, 3) := op_invokevirtual (gk (k := 64) (t := 6) ck_C_mostPassed_2 rfl) (gk (k := 64) (t := 7) ck_C_mostPassed_2 rfl) (gk (k := 64) (t := 8) ck_C_mostPassed_2 rfl) rfl
theorem d_C_mostPassed_73 : decode y_C_mostPassed.2.1 73 = .ok (.ifCond .eq 15, 3) := op_if_eq (gk (k := 64) (t := 9) ck_C_mostPassed_2 rfl) (gk (k := 64) (t := 10) ck_C_mostPassed_2 rfl) (gk (k := 64) (t := 11) ck_C_mostPassed_2 rfl) (by decide +kernel)
theorem d_C_mostPassed_76 : decode y_C_mostPassed.2.1 76 = .ok (.iload 6, 2) := op_iload (gk (k := 64) (t := 12) ck_C_mostPassed_2 rfl) (gk (k := 64) (t := 13) ck_C_mostPassed_2 rfl) rfl
theorem d_C_mostPassed_78 : decode y_C_mostPassed.2.1 78 = .ok (.istore_n 3, 1) := op_istore_n3 (gk (k := 64) (t := 14) ck_C_mostPassed_2 rfl)
theorem d_C_mostPassed_79 : decode y_C_mostPassed.2.1 79 = .ok (.aload_n 0, 1) := op_aload_n0 (gk (k := 64) (t := 15) ck_C_mostPassed_2 rfl)
theorem d_C_mostPassed_80 : decode y_C_mostPassed.2.1 80 = .ok (.getfield 24, 3) := op_getfield (gk (k := 64) (t := 16) ck_C_mostPassed_2 rfl) (gk (k := 64) (t := 17) ck_C_mostPassed_2 rfl) (gk (k := 64) (t := 18) ck_C_mostPassed_2 rfl) rfl
theorem d_C_mostPassed_83 : decode y_C_mostPassed.2.1 83 = .ok (.iload 5, 2) := op_iload (gk (k := 64) (t := 19) ck_C_mostPassed_2 rfl) (gk (k := 64) (t := 20) ck_C_mostPassed_2 rfl) rfl
theorem d_C_mostPassed_85 : decode y_C_mostPassed.2.1 85 = .ok (.iaload, 1) := op_iaload (gk (k := 64) (t := 21) ck_C_mostPassed_2 rfl)
theorem d_C_mostPassed_86 : decode y_C_mostPassed.2.1 86 = .ok (.istore 4, 2) := op_istore (gk (k := 64) (t := 22) ck_C_mostPassed_2 rfl) (gk (k := 64) (t := 23) ck_C_mostPassed_2 rfl) rfl
abbrev y_L_isPlainAndTrue : MI := (⟨"SinglesUp$Lines", "isPlainAndTrue", "(I)Z"⟩, prog_6_method_17_code, 2, some .boolean)
theorem ck_L_isPlainAndTrue_0 : (y_L_isPlainAndTrue.2.1.data.toList.drop 0).take 32 = [42, 27, 6, 182, 0, 53, 154, 0, 22, 42, 27, 5, 182, 0, 53, 42, 27, 4, 182, 0, 53, 160, 0, 7, 4, 167, 0, 4, 3, 172] := by decide +kernel
theorem d_L_isPlainAndTrue_0 : decode y_L_isPlainAndTrue.2.1 0 = .ok (.aload_n 0, 1) := op_aload_n0 (gk (k := 0) (t := 0) ck_L_isPlainAndTrue_0 rfl)
theorem d_L_isPlainAndTrue_1 : decode y_L_isPlainAndTrue.2.1 1 = .ok (.iload_n 1, 1) := op_iload_n1 (gk (k := 0) (t := 1) ck_L_isPlainAndTrue_0 rfl)
theorem d_L_isPlainAndTrue_2 : decode y_L_isPlainAndTrue.2.1 2 = .ok (.iconst 3, 1) := op_iconst3 (gk (k := 0) (t := 2) ck_L_isPlainAndTrue_0 rfl)
theorem d_L_isPlainAndTrue_3 : decode y_L_isPlainAndTrue.2.1 3 = .ok (.invokevirtual 53, 3) := op_invokevirtual (gk (k := 0) (t := 3) ck_L_isPlainAndTrue_0 rfl) (gk (k := 0) (t := 4) ck_L_isPlainAndTrue_0 rfl) (gk (k := 0) (t := 5) ck_L_isPlainAndTrue_0 rfl) rfl
theorem d_L_isPlainAndTrue_6 : decode y_L_isPlainAndTrue.2.1 6 = .ok (.ifCond .ne 22, 3) := op_if_ne (gk (k := 0) (t := 6) ck_L_isPlainAndTrue_0 rfl) (gk (k := 0) (t := 7) ck_L_isPlainAndTrue_0 rfl) (gk (k := 0) (t := 8) ck_L_isPlainAndTrue_0 rfl) (by decide +kernel)
theorem d_L_isPlainAndTrue_28 : decode y_L_isPlainAndTrue.2.1 28 = .ok (.iconst 0, 1) := op_iconst0 (gk (k := 0) (t := 28) ck_L_isPlainAndTrue_0 rfl)
theorem d_L_isPlainAndTrue_29 : decode y_L_isPlainAndTrue.2.1 29 = .ok (.ireturn, 1) := op_ireturn (gk (k := 0) (t := 29) ck_L_isPlainAndTrue_0 rfl)
theorem d_L_isPlainAndTrue_9 : decode y_L_isPlainAndTrue.2.1 9 = .ok (.aload_n 0, 1) := op_aload_n0 (gk (k := 0) (t := 9) ck_L_isPlainAndTrue_0 rfl)
theorem d_L_isPlainAndTrue_10 : decode y_L_isPlainAndTrue.2.1 10 = .ok (.iload_n 1, 1) := op_iload_n1 (gk (k := 0) (t := 10) ck_L_isPlainAndTrue_0 rfl)
theorem d_L_isPlainAndTrue_11 : decode y_L_isPlainAndTrue.2.1 11 = .ok (.iconst 2, 1) := op_iconst2 (gk (k := 0) (t := 11) ck_L_isPlainAndTrue_0 rfl)
theorem d_L_isPlainAndTrue_12 : decode y_L_isPlainAndTrue.2.1 12 = .ok (.invokevirtual 53, 3) := op_invokevirtual (gk (k := 0) (t := 12) ck_L_isPlainAndTrue_0 rfl) (gk (k := 0) (t := 13) ck_L_isPlainAndTrue_0 rfl) (gk (k := 0) (t := 14) ck_L_isPlainAndTrue_0 rfl) rfl
theorem d_L_isPlainAndTrue_15 : decode y_L_isPlainAndTrue.2.1 15 = .ok (.aload_n 0, 1) := op_aload_n0 (gk (k := 0) (t := 15) ck_L_isPlainAndTrue_0 rfl)
theorem d_L_isPlainAndTrue_16 : decode y_L_isPlainAndTrue.2.1 16 = .ok (.iload_n 1, 1) := op_iload_n1 (gk (k := 0) (t := 16) ck_L_isPlainAndTrue_0 rfl)
theorem d_L_isPlainAndTrue_17 : decode y_L_isPlainAndTrue.2.1 17 = .ok (.iconst 1, 1) := op_iconst1 (gk (k := 0) (t := 17) ck_L_isPlainAndTrue_0 rfl)
theorem d_L_isPlainAndTrue_18 : decode y_L_isPlainAndTrue.2.1 18 = .ok (.invokevirtual 53, 3) := op_invokevirtual (gk (k := 0) (t := 18) ck_L_isPlainAndTrue_0 rfl) (gk (k := 0) (t := 19) ck_L_isPlainAndTrue_0 rfl) (gk (k := 0) (t := 20) ck_L_isPlainAndTrue_0 rfl) rfl
theorem d_L_isPlainAndTrue_21 : decode y_L_isPlainAndTrue.2.1 21 = .ok (.if_icmp .ne 7, 3) := op_icmp_ne (gk (k := 0) (t := 21) ck_L_isPlainAndTrue_0 rfl) (gk (k := 0) (t := 22) ck_L_isPlainAndTrue_0 rfl) (gk (k := 0) (t := 23) ck_L_isPlainAndTrue_0 rfl) (by decide +kernel)
theorem d_L_isPlainAndTrue_24 : decode y_L_isPlainAndTrue.2.1 24 = .ok (.iconst 1, 1) := op_iconst1 (gk (k := 0) (t := 24) ck_L_isPlainAndTrue_0 rfl)
theorem d_L_isPlainAndTrue_25 : decode y_L_isPlainAndTrue.2.1 25 = .ok (.goto 4, 3) := op_goto (gk (k := 0) (t := 25) ck_L_isPlainAndTrue_0 rfl) (gk (k := 0) (t := 26) ck_L_isPlainAndTrue_0 rfl) (gk (k := 0) (t := 27) ck_L_isPlainAndTrue_0 rfl) (by decide +kernel)
def fb_L_people_11 (fu : Nat) (o0 : Nat) (p1 : Int) (p3 : Int) (R_ : Int → Int → IMem → Res) (w2 : Int) (w4 : Int) (I0 : IMem) : Res :=
  if w4 < p3 then (
      zb (f_L_get fu o0 (wr32 ((wr32 (p1 * 40)) + w4)) 1 I0) fun y4 I5 =>
      zl (wr32 (w2 + y4)) fun x7 =>
      zl (wr32 (w4 + 1)) fun x8 =>
      R_ x7 x8 I5)
    else (
      zr w2 I0)
def f_L_people_11 (fu : Nat) (o0 : Nat) (p1 : Int) (p3 : Int) : Nat → Int → Int → IMem → Res
 | 0 => fun _ _ _ => none
 | n + 1 => fb_L_people_11 fu o0 p1 p3 (f_L_people_11 fu o0 p1 p3 n)
def f_L_people (fu : Nat) (o0 : Nat) (a1 : Int) (I0 : IMem) : Res :=
  zb (f_L_countOf fu o0 a1 I0) fun y1 I2 =>
    f_L_people_11 fu  o0 a1 y1 fu 0 0 I2
def f_S_line (fu : Nat) (o0 : Nat) (a1 : Int) (a2 : Int) (I0 : IMem) : Res :=
  zb (f_S_isLine fu a1 I0) fun y1 I2 =>
    if y1 = 0 then (
      zr ((-1)) I2)
    else (
      if a2 < 0 then (
        zr ((-1)) I2)
      else (
        if 1 < a2 then (
          zr ((-1)) I2)
        else (
          if a2 = 0 then (
            zg (0 ≤ a1 ∧ a1 < 6) (
            zr (I2 (o0 + 9) a1.toNat) I2))
          else (
            zb (f_L_people fu (o0 + 7) a1 I2) fun y4 I5 =>
            zr y4 I5))))
def f_C_sit (fu : Nat) (o0 : Nat) (a1 : Int) (a2 : Int) (a3 : Int) (a4 : Int) (I0 : IMem) : Res :=
  if a1 < 0 then (
      zr 0 I0)
    else (
      if a1 < 240 then (
        if I0 o0 8 < 0 then (
          zr 0 I0)
        else (
          if I0 o0 8 < 8 then (
            zg (0 ≤ a1 ∧ a1 < 240) (zw I0 (o0 + 1) a1.toNat a4 fun I1 =>
            zl (I1 o0 8) fun x3 =>
            zg (0 ≤ x3 ∧ x3 < 8) (zw I1 (o0 + 2) x3.toNat a1 fun I2 =>
            zl (I2 o0 8) fun x5 =>
            zg (0 ≤ x5 ∧ x5 < 8) (zw I2 (o0 + 3) x5.toNat a2 fun I4 =>
            zw I4 o0 8 (wr32 ((I4 o0 8) + 1)) fun I6 =>
            zw I6 o0 7 (wr32 ((I6 o0 7) - a2)) fun I7 =>
            zj (fun (x10 : Int) (I9 : IMem) =>
                zg (x10 = 0 ∨ x10 = 1) (
                zw I9 o0 10 x10 fun I11 =>
                zj (fun (x15 : Int) (I14 : IMem) =>
                    zg (x15 = 0 ∨ x15 = 1) (
                    zw I14 o0 11 x15 fun I16 =>
                    zr 0 I16)) fun k13 =>
                  if I11 o0 11 = 0 then (
                    if a3 = 1 then (
                      k13 0 I11)
                    else (
                      k13 1 I11))
                  else (
                    k13 1 I11))) fun k8 =>
              if I7 o0 10 = 0 then (
                if a3 = 2 then (
                  k8 1 I7)
                else (
                  k8 0 I7))
              else (
                k8 1 I7)))))
          else (
            zr 0 I0)))
      else (
        zr 0 I0))
def f_C_stands (fu : Nat) (o0 : Nat) (a1 : Int) (I0 : IMem) : Res :=
  if a1 < 0 then (
      zr 0 I0)
    else (
      if a1 < 240 then (
        zg (0 ≤ a1 ∧ a1 < 240) (
        if I0 (o0 + 1) a1.toNat = 0 then (
          zr 1 I0)
        else (
          zr 0 I0)))
      else (
        zr 0 I0))
def f_L_isSeen (fu : Nat) (o0 : Nat) (a1 : Int) (a2 : Int) (I0 : IMem) : Res :=
  zb (f_L_has fu o0 a1 a2 I0) fun y1 I2 =>
    if y1 = 0 then (
      zr 0 I2)
    else (
      zg (0 ≤ a1 ∧ a1 < 6) (
      if a2 < I2 (o0 + 3) a1.toNat then (
        zr 1 I2)
      else (
        zr 0 I2)))
def f_C_judge (fu : Nat) (o0 : Nat) (o1 : Nat) (a2 : Int) (a3 : Int) (I0 : IMem) : Res :=
  zl (wr32 ((wr32 (a2 * 40)) + a3)) fun x1 =>
    zb (f_L_has fu (o1 + 6) a2 a3 I0) fun y2 I3 =>
    if y2 = 0 then (
      zr 1 I3)
    else (
      zb (f_C_stands fu o0 x1 I3) fun y5 I6 =>
      if y5 = 0 then (
        zr 1 I6)
      else (
        zb (f_L_get fu (o1 + 6) x1 1 I6) fun y8 I9 =>
        zb (f_L_get fu (o1 + 6) x1 3 I9) fun y11 I12 =>
        zb (f_L_isSeen fu (o1 + 6) a2 a3 I12) fun y14 I15 =>
        if y14 = 0 then (
          zr 2 I15)
        else (
          if I15 o0 7 < y8 then (
            zr 3 I15)
          else (
            zj (fun  (I18 : IMem) =>
                if I18 o0 10 = 0 then (
                  zj (fun  (I20 : IMem) =>
                      zb (f_C_sit fu o0 x1 y8 y11 1 I20) fun _ I22 =>
                      zr 0 I22) fun k19 =>
                    if y11 = 2 then (
                      if 0 < I18 o0 8 then (
                        zr 5 I18)
                      else (
                        k19 I18))
                    else (
                      k19 I18))
                else (
                  zr 5 I18)) fun k17 =>
              if y11 = 1 then (
                if I15 o0 11 = 0 then (
                  zr 4 I15)
                else (
                  k17 I15))
              else (
                k17 I15)))))
def f_S_pick (fu : Nat) (o0 : Nat) (a1 : Int) (a2 : Int) (I0 : IMem) : Res :=
  zb (f_C_judge fu (o0 + 137) (o0 + 1) a1 a2 I0) fun y1 I2 =>
    zr y1 I2
def f_H_draw (fu : Nat) (o0 : Nat) (a1 : Int) (I0 : IMem) : Res :=
  zw I0 o0 6 (wr32 ((wr32 ((I0 o0 6) * 1664525)) + 1013904223)) fun I1 =>
    if 0 < a1 then (
      zg (a1 ≠ 0) (
      zr (wrem (wushr (I1 o0 6) 8) a1) I1))
    else (
      zr 0 I1)
def f_H_pastAt (fu : Nat) (a0 : Int) (I0 : IMem) : Res :=
  zb (f_JM_floorMod fu a0 60 I0) fun y1 I2 =>
    zr (wr32 (y1 * 3)) I2
def f_H_close (fu : Nat) (o0 : Nat) (a1 : Int) (a2 : Int) (I0 : IMem) : Res :=
  zw I0 (o0 + 10) 1 (wr32 ((I0 (o0 + 10) 1) + a1)) fun I1 =>
    zw I1 (o0 + 10) 3 (wr32 ((I1 (o0 + 10) 3) + (I1 (o0 + 1) 1))) fun I2 =>
    zj (fun  (I4 : IMem) =>
        zw I4 (o0 + 11) 0 a2 fun I5 =>
        zw I5 (o0 + 11) 1 a1 fun I6 =>
        zb (f_H_pastAt fu (I6 (o0 + 10) 0) I6) fun y7 I8 =>
        zg (0 ≤ y7 ∧ y7 < 180) (zw I8 (o0 + 12) y7.toNat a1 fun I10 =>
        zl (wr32 (y7 + 1)) fun x12 =>
        zg (0 ≤ x12 ∧ x12 < 180) (zw I10 (o0 + 12) x12.toNat a2 fun I11 =>
        zl (wr32 (y7 + 2)) fun x14 =>
        zg (0 ≤ x14 ∧ x14 < 180) (zw I11 (o0 + 12) x14.toNat (I11 (o0 + 10) 3) fun I13 =>
        zw I13 (o0 + 10) 0 (wr32 ((I13 (o0 + 10) 0) + 1)) fun I15 =>
        zr 0 I15)))) fun k3 =>
      if 0 < I2 (o0 + 1) 3 then (
        zb (f_H_draw fu o0 1000 I2) fun y16 I17 =>
        if y16 < I17 (o0 + 1) 3 then (
          zw I17 (o0 + 10) 3 (wr32 ((I17 (o0 + 10) 3) + (I17 (o0 + 1) 2))) fun I19 =>
          zw I19 (o0 + 10) 4 (wr32 ((I19 (o0 + 10) 4) + 1)) fun I20 =>
          k3 I20)
        else (
          k3 I17))
      else (
        k3 I2)
def f_H_note (fu : Nat) (o0 : Nat) (a1 : Int) (a2 : Int) (a3 : Int) (I0 : IMem) : Res :=
  if a1 < 0 then (
      zr 0 I0)
    else (
      if a1 < 8 then (
        if a3 < 1 then (
          zr 0 I0)
        else (
          if 8 < a3 then (
            zr 0 I0)
          else (
            zb (f_L_get fu (o0 + 6) a2 4 I0) fun y1 I2 =>
            zl (wr32 (10 + a3)) fun x4 =>
            zg (0 ≤ x4 ∧ x4 < 40) (
            zg (0 ≤ x4 ∧ x4 < 40) (zw I2 (o0 + 10) x4.toNat (wr32 ((I2 (o0 + 10) x4.toNat) + 1)) fun I5 =>
            zl (wr32 (20 + a3)) fun x6 =>
            zg (0 ≤ x6 ∧ x6 < 40) (
            zg (0 ≤ x6 ∧ x6 < 40) (zw I5 (o0 + 10) x6.toNat (wr32 ((I5 (o0 + 10) x6.toNat) + y1)) fun I7 =>
            zl (wr32 (30 + a3)) fun x8 =>
            zg (0 ≤ x8 ∧ x8 < 40) (
            zb (f_JM_max fu (I7 (o0 + 10) x8.toNat) y1 I7) fun y9 I10 =>
            zl (wr32 (30 + a3)) fun x13 =>
            zg (0 ≤ x13 ∧ x13 < 40) (zw I10 (o0 + 10) x13.toNat y9 fun I12 =>
            zw I12 (o0 + 10) 2 (wr32 ((I12 (o0 + 10) 2) + a3)) fun I14 =>
            zb (f_L_get fu (o0 + 6) a2 0 I14) fun y15 I16 =>
            zl (wr32 (10 + a1)) fun x19 =>
            zg (0 ≤ x19 ∧ x19 < 30) (zw I16 (o0 + 11) x19.toNat y15 fun I18 =>
            zl (wr32 (20 + a1)) fun x21 =>
            zg (0 ≤ x21 ∧ x21 < 30) (zw I18 (o0 + 11) x21.toNat a3 fun I20 =>
            zr 0 I20)))))))))))
      else (
        zr 0 I0))
def f_L_put (fu : Nat) (o0 : Nat) (a1 : Int) (a2 : Int) (a3 : Int) (I0 : IMem) : Res :=
  zl (wr32 ((wr32 (a1 * 6)) + a2)) fun x1 =>
    if x1 < 0 then (
      zr 0 I0)
    else (
      if x1 < 1440 then (
        zg (0 ≤ x1 ∧ x1 < 1440) (zw I0 (o0 + 1) x1.toNat a3 fun I2 =>
        zr 0 I2))
      else (
        zr 0 I0))
def fb_L_rearmostSitting_9 (fu : Nat) (o1 n1 : Nat) (p2 : Int) (R_ : Int → IMem → Res) (w3 : Int) (I0 : IMem) : Res :=
  if w3 < 0 then (
      zr ((-1)) I0)
    else (
      zl (wr32 ((wr32 (p2 * 40)) + w3)) fun x2 =>
      zj (fun  (I4 : IMem) =>
          zl (wr32 (w3 + (-1))) fun x5 =>
          R_ x5 I4) fun k3 =>
        if x2 < (n1 : Int) then (
          zg (0 ≤ x2 ∧ x2 < n1) (
          if I0 o1 x2.toNat = 1 then (
            zr w3 I0)
          else (
            zg (0 ≤ x2 ∧ x2 < n1) (
            if I0 o1 x2.toNat = 3 then (
              zr w3 I0)
            else (
              k3 I0)))))
        else (
          k3 I0))
def f_L_rearmostSitting_9 (fu : Nat) (o1 n1 : Nat) (p2 : Int) : Nat → Int → IMem → Res
 | 0 => fun _ _ => none
 | n + 1 => fb_L_rearmostSitting_9 fu o1 n1 p2 (f_L_rearmostSitting_9 fu o1 n1 p2 n)
def f_L_rearmostSitting (fu : Nat) (o0 : Nat) (o1 n1 : Nat) (a2 : Int) (I0 : IMem) : Res :=
  zg (0 ≤ a2 ∧ a2 < 6) (
    zl (wr32 ((I0 (o0 + 2) a2.toNat) - 1)) fun x1 =>
    f_L_rearmostSitting_9 fu  o1 n1 a2 fu x1 I0)
def fb_L_depart_21 (fu : Nat) (k_159 : Int → IMem → Res) (o0 : Nat) (o1 n1 : Nat) (p2 : Int) (p3 : Int) (R_ : Int → Int → IMem → Res) (w4 : Int) (w5 : Int) (I0 : IMem) : Res :=
  zg (0 ≤ p2 ∧ p2 < 6) (
    if w5 < I0 (o0 + 2) p2.toNat then (
      if w5 < 40 then (
        zl (wr32 ((wr32 (p2 * 40)) + w5)) fun x4 =>
        zj (fun (x7 : Int) (I6 : IMem) =>
            zj (fun (x10 : Int) (I9 : IMem) =>
                zl (wr32 (w5 + 1)) fun x11 =>
                R_ x10 x11 I9) fun k8 =>
              zj (fun  (I13 : IMem) =>
                  zl (wr32 ((wr32 (p2 * 40)) + w4)) fun x14 =>
                  zg ((0 : Int) ≤ wr32 (x4 * 6) ∧ (0 : Int) ≤ wr32 (x14 * 6) ∧ (0 : Int) ≤ 6 ∧ (wr32 (x4 * 6) : Int) + 6 ≤ 1440 ∧ (wr32 (x14 * 6) : Int) + 6 ≤ 1440) (zc I13 (o0 + 1) (wr32 (x4 * 6)) (o0 + 1) (wr32 (x14 * 6)) 6 fun I15 =>
                  zb (f_L_get fu o0 x14 4 I15) fun y16 I17 =>
                  zb (f_L_put fu o0 x14 4 (wr32 (y16 + 1)) I17) fun _ I20 =>
                  zb (f_L_get fu o0 x14 5 I20) fun y22 I23 =>
                  zj (fun (x27 : Int) (I26 : IMem) =>
                      zb (f_L_put fu o0 x14 5 (wr32 (y22 + x27)) I26) fun _ I29 =>
                      zl (wr32 (w4 + 1)) fun x31 =>
                      k8 x31 I29) fun k25 =>
                    if w5 < p3 then (
                      k25 1 I23)
                    else (
                      k25 0 I23))) fun k12 =>
                if x7 = 0 then (
                  k12 I6)
                else (
                  if x7 = 3 then (
                    k12 I6)
                  else (
                    k8 w4 I6))) fun k5 =>
          if x4 < (n1 : Int) then (
            zg (0 ≤ x4 ∧ x4 < n1) (
            k5 (I0 o1 x4.toNat) I0))
          else (
            k5 0 I0))
      else (
        k_159 w4 I0))
    else (
      k_159 w4 I0))
def f_L_depart_21 (fu : Nat) (k_159 : Int → IMem → Res) (o0 : Nat) (o1 n1 : Nat) (p2 : Int) (p3 : Int) : Nat → Int → Int → IMem → Res
 | 0 => fun _ _ _ => none
 | n + 1 => fb_L_depart_21 fu k_159 o0 o1 n1 p2 p3 (f_L_depart_21 fu k_159 o0 o1 n1 p2 p3 n)
def fb_L_depart_2 (fu : Nat) (o0 : Nat) (o1 n1 : Nat) (R_ : Int → IMem → Res) (w2 : Int) (I0 : IMem) : Res :=
  if w2 < 6 then (
      zb (f_L_rearmostSitting fu o0 o1 n1 w2 I0) fun y1 I2 =>
      f_L_depart_21 fu (fun (x33 : Int) (I32 : IMem) =>
        zg (0 ≤ w2 ∧ w2 < 6) (zw I32 (o0 + 2) w2.toNat x33 fun I34 =>
        zl (wr32 (w2 + 1)) fun x35 =>
        R_ x35 I34)) o0 o1 n1 w2 y1 fu 0 0 I2)
    else (
      zr 0 I0)
def f_L_depart_2 (fu : Nat) (o0 : Nat) (o1 n1 : Nat) : Nat → Int → IMem → Res
 | 0 => fun _ _ => none
 | n + 1 => fb_L_depart_2 fu o0 o1 n1 (f_L_depart_2 fu o0 o1 n1 n)
def f_L_depart (fu : Nat) (o0 : Nat) (o1 n1 : Nat) (I0 : IMem) : Res :=
  f_L_depart_2 fu  o0 o1 n1 fu 0 I0
def fb_C_leave_9 (fu : Nat) (k_46 : IMem → Res) (o0 : Nat) (o1 : Nat) (p2 : Int) (R_ : Int → IMem → Res) (w3 : Int) (I0 : IMem) : Res :=
  if w3 < I0 o0 8 then (
      if w3 < 8 then (
        zg (0 ≤ w3 ∧ w3 < 8) (
        zg (0 ≤ w3 ∧ w3 < 8) (
        zb (f_H_note fu o1 w3 (I0 (o0 + 2) w3.toNat) (I0 (o0 + 3) w3.toNat) I0) fun _ I3 =>
        zl (wr32 (w3 + 1)) fun x5 =>
        R_ x5 I3)))
      else (
        k_46 I0))
    else (
      k_46 I0)
def f_C_leave_9 (fu : Nat) (k_46 : IMem → Res) (o0 : Nat) (o1 : Nat) (p2 : Int) : Nat → Int → IMem → Res
 | 0 => fun _ _ => none
 | n + 1 => fb_C_leave_9 fu k_46 o0 o1 p2 (f_C_leave_9 fu k_46 o0 o1 p2 n)
def fb_C_leave_59 (fu : Nat) (k_103 : IMem → Res) (o0 : Nat) (o1 : Nat) (p2 : Int) (R_ : Int → IMem → Res) (w3 : Int) (I0 : IMem) : Res :=
  if w3 < I0 o0 9 then (
      zb (f_L_append fu (o1 + 6) 0 (o0 + 4) 864 (wr32 (w3 * 6)) I0) fun y10 I11 =>
      zj (fun  (I14 : IMem) =>
          zl (wr32 (w3 + 1)) fun x15 =>
          R_ x15 I14) fun k13 =>
        if y10 = 0 then (
          zw I11 (o1 + 10) 6 (wr32 ((I11 (o1 + 10) 6) + 1)) fun I16 =>
          k13 I16)
        else (
          k13 I11))
    else (
      k_103 I0)
def f_C_leave_59 (fu : Nat) (k_103 : IMem → Res) (o0 : Nat) (o1 : Nat) (p2 : Int) : Nat → Int → IMem → Res
 | 0 => fun _ _ => none
 | n + 1 => fb_C_leave_59 fu k_103 o0 o1 p2 (f_C_leave_59 fu k_103 o0 o1 p2 n)
def f_C_leave (fu : Nat) (o0 : Nat) (o1 : Nat) (I0 : IMem) : Res :=
  zl (I0 (o1 + 10) 2) fun x1 =>
    f_C_leave_9 fu (fun  (I6 : IMem) =>
      zb (f_L_depart fu (o1 + 6) (o0 + 1) 240 I6) fun _ I8 =>
      f_C_leave_59 fu (fun  (I17 : IMem) =>
        zb (f_H_close fu o1 (I17 o0 7) (I17 o0 8) I17) fun _ I19 =>
        zr (wr32 ((I19 (o1 + 10) 2) - x1)) I19) o0 o1 x1 fu 0 I8) o0 o1 x1 fu 0 I0
def f_S_dropPicked (fu : Nat) (o0 : Nat) (I0 : IMem) : Res :=
  zb (f_C_clear fu (o0 + 137) (I0 (o0 + 2) 0) I0) fun _ I2 =>
    zr 0 I2
def f_S_send (fu : Nat) (o0 : Nat) (I0 : IMem) : Res :=
  zb (f_C_leave fu (o0 + 137) (o0 + 1) I0) fun y1 I2 =>
    zb (f_S_dropPicked fu o0 I2) fun _ I5 =>
    zr y1 I5
def f_C_findOut (fu : Nat) (o0 : Nat) (o1 : Nat) (a2 : Int) (I0 : IMem) : Res :=
  zl (wr32 ((I0 o0 9) * 6)) fun x1 =>
    if a2 < 0 then (
      zr 0 I0)
    else (
      if a2 < 240 then (
        if x1 < 0 then (
          zr 0 I0)
        else (
          if wr32 (864 - 6) < x1 then (
            zr 0 I0)
          else (
            zg (0 ≤ a2 ∧ a2 < 240) (zw I0 (o0 + 1) a2.toNat 2 fun I2 =>
            zg ((0 : Int) ≤ wr32 (a2 * 6) ∧ (0 : Int) ≤ x1 ∧ (0 : Int) ≤ 6 ∧ (wr32 (a2 * 6) : Int) + 6 ≤ 1440 ∧ (x1 : Int) + 6 ≤ 864) (zc I2 (o1 + 7) (wr32 (a2 * 6)) (o0 + 4) x1 6 fun I3 =>
            zl (wr32 (x1 + 1)) fun x4 =>
            zg (0 ≤ x4 ∧ x4 < 864) (
            zl (wr32 (x1 + 2)) fun x6 =>
            zg (0 ≤ x6 ∧ x6 < 864) (zw I3 (o0 + 4) x6.toNat (I3 (o0 + 4) x4.toNat) fun I5 =>
            zw I5 o0 9 (wr32 ((I5 o0 9) + 1)) fun I7 =>
            zw I7 (o1 + 10) 5 (wr32 ((I7 (o1 + 10) 5) + 1)) fun I8 =>
            zr 0 I8)))))))
      else (
        zr 0 I0))
def f_C_fits (fu : Nat) (o0 : Nat) (o1 : Nat) (a2 : Int) (I0 : IMem) : Res :=
  zb (f_C_stands fu o0 a2 I0) fun y1 I2 =>
    if y1 = 0 then (
      zr 0 I2)
    else (
      if I2 o0 10 = 0 then (
        zb (f_L_get fu (o1 + 6) a2 2 I2) fun y4 I5 =>
        if I5 o0 7 < y4 then (
          zr 0 I5)
        else (
          zb (f_L_get fu (o1 + 6) a2 3 I5) fun y7 I8 =>
          zj (fun  (I11 : IMem) =>
              if y7 = 2 then (
                if I11 o0 8 = 0 then (
                  zr 1 I11)
                else (
                  zr 0 I11))
              else (
                zr 1 I11)) fun k10 =>
            if y7 = 1 then (
              if I8 o0 11 = 0 then (
                zr 0 I8)
              else (
                k10 I8))
            else (
              k10 I8)))
      else (
        zr 0 I2))
def fb_C_mostPassed_17 (fu : Nat) (o0 : Nat) (o1 : Nat) (p2 : Int) (R_ : Int → Int → Int → IMem → Res) (w3 : Int) (w4 : Int) (w5 : Int) (I0 : IMem) : Res :=
  if w5 < I0 o0 5 then (
      if w5 < 144 then (
        if 0 < p2 then (
          zg (0 ≤ w5 ∧ w5 < 144) (
          zb (f_L_get fu (o1 + 6) (I0 (o0 + 5) w5.toNat) 5 I0) fun y3 I4 =>
          zj (fun (x8 : Int) (x9 : Int) (I7 : IMem) =>
              zl (wr32 (w5 + 1)) fun x10 =>
              R_ x8 x9 x10 I7) fun k6 =>
            if w3 < y3 then (
              zg (0 ≤ w5 ∧ w5 < 144) (
              zb (f_C_fits fu o0 o1 (I4 (o0 + 5) w5.toNat) I4) fun y11 I12 =>
              if y11 = 0 then (
                k6 w3 w4 I12)
              else (
                zg (0 ≤ w5 ∧ w5 < 144) (
                zl (I12 (o0 + 5) w5.toNat) fun x14 =>
                k6 y3 x14 I12))))
            else (
              k6 w3 w4 I4)))
        else (
          zr w4 I0))
      else (
        zr w4 I0))
    else (
      zr w4 I0)
def f_C_mostPassed_17 (fu : Nat) (o0 : Nat) (o1 : Nat) (p2 : Int) : Nat → Int → Int → Int → IMem → Res
 | 0 => fun _ _ _ _ => none
 | n + 1 => fb_C_mostPassed_17 fu o0 o1 p2 (f_C_mostPassed_17 fu o0 o1 p2 n)
def f_C_mostPassed (fu : Nat) (o0 : Nat) (o1 : Nat) (I0 : IMem) : Res :=
  zl (I0 (o1 + 1) 4) fun x1 =>
    zl (wr32 (x1 - 1)) fun x2 =>
    f_C_mostPassed_17 fu  o0 o1 x1 fu x2 ((-1)) 0 I0
def f_L_isPlainAndTrue (fu : Nat) (o0 : Nat) (a1 : Int) (I0 : IMem) : Res :=
  zb (f_L_get fu o0 a1 3 I0) fun y1 I2 =>
    if y1 = 0 then (
      zb (f_L_get fu o0 a1 2 I2) fun y4 I5 =>
      zb (f_L_get fu o0 a1 1 I5) fun y7 I8 =>
      if y4 = y7 then (
        zr 1 I8)
      else (
        zr 0 I8))
    else (
      zr 0 I2)
section
variable {l : Launch} {b : PB}
set_option maxRecDepth 20000 in
theorem t_L_people_11 (fu : Nat) {r : Int × IMem} (o0 : Nat) (p1 : Int) (p3 : Int) (h_o0 : KC[o0]? = some (7, 3)) (h_p1 : inr p1) (h_p3 : inr p3) : ∀ (m : Nat) (w2 : Int) (w4 : Int) (I0 : IMem), inr w2 → inr w4 → RG I0 → f_L_people_11 fu o0 p1 p3 m w2 w4 I0 = some r → Ai l b 3 y_L_people KC RC (Ps r) I0 11 [.ref o0, .int (iv p1), .int (iv w2), .int (iv p3), .int (iv w4)] [] := by
  intro m
  induction m with
  | zero => intro w2 w4 I0 h_w2 h_w4 h_I0 hf; cases hf
  | succ m ih =>
    intro w2 w4 I0 h_w2 h_w4 h_I0 hf
    replace hf : fb_L_people_11 fu o0 p1 p3 (f_L_people_11 fu o0 p1 p3 m) w2 w4 I0 = some r := hf
    unfold fb_L_people_11 at hf
    refine aw_iload rfl d_L_people_11 (aw_iload_n rfl rfl d_L_people_13 ?_)
    refine ai_icmp_ge h_w4 h_p3 hf (tgt := 38) (by decide) d_L_people_14 (fun hf => ?_) (fun hf => ?_)
    · refine aw_iload_n rfl rfl d_L_people_38 ?_
      exact ai_reti rfl d_L_people_39 hf h_w2 h_I0
    · refine aw_iload_n rfl rfl d_L_people_17 (aw_aload_n rfl rfl d_L_people_18 (aw_iload_n rfl rfl d_L_people_19 (aw_bipush (v := iv 40) cb_40 d_L_people_20 (ai_imul d_L_people_22 (aw_iload rfl d_L_people_23 (ai_iadd d_L_people_25 (aw_iconst (v := iv 1) rfl d_L_people_26 ?_)))))))
      obtain ⟨y4, I5, c6, hf⟩ := of_zb hf
      refine ai_callV (as := [.int (iv (wr32 ((wr32 (p1 * 40)) + w4))), .int (iv 1)]) (d' := 1) (q := ("SinglesUp$Lines", zT4, 3)) mo_L_get lk_L_53 h_o0 rfl rfl rfl ⟨by decide, by decide⟩ rfl rfl (by decide) d_L_people_27 (t_L_get fu o0 (wr32 ((wr32 (p1 * 40)) + w4)) 1 I0 h_I0 h_o0 (wr32_in _) in_1 c6) (fun h_y4 h_I5 => ?_)
      refine ai_iadd d_L_people_30 ?_
      refine ai_name hf (wr32_in _) (fun x7 h_x7 hf => ?_)
      refine aw_istore_n (lv2 := [.ref o0, .int (iv p1), .int (iv x7), .int (iv p3), .int (iv w4)]) rfl (Nat.le_of_ble_eq_true rfl) rfl d_L_people_31 ?_
      refine ai_iinc (n := 1) (lv2 := fun x8 => [.ref o0, .int (iv p1), .int (iv x7), .int (iv p3), .int (iv x8)]) hf rfl (Nat.le_of_ble_eq_true rfl) (fun _ => rfl) d_L_people_32 (fun x8 h_x8 hf => ?_)
      refine aw_goto (tgt := 11) (by decide) d_L_people_35 ?_
      exact ih x7 x8 I5 h_x7 h_x8 h_I5 hf
set_option maxRecDepth 20000 in
theorem t_L_people (fu : Nat) (o0 : Nat) (a1 : Int) (I0 : IMem) (hI : RG I0) (h_o0 : KC[o0]? = some (7, 3)) (h_a1 : inr a1) {r : Int × IMem} (hf : f_L_people fu o0 a1 I0 = some r) : Ss l b 3 y_L_people KC RC [.ref o0, .int (iv a1)] (ivm I0) (Ps r) := by
  unfold f_L_people at hf
  refine Ss.of (show Ai l b 3 y_L_people KC RC (Ps r) I0 0 [.ref o0, .int (iv a1), uu, uu, uu] [] from ?_)
  refine aw_iconst (v := iv 0) rfl d_L_people_0 (aw_istore_n (lv2 := [.ref o0, .int (iv a1), .int (iv 0), uu, uu]) rfl (Nat.le_of_ble_eq_true rfl) rfl d_L_people_1 (aw_aload_n rfl rfl d_L_people_2 (aw_iload_n rfl rfl d_L_people_3 ?_)))
  obtain ⟨y1, I2, c3, hf⟩ := of_zb hf
  refine ai_callV (as := [.int (iv a1)]) (d' := 2) (q := ("SinglesUp$Lines", zT4, 3)) mo_L_countOf lk_L_60 h_o0 rfl rfl rfl ⟨by decide, by decide⟩ rfl rfl (by decide) d_L_people_4 (t_L_countOf fu o0 a1 I0 hI h_o0 h_a1 c3) (fun h_y1 h_I2 => ?_)
  refine aw_istore_n (lv2 := [.ref o0, .int (iv a1), .int (iv 0), .int (iv y1), uu]) rfl (Nat.le_of_ble_eq_true rfl) rfl d_L_people_7 (aw_iconst (v := iv 0) rfl d_L_people_8 (aw_istore (lv2 := [.ref o0, .int (iv a1), .int (iv 0), .int (iv y1), .int (iv 0)]) (Nat.le_of_ble_eq_true rfl) rfl d_L_people_9 ?_))
  refine t_L_people_11 fu o0 a1 y1 h_o0 h_a1 h_y1 fu 0 0 I2 in_0 in_0 h_I2 hf
set_option maxRecDepth 20000 in
theorem t_S_line (fu : Nat) (o0 : Nat) (a1 : Int) (a2 : Int) (I0 : IMem) (hI : RG I0) (h_o0 : KC[o0]? = some (11, 9)) (h_a1 : inr a1) (h_a2 : inr a2) {r : Int × IMem} (hf : f_S_line fu o0 a1 a2 I0 = some r) : Ss l b 4 y_S_line KC RC [.ref o0, .int (iv a1), .int (iv a2)] (ivm I0) (Ps r) := by
  unfold f_S_line at hf
  refine Ss.of (show Ai l b 4 y_S_line KC RC (Ps r) I0 0 [.ref o0, .int (iv a1), .int (iv a2)] [] from ?_)
  refine aw_iload_n rfl rfl d_S_line_0 ?_
  obtain ⟨y1, I2, c3, hf⟩ := of_zb hf
  refine ai_callS (as := [.int (iv a1)]) (d' := 1) mo_S_isLine lk_S_73 rfl ⟨by decide, by decide⟩ rfl rfl (by decide) d_S_line_1 (t_S_isLine fu a1 I0 hI h_a1 c3) (fun h_y1 h_I2 => ?_)
  refine ai_if_eq h_y1 hf (tgt := 16) (by decide) d_S_line_4 (fun hf => ?_) (fun hf => ?_)
  · refine aw_iconst (v := iv (-1)) rfl d_S_line_16 ?_
    exact ai_reti rfl d_S_line_17 hf in_m1 h_I2
  · refine aw_iload_n rfl rfl d_S_line_7 ?_
    refine ai_if_lt h_a2 hf (tgt := 16) (by decide) d_S_line_8 (fun hf => ?_) (fun hf => ?_)
    · refine aw_iconst (v := iv (-1)) rfl d_S_line_16 ?_
      exact ai_reti rfl d_S_line_17 hf in_m1 h_I2
    · refine aw_iload_n rfl rfl d_S_line_11 (aw_iconst (v := iv 1) rfl d_S_line_12 ?_)
      refine ai_icmp_le h_a2 in_1 hf (tgt := 18) (by decide) d_S_line_13 (fun hf => ?_) (fun hf => ?_)
      · refine aw_iload_n rfl rfl d_S_line_18 ?_
        refine ai_if_ne h_a2 hf (tgt := 37) (by decide) d_S_line_19 (fun hf => ?_) (fun hf => ?_)
        · refine aw_aload_n rfl rfl d_S_line_37 (aw_getr (r := o0 + 1) fl_S_12 h_o0 (by decide) rfl (rc_8_0 _ h_o0).1 d_S_line_38 (aw_getr (r := o0 + 7) fl_S_77 ((rc_8_0 _ h_o0).2) (by decide) rfl (rc_2_5 _ (rc_8_0 _ h_o0).2).1 d_S_line_41 (aw_iload_n rfl rfl d_S_line_44 ?_)))
          obtain ⟨y4, I5, c6, hf⟩ := of_zb hf
          refine ai_callV (as := [.int (iv a1)]) (d' := 3) (q := ("SinglesUp$Lines", zT4, 3)) mo_L_people lk_S_169 (rc_2_5 _ (rc_8_0 _ h_o0).2).2 rfl rfl rfl ⟨by decide, by decide⟩ rfl rfl (by decide) d_S_line_45 (t_L_people fu (o0 + 7) a1 I2 h_I2 (rc_2_5 _ (rc_8_0 _ h_o0).2).2 h_a1 c6) (fun h_y4 h_I5 => ?_)
          exact ai_reti rfl d_S_line_48 hf h_y4 h_I5
        · refine aw_aload_n rfl rfl d_S_line_22 (aw_getr (r := o0 + 1) fl_S_12 h_o0 (by decide) rfl (rc_8_0 _ h_o0).1 d_S_line_23 (aw_getr (r := o0 + 7) fl_S_77 ((rc_8_0 _ h_o0).2) (by decide) rfl (rc_2_5 _ (rc_8_0 _ h_o0).2).1 d_S_line_26 (aw_getr (r := o0 + 9) fl_S_166 ((rc_2_5 _ (rc_8_0 _ h_o0).2).2) (by decide) rfl (rc_4_1 _ (rc_2_5 _ (rc_8_0 _ h_o0).2).2).1 d_S_line_29 (aw_iload_n rfl rfl d_S_line_32 ?_))))
          refine ai_iald (rc_4_1 _ (rc_2_5 _ (rc_8_0 _ h_o0).2).2).2 rfl h_a1 hf d_S_line_33 (fun _ hf => ?_)
          refine aw_goto (tgt := 48) (by decide) d_S_line_34 ?_
          exact ai_reti rfl d_S_line_48 hf (h_I2 (o0 + 9) a1.toNat) h_I2
      · refine aw_iconst (v := iv (-1)) rfl d_S_line_16 ?_
        exact ai_reti rfl d_S_line_17 hf in_m1 h_I2
set_option maxRecDepth 20000 in
theorem t_C_sit (fu : Nat) (o0 : Nat) (a1 : Int) (a2 : Int) (a3 : Int) (a4 : Int) (I0 : IMem) (hI : RG I0) (h_o0 : KC[o0]? = some (3, 12)) (h_a1 : inr a1) (h_a2 : inr a2) (h_a3 : inr a3) (h_a4 : inr a4) {r : Int × IMem} (hf : f_C_sit fu o0 a1 a2 a3 a4 I0 = some r) : Ss l b 1 y_C_sit KC RC [.ref o0, .int (iv a1), .int (iv a2), .int (iv a3), .int (iv a4)] (ivm I0) (Pv r) := by
  unfold f_C_sit at hf
  refine Ss.of (show Ai l b 1 y_C_sit KC RC (Pv r) I0 0 [.ref o0, .int (iv a1), .int (iv a2), .int (iv a3), .int (iv a4)] [] from ?_)
  refine aw_iload_n rfl rfl d_C_sit_0 ?_
  refine ai_if_lt h_a1 hf (tgt := 27) (by decide) d_C_sit_1 (fun hf => ?_) (fun hf => ?_)
  · exact ai_retv rfl d_C_sit_27 hf hI
  · refine aw_iload_n rfl rfl d_C_sit_4 (aw_sipush (v := iv 240) cs_240 d_C_sit_5 ?_)
    refine ai_icmp_ge h_a1 in_240 hf (tgt := 27) (by decide) d_C_sit_8 (fun hf => ?_) (fun hf => ?_)
    · exact ai_retv rfl d_C_sit_27 hf hI
    · refine aw_aload_n rfl rfl d_C_sit_11 (ai_geti fl_C_40 h_o0 (by decide) rfl d_C_sit_12 ?_)
      refine ai_if_lt (hI o0 8) hf (tgt := 27) (by decide) d_C_sit_15 (fun hf => ?_) (fun hf => ?_)
      · exact ai_retv rfl d_C_sit_27 hf hI
      · refine aw_aload_n rfl rfl d_C_sit_18 (ai_geti fl_C_40 h_o0 (by decide) rfl d_C_sit_19 (aw_bipush (v := iv 8) cb_8 d_C_sit_22 ?_))
        refine ai_icmp_lt (hI o0 8) in_8 hf (tgt := 28) (by decide) d_C_sit_24 (fun hf => ?_) (fun hf => ?_)
        · refine aw_aload_n rfl rfl d_C_sit_28 (aw_getr (r := o0 + 1) fl_C_9 h_o0 (by decide) rfl (rc_0_0 _ h_o0).1 d_C_sit_29 (aw_iload_n rfl rfl d_C_sit_32 (aw_iload rfl d_C_sit_33 ?_)))
          refine ai_iast (rc_0_0 _ h_o0).2 rfl h_a1 h_a4 hI hf d_C_sit_35 (fun _ I1 h_I1 hf => ?_)
          refine aw_aload_n rfl rfl d_C_sit_36 (aw_getr (r := o0 + 2) fl_C_15 h_o0 (by decide) rfl (rc_0_1 _ h_o0).1 d_C_sit_37 (aw_aload_n rfl rfl d_C_sit_40 (ai_geti fl_C_40 h_o0 (by decide) rfl d_C_sit_41 (aw_iload_n rfl rfl d_C_sit_44 ?_))))
          refine ai_nameU hf (h_I1 o0 8) (fun x3 h_x3 hf => ?_)
          refine ai_iast (rc_0_1 _ h_o0).2 rfl h_x3 h_a1 h_I1 hf d_C_sit_45 (fun _ I2 h_I2 hf => ?_)
          refine aw_aload_n rfl rfl d_C_sit_46 (aw_getr (r := o0 + 3) fl_C_18 h_o0 (by decide) rfl (rc_0_2 _ h_o0).1 d_C_sit_47 (aw_aload_n rfl rfl d_C_sit_50 (ai_geti fl_C_40 h_o0 (by decide) rfl d_C_sit_51 (aw_iload_n rfl rfl d_C_sit_54 ?_))))
          refine ai_nameU hf (h_I2 o0 8) (fun x5 h_x5 hf => ?_)
          refine ai_iast (rc_0_2 _ h_o0).2 rfl h_x5 h_a2 h_I2 hf d_C_sit_55 (fun _ I4 h_I4 hf => ?_)
          refine aw_aload_n rfl rfl d_C_sit_56 (aw_dup rfl d_C_sit_57 (ai_geti fl_C_40 h_o0 (by decide) rfl d_C_sit_58 (aw_iconst (v := iv 1) rfl d_C_sit_61 (ai_iadd d_C_sit_62 ?_))))
          refine ai_puti hf h_I4 (wr32_in _) fl_C_40 h_o0 (by decide) rfl rfl rfl rfl d_C_sit_63 (fun I6 h_I6 hf => ?_)
          refine aw_aload_n rfl rfl d_C_sit_66 (aw_dup rfl d_C_sit_67 (ai_geti fl_C_30 h_o0 (by decide) rfl d_C_sit_68 (aw_iload_n rfl rfl d_C_sit_71 (ai_isub d_C_sit_72 ?_))))
          refine ai_puti hf h_I6 (wr32_in _) fl_C_30 h_o0 (by decide) rfl rfl rfl rfl d_C_sit_73 (fun I7 h_I7 hf => ?_)
          refine aw_aload_n rfl rfl d_C_sit_76 (aw_aload_n rfl rfl d_C_sit_77 (ai_geti fl_C_46 h_o0 (by decide) rfl d_C_sit_78 ?_))
          obtain ⟨k8, ek8, hf⟩ := of_zj hf
          have hk8 : ∀ (x10 : Int) (I9 : IMem), inr x10 → RG I9 → k8 x10 I9 = some r → Ai l b 1 y_C_sit KC RC (Pv r) I9 94 [.ref o0, uu, uu, .int (iv a3), uu] [.int (iv x10), .ref o0] := by
            intro x10 I9 h_x10 h_I9 hf
            subst ek8
            obtain ⟨g12, hf⟩ := of_zg hf
            refine ai_puti hf h_I9 h_x10 fl_C_46 h_o0 (by decide) rfl (nar_z g12) (fit_z g12) rfl d_C_sit_94 (fun I11 h_I11 hf => ?_)
            refine aw_aload_n rfl rfl d_C_sit_97 (aw_aload_n rfl rfl d_C_sit_98 (ai_geti fl_C_50 h_o0 (by decide) rfl d_C_sit_99 ?_))
            obtain ⟨k13, ek13, hf⟩ := of_zj hf
            have hk13 : ∀ (x15 : Int) (I14 : IMem), inr x15 → RG I14 → k13 x15 I14 = some r → Ai l b 1 y_C_sit KC RC (Pv r) I14 115 [uu, uu, uu, uu, uu] [.int (iv x15), .ref o0] := by
              intro x15 I14 h_x15 h_I14 hf
              subst ek13
              obtain ⟨g17, hf⟩ := of_zg hf
              refine ai_puti hf h_I14 h_x15 fl_C_50 h_o0 (by decide) rfl (nar_z g17) (fit_z g17) rfl d_C_sit_115 (fun I16 h_I16 hf => ?_)
              exact ai_retv rfl d_C_sit_118 hf h_I16
            refine ai_if_ne (h_I11 o0 11) hf (tgt := 110) (by decide) d_C_sit_102 (fun hf => ?_) (fun hf => ?_)
            · refine aw_iconst (v := iv 1) rfl d_C_sit_110 (aw_goto (tgt := 115) (by decide) d_C_sit_111 ?_)
              refine aw_weakB (lv2 := [uu, uu, uu, uu, uu]) (wk_u (wk_u (wk_u (wk_u (wk_u wk_n))))) ?_
              exact hk13 1 I11 in_1 h_I11 hf
            · refine aw_iload_n rfl rfl d_C_sit_105 (aw_iconst (v := iv 1) rfl d_C_sit_106 ?_)
              refine ai_icmp_eq h_a3 in_1 hf (tgt := 114) (by decide) d_C_sit_107 (fun hf => ?_) (fun hf => ?_)
              · refine aw_iconst (v := iv 0) rfl d_C_sit_114 ?_
                refine aw_weakB (lv2 := [uu, uu, uu, uu, uu]) (wk_u (wk_u (wk_u (wk_u (wk_u wk_n))))) ?_
                exact hk13 0 I11 in_0 h_I11 hf
              · refine aw_iconst (v := iv 1) rfl d_C_sit_110 (aw_goto (tgt := 115) (by decide) d_C_sit_111 ?_)
                refine aw_weakB (lv2 := [uu, uu, uu, uu, uu]) (wk_u (wk_u (wk_u (wk_u (wk_u wk_n))))) ?_
                exact hk13 1 I11 in_1 h_I11 hf
          refine ai_if_ne (h_I7 o0 10) hf (tgt := 89) (by decide) d_C_sit_81 (fun hf => ?_) (fun hf => ?_)
          · refine aw_iconst (v := iv 1) rfl d_C_sit_89 (aw_goto (tgt := 94) (by decide) d_C_sit_90 ?_)
            refine aw_weakB (lv2 := [.ref o0, uu, uu, .int (iv a3), uu]) (wk_s (wk_u (wk_u (wk_s (wk_u wk_n))))) ?_
            exact hk8 1 I7 in_1 h_I7 hf
          · refine aw_iload_n rfl rfl d_C_sit_84 (aw_iconst (v := iv 2) rfl d_C_sit_85 ?_)
            refine ai_icmp_ne h_a3 in_2 hf (tgt := 93) (by decide) d_C_sit_86 (fun hf => ?_) (fun hf => ?_)
            · refine aw_iconst (v := iv 0) rfl d_C_sit_93 ?_
              refine aw_weakB (lv2 := [.ref o0, uu, uu, .int (iv a3), uu]) (wk_s (wk_u (wk_u (wk_s (wk_u wk_n))))) ?_
              exact hk8 0 I7 in_0 h_I7 hf
            · refine aw_iconst (v := iv 1) rfl d_C_sit_89 (aw_goto (tgt := 94) (by decide) d_C_sit_90 ?_)
              refine aw_weakB (lv2 := [.ref o0, uu, uu, .int (iv a3), uu]) (wk_s (wk_u (wk_u (wk_s (wk_u wk_n))))) ?_
              exact hk8 1 I7 in_1 h_I7 hf
        · exact ai_retv rfl d_C_sit_27 hf hI
set_option maxRecDepth 20000 in
theorem t_C_stands (fu : Nat) (o0 : Nat) (a1 : Int) (I0 : IMem) (hI : RG I0) (h_o0 : KC[o0]? = some (3, 12)) (h_a1 : inr a1) {r : Int × IMem} (hf : f_C_stands fu o0 a1 I0 = some r) : Ss l b 1 y_C_stands KC RC [.ref o0, .int (iv a1)] (ivm I0) (Ps r) := by
  unfold f_C_stands at hf
  refine Ss.of (show Ai l b 1 y_C_stands KC RC (Ps r) I0 0 [.ref o0, .int (iv a1)] [] from ?_)
  refine aw_iload_n rfl rfl d_C_stands_0 ?_
  refine ai_if_lt h_a1 hf (tgt := 24) (by decide) d_C_stands_1 (fun hf => ?_) (fun hf => ?_)
  · refine aw_iconst (v := iv 0) rfl d_C_stands_24 ?_
    exact ai_retn rfl (nar_z (Or.inl rfl)) d_C_stands_25 hf in_0 hI
  · refine aw_iload_n rfl rfl d_C_stands_4 (aw_sipush (v := iv 240) cs_240 d_C_stands_5 ?_)
    refine ai_icmp_ge h_a1 in_240 hf (tgt := 24) (by decide) d_C_stands_8 (fun hf => ?_) (fun hf => ?_)
    · refine aw_iconst (v := iv 0) rfl d_C_stands_24 ?_
      exact ai_retn rfl (nar_z (Or.inl rfl)) d_C_stands_25 hf in_0 hI
    · refine aw_aload_n rfl rfl d_C_stands_11 (aw_getr (r := o0 + 1) fl_C_9 h_o0 (by decide) rfl (rc_0_0 _ h_o0).1 d_C_stands_12 (aw_iload_n rfl rfl d_C_stands_15 ?_))
      refine ai_iald (rc_0_0 _ h_o0).2 rfl h_a1 hf d_C_stands_16 (fun _ hf => ?_)
      refine ai_if_ne (hI (o0 + 1) a1.toNat) hf (tgt := 24) (by decide) d_C_stands_17 (fun hf => ?_) (fun hf => ?_)
      · refine aw_iconst (v := iv 0) rfl d_C_stands_24 ?_
        exact ai_retn rfl (nar_z (Or.inl rfl)) d_C_stands_25 hf in_0 hI
      · refine aw_iconst (v := iv 1) rfl d_C_stands_20 (aw_goto (tgt := 25) (by decide) d_C_stands_21 ?_)
        exact ai_retn rfl (nar_z (Or.inr rfl)) d_C_stands_25 hf in_1 hI
set_option maxRecDepth 20000 in
theorem t_L_isSeen (fu : Nat) (o0 : Nat) (a1 : Int) (a2 : Int) (I0 : IMem) (hI : RG I0) (h_o0 : KC[o0]? = some (7, 3)) (h_a1 : inr a1) (h_a2 : inr a2) {r : Int × IMem} (hf : f_L_isSeen fu o0 a1 a2 I0 = some r) : Ss l b 3 y_L_isSeen KC RC [.ref o0, .int (iv a1), .int (iv a2)] (ivm I0) (Ps r) := by
  unfold f_L_isSeen at hf
  refine Ss.of (show Ai l b 3 y_L_isSeen KC RC (Ps r) I0 0 [.ref o0, .int (iv a1), .int (iv a2)] [] from ?_)
  refine aw_aload_n rfl rfl d_L_isSeen_0 (aw_iload_n rfl rfl d_L_isSeen_1 (aw_iload_n rfl rfl d_L_isSeen_2 ?_))
  obtain ⟨y1, I2, c3, hf⟩ := of_zb hf
  refine ai_callV (as := [.int (iv a1), .int (iv a2)]) (d' := 2) (q := ("SinglesUp$Lines", zT4, 3)) mo_L_has lk_L_43 h_o0 rfl rfl rfl ⟨by decide, by decide⟩ rfl rfl (by decide) d_L_isSeen_3 (t_L_has fu o0 a1 a2 I0 hI h_o0 h_a1 h_a2 c3) (fun h_y1 h_I2 => ?_)
  refine ai_if_eq h_y1 hf (tgt := 23) (by decide) d_L_isSeen_6 (fun hf => ?_) (fun hf => ?_)
  · refine aw_iconst (v := iv 0) rfl d_L_isSeen_23 ?_
    exact ai_retn rfl (nar_z (Or.inl rfl)) d_L_isSeen_24 hf in_0 h_I2
  · refine aw_iload_n rfl rfl d_L_isSeen_9 (aw_aload_n rfl rfl d_L_isSeen_10 (aw_getr (r := o0 + 3) fl_L_18 h_o0 (by decide) rfl (rc_4_2 _ h_o0).1 d_L_isSeen_11 (aw_iload_n rfl rfl d_L_isSeen_14 ?_)))
    refine ai_iald (rc_4_2 _ h_o0).2 rfl h_a1 hf d_L_isSeen_15 (fun _ hf => ?_)
    refine ai_icmp_ge h_a2 (h_I2 (o0 + 3) a1.toNat) hf (tgt := 23) (by decide) d_L_isSeen_16 (fun hf => ?_) (fun hf => ?_)
    · refine aw_iconst (v := iv 0) rfl d_L_isSeen_23 ?_
      exact ai_retn rfl (nar_z (Or.inl rfl)) d_L_isSeen_24 hf in_0 h_I2
    · refine aw_iconst (v := iv 1) rfl d_L_isSeen_19 (aw_goto (tgt := 24) (by decide) d_L_isSeen_20 ?_)
      exact ai_retn rfl (nar_z (Or.inr rfl)) d_L_isSeen_24 hf in_1 h_I2
set_option maxRecDepth 20000 in
theorem t_C_judge (fu : Nat) (o0 : Nat) (o1 : Nat) (a2 : Int) (a3 : Int) (I0 : IMem) (hI : RG I0) (h_o0 : KC[o0]? = some (3, 12)) (h_o1 : KC[o1]? = some (5, 14)) (h_a2 : inr a2) (h_a3 : inr a3) {r : Int × IMem} (hf : f_C_judge fu o0 o1 a2 a3 I0 = some r) : Ss l b 4 y_C_judge KC RC [.ref o0, .ref o1, .int (iv a2), .int (iv a3)] (ivm I0) (Ps r) := by
  unfold f_C_judge at hf
  refine Ss.of (show Ai l b 4 y_C_judge KC RC (Ps r) I0 0 [.ref o0, .ref o1, .int (iv a2), .int (iv a3), uu, uu, uu] [] from ?_)
  refine aw_iload_n rfl rfl d_C_judge_0 (aw_bipush (v := iv 40) cb_40 d_C_judge_1 (ai_imul d_C_judge_3 (aw_iload_n rfl rfl d_C_judge_4 (ai_iadd d_C_judge_5 ?_))))
  refine ai_name hf (wr32_in _) (fun x1 h_x1 hf => ?_)
  refine aw_istore (lv2 := [.ref o0, .ref o1, .int (iv a2), .int (iv a3), .int (iv x1), uu, uu]) (Nat.le_of_ble_eq_true rfl) rfl d_C_judge_6 ?_
  refine aw_aload_n rfl rfl d_C_judge_8 (aw_getr (r := o1 + 6) fl_C_72 h_o1 (by decide) rfl (rc_2_5 _ h_o1).1 d_C_judge_9 (aw_iload_n rfl rfl d_C_judge_12 (aw_iload_n rfl rfl d_C_judge_13 ?_)))
  obtain ⟨y2, I3, c4, hf⟩ := of_zb hf
  refine ai_callV (as := [.int (iv a2), .int (iv a3)]) (d' := 2) (q := ("SinglesUp$Lines", zT4, 3)) mo_L_has lk_C_177 (rc_2_5 _ h_o1).2 rfl rfl rfl ⟨by decide, by decide⟩ rfl rfl (by decide) d_C_judge_14 (t_L_has fu (o1 + 6) a2 a3 I0 hI (rc_2_5 _ h_o1).2 h_a2 h_a3 c4) (fun h_y2 h_I3 => ?_)
  refine ai_if_eq h_y2 hf (tgt := 29) (by decide) d_C_judge_17 (fun hf => ?_) (fun hf => ?_)
  · refine aw_iconst (v := iv 1) rfl d_C_judge_29 ?_
    exact ai_reti rfl d_C_judge_30 hf in_1 h_I3
  · refine aw_aload_n rfl rfl d_C_judge_20 (aw_iload rfl d_C_judge_21 ?_)
    obtain ⟨y5, I6, c7, hf⟩ := of_zb hf
    refine ai_callV (as := [.int (iv x1)]) (d' := 1) (q := ("SinglesUp$Chair", zT0, 12)) mo_C_stands lk_C_107 h_o0 rfl rfl rfl ⟨by decide, by decide⟩ rfl rfl (by decide) d_C_judge_23 (t_C_stands fu o0 x1 I3 h_I3 h_o0 h_x1 c7) (fun h_y5 h_I6 => ?_)
    refine ai_if_ne h_y5 hf (tgt := 31) (by decide) d_C_judge_26 (fun hf => ?_) (fun hf => ?_)
    · refine aw_aload_n rfl rfl d_C_judge_31 (aw_getr (r := o1 + 6) fl_C_72 h_o1 (by decide) rfl (rc_2_5 _ h_o1).1 d_C_judge_32 (aw_iload rfl d_C_judge_35 (aw_iconst (v := iv 1) rfl d_C_judge_37 ?_)))
      obtain ⟨y8, I9, c10, hf⟩ := of_zb hf
      refine ai_callV (as := [.int (iv x1), .int (iv 1)]) (d' := 1) (q := ("SinglesUp$Lines", zT4, 3)) mo_L_get lk_C_92 (rc_2_5 _ h_o1).2 rfl rfl rfl ⟨by decide, by decide⟩ rfl rfl (by decide) d_C_judge_38 (t_L_get fu (o1 + 6) x1 1 I6 h_I6 (rc_2_5 _ h_o1).2 h_x1 in_1 c10) (fun h_y8 h_I9 => ?_)
      refine aw_istore (lv2 := [.ref o0, .ref o1, .int (iv a2), .int (iv a3), .int (iv x1), .int (iv y8), uu]) (Nat.le_of_ble_eq_true rfl) rfl d_C_judge_41 (aw_aload_n rfl rfl d_C_judge_43 (aw_getr (r := o1 + 6) fl_C_72 h_o1 (by decide) rfl (rc_2_5 _ h_o1).1 d_C_judge_44 (aw_iload rfl d_C_judge_47 (aw_iconst (v := iv 3) rfl d_C_judge_49 ?_))))
      obtain ⟨y11, I12, c13, hf⟩ := of_zb hf
      refine ai_callV (as := [.int (iv x1), .int (iv 3)]) (d' := 1) (q := ("SinglesUp$Lines", zT4, 3)) mo_L_get lk_C_92 (rc_2_5 _ h_o1).2 rfl rfl rfl ⟨by decide, by decide⟩ rfl rfl (by decide) d_C_judge_50 (t_L_get fu (o1 + 6) x1 3 I9 h_I9 (rc_2_5 _ h_o1).2 h_x1 in_3 c13) (fun h_y11 h_I12 => ?_)
      refine aw_istore (lv2 := [.ref o0, .ref o1, .int (iv a2), .int (iv a3), .int (iv x1), .int (iv y8), .int (iv y11)]) (Nat.le_of_ble_eq_true rfl) rfl d_C_judge_53 (aw_aload_n rfl rfl d_C_judge_55 (aw_getr (r := o1 + 6) fl_C_72 h_o1 (by decide) rfl (rc_2_5 _ h_o1).1 d_C_judge_56 (aw_iload_n rfl rfl d_C_judge_59 (aw_iload_n rfl rfl d_C_judge_60 ?_))))
      obtain ⟨y14, I15, c16, hf⟩ := of_zb hf
      refine ai_callV (as := [.int (iv a2), .int (iv a3)]) (d' := 3) (q := ("SinglesUp$Lines", zT4, 3)) mo_L_isSeen lk_C_181 (rc_2_5 _ h_o1).2 rfl rfl rfl ⟨by decide, by decide⟩ rfl rfl (by decide) d_C_judge_61 (t_L_isSeen fu (o1 + 6) a2 a3 I12 h_I12 (rc_2_5 _ h_o1).2 h_a2 h_a3 c16) (fun h_y14 h_I15 => ?_)
      refine ai_if_ne h_y14 hf (tgt := 69) (by decide) d_C_judge_64 (fun hf => ?_) (fun hf => ?_)
      · refine aw_iload rfl d_C_judge_69 (aw_aload_n rfl rfl d_C_judge_71 (ai_geti fl_C_30 h_o0 (by decide) rfl d_C_judge_72 ?_))
        refine ai_icmp_le h_y8 (h_I15 o0 7) hf (tgt := 80) (by decide) d_C_judge_75 (fun hf => ?_) (fun hf => ?_)
        · refine aw_iload rfl d_C_judge_80 (aw_iconst (v := iv 1) rfl d_C_judge_82 ?_)
          obtain ⟨k17, ek17, hf⟩ := of_zj hf
          have hk17 : ∀  (I18 : IMem), RG I18 → k17 I18 = some r → Ai l b 4 y_C_judge KC RC (Ps r) I18 95 [.ref o0, uu, uu, uu, .int (iv x1), .int (iv y8), .int (iv y11)] [] := by
            intro I18 h_I18 hf
            subst ek17
            refine aw_aload_n rfl rfl d_C_judge_95 (ai_geti fl_C_46 h_o0 (by decide) rfl d_C_judge_96 ?_)
            refine ai_if_ne (h_I18 o0 10) hf (tgt := 115) (by decide) d_C_judge_99 (fun hf => ?_) (fun hf => ?_)
            · refine aw_iconst (v := iv 5) rfl d_C_judge_115 ?_
              exact ai_reti rfl d_C_judge_116 hf in_5 h_I18
            · refine aw_iload rfl d_C_judge_102 (aw_iconst (v := iv 2) rfl d_C_judge_104 ?_)
              obtain ⟨k19, ek19, hf⟩ := of_zj hf
              have hk19 : ∀  (I20 : IMem), RG I20 → k19 I20 = some r → Ai l b 4 y_C_judge KC RC (Ps r) I20 117 [.ref o0, uu, uu, uu, .int (iv x1), .int (iv y8), .int (iv y11)] [] := by
                intro I20 h_I20 hf
                subst ek19
                refine aw_aload_n rfl rfl d_C_judge_117 (aw_iload rfl d_C_judge_118 (aw_iload rfl d_C_judge_120 (aw_iload rfl d_C_judge_122 (aw_iconst (v := iv 1) rfl d_C_judge_124 ?_))))
                obtain ⟨y21, I22, c23, hf⟩ := of_zb hf
                refine ai_callVv (as := [.int (iv x1), .int (iv y8), .int (iv y11), .int (iv 1)]) (d' := 1) (q := ("SinglesUp$Chair", zT0, 12)) mo_C_sit lk_C_100 h_o0 rfl rfl rfl ⟨by decide, by decide⟩ rfl rfl (by decide) d_C_judge_125 (t_C_sit fu o0 x1 y8 y11 1 I20 h_I20 h_o0 h_x1 h_y8 h_y11 in_1 c23) (fun h_I22 => ?_)
                refine aw_iconst (v := iv 0) rfl d_C_judge_128 ?_
                exact ai_reti rfl d_C_judge_129 hf in_0 h_I22
              refine ai_icmp_ne h_y11 in_2 hf (tgt := 117) (by decide) d_C_judge_105 (fun hf => ?_) (fun hf => ?_)
              · exact hk19 I18 h_I18 hf
              · refine aw_aload_n rfl rfl d_C_judge_108 (ai_geti fl_C_40 h_o0 (by decide) rfl d_C_judge_109 ?_)
                refine ai_if_le (h_I18 o0 8) hf (tgt := 117) (by decide) d_C_judge_112 (fun hf => ?_) (fun hf => ?_)
                · exact hk19 I18 h_I18 hf
                · refine aw_iconst (v := iv 5) rfl d_C_judge_115 ?_
                  exact ai_reti rfl d_C_judge_116 hf in_5 h_I18
          refine ai_icmp_ne h_y11 in_1 hf (tgt := 95) (by decide) d_C_judge_83 (fun hf => ?_) (fun hf => ?_)
          · refine aw_weakB (lv2 := [.ref o0, uu, uu, uu, .int (iv x1), .int (iv y8), .int (iv y11)]) (wk_s (wk_u (wk_u (wk_u (wk_s (wk_s (wk_s wk_n))))))) ?_
            exact hk17 I15 h_I15 hf
          · refine aw_aload_n rfl rfl d_C_judge_86 (ai_geti fl_C_50 h_o0 (by decide) rfl d_C_judge_87 ?_)
            refine ai_if_ne (h_I15 o0 11) hf (tgt := 95) (by decide) d_C_judge_90 (fun hf => ?_) (fun hf => ?_)
            · refine aw_weakB (lv2 := [.ref o0, uu, uu, uu, .int (iv x1), .int (iv y8), .int (iv y11)]) (wk_s (wk_u (wk_u (wk_u (wk_s (wk_s (wk_s wk_n))))))) ?_
              exact hk17 I15 h_I15 hf
            · refine aw_iconst (v := iv 4) rfl d_C_judge_93 ?_
              exact ai_reti rfl d_C_judge_94 hf in_4 h_I15
        · refine aw_iconst (v := iv 3) rfl d_C_judge_78 ?_
          exact ai_reti rfl d_C_judge_79 hf in_3 h_I15
      · refine aw_iconst (v := iv 2) rfl d_C_judge_67 ?_
        exact ai_reti rfl d_C_judge_68 hf in_2 h_I15
    · refine aw_iconst (v := iv 1) rfl d_C_judge_29 ?_
      exact ai_reti rfl d_C_judge_30 hf in_1 h_I6
set_option maxRecDepth 20000 in
theorem t_S_pick (fu : Nat) (o0 : Nat) (a1 : Int) (a2 : Int) (I0 : IMem) (hI : RG I0) (h_o0 : KC[o0]? = some (11, 9)) (h_a1 : inr a1) (h_a2 : inr a2) {r : Int × IMem} (hf : f_S_pick fu o0 a1 a2 I0 = some r) : Ss l b 5 y_S_pick KC RC [.ref o0, .int (iv a1), .int (iv a2)] (ivm I0) (Ps r) := by
  unfold f_S_pick at hf
  refine Ss.of (show Ai l b 5 y_S_pick KC RC (Ps r) I0 0 [.ref o0, .int (iv a1), .int (iv a2)] [] from ?_)
  refine aw_aload_n rfl rfl d_S_pick_0 (aw_getr (r := o0 + 137) fl_S_33 h_o0 (by decide) rfl (rc_8_4 _ h_o0).1 d_S_pick_1 (aw_aload_n rfl rfl d_S_pick_4 (aw_getr (r := o0 + 1) fl_S_12 h_o0 (by decide) rfl (rc_8_0 _ h_o0).1 d_S_pick_5 (aw_iload_n rfl rfl d_S_pick_8 (aw_iload_n rfl rfl d_S_pick_9 ?_)))))
  obtain ⟨y1, I2, c3, hf⟩ := of_zb hf
  refine ai_callV (as := [.ref (o0 + 1), .int (iv a1), .int (iv a2)]) (d' := 4) (q := ("SinglesUp$Chair", zT0, 12)) mo_C_judge lk_S_173 (rc_8_4 _ h_o0).2 rfl rfl rfl ⟨by decide, by decide⟩ rfl rfl (by decide) d_S_pick_10 (t_C_judge fu (o0 + 137) (o0 + 1) a1 a2 I0 hI (rc_8_4 _ h_o0).2 (rc_8_0 _ h_o0).2 h_a1 h_a2 c3) (fun h_y1 h_I2 => ?_)
  exact ai_reti rfl d_S_pick_13 hf h_y1 h_I2
set_option maxRecDepth 20000 in
theorem t_H_draw (fu : Nat) (o0 : Nat) (a1 : Int) (I0 : IMem) (hI : RG I0) (h_o0 : KC[o0]? = some (5, 14)) (h_a1 : inr a1) {r : Int × IMem} (hf : f_H_draw fu o0 a1 I0 = some r) : Ss l b 1 y_H_draw KC RC [.ref o0, .int (iv a1)] (ivm I0) (Ps r) := by
  unfold f_H_draw at hf
  refine Ss.of (show Ai l b 1 y_H_draw KC RC (Ps r) I0 0 [.ref o0, .int (iv a1)] [] from ?_)
  refine aw_aload_n rfl rfl d_H_draw_0 (aw_aload_n rfl rfl d_H_draw_1 (ai_geti fl_H_70 h_o0 (by decide) rfl d_H_draw_2 (ai_ldc kc_H_76e kc_H_76 d_H_draw_5 (ai_imul d_H_draw_7 (ai_ldc kc_H_77e kc_H_77 d_H_draw_8 (ai_iadd d_H_draw_10 ?_))))))
  refine ai_puti hf hI (wr32_in _) fl_H_70 h_o0 (by decide) rfl rfl rfl rfl d_H_draw_11 (fun I1 h_I1 hf => ?_)
  refine aw_iload_n rfl rfl d_H_draw_14 ?_
  refine ai_if_le h_a1 hf (tgt := 30) (by decide) d_H_draw_15 (fun hf => ?_) (fun hf => ?_)
  · refine aw_iconst (v := iv 0) rfl d_H_draw_30 ?_
    exact ai_reti rfl d_H_draw_31 hf in_0 h_I1
  · refine aw_aload_n rfl rfl d_H_draw_18 (ai_geti fl_H_70 h_o0 (by decide) rfl d_H_draw_19 (aw_bipush (v := iv 8) cb_8 d_H_draw_22 (ai_iushr d_H_draw_24 (aw_iload_n rfl rfl d_H_draw_25 ?_))))
    refine ai_irem h_a1 hf d_H_draw_26 (fun _ hf => ?_)
    refine aw_goto (tgt := 31) (by decide) d_H_draw_27 ?_
    exact ai_reti rfl d_H_draw_31 hf (wrem_in _ _) h_I1
set_option maxRecDepth 20000 in
theorem t_H_pastAt (fu : Nat) (a0 : Int) (I0 : IMem) (hI : RG I0) (h_a0 : inr a0) {r : Int × IMem} (hf : f_H_pastAt fu a0 I0 = some r) : Ss l b 2 y_H_pastAt KC RC [.int (iv a0)] (ivm I0) (Ps r) := by
  unfold f_H_pastAt at hf
  refine Ss.of (show Ai l b 2 y_H_pastAt KC RC (Ps r) I0 0 [.int (iv a0)] [] from ?_)
  refine aw_iload_n rfl rfl d_H_pastAt_0 (aw_bipush (v := iv 60) cb_60 d_H_pastAt_1 ?_)
  obtain ⟨y1, I2, c3, hf⟩ := of_zb hf
  refine ai_callS (as := [.int (iv a0), .int (iv 60)]) (d' := 1) mo_JM_floorMod lk_H_119 rfl ⟨by decide, by decide⟩ rfl rfl (by decide) d_H_pastAt_3 (t_JM_floorMod fu a0 60 I0 hI h_a0 in_60 c3) (fun h_y1 h_I2 => ?_)
  refine aw_iconst (v := iv 3) rfl d_H_pastAt_6 (ai_imul d_H_pastAt_7 ?_)
  exact ai_reti rfl d_H_pastAt_8 hf (wr32_in _) h_I2
set_option maxRecDepth 20000 in
theorem t_H_close (fu : Nat) (o0 : Nat) (a1 : Int) (a2 : Int) (I0 : IMem) (hI : RG I0) (h_o0 : KC[o0]? = some (5, 14)) (h_a1 : inr a1) (h_a2 : inr a2) {r : Int × IMem} (hf : f_H_close fu o0 a1 a2 I0 = some r) : Ss l b 3 y_H_close KC RC [.ref o0, .int (iv a1), .int (iv a2)] (ivm I0) (Pv r) := by
  unfold f_H_close at hf
  refine Ss.of (show Ai l b 3 y_H_close KC RC (Pv r) I0 0 [.ref o0, .int (iv a1), .int (iv a2), uu] [] from ?_)
  refine aw_aload_n rfl rfl d_H_close_0 (aw_getr (r := o0 + 10) fl_H_37 h_o0 (by decide) rfl (rc_2_8 _ h_o0).1 d_H_close_1 (aw_iconst (v := iv 1) rfl d_H_close_4 (aw_dup2 rfl rfl d_H_close_5 (ai_ialdc (j := 1) (rc_2_8 _ h_o0).2 (by decide) (by decide) d_H_close_6 (aw_iload_n rfl rfl d_H_close_7 (ai_iadd d_H_close_8 ?_))))))
  refine ai_iastc (j := 1) (rc_2_8 _ h_o0).2 (by decide) (by decide) (wr32_in _) hI hf d_H_close_9 (fun I1 h_I1 hf => ?_)
  refine aw_aload_n rfl rfl d_H_close_10 (aw_getr (r := o0 + 10) fl_H_37 h_o0 (by decide) rfl (rc_2_8 _ h_o0).1 d_H_close_11 (aw_iconst (v := iv 3) rfl d_H_close_14 (aw_dup2 rfl rfl d_H_close_15 (ai_ialdc (j := 3) (rc_2_8 _ h_o0).2 (by decide) (by decide) d_H_close_16 (aw_aload_n rfl rfl d_H_close_17 (aw_getr (r := o0 + 1) fl_H_9 h_o0 (by decide) rfl (rc_2_0 _ h_o0).1 d_H_close_18 (aw_iconst (v := iv 1) rfl d_H_close_21 (ai_ialdc (j := 1) (rc_2_0 _ h_o0).2 (by decide) (by decide) d_H_close_22 (ai_iadd d_H_close_23 ?_)))))))))
  refine ai_iastc (j := 3) (rc_2_8 _ h_o0).2 (by decide) (by decide) (wr32_in _) h_I1 hf d_H_close_24 (fun I2 h_I2 hf => ?_)
  refine aw_aload_n rfl rfl d_H_close_25 (aw_getr (r := o0 + 1) fl_H_9 h_o0 (by decide) rfl (rc_2_0 _ h_o0).1 d_H_close_26 (aw_iconst (v := iv 3) rfl d_H_close_29 (ai_ialdc (j := 3) (rc_2_0 _ h_o0).2 (by decide) (by decide) d_H_close_30 ?_)))
  obtain ⟨k3, ek3, hf⟩ := of_zj hf
  have hk3 : ∀  (I4 : IMem), RG I4 → k3 I4 = some r → Ai l b 3 y_H_close KC RC (Pv r) I4 75 [.ref o0, .int (iv a1), .int (iv a2), uu] [] := by
    intro I4 h_I4 hf
    subst ek3
    refine aw_aload_n rfl rfl d_H_close_75 (aw_getr (r := o0 + 11) fl_H_40 h_o0 (by decide) rfl (rc_2_9 _ h_o0).1 d_H_close_76 (aw_iconst (v := iv 0) rfl d_H_close_79 (aw_iload_n rfl rfl d_H_close_80 ?_)))
    refine ai_iastc (j := 0) (rc_2_9 _ h_o0).2 (by decide) (by decide) h_a2 h_I4 hf d_H_close_81 (fun I5 h_I5 hf => ?_)
    refine aw_aload_n rfl rfl d_H_close_82 (aw_getr (r := o0 + 11) fl_H_40 h_o0 (by decide) rfl (rc_2_9 _ h_o0).1 d_H_close_83 (aw_iconst (v := iv 1) rfl d_H_close_86 (aw_iload_n rfl rfl d_H_close_87 ?_)))
    refine ai_iastc (j := 1) (rc_2_9 _ h_o0).2 (by decide) (by decide) h_a1 h_I5 hf d_H_close_88 (fun I6 h_I6 hf => ?_)
    refine aw_aload_n rfl rfl d_H_close_89 (aw_getr (r := o0 + 10) fl_H_37 h_o0 (by decide) rfl (rc_2_8 _ h_o0).1 d_H_close_90 (aw_iconst (v := iv 0) rfl d_H_close_93 (ai_ialdc (j := 0) (rc_2_8 _ h_o0).2 (by decide) (by decide) d_H_close_94 ?_)))
    obtain ⟨y7, I8, c9, hf⟩ := of_zb hf
    refine ai_callS (as := [.int (iv (I6 (o0 + 10) 0))]) (d' := 2) mo_H_pastAt lk_H_116 rfl ⟨by decide, by decide⟩ rfl rfl (by decide) d_H_close_95 (t_H_pastAt fu (I6 (o0 + 10) 0) I6 h_I6 (h_I6 (o0 + 10) 0) c9) (fun h_y7 h_I8 => ?_)
    refine aw_istore_n (lv2 := [.ref o0, .int (iv a1), .int (iv a2), .int (iv y7)]) rfl (Nat.le_of_ble_eq_true rfl) rfl d_H_close_98 (aw_aload_n rfl rfl d_H_close_99 (aw_getr (r := o0 + 12) fl_H_43 h_o0 (by decide) rfl (rc_2_10 _ h_o0).1 d_H_close_100 (aw_iload_n rfl rfl d_H_close_103 (aw_iload_n rfl rfl d_H_close_104 ?_))))
    refine ai_iast (rc_2_10 _ h_o0).2 rfl h_y7 h_a1 h_I8 hf d_H_close_105 (fun _ I10 h_I10 hf => ?_)
    refine aw_aload_n rfl rfl d_H_close_106 (aw_getr (r := o0 + 12) fl_H_43 h_o0 (by decide) rfl (rc_2_10 _ h_o0).1 d_H_close_107 (aw_iload_n rfl rfl d_H_close_110 (aw_iconst (v := iv 1) rfl d_H_close_111 (ai_iadd d_H_close_112 (aw_iload_n rfl rfl d_H_close_113 ?_)))))
    refine ai_nameU hf (wr32_in _) (fun x12 h_x12 hf => ?_)
    refine ai_iast (rc_2_10 _ h_o0).2 rfl h_x12 h_a2 h_I10 hf d_H_close_114 (fun _ I11 h_I11 hf => ?_)
    refine aw_aload_n rfl rfl d_H_close_115 (aw_getr (r := o0 + 12) fl_H_43 h_o0 (by decide) rfl (rc_2_10 _ h_o0).1 d_H_close_116 (aw_iload_n rfl rfl d_H_close_119 (aw_iconst (v := iv 2) rfl d_H_close_120 (ai_iadd d_H_close_121 (aw_aload_n rfl rfl d_H_close_122 (aw_getr (r := o0 + 10) fl_H_37 h_o0 (by decide) rfl (rc_2_8 _ h_o0).1 d_H_close_123 (aw_iconst (v := iv 3) rfl d_H_close_126 (ai_ialdc (j := 3) (rc_2_8 _ h_o0).2 (by decide) (by decide) d_H_close_127 ?_))))))))
    refine ai_nameU hf (wr32_in _) (fun x14 h_x14 hf => ?_)
    refine ai_iast (rc_2_10 _ h_o0).2 rfl h_x14 (h_I11 (o0 + 10) 3) h_I11 hf d_H_close_128 (fun _ I13 h_I13 hf => ?_)
    refine aw_aload_n rfl rfl d_H_close_129 (aw_getr (r := o0 + 10) fl_H_37 h_o0 (by decide) rfl (rc_2_8 _ h_o0).1 d_H_close_130 (aw_iconst (v := iv 0) rfl d_H_close_133 (aw_dup2 rfl rfl d_H_close_134 (ai_ialdc (j := 0) (rc_2_8 _ h_o0).2 (by decide) (by decide) d_H_close_135 (aw_iconst (v := iv 1) rfl d_H_close_136 (ai_iadd d_H_close_137 ?_))))))
    refine ai_iastc (j := 0) (rc_2_8 _ h_o0).2 (by decide) (by decide) (wr32_in _) h_I13 hf d_H_close_138 (fun I15 h_I15 hf => ?_)
    exact ai_retv rfl d_H_close_139 hf h_I15
  refine ai_if_le (h_I2 (o0 + 1) 3) hf (tgt := 75) (by decide) d_H_close_31 (fun hf => ?_) (fun hf => ?_)
  · exact hk3 I2 h_I2 hf
  · refine aw_aload_n rfl rfl d_H_close_34 (aw_sipush (v := iv 1000) cs_1000 d_H_close_35 ?_)
    obtain ⟨y16, I17, c18, hf⟩ := of_zb hf
    refine ai_callV (as := [.int (iv 1000)]) (d' := 1) (q := ("SinglesUp$Hill", zT2, 14)) mo_H_draw lk_H_78 h_o0 rfl rfl rfl ⟨by decide, by decide⟩ rfl rfl (by decide) d_H_close_38 (t_H_draw fu o0 1000 I2 h_I2 h_o0 in_1000 c18) (fun h_y16 h_I17 => ?_)
    refine aw_aload_n rfl rfl d_H_close_41 (aw_getr (r := o0 + 1) fl_H_9 h_o0 (by decide) rfl (rc_2_0 _ h_o0).1 d_H_close_42 (aw_iconst (v := iv 3) rfl d_H_close_45 (ai_ialdc (j := 3) (rc_2_0 _ h_o0).2 (by decide) (by decide) d_H_close_46 ?_)))
    refine ai_icmp_ge h_y16 (h_I17 (o0 + 1) 3) hf (tgt := 75) (by decide) d_H_close_47 (fun hf => ?_) (fun hf => ?_)
    · exact hk3 I17 h_I17 hf
    · refine aw_aload_n rfl rfl d_H_close_50 (aw_getr (r := o0 + 10) fl_H_37 h_o0 (by decide) rfl (rc_2_8 _ h_o0).1 d_H_close_51 (aw_iconst (v := iv 3) rfl d_H_close_54 (aw_dup2 rfl rfl d_H_close_55 (ai_ialdc (j := 3) (rc_2_8 _ h_o0).2 (by decide) (by decide) d_H_close_56 (aw_aload_n rfl rfl d_H_close_57 (aw_getr (r := o0 + 1) fl_H_9 h_o0 (by decide) rfl (rc_2_0 _ h_o0).1 d_H_close_58 (aw_iconst (v := iv 2) rfl d_H_close_61 (ai_ialdc (j := 2) (rc_2_0 _ h_o0).2 (by decide) (by decide) d_H_close_62 (ai_iadd d_H_close_63 ?_)))))))))
      refine ai_iastc (j := 3) (rc_2_8 _ h_o0).2 (by decide) (by decide) (wr32_in _) h_I17 hf d_H_close_64 (fun I19 h_I19 hf => ?_)
      refine aw_aload_n rfl rfl d_H_close_65 (aw_getr (r := o0 + 10) fl_H_37 h_o0 (by decide) rfl (rc_2_8 _ h_o0).1 d_H_close_66 (aw_iconst (v := iv 4) rfl d_H_close_69 (aw_dup2 rfl rfl d_H_close_70 (ai_ialdc (j := 4) (rc_2_8 _ h_o0).2 (by decide) (by decide) d_H_close_71 (aw_iconst (v := iv 1) rfl d_H_close_72 (ai_iadd d_H_close_73 ?_))))))
      refine ai_iastc (j := 4) (rc_2_8 _ h_o0).2 (by decide) (by decide) (wr32_in _) h_I19 hf d_H_close_74 (fun I20 h_I20 hf => ?_)
      exact hk3 I20 h_I20 hf
set_option maxRecDepth 20000 in
theorem t_H_note (fu : Nat) (o0 : Nat) (a1 : Int) (a2 : Int) (a3 : Int) (I0 : IMem) (hI : RG I0) (h_o0 : KC[o0]? = some (5, 14)) (h_a1 : inr a1) (h_a2 : inr a2) (h_a3 : inr a3) {r : Int × IMem} (hf : f_H_note fu o0 a1 a2 a3 I0 = some r) : Ss l b 2 y_H_note KC RC [.ref o0, .int (iv a1), .int (iv a2), .int (iv a3)] (ivm I0) (Pv r) := by
  unfold f_H_note at hf
  refine Ss.of (show Ai l b 2 y_H_note KC RC (Pv r) I0 0 [.ref o0, .int (iv a1), .int (iv a2), .int (iv a3), uu] [] from ?_)
  refine aw_iload_n rfl rfl d_H_note_0 ?_
  refine ai_if_lt h_a1 hf (tgt := 21) (by decide) d_H_note_1 (fun hf => ?_) (fun hf => ?_)
  · exact ai_retv rfl d_H_note_21 hf hI
  · refine aw_iload_n rfl rfl d_H_note_4 (aw_bipush (v := iv 8) cb_8 d_H_note_5 ?_)
    refine ai_icmp_ge h_a1 in_8 hf (tgt := 21) (by decide) d_H_note_7 (fun hf => ?_) (fun hf => ?_)
    · exact ai_retv rfl d_H_note_21 hf hI
    · refine aw_iload_n rfl rfl d_H_note_10 (aw_iconst (v := iv 1) rfl d_H_note_11 ?_)
      refine ai_icmp_lt h_a3 in_1 hf (tgt := 21) (by decide) d_H_note_12 (fun hf => ?_) (fun hf => ?_)
      · exact ai_retv rfl d_H_note_21 hf hI
      · refine aw_iload_n rfl rfl d_H_note_15 (aw_bipush (v := iv 8) cb_8 d_H_note_16 ?_)
        refine ai_icmp_le h_a3 in_8 hf (tgt := 22) (by decide) d_H_note_18 (fun hf => ?_) (fun hf => ?_)
        · refine aw_aload_n rfl rfl d_H_note_22 (aw_getr (r := o0 + 6) fl_H_33 h_o0 (by decide) rfl (rc_2_5 _ h_o0).1 d_H_note_23 (aw_iload_n rfl rfl d_H_note_26 (aw_iconst (v := iv 4) rfl d_H_note_27 ?_)))
          obtain ⟨y1, I2, c3, hf⟩ := of_zb hf
          refine ai_callV (as := [.int (iv a2), .int (iv 4)]) (d' := 1) (q := ("SinglesUp$Lines", zT4, 3)) mo_L_get lk_H_105 (rc_2_5 _ h_o0).2 rfl rfl rfl ⟨by decide, by decide⟩ rfl rfl (by decide) d_H_note_28 (t_L_get fu (o0 + 6) a2 4 I0 hI (rc_2_5 _ h_o0).2 h_a2 in_4 c3) (fun h_y1 h_I2 => ?_)
          refine aw_istore (lv2 := [.ref o0, .int (iv a1), .int (iv a2), .int (iv a3), .int (iv y1)]) (Nat.le_of_ble_eq_true rfl) rfl d_H_note_31 (aw_aload_n rfl rfl d_H_note_33 (aw_getr (r := o0 + 10) fl_H_37 h_o0 (by decide) rfl (rc_2_8 _ h_o0).1 d_H_note_34 (aw_bipush (v := iv 10) cb_10 d_H_note_37 (aw_iload_n rfl rfl d_H_note_39 (ai_iadd d_H_note_40 ?_)))))
          refine ai_name hf (wr32_in _) (fun x4 h_x4 hf => ?_)
          refine aw_dup2 rfl rfl d_H_note_41 ?_
          refine ai_iald (rc_2_8 _ h_o0).2 rfl h_x4 hf d_H_note_42 (fun _ hf => ?_)
          refine aw_iconst (v := iv 1) rfl d_H_note_43 (ai_iadd d_H_note_44 ?_)
          refine ai_iast (rc_2_8 _ h_o0).2 rfl h_x4 (wr32_in _) h_I2 hf d_H_note_45 (fun _ I5 h_I5 hf => ?_)
          refine aw_aload_n rfl rfl d_H_note_46 (aw_getr (r := o0 + 10) fl_H_37 h_o0 (by decide) rfl (rc_2_8 _ h_o0).1 d_H_note_47 (aw_bipush (v := iv 20) cb_20 d_H_note_50 (aw_iload_n rfl rfl d_H_note_52 (ai_iadd d_H_note_53 ?_))))
          refine ai_name hf (wr32_in _) (fun x6 h_x6 hf => ?_)
          refine aw_dup2 rfl rfl d_H_note_54 ?_
          refine ai_iald (rc_2_8 _ h_o0).2 rfl h_x6 hf d_H_note_55 (fun _ hf => ?_)
          refine aw_iload rfl d_H_note_56 (ai_iadd d_H_note_58 ?_)
          refine ai_iast (rc_2_8 _ h_o0).2 rfl h_x6 (wr32_in _) h_I5 hf d_H_note_59 (fun _ I7 h_I7 hf => ?_)
          refine aw_aload_n rfl rfl d_H_note_60 (aw_getr (r := o0 + 10) fl_H_37 h_o0 (by decide) rfl (rc_2_8 _ h_o0).1 d_H_note_61 (aw_bipush (v := iv 30) cb_30 d_H_note_64 (aw_iload_n rfl rfl d_H_note_66 (ai_iadd d_H_note_67 (aw_aload_n rfl rfl d_H_note_68 (aw_getr (r := o0 + 10) fl_H_37 h_o0 (by decide) rfl (rc_2_8 _ h_o0).1 d_H_note_69 (aw_bipush (v := iv 30) cb_30 d_H_note_72 (aw_iload_n rfl rfl d_H_note_74 (ai_iadd d_H_note_75 ?_)))))))))
          refine ai_name hf (wr32_in _) (fun x8 h_x8 hf => ?_)
          refine ai_iald (rc_2_8 _ h_o0).2 rfl h_x8 hf d_H_note_76 (fun _ hf => ?_)
          refine aw_iload rfl d_H_note_77 ?_
          obtain ⟨y9, I10, c11, hf⟩ := of_zb hf
          refine ai_callS (as := [.int (iv (I7 (o0 + 10) x8.toNat)), .int (iv y1)]) (d' := 1) mo_JM_max lk_H_111 rfl ⟨by decide, by decide⟩ rfl rfl (by decide) d_H_note_79 (t_JM_max fu (I7 (o0 + 10) x8.toNat) y1 I7 h_I7 (h_I7 (o0 + 10) x8.toNat) h_y1 c11) (fun h_y9 h_I10 => ?_)
          refine ai_nameU hf (wr32_in _) (fun x13 h_x13 hf => ?_)
          refine ai_iast (rc_2_8 _ h_o0).2 rfl h_x13 h_y9 h_I10 hf d_H_note_82 (fun _ I12 h_I12 hf => ?_)
          refine aw_aload_n rfl rfl d_H_note_83 (aw_getr (r := o0 + 10) fl_H_37 h_o0 (by decide) rfl (rc_2_8 _ h_o0).1 d_H_note_84 (aw_iconst (v := iv 2) rfl d_H_note_87 (aw_dup2 rfl rfl d_H_note_88 (ai_ialdc (j := 2) (rc_2_8 _ h_o0).2 (by decide) (by decide) d_H_note_89 (aw_iload_n rfl rfl d_H_note_90 (ai_iadd d_H_note_91 ?_))))))
          refine ai_iastc (j := 2) (rc_2_8 _ h_o0).2 (by decide) (by decide) (wr32_in _) h_I12 hf d_H_note_92 (fun I14 h_I14 hf => ?_)
          refine aw_aload_n rfl rfl d_H_note_93 (aw_getr (r := o0 + 11) fl_H_40 h_o0 (by decide) rfl (rc_2_9 _ h_o0).1 d_H_note_94 (aw_bipush (v := iv 10) cb_10 d_H_note_97 (aw_iload_n rfl rfl d_H_note_99 (ai_iadd d_H_note_100 (aw_aload_n rfl rfl d_H_note_101 (aw_getr (r := o0 + 6) fl_H_33 h_o0 (by decide) rfl (rc_2_5 _ h_o0).1 d_H_note_102 (aw_iload_n rfl rfl d_H_note_105 (aw_iconst (v := iv 0) rfl d_H_note_106 ?_))))))))
          obtain ⟨y15, I16, c17, hf⟩ := of_zb hf
          refine ai_callV (as := [.int (iv a2), .int (iv 0)]) (d' := 1) (q := ("SinglesUp$Lines", zT4, 3)) mo_L_get lk_H_105 (rc_2_5 _ h_o0).2 rfl rfl rfl ⟨by decide, by decide⟩ rfl rfl (by decide) d_H_note_107 (t_L_get fu (o0 + 6) a2 0 I14 h_I14 (rc_2_5 _ h_o0).2 h_a2 in_0 c17) (fun h_y15 h_I16 => ?_)
          refine ai_nameU hf (wr32_in _) (fun x19 h_x19 hf => ?_)
          refine ai_iast (rc_2_9 _ h_o0).2 rfl h_x19 h_y15 h_I16 hf d_H_note_110 (fun _ I18 h_I18 hf => ?_)
          refine aw_aload_n rfl rfl d_H_note_111 (aw_getr (r := o0 + 11) fl_H_40 h_o0 (by decide) rfl (rc_2_9 _ h_o0).1 d_H_note_112 (aw_bipush (v := iv 20) cb_20 d_H_note_115 (aw_iload_n rfl rfl d_H_note_117 (ai_iadd d_H_note_118 (aw_iload_n rfl rfl d_H_note_119 ?_)))))
          refine ai_nameU hf (wr32_in _) (fun x21 h_x21 hf => ?_)
          refine ai_iast (rc_2_9 _ h_o0).2 rfl h_x21 h_a3 h_I18 hf d_H_note_120 (fun _ I20 h_I20 hf => ?_)
          exact ai_retv rfl d_H_note_121 hf h_I20
        · exact ai_retv rfl d_H_note_21 hf hI
set_option maxRecDepth 20000 in
theorem t_L_put (fu : Nat) (o0 : Nat) (a1 : Int) (a2 : Int) (a3 : Int) (I0 : IMem) (hI : RG I0) (h_o0 : KC[o0]? = some (7, 3)) (h_a1 : inr a1) (h_a2 : inr a2) (h_a3 : inr a3) {r : Int × IMem} (hf : f_L_put fu o0 a1 a2 a3 I0 = some r) : Ss l b 1 y_L_put KC RC [.ref o0, .int (iv a1), .int (iv a2), .int (iv a3)] (ivm I0) (Pv r) := by
  unfold f_L_put at hf
  refine Ss.of (show Ai l b 1 y_L_put KC RC (Pv r) I0 0 [.ref o0, .int (iv a1), .int (iv a2), .int (iv a3), uu] [] from ?_)
  refine aw_iload_n rfl rfl d_L_put_0 (aw_bipush (v := iv 6) cb_6 d_L_put_1 (ai_imul d_L_put_3 (aw_iload_n rfl rfl d_L_put_4 (ai_iadd d_L_put_5 ?_))))
  refine ai_name hf (wr32_in _) (fun x1 h_x1 hf => ?_)
  refine aw_istore (lv2 := [.ref o0, .int (iv a1), .int (iv a2), .int (iv a3), .int (iv x1)]) (Nat.le_of_ble_eq_true rfl) rfl d_L_put_6 ?_
  refine aw_iload rfl d_L_put_8 ?_
  refine ai_if_lt h_x1 hf (tgt := 31) (by decide) d_L_put_10 (fun hf => ?_) (fun hf => ?_)
  · exact ai_retv rfl d_L_put_31 hf hI
  · refine aw_iload rfl d_L_put_13 (aw_aload_n rfl rfl d_L_put_15 (aw_getr (r := o0 + 1) fl_L_9 h_o0 (by decide) rfl (rc_4_0 _ h_o0).1 d_L_put_16 (ai_alen (N := 1440) (rc_4_0 _ h_o0).2 (by decide) rfl (by decide) d_L_put_19 ?_)))
    refine ai_icmp_ge h_x1 in_1440 hf (tgt := 31) (by decide) d_L_put_20 (fun hf => ?_) (fun hf => ?_)
    · exact ai_retv rfl d_L_put_31 hf hI
    · refine aw_aload_n rfl rfl d_L_put_23 (aw_getr (r := o0 + 1) fl_L_9 h_o0 (by decide) rfl (rc_4_0 _ h_o0).1 d_L_put_24 (aw_iload rfl d_L_put_27 (aw_iload_n rfl rfl d_L_put_29 ?_)))
      refine ai_iast (rc_4_0 _ h_o0).2 rfl h_x1 h_a3 hI hf d_L_put_30 (fun _ I2 h_I2 hf => ?_)
      exact ai_retv rfl d_L_put_31 hf h_I2
set_option maxRecDepth 20000 in
theorem t_L_rearmostSitting_9 (fu : Nat) {r : Int × IMem} (o1 n1 : Nat) (p2 : Int) (h_o1 : KC[o1]? = some (0, n1) ∧ n1 < 1000000) (h_p2 : inr p2) : ∀ (m : Nat) (w3 : Int) (I0 : IMem), inr w3 → RG I0 → f_L_rearmostSitting_9 fu o1 n1 p2 m w3 I0 = some r → Ai l b 1 y_L_rearmostSitting KC RC (Ps r) I0 9 [uu, .ref o1, .int (iv p2), .int (iv w3), uu] [] := by
  intro m
  induction m with
  | zero => intro w3 I0 h_w3 h_I0 hf; cases hf
  | succ m ih =>
    intro w3 I0 h_w3 h_I0 hf
    replace hf : fb_L_rearmostSitting_9 fu o1 n1 p2 (f_L_rearmostSitting_9 fu o1 n1 p2 m) w3 I0 = some r := hf
    unfold fb_L_rearmostSitting_9 at hf
    refine aw_iload_n rfl rfl d_L_rearmostSitting_9 ?_
    refine ai_if_lt h_w3 hf (tgt := 52) (by decide) d_L_rearmostSitting_10 (fun hf => ?_) (fun hf => ?_)
    · refine aw_iconst (v := iv (-1)) rfl d_L_rearmostSitting_52 ?_
      exact ai_reti rfl d_L_rearmostSitting_53 hf in_m1 h_I0
    · refine aw_iload_n rfl rfl d_L_rearmostSitting_13 (aw_bipush (v := iv 40) cb_40 d_L_rearmostSitting_14 (ai_imul d_L_rearmostSitting_16 (aw_iload_n rfl rfl d_L_rearmostSitting_17 (ai_iadd d_L_rearmostSitting_18 ?_))))
      refine ai_name hf (wr32_in _) (fun x2 h_x2 hf => ?_)
      refine aw_istore (lv2 := [uu, .ref o1, .int (iv p2), .int (iv w3), .int (iv x2)]) (Nat.le_of_ble_eq_true rfl) rfl d_L_rearmostSitting_19 ?_
      refine aw_iload rfl d_L_rearmostSitting_21 (aw_aload_n rfl rfl d_L_rearmostSitting_23 (ai_alen (N := n1) h_o1.1 (by decide) rfl h_o1.2 d_L_rearmostSitting_24 ?_))
      obtain ⟨k3, ek3, hf⟩ := of_zj hf
      have hk3 : ∀  (I4 : IMem), RG I4 → k3 I4 = some r → Ai l b 1 y_L_rearmostSitting KC RC (Ps r) I4 46 [uu, .ref o1, .int (iv p2), .int (iv w3), uu] [] := by
        intro I4 h_I4 hf
        subst ek3
        refine ai_iinc (n := (-1)) (lv2 := fun x5 => [uu, .ref o1, .int (iv p2), .int (iv x5), uu]) hf rfl (Nat.le_of_ble_eq_true rfl) (fun _ => rfl) d_L_rearmostSitting_46 (fun x5 h_x5 hf => ?_)
        refine aw_goto (tgt := 9) (by decide) d_L_rearmostSitting_49 ?_
        exact ih x5 I4 h_x5 h_I4 hf
      refine ai_icmp_ge h_x2 (nat_in h_o1.2) hf (tgt := 46) (by decide) d_L_rearmostSitting_25 (fun hf => ?_) (fun hf => ?_)
      · refine aw_weakB (lv2 := [uu, .ref o1, .int (iv p2), .int (iv w3), uu]) (wk_u (wk_s (wk_s (wk_s (wk_u wk_n))))) ?_
        exact hk3 I0 h_I0 hf
      · refine aw_aload_n rfl rfl d_L_rearmostSitting_28 (aw_iload rfl d_L_rearmostSitting_29 ?_)
        refine ai_iald h_o1.1 rfl h_x2 hf d_L_rearmostSitting_31 (fun _ hf => ?_)
        refine aw_iconst (v := iv 1) rfl d_L_rearmostSitting_32 ?_
        refine ai_icmp_eq (h_I0 o1 x2.toNat) in_1 hf (tgt := 44) (by decide) d_L_rearmostSitting_33 (fun hf => ?_) (fun hf => ?_)
        · refine aw_iload_n rfl rfl d_L_rearmostSitting_44 ?_
          exact ai_reti rfl d_L_rearmostSitting_45 hf h_w3 h_I0
        · refine aw_aload_n rfl rfl d_L_rearmostSitting_36 (aw_iload rfl d_L_rearmostSitting_37 ?_)
          refine ai_iald h_o1.1 rfl h_x2 hf d_L_rearmostSitting_39 (fun _ hf => ?_)
          refine aw_iconst (v := iv 3) rfl d_L_rearmostSitting_40 ?_
          refine ai_icmp_ne (h_I0 o1 x2.toNat) in_3 hf (tgt := 46) (by decide) d_L_rearmostSitting_41 (fun hf => ?_) (fun hf => ?_)
          · refine aw_weakB (lv2 := [uu, .ref o1, .int (iv p2), .int (iv w3), uu]) (wk_u (wk_s (wk_s (wk_s (wk_u wk_n))))) ?_
            exact hk3 I0 h_I0 hf
          · refine aw_iload_n rfl rfl d_L_rearmostSitting_44 ?_
            exact ai_reti rfl d_L_rearmostSitting_45 hf h_w3 h_I0
set_option maxRecDepth 20000 in
theorem t_L_rearmostSitting (fu : Nat) (o0 : Nat) (o1 n1 : Nat) (a2 : Int) (I0 : IMem) (hI : RG I0) (h_o0 : KC[o0]? = some (7, 3)) (h_o1 : KC[o1]? = some (0, n1) ∧ n1 < 1000000) (h_a2 : inr a2) {r : Int × IMem} (hf : f_L_rearmostSitting fu o0 o1 n1 a2 I0 = some r) : Ss l b 1 y_L_rearmostSitting KC RC [.ref o0, .ref o1, .int (iv a2)] (ivm I0) (Ps r) := by
  unfold f_L_rearmostSitting at hf
  refine Ss.of (show Ai l b 1 y_L_rearmostSitting KC RC (Ps r) I0 0 [.ref o0, .ref o1, .int (iv a2), uu, uu] [] from ?_)
  refine aw_aload_n rfl rfl d_L_rearmostSitting_0 (aw_getr (r := o0 + 2) fl_L_15 h_o0 (by decide) rfl (rc_4_1 _ h_o0).1 d_L_rearmostSitting_1 (aw_iload_n rfl rfl d_L_rearmostSitting_4 ?_))
  refine ai_iald (rc_4_1 _ h_o0).2 rfl h_a2 hf d_L_rearmostSitting_5 (fun _ hf => ?_)
  refine aw_iconst (v := iv 1) rfl d_L_rearmostSitting_6 (ai_isub d_L_rearmostSitting_7 ?_)
  refine ai_name hf (wr32_in _) (fun x1 h_x1 hf => ?_)
  refine aw_istore_n (lv2 := [.ref o0, .ref o1, .int (iv a2), .int (iv x1), uu]) rfl (Nat.le_of_ble_eq_true rfl) rfl d_L_rearmostSitting_8 ?_
  refine aw_weakB (lv2 := [uu, .ref o1, .int (iv a2), .int (iv x1), uu]) (wk_u (wk_s (wk_s (wk_s (wk_u wk_n))))) ?_
  refine t_L_rearmostSitting_9 fu o1 n1 a2 h_o1 h_a2 fu x1 I0 h_x1 hI hf
set_option maxRecDepth 20000 in
theorem t_L_depart_21 (fu : Nat) {r : Int × IMem} (k_159 : Int → IMem → Res) (o0 : Nat) (o1 n1 : Nat) (p2 : Int) (p3 : Int) (h_o0 : KC[o0]? = some (7, 3)) (h_o1 : KC[o1]? = some (0, n1) ∧ n1 < 1000000) (h_p2 : inr p2) (h_p3 : inr p3) (hk_159 : ∀ (z4 : Int) (I9 : IMem), inr z4 → RG I9 → k_159 z4 I9 = some r → Ai l b 2 y_L_depart KC RC (Pv r) I9 159 [.ref o0, .ref o1, .int (iv p2), uu, .int (iv z4), uu, uu, uu, uu] []) : ∀ (m : Nat) (w4 : Int) (w5 : Int) (I0 : IMem), inr w4 → inr w5 → RG I0 → f_L_depart_21 fu k_159 o0 o1 n1 p2 p3 m w4 w5 I0 = some r → Ai l b 2 y_L_depart KC RC (Pv r) I0 21 [.ref o0, .ref o1, .int (iv p2), .int (iv p3), .int (iv w4), .int (iv w5), uu, uu, uu] [] := by
  intro m
  induction m with
  | zero => intro w4 w5 I0 h_w4 h_w5 h_I0 hf; cases hf
  | succ m ih =>
    intro w4 w5 I0 h_w4 h_w5 h_I0 hf
    replace hf : fb_L_depart_21 fu k_159 o0 o1 n1 p2 p3 (f_L_depart_21 fu k_159 o0 o1 n1 p2 p3 m) w4 w5 I0 = some r := hf
    unfold fb_L_depart_21 at hf
    refine aw_iload rfl d_L_depart_21 (aw_aload_n rfl rfl d_L_depart_23 (aw_getr (r := o0 + 2) fl_L_15 h_o0 (by decide) rfl (rc_4_1 _ h_o0).1 d_L_depart_24 (aw_iload_n rfl rfl d_L_depart_27 ?_)))
    refine ai_iald (rc_4_1 _ h_o0).2 rfl h_p2 hf d_L_depart_28 (fun _ hf => ?_)
    refine ai_icmp_ge h_w5 (h_I0 (o0 + 2) p2.toNat) hf (tgt := 159) (by decide) d_L_depart_29 (fun hf => ?_) (fun hf => ?_)
    · refine aw_weakB (lv2 := [.ref o0, .ref o1, .int (iv p2), uu, .int (iv w4), uu, uu, uu, uu]) (wk_s (wk_s (wk_s (wk_u (wk_s (wk_u (wk_u (wk_u (wk_u wk_n))))))))) ?_
      exact hk_159 w4 I0 h_w4 h_I0 hf
    · refine aw_iload rfl d_L_depart_32 (aw_bipush (v := iv 40) cb_40 d_L_depart_34 ?_)
      refine ai_icmp_ge h_w5 in_40 hf (tgt := 159) (by decide) d_L_depart_36 (fun hf => ?_) (fun hf => ?_)
      · refine aw_weakB (lv2 := [.ref o0, .ref o1, .int (iv p2), uu, .int (iv w4), uu, uu, uu, uu]) (wk_s (wk_s (wk_s (wk_u (wk_s (wk_u (wk_u (wk_u (wk_u wk_n))))))))) ?_
        exact hk_159 w4 I0 h_w4 h_I0 hf
      · refine aw_iload_n rfl rfl d_L_depart_39 (aw_bipush (v := iv 40) cb_40 d_L_depart_40 (ai_imul d_L_depart_42 (aw_iload rfl d_L_depart_43 (ai_iadd d_L_depart_45 ?_))))
        refine ai_name hf (wr32_in _) (fun x4 h_x4 hf => ?_)
        refine aw_istore (lv2 := [.ref o0, .ref o1, .int (iv p2), .int (iv p3), .int (iv w4), .int (iv w5), .int (iv x4), uu, uu]) (Nat.le_of_ble_eq_true rfl) rfl d_L_depart_46 ?_
        refine aw_iload rfl d_L_depart_48 (aw_aload_n rfl rfl d_L_depart_50 (ai_alen (N := n1) h_o1.1 (by decide) rfl h_o1.2 d_L_depart_51 ?_))
        obtain ⟨k5, ek5, hf⟩ := of_zj hf
        have hk5 : ∀ (x7 : Int) (I6 : IMem), inr x7 → RG I6 → k5 x7 I6 = some r → Ai l b 2 y_L_depart KC RC (Pv r) I6 63 [.ref o0, .ref o1, .int (iv p2), .int (iv p3), .int (iv w4), .int (iv w5), .int (iv x4), uu, uu] [.int (iv x7)] := by
          intro x7 I6 h_x7 h_I6 hf
          subst ek5
          refine aw_istore (lv2 := [.ref o0, .ref o1, .int (iv p2), .int (iv p3), .int (iv w4), .int (iv w5), .int (iv x4), .int (iv x7), uu]) (Nat.le_of_ble_eq_true rfl) rfl d_L_depart_63 (aw_iload rfl d_L_depart_65 ?_)
          obtain ⟨k8, ek8, hf⟩ := of_zj hf
          have hk8 : ∀ (x10 : Int) (I9 : IMem), inr x10 → RG I9 → k8 x10 I9 = some r → Ai l b 2 y_L_depart KC RC (Pv r) I9 153 [.ref o0, .ref o1, .int (iv p2), .int (iv p3), .int (iv x10), .int (iv w5), uu, uu, uu] [] := by
            intro x10 I9 h_x10 h_I9 hf
            subst ek8
            refine ai_iinc (n := 1) (lv2 := fun x11 => [.ref o0, .ref o1, .int (iv p2), .int (iv p3), .int (iv x10), .int (iv x11), uu, uu, uu]) hf rfl (Nat.le_of_ble_eq_true rfl) (fun _ => rfl) d_L_depart_153 (fun x11 h_x11 hf => ?_)
            refine aw_goto (tgt := 21) (by decide) d_L_depart_156 ?_
            exact ih x10 x11 I9 h_x10 h_x11 h_I9 hf
          obtain ⟨k12, ek12, hf⟩ := of_zj hf
          have hk12 : ∀  (I13 : IMem), RG I13 → k12 I13 = some r → Ai l b 2 y_L_depart KC RC (Pv r) I13 76 [.ref o0, .ref o1, .int (iv p2), .int (iv p3), .int (iv w4), .int (iv w5), .int (iv x4), uu, uu] [] := by
            intro I13 h_I13 hf
            subst ek12
            refine aw_iload_n rfl rfl d_L_depart_76 (aw_bipush (v := iv 40) cb_40 d_L_depart_77 (ai_imul d_L_depart_79 (aw_iload rfl d_L_depart_80 (ai_iadd d_L_depart_82 ?_))))
            refine ai_name hf (wr32_in _) (fun x14 h_x14 hf => ?_)
            refine aw_istore (lv2 := [.ref o0, .ref o1, .int (iv p2), .int (iv p3), .int (iv w4), .int (iv w5), .int (iv x4), uu, .int (iv x14)]) (Nat.le_of_ble_eq_true rfl) rfl d_L_depart_83 ?_
            refine aw_aload_n rfl rfl d_L_depart_85 (aw_getr (r := o0 + 1) fl_L_9 h_o0 (by decide) rfl (rc_4_0 _ h_o0).1 d_L_depart_86 (aw_iload rfl d_L_depart_89 (aw_bipush (v := iv 6) cb_6 d_L_depart_91 (ai_imul d_L_depart_93 (aw_aload_n rfl rfl d_L_depart_94 (aw_getr (r := o0 + 1) fl_L_9 h_o0 (by decide) rfl (rc_4_0 _ h_o0).1 d_L_depart_95 (aw_iload rfl d_L_depart_98 (aw_bipush (v := iv 6) cb_6 d_L_depart_100 (ai_imul d_L_depart_102 (aw_bipush (v := iv 6) cb_6 d_L_depart_103 ?_))))))))))
            refine ai_copy lka_L_27 ac_nat ac_sta ac_ini (rc_4_0 _ h_o0).2 (rc_4_0 _ h_o0).2 rfl rfl (wr32_in _) (wr32_in _) in_6 h_I13 (by decide) rfl hf d_L_depart_105 (fun I15 h_I15 hf => ?_)
            refine aw_aload_n rfl rfl d_L_depart_108 (aw_iload rfl d_L_depart_109 (aw_iconst (v := iv 4) rfl d_L_depart_111 (aw_aload_n rfl rfl d_L_depart_112 (aw_iload rfl d_L_depart_113 (aw_iconst (v := iv 4) rfl d_L_depart_115 ?_)))))
            obtain ⟨y16, I17, c18, hf⟩ := of_zb hf
            refine ai_callV (as := [.int (iv x14), .int (iv 4)]) (d' := 1) (q := ("SinglesUp$Lines", zT4, 3)) mo_L_get lk_L_53 h_o0 rfl rfl rfl ⟨by decide, by decide⟩ rfl rfl (by decide) d_L_depart_116 (t_L_get fu o0 x14 4 I15 h_I15 h_o0 h_x14 in_4 c18) (fun h_y16 h_I17 => ?_)
            refine aw_iconst (v := iv 1) rfl d_L_depart_119 (ai_iadd d_L_depart_120 ?_)
            obtain ⟨y19, I20, c21, hf⟩ := of_zb hf
            refine ai_callVv (as := [.int (iv x14), .int (iv 4), .int (iv (wr32 (y16 + 1)))]) (d' := 1) (q := ("SinglesUp$Lines", zT4, 3)) mo_L_put lk_L_56 h_o0 rfl rfl rfl ⟨by decide, by decide⟩ rfl rfl (by decide) d_L_depart_121 (t_L_put fu o0 x14 4 (wr32 (y16 + 1)) I17 h_I17 h_o0 h_x14 in_4 (wr32_in _) c21) (fun h_I20 => ?_)
            refine aw_aload_n rfl rfl d_L_depart_124 (aw_iload rfl d_L_depart_125 (aw_iconst (v := iv 5) rfl d_L_depart_127 (aw_aload_n rfl rfl d_L_depart_128 (aw_iload rfl d_L_depart_129 (aw_iconst (v := iv 5) rfl d_L_depart_131 ?_)))))
            obtain ⟨y22, I23, c24, hf⟩ := of_zb hf
            refine ai_callV (as := [.int (iv x14), .int (iv 5)]) (d' := 1) (q := ("SinglesUp$Lines", zT4, 3)) mo_L_get lk_L_53 h_o0 rfl rfl rfl ⟨by decide, by decide⟩ rfl rfl (by decide) d_L_depart_132 (t_L_get fu o0 x14 5 I20 h_I20 h_o0 h_x14 in_5 c24) (fun h_y22 h_I23 => ?_)
            refine aw_iload rfl d_L_depart_135 (aw_iload_n rfl rfl d_L_depart_137 ?_)
            obtain ⟨k25, ek25, hf⟩ := of_zj hf
            have hk25 : ∀ (x27 : Int) (I26 : IMem), inr x27 → RG I26 → k25 x27 I26 = some r → Ai l b 2 y_L_depart KC RC (Pv r) I26 146 [.ref o0, .ref o1, .int (iv p2), .int (iv p3), .int (iv w4), .int (iv w5), uu, uu, uu] [.int (iv x27), .int (iv y22), .int (iv 5), .int (iv x14), .ref o0] := by
              intro x27 I26 h_x27 h_I26 hf
              subst ek25
              refine ai_iadd d_L_depart_146 ?_
              obtain ⟨y28, I29, c30, hf⟩ := of_zb hf
              refine ai_callVv (as := [.int (iv x14), .int (iv 5), .int (iv (wr32 (y22 + x27)))]) (d' := 1) (q := ("SinglesUp$Lines", zT4, 3)) mo_L_put lk_L_56 h_o0 rfl rfl rfl ⟨by decide, by decide⟩ rfl rfl (by decide) d_L_depart_147 (t_L_put fu o0 x14 5 (wr32 (y22 + x27)) I26 h_I26 h_o0 h_x14 in_5 (wr32_in _) c30) (fun h_I29 => ?_)
              refine ai_iinc (n := 1) (lv2 := fun x31 => [.ref o0, .ref o1, .int (iv p2), .int (iv p3), .int (iv x31), .int (iv w5), uu, uu, uu]) hf rfl (Nat.le_of_ble_eq_true rfl) (fun _ => rfl) d_L_depart_150 (fun x31 h_x31 hf => ?_)
              exact hk8 x31 I29 h_x31 h_I29 hf
            refine ai_icmp_ge h_w5 h_p3 hf (tgt := 145) (by decide) d_L_depart_138 (fun hf => ?_) (fun hf => ?_)
            · refine aw_iconst (v := iv 0) rfl d_L_depart_145 ?_
              refine aw_weakB (lv2 := [.ref o0, .ref o1, .int (iv p2), .int (iv p3), .int (iv w4), .int (iv w5), uu, uu, uu]) (wk_s (wk_s (wk_s (wk_s (wk_s (wk_s (wk_u (wk_u (wk_u wk_n))))))))) ?_
              exact hk25 0 I23 in_0 h_I23 hf
            · refine aw_iconst (v := iv 1) rfl d_L_depart_141 (aw_goto (tgt := 146) (by decide) d_L_depart_142 ?_)
              refine aw_weakB (lv2 := [.ref o0, .ref o1, .int (iv p2), .int (iv p3), .int (iv w4), .int (iv w5), uu, uu, uu]) (wk_s (wk_s (wk_s (wk_s (wk_s (wk_s (wk_u (wk_u (wk_u wk_n))))))))) ?_
              exact hk25 1 I23 in_1 h_I23 hf
          refine ai_if_eq h_x7 hf (tgt := 76) (by decide) d_L_depart_67 (fun hf => ?_) (fun hf => ?_)
          · refine aw_weakB (lv2 := [.ref o0, .ref o1, .int (iv p2), .int (iv p3), .int (iv w4), .int (iv w5), .int (iv x4), uu, uu]) (wk_s (wk_s (wk_s (wk_s (wk_s (wk_s (wk_s (wk_u (wk_u wk_n))))))))) ?_
            exact hk12 I6 h_I6 hf
          · refine aw_iload rfl d_L_depart_70 (aw_iconst (v := iv 3) rfl d_L_depart_72 ?_)
            refine ai_icmp_ne h_x7 in_3 hf (tgt := 153) (by decide) d_L_depart_73 (fun hf => ?_) (fun hf => ?_)
            · refine aw_weakB (lv2 := [.ref o0, .ref o1, .int (iv p2), .int (iv p3), .int (iv w4), .int (iv w5), uu, uu, uu]) (wk_s (wk_s (wk_s (wk_s (wk_s (wk_s (wk_u (wk_u (wk_u wk_n))))))))) ?_
              exact hk8 w4 I6 h_w4 h_I6 hf
            · refine aw_weakB (lv2 := [.ref o0, .ref o1, .int (iv p2), .int (iv p3), .int (iv w4), .int (iv w5), .int (iv x4), uu, uu]) (wk_s (wk_s (wk_s (wk_s (wk_s (wk_s (wk_s (wk_u (wk_u wk_n))))))))) ?_
              exact hk12 I6 h_I6 hf
        refine ai_icmp_ge h_x4 (nat_in h_o1.2) hf (tgt := 62) (by decide) d_L_depart_52 (fun hf => ?_) (fun hf => ?_)
        · refine aw_iconst (v := iv 0) rfl d_L_depart_62 ?_
          exact hk5 0 I0 in_0 h_I0 hf
        · refine aw_aload_n rfl rfl d_L_depart_55 (aw_iload rfl d_L_depart_56 ?_)
          refine ai_iald h_o1.1 rfl h_x4 hf d_L_depart_58 (fun _ hf => ?_)
          refine aw_goto (tgt := 63) (by decide) d_L_depart_59 ?_
          exact hk5 (I0 o1 x4.toNat) I0 (h_I0 o1 x4.toNat) h_I0 hf
set_option maxRecDepth 20000 in
theorem t_L_depart_2 (fu : Nat) {r : Int × IMem} (o0 : Nat) (o1 n1 : Nat) (h_o0 : KC[o0]? = some (7, 3)) (h_o1 : KC[o1]? = some (0, n1) ∧ n1 < 1000000) : ∀ (m : Nat) (w2 : Int) (I0 : IMem), inr w2 → RG I0 → f_L_depart_2 fu o0 o1 n1 m w2 I0 = some r → Ai l b 2 y_L_depart KC RC (Pv r) I0 2 [.ref o0, .ref o1, .int (iv w2), uu, uu, uu, uu, uu, uu] [] := by
  intro m
  induction m with
  | zero => intro w2 I0 h_w2 h_I0 hf; cases hf
  | succ m ih =>
    intro w2 I0 h_w2 h_I0 hf
    replace hf : fb_L_depart_2 fu o0 o1 n1 (f_L_depart_2 fu o0 o1 n1 m) w2 I0 = some r := hf
    unfold fb_L_depart_2 at hf
    refine aw_iload_n rfl rfl d_L_depart_2 (aw_bipush (v := iv 6) cb_6 d_L_depart_3 ?_)
    refine ai_icmp_ge h_w2 in_6 hf (tgt := 173) (by decide) d_L_depart_5 (fun hf => ?_) (fun hf => ?_)
    · exact ai_retv rfl d_L_depart_173 hf h_I0
    · refine aw_aload_n rfl rfl d_L_depart_8 (aw_aload_n rfl rfl d_L_depart_9 (aw_iload_n rfl rfl d_L_depart_10 ?_))
      obtain ⟨y1, I2, c3, hf⟩ := of_zb hf
      refine ai_callV (as := [.ref o1, .int (iv w2)]) (d' := 1) (q := ("SinglesUp$Lines", zT4, 3)) mo_L_rearmostSitting lk_L_47 h_o0 rfl rfl rfl ⟨by decide, by decide⟩ rfl rfl (by decide) d_L_depart_11 (t_L_rearmostSitting fu o0 o1 n1 w2 I0 h_I0 h_o0 h_o1 h_w2 c3) (fun h_y1 h_I2 => ?_)
      refine aw_istore_n (lv2 := [.ref o0, .ref o1, .int (iv w2), .int (iv y1), uu, uu, uu, uu, uu]) rfl (Nat.le_of_ble_eq_true rfl) rfl d_L_depart_14 (aw_iconst (v := iv 0) rfl d_L_depart_15 (aw_istore (lv2 := [.ref o0, .ref o1, .int (iv w2), .int (iv y1), .int (iv 0), uu, uu, uu, uu]) (Nat.le_of_ble_eq_true rfl) rfl d_L_depart_16 (aw_iconst (v := iv 0) rfl d_L_depart_18 (aw_istore (lv2 := [.ref o0, .ref o1, .int (iv w2), .int (iv y1), .int (iv 0), .int (iv 0), uu, uu, uu]) (Nat.le_of_ble_eq_true rfl) rfl d_L_depart_19 ?_))))
      refine t_L_depart_21 fu _ o0 o1 n1 w2 y1 h_o0 h_o1 h_w2 h_y1 ?_ fu 0 0 I2 in_0 in_0 h_I2 hf
      · intro x33 I32 h_x33 h_I32 hf
        refine aw_aload_n rfl rfl d_L_depart_159 (aw_getr (r := o0 + 2) fl_L_15 h_o0 (by decide) rfl (rc_4_1 _ h_o0).1 d_L_depart_160 (aw_iload_n rfl rfl d_L_depart_163 (aw_iload rfl d_L_depart_164 ?_)))
        refine ai_iast (rc_4_1 _ h_o0).2 rfl h_w2 h_x33 h_I32 hf d_L_depart_166 (fun _ I34 h_I34 hf => ?_)
        refine ai_iinc (n := 1) (lv2 := fun x35 => [.ref o0, .ref o1, .int (iv x35), uu, .int (iv x33), uu, uu, uu, uu]) hf rfl (Nat.le_of_ble_eq_true rfl) (fun _ => rfl) d_L_depart_167 (fun x35 h_x35 hf => ?_)
        refine aw_goto (tgt := 2) (by decide) d_L_depart_170 ?_
        refine aw_weakB (lv2 := [.ref o0, .ref o1, .int (iv x35), uu, uu, uu, uu, uu, uu]) (wk_s (wk_s (wk_s (wk_u (wk_u (wk_u (wk_u (wk_u (wk_u wk_n))))))))) ?_
        exact ih x35 I34 h_x35 h_I34 hf
set_option maxRecDepth 20000 in
theorem t_L_depart (fu : Nat) (o0 : Nat) (o1 n1 : Nat) (I0 : IMem) (hI : RG I0) (h_o0 : KC[o0]? = some (7, 3)) (h_o1 : KC[o1]? = some (0, n1) ∧ n1 < 1000000) {r : Int × IMem} (hf : f_L_depart fu o0 o1 n1 I0 = some r) : Ss l b 2 y_L_depart KC RC [.ref o0, .ref o1] (ivm I0) (Pv r) := by
  unfold f_L_depart at hf
  refine Ss.of (show Ai l b 2 y_L_depart KC RC (Pv r) I0 0 [.ref o0, .ref o1, uu, uu, uu, uu, uu, uu, uu] [] from ?_)
  refine aw_iconst (v := iv 0) rfl d_L_depart_0 (aw_istore_n (lv2 := [.ref o0, .ref o1, .int (iv 0), uu, uu, uu, uu, uu, uu]) rfl (Nat.le_of_ble_eq_true rfl) rfl d_L_depart_1 ?_)
  refine t_L_depart_2 fu o0 o1 n1 h_o0 h_o1 fu 0 I0 in_0 hI hf
set_option maxRecDepth 20000 in
theorem t_C_leave_9 (fu : Nat) {r : Int × IMem} (k_46 : IMem → Res) (o0 : Nat) (o1 : Nat) (p2 : Int) (h_o0 : KC[o0]? = some (3, 12)) (h_o1 : KC[o1]? = some (5, 14)) (h_p2 : inr p2) (hk_46 : ∀ (I9 : IMem), RG I9 → k_46 I9 = some r → Ai l b 4 y_C_leave KC RC (Ps r) I9 46 [.ref o0, .ref o1, .int (iv p2), uu] []) : ∀ (m : Nat) (w3 : Int) (I0 : IMem), inr w3 → RG I0 → f_C_leave_9 fu k_46 o0 o1 p2 m w3 I0 = some r → Ai l b 4 y_C_leave KC RC (Ps r) I0 9 [.ref o0, .ref o1, .int (iv p2), .int (iv w3)] [] := by
  intro m
  induction m with
  | zero => intro w3 I0 h_w3 h_I0 hf; cases hf
  | succ m ih =>
    intro w3 I0 h_w3 h_I0 hf
    replace hf : fb_C_leave_9 fu k_46 o0 o1 p2 (f_C_leave_9 fu k_46 o0 o1 p2 m) w3 I0 = some r := hf
    unfold fb_C_leave_9 at hf
    refine aw_iload_n rfl rfl d_C_leave_9 (aw_aload_n rfl rfl d_C_leave_10 (ai_geti fl_C_40 h_o0 (by decide) rfl d_C_leave_11 ?_))
    refine ai_icmp_ge h_w3 (h_I0 o0 8) hf (tgt := 46) (by decide) d_C_leave_14 (fun hf => ?_) (fun hf => ?_)
    · refine aw_weakB (lv2 := [.ref o0, .ref o1, .int (iv p2), uu]) (wk_s (wk_s (wk_s (wk_u wk_n)))) ?_
      exact hk_46 I0 h_I0 hf
    · refine aw_iload_n rfl rfl d_C_leave_17 (aw_bipush (v := iv 8) cb_8 d_C_leave_18 ?_)
      refine ai_icmp_ge h_w3 in_8 hf (tgt := 46) (by decide) d_C_leave_20 (fun hf => ?_) (fun hf => ?_)
      · refine aw_weakB (lv2 := [.ref o0, .ref o1, .int (iv p2), uu]) (wk_s (wk_s (wk_s (wk_u wk_n)))) ?_
        exact hk_46 I0 h_I0 hf
      · refine aw_aload_n rfl rfl d_C_leave_23 (aw_iload_n rfl rfl d_C_leave_24 (aw_aload_n rfl rfl d_C_leave_25 (aw_getr (r := o0 + 2) fl_C_15 h_o0 (by decide) rfl (rc_0_1 _ h_o0).1 d_C_leave_26 (aw_iload_n rfl rfl d_C_leave_29 ?_))))
        refine ai_iald (rc_0_1 _ h_o0).2 rfl h_w3 hf d_C_leave_30 (fun _ hf => ?_)
        refine aw_aload_n rfl rfl d_C_leave_31 (aw_getr (r := o0 + 3) fl_C_18 h_o0 (by decide) rfl (rc_0_2 _ h_o0).1 d_C_leave_32 (aw_iload_n rfl rfl d_C_leave_35 ?_))
        refine ai_iald (rc_0_2 _ h_o0).2 rfl h_w3 hf d_C_leave_36 (fun _ hf => ?_)
        obtain ⟨y2, I3, c4, hf⟩ := of_zb hf
        refine ai_callVv (as := [.int (iv w3), .int (iv (I0 (o0 + 2) w3.toNat)), .int (iv (I0 (o0 + 3) w3.toNat))]) (d' := 2) (q := ("SinglesUp$Hill", zT2, 14)) mo_H_note lk_C_162 h_o1 rfl rfl rfl ⟨by decide, by decide⟩ rfl rfl (by decide) d_C_leave_37 (t_H_note fu o1 w3 (I0 (o0 + 2) w3.toNat) (I0 (o0 + 3) w3.toNat) I0 h_I0 h_o1 h_w3 (h_I0 (o0 + 2) w3.toNat) (h_I0 (o0 + 3) w3.toNat) c4) (fun h_I3 => ?_)
        refine ai_iinc (n := 1) (lv2 := fun x5 => [.ref o0, .ref o1, .int (iv p2), .int (iv x5)]) hf rfl (Nat.le_of_ble_eq_true rfl) (fun _ => rfl) d_C_leave_40 (fun x5 h_x5 hf => ?_)
        refine aw_goto (tgt := 9) (by decide) d_C_leave_43 ?_
        exact ih x5 I3 h_x5 h_I3 hf
set_option maxRecDepth 20000 in
theorem t_C_leave_59 (fu : Nat) {r : Int × IMem} (k_103 : IMem → Res) (o0 : Nat) (o1 : Nat) (p2 : Int) (h_o0 : KC[o0]? = some (3, 12)) (h_o1 : KC[o1]? = some (5, 14)) (h_p2 : inr p2) (hk_103 : ∀ (I9 : IMem), RG I9 → k_103 I9 = some r → Ai l b 4 y_C_leave KC RC (Ps r) I9 103 [.ref o0, .ref o1, .int (iv p2), uu] []) : ∀ (m : Nat) (w3 : Int) (I0 : IMem), inr w3 → RG I0 → f_C_leave_59 fu k_103 o0 o1 p2 m w3 I0 = some r → Ai l b 4 y_C_leave KC RC (Ps r) I0 59 [.ref o0, .ref o1, .int (iv p2), .int (iv w3)] [] := by
  intro m
  induction m with
  | zero => intro w3 I0 h_w3 h_I0 hf; cases hf
  | succ m ih =>
    intro w3 I0 h_w3 h_I0 hf
    replace hf : fb_C_leave_59 fu k_103 o0 o1 p2 (f_C_leave_59 fu k_103 o0 o1 p2 m) w3 I0 = some r := hf
    unfold fb_C_leave_59 at hf
    refine aw_iload_n rfl rfl d_C_leave_59 (aw_aload_n rfl rfl d_C_leave_60 (ai_geti fl_C_43 h_o0 (by decide) rfl d_C_leave_61 ?_))
    refine ai_icmp_ge h_w3 (h_I0 o0 9) hf (tgt := 103) (by decide) d_C_leave_64 (fun hf => ?_) (fun hf => ?_)
    · refine aw_weakB (lv2 := [.ref o0, .ref o1, .int (iv p2), uu]) (wk_s (wk_s (wk_s (wk_u wk_n)))) ?_
      exact hk_103 I0 h_I0 hf
    · refine aw_aload_n rfl rfl d_C_leave_67 (aw_getr (r := o1 + 6) fl_C_72 h_o1 (by decide) rfl (rc_2_5 _ h_o1).1 d_C_leave_68 (aw_iconst (v := iv 0) rfl d_C_leave_71 (aw_aload_n rfl rfl d_C_leave_72 (aw_getr (r := o0 + 4) fl_C_21 h_o0 (by decide) rfl (rc_0_3 _ h_o0).1 d_C_leave_73 (aw_iload_n rfl rfl d_C_leave_76 (aw_bipush (v := iv 6) cb_6 d_C_leave_77 (ai_imul d_C_leave_79 ?_)))))))
      obtain ⟨y10, I11, c12, hf⟩ := of_zb hf
      refine ai_callV (as := [.int (iv 0), .ref (o0 + 4), .int (iv (wr32 (w3 * 6)))]) (d' := 2) (q := ("SinglesUp$Lines", zT4, 3)) mo_L_append lk_C_169 (rc_2_5 _ h_o1).2 rfl rfl rfl ⟨by decide, by decide⟩ rfl rfl (by decide) d_C_leave_80 (t_L_append fu (o1 + 6) 0 (o0 + 4) 864 (wr32 (w3 * 6)) I0 h_I0 (rc_2_5 _ h_o1).2 in_0 ⟨(rc_0_3 _ h_o0).2, by decide⟩ (wr32_in _) c12) (fun h_y10 h_I11 => ?_)
      obtain ⟨k13, ek13, hf⟩ := of_zj hf
      have hk13 : ∀  (I14 : IMem), RG I14 → k13 I14 = some r → Ai l b 4 y_C_leave KC RC (Ps r) I14 97 [.ref o0, .ref o1, .int (iv p2), .int (iv w3)] [] := by
        intro I14 h_I14 hf
        subst ek13
        refine ai_iinc (n := 1) (lv2 := fun x15 => [.ref o0, .ref o1, .int (iv p2), .int (iv x15)]) hf rfl (Nat.le_of_ble_eq_true rfl) (fun _ => rfl) d_C_leave_97 (fun x15 h_x15 hf => ?_)
        refine aw_goto (tgt := 59) (by decide) d_C_leave_100 ?_
        exact ih x15 I14 h_x15 h_I14 hf
      refine ai_if_ne h_y10 hf (tgt := 97) (by decide) d_C_leave_83 (fun hf => ?_) (fun hf => ?_)
      · exact hk13 I11 h_I11 hf
      · refine aw_aload_n rfl rfl d_C_leave_86 (aw_getr (r := o1 + 10) fl_C_141 h_o1 (by decide) rfl (rc_2_8 _ h_o1).1 d_C_leave_87 (aw_bipush (v := iv 6) cb_6 d_C_leave_90 (aw_dup2 rfl rfl d_C_leave_92 (ai_ialdc (j := 6) (rc_2_8 _ h_o1).2 (by decide) (by decide) d_C_leave_93 (aw_iconst (v := iv 1) rfl d_C_leave_94 (ai_iadd d_C_leave_95 ?_))))))
        refine ai_iastc (j := 6) (rc_2_8 _ h_o1).2 (by decide) (by decide) (wr32_in _) h_I11 hf d_C_leave_96 (fun I16 h_I16 hf => ?_)
        exact hk13 I16 h_I16 hf
set_option maxRecDepth 20000 in
theorem t_C_leave (fu : Nat) (o0 : Nat) (o1 : Nat) (I0 : IMem) (hI : RG I0) (h_o0 : KC[o0]? = some (3, 12)) (h_o1 : KC[o1]? = some (5, 14)) {r : Int × IMem} (hf : f_C_leave fu o0 o1 I0 = some r) : Ss l b 4 y_C_leave KC RC [.ref o0, .ref o1] (ivm I0) (Ps r) := by
  unfold f_C_leave at hf
  refine Ss.of (show Ai l b 4 y_C_leave KC RC (Ps r) I0 0 [.ref o0, .ref o1, uu, uu] [] from ?_)
  refine aw_aload_n rfl rfl d_C_leave_0 (aw_getr (r := o1 + 10) fl_C_141 h_o1 (by decide) rfl (rc_2_8 _ h_o1).1 d_C_leave_1 (aw_iconst (v := iv 2) rfl d_C_leave_4 (ai_ialdc (j := 2) (rc_2_8 _ h_o1).2 (by decide) (by decide) d_C_leave_5 ?_)))
  refine ai_name hf (hI (o1 + 10) 2) (fun x1 h_x1 hf => ?_)
  refine aw_istore_n (lv2 := [.ref o0, .ref o1, .int (iv x1), uu]) rfl (Nat.le_of_ble_eq_true rfl) rfl d_C_leave_6 ?_
  refine aw_iconst (v := iv 0) rfl d_C_leave_7 (aw_istore_n (lv2 := [.ref o0, .ref o1, .int (iv x1), .int (iv 0)]) rfl (Nat.le_of_ble_eq_true rfl) rfl d_C_leave_8 ?_)
  refine t_C_leave_9 fu _ o0 o1 x1 h_o0 h_o1 h_x1 ?_ fu 0 I0 in_0 hI hf
  · intro I6 h_I6 hf
    refine aw_aload_n rfl rfl d_C_leave_46 (aw_getr (r := o1 + 6) fl_C_72 h_o1 (by decide) rfl (rc_2_5 _ h_o1).1 d_C_leave_47 (aw_aload_n rfl rfl d_C_leave_50 (aw_getr (r := o0 + 1) fl_C_9 h_o0 (by decide) rfl (rc_0_0 _ h_o0).1 d_C_leave_51 ?_)))
    obtain ⟨y7, I8, c9, hf⟩ := of_zb hf
    refine ai_callVv (as := [.ref (o0 + 1)]) (d' := 2) (q := ("SinglesUp$Lines", zT4, 3)) mo_L_depart lk_C_165 (rc_2_5 _ h_o1).2 rfl rfl rfl ⟨by decide, by decide⟩ rfl rfl (by decide) d_C_leave_54 (t_L_depart fu (o1 + 6) (o0 + 1) 240 I6 h_I6 (rc_2_5 _ h_o1).2 ⟨(rc_0_0 _ h_o0).2, by decide⟩ c9) (fun h_I8 => ?_)
    refine aw_iconst (v := iv 0) rfl d_C_leave_57 (aw_istore_n (lv2 := [.ref o0, .ref o1, .int (iv x1), .int (iv 0)]) rfl (Nat.le_of_ble_eq_true rfl) rfl d_C_leave_58 ?_)
    refine t_C_leave_59 fu _ o0 o1 x1 h_o0 h_o1 h_x1 ?_ fu 0 I8 in_0 h_I8 hf
    · intro I17 h_I17 hf
      refine aw_aload_n rfl rfl d_C_leave_103 (aw_aload_n rfl rfl d_C_leave_104 (ai_geti fl_C_30 h_o0 (by decide) rfl d_C_leave_105 (aw_aload_n rfl rfl d_C_leave_108 (ai_geti fl_C_40 h_o0 (by decide) rfl d_C_leave_109 ?_))))
      obtain ⟨y18, I19, c20, hf⟩ := of_zb hf
      refine ai_callVv (as := [.int (iv (I17 o0 7)), .int (iv (I17 o0 8))]) (d' := 3) (q := ("SinglesUp$Hill", zT2, 14)) mo_H_close lk_C_173 h_o1 rfl rfl rfl ⟨by decide, by decide⟩ rfl rfl (by decide) d_C_leave_112 (t_H_close fu o1 (I17 o0 7) (I17 o0 8) I17 h_I17 h_o1 (h_I17 o0 7) (h_I17 o0 8) c20) (fun h_I19 => ?_)
      refine aw_aload_n rfl rfl d_C_leave_115 (aw_getr (r := o1 + 10) fl_C_141 h_o1 (by decide) rfl (rc_2_8 _ h_o1).1 d_C_leave_116 (aw_iconst (v := iv 2) rfl d_C_leave_119 (ai_ialdc (j := 2) (rc_2_8 _ h_o1).2 (by decide) (by decide) d_C_leave_120 (aw_iload_n rfl rfl d_C_leave_121 (ai_isub d_C_leave_122 ?_)))))
      exact ai_reti rfl d_C_leave_123 hf (wr32_in _) h_I19
set_option maxRecDepth 20000 in
theorem t_S_dropPicked (fu : Nat) (o0 : Nat) (I0 : IMem) (hI : RG I0) (h_o0 : KC[o0]? = some (11, 9)) {r : Int × IMem} (hf : f_S_dropPicked fu o0 I0 = some r) : Ss l b 3 y_S_dropPicked KC RC [.ref o0] (ivm I0) (Pv r) := by
  unfold f_S_dropPicked at hf
  refine Ss.of (show Ai l b 3 y_S_dropPicked KC RC (Pv r) I0 0 [.ref o0] [] from ?_)
  refine aw_aload_n rfl rfl d_S_dropPicked_0 (aw_getr (r := o0 + 137) fl_S_33 h_o0 (by decide) rfl (rc_8_4 _ h_o0).1 d_S_dropPicked_1 (aw_aload_n rfl rfl d_S_dropPicked_4 (aw_getr (r := o0 + 1) fl_S_12 h_o0 (by decide) rfl (rc_8_0 _ h_o0).1 d_S_dropPicked_5 (aw_getr (r := o0 + 2) fl_S_65 ((rc_8_0 _ h_o0).2) (by decide) rfl (rc_2_0 _ (rc_8_0 _ h_o0).2).1 d_S_dropPicked_8 (aw_iconst (v := iv 0) rfl d_S_dropPicked_11 (ai_ialdc (j := 0) (rc_2_0 _ (rc_8_0 _ h_o0).2).2 (by decide) (by decide) d_S_dropPicked_12 ?_))))))
  obtain ⟨y1, I2, c3, hf⟩ := of_zb hf
  refine ai_callVv (as := [.int (iv (I0 (o0 + 2) 0))]) (d' := 2) (q := ("SinglesUp$Chair", zT0, 12)) mo_C_clear lk_S_69 (rc_8_4 _ h_o0).2 rfl rfl rfl ⟨by decide, by decide⟩ rfl rfl (by decide) d_S_dropPicked_13 (t_C_clear fu (o0 + 137) (I0 (o0 + 2) 0) I0 hI (rc_8_4 _ h_o0).2 (hI (o0 + 2) 0) c3) (fun h_I2 => ?_)
  exact ai_retv rfl d_S_dropPicked_16 hf h_I2
set_option maxRecDepth 20000 in
theorem t_S_send (fu : Nat) (o0 : Nat) (I0 : IMem) (hI : RG I0) (h_o0 : KC[o0]? = some (11, 9)) {r : Int × IMem} (hf : f_S_send fu o0 I0 = some r) : Ss l b 5 y_S_send KC RC [.ref o0] (ivm I0) (Ps r) := by
  unfold f_S_send at hf
  refine Ss.of (show Ai l b 5 y_S_send KC RC (Ps r) I0 0 [.ref o0, uu] [] from ?_)
  refine aw_aload_n rfl rfl d_S_send_0 (aw_getr (r := o0 + 137) fl_S_33 h_o0 (by decide) rfl (rc_8_4 _ h_o0).1 d_S_send_1 (aw_aload_n rfl rfl d_S_send_4 (aw_getr (r := o0 + 1) fl_S_12 h_o0 (by decide) rfl (rc_8_0 _ h_o0).1 d_S_send_5 ?_)))
  obtain ⟨y1, I2, c3, hf⟩ := of_zb hf
  refine ai_callV (as := [.ref (o0 + 1)]) (d' := 4) (q := ("SinglesUp$Chair", zT0, 12)) mo_C_leave lk_S_177 (rc_8_4 _ h_o0).2 rfl rfl rfl ⟨by decide, by decide⟩ rfl rfl (by decide) d_S_send_8 (t_C_leave fu (o0 + 137) (o0 + 1) I0 hI (rc_8_4 _ h_o0).2 (rc_8_0 _ h_o0).2 c3) (fun h_y1 h_I2 => ?_)
  refine aw_istore_n (lv2 := [.ref o0, .int (iv y1)]) rfl (Nat.le_of_ble_eq_true rfl) rfl d_S_send_11 (aw_aload_n rfl rfl d_S_send_12 ?_)
  obtain ⟨y4, I5, c6, hf⟩ := of_zb hf
  refine ai_callVv (as := []) (d' := 3) (q := ("SinglesUp", zT8, 9)) mo_S_dropPicked lk_S_181 h_o0 rfl rfl rfl ⟨by decide, by decide⟩ rfl rfl (by decide) d_S_send_13 (t_S_dropPicked fu o0 I2 h_I2 h_o0 c6) (fun h_I5 => ?_)
  refine aw_iload_n rfl rfl d_S_send_16 ?_
  exact ai_reti rfl d_S_send_17 hf h_y1 h_I5
set_option maxRecDepth 20000 in
theorem t_C_findOut (fu : Nat) (o0 : Nat) (o1 : Nat) (a2 : Int) (I0 : IMem) (hI : RG I0) (h_o0 : KC[o0]? = some (3, 12)) (h_o1 : KC[o1]? = some (5, 14)) (h_a2 : inr a2) {r : Int × IMem} (hf : f_C_findOut fu o0 o1 a2 I0 = some r) : Ss l b 1 y_C_findOut KC RC [.ref o0, .ref o1, .int (iv a2)] (ivm I0) (Pv r) := by
  unfold f_C_findOut at hf
  refine Ss.of (show Ai l b 1 y_C_findOut KC RC (Pv r) I0 0 [.ref o0, .ref o1, .int (iv a2), uu] [] from ?_)
  refine aw_aload_n rfl rfl d_C_findOut_0 (ai_geti fl_C_43 h_o0 (by decide) rfl d_C_findOut_1 (aw_bipush (v := iv 6) cb_6 d_C_findOut_4 (ai_imul d_C_findOut_6 ?_)))
  refine ai_name hf (wr32_in _) (fun x1 h_x1 hf => ?_)
  refine aw_istore_n (lv2 := [.ref o0, .ref o1, .int (iv a2), .int (iv x1)]) rfl (Nat.le_of_ble_eq_true rfl) rfl d_C_findOut_7 ?_
  refine aw_iload_n rfl rfl d_C_findOut_8 ?_
  refine ai_if_lt h_a2 hf (tgt := 35) (by decide) d_C_findOut_9 (fun hf => ?_) (fun hf => ?_)
  · exact ai_retv rfl d_C_findOut_35 hf hI
  · refine aw_iload_n rfl rfl d_C_findOut_12 (aw_sipush (v := iv 240) cs_240 d_C_findOut_13 ?_)
    refine ai_icmp_ge h_a2 in_240 hf (tgt := 35) (by decide) d_C_findOut_16 (fun hf => ?_) (fun hf => ?_)
    · exact ai_retv rfl d_C_findOut_35 hf hI
    · refine aw_iload_n rfl rfl d_C_findOut_19 ?_
      refine ai_if_lt h_x1 hf (tgt := 35) (by decide) d_C_findOut_20 (fun hf => ?_) (fun hf => ?_)
      · exact ai_retv rfl d_C_findOut_35 hf hI
      · refine aw_iload_n rfl rfl d_C_findOut_23 (aw_aload_n rfl rfl d_C_findOut_24 (aw_getr (r := o0 + 4) fl_C_21 h_o0 (by decide) rfl (rc_0_3 _ h_o0).1 d_C_findOut_25 (ai_alen (N := 864) (rc_0_3 _ h_o0).2 (by decide) rfl (by decide) d_C_findOut_28 (aw_bipush (v := iv 6) cb_6 d_C_findOut_29 (ai_isub d_C_findOut_31 ?_)))))
        refine ai_icmp_le h_x1 (wr32_in _) hf (tgt := 36) (by decide) d_C_findOut_32 (fun hf => ?_) (fun hf => ?_)
        · refine aw_aload_n rfl rfl d_C_findOut_36 (aw_getr (r := o0 + 1) fl_C_9 h_o0 (by decide) rfl (rc_0_0 _ h_o0).1 d_C_findOut_37 (aw_iload_n rfl rfl d_C_findOut_40 (aw_iconst (v := iv 2) rfl d_C_findOut_41 ?_)))
          refine ai_iast (rc_0_0 _ h_o0).2 rfl h_a2 in_2 hI hf d_C_findOut_42 (fun _ I2 h_I2 hf => ?_)
          refine aw_aload_n rfl rfl d_C_findOut_43 (aw_getr (r := o1 + 6) fl_C_72 h_o1 (by decide) rfl (rc_2_5 _ h_o1).1 d_C_findOut_44 (aw_getr (r := o1 + 7) fl_C_132 ((rc_2_5 _ h_o1).2) (by decide) rfl (rc_4_0 _ (rc_2_5 _ h_o1).2).1 d_C_findOut_47 (aw_iload_n rfl rfl d_C_findOut_50 (aw_bipush (v := iv 6) cb_6 d_C_findOut_51 (ai_imul d_C_findOut_53 (aw_aload_n rfl rfl d_C_findOut_54 (aw_getr (r := o0 + 4) fl_C_21 h_o0 (by decide) rfl (rc_0_3 _ h_o0).1 d_C_findOut_55 (aw_iload_n rfl rfl d_C_findOut_58 (aw_bipush (v := iv 6) cb_6 d_C_findOut_59 ?_)))))))))
          refine ai_copy lka_C_135 ac_nat ac_sta ac_ini (rc_4_0 _ (rc_2_5 _ h_o1).2).2 (rc_0_3 _ h_o0).2 rfl rfl (wr32_in _) h_x1 in_6 h_I2 (by decide) rfl hf d_C_findOut_61 (fun I3 h_I3 hf => ?_)
          refine aw_aload_n rfl rfl d_C_findOut_64 (aw_getr (r := o0 + 4) fl_C_21 h_o0 (by decide) rfl (rc_0_3 _ h_o0).1 d_C_findOut_65 (aw_iload_n rfl rfl d_C_findOut_68 (aw_iconst (v := iv 2) rfl d_C_findOut_69 (ai_iadd d_C_findOut_70 (aw_aload_n rfl rfl d_C_findOut_71 (aw_getr (r := o0 + 4) fl_C_21 h_o0 (by decide) rfl (rc_0_3 _ h_o0).1 d_C_findOut_72 (aw_iload_n rfl rfl d_C_findOut_75 (aw_iconst (v := iv 1) rfl d_C_findOut_76 (ai_iadd d_C_findOut_77 ?_)))))))))
          refine ai_name hf (wr32_in _) (fun x4 h_x4 hf => ?_)
          refine ai_iald (rc_0_3 _ h_o0).2 rfl h_x4 hf d_C_findOut_78 (fun _ hf => ?_)
          refine ai_nameU hf (wr32_in _) (fun x6 h_x6 hf => ?_)
          refine ai_iast (rc_0_3 _ h_o0).2 rfl h_x6 (h_I3 (o0 + 4) x4.toNat) h_I3 hf d_C_findOut_79 (fun _ I5 h_I5 hf => ?_)
          refine aw_aload_n rfl rfl d_C_findOut_80 (aw_dup rfl d_C_findOut_81 (ai_geti fl_C_43 h_o0 (by decide) rfl d_C_findOut_82 (aw_iconst (v := iv 1) rfl d_C_findOut_85 (ai_iadd d_C_findOut_86 ?_))))
          refine ai_puti hf h_I5 (wr32_in _) fl_C_43 h_o0 (by decide) rfl rfl rfl rfl d_C_findOut_87 (fun I7 h_I7 hf => ?_)
          refine aw_aload_n rfl rfl d_C_findOut_90 (aw_getr (r := o1 + 10) fl_C_141 h_o1 (by decide) rfl (rc_2_8 _ h_o1).1 d_C_findOut_91 (aw_iconst (v := iv 5) rfl d_C_findOut_94 (aw_dup2 rfl rfl d_C_findOut_95 (ai_ialdc (j := 5) (rc_2_8 _ h_o1).2 (by decide) (by decide) d_C_findOut_96 (aw_iconst (v := iv 1) rfl d_C_findOut_97 (ai_iadd d_C_findOut_98 ?_))))))
          refine ai_iastc (j := 5) (rc_2_8 _ h_o1).2 (by decide) (by decide) (wr32_in _) h_I7 hf d_C_findOut_99 (fun I8 h_I8 hf => ?_)
          exact ai_retv rfl d_C_findOut_100 hf h_I8
        · exact ai_retv rfl d_C_findOut_35 hf hI
set_option maxRecDepth 20000 in
theorem t_C_fits (fu : Nat) (o0 : Nat) (o1 : Nat) (a2 : Int) (I0 : IMem) (hI : RG I0) (h_o0 : KC[o0]? = some (3, 12)) (h_o1 : KC[o1]? = some (5, 14)) (h_a2 : inr a2) {r : Int × IMem} (hf : f_C_fits fu o0 o1 a2 I0 = some r) : Ss l b 2 y_C_fits KC RC [.ref o0, .ref o1, .int (iv a2)] (ivm I0) (Ps r) := by
  unfold f_C_fits at hf
  refine Ss.of (show Ai l b 2 y_C_fits KC RC (Ps r) I0 0 [.ref o0, .ref o1, .int (iv a2), uu] [] from ?_)
  refine aw_aload_n rfl rfl d_C_fits_0 (aw_iload_n rfl rfl d_C_fits_1 ?_)
  obtain ⟨y1, I2, c3, hf⟩ := of_zb hf
  refine ai_callV (as := [.int (iv a2)]) (d' := 1) (q := ("SinglesUp$Chair", zT0, 12)) mo_C_stands lk_C_107 h_o0 rfl rfl rfl ⟨by decide, by decide⟩ rfl rfl (by decide) d_C_fits_2 (t_C_stands fu o0 a2 I0 hI h_o0 h_a2 c3) (fun h_y1 h_I2 => ?_)
  refine ai_if_eq h_y1 hf (tgt := 31) (by decide) d_C_fits_5 (fun hf => ?_) (fun hf => ?_)
  · refine aw_iconst (v := iv 0) rfl d_C_fits_31 ?_
    exact ai_retn rfl (nar_z (Or.inl rfl)) d_C_fits_32 hf in_0 h_I2
  · refine aw_aload_n rfl rfl d_C_fits_8 (ai_geti fl_C_46 h_o0 (by decide) rfl d_C_fits_9 ?_)
    refine ai_if_ne (h_I2 o0 10) hf (tgt := 31) (by decide) d_C_fits_12 (fun hf => ?_) (fun hf => ?_)
    · refine aw_iconst (v := iv 0) rfl d_C_fits_31 ?_
      exact ai_retn rfl (nar_z (Or.inl rfl)) d_C_fits_32 hf in_0 h_I2
    · refine aw_aload_n rfl rfl d_C_fits_15 (aw_getr (r := o1 + 6) fl_C_72 h_o1 (by decide) rfl (rc_2_5 _ h_o1).1 d_C_fits_16 (aw_iload_n rfl rfl d_C_fits_19 (aw_iconst (v := iv 2) rfl d_C_fits_20 ?_)))
      obtain ⟨y4, I5, c6, hf⟩ := of_zb hf
      refine ai_callV (as := [.int (iv a2), .int (iv 2)]) (d' := 1) (q := ("SinglesUp$Lines", zT4, 3)) mo_L_get lk_C_92 (rc_2_5 _ h_o1).2 rfl rfl rfl ⟨by decide, by decide⟩ rfl rfl (by decide) d_C_fits_21 (t_L_get fu (o1 + 6) a2 2 I2 h_I2 (rc_2_5 _ h_o1).2 h_a2 in_2 c6) (fun h_y4 h_I5 => ?_)
      refine aw_aload_n rfl rfl d_C_fits_24 (ai_geti fl_C_30 h_o0 (by decide) rfl d_C_fits_25 ?_)
      refine ai_icmp_le h_y4 (h_I5 o0 7) hf (tgt := 33) (by decide) d_C_fits_28 (fun hf => ?_) (fun hf => ?_)
      · refine aw_aload_n rfl rfl d_C_fits_33 (aw_getr (r := o1 + 6) fl_C_72 h_o1 (by decide) rfl (rc_2_5 _ h_o1).1 d_C_fits_34 (aw_iload_n rfl rfl d_C_fits_37 (aw_iconst (v := iv 3) rfl d_C_fits_38 ?_)))
        obtain ⟨y7, I8, c9, hf⟩ := of_zb hf
        refine ai_callV (as := [.int (iv a2), .int (iv 3)]) (d' := 1) (q := ("SinglesUp$Lines", zT4, 3)) mo_L_get lk_C_92 (rc_2_5 _ h_o1).2 rfl rfl rfl ⟨by decide, by decide⟩ rfl rfl (by decide) d_C_fits_39 (t_L_get fu (o1 + 6) a2 3 I5 h_I5 (rc_2_5 _ h_o1).2 h_a2 in_3 c9) (fun h_y7 h_I8 => ?_)
        refine aw_istore_n (lv2 := [.ref o0, .ref o1, .int (iv a2), .int (iv y7)]) rfl (Nat.le_of_ble_eq_true rfl) rfl d_C_fits_42 (aw_iload_n rfl rfl d_C_fits_43 (aw_iconst (v := iv 1) rfl d_C_fits_44 ?_))
        obtain ⟨k10, ek10, hf⟩ := of_zj hf
        have hk10 : ∀  (I11 : IMem), RG I11 → k10 I11 = some r → Ai l b 2 y_C_fits KC RC (Ps r) I11 55 [.ref o0, uu, uu, .int (iv y7)] [] := by
          intro I11 h_I11 hf
          subst ek10
          refine aw_iload_n rfl rfl d_C_fits_55 (aw_iconst (v := iv 2) rfl d_C_fits_56 ?_)
          refine ai_icmp_ne h_y7 in_2 hf (tgt := 67) (by decide) d_C_fits_57 (fun hf => ?_) (fun hf => ?_)
          · refine aw_iconst (v := iv 1) rfl d_C_fits_67 (aw_goto (tgt := 72) (by decide) d_C_fits_68 ?_)
            exact ai_retn rfl (nar_z (Or.inr rfl)) d_C_fits_72 hf in_1 h_I11
          · refine aw_aload_n rfl rfl d_C_fits_60 (ai_geti fl_C_40 h_o0 (by decide) rfl d_C_fits_61 ?_)
            refine ai_if_ne (h_I11 o0 8) hf (tgt := 71) (by decide) d_C_fits_64 (fun hf => ?_) (fun hf => ?_)
            · refine aw_iconst (v := iv 0) rfl d_C_fits_71 ?_
              exact ai_retn rfl (nar_z (Or.inl rfl)) d_C_fits_72 hf in_0 h_I11
            · refine aw_iconst (v := iv 1) rfl d_C_fits_67 (aw_goto (tgt := 72) (by decide) d_C_fits_68 ?_)
              exact ai_retn rfl (nar_z (Or.inr rfl)) d_C_fits_72 hf in_1 h_I11
        refine ai_icmp_ne h_y7 in_1 hf (tgt := 55) (by decide) d_C_fits_45 (fun hf => ?_) (fun hf => ?_)
        · refine aw_weakB (lv2 := [.ref o0, uu, uu, .int (iv y7)]) (wk_s (wk_u (wk_u (wk_s wk_n)))) ?_
          exact hk10 I8 h_I8 hf
        · refine aw_aload_n rfl rfl d_C_fits_48 (ai_geti fl_C_50 h_o0 (by decide) rfl d_C_fits_49 ?_)
          refine ai_if_eq (h_I8 o0 11) hf (tgt := 71) (by decide) d_C_fits_52 (fun hf => ?_) (fun hf => ?_)
          · refine aw_iconst (v := iv 0) rfl d_C_fits_71 ?_
            exact ai_retn rfl (nar_z (Or.inl rfl)) d_C_fits_72 hf in_0 h_I8
          · refine aw_weakB (lv2 := [.ref o0, uu, uu, .int (iv y7)]) (wk_s (wk_u (wk_u (wk_s wk_n)))) ?_
            exact hk10 I8 h_I8 hf
      · refine aw_iconst (v := iv 0) rfl d_C_fits_31 ?_
        exact ai_retn rfl (nar_z (Or.inl rfl)) d_C_fits_32 hf in_0 h_I5
set_option maxRecDepth 20000 in
theorem t_C_mostPassed_17 (fu : Nat) {r : Int × IMem} (o0 : Nat) (o1 : Nat) (p2 : Int) (h_o0 : KC[o0]? = some (3, 12)) (h_o1 : KC[o1]? = some (5, 14)) (h_p2 : inr p2) : ∀ (m : Nat) (w3 : Int) (w4 : Int) (w5 : Int) (I0 : IMem), inr w3 → inr w4 → inr w5 → RG I0 → f_C_mostPassed_17 fu o0 o1 p2 m w3 w4 w5 I0 = some r → Ai l b 3 y_C_mostPassed KC RC (Ps r) I0 17 [.ref o0, .ref o1, .int (iv p2), .int (iv w3), .int (iv w4), .int (iv w5), uu] [] := by
  intro m
  induction m with
  | zero => intro w3 w4 w5 I0 h_w3 h_w4 h_w5 h_I0 hf; cases hf
  | succ m ih =>
    intro w3 w4 w5 I0 h_w3 h_w4 h_w5 h_I0 hf
    replace hf : fb_C_mostPassed_17 fu o0 o1 p2 (f_C_mostPassed_17 fu o0 o1 p2 m) w3 w4 w5 I0 = some r := hf
    unfold fb_C_mostPassed_17 at hf
    refine aw_iload rfl d_C_mostPassed_17 (aw_aload_n rfl rfl d_C_mostPassed_19 (ai_geti fl_C_82 h_o0 (by decide) rfl d_C_mostPassed_20 ?_))
    refine ai_icmp_ge h_w5 (h_I0 o0 5) hf (tgt := 94) (by decide) d_C_mostPassed_23 (fun hf => ?_) (fun hf => ?_)
    · refine aw_iload rfl d_C_mostPassed_94 ?_
      exact ai_reti rfl d_C_mostPassed_96 hf h_w4 h_I0
    · refine aw_iload rfl d_C_mostPassed_26 (aw_sipush (v := iv 144) cs_144 d_C_mostPassed_28 ?_)
      refine ai_icmp_ge h_w5 in_144 hf (tgt := 94) (by decide) d_C_mostPassed_31 (fun hf => ?_) (fun hf => ?_)
      · refine aw_iload rfl d_C_mostPassed_94 ?_
        exact ai_reti rfl d_C_mostPassed_96 hf h_w4 h_I0
      · refine aw_iload_n rfl rfl d_C_mostPassed_34 ?_
        refine ai_if_le h_p2 hf (tgt := 94) (by decide) d_C_mostPassed_35 (fun hf => ?_) (fun hf => ?_)
        · refine aw_iload rfl d_C_mostPassed_94 ?_
          exact ai_reti rfl d_C_mostPassed_96 hf h_w4 h_I0
        · refine aw_aload_n rfl rfl d_C_mostPassed_38 (aw_getr (r := o1 + 6) fl_C_72 h_o1 (by decide) rfl (rc_2_5 _ h_o1).1 d_C_mostPassed_39 (aw_aload_n rfl rfl d_C_mostPassed_42 (aw_getr (r := o0 + 5) fl_C_24 h_o0 (by decide) rfl (rc_0_4 _ h_o0).1 d_C_mostPassed_43 (aw_iload rfl d_C_mostPassed_46 ?_))))
          refine ai_iald (rc_0_4 _ h_o0).2 rfl h_w5 hf d_C_mostPassed_48 (fun _ hf => ?_)
          refine aw_iconst (v := iv 5) rfl d_C_mostPassed_49 ?_
          obtain ⟨y3, I4, c5, hf⟩ := of_zb hf
          refine ai_callV (as := [.int (iv (I0 (o0 + 5) w5.toNat)), .int (iv 5)]) (d' := 1) (q := ("SinglesUp$Lines", zT4, 3)) mo_L_get lk_C_92 (rc_2_5 _ h_o1).2 rfl rfl rfl ⟨by decide, by decide⟩ rfl rfl (by decide) d_C_mostPassed_50 (t_L_get fu (o1 + 6) (I0 (o0 + 5) w5.toNat) 5 I0 h_I0 (rc_2_5 _ h_o1).2 (h_I0 (o0 + 5) w5.toNat) in_5 c5) (fun h_y3 h_I4 => ?_)
          refine aw_istore (lv2 := [.ref o0, .ref o1, .int (iv p2), .int (iv w3), .int (iv w4), .int (iv w5), .int (iv y3)]) (Nat.le_of_ble_eq_true rfl) rfl d_C_mostPassed_53 (aw_iload rfl d_C_mostPassed_55 (aw_iload_n rfl rfl d_C_mostPassed_57 ?_))
          obtain ⟨k6, ek6, hf⟩ := of_zj hf
          have hk6 : ∀ (x8 : Int) (x9 : Int) (I7 : IMem), inr x8 → inr x9 → RG I7 → k6 x8 x9 I7 = some r → Ai l b 3 y_C_mostPassed KC RC (Ps r) I7 88 [.ref o0, .ref o1, .int (iv p2), .int (iv x8), .int (iv x9), .int (iv w5), uu] [] := by
            intro x8 x9 I7 h_x8 h_x9 h_I7 hf
            subst ek6
            refine ai_iinc (n := 1) (lv2 := fun x10 => [.ref o0, .ref o1, .int (iv p2), .int (iv x8), .int (iv x9), .int (iv x10), uu]) hf rfl (Nat.le_of_ble_eq_true rfl) (fun _ => rfl) d_C_mostPassed_88 (fun x10 h_x10 hf => ?_)
            refine aw_goto (tgt := 17) (by decide) d_C_mostPassed_91 ?_
            exact ih x8 x9 x10 I7 h_x8 h_x9 h_x10 h_I7 hf
          refine ai_icmp_le h_y3 h_w3 hf (tgt := 88) (by decide) d_C_mostPassed_58 (fun hf => ?_) (fun hf => ?_)
          · refine aw_weakB (lv2 := [.ref o0, .ref o1, .int (iv p2), .int (iv w3), .int (iv w4), .int (iv w5), uu]) (wk_s (wk_s (wk_s (wk_s (wk_s (wk_s (wk_u wk_n))))))) ?_
            exact hk6 w3 w4 I4 h_w3 h_w4 h_I4 hf
          · refine aw_aload_n rfl rfl d_C_mostPassed_61 (aw_aload_n rfl rfl d_C_mostPassed_62 (aw_aload_n rfl rfl d_C_mostPassed_63 (aw_getr (r := o0 + 5) fl_C_24 h_o0 (by decide) rfl (rc_0_4 _ h_o0).1 d_C_mostPassed_64 (aw_iload rfl d_C_mostPassed_67 ?_))))
            refine ai_iald (rc_0_4 _ h_o0).2 rfl h_w5 hf d_C_mostPassed_69 (fun _ hf => ?_)
            obtain ⟨y11, I12, c13, hf⟩ := of_zb hf
            refine ai_callV (as := [.ref o1, .int (iv (I4 (o0 + 5) w5.toNat))]) (d' := 2) (q := ("SinglesUp$Chair", zT0, 12)) mo_C_fits lk_C_111 h_o0 rfl rfl rfl ⟨by decide, by decide⟩ rfl rfl (by decide) d_C_mostPassed_70 (t_C_fits fu o0 o1 (I4 (o0 + 5) w5.toNat) I4 h_I4 h_o0 h_o1 (h_I4 (o0 + 5) w5.toNat) c13) (fun h_y11 h_I12 => ?_)
            refine ai_if_eq h_y11 hf (tgt := 88) (by decide) d_C_mostPassed_73 (fun hf => ?_) (fun hf => ?_)
            · refine aw_weakB (lv2 := [.ref o0, .ref o1, .int (iv p2), .int (iv w3), .int (iv w4), .int (iv w5), uu]) (wk_s (wk_s (wk_s (wk_s (wk_s (wk_s (wk_u wk_n))))))) ?_
              exact hk6 w3 w4 I12 h_w3 h_w4 h_I12 hf
            · refine aw_iload rfl d_C_mostPassed_76 (aw_istore_n (lv2 := [.ref o0, .ref o1, .int (iv p2), .int (iv y3), .int (iv w4), .int (iv w5), .int (iv y3)]) rfl (Nat.le_of_ble_eq_true rfl) rfl d_C_mostPassed_78 (aw_aload_n rfl rfl d_C_mostPassed_79 (aw_getr (r := o0 + 5) fl_C_24 h_o0 (by decide) rfl (rc_0_4 _ h_o0).1 d_C_mostPassed_80 (aw_iload rfl d_C_mostPassed_83 ?_))))
              refine ai_iald (rc_0_4 _ h_o0).2 rfl h_w5 hf d_C_mostPassed_85 (fun _ hf => ?_)
              refine ai_name hf (h_I12 (o0 + 5) w5.toNat) (fun x14 h_x14 hf => ?_)
              refine aw_istore (lv2 := [.ref o0, .ref o1, .int (iv p2), .int (iv y3), .int (iv x14), .int (iv w5), .int (iv y3)]) (Nat.le_of_ble_eq_true rfl) rfl d_C_mostPassed_86 ?_
              refine aw_weakB (lv2 := [.ref o0, .ref o1, .int (iv p2), .int (iv y3), .int (iv x14), .int (iv w5), uu]) (wk_s (wk_s (wk_s (wk_s (wk_s (wk_s (wk_u wk_n))))))) ?_
              exact hk6 y3 x14 I12 h_y3 h_x14 h_I12 hf
set_option maxRecDepth 20000 in
theorem t_C_mostPassed (fu : Nat) (o0 : Nat) (o1 : Nat) (I0 : IMem) (hI : RG I0) (h_o0 : KC[o0]? = some (3, 12)) (h_o1 : KC[o1]? = some (5, 14)) {r : Int × IMem} (hf : f_C_mostPassed fu o0 o1 I0 = some r) : Ss l b 3 y_C_mostPassed KC RC [.ref o0, .ref o1] (ivm I0) (Ps r) := by
  unfold f_C_mostPassed at hf
  refine Ss.of (show Ai l b 3 y_C_mostPassed KC RC (Ps r) I0 0 [.ref o0, .ref o1, uu, uu, uu, uu, uu] [] from ?_)
  refine aw_aload_n rfl rfl d_C_mostPassed_0 (aw_getr (r := o1 + 1) fl_C_65 h_o1 (by decide) rfl (rc_2_0 _ h_o1).1 d_C_mostPassed_1 (aw_iconst (v := iv 4) rfl d_C_mostPassed_4 (ai_ialdc (j := 4) (rc_2_0 _ h_o1).2 (by decide) (by decide) d_C_mostPassed_5 ?_)))
  refine ai_name hf (hI (o1 + 1) 4) (fun x1 h_x1 hf => ?_)
  refine aw_istore_n (lv2 := [.ref o0, .ref o1, .int (iv x1), uu, uu, uu, uu]) rfl (Nat.le_of_ble_eq_true rfl) rfl d_C_mostPassed_6 ?_
  refine aw_iload_n rfl rfl d_C_mostPassed_7 (aw_iconst (v := iv 1) rfl d_C_mostPassed_8 (ai_isub d_C_mostPassed_9 ?_))
  refine ai_name hf (wr32_in _) (fun x2 h_x2 hf => ?_)
  refine aw_istore_n (lv2 := [.ref o0, .ref o1, .int (iv x1), .int (iv x2), uu, uu, uu]) rfl (Nat.le_of_ble_eq_true rfl) rfl d_C_mostPassed_10 ?_
  refine aw_iconst (v := iv (-1)) rfl d_C_mostPassed_11 (aw_istore (lv2 := [.ref o0, .ref o1, .int (iv x1), .int (iv x2), .int (iv ((-1))), uu, uu]) (Nat.le_of_ble_eq_true rfl) rfl d_C_mostPassed_12 (aw_iconst (v := iv 0) rfl d_C_mostPassed_14 (aw_istore (lv2 := [.ref o0, .ref o1, .int (iv x1), .int (iv x2), .int (iv ((-1))), .int (iv 0), uu]) (Nat.le_of_ble_eq_true rfl) rfl d_C_mostPassed_15 ?_)))
  refine t_C_mostPassed_17 fu o0 o1 x1 h_o0 h_o1 h_x1 fu x2 ((-1)) 0 I0 h_x2 in_m1 in_0 hI hf
set_option maxRecDepth 20000 in
theorem t_L_isPlainAndTrue (fu : Nat) (o0 : Nat) (a1 : Int) (I0 : IMem) (hI : RG I0) (h_o0 : KC[o0]? = some (7, 3)) (h_a1 : inr a1) {r : Int × IMem} (hf : f_L_isPlainAndTrue fu o0 a1 I0 = some r) : Ss l b 2 y_L_isPlainAndTrue KC RC [.ref o0, .int (iv a1)] (ivm I0) (Ps r) := by
  unfold f_L_isPlainAndTrue at hf
  refine Ss.of (show Ai l b 2 y_L_isPlainAndTrue KC RC (Ps r) I0 0 [.ref o0, .int (iv a1)] [] from ?_)
  refine aw_aload_n rfl rfl d_L_isPlainAndTrue_0 (aw_iload_n rfl rfl d_L_isPlainAndTrue_1 (aw_iconst (v := iv 3) rfl d_L_isPlainAndTrue_2 ?_))
  obtain ⟨y1, I2, c3, hf⟩ := of_zb hf
  refine ai_callV (as := [.int (iv a1), .int (iv 3)]) (d' := 1) (q := ("SinglesUp$Lines", zT4, 3)) mo_L_get lk_L_53 h_o0 rfl rfl rfl ⟨by decide, by decide⟩ rfl rfl (by decide) d_L_isPlainAndTrue_3 (t_L_get fu o0 a1 3 I0 hI h_o0 h_a1 in_3 c3) (fun h_y1 h_I2 => ?_)
  refine ai_if_ne h_y1 hf (tgt := 28) (by decide) d_L_isPlainAndTrue_6 (fun hf => ?_) (fun hf => ?_)
  · refine aw_iconst (v := iv 0) rfl d_L_isPlainAndTrue_28 ?_
    exact ai_retn rfl (nar_z (Or.inl rfl)) d_L_isPlainAndTrue_29 hf in_0 h_I2
  · refine aw_aload_n rfl rfl d_L_isPlainAndTrue_9 (aw_iload_n rfl rfl d_L_isPlainAndTrue_10 (aw_iconst (v := iv 2) rfl d_L_isPlainAndTrue_11 ?_))
    obtain ⟨y4, I5, c6, hf⟩ := of_zb hf
    refine ai_callV (as := [.int (iv a1), .int (iv 2)]) (d' := 1) (q := ("SinglesUp$Lines", zT4, 3)) mo_L_get lk_L_53 h_o0 rfl rfl rfl ⟨by decide, by decide⟩ rfl rfl (by decide) d_L_isPlainAndTrue_12 (t_L_get fu o0 a1 2 I2 h_I2 h_o0 h_a1 in_2 c6) (fun h_y4 h_I5 => ?_)
    refine aw_aload_n rfl rfl d_L_isPlainAndTrue_15 (aw_iload_n rfl rfl d_L_isPlainAndTrue_16 (aw_iconst (v := iv 1) rfl d_L_isPlainAndTrue_17 ?_))
    obtain ⟨y7, I8, c9, hf⟩ := of_zb hf
    refine ai_callV (as := [.int (iv a1), .int (iv 1)]) (d' := 1) (q := ("SinglesUp$Lines", zT4, 3)) mo_L_get lk_L_53 h_o0 rfl rfl rfl ⟨by decide, by decide⟩ rfl rfl (by decide) d_L_isPlainAndTrue_18 (t_L_get fu o0 a1 1 I5 h_I5 h_o0 h_a1 in_1 c9) (fun h_y7 h_I8 => ?_)
    refine ai_icmp_ne h_y4 h_y7 hf (tgt := 28) (by decide) d_L_isPlainAndTrue_21 (fun hf => ?_) (fun hf => ?_)
    · refine aw_iconst (v := iv 0) rfl d_L_isPlainAndTrue_28 ?_
      exact ai_retn rfl (nar_z (Or.inl rfl)) d_L_isPlainAndTrue_29 hf in_0 h_I8
    · refine aw_iconst (v := iv 1) rfl d_L_isPlainAndTrue_24 (aw_goto (tgt := 29) (by decide) d_L_isPlainAndTrue_25 ?_)
      exact ai_retn rfl (nar_z (Or.inr rfl)) d_L_isPlainAndTrue_29 hf in_1 h_I8
end
