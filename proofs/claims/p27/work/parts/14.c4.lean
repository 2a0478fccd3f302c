/-! the class: shallow functions and the machine -/
abbrev y_S_best : MI := (⟨"SinglesUp", "best", "(I)I"⟩, prog_1_method_20_code, 3, some .int)
theorem ck_S_best_0 : (y_S_best.2.1.data.toList.drop 0).take 32 = [27, 156, 0, 5, 2, 172, 42, 180, 0, 46, 42, 180, 0, 12, 2, 182, 0, 200, 61, 27, 16, 10, 162, 0, 28, 27, 154, 0, 7, 28, 167, 0] := by decide +kernel
theorem d_S_best_0 : decode y_S_best.2.1 0 = .ok (.iload_n 1, 1) := op_iload_n1 (gk (k := 0) (t := 0) ck_S_best_0 rfl)
theorem d_S_best_1 : decode y_S_best.2.1 1 = .ok (.ifCond .ge 5, 3) := op_if_ge (gk (k := 0) (t := 1) ck_S_best_0 rfl) (gk (k := 0) (t := 2) ck_S_best_0 rfl) (gk (k := 0) (t := 3) ck_S_best_0 rfl) (by decide +kernel)
theorem d_S_best_6 : decode y_S_best.2.1 6 = .ok (.aload_n 0, 1) := op_aload_n0 (gk (k := 0) (t := 6) ck_S_best_0 rfl)
theorem fl_S_46 : FL "SinglesUp" 46 8 6 := ⟨"SinglesUp", zT8, 9, rfl, by decide, rfl, Or.inl (tw_c2 98 (by decide +kernel) rfl)⟩
theorem rc_8_6 : ∀ o, KC[o]? = some (11, 9) → RC o 6 = some (o + 154) ∧ KC[o + 154]? = some (4, 7) := by
  intro o h
  have hl : o < 166 := (List.getElem?_eq_some_iff.mp h).1
  exact (by decide +kernel : ∀ o, o < 166 → KC[o]? = some (11, 9) → RC o 6 = some (o + 154) ∧ KC[o + 154]? = some (4, 7)) o hl h
theorem d_S_best_7 : decode y_S_best.2.1 7 = .ok (.getfield 46, 3) := op_getfield (gk (k := 0) (t := 7) ck_S_best_0 rfl) (gk (k := 0) (t := 8) ck_S_best_0 rfl) (gk (k := 0) (t := 9) ck_S_best_0 rfl) rfl
theorem d_S_best_10 : decode y_S_best.2.1 10 = .ok (.aload_n 0, 1) := op_aload_n0 (gk (k := 0) (t := 10) ck_S_best_0 rfl)
theorem d_S_best_11 : decode y_S_best.2.1 11 = .ok (.getfield 12, 3) := op_getfield (gk (k := 0) (t := 11) ck_S_best_0 rfl) (gk (k := 0) (t := 12) ck_S_best_0 rfl) (gk (k := 0) (t := 13) ck_S_best_0 rfl) rfl
theorem d_S_best_14 : decode y_S_best.2.1 14 = .ok (.iconst (-1), 1) := op_iconstm1 (gk (k := 0) (t := 14) ck_S_best_0 rfl)
theorem lk_S_200 : LkV "SinglesUp" 200 y_F_fillMost := ⟨tw_c4 137 (by decide +kernel) rfl, tw_c4 138 (by decide +kernel) rfl, Or.inl (tw_c4 136 (by decide +kernel) rfl)⟩
set_option maxRecDepth 100000 in
theorem mo_F_fillMost : MOk y_F_fillMost 2 := ⟨by decide +kernel, tw_c4 139 rfl rfl, tw_c1 9 (by decide +kernel) rfl, by decide +kernel, by decide +kernel, by decide +kernel⟩
theorem d_S_best_15 : decode y_S_best.2.1 15 = .ok (.invokevirtual 200, 3) := op_invokevirtual (gk (k := 0) (t := 15) ck_S_best_0 rfl) (gk (k := 0) (t := 16) ck_S_best_0 rfl) (gk (k := 0) (t := 17) ck_S_best_0 rfl) rfl
theorem d_S_best_18 : decode y_S_best.2.1 18 = .ok (.istore_n 2, 1) := op_istore_n2 (gk (k := 0) (t := 18) ck_S_best_0 rfl)
theorem d_S_best_19 : decode y_S_best.2.1 19 = .ok (.iload_n 1, 1) := op_iload_n1 (gk (k := 0) (t := 19) ck_S_best_0 rfl)
theorem d_S_best_20 : decode y_S_best.2.1 20 = .ok (.bipush 10, 2) := op_bipush (gk (k := 0) (t := 20) ck_S_best_0 rfl) (gk (k := 0) (t := 21) ck_S_best_0 rfl) rfl
theorem d_S_best_22 : decode y_S_best.2.1 22 = .ok (.if_icmp .ge 28, 3) := op_icmp_ge (gk (k := 0) (t := 22) ck_S_best_0 rfl) (gk (k := 0) (t := 23) ck_S_best_0 rfl) (gk (k := 0) (t := 24) ck_S_best_0 rfl) (by decide +kernel)
theorem ck_S_best_1 : (y_S_best.2.1.data.toList.drop 32).take 32 = [19, 27, 4, 160, 0, 13, 42, 180, 0, 46, 180, 0, 203, 167, 0, 4, 2, 172, 42, 180, 0, 46, 27, 16, 10, 100, 182, 0, 206, 172] := by decide +kernel
theorem d_S_best_50 : decode y_S_best.2.1 50 = .ok (.aload_n 0, 1) := op_aload_n0 (gk (k := 32) (t := 18) ck_S_best_1 rfl)
theorem d_S_best_51 : decode y_S_best.2.1 51 = .ok (.getfield 46, 3) := op_getfield (gk (k := 32) (t := 19) ck_S_best_1 rfl) (gk (k := 32) (t := 20) ck_S_best_1 rfl) (gk (k := 32) (t := 21) ck_S_best_1 rfl) rfl
theorem d_S_best_54 : decode y_S_best.2.1 54 = .ok (.iload_n 1, 1) := op_iload_n1 (gk (k := 32) (t := 22) ck_S_best_1 rfl)
theorem d_S_best_55 : decode y_S_best.2.1 55 = .ok (.bipush 10, 2) := op_bipush (gk (k := 32) (t := 23) ck_S_best_1 rfl) (gk (k := 32) (t := 24) ck_S_best_1 rfl) rfl
theorem d_S_best_57 : decode y_S_best.2.1 57 = .ok (.isub, 1) := op_isub (gk (k := 32) (t := 25) ck_S_best_1 rfl)
theorem lk_S_206 : LkV "SinglesUp" 206 y_F_chosenAt := ⟨tw_c4 164 (by decide +kernel) rfl, tw_c4 165 (by decide +kernel) rfl, Or.inl (tw_c4 163 (by decide +kernel) rfl)⟩
set_option maxRecDepth 100000 in
theorem mo_F_chosenAt : MOk y_F_chosenAt 1 := ⟨by decide +kernel, tw_c4 166 rfl rfl, tw_c1 9 (by decide +kernel) rfl, by decide +kernel, by decide +kernel, by decide +kernel⟩
theorem d_S_best_58 : decode y_S_best.2.1 58 = .ok (.invokevirtual 206, 3) := op_invokevirtual (gk (k := 32) (t := 26) ck_S_best_1 rfl) (gk (k := 32) (t := 27) ck_S_best_1 rfl) (gk (k := 32) (t := 28) ck_S_best_1 rfl) rfl
theorem d_S_best_61 : decode y_S_best.2.1 61 = .ok (.ireturn, 1) := op_ireturn (gk (k := 32) (t := 29) ck_S_best_1 rfl)
theorem d_S_best_25 : decode y_S_best.2.1 25 = .ok (.iload_n 1, 1) := op_iload_n1 (gk (k := 0) (t := 25) ck_S_best_0 rfl)
theorem d_S_best_26 : decode y_S_best.2.1 26 = .ok (.ifCond .ne 7, 3) := op_if_ne (gk (k := 0) (t := 26) ck_S_best_0 rfl) (gk (k := 0) (t := 27) ck_S_best_0 rfl) (gk (k := 0) (t := 28) ck_S_best_0 rfl) (by decide +kernel)
theorem d_S_best_33 : decode y_S_best.2.1 33 = .ok (.iload_n 1, 1) := op_iload_n1 (gk (k := 32) (t := 1) ck_S_best_1 rfl)
theorem d_S_best_34 : decode y_S_best.2.1 34 = .ok (.iconst 1, 1) := op_iconst1 (gk (k := 32) (t := 2) ck_S_best_1 rfl)
theorem d_S_best_35 : decode y_S_best.2.1 35 = .ok (.if_icmp .ne 13, 3) := op_icmp_ne (gk (k := 32) (t := 3) ck_S_best_1 rfl) (gk (k := 32) (t := 4) ck_S_best_1 rfl) (gk (k := 32) (t := 5) ck_S_best_1 rfl) (by decide +kernel)
theorem d_S_best_48 : decode y_S_best.2.1 48 = .ok (.iconst (-1), 1) := op_iconstm1 (gk (k := 32) (t := 16) ck_S_best_1 rfl)
theorem d_S_best_49 : decode y_S_best.2.1 49 = .ok (.ireturn, 1) := op_ireturn (gk (k := 32) (t := 17) ck_S_best_1 rfl)
theorem d_S_best_38 : decode y_S_best.2.1 38 = .ok (.aload_n 0, 1) := op_aload_n0 (gk (k := 32) (t := 6) ck_S_best_1 rfl)
theorem d_S_best_39 : decode y_S_best.2.1 39 = .ok (.getfield 46, 3) := op_getfield (gk (k := 32) (t := 7) ck_S_best_1 rfl) (gk (k := 32) (t := 8) ck_S_best_1 rfl) (gk (k := 32) (t := 9) ck_S_best_1 rfl) rfl
theorem fl_S_203 : FL "SinglesUp" 203 1 6 := ⟨"SinglesUp$Filling", zT1, 7, rfl, by decide, rfl, Or.inr ⟨"SinglesUp", nw_in 277 (by decide +kernel) rfl⟩⟩
theorem d_S_best_42 : decode y_S_best.2.1 42 = .ok (.getfield 203, 3) := op_getfield (gk (k := 32) (t := 10) ck_S_best_1 rfl) (gk (k := 32) (t := 11) ck_S_best_1 rfl) (gk (k := 32) (t := 12) ck_S_best_1 rfl) rfl
theorem d_S_best_45 : decode y_S_best.2.1 45 = .ok (.goto 4, 3) := op_goto (gk (k := 32) (t := 13) ck_S_best_1 rfl) (gk (k := 32) (t := 14) ck_S_best_1 rfl) (gk (k := 32) (t := 15) ck_S_best_1 rfl) (by decide +kernel)
theorem d_S_best_29 : decode y_S_best.2.1 29 = .ok (.iload_n 2, 1) := op_iload_n2 (gk (k := 0) (t := 29) ck_S_best_0 rfl)
theorem d_S_best_30 : decode y_S_best.2.1 30 = .ok (.goto 19, 3) := op_goto (gk (k := 0) (t := 30) ck_S_best_0 rfl) (gk (k := 0) (t := 31) ck_S_best_0 rfl) (gk (k := 32) (t := 0) ck_S_best_1 rfl) (by decide +kernel)
theorem d_S_best_4 : decode y_S_best.2.1 4 = .ok (.iconst (-1), 1) := op_iconstm1 (gk (k := 0) (t := 4) ck_S_best_0 rfl)
theorem d_S_best_5 : decode y_S_best.2.1 5 = .ok (.ireturn, 1) := op_ireturn (gk (k := 0) (t := 5) ck_S_best_0 rfl)
abbrev y_S_look : MI := (⟨"SinglesUp", "look", "(I)I"⟩, prog_1_method_21_code, 2, some .int)
theorem ck_S_look_0 : (y_S_look.2.1.data.toList.drop 0).take 32 = [27, 184, 0, 73, 153, 0, 20, 42, 180, 0, 12, 180, 0, 77, 180, 0, 81, 27, 46, 16, 24, 161, 0, 5, 2, 172, 42, 180, 0, 46, 42, 180] := by decide +kernel
theorem d_S_look_0 : decode y_S_look.2.1 0 = .ok (.iload_n 1, 1) := op_iload_n1 (gk (k := 0) (t := 0) ck_S_look_0 rfl)
theorem d_S_look_1 : decode y_S_look.2.1 1 = .ok (.invokestatic 73, 3) := op_invokestatic (gk (k := 0) (t := 1) ck_S_look_0 rfl) (gk (k := 0) (t := 2) ck_S_look_0 rfl) (gk (k := 0) (t := 3) ck_S_look_0 rfl) rfl
theorem d_S_look_4 : decode y_S_look.2.1 4 = .ok (.ifCond .eq 20, 3) := op_if_eq (gk (k := 0) (t := 4) ck_S_look_0 rfl) (gk (k := 0) (t := 5) ck_S_look_0 rfl) (gk (k := 0) (t := 6) ck_S_look_0 rfl) (by decide +kernel)
theorem d_S_look_24 : decode y_S_look.2.1 24 = .ok (.iconst (-1), 1) := op_iconstm1 (gk (k := 0) (t := 24) ck_S_look_0 rfl)
theorem d_S_look_25 : decode y_S_look.2.1 25 = .ok (.ireturn, 1) := op_ireturn (gk (k := 0) (t := 25) ck_S_look_0 rfl)
theorem d_S_look_7 : decode y_S_look.2.1 7 = .ok (.aload_n 0, 1) := op_aload_n0 (gk (k := 0) (t := 7) ck_S_look_0 rfl)
theorem d_S_look_8 : decode y_S_look.2.1 8 = .ok (.getfield 12, 3) := op_getfield (gk (k := 0) (t := 8) ck_S_look_0 rfl) (gk (k := 0) (t := 9) ck_S_look_0 rfl) (gk (k := 0) (t := 10) ck_S_look_0 rfl) rfl
theorem d_S_look_11 : decode y_S_look.2.1 11 = .ok (.getfield 77, 3) := op_getfield (gk (k := 0) (t := 11) ck_S_look_0 rfl) (gk (k := 0) (t := 12) ck_S_look_0 rfl) (gk (k := 0) (t := 13) ck_S_look_0 rfl) rfl
theorem d_S_look_14 : decode y_S_look.2.1 14 = .ok (.getfield 81, 3) := op_getfield (gk (k := 0) (t := 14) ck_S_look_0 rfl) (gk (k := 0) (t := 15) ck_S_look_0 rfl) (gk (k := 0) (t := 16) ck_S_look_0 rfl) rfl
theorem d_S_look_17 : decode y_S_look.2.1 17 = .ok (.iload_n 1, 1) := op_iload_n1 (gk (k := 0) (t := 17) ck_S_look_0 rfl)
theorem d_S_look_18 : decode y_S_look.2.1 18 = .ok (.iaload, 1) := op_iaload (gk (k := 0) (t := 18) ck_S_look_0 rfl)
theorem d_S_look_19 : decode y_S_look.2.1 19 = .ok (.bipush 24, 2) := op_bipush (gk (k := 0) (t := 19) ck_S_look_0 rfl) (gk (k := 0) (t := 20) ck_S_look_0 rfl) rfl
theorem d_S_look_21 : decode y_S_look.2.1 21 = .ok (.if_icmp .lt 5, 3) := op_icmp_lt (gk (k := 0) (t := 21) ck_S_look_0 rfl) (gk (k := 0) (t := 22) ck_S_look_0 rfl) (gk (k := 0) (t := 23) ck_S_look_0 rfl) (by decide +kernel)
theorem d_S_look_26 : decode y_S_look.2.1 26 = .ok (.aload_n 0, 1) := op_aload_n0 (gk (k := 0) (t := 26) ck_S_look_0 rfl)
theorem d_S_look_27 : decode y_S_look.2.1 27 = .ok (.getfield 46, 3) := op_getfield (gk (k := 0) (t := 27) ck_S_look_0 rfl) (gk (k := 0) (t := 28) ck_S_look_0 rfl) (gk (k := 0) (t := 29) ck_S_look_0 rfl) rfl
theorem d_S_look_30 : decode y_S_look.2.1 30 = .ok (.aload_n 0, 1) := op_aload_n0 (gk (k := 0) (t := 30) ck_S_look_0 rfl)
theorem ck_S_look_1 : (y_S_look.2.1.data.toList.drop 32).take 32 = [0, 12, 27, 182, 0, 200, 42, 180, 0, 46, 42, 180, 0, 12, 2, 182, 0, 200, 100, 172] := by decide +kernel
theorem d_S_look_31 : decode y_S_look.2.1 31 = .ok (.getfield 12, 3) := op_getfield (gk (k := 0) (t := 31) ck_S_look_0 rfl) (gk (k := 32) (t := 0) ck_S_look_1 rfl) (gk (k := 32) (t := 1) ck_S_look_1 rfl) rfl
theorem d_S_look_34 : decode y_S_look.2.1 34 = .ok (.iload_n 1, 1) := op_iload_n1 (gk (k := 32) (t := 2) ck_S_look_1 rfl)
theorem d_S_look_35 : decode y_S_look.2.1 35 = .ok (.invokevirtual 200, 3) := op_invokevirtual (gk (k := 32) (t := 3) ck_S_look_1 rfl) (gk (k := 32) (t := 4) ck_S_look_1 rfl) (gk (k := 32) (t := 5) ck_S_look_1 rfl) rfl
theorem d_S_look_38 : decode y_S_look.2.1 38 = .ok (.aload_n 0, 1) := op_aload_n0 (gk (k := 32) (t := 6) ck_S_look_1 rfl)
theorem d_S_look_39 : decode y_S_look.2.1 39 = .ok (.getfield 46, 3) := op_getfield (gk (k := 32) (t := 7) ck_S_look_1 rfl) (gk (k := 32) (t := 8) ck_S_look_1 rfl) (gk (k := 32) (t := 9) ck_S_look_1 rfl) rfl
theorem d_S_look_42 : decode y_S_look.2.1 42 = .ok (.aload_n 0, 1) := op_aload_n0 (gk (k := 32) (t := 10) ck_S_look_1 rfl)
theorem d_S_look_43 : decode y_S_look.2.1 43 = .ok (.getfield 12, 3) := op_getfield (gk (k := 32) (t := 11) ck_S_look_1 rfl) (gk (k := 32) (t := 12) ck_S_look_1 rfl) (gk (k := 32) (t := 13) ck_S_look_1 rfl) rfl
theorem d_S_look_46 : decode y_S_look.2.1 46 = .ok (.iconst (-1), 1) := op_iconstm1 (gk (k := 32) (t := 14) ck_S_look_1 rfl)
theorem d_S_look_47 : decode y_S_look.2.1 47 = .ok (.invokevirtual 200, 3) := op_invokevirtual (gk (k := 32) (t := 15) ck_S_look_1 rfl) (gk (k := 32) (t := 16) ck_S_look_1 rfl) (gk (k := 32) (t := 17) ck_S_look_1 rfl) rfl
theorem d_S_look_50 : decode y_S_look.2.1 50 = .ok (.isub, 1) := op_isub (gk (k := 32) (t := 18) ck_S_look_1 rfl)
theorem d_S_look_51 : decode y_S_look.2.1 51 = .ok (.ireturn, 1) := op_ireturn (gk (k := 32) (t := 19) ck_S_look_1 rfl)
abbrev y_S_heap : MI := (⟨"SinglesUp", "heap", "(II)Z"⟩, prog_1_method_22_code, 5, some .boolean)
theorem ck_S_heap_0 : (y_S_heap.2.1.data.toList.drop 0).take 32 = [27, 4, 161, 0, 19, 27, 16, 8, 163, 0, 13, 28, 155, 0, 9, 28, 16, 9, 164, 0, 5, 3, 172, 28, 42, 180, 0, 12, 180, 0, 209, 27] := by decide +kernel
theorem d_S_heap_0 : decode y_S_heap.2.1 0 = .ok (.iload_n 1, 1) := op_iload_n1 (gk (k := 0) (t := 0) ck_S_heap_0 rfl)
theorem d_S_heap_1 : decode y_S_heap.2.1 1 = .ok (.iconst 1, 1) := op_iconst1 (gk (k := 0) (t := 1) ck_S_heap_0 rfl)
theorem d_S_heap_2 : decode y_S_heap.2.1 2 = .ok (.if_icmp .lt 19, 3) := op_icmp_lt (gk (k := 0) (t := 2) ck_S_heap_0 rfl) (gk (k := 0) (t := 3) ck_S_heap_0 rfl) (gk (k := 0) (t := 4) ck_S_heap_0 rfl) (by decide +kernel)
theorem d_S_heap_21 : decode y_S_heap.2.1 21 = .ok (.iconst 0, 1) := op_iconst0 (gk (k := 0) (t := 21) ck_S_heap_0 rfl)
theorem d_S_heap_22 : decode y_S_heap.2.1 22 = .ok (.ireturn, 1) := op_ireturn (gk (k := 0) (t := 22) ck_S_heap_0 rfl)
theorem d_S_heap_5 : decode y_S_heap.2.1 5 = .ok (.iload_n 1, 1) := op_iload_n1 (gk (k := 0) (t := 5) ck_S_heap_0 rfl)
theorem d_S_heap_6 : decode y_S_heap.2.1 6 = .ok (.bipush 8, 2) := op_bipush (gk (k := 0) (t := 6) ck_S_heap_0 rfl) (gk (k := 0) (t := 7) ck_S_heap_0 rfl) rfl
theorem d_S_heap_8 : decode y_S_heap.2.1 8 = .ok (.if_icmp .gt 13, 3) := op_icmp_gt (gk (k := 0) (t := 8) ck_S_heap_0 rfl) (gk (k := 0) (t := 9) ck_S_heap_0 rfl) (gk (k := 0) (t := 10) ck_S_heap_0 rfl) (by decide +kernel)
theorem d_S_heap_11 : decode y_S_heap.2.1 11 = .ok (.iload_n 2, 1) := op_iload_n2 (gk (k := 0) (t := 11) ck_S_heap_0 rfl)
theorem d_S_heap_12 : decode y_S_heap.2.1 12 = .ok (.ifCond .lt 9, 3) := op_if_lt (gk (k := 0) (t := 12) ck_S_heap_0 rfl) (gk (k := 0) (t := 13) ck_S_heap_0 rfl) (gk (k := 0) (t := 14) ck_S_heap_0 rfl) (by decide +kernel)
theorem d_S_heap_15 : decode y_S_heap.2.1 15 = .ok (.iload_n 2, 1) := op_iload_n2 (gk (k := 0) (t := 15) ck_S_heap_0 rfl)
theorem d_S_heap_16 : decode y_S_heap.2.1 16 = .ok (.bipush 9, 2) := op_bipush (gk (k := 0) (t := 16) ck_S_heap_0 rfl) (gk (k := 0) (t := 17) ck_S_heap_0 rfl) rfl
theorem d_S_heap_18 : decode y_S_heap.2.1 18 = .ok (.if_icmp .le 5, 3) := op_icmp_le (gk (k := 0) (t := 18) ck_S_heap_0 rfl) (gk (k := 0) (t := 19) ck_S_heap_0 rfl) (gk (k := 0) (t := 20) ck_S_heap_0 rfl) (by decide +kernel)
theorem d_S_heap_23 : decode y_S_heap.2.1 23 = .ok (.iload_n 2, 1) := op_iload_n2 (gk (k := 0) (t := 23) ck_S_heap_0 rfl)
theorem d_S_heap_24 : decode y_S_heap.2.1 24 = .ok (.aload_n 0, 1) := op_aload_n0 (gk (k := 0) (t := 24) ck_S_heap_0 rfl)
theorem d_S_heap_25 : decode y_S_heap.2.1 25 = .ok (.getfield 12, 3) := op_getfield (gk (k := 0) (t := 25) ck_S_heap_0 rfl) (gk (k := 0) (t := 26) ck_S_heap_0 rfl) (gk (k := 0) (t := 27) ck_S_heap_0 rfl) rfl
theorem fl_S_209 : FL "SinglesUp" 209 2 4 := ⟨"SinglesUp$Hill", zT2, 14, rfl, by decide, rfl, Or.inr ⟨"SinglesUp", nw_in 96 (by decide +kernel) rfl⟩⟩
theorem rc_2_4 : ∀ o, KC[o]? = some (5, 14) → RC o 4 = some (o + 5) ∧ KC[o + 5]? = some (0, 9) := by
  intro o h
  have hl : o < 166 := (List.getElem?_eq_some_iff.mp h).1
  exact (by decide +kernel : ∀ o, o < 166 → KC[o]? = some (5, 14) → RC o 4 = some (o + 5) ∧ KC[o + 5]? = some (0, 9)) o hl h
theorem d_S_heap_28 : decode y_S_heap.2.1 28 = .ok (.getfield 209, 3) := op_getfield (gk (k := 0) (t := 28) ck_S_heap_0 rfl) (gk (k := 0) (t := 29) ck_S_heap_0 rfl) (gk (k := 0) (t := 30) ck_S_heap_0 rfl) rfl
theorem d_S_heap_31 : decode y_S_heap.2.1 31 = .ok (.iload_n 1, 1) := op_iload_n1 (gk (k := 0) (t := 31) ck_S_heap_0 rfl)
theorem ck_S_heap_1 : (y_S_heap.2.1.data.toList.drop 32).take 32 = [46, 100, 62, 4, 54, 4, 21, 4, 42, 180, 0, 12, 180, 0, 209, 190, 162, 0, 22, 29, 42, 180, 0, 12, 180, 0, 209, 21, 4, 46, 96, 62] := by decide +kernel
theorem d_S_heap_32 : decode y_S_heap.2.1 32 = .ok (.iaload, 1) := op_iaload (gk (k := 32) (t := 0) ck_S_heap_1 rfl)
theorem d_S_heap_33 : decode y_S_heap.2.1 33 = .ok (.isub, 1) := op_isub (gk (k := 32) (t := 1) ck_S_heap_1 rfl)
theorem d_S_heap_34 : decode y_S_heap.2.1 34 = .ok (.istore_n 3, 1) := op_istore_n3 (gk (k := 32) (t := 2) ck_S_heap_1 rfl)
theorem d_S_heap_35 : decode y_S_heap.2.1 35 = .ok (.iconst 1, 1) := op_iconst1 (gk (k := 32) (t := 3) ck_S_heap_1 rfl)
theorem d_S_heap_36 : decode y_S_heap.2.1 36 = .ok (.istore 4, 2) := op_istore (gk (k := 32) (t := 4) ck_S_heap_1 rfl) (gk (k := 32) (t := 5) ck_S_heap_1 rfl) rfl
theorem d_S_heap_38 : decode y_S_heap.2.1 38 = .ok (.iload 4, 2) := op_iload (gk (k := 32) (t := 6) ck_S_heap_1 rfl) (gk (k := 32) (t := 7) ck_S_heap_1 rfl) rfl
theorem d_S_heap_40 : decode y_S_heap.2.1 40 = .ok (.aload_n 0, 1) := op_aload_n0 (gk (k := 32) (t := 8) ck_S_heap_1 rfl)
theorem d_S_heap_41 : decode y_S_heap.2.1 41 = .ok (.getfield 12, 3) := op_getfield (gk (k := 32) (t := 9) ck_S_heap_1 rfl) (gk (k := 32) (t := 10) ck_S_heap_1 rfl) (gk (k := 32) (t := 11) ck_S_heap_1 rfl) rfl
theorem d_S_heap_44 : decode y_S_heap.2.1 44 = .ok (.getfield 209, 3) := op_getfield (gk (k := 32) (t := 12) ck_S_heap_1 rfl) (gk (k := 32) (t := 13) ck_S_heap_1 rfl) (gk (k := 32) (t := 14) ck_S_heap_1 rfl) rfl
theorem d_S_heap_47 : decode y_S_heap.2.1 47 = .ok (.arraylength, 1) := op_arraylength (gk (k := 32) (t := 15) ck_S_heap_1 rfl)
theorem d_S_heap_48 : decode y_S_heap.2.1 48 = .ok (.if_icmp .ge 22, 3) := op_icmp_ge (gk (k := 32) (t := 16) ck_S_heap_1 rfl) (gk (k := 32) (t := 17) ck_S_heap_1 rfl) (gk (k := 32) (t := 18) ck_S_heap_1 rfl) (by decide +kernel)
theorem d_S_heap_51 : decode y_S_heap.2.1 51 = .ok (.iload_n 3, 1) := op_iload_n3 (gk (k := 32) (t := 19) ck_S_heap_1 rfl)
theorem d_S_heap_52 : decode y_S_heap.2.1 52 = .ok (.aload_n 0, 1) := op_aload_n0 (gk (k := 32) (t := 20) ck_S_heap_1 rfl)
theorem d_S_heap_53 : decode y_S_heap.2.1 53 = .ok (.getfield 12, 3) := op_getfield (gk (k := 32) (t := 21) ck_S_heap_1 rfl) (gk (k := 32) (t := 22) ck_S_heap_1 rfl) (gk (k := 32) (t := 23) ck_S_heap_1 rfl) rfl
theorem d_S_heap_56 : decode y_S_heap.2.1 56 = .ok (.getfield 209, 3) := op_getfield (gk (k := 32) (t := 24) ck_S_heap_1 rfl) (gk (k := 32) (t := 25) ck_S_heap_1 rfl) (gk (k := 32) (t := 26) ck_S_heap_1 rfl) rfl
theorem d_S_heap_59 : decode y_S_heap.2.1 59 = .ok (.iload 4, 2) := op_iload (gk (k := 32) (t := 27) ck_S_heap_1 rfl) (gk (k := 32) (t := 28) ck_S_heap_1 rfl) rfl
theorem d_S_heap_61 : decode y_S_heap.2.1 61 = .ok (.iaload, 1) := op_iaload (gk (k := 32) (t := 29) ck_S_heap_1 rfl)
theorem d_S_heap_62 : decode y_S_heap.2.1 62 = .ok (.iadd, 1) := op_iadd (gk (k := 32) (t := 30) ck_S_heap_1 rfl)
theorem d_S_heap_63 : decode y_S_heap.2.1 63 = .ok (.istore_n 3, 1) := op_istore_n3 (gk (k := 32) (t := 31) ck_S_heap_1 rfl)
theorem ck_S_heap_2 : (y_S_heap.2.1.data.toList.drop 64).take 32 = [132, 4, 1, 167, 255, 227, 29, 16, 12, 164, 0, 5, 3, 172, 42, 180, 0, 12, 180, 0, 209, 27, 28, 79, 4, 172] := by decide +kernel
theorem d_S_heap_64 : decode y_S_heap.2.1 64 = .ok (.iinc 4 1, 3) := op_iinc (gk (k := 64) (t := 0) ck_S_heap_2 rfl) (gk (k := 64) (t := 1) ck_S_heap_2 rfl) (gk (k := 64) (t := 2) ck_S_heap_2 rfl) rfl rfl
theorem d_S_heap_67 : decode y_S_heap.2.1 67 = .ok (.goto (-29), 3) := op_goto (gk (k := 64) (t := 3) ck_S_heap_2 rfl) (gk (k := 64) (t := 4) ck_S_heap_2 rfl) (gk (k := 64) (t := 5) ck_S_heap_2 rfl) (by decide +kernel)
theorem d_S_heap_70 : decode y_S_heap.2.1 70 = .ok (.iload_n 3, 1) := op_iload_n3 (gk (k := 64) (t := 6) ck_S_heap_2 rfl)
theorem d_S_heap_71 : decode y_S_heap.2.1 71 = .ok (.bipush 12, 2) := op_bipush (gk (k := 64) (t := 7) ck_S_heap_2 rfl) (gk (k := 64) (t := 8) ck_S_heap_2 rfl) rfl
theorem in_12 : inr (12) := lit_in rfl
theorem d_S_heap_73 : decode y_S_heap.2.1 73 = .ok (.if_icmp .le 5, 3) := op_icmp_le (gk (k := 64) (t := 9) ck_S_heap_2 rfl) (gk (k := 64) (t := 10) ck_S_heap_2 rfl) (gk (k := 64) (t := 11) ck_S_heap_2 rfl) (by decide +kernel)
theorem d_S_heap_78 : decode y_S_heap.2.1 78 = .ok (.aload_n 0, 1) := op_aload_n0 (gk (k := 64) (t := 14) ck_S_heap_2 rfl)
theorem d_S_heap_79 : decode y_S_heap.2.1 79 = .ok (.getfield 12, 3) := op_getfield (gk (k := 64) (t := 15) ck_S_heap_2 rfl) (gk (k := 64) (t := 16) ck_S_heap_2 rfl) (gk (k := 64) (t := 17) ck_S_heap_2 rfl) rfl
theorem d_S_heap_82 : decode y_S_heap.2.1 82 = .ok (.getfield 209, 3) := op_getfield (gk (k := 64) (t := 18) ck_S_heap_2 rfl) (gk (k := 64) (t := 19) ck_S_heap_2 rfl) (gk (k := 64) (t := 20) ck_S_heap_2 rfl) rfl
theorem d_S_heap_85 : decode y_S_heap.2.1 85 = .ok (.iload_n 1, 1) := op_iload_n1 (gk (k := 64) (t := 21) ck_S_heap_2 rfl)
theorem d_S_heap_86 : decode y_S_heap.2.1 86 = .ok (.iload_n 2, 1) := op_iload_n2 (gk (k := 64) (t := 22) ck_S_heap_2 rfl)
theorem d_S_heap_87 : decode y_S_heap.2.1 87 = .ok (.iastore, 1) := op_iastore (gk (k := 64) (t := 23) ck_S_heap_2 rfl)
theorem d_S_heap_88 : decode y_S_heap.2.1 88 = .ok (.iconst 1, 1) := op_iconst1 (gk (k := 64) (t := 24) ck_S_heap_2 rfl)
theorem d_S_heap_89 : decode y_S_heap.2.1 89 = .ok (.ireturn, 1) := op_ireturn (gk (k := 64) (t := 25) ck_S_heap_2 rfl)
theorem d_S_heap_76 : decode y_S_heap.2.1 76 = .ok (.iconst 0, 1) := op_iconst0 (gk (k := 64) (t := 12) ck_S_heap_2 rfl)
theorem d_S_heap_77 : decode y_S_heap.2.1 77 = .ok (.ireturn, 1) := op_ireturn (gk (k := 64) (t := 13) ck_S_heap_2 rfl)
abbrev y_P_inFirst : MI := (⟨"SinglesUp$Packer", "inFirst", "(I)I"⟩, prog_8_method_9_code, 3, some .int)
theorem ck_P_inFirst_0 : (y_P_inFirst.2.1.data.toList.drop 0).take 32 = [42, 180, 0, 27, 155, 0, 27, 42, 180, 0, 27, 16, 67, 162, 0, 18, 27, 4, 161, 0, 13, 27, 16, 8, 163, 0, 7, 4, 167, 0, 4, 3] := by decide +kernel
theorem d_P_inFirst_0 : decode y_P_inFirst.2.1 0 = .ok (.aload_n 0, 1) := op_aload_n0 (gk (k := 0) (t := 0) ck_P_inFirst_0 rfl)
theorem fl_P_27 : FL "SinglesUp$Packer" 27 6 6 := ⟨"SinglesUp$Packer", zT6, 7, rfl, by decide, rfl, Or.inl (tw_c2 76 (by decide +kernel) rfl)⟩
theorem d_P_inFirst_1 : decode y_P_inFirst.2.1 1 = .ok (.getfield 27, 3) := op_getfield (gk (k := 0) (t := 1) ck_P_inFirst_0 rfl) (gk (k := 0) (t := 2) ck_P_inFirst_0 rfl) (gk (k := 0) (t := 3) ck_P_inFirst_0 rfl) rfl
theorem ck_P_inFirst_1 : (y_P_inFirst.2.1.data.toList.drop 32).take 32 = [61, 28, 153, 0, 20, 42, 180, 0, 11, 42, 180, 0, 27, 16, 9, 104, 27, 96, 46, 167, 0, 4, 3, 172] := by decide +kernel
theorem d_P_inFirst_32 : decode y_P_inFirst.2.1 32 = .ok (.istore_n 2, 1) := op_istore_n2 (gk (k := 32) (t := 0) ck_P_inFirst_1 rfl)
theorem d_P_inFirst_33 : decode y_P_inFirst.2.1 33 = .ok (.iload_n 2, 1) := op_iload_n2 (gk (k := 32) (t := 1) ck_P_inFirst_1 rfl)
theorem d_P_inFirst_34 : decode y_P_inFirst.2.1 34 = .ok (.ifCond .eq 20, 3) := op_if_eq (gk (k := 32) (t := 2) ck_P_inFirst_1 rfl) (gk (k := 32) (t := 3) ck_P_inFirst_1 rfl) (gk (k := 32) (t := 4) ck_P_inFirst_1 rfl) (by decide +kernel)
theorem d_P_inFirst_54 : decode y_P_inFirst.2.1 54 = .ok (.iconst 0, 1) := op_iconst0 (gk (k := 32) (t := 22) ck_P_inFirst_1 rfl)
theorem d_P_inFirst_55 : decode y_P_inFirst.2.1 55 = .ok (.ireturn, 1) := op_ireturn (gk (k := 32) (t := 23) ck_P_inFirst_1 rfl)
theorem d_P_inFirst_37 : decode y_P_inFirst.2.1 37 = .ok (.aload_n 0, 1) := op_aload_n0 (gk (k := 32) (t := 5) ck_P_inFirst_1 rfl)
theorem fl_P_11 : FL "SinglesUp$Packer" 11 6 0 := ⟨"SinglesUp$Packer", zT6, 7, rfl, by decide, rfl, Or.inl (tw_c2 70 (by decide +kernel) rfl)⟩
theorem rc_6_0 : ∀ o, KC[o]? = some (9, 7) → RC o 0 = some (o + 1) ∧ KC[o + 1]? = some (0, 603) := by
  intro o h
  have hl : o < 166 := (List.getElem?_eq_some_iff.mp h).1
  exact (by decide +kernel : ∀ o, o < 166 → KC[o]? = some (9, 7) → RC o 0 = some (o + 1) ∧ KC[o + 1]? = some (0, 603)) o hl h
theorem d_P_inFirst_38 : decode y_P_inFirst.2.1 38 = .ok (.getfield 11, 3) := op_getfield (gk (k := 32) (t := 6) ck_P_inFirst_1 rfl) (gk (k := 32) (t := 7) ck_P_inFirst_1 rfl) (gk (k := 32) (t := 8) ck_P_inFirst_1 rfl) rfl
theorem d_P_inFirst_41 : decode y_P_inFirst.2.1 41 = .ok (.aload_n 0, 1) := op_aload_n0 (gk (k := 32) (t := 9) ck_P_inFirst_1 rfl)
theorem d_P_inFirst_42 : decode y_P_inFirst.2.1 42 = .ok (.getfield 27, 3) := op_getfield (gk (k := 32) (t := 10) ck_P_inFirst_1 rfl) (gk (k := 32) (t := 11) ck_P_inFirst_1 rfl) (gk (k := 32) (t := 12) ck_P_inFirst_1 rfl) rfl
theorem d_P_inFirst_45 : decode y_P_inFirst.2.1 45 = .ok (.bipush 9, 2) := op_bipush (gk (k := 32) (t := 13) ck_P_inFirst_1 rfl) (gk (k := 32) (t := 14) ck_P_inFirst_1 rfl) rfl
theorem d_P_inFirst_47 : decode y_P_inFirst.2.1 47 = .ok (.imul, 1) := op_imul (gk (k := 32) (t := 15) ck_P_inFirst_1 rfl)
theorem d_P_inFirst_48 : decode y_P_inFirst.2.1 48 = .ok (.iload_n 1, 1) := op_iload_n1 (gk (k := 32) (t := 16) ck_P_inFirst_1 rfl)
theorem d_P_inFirst_49 : decode y_P_inFirst.2.1 49 = .ok (.iadd, 1) := op_iadd (gk (k := 32) (t := 17) ck_P_inFirst_1 rfl)
theorem d_P_inFirst_50 : decode y_P_inFirst.2.1 50 = .ok (.iaload, 1) := op_iaload (gk (k := 32) (t := 18) ck_P_inFirst_1 rfl)
theorem d_P_inFirst_51 : decode y_P_inFirst.2.1 51 = .ok (.goto 4, 3) := op_goto (gk (k := 32) (t := 19) ck_P_inFirst_1 rfl) (gk (k := 32) (t := 20) ck_P_inFirst_1 rfl) (gk (k := 32) (t := 21) ck_P_inFirst_1 rfl) (by decide +kernel)
theorem d_P_inFirst_4 : decode y_P_inFirst.2.1 4 = .ok (.ifCond .lt 27, 3) := op_if_lt (gk (k := 0) (t := 4) ck_P_inFirst_0 rfl) (gk (k := 0) (t := 5) ck_P_inFirst_0 rfl) (gk (k := 0) (t := 6) ck_P_inFirst_0 rfl) (by decide +kernel)
theorem d_P_inFirst_31 : decode y_P_inFirst.2.1 31 = .ok (.iconst 0, 1) := op_iconst0 (gk (k := 0) (t := 31) ck_P_inFirst_0 rfl)
theorem d_P_inFirst_7 : decode y_P_inFirst.2.1 7 = .ok (.aload_n 0, 1) := op_aload_n0 (gk (k := 0) (t := 7) ck_P_inFirst_0 rfl)
theorem d_P_inFirst_8 : decode y_P_inFirst.2.1 8 = .ok (.getfield 27, 3) := op_getfield (gk (k := 0) (t := 8) ck_P_inFirst_0 rfl) (gk (k := 0) (t := 9) ck_P_inFirst_0 rfl) (gk (k := 0) (t := 10) ck_P_inFirst_0 rfl) rfl
theorem cb_67 : (Int8.ofInt 67).toInt32 = iv 67 := by decide +kernel
theorem d_P_inFirst_11 : decode y_P_inFirst.2.1 11 = .ok (.bipush 67, 2) := op_bipush (gk (k := 0) (t := 11) ck_P_inFirst_0 rfl) (gk (k := 0) (t := 12) ck_P_inFirst_0 rfl) rfl
theorem in_67 : inr (67) := lit_in rfl
theorem d_P_inFirst_13 : decode y_P_inFirst.2.1 13 = .ok (.if_icmp .ge 18, 3) := op_icmp_ge (gk (k := 0) (t := 13) ck_P_inFirst_0 rfl) (gk (k := 0) (t := 14) ck_P_inFirst_0 rfl) (gk (k := 0) (t := 15) ck_P_inFirst_0 rfl) (by decide +kernel)
theorem d_P_inFirst_16 : decode y_P_inFirst.2.1 16 = .ok (.iload_n 1, 1) := op_iload_n1 (gk (k := 0) (t := 16) ck_P_inFirst_0 rfl)
theorem d_P_inFirst_17 : decode y_P_inFirst.2.1 17 = .ok (.iconst 1, 1) := op_iconst1 (gk (k := 0) (t := 17) ck_P_inFirst_0 rfl)
theorem d_P_inFirst_18 : decode y_P_inFirst.2.1 18 = .ok (.if_icmp .lt 13, 3) := op_icmp_lt (gk (k := 0) (t := 18) ck_P_inFirst_0 rfl) (gk (k := 0) (t := 19) ck_P_inFirst_0 rfl) (gk (k := 0) (t := 20) ck_P_inFirst_0 rfl) (by decide +kernel)
theorem d_P_inFirst_21 : decode y_P_inFirst.2.1 21 = .ok (.iload_n 1, 1) := op_iload_n1 (gk (k := 0) (t := 21) ck_P_inFirst_0 rfl)
theorem d_P_inFirst_22 : decode y_P_inFirst.2.1 22 = .ok (.bipush 8, 2) := op_bipush (gk (k := 0) (t := 22) ck_P_inFirst_0 rfl) (gk (k := 0) (t := 23) ck_P_inFirst_0 rfl) rfl
theorem d_P_inFirst_24 : decode y_P_inFirst.2.1 24 = .ok (.if_icmp .gt 7, 3) := op_icmp_gt (gk (k := 0) (t := 24) ck_P_inFirst_0 rfl) (gk (k := 0) (t := 25) ck_P_inFirst_0 rfl) (gk (k := 0) (t := 26) ck_P_inFirst_0 rfl) (by decide +kernel)
theorem d_P_inFirst_27 : decode y_P_inFirst.2.1 27 = .ok (.iconst 1, 1) := op_iconst1 (gk (k := 0) (t := 27) ck_P_inFirst_0 rfl)
theorem d_P_inFirst_28 : decode y_P_inFirst.2.1 28 = .ok (.goto 4, 3) := op_goto (gk (k := 0) (t := 28) ck_P_inFirst_0 rfl) (gk (k := 0) (t := 29) ck_P_inFirst_0 rfl) (gk (k := 0) (t := 30) ck_P_inFirst_0 rfl) (by decide +kernel)
abbrev y_P_canGo : MI := (⟨"SinglesUp$Packer", "canGo", "(II)Z"⟩, prog_8_method_8_code, 4, some .boolean)
theorem ck_P_canGo_0 : (y_P_canGo.2.1.data.toList.drop 0).take 32 = [42, 180, 0, 11, 27, 16, 9, 104, 46, 28, 164, 0, 5, 3, 172, 4, 62, 29, 16, 8, 163, 0, 31, 42, 180, 0, 11, 27, 16, 9, 104, 29] := by decide +kernel
theorem d_P_canGo_0 : decode y_P_canGo.2.1 0 = .ok (.aload_n 0, 1) := op_aload_n0 (gk (k := 0) (t := 0) ck_P_canGo_0 rfl)
theorem d_P_canGo_1 : decode y_P_canGo.2.1 1 = .ok (.getfield 11, 3) := op_getfield (gk (k := 0) (t := 1) ck_P_canGo_0 rfl) (gk (k := 0) (t := 2) ck_P_canGo_0 rfl) (gk (k := 0) (t := 3) ck_P_canGo_0 rfl) rfl
theorem d_P_canGo_4 : decode y_P_canGo.2.1 4 = .ok (.iload_n 1, 1) := op_iload_n1 (gk (k := 0) (t := 4) ck_P_canGo_0 rfl)
theorem d_P_canGo_5 : decode y_P_canGo.2.1 5 = .ok (.bipush 9, 2) := op_bipush (gk (k := 0) (t := 5) ck_P_canGo_0 rfl) (gk (k := 0) (t := 6) ck_P_canGo_0 rfl) rfl
theorem d_P_canGo_7 : decode y_P_canGo.2.1 7 = .ok (.imul, 1) := op_imul (gk (k := 0) (t := 7) ck_P_canGo_0 rfl)
theorem d_P_canGo_8 : decode y_P_canGo.2.1 8 = .ok (.iaload, 1) := op_iaload (gk (k := 0) (t := 8) ck_P_canGo_0 rfl)
theorem d_P_canGo_9 : decode y_P_canGo.2.1 9 = .ok (.iload_n 2, 1) := op_iload_n2 (gk (k := 0) (t := 9) ck_P_canGo_0 rfl)
theorem d_P_canGo_10 : decode y_P_canGo.2.1 10 = .ok (.if_icmp .le 5, 3) := op_icmp_le (gk (k := 0) (t := 10) ck_P_canGo_0 rfl) (gk (k := 0) (t := 11) ck_P_canGo_0 rfl) (gk (k := 0) (t := 12) ck_P_canGo_0 rfl) (by decide +kernel)
theorem d_P_canGo_15 : decode y_P_canGo.2.1 15 = .ok (.iconst 1, 1) := op_iconst1 (gk (k := 0) (t := 15) ck_P_canGo_0 rfl)
theorem d_P_canGo_16 : decode y_P_canGo.2.1 16 = .ok (.istore_n 3, 1) := op_istore_n3 (gk (k := 0) (t := 16) ck_P_canGo_0 rfl)
theorem d_P_canGo_17 : decode y_P_canGo.2.1 17 = .ok (.iload_n 3, 1) := op_iload_n3 (gk (k := 0) (t := 17) ck_P_canGo_0 rfl)
theorem d_P_canGo_18 : decode y_P_canGo.2.1 18 = .ok (.bipush 8, 2) := op_bipush (gk (k := 0) (t := 18) ck_P_canGo_0 rfl) (gk (k := 0) (t := 19) ck_P_canGo_0 rfl) rfl
theorem d_P_canGo_20 : decode y_P_canGo.2.1 20 = .ok (.if_icmp .gt 31, 3) := op_icmp_gt (gk (k := 0) (t := 20) ck_P_canGo_0 rfl) (gk (k := 0) (t := 21) ck_P_canGo_0 rfl) (gk (k := 0) (t := 22) ck_P_canGo_0 rfl) (by decide +kernel)
theorem ck_P_canGo_1 : (y_P_canGo.2.1.data.toList.drop 32).take 32 = [96, 46, 42, 180, 0, 24, 29, 46, 164, 0, 5, 3, 172, 132, 3, 1, 167, 255, 225, 4, 172] := by decide +kernel
theorem d_P_canGo_51 : decode y_P_canGo.2.1 51 = .ok (.iconst 1, 1) := op_iconst1 (gk (k := 32) (t := 19) ck_P_canGo_1 rfl)
theorem d_P_canGo_52 : decode y_P_canGo.2.1 52 = .ok (.ireturn, 1) := op_ireturn (gk (k := 32) (t := 20) ck_P_canGo_1 rfl)
theorem d_P_canGo_23 : decode y_P_canGo.2.1 23 = .ok (.aload_n 0, 1) := op_aload_n0 (gk (k := 0) (t := 23) ck_P_canGo_0 rfl)
theorem d_P_canGo_24 : decode y_P_canGo.2.1 24 = .ok (.getfield 11, 3) := op_getfield (gk (k := 0) (t := 24) ck_P_canGo_0 rfl) (gk (k := 0) (t := 25) ck_P_canGo_0 rfl) (gk (k := 0) (t := 26) ck_P_canGo_0 rfl) rfl
theorem d_P_canGo_27 : decode y_P_canGo.2.1 27 = .ok (.iload_n 1, 1) := op_iload_n1 (gk (k := 0) (t := 27) ck_P_canGo_0 rfl)
theorem d_P_canGo_28 : decode y_P_canGo.2.1 28 = .ok (.bipush 9, 2) := op_bipush (gk (k := 0) (t := 28) ck_P_canGo_0 rfl) (gk (k := 0) (t := 29) ck_P_canGo_0 rfl) rfl
theorem d_P_canGo_30 : decode y_P_canGo.2.1 30 = .ok (.imul, 1) := op_imul (gk (k := 0) (t := 30) ck_P_canGo_0 rfl)
theorem d_P_canGo_31 : decode y_P_canGo.2.1 31 = .ok (.iload_n 3, 1) := op_iload_n3 (gk (k := 0) (t := 31) ck_P_canGo_0 rfl)
theorem d_P_canGo_32 : decode y_P_canGo.2.1 32 = .ok (.iadd, 1) := op_iadd (gk (k := 32) (t := 0) ck_P_canGo_1 rfl)
theorem d_P_canGo_33 : decode y_P_canGo.2.1 33 = .ok (.iaload, 1) := op_iaload (gk (k := 32) (t := 1) ck_P_canGo_1 rfl)
theorem d_P_canGo_34 : decode y_P_canGo.2.1 34 = .ok (.aload_n 0, 1) := op_aload_n0 (gk (k := 32) (t := 2) ck_P_canGo_1 rfl)
theorem fl_P_24 : FL "SinglesUp$Packer" 24 6 5 := ⟨"SinglesUp$Packer", zT6, 7, rfl, by decide, rfl, Or.inl (tw_c2 75 (by decide +kernel) rfl)⟩
theorem rc_6_5 : ∀ o, KC[o]? = some (9, 7) → RC o 5 = some (o + 5) ∧ KC[o + 5]? = some (0, 9) := by
  intro o h
  have hl : o < 166 := (List.getElem?_eq_some_iff.mp h).1
  exact (by decide +kernel : ∀ o, o < 166 → KC[o]? = some (9, 7) → RC o 5 = some (o + 5) ∧ KC[o + 5]? = some (0, 9)) o hl h
theorem d_P_canGo_35 : decode y_P_canGo.2.1 35 = .ok (.getfield 24, 3) := op_getfield (gk (k := 32) (t := 3) ck_P_canGo_1 rfl) (gk (k := 32) (t := 4) ck_P_canGo_1 rfl) (gk (k := 32) (t := 5) ck_P_canGo_1 rfl) rfl
theorem d_P_canGo_38 : decode y_P_canGo.2.1 38 = .ok (.iload_n 3, 1) := op_iload_n3 (gk (k := 32) (t := 6) ck_P_canGo_1 rfl)
theorem d_P_canGo_39 : decode y_P_canGo.2.1 39 = .ok (.iaload, 1) := op_iaload (gk (k := 32) (t := 7) ck_P_canGo_1 rfl)
theorem d_P_canGo_40 : decode y_P_canGo.2.1 40 = .ok (.if_icmp .le 5, 3) := op_icmp_le (gk (k := 32) (t := 8) ck_P_canGo_1 rfl) (gk (k := 32) (t := 9) ck_P_canGo_1 rfl) (gk (k := 32) (t := 10) ck_P_canGo_1 rfl) (by decide +kernel)
theorem d_P_canGo_45 : decode y_P_canGo.2.1 45 = .ok (.iinc 3 1, 3) := op_iinc (gk (k := 32) (t := 13) ck_P_canGo_1 rfl) (gk (k := 32) (t := 14) ck_P_canGo_1 rfl) (gk (k := 32) (t := 15) ck_P_canGo_1 rfl) rfl rfl
theorem d_P_canGo_48 : decode y_P_canGo.2.1 48 = .ok (.goto (-31), 3) := op_goto (gk (k := 32) (t := 16) ck_P_canGo_1 rfl) (gk (k := 32) (t := 17) ck_P_canGo_1 rfl) (gk (k := 32) (t := 18) ck_P_canGo_1 rfl) (by decide +kernel)
theorem d_P_canGo_43 : decode y_P_canGo.2.1 43 = .ok (.iconst 0, 1) := op_iconst0 (gk (k := 32) (t := 11) ck_P_canGo_1 rfl)
theorem d_P_canGo_44 : decode y_P_canGo.2.1 44 = .ok (.ireturn, 1) := op_ireturn (gk (k := 32) (t := 12) ck_P_canGo_1 rfl)
theorem d_P_canGo_13 : decode y_P_canGo.2.1 13 = .ok (.iconst 0, 1) := op_iconst0 (gk (k := 0) (t := 13) ck_P_canGo_0 rfl)
theorem d_P_canGo_14 : decode y_P_canGo.2.1 14 = .ok (.ireturn, 1) := op_ireturn (gk (k := 0) (t := 14) ck_P_canGo_0 rfl)
abbrev y_P_firstWay : MI := (⟨"SinglesUp$Packer", "firstWay", "(II)I"⟩, prog_8_method_7_code, 8, some .int)
theorem ck_P_firstWay_0 : (y_P_firstWay.2.1.data.toList.drop 0).take 32 = [16, 8, 62, 29, 158, 0, 18, 42, 180, 0, 24, 29, 46, 154, 0, 9, 132, 3, 255, 167, 255, 240, 2, 54, 4, 3, 54, 5, 3, 54, 6, 21] := by decide +kernel
theorem d_P_firstWay_0 : decode y_P_firstWay.2.1 0 = .ok (.bipush 8, 2) := op_bipush (gk (k := 0) (t := 0) ck_P_firstWay_0 rfl) (gk (k := 0) (t := 1) ck_P_firstWay_0 rfl) rfl
theorem d_P_firstWay_2 : decode y_P_firstWay.2.1 2 = .ok (.istore_n 3, 1) := op_istore_n3 (gk (k := 0) (t := 2) ck_P_firstWay_0 rfl)
theorem d_P_firstWay_3 : decode y_P_firstWay.2.1 3 = .ok (.iload_n 3, 1) := op_iload_n3 (gk (k := 0) (t := 3) ck_P_firstWay_0 rfl)
theorem d_P_firstWay_4 : decode y_P_firstWay.2.1 4 = .ok (.ifCond .le 18, 3) := op_if_le (gk (k := 0) (t := 4) ck_P_firstWay_0 rfl) (gk (k := 0) (t := 5) ck_P_firstWay_0 rfl) (gk (k := 0) (t := 6) ck_P_firstWay_0 rfl) (by decide +kernel)
theorem d_P_firstWay_7 : decode y_P_firstWay.2.1 7 = .ok (.aload_n 0, 1) := op_aload_n0 (gk (k := 0) (t := 7) ck_P_firstWay_0 rfl)
theorem d_P_firstWay_8 : decode y_P_firstWay.2.1 8 = .ok (.getfield 24, 3) := op_getfield (gk (k := 0) (t := 8) ck_P_firstWay_0 rfl) (gk (k := 0) (t := 9) ck_P_firstWay_0 rfl) (gk (k := 0) (t := 10) ck_P_firstWay_0 rfl) rfl
theorem d_P_firstWay_11 : decode y_P_firstWay.2.1 11 = .ok (.iload_n 3, 1) := op_iload_n3 (gk (k := 0) (t := 11) ck_P_firstWay_0 rfl)
theorem d_P_firstWay_12 : decode y_P_firstWay.2.1 12 = .ok (.iaload, 1) := op_iaload (gk (k := 0) (t := 12) ck_P_firstWay_0 rfl)
theorem d_P_firstWay_13 : decode y_P_firstWay.2.1 13 = .ok (.ifCond .ne 9, 3) := op_if_ne (gk (k := 0) (t := 13) ck_P_firstWay_0 rfl) (gk (k := 0) (t := 14) ck_P_firstWay_0 rfl) (gk (k := 0) (t := 15) ck_P_firstWay_0 rfl) (by decide +kernel)
theorem d_P_firstWay_16 : decode y_P_firstWay.2.1 16 = .ok (.iinc 3 (-1), 3) := op_iinc (gk (k := 0) (t := 16) ck_P_firstWay_0 rfl) (gk (k := 0) (t := 17) ck_P_firstWay_0 rfl) (gk (k := 0) (t := 18) ck_P_firstWay_0 rfl) rfl rfl
theorem d_P_firstWay_19 : decode y_P_firstWay.2.1 19 = .ok (.goto (-16), 3) := op_goto (gk (k := 0) (t := 19) ck_P_firstWay_0 rfl) (gk (k := 0) (t := 20) ck_P_firstWay_0 rfl) (gk (k := 0) (t := 21) ck_P_firstWay_0 rfl) (by decide +kernel)
theorem d_P_firstWay_22 : decode y_P_firstWay.2.1 22 = .ok (.iconst (-1), 1) := op_iconstm1 (gk (k := 0) (t := 22) ck_P_firstWay_0 rfl)
theorem d_P_firstWay_23 : decode y_P_firstWay.2.1 23 = .ok (.istore 4, 2) := op_istore (gk (k := 0) (t := 23) ck_P_firstWay_0 rfl) (gk (k := 0) (t := 24) ck_P_firstWay_0 rfl) rfl
theorem d_P_firstWay_25 : decode y_P_firstWay.2.1 25 = .ok (.iconst 0, 1) := op_iconst0 (gk (k := 0) (t := 25) ck_P_firstWay_0 rfl)
theorem d_P_firstWay_26 : decode y_P_firstWay.2.1 26 = .ok (.istore 5, 2) := op_istore (gk (k := 0) (t := 26) ck_P_firstWay_0 rfl) (gk (k := 0) (t := 27) ck_P_firstWay_0 rfl) rfl
theorem d_P_firstWay_28 : decode y_P_firstWay.2.1 28 = .ok (.iconst 0, 1) := op_iconst0 (gk (k := 0) (t := 28) ck_P_firstWay_0 rfl)
theorem d_P_firstWay_29 : decode y_P_firstWay.2.1 29 = .ok (.istore 6, 2) := op_istore (gk (k := 0) (t := 29) ck_P_firstWay_0 rfl) (gk (k := 0) (t := 30) ck_P_firstWay_0 rfl) rfl
theorem ck_P_firstWay_1 : (y_P_firstWay.2.1.data.toList.drop 32).take 32 = [6, 42, 180, 0, 39, 162, 0, 92, 21, 6, 16, 67, 162, 0, 85, 27, 42, 180, 0, 18, 21, 6, 46, 100, 54, 7, 42, 180, 0, 15, 21, 6] := by decide +kernel
theorem d_P_firstWay_31 : decode y_P_firstWay.2.1 31 = .ok (.iload 6, 2) := op_iload (gk (k := 0) (t := 31) ck_P_firstWay_0 rfl) (gk (k := 32) (t := 0) ck_P_firstWay_1 rfl) rfl
theorem d_P_firstWay_33 : decode y_P_firstWay.2.1 33 = .ok (.aload_n 0, 1) := op_aload_n0 (gk (k := 32) (t := 1) ck_P_firstWay_1 rfl)
theorem fl_P_39 : FL "SinglesUp$Packer" 39 6 2 := ⟨"SinglesUp$Packer", zT6, 7, rfl, by decide, rfl, Or.inl (tw_c2 72 (by decide +kernel) rfl)⟩
theorem d_P_firstWay_34 : decode y_P_firstWay.2.1 34 = .ok (.getfield 39, 3) := op_getfield (gk (k := 32) (t := 2) ck_P_firstWay_1 rfl) (gk (k := 32) (t := 3) ck_P_firstWay_1 rfl) (gk (k := 32) (t := 4) ck_P_firstWay_1 rfl) rfl
theorem d_P_firstWay_37 : decode y_P_firstWay.2.1 37 = .ok (.if_icmp .ge 92, 3) := op_icmp_ge (gk (k := 32) (t := 5) ck_P_firstWay_1 rfl) (gk (k := 32) (t := 6) ck_P_firstWay_1 rfl) (gk (k := 32) (t := 7) ck_P_firstWay_1 rfl) (by decide +kernel)
theorem ck_P_firstWay_4 : (y_P_firstWay.2.1.data.toList.drop 128).take 32 = [161, 21, 4, 172] := by decide +kernel
theorem d_P_firstWay_129 : decode y_P_firstWay.2.1 129 = .ok (.iload 4, 2) := op_iload (gk (k := 128) (t := 1) ck_P_firstWay_4 rfl) (gk (k := 128) (t := 2) ck_P_firstWay_4 rfl) rfl
theorem d_P_firstWay_131 : decode y_P_firstWay.2.1 131 = .ok (.ireturn, 1) := op_ireturn (gk (k := 128) (t := 3) ck_P_firstWay_4 rfl)
theorem d_P_firstWay_40 : decode y_P_firstWay.2.1 40 = .ok (.iload 6, 2) := op_iload (gk (k := 32) (t := 8) ck_P_firstWay_1 rfl) (gk (k := 32) (t := 9) ck_P_firstWay_1 rfl) rfl
theorem d_P_firstWay_42 : decode y_P_firstWay.2.1 42 = .ok (.bipush 67, 2) := op_bipush (gk (k := 32) (t := 10) ck_P_firstWay_1 rfl) (gk (k := 32) (t := 11) ck_P_firstWay_1 rfl) rfl
theorem d_P_firstWay_44 : decode y_P_firstWay.2.1 44 = .ok (.if_icmp .ge 85, 3) := op_icmp_ge (gk (k := 32) (t := 12) ck_P_firstWay_1 rfl) (gk (k := 32) (t := 13) ck_P_firstWay_1 rfl) (gk (k := 32) (t := 14) ck_P_firstWay_1 rfl) (by decide +kernel)
theorem d_P_firstWay_47 : decode y_P_firstWay.2.1 47 = .ok (.iload_n 1, 1) := op_iload_n1 (gk (k := 32) (t := 15) ck_P_firstWay_1 rfl)
theorem d_P_firstWay_48 : decode y_P_firstWay.2.1 48 = .ok (.aload_n 0, 1) := op_aload_n0 (gk (k := 32) (t := 16) ck_P_firstWay_1 rfl)
theorem fl_P_18 : FL "SinglesUp$Packer" 18 6 3 := ⟨"SinglesUp$Packer", zT6, 7, rfl, by decide, rfl, Or.inl (tw_c2 73 (by decide +kernel) rfl)⟩
theorem rc_6_3 : ∀ o, KC[o]? = some (9, 7) → RC o 3 = some (o + 3) ∧ KC[o + 3]? = some (0, 67) := by
  intro o h
  have hl : o < 166 := (List.getElem?_eq_some_iff.mp h).1
  exact (by decide +kernel : ∀ o, o < 166 → KC[o]? = some (9, 7) → RC o 3 = some (o + 3) ∧ KC[o + 3]? = some (0, 67)) o hl h
theorem d_P_firstWay_49 : decode y_P_firstWay.2.1 49 = .ok (.getfield 18, 3) := op_getfield (gk (k := 32) (t := 17) ck_P_firstWay_1 rfl) (gk (k := 32) (t := 18) ck_P_firstWay_1 rfl) (gk (k := 32) (t := 19) ck_P_firstWay_1 rfl) rfl
theorem d_P_firstWay_52 : decode y_P_firstWay.2.1 52 = .ok (.iload 6, 2) := op_iload (gk (k := 32) (t := 20) ck_P_firstWay_1 rfl) (gk (k := 32) (t := 21) ck_P_firstWay_1 rfl) rfl
theorem d_P_firstWay_54 : decode y_P_firstWay.2.1 54 = .ok (.iaload, 1) := op_iaload (gk (k := 32) (t := 22) ck_P_firstWay_1 rfl)
theorem d_P_firstWay_55 : decode y_P_firstWay.2.1 55 = .ok (.isub, 1) := op_isub (gk (k := 32) (t := 23) ck_P_firstWay_1 rfl)
theorem d_P_firstWay_56 : decode y_P_firstWay.2.1 56 = .ok (.istore 7, 2) := op_istore (gk (k := 32) (t := 24) ck_P_firstWay_1 rfl) (gk (k := 32) (t := 25) ck_P_firstWay_1 rfl) rfl
theorem d_P_firstWay_58 : decode y_P_firstWay.2.1 58 = .ok (.aload_n 0, 1) := op_aload_n0 (gk (k := 32) (t := 26) ck_P_firstWay_1 rfl)
theorem fl_P_15 : FL "SinglesUp$Packer" 15 6 1 := ⟨"SinglesUp$Packer", zT6, 7, rfl, by decide, rfl, Or.inl (tw_c2 71 (by decide +kernel) rfl)⟩
theorem rc_6_1 : ∀ o, KC[o]? = some (9, 7) → RC o 1 = some (o + 2) ∧ KC[o + 2]? = some (0, 67) := by
  intro o h
  have hl : o < 166 := (List.getElem?_eq_some_iff.mp h).1
  exact (by decide +kernel : ∀ o, o < 166 → KC[o]? = some (9, 7) → RC o 1 = some (o + 2) ∧ KC[o + 2]? = some (0, 67)) o hl h
theorem d_P_firstWay_59 : decode y_P_firstWay.2.1 59 = .ok (.getfield 15, 3) := op_getfield (gk (k := 32) (t := 27) ck_P_firstWay_1 rfl) (gk (k := 32) (t := 28) ck_P_firstWay_1 rfl) (gk (k := 32) (t := 29) ck_P_firstWay_1 rfl) rfl
theorem d_P_firstWay_62 : decode y_P_firstWay.2.1 62 = .ok (.iload 6, 2) := op_iload (gk (k := 32) (t := 30) ck_P_firstWay_1 rfl) (gk (k := 32) (t := 31) ck_P_firstWay_1 rfl) rfl
theorem ck_P_firstWay_2 : (y_P_firstWay.2.1.data.toList.drop 64).take 32 = [46, 29, 160, 0, 57, 42, 21, 6, 28, 182, 0, 66, 153, 0, 47, 21, 7, 155, 0, 42, 21, 7, 17, 5, 16, 162, 0, 34, 21, 4, 2, 159] := by decide +kernel
theorem d_P_firstWay_64 : decode y_P_firstWay.2.1 64 = .ok (.iaload, 1) := op_iaload (gk (k := 64) (t := 0) ck_P_firstWay_2 rfl)
theorem d_P_firstWay_65 : decode y_P_firstWay.2.1 65 = .ok (.iload_n 3, 1) := op_iload_n3 (gk (k := 64) (t := 1) ck_P_firstWay_2 rfl)
theorem ck_P_firstWay_3 : (y_P_firstWay.2.1.data.toList.drop 96).take 32 = [0, 15, 42, 180, 0, 21, 21, 7, 46, 21, 5, 162, 0, 16, 42, 180, 0, 21, 21, 7, 46, 54, 5, 21, 6, 54, 4, 132, 6, 1, 167, 255] := by decide +kernel
theorem d_P_firstWay_123 : decode y_P_firstWay.2.1 123 = .ok (.iinc 6 1, 3) := op_iinc (gk (k := 96) (t := 27) ck_P_firstWay_3 rfl) (gk (k := 96) (t := 28) ck_P_firstWay_3 rfl) (gk (k := 96) (t := 29) ck_P_firstWay_3 rfl) rfl rfl
theorem d_P_firstWay_126 : decode y_P_firstWay.2.1 126 = .ok (.goto (-95), 3) := op_goto (gk (k := 96) (t := 30) ck_P_firstWay_3 rfl) (gk (k := 96) (t := 31) ck_P_firstWay_3 rfl) (gk (k := 128) (t := 0) ck_P_firstWay_4 rfl) (by decide +kernel)
theorem d_P_firstWay_66 : decode y_P_firstWay.2.1 66 = .ok (.if_icmp .ne 57, 3) := op_icmp_ne (gk (k := 64) (t := 2) ck_P_firstWay_2 rfl) (gk (k := 64) (t := 3) ck_P_firstWay_2 rfl) (gk (k := 64) (t := 4) ck_P_firstWay_2 rfl) (by decide +kernel)
theorem d_P_firstWay_69 : decode y_P_firstWay.2.1 69 = .ok (.aload_n 0, 1) := op_aload_n0 (gk (k := 64) (t := 5) ck_P_firstWay_2 rfl)
theorem d_P_firstWay_70 : decode y_P_firstWay.2.1 70 = .ok (.iload 6, 2) := op_iload (gk (k := 64) (t := 6) ck_P_firstWay_2 rfl) (gk (k := 64) (t := 7) ck_P_firstWay_2 rfl) rfl
theorem d_P_firstWay_72 : decode y_P_firstWay.2.1 72 = .ok (.iload_n 2, 1) := op_iload_n2 (gk (k := 64) (t := 8) ck_P_firstWay_2 rfl)
theorem lk_P_66 : LkV "SinglesUp$Packer" 66 y_P_canGo := ⟨tw_c4 198 (by decide +kernel) rfl, tw_in 36 (by decide +kernel) rfl, Or.inl (tw_c4 196 (by decide +kernel) rfl)⟩
set_option maxRecDepth 100000 in
theorem mo_P_canGo : MOk y_P_canGo 2 := ⟨by decide +kernel, tw_c4 199 rfl rfl, tw_c1 10 (by decide +kernel) rfl, by decide +kernel, by decide +kernel, by decide +kernel⟩
theorem d_P_firstWay_73 : decode y_P_firstWay.2.1 73 = .ok (.invokevirtual 66, 3) := op_invokevirtual (gk (k := 64) (t := 9) ck_P_firstWay_2 rfl) (gk (k := 64) (t := 10) ck_P_firstWay_2 rfl) (gk (k := 64) (t := 11) ck_P_firstWay_2 rfl) rfl
theorem d_P_firstWay_76 : decode y_P_firstWay.2.1 76 = .ok (.ifCond .eq 47, 3) := op_if_eq (gk (k := 64) (t := 12) ck_P_firstWay_2 rfl) (gk (k := 64) (t := 13) ck_P_firstWay_2 rfl) (gk (k := 64) (t := 14) ck_P_firstWay_2 rfl) (by decide +kernel)
theorem d_P_firstWay_79 : decode y_P_firstWay.2.1 79 = .ok (.iload 7, 2) := op_iload (gk (k := 64) (t := 15) ck_P_firstWay_2 rfl) (gk (k := 64) (t := 16) ck_P_firstWay_2 rfl) rfl
theorem d_P_firstWay_81 : decode y_P_firstWay.2.1 81 = .ok (.ifCond .lt 42, 3) := op_if_lt (gk (k := 64) (t := 17) ck_P_firstWay_2 rfl) (gk (k := 64) (t := 18) ck_P_firstWay_2 rfl) (gk (k := 64) (t := 19) ck_P_firstWay_2 rfl) (by decide +kernel)
theorem d_P_firstWay_84 : decode y_P_firstWay.2.1 84 = .ok (.iload 7, 2) := op_iload (gk (k := 64) (t := 20) ck_P_firstWay_2 rfl) (gk (k := 64) (t := 21) ck_P_firstWay_2 rfl) rfl
theorem cs_1296 : (Int16.ofInt 1296).toInt32 = iv 1296 := by decide +kernel
theorem d_P_firstWay_86 : decode y_P_firstWay.2.1 86 = .ok (.sipush 1296, 3) := op_sipush (gk (k := 64) (t := 22) ck_P_firstWay_2 rfl) (gk (k := 64) (t := 23) ck_P_firstWay_2 rfl) (gk (k := 64) (t := 24) ck_P_firstWay_2 rfl) (by decide +kernel)
theorem in_1296 : inr (1296) := lit_in rfl
theorem d_P_firstWay_89 : decode y_P_firstWay.2.1 89 = .ok (.if_icmp .ge 34, 3) := op_icmp_ge (gk (k := 64) (t := 25) ck_P_firstWay_2 rfl) (gk (k := 64) (t := 26) ck_P_firstWay_2 rfl) (gk (k := 64) (t := 27) ck_P_firstWay_2 rfl) (by decide +kernel)
theorem d_P_firstWay_92 : decode y_P_firstWay.2.1 92 = .ok (.iload 4, 2) := op_iload (gk (k := 64) (t := 28) ck_P_firstWay_2 rfl) (gk (k := 64) (t := 29) ck_P_firstWay_2 rfl) rfl
theorem d_P_firstWay_94 : decode y_P_firstWay.2.1 94 = .ok (.iconst (-1), 1) := op_iconstm1 (gk (k := 64) (t := 30) ck_P_firstWay_2 rfl)
theorem d_P_firstWay_110 : decode y_P_firstWay.2.1 110 = .ok (.aload_n 0, 1) := op_aload_n0 (gk (k := 96) (t := 14) ck_P_firstWay_3 rfl)
theorem fl_P_21 : FL "SinglesUp$Packer" 21 6 4 := ⟨"SinglesUp$Packer", zT6, 7, rfl, by decide, rfl, Or.inl (tw_c2 74 (by decide +kernel) rfl)⟩
theorem rc_6_4 : ∀ o, KC[o]? = some (9, 7) → RC o 4 = some (o + 4) ∧ KC[o + 4]? = some (0, 1296) := by
  intro o h
  have hl : o < 166 := (List.getElem?_eq_some_iff.mp h).1
  exact (by decide +kernel : ∀ o, o < 166 → KC[o]? = some (9, 7) → RC o 4 = some (o + 4) ∧ KC[o + 4]? = some (0, 1296)) o hl h
theorem d_P_firstWay_111 : decode y_P_firstWay.2.1 111 = .ok (.getfield 21, 3) := op_getfield (gk (k := 96) (t := 15) ck_P_firstWay_3 rfl) (gk (k := 96) (t := 16) ck_P_firstWay_3 rfl) (gk (k := 96) (t := 17) ck_P_firstWay_3 rfl) rfl
theorem d_P_firstWay_114 : decode y_P_firstWay.2.1 114 = .ok (.iload 7, 2) := op_iload (gk (k := 96) (t := 18) ck_P_firstWay_3 rfl) (gk (k := 96) (t := 19) ck_P_firstWay_3 rfl) rfl
theorem d_P_firstWay_116 : decode y_P_firstWay.2.1 116 = .ok (.iaload, 1) := op_iaload (gk (k := 96) (t := 20) ck_P_firstWay_3 rfl)
theorem d_P_firstWay_117 : decode y_P_firstWay.2.1 117 = .ok (.istore 5, 2) := op_istore (gk (k := 96) (t := 21) ck_P_firstWay_3 rfl) (gk (k := 96) (t := 22) ck_P_firstWay_3 rfl) rfl
theorem d_P_firstWay_119 : decode y_P_firstWay.2.1 119 = .ok (.iload 6, 2) := op_iload (gk (k := 96) (t := 23) ck_P_firstWay_3 rfl) (gk (k := 96) (t := 24) ck_P_firstWay_3 rfl) rfl
theorem d_P_firstWay_121 : decode y_P_firstWay.2.1 121 = .ok (.istore 4, 2) := op_istore (gk (k := 96) (t := 25) ck_P_firstWay_3 rfl) (gk (k := 96) (t := 26) ck_P_firstWay_3 rfl) rfl
theorem d_P_firstWay_95 : decode y_P_firstWay.2.1 95 = .ok (.if_icmp .eq 15, 3) := op_icmp_eq (gk (k := 64) (t := 31) ck_P_firstWay_2 rfl) (gk (k := 96) (t := 0) ck_P_firstWay_3 rfl) (gk (k := 96) (t := 1) ck_P_firstWay_3 rfl) (by decide +kernel)
theorem d_P_firstWay_98 : decode y_P_firstWay.2.1 98 = .ok (.aload_n 0, 1) := op_aload_n0 (gk (k := 96) (t := 2) ck_P_firstWay_3 rfl)
theorem d_P_firstWay_99 : decode y_P_firstWay.2.1 99 = .ok (.getfield 21, 3) := op_getfield (gk (k := 96) (t := 3) ck_P_firstWay_3 rfl) (gk (k := 96) (t := 4) ck_P_firstWay_3 rfl) (gk (k := 96) (t := 5) ck_P_firstWay_3 rfl) rfl
theorem d_P_firstWay_102 : decode y_P_firstWay.2.1 102 = .ok (.iload 7, 2) := op_iload (gk (k := 96) (t := 6) ck_P_firstWay_3 rfl) (gk (k := 96) (t := 7) ck_P_firstWay_3 rfl) rfl
theorem d_P_firstWay_104 : decode y_P_firstWay.2.1 104 = .ok (.iaload, 1) := op_iaload (gk (k := 96) (t := 8) ck_P_firstWay_3 rfl)
theorem d_P_firstWay_105 : decode y_P_firstWay.2.1 105 = .ok (.iload 5, 2) := op_iload (gk (k := 96) (t := 9) ck_P_firstWay_3 rfl) (gk (k := 96) (t := 10) ck_P_firstWay_3 rfl) rfl
theorem d_P_firstWay_107 : decode y_P_firstWay.2.1 107 = .ok (.if_icmp .ge 16, 3) := op_icmp_ge (gk (k := 96) (t := 11) ck_P_firstWay_3 rfl) (gk (k := 96) (t := 12) ck_P_firstWay_3 rfl) (gk (k := 96) (t := 13) ck_P_firstWay_3 rfl) (by decide +kernel)
abbrev y_P_goOn : MI := (⟨"SinglesUp$Packer", "goOn", "([I)V"⟩, prog_8_method_6_code, 3, none)
theorem ck_P_goOn_0 : (y_P_goOn.2.1.data.toList.drop 0).take 32 = [4, 61, 28, 16, 8, 163, 0, 45, 28, 43, 190, 162, 0, 39, 42, 180, 0, 24, 28, 46, 43, 28, 46, 162, 0, 14, 42, 180, 0, 24, 28, 92] := by decide +kernel
theorem d_P_goOn_0 : decode y_P_goOn.2.1 0 = .ok (.iconst 1, 1) := op_iconst1 (gk (k := 0) (t := 0) ck_P_goOn_0 rfl)
theorem d_P_goOn_1 : decode y_P_goOn.2.1 1 = .ok (.istore_n 2, 1) := op_istore_n2 (gk (k := 0) (t := 1) ck_P_goOn_0 rfl)
theorem d_P_goOn_2 : decode y_P_goOn.2.1 2 = .ok (.iload_n 2, 1) := op_iload_n2 (gk (k := 0) (t := 2) ck_P_goOn_0 rfl)
theorem d_P_goOn_3 : decode y_P_goOn.2.1 3 = .ok (.bipush 8, 2) := op_bipush (gk (k := 0) (t := 3) ck_P_goOn_0 rfl) (gk (k := 0) (t := 4) ck_P_goOn_0 rfl) rfl
theorem d_P_goOn_5 : decode y_P_goOn.2.1 5 = .ok (.if_icmp .gt 45, 3) := op_icmp_gt (gk (k := 0) (t := 5) ck_P_goOn_0 rfl) (gk (k := 0) (t := 6) ck_P_goOn_0 rfl) (gk (k := 0) (t := 7) ck_P_goOn_0 rfl) (by decide +kernel)
theorem ck_P_goOn_1 : (y_P_goOn.2.1.data.toList.drop 32).take 32 = [46, 4, 96, 79, 177, 42, 180, 0, 24, 28, 3, 79, 132, 2, 1, 167, 255, 211, 177] := by decide +kernel
theorem d_P_goOn_50 : decode y_P_goOn.2.1 50 = .ok (.return_, 1) := op_return_ (gk (k := 32) (t := 18) ck_P_goOn_1 rfl)
theorem d_P_goOn_8 : decode y_P_goOn.2.1 8 = .ok (.iload_n 2, 1) := op_iload_n2 (gk (k := 0) (t := 8) ck_P_goOn_0 rfl)
theorem d_P_goOn_9 : decode y_P_goOn.2.1 9 = .ok (.aload_n 1, 1) := op_aload_n1 (gk (k := 0) (t := 9) ck_P_goOn_0 rfl)
theorem d_P_goOn_10 : decode y_P_goOn.2.1 10 = .ok (.arraylength, 1) := op_arraylength (gk (k := 0) (t := 10) ck_P_goOn_0 rfl)
theorem d_P_goOn_11 : decode y_P_goOn.2.1 11 = .ok (.if_icmp .ge 39, 3) := op_icmp_ge (gk (k := 0) (t := 11) ck_P_goOn_0 rfl) (gk (k := 0) (t := 12) ck_P_goOn_0 rfl) (gk (k := 0) (t := 13) ck_P_goOn_0 rfl) (by decide +kernel)
theorem d_P_goOn_14 : decode y_P_goOn.2.1 14 = .ok (.aload_n 0, 1) := op_aload_n0 (gk (k := 0) (t := 14) ck_P_goOn_0 rfl)
theorem d_P_goOn_15 : decode y_P_goOn.2.1 15 = .ok (.getfield 24, 3) := op_getfield (gk (k := 0) (t := 15) ck_P_goOn_0 rfl) (gk (k := 0) (t := 16) ck_P_goOn_0 rfl) (gk (k := 0) (t := 17) ck_P_goOn_0 rfl) rfl
theorem d_P_goOn_18 : decode y_P_goOn.2.1 18 = .ok (.iload_n 2, 1) := op_iload_n2 (gk (k := 0) (t := 18) ck_P_goOn_0 rfl)
theorem d_P_goOn_19 : decode y_P_goOn.2.1 19 = .ok (.iaload, 1) := op_iaload (gk (k := 0) (t := 19) ck_P_goOn_0 rfl)
theorem d_P_goOn_20 : decode y_P_goOn.2.1 20 = .ok (.aload_n 1, 1) := op_aload_n1 (gk (k := 0) (t := 20) ck_P_goOn_0 rfl)
theorem d_P_goOn_21 : decode y_P_goOn.2.1 21 = .ok (.iload_n 2, 1) := op_iload_n2 (gk (k := 0) (t := 21) ck_P_goOn_0 rfl)
theorem d_P_goOn_22 : decode y_P_goOn.2.1 22 = .ok (.iaload, 1) := op_iaload (gk (k := 0) (t := 22) ck_P_goOn_0 rfl)
theorem d_P_goOn_23 : decode y_P_goOn.2.1 23 = .ok (.if_icmp .ge 14, 3) := op_icmp_ge (gk (k := 0) (t := 23) ck_P_goOn_0 rfl) (gk (k := 0) (t := 24) ck_P_goOn_0 rfl) (gk (k := 0) (t := 25) ck_P_goOn_0 rfl) (by decide +kernel)
theorem d_P_goOn_37 : decode y_P_goOn.2.1 37 = .ok (.aload_n 0, 1) := op_aload_n0 (gk (k := 32) (t := 5) ck_P_goOn_1 rfl)
theorem d_P_goOn_38 : decode y_P_goOn.2.1 38 = .ok (.getfield 24, 3) := op_getfield (gk (k := 32) (t := 6) ck_P_goOn_1 rfl) (gk (k := 32) (t := 7) ck_P_goOn_1 rfl) (gk (k := 32) (t := 8) ck_P_goOn_1 rfl) rfl
theorem d_P_goOn_41 : decode y_P_goOn.2.1 41 = .ok (.iload_n 2, 1) := op_iload_n2 (gk (k := 32) (t := 9) ck_P_goOn_1 rfl)
theorem d_P_goOn_42 : decode y_P_goOn.2.1 42 = .ok (.iconst 0, 1) := op_iconst0 (gk (k := 32) (t := 10) ck_P_goOn_1 rfl)
theorem d_P_goOn_43 : decode y_P_goOn.2.1 43 = .ok (.iastore, 1) := op_iastore (gk (k := 32) (t := 11) ck_P_goOn_1 rfl)
theorem d_P_goOn_44 : decode y_P_goOn.2.1 44 = .ok (.iinc 2 1, 3) := op_iinc (gk (k := 32) (t := 12) ck_P_goOn_1 rfl) (gk (k := 32) (t := 13) ck_P_goOn_1 rfl) (gk (k := 32) (t := 14) ck_P_goOn_1 rfl) rfl rfl
theorem d_P_goOn_47 : decode y_P_goOn.2.1 47 = .ok (.goto (-45), 3) := op_goto (gk (k := 32) (t := 15) ck_P_goOn_1 rfl) (gk (k := 32) (t := 16) ck_P_goOn_1 rfl) (gk (k := 32) (t := 17) ck_P_goOn_1 rfl) (by decide +kernel)
theorem d_P_goOn_26 : decode y_P_goOn.2.1 26 = .ok (.aload_n 0, 1) := op_aload_n0 (gk (k := 0) (t := 26) ck_P_goOn_0 rfl)
theorem d_P_goOn_27 : decode y_P_goOn.2.1 27 = .ok (.getfield 24, 3) := op_getfield (gk (k := 0) (t := 27) ck_P_goOn_0 rfl) (gk (k := 0) (t := 28) ck_P_goOn_0 rfl) (gk (k := 0) (t := 29) ck_P_goOn_0 rfl) rfl
theorem d_P_goOn_30 : decode y_P_goOn.2.1 30 = .ok (.iload_n 2, 1) := op_iload_n2 (gk (k := 0) (t := 30) ck_P_goOn_0 rfl)
theorem d_P_goOn_31 : decode y_P_goOn.2.1 31 = .ok (.dup2, 1) := op_dup2 (gk (k := 0) (t := 31) ck_P_goOn_0 rfl)
theorem d_P_goOn_32 : decode y_P_goOn.2.1 32 = .ok (.iaload, 1) := op_iaload (gk (k := 32) (t := 0) ck_P_goOn_1 rfl)
theorem d_P_goOn_33 : decode y_P_goOn.2.1 33 = .ok (.iconst 1, 1) := op_iconst1 (gk (k := 32) (t := 1) ck_P_goOn_1 rfl)
theorem d_P_goOn_34 : decode y_P_goOn.2.1 34 = .ok (.iadd, 1) := op_iadd (gk (k := 32) (t := 2) ck_P_goOn_1 rfl)
theorem d_P_goOn_35 : decode y_P_goOn.2.1 35 = .ok (.iastore, 1) := op_iastore (gk (k := 32) (t := 3) ck_P_goOn_1 rfl)
theorem d_P_goOn_36 : decode y_P_goOn.2.1 36 = .ok (.return_, 1) := op_return_ (gk (k := 32) (t := 4) ck_P_goOn_1 rfl)
abbrev y_P_numberAll : MI := (⟨"SinglesUp$Packer", "numberAll", "([I)I"⟩, prog_8_method_5_code, 5, some .int)
theorem ck_P_numberAll_0 : (y_P_numberAll.2.1.data.toList.drop 0).take 32 = [42, 180, 0, 18, 3, 184, 0, 52, 4, 61, 4, 62, 29, 16, 8, 163, 0, 63, 29, 43, 190, 162, 0, 57, 3, 54, 4, 21, 4, 16, 67, 162] := by decide +kernel
theorem d_P_numberAll_0 : decode y_P_numberAll.2.1 0 = .ok (.aload_n 0, 1) := op_aload_n0 (gk (k := 0) (t := 0) ck_P_numberAll_0 rfl)
theorem d_P_numberAll_1 : decode y_P_numberAll.2.1 1 = .ok (.getfield 18, 3) := op_getfield (gk (k := 0) (t := 1) ck_P_numberAll_0 rfl) (gk (k := 0) (t := 2) ck_P_numberAll_0 rfl) (gk (k := 0) (t := 3) ck_P_numberAll_0 rfl) rfl
theorem d_P_numberAll_4 : decode y_P_numberAll.2.1 4 = .ok (.iconst 0, 1) := op_iconst0 (gk (k := 0) (t := 4) ck_P_numberAll_0 rfl)
theorem lk_P_52 : LkS "SinglesUp$Packer" 52 y_JA_fill := ⟨tw_c1 42 (by decide +kernel) rfl, Or.inl (tw_c4 187 (by decide +kernel) rfl)⟩
theorem d_P_numberAll_5 : decode y_P_numberAll.2.1 5 = .ok (.invokestatic 52, 3) := op_invokestatic (gk (k := 0) (t := 5) ck_P_numberAll_0 rfl) (gk (k := 0) (t := 6) ck_P_numberAll_0 rfl) (gk (k := 0) (t := 7) ck_P_numberAll_0 rfl) rfl
theorem d_P_numberAll_8 : decode y_P_numberAll.2.1 8 = .ok (.iconst 1, 1) := op_iconst1 (gk (k := 0) (t := 8) ck_P_numberAll_0 rfl)
theorem d_P_numberAll_9 : decode y_P_numberAll.2.1 9 = .ok (.istore_n 2, 1) := op_istore_n2 (gk (k := 0) (t := 9) ck_P_numberAll_0 rfl)
theorem d_P_numberAll_10 : decode y_P_numberAll.2.1 10 = .ok (.iconst 1, 1) := op_iconst1 (gk (k := 0) (t := 10) ck_P_numberAll_0 rfl)
theorem d_P_numberAll_11 : decode y_P_numberAll.2.1 11 = .ok (.istore_n 3, 1) := op_istore_n3 (gk (k := 0) (t := 11) ck_P_numberAll_0 rfl)
theorem d_P_numberAll_12 : decode y_P_numberAll.2.1 12 = .ok (.iload_n 3, 1) := op_iload_n3 (gk (k := 0) (t := 12) ck_P_numberAll_0 rfl)
theorem d_P_numberAll_13 : decode y_P_numberAll.2.1 13 = .ok (.bipush 8, 2) := op_bipush (gk (k := 0) (t := 13) ck_P_numberAll_0 rfl) (gk (k := 0) (t := 14) ck_P_numberAll_0 rfl) rfl
theorem d_P_numberAll_15 : decode y_P_numberAll.2.1 15 = .ok (.if_icmp .gt 63, 3) := op_icmp_gt (gk (k := 0) (t := 15) ck_P_numberAll_0 rfl) (gk (k := 0) (t := 16) ck_P_numberAll_0 rfl) (gk (k := 0) (t := 17) ck_P_numberAll_0 rfl) (by decide +kernel)
theorem ck_P_numberAll_2 : (y_P_numberAll.2.1.data.toList.drop 64).take 32 = [28, 43, 29, 46, 4, 96, 104, 61, 132, 3, 1, 167, 255, 193, 28, 172] := by decide +kernel
theorem d_P_numberAll_78 : decode y_P_numberAll.2.1 78 = .ok (.iload_n 2, 1) := op_iload_n2 (gk (k := 64) (t := 14) ck_P_numberAll_2 rfl)
theorem d_P_numberAll_79 : decode y_P_numberAll.2.1 79 = .ok (.ireturn, 1) := op_ireturn (gk (k := 64) (t := 15) ck_P_numberAll_2 rfl)
theorem d_P_numberAll_18 : decode y_P_numberAll.2.1 18 = .ok (.iload_n 3, 1) := op_iload_n3 (gk (k := 0) (t := 18) ck_P_numberAll_0 rfl)
theorem d_P_numberAll_19 : decode y_P_numberAll.2.1 19 = .ok (.aload_n 1, 1) := op_aload_n1 (gk (k := 0) (t := 19) ck_P_numberAll_0 rfl)
theorem d_P_numberAll_20 : decode y_P_numberAll.2.1 20 = .ok (.arraylength, 1) := op_arraylength (gk (k := 0) (t := 20) ck_P_numberAll_0 rfl)
theorem d_P_numberAll_21 : decode y_P_numberAll.2.1 21 = .ok (.if_icmp .ge 57, 3) := op_icmp_ge (gk (k := 0) (t := 21) ck_P_numberAll_0 rfl) (gk (k := 0) (t := 22) ck_P_numberAll_0 rfl) (gk (k := 0) (t := 23) ck_P_numberAll_0 rfl) (by decide +kernel)
theorem d_P_numberAll_24 : decode y_P_numberAll.2.1 24 = .ok (.iconst 0, 1) := op_iconst0 (gk (k := 0) (t := 24) ck_P_numberAll_0 rfl)
theorem d_P_numberAll_25 : decode y_P_numberAll.2.1 25 = .ok (.istore 4, 2) := op_istore (gk (k := 0) (t := 25) ck_P_numberAll_0 rfl) (gk (k := 0) (t := 26) ck_P_numberAll_0 rfl) rfl
theorem d_P_numberAll_27 : decode y_P_numberAll.2.1 27 = .ok (.iload 4, 2) := op_iload (gk (k := 0) (t := 27) ck_P_numberAll_0 rfl) (gk (k := 0) (t := 28) ck_P_numberAll_0 rfl) rfl
theorem d_P_numberAll_29 : decode y_P_numberAll.2.1 29 = .ok (.bipush 67, 2) := op_bipush (gk (k := 0) (t := 29) ck_P_numberAll_0 rfl) (gk (k := 0) (t := 30) ck_P_numberAll_0 rfl) rfl
theorem ck_P_numberAll_1 : (y_P_numberAll.2.1.data.toList.drop 32).take 32 = [0, 33, 42, 180, 0, 18, 21, 4, 92, 46, 28, 42, 180, 0, 11, 21, 4, 16, 9, 104, 29, 96, 46, 104, 96, 79, 132, 4, 1, 167, 255, 222] := by decide +kernel
theorem d_P_numberAll_31 : decode y_P_numberAll.2.1 31 = .ok (.if_icmp .ge 33, 3) := op_icmp_ge (gk (k := 0) (t := 31) ck_P_numberAll_0 rfl) (gk (k := 32) (t := 0) ck_P_numberAll_1 rfl) (gk (k := 32) (t := 1) ck_P_numberAll_1 rfl) (by decide +kernel)
theorem d_P_numberAll_34 : decode y_P_numberAll.2.1 34 = .ok (.aload_n 0, 1) := op_aload_n0 (gk (k := 32) (t := 2) ck_P_numberAll_1 rfl)
theorem d_P_numberAll_35 : decode y_P_numberAll.2.1 35 = .ok (.getfield 18, 3) := op_getfield (gk (k := 32) (t := 3) ck_P_numberAll_1 rfl) (gk (k := 32) (t := 4) ck_P_numberAll_1 rfl) (gk (k := 32) (t := 5) ck_P_numberAll_1 rfl) rfl
theorem d_P_numberAll_38 : decode y_P_numberAll.2.1 38 = .ok (.iload 4, 2) := op_iload (gk (k := 32) (t := 6) ck_P_numberAll_1 rfl) (gk (k := 32) (t := 7) ck_P_numberAll_1 rfl) rfl
theorem d_P_numberAll_40 : decode y_P_numberAll.2.1 40 = .ok (.dup2, 1) := op_dup2 (gk (k := 32) (t := 8) ck_P_numberAll_1 rfl)
theorem d_P_numberAll_41 : decode y_P_numberAll.2.1 41 = .ok (.iaload, 1) := op_iaload (gk (k := 32) (t := 9) ck_P_numberAll_1 rfl)
theorem d_P_numberAll_42 : decode y_P_numberAll.2.1 42 = .ok (.iload_n 2, 1) := op_iload_n2 (gk (k := 32) (t := 10) ck_P_numberAll_1 rfl)
theorem d_P_numberAll_43 : decode y_P_numberAll.2.1 43 = .ok (.aload_n 0, 1) := op_aload_n0 (gk (k := 32) (t := 11) ck_P_numberAll_1 rfl)
theorem d_P_numberAll_44 : decode y_P_numberAll.2.1 44 = .ok (.getfield 11, 3) := op_getfield (gk (k := 32) (t := 12) ck_P_numberAll_1 rfl) (gk (k := 32) (t := 13) ck_P_numberAll_1 rfl) (gk (k := 32) (t := 14) ck_P_numberAll_1 rfl) rfl
theorem d_P_numberAll_47 : decode y_P_numberAll.2.1 47 = .ok (.iload 4, 2) := op_iload (gk (k := 32) (t := 15) ck_P_numberAll_1 rfl) (gk (k := 32) (t := 16) ck_P_numberAll_1 rfl) rfl
theorem d_P_numberAll_49 : decode y_P_numberAll.2.1 49 = .ok (.bipush 9, 2) := op_bipush (gk (k := 32) (t := 17) ck_P_numberAll_1 rfl) (gk (k := 32) (t := 18) ck_P_numberAll_1 rfl) rfl
theorem d_P_numberAll_51 : decode y_P_numberAll.2.1 51 = .ok (.imul, 1) := op_imul (gk (k := 32) (t := 19) ck_P_numberAll_1 rfl)
theorem d_P_numberAll_52 : decode y_P_numberAll.2.1 52 = .ok (.iload_n 3, 1) := op_iload_n3 (gk (k := 32) (t := 20) ck_P_numberAll_1 rfl)
theorem d_P_numberAll_53 : decode y_P_numberAll.2.1 53 = .ok (.iadd, 1) := op_iadd (gk (k := 32) (t := 21) ck_P_numberAll_1 rfl)
theorem d_P_numberAll_54 : decode y_P_numberAll.2.1 54 = .ok (.iaload, 1) := op_iaload (gk (k := 32) (t := 22) ck_P_numberAll_1 rfl)
theorem d_P_numberAll_55 : decode y_P_numberAll.2.1 55 = .ok (.imul, 1) := op_imul (gk (k := 32) (t := 23) ck_P_numberAll_1 rfl)
theorem d_P_numberAll_56 : decode y_P_numberAll.2.1 56 = .ok (.iadd, 1) := op_iadd (gk (k := 32) (t := 24) ck_P_numberAll_1 rfl)
theorem d_P_numberAll_57 : decode y_P_numberAll.2.1 57 = .ok (.iastore, 1) := op_iastore (gk (k := 32) (t := 25) ck_P_numberAll_1 rfl)
theorem d_P_numberAll_58 : decode y_P_numberAll.2.1 58 = .ok (.iinc 4 1, 3) := op_iinc (gk (k := 32) (t := 26) ck_P_numberAll_1 rfl) (gk (k := 32) (t := 27) ck_P_numberAll_1 rfl) (gk (k := 32) (t := 28) ck_P_numberAll_1 rfl) rfl rfl
theorem d_P_numberAll_61 : decode y_P_numberAll.2.1 61 = .ok (.goto (-34), 3) := op_goto (gk (k := 32) (t := 29) ck_P_numberAll_1 rfl) (gk (k := 32) (t := 30) ck_P_numberAll_1 rfl) (gk (k := 32) (t := 31) ck_P_numberAll_1 rfl) (by decide +kernel)
theorem d_P_numberAll_64 : decode y_P_numberAll.2.1 64 = .ok (.iload_n 2, 1) := op_iload_n2 (gk (k := 64) (t := 0) ck_P_numberAll_2 rfl)
theorem d_P_numberAll_65 : decode y_P_numberAll.2.1 65 = .ok (.aload_n 1, 1) := op_aload_n1 (gk (k := 64) (t := 1) ck_P_numberAll_2 rfl)
theorem d_P_numberAll_66 : decode y_P_numberAll.2.1 66 = .ok (.iload_n 3, 1) := op_iload_n3 (gk (k := 64) (t := 2) ck_P_numberAll_2 rfl)
theorem d_P_numberAll_67 : decode y_P_numberAll.2.1 67 = .ok (.iaload, 1) := op_iaload (gk (k := 64) (t := 3) ck_P_numberAll_2 rfl)
theorem d_P_numberAll_68 : decode y_P_numberAll.2.1 68 = .ok (.iconst 1, 1) := op_iconst1 (gk (k := 64) (t := 4) ck_P_numberAll_2 rfl)
theorem d_P_numberAll_69 : decode y_P_numberAll.2.1 69 = .ok (.iadd, 1) := op_iadd (gk (k := 64) (t := 5) ck_P_numberAll_2 rfl)
theorem d_P_numberAll_70 : decode y_P_numberAll.2.1 70 = .ok (.imul, 1) := op_imul (gk (k := 64) (t := 6) ck_P_numberAll_2 rfl)
theorem d_P_numberAll_71 : decode y_P_numberAll.2.1 71 = .ok (.istore_n 2, 1) := op_istore_n2 (gk (k := 64) (t := 7) ck_P_numberAll_2 rfl)
theorem d_P_numberAll_72 : decode y_P_numberAll.2.1 72 = .ok (.iinc 3 1, 3) := op_iinc (gk (k := 64) (t := 8) ck_P_numberAll_2 rfl) (gk (k := 64) (t := 9) ck_P_numberAll_2 rfl) (gk (k := 64) (t := 10) ck_P_numberAll_2 rfl) rfl rfl
theorem d_P_numberAll_75 : decode y_P_numberAll.2.1 75 = .ok (.goto (-63), 3) := op_goto (gk (k := 64) (t := 11) ck_P_numberAll_2 rfl) (gk (k := 64) (t := 12) ck_P_numberAll_2 rfl) (gk (k := 64) (t := 13) ck_P_numberAll_2 rfl) (by decide +kernel)
abbrev y_P_pack : MI := (⟨"SinglesUp$Packer", "pack", "([II)I"⟩, prog_8_method_4_code, 6, some .int)
theorem ck_P_pack_0 : (y_P_pack.2.1.data.toList.drop 0).take 32 = [42, 43, 182, 0, 48, 62, 42, 180, 0, 24, 3, 184, 0, 52, 42, 2, 181, 0, 27, 4, 54, 4, 21, 4, 29, 162, 0, 90, 21, 4, 17, 5] := by decide +kernel
theorem d_P_pack_0 : decode y_P_pack.2.1 0 = .ok (.aload_n 0, 1) := op_aload_n0 (gk (k := 0) (t := 0) ck_P_pack_0 rfl)
theorem d_P_pack_1 : decode y_P_pack.2.1 1 = .ok (.aload_n 1, 1) := op_aload_n1 (gk (k := 0) (t := 1) ck_P_pack_0 rfl)
theorem lk_P_48 : LkV "SinglesUp$Packer" 48 y_P_numberAll := ⟨tw_c4 185 (by decide +kernel) rfl, tw_in 33 (by decide +kernel) rfl, Or.inl (tw_c4 183 (by decide +kernel) rfl)⟩
set_option maxRecDepth 100000 in
theorem mo_P_numberAll : MOk y_P_numberAll 1 := ⟨by decide +kernel, tw_c4 186 rfl rfl, tw_c1 10 (by decide +kernel) rfl, by decide +kernel, by decide +kernel, by decide +kernel⟩
theorem d_P_pack_2 : decode y_P_pack.2.1 2 = .ok (.invokevirtual 48, 3) := op_invokevirtual (gk (k := 0) (t := 2) ck_P_pack_0 rfl) (gk (k := 0) (t := 3) ck_P_pack_0 rfl) (gk (k := 0) (t := 4) ck_P_pack_0 rfl) rfl
theorem d_P_pack_5 : decode y_P_pack.2.1 5 = .ok (.istore_n 3, 1) := op_istore_n3 (gk (k := 0) (t := 5) ck_P_pack_0 rfl)
theorem d_P_pack_6 : decode y_P_pack.2.1 6 = .ok (.aload_n 0, 1) := op_aload_n0 (gk (k := 0) (t := 6) ck_P_pack_0 rfl)
theorem d_P_pack_7 : decode y_P_pack.2.1 7 = .ok (.getfield 24, 3) := op_getfield (gk (k := 0) (t := 7) ck_P_pack_0 rfl) (gk (k := 0) (t := 8) ck_P_pack_0 rfl) (gk (k := 0) (t := 9) ck_P_pack_0 rfl) rfl
theorem d_P_pack_10 : decode y_P_pack.2.1 10 = .ok (.iconst 0, 1) := op_iconst0 (gk (k := 0) (t := 10) ck_P_pack_0 rfl)
theorem d_P_pack_11 : decode y_P_pack.2.1 11 = .ok (.invokestatic 52, 3) := op_invokestatic (gk (k := 0) (t := 11) ck_P_pack_0 rfl) (gk (k := 0) (t := 12) ck_P_pack_0 rfl) (gk (k := 0) (t := 13) ck_P_pack_0 rfl) rfl
theorem d_P_pack_14 : decode y_P_pack.2.1 14 = .ok (.aload_n 0, 1) := op_aload_n0 (gk (k := 0) (t := 14) ck_P_pack_0 rfl)
theorem d_P_pack_15 : decode y_P_pack.2.1 15 = .ok (.iconst (-1), 1) := op_iconstm1 (gk (k := 0) (t := 15) ck_P_pack_0 rfl)
theorem d_P_pack_16 : decode y_P_pack.2.1 16 = .ok (.putfield 27, 3) := op_putfield (gk (k := 0) (t := 16) ck_P_pack_0 rfl) (gk (k := 0) (t := 17) ck_P_pack_0 rfl) (gk (k := 0) (t := 18) ck_P_pack_0 rfl) rfl
theorem d_P_pack_19 : decode y_P_pack.2.1 19 = .ok (.iconst 1, 1) := op_iconst1 (gk (k := 0) (t := 19) ck_P_pack_0 rfl)
theorem d_P_pack_20 : decode y_P_pack.2.1 20 = .ok (.istore 4, 2) := op_istore (gk (k := 0) (t := 20) ck_P_pack_0 rfl) (gk (k := 0) (t := 21) ck_P_pack_0 rfl) rfl
theorem d_P_pack_22 : decode y_P_pack.2.1 22 = .ok (.iload 4, 2) := op_iload (gk (k := 0) (t := 22) ck_P_pack_0 rfl) (gk (k := 0) (t := 23) ck_P_pack_0 rfl) rfl
theorem d_P_pack_24 : decode y_P_pack.2.1 24 = .ok (.iload_n 3, 1) := op_iload_n3 (gk (k := 0) (t := 24) ck_P_pack_0 rfl)
theorem d_P_pack_25 : decode y_P_pack.2.1 25 = .ok (.if_icmp .ge 90, 3) := op_icmp_ge (gk (k := 0) (t := 25) ck_P_pack_0 rfl) (gk (k := 0) (t := 26) ck_P_pack_0 rfl) (gk (k := 0) (t := 27) ck_P_pack_0 rfl) (by decide +kernel)
theorem d_P_pack_28 : decode y_P_pack.2.1 28 = .ok (.iload 4, 2) := op_iload (gk (k := 0) (t := 28) ck_P_pack_0 rfl) (gk (k := 0) (t := 29) ck_P_pack_0 rfl) rfl
theorem ck_P_pack_1 : (y_P_pack.2.1.data.toList.drop 32).take 32 = [16, 162, 0, 82, 42, 43, 182, 0, 58, 42, 42, 21, 4, 28, 182, 0, 62, 181, 0, 27, 42, 180, 0, 27, 2, 160, 0, 5, 2, 172, 21, 4] := by decide +kernel
theorem d_P_pack_30 : decode y_P_pack.2.1 30 = .ok (.sipush 1296, 3) := op_sipush (gk (k := 0) (t := 30) ck_P_pack_0 rfl) (gk (k := 0) (t := 31) ck_P_pack_0 rfl) (gk (k := 32) (t := 0) ck_P_pack_1 rfl) (by decide +kernel)
theorem d_P_pack_33 : decode y_P_pack.2.1 33 = .ok (.if_icmp .ge 82, 3) := op_icmp_ge (gk (k := 32) (t := 1) ck_P_pack_1 rfl) (gk (k := 32) (t := 2) ck_P_pack_1 rfl) (gk (k := 32) (t := 3) ck_P_pack_1 rfl) (by decide +kernel)
theorem d_P_pack_36 : decode y_P_pack.2.1 36 = .ok (.aload_n 0, 1) := op_aload_n0 (gk (k := 32) (t := 4) ck_P_pack_1 rfl)
theorem d_P_pack_37 : decode y_P_pack.2.1 37 = .ok (.aload_n 1, 1) := op_aload_n1 (gk (k := 32) (t := 5) ck_P_pack_1 rfl)
theorem lk_P_58 : LkV "SinglesUp$Packer" 58 y_P_goOn := ⟨tw_c4 190 (by decide +kernel) rfl, tw_in 34 (by decide +kernel) rfl, Or.inl (tw_c4 188 (by decide +kernel) rfl)⟩
set_option maxRecDepth 100000 in
theorem mo_P_goOn : MOk y_P_goOn 1 := ⟨by decide +kernel, tw_c4 191 rfl rfl, tw_c1 10 (by decide +kernel) rfl, by decide +kernel, by decide +kernel, by decide +kernel⟩
theorem d_P_pack_38 : decode y_P_pack.2.1 38 = .ok (.invokevirtual 58, 3) := op_invokevirtual (gk (k := 32) (t := 6) ck_P_pack_1 rfl) (gk (k := 32) (t := 7) ck_P_pack_1 rfl) (gk (k := 32) (t := 8) ck_P_pack_1 rfl) rfl
theorem d_P_pack_41 : decode y_P_pack.2.1 41 = .ok (.aload_n 0, 1) := op_aload_n0 (gk (k := 32) (t := 9) ck_P_pack_1 rfl)
theorem d_P_pack_42 : decode y_P_pack.2.1 42 = .ok (.aload_n 0, 1) := op_aload_n0 (gk (k := 32) (t := 10) ck_P_pack_1 rfl)
theorem d_P_pack_43 : decode y_P_pack.2.1 43 = .ok (.iload 4, 2) := op_iload (gk (k := 32) (t := 11) ck_P_pack_1 rfl) (gk (k := 32) (t := 12) ck_P_pack_1 rfl) rfl
theorem d_P_pack_45 : decode y_P_pack.2.1 45 = .ok (.iload_n 2, 1) := op_iload_n2 (gk (k := 32) (t := 13) ck_P_pack_1 rfl)
theorem lk_P_62 : LkV "SinglesUp$Packer" 62 y_P_firstWay := ⟨tw_c4 194 (by decide +kernel) rfl, tw_in 35 (by decide +kernel) rfl, Or.inl (tw_c4 192 (by decide +kernel) rfl)⟩
set_option maxRecDepth 100000 in
theorem mo_P_firstWay : MOk y_P_firstWay 2 := ⟨by decide +kernel, tw_c4 195 rfl rfl, tw_c1 10 (by decide +kernel) rfl, by decide +kernel, by decide +kernel, by decide +kernel⟩
theorem d_P_pack_46 : decode y_P_pack.2.1 46 = .ok (.invokevirtual 62, 3) := op_invokevirtual (gk (k := 32) (t := 14) ck_P_pack_1 rfl) (gk (k := 32) (t := 15) ck_P_pack_1 rfl) (gk (k := 32) (t := 16) ck_P_pack_1 rfl) rfl
theorem d_P_pack_49 : decode y_P_pack.2.1 49 = .ok (.putfield 27, 3) := op_putfield (gk (k := 32) (t := 17) ck_P_pack_1 rfl) (gk (k := 32) (t := 18) ck_P_pack_1 rfl) (gk (k := 32) (t := 19) ck_P_pack_1 rfl) rfl
theorem d_P_pack_52 : decode y_P_pack.2.1 52 = .ok (.aload_n 0, 1) := op_aload_n0 (gk (k := 32) (t := 20) ck_P_pack_1 rfl)
theorem d_P_pack_53 : decode y_P_pack.2.1 53 = .ok (.getfield 27, 3) := op_getfield (gk (k := 32) (t := 21) ck_P_pack_1 rfl) (gk (k := 32) (t := 22) ck_P_pack_1 rfl) (gk (k := 32) (t := 23) ck_P_pack_1 rfl) rfl
theorem d_P_pack_56 : decode y_P_pack.2.1 56 = .ok (.iconst (-1), 1) := op_iconstm1 (gk (k := 32) (t := 24) ck_P_pack_1 rfl)
theorem d_P_pack_57 : decode y_P_pack.2.1 57 = .ok (.if_icmp .ne 5, 3) := op_icmp_ne (gk (k := 32) (t := 25) ck_P_pack_1 rfl) (gk (k := 32) (t := 26) ck_P_pack_1 rfl) (gk (k := 32) (t := 27) ck_P_pack_1 rfl) (by decide +kernel)
theorem d_P_pack_62 : decode y_P_pack.2.1 62 = .ok (.iload 4, 2) := op_iload (gk (k := 32) (t := 30) ck_P_pack_1 rfl) (gk (k := 32) (t := 31) ck_P_pack_1 rfl) rfl
theorem ck_P_pack_2 : (y_P_pack.2.1.data.toList.drop 64).take 32 = [42, 180, 0, 18, 42, 180, 0, 27, 46, 100, 54, 5, 42, 180, 0, 21, 21, 4, 21, 5, 155, 0, 23, 21, 5, 17, 5, 16, 162, 0, 15, 4] := by decide +kernel
theorem d_P_pack_64 : decode y_P_pack.2.1 64 = .ok (.aload_n 0, 1) := op_aload_n0 (gk (k := 64) (t := 0) ck_P_pack_2 rfl)
theorem d_P_pack_65 : decode y_P_pack.2.1 65 = .ok (.getfield 18, 3) := op_getfield (gk (k := 64) (t := 1) ck_P_pack_2 rfl) (gk (k := 64) (t := 2) ck_P_pack_2 rfl) (gk (k := 64) (t := 3) ck_P_pack_2 rfl) rfl
theorem d_P_pack_68 : decode y_P_pack.2.1 68 = .ok (.aload_n 0, 1) := op_aload_n0 (gk (k := 64) (t := 4) ck_P_pack_2 rfl)
theorem d_P_pack_69 : decode y_P_pack.2.1 69 = .ok (.getfield 27, 3) := op_getfield (gk (k := 64) (t := 5) ck_P_pack_2 rfl) (gk (k := 64) (t := 6) ck_P_pack_2 rfl) (gk (k := 64) (t := 7) ck_P_pack_2 rfl) rfl
theorem d_P_pack_72 : decode y_P_pack.2.1 72 = .ok (.iaload, 1) := op_iaload (gk (k := 64) (t := 8) ck_P_pack_2 rfl)
theorem d_P_pack_73 : decode y_P_pack.2.1 73 = .ok (.isub, 1) := op_isub (gk (k := 64) (t := 9) ck_P_pack_2 rfl)
theorem d_P_pack_74 : decode y_P_pack.2.1 74 = .ok (.istore 5, 2) := op_istore (gk (k := 64) (t := 10) ck_P_pack_2 rfl) (gk (k := 64) (t := 11) ck_P_pack_2 rfl) rfl
theorem d_P_pack_76 : decode y_P_pack.2.1 76 = .ok (.aload_n 0, 1) := op_aload_n0 (gk (k := 64) (t := 12) ck_P_pack_2 rfl)
theorem d_P_pack_77 : decode y_P_pack.2.1 77 = .ok (.getfield 21, 3) := op_getfield (gk (k := 64) (t := 13) ck_P_pack_2 rfl) (gk (k := 64) (t := 14) ck_P_pack_2 rfl) (gk (k := 64) (t := 15) ck_P_pack_2 rfl) rfl
theorem d_P_pack_80 : decode y_P_pack.2.1 80 = .ok (.iload 4, 2) := op_iload (gk (k := 64) (t := 16) ck_P_pack_2 rfl) (gk (k := 64) (t := 17) ck_P_pack_2 rfl) rfl
theorem d_P_pack_82 : decode y_P_pack.2.1 82 = .ok (.iload 5, 2) := op_iload (gk (k := 64) (t := 18) ck_P_pack_2 rfl) (gk (k := 64) (t := 19) ck_P_pack_2 rfl) rfl
theorem ck_P_pack_3 : (y_P_pack.2.1.data.toList.drop 96).take 32 = [42, 180, 0, 21, 21, 5, 46, 96, 167, 0, 4, 2, 79, 132, 4, 1, 167, 255, 166, 29, 4, 161, 0, 21, 29, 17, 5, 16, 163, 0, 14, 42] := by decide +kernel
theorem d_P_pack_108 : decode y_P_pack.2.1 108 = .ok (.iastore, 1) := op_iastore (gk (k := 96) (t := 12) ck_P_pack_3 rfl)
theorem d_P_pack_109 : decode y_P_pack.2.1 109 = .ok (.iinc 4 1, 3) := op_iinc (gk (k := 96) (t := 13) ck_P_pack_3 rfl) (gk (k := 96) (t := 14) ck_P_pack_3 rfl) (gk (k := 96) (t := 15) ck_P_pack_3 rfl) rfl rfl
theorem d_P_pack_112 : decode y_P_pack.2.1 112 = .ok (.goto (-90), 3) := op_goto (gk (k := 96) (t := 16) ck_P_pack_3 rfl) (gk (k := 96) (t := 17) ck_P_pack_3 rfl) (gk (k := 96) (t := 18) ck_P_pack_3 rfl) (by decide +kernel)
theorem d_P_pack_84 : decode y_P_pack.2.1 84 = .ok (.ifCond .lt 23, 3) := op_if_lt (gk (k := 64) (t := 20) ck_P_pack_2 rfl) (gk (k := 64) (t := 21) ck_P_pack_2 rfl) (gk (k := 64) (t := 22) ck_P_pack_2 rfl) (by decide +kernel)
theorem d_P_pack_107 : decode y_P_pack.2.1 107 = .ok (.iconst (-1), 1) := op_iconstm1 (gk (k := 96) (t := 11) ck_P_pack_3 rfl)
theorem d_P_pack_87 : decode y_P_pack.2.1 87 = .ok (.iload 5, 2) := op_iload (gk (k := 64) (t := 23) ck_P_pack_2 rfl) (gk (k := 64) (t := 24) ck_P_pack_2 rfl) rfl
theorem d_P_pack_89 : decode y_P_pack.2.1 89 = .ok (.sipush 1296, 3) := op_sipush (gk (k := 64) (t := 25) ck_P_pack_2 rfl) (gk (k := 64) (t := 26) ck_P_pack_2 rfl) (gk (k := 64) (t := 27) ck_P_pack_2 rfl) (by decide +kernel)
theorem d_P_pack_92 : decode y_P_pack.2.1 92 = .ok (.if_icmp .ge 15, 3) := op_icmp_ge (gk (k := 64) (t := 28) ck_P_pack_2 rfl) (gk (k := 64) (t := 29) ck_P_pack_2 rfl) (gk (k := 64) (t := 30) ck_P_pack_2 rfl) (by decide +kernel)
theorem d_P_pack_95 : decode y_P_pack.2.1 95 = .ok (.iconst 1, 1) := op_iconst1 (gk (k := 64) (t := 31) ck_P_pack_2 rfl)
theorem d_P_pack_96 : decode y_P_pack.2.1 96 = .ok (.aload_n 0, 1) := op_aload_n0 (gk (k := 96) (t := 0) ck_P_pack_3 rfl)
theorem d_P_pack_97 : decode y_P_pack.2.1 97 = .ok (.getfield 21, 3) := op_getfield (gk (k := 96) (t := 1) ck_P_pack_3 rfl) (gk (k := 96) (t := 2) ck_P_pack_3 rfl) (gk (k := 96) (t := 3) ck_P_pack_3 rfl) rfl
theorem d_P_pack_100 : decode y_P_pack.2.1 100 = .ok (.iload 5, 2) := op_iload (gk (k := 96) (t := 4) ck_P_pack_3 rfl) (gk (k := 96) (t := 5) ck_P_pack_3 rfl) rfl
theorem d_P_pack_102 : decode y_P_pack.2.1 102 = .ok (.iaload, 1) := op_iaload (gk (k := 96) (t := 6) ck_P_pack_3 rfl)
theorem d_P_pack_103 : decode y_P_pack.2.1 103 = .ok (.iadd, 1) := op_iadd (gk (k := 96) (t := 7) ck_P_pack_3 rfl)
theorem d_P_pack_104 : decode y_P_pack.2.1 104 = .ok (.goto 4, 3) := op_goto (gk (k := 96) (t := 8) ck_P_pack_3 rfl) (gk (k := 96) (t := 9) ck_P_pack_3 rfl) (gk (k := 96) (t := 10) ck_P_pack_3 rfl) (by decide +kernel)
theorem d_P_pack_60 : decode y_P_pack.2.1 60 = .ok (.iconst (-1), 1) := op_iconstm1 (gk (k := 32) (t := 28) ck_P_pack_1 rfl)
theorem d_P_pack_61 : decode y_P_pack.2.1 61 = .ok (.ireturn, 1) := op_ireturn (gk (k := 32) (t := 29) ck_P_pack_1 rfl)
theorem d_P_pack_115 : decode y_P_pack.2.1 115 = .ok (.iload_n 3, 1) := op_iload_n3 (gk (k := 96) (t := 19) ck_P_pack_3 rfl)
theorem d_P_pack_116 : decode y_P_pack.2.1 116 = .ok (.iconst 1, 1) := op_iconst1 (gk (k := 96) (t := 20) ck_P_pack_3 rfl)
theorem d_P_pack_117 : decode y_P_pack.2.1 117 = .ok (.if_icmp .lt 21, 3) := op_icmp_lt (gk (k := 96) (t := 21) ck_P_pack_3 rfl) (gk (k := 96) (t := 22) ck_P_pack_3 rfl) (gk (k := 96) (t := 23) ck_P_pack_3 rfl) (by decide +kernel)
theorem ck_P_pack_4 : (y_P_pack.2.1.data.toList.drop 128).take 32 = [180, 0, 21, 29, 4, 100, 46, 167, 0, 4, 2, 172] := by decide +kernel
theorem d_P_pack_138 : decode y_P_pack.2.1 138 = .ok (.iconst (-1), 1) := op_iconstm1 (gk (k := 128) (t := 10) ck_P_pack_4 rfl)
theorem d_P_pack_139 : decode y_P_pack.2.1 139 = .ok (.ireturn, 1) := op_ireturn (gk (k := 128) (t := 11) ck_P_pack_4 rfl)
theorem d_P_pack_120 : decode y_P_pack.2.1 120 = .ok (.iload_n 3, 1) := op_iload_n3 (gk (k := 96) (t := 24) ck_P_pack_3 rfl)
theorem d_P_pack_121 : decode y_P_pack.2.1 121 = .ok (.sipush 1296, 3) := op_sipush (gk (k := 96) (t := 25) ck_P_pack_3 rfl) (gk (k := 96) (t := 26) ck_P_pack_3 rfl) (gk (k := 96) (t := 27) ck_P_pack_3 rfl) (by decide +kernel)
theorem d_P_pack_124 : decode y_P_pack.2.1 124 = .ok (.if_icmp .gt 14, 3) := op_icmp_gt (gk (k := 96) (t := 28) ck_P_pack_3 rfl) (gk (k := 96) (t := 29) ck_P_pack_3 rfl) (gk (k := 96) (t := 30) ck_P_pack_3 rfl) (by decide +kernel)
theorem d_P_pack_127 : decode y_P_pack.2.1 127 = .ok (.aload_n 0, 1) := op_aload_n0 (gk (k := 96) (t := 31) ck_P_pack_3 rfl)
theorem d_P_pack_128 : decode y_P_pack.2.1 128 = .ok (.getfield 21, 3) := op_getfield (gk (k := 128) (t := 0) ck_P_pack_4 rfl) (gk (k := 128) (t := 1) ck_P_pack_4 rfl) (gk (k := 128) (t := 2) ck_P_pack_4 rfl) rfl
theorem d_P_pack_131 : decode y_P_pack.2.1 131 = .ok (.iload_n 3, 1) := op_iload_n3 (gk (k := 128) (t := 3) ck_P_pack_4 rfl)
theorem d_P_pack_132 : decode y_P_pack.2.1 132 = .ok (.iconst 1, 1) := op_iconst1 (gk (k := 128) (t := 4) ck_P_pack_4 rfl)
theorem d_P_pack_133 : decode y_P_pack.2.1 133 = .ok (.isub, 1) := op_isub (gk (k := 128) (t := 5) ck_P_pack_4 rfl)
theorem d_P_pack_134 : decode y_P_pack.2.1 134 = .ok (.iaload, 1) := op_iaload (gk (k := 128) (t := 6) ck_P_pack_4 rfl)
theorem d_P_pack_135 : decode y_P_pack.2.1 135 = .ok (.goto 4, 3) := op_goto (gk (k := 128) (t := 7) ck_P_pack_4 rfl) (gk (k := 128) (t := 8) ck_P_pack_4 rfl) (gk (k := 128) (t := 9) ck_P_pack_4 rfl) (by decide +kernel)
abbrev y_S_fewest : MI := (⟨"SinglesUp", "fewest", "(I)I"⟩, prog_1_method_23_code, 3, some .int)
theorem ck_S_fewest_0 : (y_S_fewest.2.1.data.toList.drop 0).take 32 = [27, 155, 0, 9, 27, 16, 8, 164, 0, 5, 2, 172, 42, 180, 0, 53, 42, 180, 0, 12, 180, 0, 209, 42, 180, 0, 12, 180, 0, 65, 3, 46] := by decide +kernel
theorem d_S_fewest_0 : decode y_S_fewest.2.1 0 = .ok (.iload_n 1, 1) := op_iload_n1 (gk (k := 0) (t := 0) ck_S_fewest_0 rfl)
theorem d_S_fewest_1 : decode y_S_fewest.2.1 1 = .ok (.ifCond .lt 9, 3) := op_if_lt (gk (k := 0) (t := 1) ck_S_fewest_0 rfl) (gk (k := 0) (t := 2) ck_S_fewest_0 rfl) (gk (k := 0) (t := 3) ck_S_fewest_0 rfl) (by decide +kernel)
theorem d_S_fewest_10 : decode y_S_fewest.2.1 10 = .ok (.iconst (-1), 1) := op_iconstm1 (gk (k := 0) (t := 10) ck_S_fewest_0 rfl)
theorem d_S_fewest_11 : decode y_S_fewest.2.1 11 = .ok (.ireturn, 1) := op_ireturn (gk (k := 0) (t := 11) ck_S_fewest_0 rfl)
theorem d_S_fewest_4 : decode y_S_fewest.2.1 4 = .ok (.iload_n 1, 1) := op_iload_n1 (gk (k := 0) (t := 4) ck_S_fewest_0 rfl)
theorem d_S_fewest_5 : decode y_S_fewest.2.1 5 = .ok (.bipush 8, 2) := op_bipush (gk (k := 0) (t := 5) ck_S_fewest_0 rfl) (gk (k := 0) (t := 6) ck_S_fewest_0 rfl) rfl
theorem d_S_fewest_7 : decode y_S_fewest.2.1 7 = .ok (.if_icmp .le 5, 3) := op_icmp_le (gk (k := 0) (t := 7) ck_S_fewest_0 rfl) (gk (k := 0) (t := 8) ck_S_fewest_0 rfl) (gk (k := 0) (t := 9) ck_S_fewest_0 rfl) (by decide +kernel)
theorem d_S_fewest_12 : decode y_S_fewest.2.1 12 = .ok (.aload_n 0, 1) := op_aload_n0 (gk (k := 0) (t := 12) ck_S_fewest_0 rfl)
theorem fl_S_53 : FL "SinglesUp" 53 8 7 := ⟨"SinglesUp", zT8, 9, rfl, by decide, rfl, Or.inl (tw_c2 99 (by decide +kernel) rfl)⟩
theorem rc_8_7 : ∀ o, KC[o]? = some (11, 9) → RC o 7 = some (o + 160) ∧ KC[o + 160]? = some (9, 7) := by
  intro o h
  have hl : o < 166 := (List.getElem?_eq_some_iff.mp h).1
  exact (by decide +kernel : ∀ o, o < 166 → KC[o]? = some (11, 9) → RC o 7 = some (o + 160) ∧ KC[o + 160]? = some (9, 7)) o hl h
theorem d_S_fewest_13 : decode y_S_fewest.2.1 13 = .ok (.getfield 53, 3) := op_getfield (gk (k := 0) (t := 13) ck_S_fewest_0 rfl) (gk (k := 0) (t := 14) ck_S_fewest_0 rfl) (gk (k := 0) (t := 15) ck_S_fewest_0 rfl) rfl
theorem d_S_fewest_16 : decode y_S_fewest.2.1 16 = .ok (.aload_n 0, 1) := op_aload_n0 (gk (k := 0) (t := 16) ck_S_fewest_0 rfl)
theorem d_S_fewest_17 : decode y_S_fewest.2.1 17 = .ok (.getfield 12, 3) := op_getfield (gk (k := 0) (t := 17) ck_S_fewest_0 rfl) (gk (k := 0) (t := 18) ck_S_fewest_0 rfl) (gk (k := 0) (t := 19) ck_S_fewest_0 rfl) rfl
theorem d_S_fewest_20 : decode y_S_fewest.2.1 20 = .ok (.getfield 209, 3) := op_getfield (gk (k := 0) (t := 20) ck_S_fewest_0 rfl) (gk (k := 0) (t := 21) ck_S_fewest_0 rfl) (gk (k := 0) (t := 22) ck_S_fewest_0 rfl) rfl
theorem d_S_fewest_23 : decode y_S_fewest.2.1 23 = .ok (.aload_n 0, 1) := op_aload_n0 (gk (k := 0) (t := 23) ck_S_fewest_0 rfl)
theorem d_S_fewest_24 : decode y_S_fewest.2.1 24 = .ok (.getfield 12, 3) := op_getfield (gk (k := 0) (t := 24) ck_S_fewest_0 rfl) (gk (k := 0) (t := 25) ck_S_fewest_0 rfl) (gk (k := 0) (t := 26) ck_S_fewest_0 rfl) rfl
theorem d_S_fewest_27 : decode y_S_fewest.2.1 27 = .ok (.getfield 65, 3) := op_getfield (gk (k := 0) (t := 27) ck_S_fewest_0 rfl) (gk (k := 0) (t := 28) ck_S_fewest_0 rfl) (gk (k := 0) (t := 29) ck_S_fewest_0 rfl) rfl
theorem d_S_fewest_30 : decode y_S_fewest.2.1 30 = .ok (.iconst 0, 1) := op_iconst0 (gk (k := 0) (t := 30) ck_S_fewest_0 rfl)
theorem d_S_fewest_31 : decode y_S_fewest.2.1 31 = .ok (.iaload, 1) := op_iaload (gk (k := 0) (t := 31) ck_S_fewest_0 rfl)
theorem lk_S_212 : LkV "SinglesUp" 212 y_P_pack := ⟨tw_c4 180 (by decide +kernel) rfl, tw_c4 181 (by decide +kernel) rfl, Or.inl (tw_c4 179 (by decide +kernel) rfl)⟩
set_option maxRecDepth 100000 in
theorem mo_P_pack : MOk y_P_pack 2 := ⟨by decide +kernel, tw_c4 182 rfl rfl, tw_c1 10 (by decide +kernel) rfl, by decide +kernel, by decide +kernel, by decide +kernel⟩
theorem ck_S_fewest_1 : (y_S_fewest.2.1.data.toList.drop 32).take 32 = [182, 0, 212, 61, 27, 153, 0, 8, 28, 2, 160, 0, 7, 28, 167, 0, 11, 42, 180, 0, 53, 27, 182, 0, 216, 172] := by decide +kernel
theorem d_S_fewest_32 : decode y_S_fewest.2.1 32 = .ok (.invokevirtual 212, 3) := op_invokevirtual (gk (k := 32) (t := 0) ck_S_fewest_1 rfl) (gk (k := 32) (t := 1) ck_S_fewest_1 rfl) (gk (k := 32) (t := 2) ck_S_fewest_1 rfl) rfl
theorem d_S_fewest_35 : decode y_S_fewest.2.1 35 = .ok (.istore_n 2, 1) := op_istore_n2 (gk (k := 32) (t := 3) ck_S_fewest_1 rfl)
theorem d_S_fewest_36 : decode y_S_fewest.2.1 36 = .ok (.iload_n 1, 1) := op_iload_n1 (gk (k := 32) (t := 4) ck_S_fewest_1 rfl)
theorem d_S_fewest_37 : decode y_S_fewest.2.1 37 = .ok (.ifCond .eq 8, 3) := op_if_eq (gk (k := 32) (t := 5) ck_S_fewest_1 rfl) (gk (k := 32) (t := 6) ck_S_fewest_1 rfl) (gk (k := 32) (t := 7) ck_S_fewest_1 rfl) (by decide +kernel)
theorem d_S_fewest_45 : decode y_S_fewest.2.1 45 = .ok (.iload_n 2, 1) := op_iload_n2 (gk (k := 32) (t := 13) ck_S_fewest_1 rfl)
theorem d_S_fewest_46 : decode y_S_fewest.2.1 46 = .ok (.goto 11, 3) := op_goto (gk (k := 32) (t := 14) ck_S_fewest_1 rfl) (gk (k := 32) (t := 15) ck_S_fewest_1 rfl) (gk (k := 32) (t := 16) ck_S_fewest_1 rfl) (by decide +kernel)
theorem d_S_fewest_57 : decode y_S_fewest.2.1 57 = .ok (.ireturn, 1) := op_ireturn (gk (k := 32) (t := 25) ck_S_fewest_1 rfl)
theorem d_S_fewest_40 : decode y_S_fewest.2.1 40 = .ok (.iload_n 2, 1) := op_iload_n2 (gk (k := 32) (t := 8) ck_S_fewest_1 rfl)
theorem d_S_fewest_41 : decode y_S_fewest.2.1 41 = .ok (.iconst (-1), 1) := op_iconstm1 (gk (k := 32) (t := 9) ck_S_fewest_1 rfl)
theorem d_S_fewest_42 : decode y_S_fewest.2.1 42 = .ok (.if_icmp .ne 7, 3) := op_icmp_ne (gk (k := 32) (t := 10) ck_S_fewest_1 rfl) (gk (k := 32) (t := 11) ck_S_fewest_1 rfl) (gk (k := 32) (t := 12) ck_S_fewest_1 rfl) (by decide +kernel)
theorem d_S_fewest_49 : decode y_S_fewest.2.1 49 = .ok (.aload_n 0, 1) := op_aload_n0 (gk (k := 32) (t := 17) ck_S_fewest_1 rfl)
theorem d_S_fewest_50 : decode y_S_fewest.2.1 50 = .ok (.getfield 53, 3) := op_getfield (gk (k := 32) (t := 18) ck_S_fewest_1 rfl) (gk (k := 32) (t := 19) ck_S_fewest_1 rfl) (gk (k := 32) (t := 20) ck_S_fewest_1 rfl) rfl
theorem d_S_fewest_53 : decode y_S_fewest.2.1 53 = .ok (.iload_n 1, 1) := op_iload_n1 (gk (k := 32) (t := 21) ck_S_fewest_1 rfl)
theorem lk_S_216 : LkV "SinglesUp" 216 y_P_inFirst := ⟨tw_c4 201 (by decide +kernel) rfl, tw_c4 202 (by decide +kernel) rfl, Or.inl (tw_c4 200 (by decide +kernel) rfl)⟩
set_option maxRecDepth 100000 in
theorem mo_P_inFirst : MOk y_P_inFirst 1 := ⟨by decide +kernel, tw_c4 203 rfl rfl, tw_c1 10 (by decide +kernel) rfl, by decide +kernel, by decide +kernel, by decide +kernel⟩
theorem d_S_fewest_54 : decode y_S_fewest.2.1 54 = .ok (.invokevirtual 216, 3) := op_invokevirtual (gk (k := 32) (t := 22) ck_S_fewest_1 rfl) (gk (k := 32) (t := 23) ck_S_fewest_1 rfl) (gk (k := 32) (t := 24) ck_S_fewest_1 rfl) rfl
abbrev y_M_allWait : MI := (⟨"SinglesUp$Mind", "allWait", "(LSinglesUp$Hill;)I"⟩, prog_7_method_4_code, 3, some .int)
theorem ck_M_allWait_0 : (y_M_allWait.2.1.data.toList.drop 0).take 32 = [3, 60, 4, 61, 28, 16, 8, 163, 0, 21, 27, 42, 180, 0, 40, 16, 20, 28, 96, 46, 96, 60, 132, 2, 1, 167, 255, 235, 27, 172] := by decide +kernel
theorem d_M_allWait_0 : decode y_M_allWait.2.1 0 = .ok (.iconst 0, 1) := op_iconst0 (gk (k := 0) (t := 0) ck_M_allWait_0 rfl)
theorem d_M_allWait_1 : decode y_M_allWait.2.1 1 = .ok (.istore_n 1, 1) := op_istore_n1 (gk (k := 0) (t := 1) ck_M_allWait_0 rfl)
theorem d_M_allWait_2 : decode y_M_allWait.2.1 2 = .ok (.iconst 1, 1) := op_iconst1 (gk (k := 0) (t := 2) ck_M_allWait_0 rfl)
theorem d_M_allWait_3 : decode y_M_allWait.2.1 3 = .ok (.istore_n 2, 1) := op_istore_n2 (gk (k := 0) (t := 3) ck_M_allWait_0 rfl)
theorem d_M_allWait_4 : decode y_M_allWait.2.1 4 = .ok (.iload_n 2, 1) := op_iload_n2 (gk (k := 0) (t := 4) ck_M_allWait_0 rfl)
theorem d_M_allWait_5 : decode y_M_allWait.2.1 5 = .ok (.bipush 8, 2) := op_bipush (gk (k := 0) (t := 5) ck_M_allWait_0 rfl) (gk (k := 0) (t := 6) ck_M_allWait_0 rfl) rfl
theorem d_M_allWait_7 : decode y_M_allWait.2.1 7 = .ok (.if_icmp .gt 21, 3) := op_icmp_gt (gk (k := 0) (t := 7) ck_M_allWait_0 rfl) (gk (k := 0) (t := 8) ck_M_allWait_0 rfl) (gk (k := 0) (t := 9) ck_M_allWait_0 rfl) (by decide +kernel)
theorem d_M_allWait_28 : decode y_M_allWait.2.1 28 = .ok (.iload_n 1, 1) := op_iload_n1 (gk (k := 0) (t := 28) ck_M_allWait_0 rfl)
theorem d_M_allWait_29 : decode y_M_allWait.2.1 29 = .ok (.ireturn, 1) := op_ireturn (gk (k := 0) (t := 29) ck_M_allWait_0 rfl)
theorem d_M_allWait_10 : decode y_M_allWait.2.1 10 = .ok (.iload_n 1, 1) := op_iload_n1 (gk (k := 0) (t := 10) ck_M_allWait_0 rfl)
theorem d_M_allWait_11 : decode y_M_allWait.2.1 11 = .ok (.aload_n 0, 1) := op_aload_n0 (gk (k := 0) (t := 11) ck_M_allWait_0 rfl)
theorem fl_M_40 : FL "SinglesUp$Mind" 40 2 8 := ⟨"SinglesUp$Hill", zT2, 14, rfl, by decide, rfl, Or.inr ⟨"SinglesUp", nw_in 107 (by decide +kernel) rfl⟩⟩
theorem d_M_allWait_12 : decode y_M_allWait.2.1 12 = .ok (.getfield 40, 3) := op_getfield (gk (k := 0) (t := 12) ck_M_allWait_0 rfl) (gk (k := 0) (t := 13) ck_M_allWait_0 rfl) (gk (k := 0) (t := 14) ck_M_allWait_0 rfl) rfl
theorem d_M_allWait_15 : decode y_M_allWait.2.1 15 = .ok (.bipush 20, 2) := op_bipush (gk (k := 0) (t := 15) ck_M_allWait_0 rfl) (gk (k := 0) (t := 16) ck_M_allWait_0 rfl) rfl
theorem d_M_allWait_17 : decode y_M_allWait.2.1 17 = .ok (.iload_n 2, 1) := op_iload_n2 (gk (k := 0) (t := 17) ck_M_allWait_0 rfl)
theorem d_M_allWait_18 : decode y_M_allWait.2.1 18 = .ok (.iadd, 1) := op_iadd (gk (k := 0) (t := 18) ck_M_allWait_0 rfl)
theorem d_M_allWait_19 : decode y_M_allWait.2.1 19 = .ok (.iaload, 1) := op_iaload (gk (k := 0) (t := 19) ck_M_allWait_0 rfl)
theorem d_M_allWait_20 : decode y_M_allWait.2.1 20 = .ok (.iadd, 1) := op_iadd (gk (k := 0) (t := 20) ck_M_allWait_0 rfl)
theorem d_M_allWait_21 : decode y_M_allWait.2.1 21 = .ok (.istore_n 1, 1) := op_istore_n1 (gk (k := 0) (t := 21) ck_M_allWait_0 rfl)
theorem d_M_allWait_22 : decode y_M_allWait.2.1 22 = .ok (.iinc 2 1, 3) := op_iinc (gk (k := 0) (t := 22) ck_M_allWait_0 rfl) (gk (k := 0) (t := 23) ck_M_allWait_0 rfl) (gk (k := 0) (t := 24) ck_M_allWait_0 rfl) rfl rfl
theorem d_M_allWait_25 : decode y_M_allWait.2.1 25 = .ok (.goto (-21), 3) := op_goto (gk (k := 0) (t := 25) ck_M_allWait_0 rfl) (gk (k := 0) (t := 26) ck_M_allWait_0 rfl) (gk (k := 0) (t := 27) ck_M_allWait_0 rfl) (by decide +kernel)
abbrev y_M_longest : MI := (⟨"SinglesUp$Mind", "longest", "()I"⟩, prog_7_method_5_code, 3, some .int)
theorem ck_M_longest_0 : (y_M_longest.2.1.data.toList.drop 0).take 32 = [3, 60, 4, 61, 28, 16, 8, 163, 0, 26, 27, 42, 180, 0, 12, 180, 0, 40, 16, 30, 28, 96, 46, 184, 0, 51, 60, 132, 2, 1, 167, 255] := by decide +kernel
theorem d_M_longest_0 : decode y_M_longest.2.1 0 = .ok (.iconst 0, 1) := op_iconst0 (gk (k := 0) (t := 0) ck_M_longest_0 rfl)
theorem d_M_longest_1 : decode y_M_longest.2.1 1 = .ok (.istore_n 1, 1) := op_istore_n1 (gk (k := 0) (t := 1) ck_M_longest_0 rfl)
theorem d_M_longest_2 : decode y_M_longest.2.1 2 = .ok (.iconst 1, 1) := op_iconst1 (gk (k := 0) (t := 2) ck_M_longest_0 rfl)
theorem d_M_longest_3 : decode y_M_longest.2.1 3 = .ok (.istore_n 2, 1) := op_istore_n2 (gk (k := 0) (t := 3) ck_M_longest_0 rfl)
theorem d_M_longest_4 : decode y_M_longest.2.1 4 = .ok (.iload_n 2, 1) := op_iload_n2 (gk (k := 0) (t := 4) ck_M_longest_0 rfl)
theorem d_M_longest_5 : decode y_M_longest.2.1 5 = .ok (.bipush 8, 2) := op_bipush (gk (k := 0) (t := 5) ck_M_longest_0 rfl) (gk (k := 0) (t := 6) ck_M_longest_0 rfl) rfl
theorem d_M_longest_7 : decode y_M_longest.2.1 7 = .ok (.if_icmp .gt 26, 3) := op_icmp_gt (gk (k := 0) (t := 7) ck_M_longest_0 rfl) (gk (k := 0) (t := 8) ck_M_longest_0 rfl) (gk (k := 0) (t := 9) ck_M_longest_0 rfl) (by decide +kernel)
theorem ck_M_longest_1 : (y_M_longest.2.1.data.toList.drop 32).take 32 = [230, 27, 172] := by decide +kernel
theorem d_M_longest_33 : decode y_M_longest.2.1 33 = .ok (.iload_n 1, 1) := op_iload_n1 (gk (k := 32) (t := 1) ck_M_longest_1 rfl)
theorem d_M_longest_34 : decode y_M_longest.2.1 34 = .ok (.ireturn, 1) := op_ireturn (gk (k := 32) (t := 2) ck_M_longest_1 rfl)
theorem d_M_longest_10 : decode y_M_longest.2.1 10 = .ok (.iload_n 1, 1) := op_iload_n1 (gk (k := 0) (t := 10) ck_M_longest_0 rfl)
theorem d_M_longest_11 : decode y_M_longest.2.1 11 = .ok (.aload_n 0, 1) := op_aload_n0 (gk (k := 0) (t := 11) ck_M_longest_0 rfl)
theorem fl_M_12 : FL "SinglesUp$Mind" 12 5 0 := ⟨"SinglesUp$Mind", zT5, 3, rfl, by decide, rfl, Or.inl (tw_c1 200 (by decide +kernel) rfl)⟩
theorem rc_5_0 : ∀ o, KC[o]? = some (8, 3) → RC o 0 = some (o + 1) ∧ KC[o + 1]? = some (5, 14) := by
  intro o h
  have hl : o < 166 := (List.getElem?_eq_some_iff.mp h).1
  exact (by decide +kernel : ∀ o, o < 166 → KC[o]? = some (8, 3) → RC o 0 = some (o + 1) ∧ KC[o + 1]? = some (5, 14)) o hl h
theorem d_M_longest_12 : decode y_M_longest.2.1 12 = .ok (.getfield 12, 3) := op_getfield (gk (k := 0) (t := 12) ck_M_longest_0 rfl) (gk (k := 0) (t := 13) ck_M_longest_0 rfl) (gk (k := 0) (t := 14) ck_M_longest_0 rfl) rfl
theorem d_M_longest_15 : decode y_M_longest.2.1 15 = .ok (.getfield 40, 3) := op_getfield (gk (k := 0) (t := 15) ck_M_longest_0 rfl) (gk (k := 0) (t := 16) ck_M_longest_0 rfl) (gk (k := 0) (t := 17) ck_M_longest_0 rfl) rfl
theorem d_M_longest_18 : decode y_M_longest.2.1 18 = .ok (.bipush 30, 2) := op_bipush (gk (k := 0) (t := 18) ck_M_longest_0 rfl) (gk (k := 0) (t := 19) ck_M_longest_0 rfl) rfl
theorem d_M_longest_20 : decode y_M_longest.2.1 20 = .ok (.iload_n 2, 1) := op_iload_n2 (gk (k := 0) (t := 20) ck_M_longest_0 rfl)
theorem d_M_longest_21 : decode y_M_longest.2.1 21 = .ok (.iadd, 1) := op_iadd (gk (k := 0) (t := 21) ck_M_longest_0 rfl)
theorem d_M_longest_22 : decode y_M_longest.2.1 22 = .ok (.iaload, 1) := op_iaload (gk (k := 0) (t := 22) ck_M_longest_0 rfl)
theorem lk_M_51 : LkS "SinglesUp$Mind" 51 y_JM_max := ⟨tw_c3 26 (by decide +kernel) rfl, Or.inl (tw_c4 234 (by decide +kernel) rfl)⟩
theorem d_M_longest_23 : decode y_M_longest.2.1 23 = .ok (.invokestatic 51, 3) := op_invokestatic (gk (k := 0) (t := 23) ck_M_longest_0 rfl) (gk (k := 0) (t := 24) ck_M_longest_0 rfl) (gk (k := 0) (t := 25) ck_M_longest_0 rfl) rfl
theorem d_M_longest_26 : decode y_M_longest.2.1 26 = .ok (.istore_n 1, 1) := op_istore_n1 (gk (k := 0) (t := 26) ck_M_longest_0 rfl)
theorem d_M_longest_27 : decode y_M_longest.2.1 27 = .ok (.iinc 2 1, 3) := op_iinc (gk (k := 0) (t := 27) ck_M_longest_0 rfl) (gk (k := 0) (t := 28) ck_M_longest_0 rfl) (gk (k := 0) (t := 29) ck_M_longest_0 rfl) rfl rfl
theorem d_M_longest_30 : decode y_M_longest.2.1 30 = .ok (.goto (-26), 3) := op_goto (gk (k := 0) (t := 30) ck_M_longest_0 rfl) (gk (k := 0) (t := 31) ck_M_longest_0 rfl) (gk (k := 32) (t := 0) ck_M_longest_1 rfl) (by decide +kernel)
abbrev y_M_gained : MI := (⟨"SinglesUp$Mind", "gained", "(LSinglesUp$Hill;I)I"⟩, prog_7_method_3_code, 3, some .int)
theorem ck_M_gained_0 : (y_M_gained.2.1.data.toList.drop 0).take 32 = [28, 170, 0, 0, 0, 0, 0, 118, 0, 0, 0, 0, 0, 0, 0, 4, 0, 0, 0, 35, 0, 0, 0, 52, 0, 0, 0, 69, 0, 0, 0, 82] := by decide +kernel
theorem d_M_gained_0 : decode y_M_gained.2.1 0 = .ok (.iload_n 2, 1) := op_iload_n2 (gk (k := 0) (t := 0) ck_M_gained_0 rfl)
theorem d_M_gained_1 : decode y_M_gained.2.1 1 = .ok (.tableswitch 118 0 4 #[35, 52, 69, 82, 101], 35) := by decide +kernel
theorem ck_M_gained_1 : (y_M_gained.2.1.data.toList.drop 32).take 32 = [0, 0, 0, 101, 42, 180, 0, 12, 180, 0, 40, 4, 46, 43, 180, 0, 40, 4, 46, 100, 172, 42, 180, 0, 12, 180, 0, 40, 5, 46, 43, 180] := by decide +kernel
theorem d_M_gained_36 : decode y_M_gained.2.1 36 = .ok (.aload_n 0, 1) := op_aload_n0 (gk (k := 32) (t := 4) ck_M_gained_1 rfl)
theorem d_M_gained_37 : decode y_M_gained.2.1 37 = .ok (.getfield 12, 3) := op_getfield (gk (k := 32) (t := 5) ck_M_gained_1 rfl) (gk (k := 32) (t := 6) ck_M_gained_1 rfl) (gk (k := 32) (t := 7) ck_M_gained_1 rfl) rfl
theorem d_M_gained_40 : decode y_M_gained.2.1 40 = .ok (.getfield 40, 3) := op_getfield (gk (k := 32) (t := 8) ck_M_gained_1 rfl) (gk (k := 32) (t := 9) ck_M_gained_1 rfl) (gk (k := 32) (t := 10) ck_M_gained_1 rfl) rfl
theorem d_M_gained_43 : decode y_M_gained.2.1 43 = .ok (.iconst 1, 1) := op_iconst1 (gk (k := 32) (t := 11) ck_M_gained_1 rfl)
theorem d_M_gained_44 : decode y_M_gained.2.1 44 = .ok (.iaload, 1) := op_iaload (gk (k := 32) (t := 12) ck_M_gained_1 rfl)
theorem d_M_gained_45 : decode y_M_gained.2.1 45 = .ok (.aload_n 1, 1) := op_aload_n1 (gk (k := 32) (t := 13) ck_M_gained_1 rfl)
theorem d_M_gained_46 : decode y_M_gained.2.1 46 = .ok (.getfield 40, 3) := op_getfield (gk (k := 32) (t := 14) ck_M_gained_1 rfl) (gk (k := 32) (t := 15) ck_M_gained_1 rfl) (gk (k := 32) (t := 16) ck_M_gained_1 rfl) rfl
theorem d_M_gained_49 : decode y_M_gained.2.1 49 = .ok (.iconst 1, 1) := op_iconst1 (gk (k := 32) (t := 17) ck_M_gained_1 rfl)
theorem d_M_gained_50 : decode y_M_gained.2.1 50 = .ok (.iaload, 1) := op_iaload (gk (k := 32) (t := 18) ck_M_gained_1 rfl)
theorem d_M_gained_51 : decode y_M_gained.2.1 51 = .ok (.isub, 1) := op_isub (gk (k := 32) (t := 19) ck_M_gained_1 rfl)
theorem d_M_gained_52 : decode y_M_gained.2.1 52 = .ok (.ireturn, 1) := op_ireturn (gk (k := 32) (t := 20) ck_M_gained_1 rfl)
theorem d_M_gained_53 : decode y_M_gained.2.1 53 = .ok (.aload_n 0, 1) := op_aload_n0 (gk (k := 32) (t := 21) ck_M_gained_1 rfl)
theorem d_M_gained_54 : decode y_M_gained.2.1 54 = .ok (.getfield 12, 3) := op_getfield (gk (k := 32) (t := 22) ck_M_gained_1 rfl) (gk (k := 32) (t := 23) ck_M_gained_1 rfl) (gk (k := 32) (t := 24) ck_M_gained_1 rfl) rfl
theorem d_M_gained_57 : decode y_M_gained.2.1 57 = .ok (.getfield 40, 3) := op_getfield (gk (k := 32) (t := 25) ck_M_gained_1 rfl) (gk (k := 32) (t := 26) ck_M_gained_1 rfl) (gk (k := 32) (t := 27) ck_M_gained_1 rfl) rfl
theorem d_M_gained_60 : decode y_M_gained.2.1 60 = .ok (.iconst 2, 1) := op_iconst2 (gk (k := 32) (t := 28) ck_M_gained_1 rfl)
theorem d_M_gained_61 : decode y_M_gained.2.1 61 = .ok (.iaload, 1) := op_iaload (gk (k := 32) (t := 29) ck_M_gained_1 rfl)
theorem d_M_gained_62 : decode y_M_gained.2.1 62 = .ok (.aload_n 1, 1) := op_aload_n1 (gk (k := 32) (t := 30) ck_M_gained_1 rfl)
theorem ck_M_gained_2 : (y_M_gained.2.1.data.toList.drop 64).take 32 = [0, 40, 5, 46, 100, 172, 42, 180, 0, 12, 184, 0, 43, 43, 184, 0, 43, 100, 172, 42, 180, 0, 12, 180, 0, 40, 16, 6, 46, 43, 180, 0] := by decide +kernel
theorem d_M_gained_63 : decode y_M_gained.2.1 63 = .ok (.getfield 40, 3) := op_getfield (gk (k := 32) (t := 31) ck_M_gained_1 rfl) (gk (k := 64) (t := 0) ck_M_gained_2 rfl) (gk (k := 64) (t := 1) ck_M_gained_2 rfl) rfl
theorem d_M_gained_66 : decode y_M_gained.2.1 66 = .ok (.iconst 2, 1) := op_iconst2 (gk (k := 64) (t := 2) ck_M_gained_2 rfl)
theorem d_M_gained_67 : decode y_M_gained.2.1 67 = .ok (.iaload, 1) := op_iaload (gk (k := 64) (t := 3) ck_M_gained_2 rfl)
theorem d_M_gained_68 : decode y_M_gained.2.1 68 = .ok (.isub, 1) := op_isub (gk (k := 64) (t := 4) ck_M_gained_2 rfl)
theorem d_M_gained_69 : decode y_M_gained.2.1 69 = .ok (.ireturn, 1) := op_ireturn (gk (k := 64) (t := 5) ck_M_gained_2 rfl)
theorem d_M_gained_70 : decode y_M_gained.2.1 70 = .ok (.aload_n 0, 1) := op_aload_n0 (gk (k := 64) (t := 6) ck_M_gained_2 rfl)
theorem d_M_gained_71 : decode y_M_gained.2.1 71 = .ok (.getfield 12, 3) := op_getfield (gk (k := 64) (t := 7) ck_M_gained_2 rfl) (gk (k := 64) (t := 8) ck_M_gained_2 rfl) (gk (k := 64) (t := 9) ck_M_gained_2 rfl) rfl
theorem lk_M_43 : LkS "SinglesUp$Mind" 43 y_M_allWait := ⟨tw_c4 228 (by decide +kernel) rfl, Or.inl (tw_c4 227 (by decide +kernel) rfl)⟩
set_option maxRecDepth 100000 in
theorem mo_M_allWait : MOk y_M_allWait 1 := ⟨by decide +kernel, tw_c4 229 rfl rfl, tw_c1 6 (by decide +kernel) rfl, by decide +kernel, by decide +kernel, by decide +kernel⟩
theorem d_M_gained_74 : decode y_M_gained.2.1 74 = .ok (.invokestatic 43, 3) := op_invokestatic (gk (k := 64) (t := 10) ck_M_gained_2 rfl) (gk (k := 64) (t := 11) ck_M_gained_2 rfl) (gk (k := 64) (t := 12) ck_M_gained_2 rfl) rfl
theorem d_M_gained_77 : decode y_M_gained.2.1 77 = .ok (.aload_n 1, 1) := op_aload_n1 (gk (k := 64) (t := 13) ck_M_gained_2 rfl)
theorem d_M_gained_78 : decode y_M_gained.2.1 78 = .ok (.invokestatic 43, 3) := op_invokestatic (gk (k := 64) (t := 14) ck_M_gained_2 rfl) (gk (k := 64) (t := 15) ck_M_gained_2 rfl) (gk (k := 64) (t := 16) ck_M_gained_2 rfl) rfl
theorem d_M_gained_81 : decode y_M_gained.2.1 81 = .ok (.isub, 1) := op_isub (gk (k := 64) (t := 17) ck_M_gained_2 rfl)
theorem d_M_gained_82 : decode y_M_gained.2.1 82 = .ok (.ireturn, 1) := op_ireturn (gk (k := 64) (t := 18) ck_M_gained_2 rfl)
theorem d_M_gained_83 : decode y_M_gained.2.1 83 = .ok (.aload_n 0, 1) := op_aload_n0 (gk (k := 64) (t := 19) ck_M_gained_2 rfl)
theorem d_M_gained_84 : decode y_M_gained.2.1 84 = .ok (.getfield 12, 3) := op_getfield (gk (k := 64) (t := 20) ck_M_gained_2 rfl) (gk (k := 64) (t := 21) ck_M_gained_2 rfl) (gk (k := 64) (t := 22) ck_M_gained_2 rfl) rfl
theorem d_M_gained_87 : decode y_M_gained.2.1 87 = .ok (.getfield 40, 3) := op_getfield (gk (k := 64) (t := 23) ck_M_gained_2 rfl) (gk (k := 64) (t := 24) ck_M_gained_2 rfl) (gk (k := 64) (t := 25) ck_M_gained_2 rfl) rfl
theorem d_M_gained_90 : decode y_M_gained.2.1 90 = .ok (.bipush 6, 2) := op_bipush (gk (k := 64) (t := 26) ck_M_gained_2 rfl) (gk (k := 64) (t := 27) ck_M_gained_2 rfl) rfl
theorem d_M_gained_92 : decode y_M_gained.2.1 92 = .ok (.iaload, 1) := op_iaload (gk (k := 64) (t := 28) ck_M_gained_2 rfl)
theorem d_M_gained_93 : decode y_M_gained.2.1 93 = .ok (.aload_n 1, 1) := op_aload_n1 (gk (k := 64) (t := 29) ck_M_gained_2 rfl)
theorem ck_M_gained_3 : (y_M_gained.2.1.data.toList.drop 96).take 32 = [40, 16, 6, 46, 100, 172, 42, 180, 0, 12, 180, 0, 40, 8, 46, 43, 180, 0, 40, 8, 46, 100, 172, 42, 182, 0, 47, 172] := by decide +kernel
theorem d_M_gained_94 : decode y_M_gained.2.1 94 = .ok (.getfield 40, 3) := op_getfield (gk (k := 64) (t := 30) ck_M_gained_2 rfl) (gk (k := 64) (t := 31) ck_M_gained_2 rfl) (gk (k := 96) (t := 0) ck_M_gained_3 rfl) rfl
theorem d_M_gained_97 : decode y_M_gained.2.1 97 = .ok (.bipush 6, 2) := op_bipush (gk (k := 96) (t := 1) ck_M_gained_3 rfl) (gk (k := 96) (t := 2) ck_M_gained_3 rfl) rfl
theorem d_M_gained_99 : decode y_M_gained.2.1 99 = .ok (.iaload, 1) := op_iaload (gk (k := 96) (t := 3) ck_M_gained_3 rfl)
theorem d_M_gained_100 : decode y_M_gained.2.1 100 = .ok (.isub, 1) := op_isub (gk (k := 96) (t := 4) ck_M_gained_3 rfl)
theorem d_M_gained_101 : decode y_M_gained.2.1 101 = .ok (.ireturn, 1) := op_ireturn (gk (k := 96) (t := 5) ck_M_gained_3 rfl)
theorem d_M_gained_102 : decode y_M_gained.2.1 102 = .ok (.aload_n 0, 1) := op_aload_n0 (gk (k := 96) (t := 6) ck_M_gained_3 rfl)
theorem d_M_gained_103 : decode y_M_gained.2.1 103 = .ok (.getfield 12, 3) := op_getfield (gk (k := 96) (t := 7) ck_M_gained_3 rfl) (gk (k := 96) (t := 8) ck_M_gained_3 rfl) (gk (k := 96) (t := 9) ck_M_gained_3 rfl) rfl
theorem d_M_gained_106 : decode y_M_gained.2.1 106 = .ok (.getfield 40, 3) := op_getfield (gk (k := 96) (t := 10) ck_M_gained_3 rfl) (gk (k := 96) (t := 11) ck_M_gained_3 rfl) (gk (k := 96) (t := 12) ck_M_gained_3 rfl) rfl
theorem d_M_gained_109 : decode y_M_gained.2.1 109 = .ok (.iconst 5, 1) := op_iconst5 (gk (k := 96) (t := 13) ck_M_gained_3 rfl)
theorem d_M_gained_110 : decode y_M_gained.2.1 110 = .ok (.iaload, 1) := op_iaload (gk (k := 96) (t := 14) ck_M_gained_3 rfl)
theorem d_M_gained_111 : decode y_M_gained.2.1 111 = .ok (.aload_n 1, 1) := op_aload_n1 (gk (k := 96) (t := 15) ck_M_gained_3 rfl)
theorem d_M_gained_112 : decode y_M_gained.2.1 112 = .ok (.getfield 40, 3) := op_getfield (gk (k := 96) (t := 16) ck_M_gained_3 rfl) (gk (k := 96) (t := 17) ck_M_gained_3 rfl) (gk (k := 96) (t := 18) ck_M_gained_3 rfl) rfl
theorem d_M_gained_115 : decode y_M_gained.2.1 115 = .ok (.iconst 5, 1) := op_iconst5 (gk (k := 96) (t := 19) ck_M_gained_3 rfl)
theorem d_M_gained_116 : decode y_M_gained.2.1 116 = .ok (.iaload, 1) := op_iaload (gk (k := 96) (t := 20) ck_M_gained_3 rfl)
theorem d_M_gained_117 : decode y_M_gained.2.1 117 = .ok (.isub, 1) := op_isub (gk (k := 96) (t := 21) ck_M_gained_3 rfl)
theorem d_M_gained_118 : decode y_M_gained.2.1 118 = .ok (.ireturn, 1) := op_ireturn (gk (k := 96) (t := 22) ck_M_gained_3 rfl)
theorem d_M_gained_119 : decode y_M_gained.2.1 119 = .ok (.aload_n 0, 1) := op_aload_n0 (gk (k := 96) (t := 23) ck_M_gained_3 rfl)
theorem lk_M_47 : LkV "SinglesUp$Mind" 47 y_M_longest := ⟨tw_c4 232 (by decide +kernel) rfl, tw_in 37 (by decide +kernel) rfl, Or.inl (tw_c4 230 (by decide +kernel) rfl)⟩
set_option maxRecDepth 100000 in
theorem mo_M_longest : MOk y_M_longest 0 := ⟨by decide +kernel, tw_c4 233 rfl rfl, tw_c1 6 (by decide +kernel) rfl, by decide +kernel, by decide +kernel, by decide +kernel⟩
theorem d_M_gained_120 : decode y_M_gained.2.1 120 = .ok (.invokevirtual 47, 3) := op_invokevirtual (gk (k := 96) (t := 24) ck_M_gained_3 rfl) (gk (k := 96) (t := 25) ck_M_gained_3 rfl) (gk (k := 96) (t := 26) ck_M_gained_3 rfl) rfl
theorem d_M_gained_123 : decode y_M_gained.2.1 123 = .ok (.ireturn, 1) := op_ireturn (gk (k := 96) (t := 27) ck_M_gained_3 rfl)
abbrev y_L_copyFrom : MI := (⟨"SinglesUp$Lines", "copyFrom", "(LSinglesUp$Lines;)V"⟩, prog_6_method_2_code, 2, none)
theorem ck_L_copyFrom_0 : (y_L_copyFrom.2.1.data.toList.drop 0).take 32 = [43, 180, 0, 9, 3, 42, 180, 0, 9, 3, 42, 180, 0, 9, 190, 184, 0, 27, 43, 180, 0, 15, 3, 42, 180, 0, 15, 3, 16, 6, 184, 0] := by decide +kernel
theorem d_L_copyFrom_0 : decode y_L_copyFrom.2.1 0 = .ok (.aload_n 1, 1) := op_aload_n1 (gk (k := 0) (t := 0) ck_L_copyFrom_0 rfl)
theorem d_L_copyFrom_1 : decode y_L_copyFrom.2.1 1 = .ok (.getfield 9, 3) := op_getfield (gk (k := 0) (t := 1) ck_L_copyFrom_0 rfl) (gk (k := 0) (t := 2) ck_L_copyFrom_0 rfl) (gk (k := 0) (t := 3) ck_L_copyFrom_0 rfl) rfl
theorem d_L_copyFrom_4 : decode y_L_copyFrom.2.1 4 = .ok (.iconst 0, 1) := op_iconst0 (gk (k := 0) (t := 4) ck_L_copyFrom_0 rfl)
theorem d_L_copyFrom_5 : decode y_L_copyFrom.2.1 5 = .ok (.aload_n 0, 1) := op_aload_n0 (gk (k := 0) (t := 5) ck_L_copyFrom_0 rfl)
theorem d_L_copyFrom_6 : decode y_L_copyFrom.2.1 6 = .ok (.getfield 9, 3) := op_getfield (gk (k := 0) (t := 6) ck_L_copyFrom_0 rfl) (gk (k := 0) (t := 7) ck_L_copyFrom_0 rfl) (gk (k := 0) (t := 8) ck_L_copyFrom_0 rfl) rfl
theorem d_L_copyFrom_9 : decode y_L_copyFrom.2.1 9 = .ok (.iconst 0, 1) := op_iconst0 (gk (k := 0) (t := 9) ck_L_copyFrom_0 rfl)
theorem d_L_copyFrom_10 : decode y_L_copyFrom.2.1 10 = .ok (.aload_n 0, 1) := op_aload_n0 (gk (k := 0) (t := 10) ck_L_copyFrom_0 rfl)
theorem d_L_copyFrom_11 : decode y_L_copyFrom.2.1 11 = .ok (.getfield 9, 3) := op_getfield (gk (k := 0) (t := 11) ck_L_copyFrom_0 rfl) (gk (k := 0) (t := 12) ck_L_copyFrom_0 rfl) (gk (k := 0) (t := 13) ck_L_copyFrom_0 rfl) rfl
theorem d_L_copyFrom_14 : decode y_L_copyFrom.2.1 14 = .ok (.arraylength, 1) := op_arraylength (gk (k := 0) (t := 14) ck_L_copyFrom_0 rfl)
theorem d_L_copyFrom_15 : decode y_L_copyFrom.2.1 15 = .ok (.invokestatic 27, 3) := op_invokestatic (gk (k := 0) (t := 15) ck_L_copyFrom_0 rfl) (gk (k := 0) (t := 16) ck_L_copyFrom_0 rfl) (gk (k := 0) (t := 17) ck_L_copyFrom_0 rfl) rfl
theorem d_L_copyFrom_18 : decode y_L_copyFrom.2.1 18 = .ok (.aload_n 1, 1) := op_aload_n1 (gk (k := 0) (t := 18) ck_L_copyFrom_0 rfl)
theorem d_L_copyFrom_19 : decode y_L_copyFrom.2.1 19 = .ok (.getfield 15, 3) := op_getfield (gk (k := 0) (t := 19) ck_L_copyFrom_0 rfl) (gk (k := 0) (t := 20) ck_L_copyFrom_0 rfl) (gk (k := 0) (t := 21) ck_L_copyFrom_0 rfl) rfl
theorem d_L_copyFrom_22 : decode y_L_copyFrom.2.1 22 = .ok (.iconst 0, 1) := op_iconst0 (gk (k := 0) (t := 22) ck_L_copyFrom_0 rfl)
theorem d_L_copyFrom_23 : decode y_L_copyFrom.2.1 23 = .ok (.aload_n 0, 1) := op_aload_n0 (gk (k := 0) (t := 23) ck_L_copyFrom_0 rfl)
theorem d_L_copyFrom_24 : decode y_L_copyFrom.2.1 24 = .ok (.getfield 15, 3) := op_getfield (gk (k := 0) (t := 24) ck_L_copyFrom_0 rfl) (gk (k := 0) (t := 25) ck_L_copyFrom_0 rfl) (gk (k := 0) (t := 26) ck_L_copyFrom_0 rfl) rfl
theorem d_L_copyFrom_27 : decode y_L_copyFrom.2.1 27 = .ok (.iconst 0, 1) := op_iconst0 (gk (k := 0) (t := 27) ck_L_copyFrom_0 rfl)
theorem d_L_copyFrom_28 : decode y_L_copyFrom.2.1 28 = .ok (.bipush 6, 2) := op_bipush (gk (k := 0) (t := 28) ck_L_copyFrom_0 rfl) (gk (k := 0) (t := 29) ck_L_copyFrom_0 rfl) rfl
theorem ck_L_copyFrom_1 : (y_L_copyFrom.2.1.data.toList.drop 32).take 32 = [27, 43, 180, 0, 18, 3, 42, 180, 0, 18, 3, 16, 6, 184, 0, 27, 177] := by decide +kernel
theorem d_L_copyFrom_30 : decode y_L_copyFrom.2.1 30 = .ok (.invokestatic 27, 3) := op_invokestatic (gk (k := 0) (t := 30) ck_L_copyFrom_0 rfl) (gk (k := 0) (t := 31) ck_L_copyFrom_0 rfl) (gk (k := 32) (t := 0) ck_L_copyFrom_1 rfl) rfl
theorem d_L_copyFrom_33 : decode y_L_copyFrom.2.1 33 = .ok (.aload_n 1, 1) := op_aload_n1 (gk (k := 32) (t := 1) ck_L_copyFrom_1 rfl)
theorem d_L_copyFrom_34 : decode y_L_copyFrom.2.1 34 = .ok (.getfield 18, 3) := op_getfield (gk (k := 32) (t := 2) ck_L_copyFrom_1 rfl) (gk (k := 32) (t := 3) ck_L_copyFrom_1 rfl) (gk (k := 32) (t := 4) ck_L_copyFrom_1 rfl) rfl
theorem d_L_copyFrom_37 : decode y_L_copyFrom.2.1 37 = .ok (.iconst 0, 1) := op_iconst0 (gk (k := 32) (t := 5) ck_L_copyFrom_1 rfl)
theorem d_L_copyFrom_38 : decode y_L_copyFrom.2.1 38 = .ok (.aload_n 0, 1) := op_aload_n0 (gk (k := 32) (t := 6) ck_L_copyFrom_1 rfl)
theorem d_L_copyFrom_39 : decode y_L_copyFrom.2.1 39 = .ok (.getfield 18, 3) := op_getfield (gk (k := 32) (t := 7) ck_L_copyFrom_1 rfl) (gk (k := 32) (t := 8) ck_L_copyFrom_1 rfl) (gk (k := 32) (t := 9) ck_L_copyFrom_1 rfl) rfl
theorem d_L_copyFrom_42 : decode y_L_copyFrom.2.1 42 = .ok (.iconst 0, 1) := op_iconst0 (gk (k := 32) (t := 10) ck_L_copyFrom_1 rfl)
theorem d_L_copyFrom_43 : decode y_L_copyFrom.2.1 43 = .ok (.bipush 6, 2) := op_bipush (gk (k := 32) (t := 11) ck_L_copyFrom_1 rfl) (gk (k := 32) (t := 12) ck_L_copyFrom_1 rfl) rfl
theorem d_L_copyFrom_45 : decode y_L_copyFrom.2.1 45 = .ok (.invokestatic 27, 3) := op_invokestatic (gk (k := 32) (t := 13) ck_L_copyFrom_1 rfl) (gk (k := 32) (t := 14) ck_L_copyFrom_1 rfl) (gk (k := 32) (t := 15) ck_L_copyFrom_1 rfl) rfl
theorem d_L_copyFrom_48 : decode y_L_copyFrom.2.1 48 = .ok (.return_, 1) := op_return_ (gk (k := 32) (t := 16) ck_L_copyFrom_1 rfl)
abbrev y_H_copyFrom : MI := (⟨"SinglesUp$Hill", "copyFrom", "(LSinglesUp$Hill;)V"⟩, prog_4_method_2_code, 3, none)
theorem ck_H_copyFrom_0 : (y_H_copyFrom.2.1.data.toList.drop 0).take 32 = [3, 61, 28, 42, 180, 0, 17, 190, 162, 0, 33, 28, 43, 180, 0, 17, 190, 162, 0, 24, 42, 180, 0, 17, 28, 50, 43, 180, 0, 17, 28, 50] := by decide +kernel
theorem d_H_copyFrom_0 : decode y_H_copyFrom.2.1 0 = .ok (.iconst 0, 1) := op_iconst0 (gk (k := 0) (t := 0) ck_H_copyFrom_0 rfl)
theorem d_H_copyFrom_1 : decode y_H_copyFrom.2.1 1 = .ok (.istore_n 2, 1) := op_istore_n2 (gk (k := 0) (t := 1) ck_H_copyFrom_0 rfl)
theorem d_H_copyFrom_2 : decode y_H_copyFrom.2.1 2 = .ok (.iload_n 2, 1) := op_iload_n2 (gk (k := 0) (t := 2) ck_H_copyFrom_0 rfl)
theorem d_H_copyFrom_3 : decode y_H_copyFrom.2.1 3 = .ok (.aload_n 0, 1) := op_aload_n0 (gk (k := 0) (t := 3) ck_H_copyFrom_0 rfl)
theorem d_H_copyFrom_4 : decode y_H_copyFrom.2.1 4 = .ok (.getfield 17, 3) := op_getfield (gk (k := 0) (t := 4) ck_H_copyFrom_0 rfl) (gk (k := 0) (t := 5) ck_H_copyFrom_0 rfl) (gk (k := 0) (t := 6) ck_H_copyFrom_0 rfl) rfl
theorem d_H_copyFrom_7 : decode y_H_copyFrom.2.1 7 = .ok (.arraylength, 1) := op_arraylength (gk (k := 0) (t := 7) ck_H_copyFrom_0 rfl)
theorem d_H_copyFrom_8 : decode y_H_copyFrom.2.1 8 = .ok (.if_icmp .ge 33, 3) := op_icmp_ge (gk (k := 0) (t := 8) ck_H_copyFrom_0 rfl) (gk (k := 0) (t := 9) ck_H_copyFrom_0 rfl) (gk (k := 0) (t := 10) ck_H_copyFrom_0 rfl) (by decide +kernel)
theorem d_H_copyFrom_11 : decode y_H_copyFrom.2.1 11 = .ok (.iload_n 2, 1) := op_iload_n2 (gk (k := 0) (t := 11) ck_H_copyFrom_0 rfl)
theorem d_H_copyFrom_12 : decode y_H_copyFrom.2.1 12 = .ok (.aload_n 1, 1) := op_aload_n1 (gk (k := 0) (t := 12) ck_H_copyFrom_0 rfl)
theorem d_H_copyFrom_13 : decode y_H_copyFrom.2.1 13 = .ok (.getfield 17, 3) := op_getfield (gk (k := 0) (t := 13) ck_H_copyFrom_0 rfl) (gk (k := 0) (t := 14) ck_H_copyFrom_0 rfl) (gk (k := 0) (t := 15) ck_H_copyFrom_0 rfl) rfl
theorem d_H_copyFrom_16 : decode y_H_copyFrom.2.1 16 = .ok (.arraylength, 1) := op_arraylength (gk (k := 0) (t := 16) ck_H_copyFrom_0 rfl)
theorem d_H_copyFrom_17 : decode y_H_copyFrom.2.1 17 = .ok (.if_icmp .ge 24, 3) := op_icmp_ge (gk (k := 0) (t := 17) ck_H_copyFrom_0 rfl) (gk (k := 0) (t := 18) ck_H_copyFrom_0 rfl) (gk (k := 0) (t := 19) ck_H_copyFrom_0 rfl) (by decide +kernel)
theorem d_H_copyFrom_20 : decode y_H_copyFrom.2.1 20 = .ok (.aload_n 0, 1) := op_aload_n0 (gk (k := 0) (t := 20) ck_H_copyFrom_0 rfl)
theorem d_H_copyFrom_21 : decode y_H_copyFrom.2.1 21 = .ok (.getfield 17, 3) := op_getfield (gk (k := 0) (t := 21) ck_H_copyFrom_0 rfl) (gk (k := 0) (t := 22) ck_H_copyFrom_0 rfl) (gk (k := 0) (t := 23) ck_H_copyFrom_0 rfl) rfl
theorem d_H_copyFrom_24 : decode y_H_copyFrom.2.1 24 = .ok (.iload_n 2, 1) := op_iload_n2 (gk (k := 0) (t := 24) ck_H_copyFrom_0 rfl)
theorem d_H_copyFrom_25 : decode y_H_copyFrom.2.1 25 = .ok (.aaload, 1) := op_aaload (gk (k := 0) (t := 25) ck_H_copyFrom_0 rfl)
theorem d_H_copyFrom_26 : decode y_H_copyFrom.2.1 26 = .ok (.aload_n 1, 1) := op_aload_n1 (gk (k := 0) (t := 26) ck_H_copyFrom_0 rfl)
theorem d_H_copyFrom_27 : decode y_H_copyFrom.2.1 27 = .ok (.getfield 17, 3) := op_getfield (gk (k := 0) (t := 27) ck_H_copyFrom_0 rfl) (gk (k := 0) (t := 28) ck_H_copyFrom_0 rfl) (gk (k := 0) (t := 29) ck_H_copyFrom_0 rfl) rfl
theorem d_H_copyFrom_30 : decode y_H_copyFrom.2.1 30 = .ok (.iload_n 2, 1) := op_iload_n2 (gk (k := 0) (t := 30) ck_H_copyFrom_0 rfl)
theorem d_H_copyFrom_31 : decode y_H_copyFrom.2.1 31 = .ok (.aaload, 1) := op_aaload (gk (k := 0) (t := 31) ck_H_copyFrom_0 rfl)
theorem lk_H_57 : LkV "SinglesUp$Hill" 57 y_W_copyFrom := ⟨tw_c3 148 (by decide +kernel) rfl, tw_c3 149 (by decide +kernel) rfl, Or.inl (tw_c4 216 (by decide +kernel) rfl)⟩
theorem ck_H_copyFrom_1 : (y_H_copyFrom.2.1.data.toList.drop 32).take 32 = [182, 0, 57, 132, 2, 1, 167, 255, 220, 42, 180, 0, 33, 43, 180, 0, 33, 182, 0, 61, 43, 180, 0, 9, 3, 42, 180, 0, 9, 3, 42, 180] := by decide +kernel
theorem d_H_copyFrom_32 : decode y_H_copyFrom.2.1 32 = .ok (.invokevirtual 57, 3) := op_invokevirtual (gk (k := 32) (t := 0) ck_H_copyFrom_1 rfl) (gk (k := 32) (t := 1) ck_H_copyFrom_1 rfl) (gk (k := 32) (t := 2) ck_H_copyFrom_1 rfl) rfl
theorem d_H_copyFrom_35 : decode y_H_copyFrom.2.1 35 = .ok (.iinc 2 1, 3) := op_iinc (gk (k := 32) (t := 3) ck_H_copyFrom_1 rfl) (gk (k := 32) (t := 4) ck_H_copyFrom_1 rfl) (gk (k := 32) (t := 5) ck_H_copyFrom_1 rfl) rfl rfl
theorem d_H_copyFrom_38 : decode y_H_copyFrom.2.1 38 = .ok (.goto (-36), 3) := op_goto (gk (k := 32) (t := 6) ck_H_copyFrom_1 rfl) (gk (k := 32) (t := 7) ck_H_copyFrom_1 rfl) (gk (k := 32) (t := 8) ck_H_copyFrom_1 rfl) (by decide +kernel)
theorem d_H_copyFrom_41 : decode y_H_copyFrom.2.1 41 = .ok (.aload_n 0, 1) := op_aload_n0 (gk (k := 32) (t := 9) ck_H_copyFrom_1 rfl)
theorem d_H_copyFrom_42 : decode y_H_copyFrom.2.1 42 = .ok (.getfield 33, 3) := op_getfield (gk (k := 32) (t := 10) ck_H_copyFrom_1 rfl) (gk (k := 32) (t := 11) ck_H_copyFrom_1 rfl) (gk (k := 32) (t := 12) ck_H_copyFrom_1 rfl) rfl
theorem d_H_copyFrom_45 : decode y_H_copyFrom.2.1 45 = .ok (.aload_n 1, 1) := op_aload_n1 (gk (k := 32) (t := 13) ck_H_copyFrom_1 rfl)
theorem d_H_copyFrom_46 : decode y_H_copyFrom.2.1 46 = .ok (.getfield 33, 3) := op_getfield (gk (k := 32) (t := 14) ck_H_copyFrom_1 rfl) (gk (k := 32) (t := 15) ck_H_copyFrom_1 rfl) (gk (k := 32) (t := 16) ck_H_copyFrom_1 rfl) rfl
theorem lk_H_61 : LkV "SinglesUp$Hill" 61 y_L_copyFrom := ⟨tw_c4 218 (by decide +kernel) rfl, tw_c4 219 (by decide +kernel) rfl, Or.inl (tw_c4 217 (by decide +kernel) rfl)⟩
set_option maxRecDepth 100000 in
theorem mo_L_copyFrom : MOk y_L_copyFrom 1 := ⟨by decide +kernel, tw_c4 220 rfl rfl, tw_c1 3 (by decide +kernel) rfl, by decide +kernel, by decide +kernel, by decide +kernel⟩
theorem d_H_copyFrom_49 : decode y_H_copyFrom.2.1 49 = .ok (.invokevirtual 61, 3) := op_invokevirtual (gk (k := 32) (t := 17) ck_H_copyFrom_1 rfl) (gk (k := 32) (t := 18) ck_H_copyFrom_1 rfl) (gk (k := 32) (t := 19) ck_H_copyFrom_1 rfl) rfl
theorem d_H_copyFrom_52 : decode y_H_copyFrom.2.1 52 = .ok (.aload_n 1, 1) := op_aload_n1 (gk (k := 32) (t := 20) ck_H_copyFrom_1 rfl)
theorem d_H_copyFrom_53 : decode y_H_copyFrom.2.1 53 = .ok (.getfield 9, 3) := op_getfield (gk (k := 32) (t := 21) ck_H_copyFrom_1 rfl) (gk (k := 32) (t := 22) ck_H_copyFrom_1 rfl) (gk (k := 32) (t := 23) ck_H_copyFrom_1 rfl) rfl
theorem d_H_copyFrom_56 : decode y_H_copyFrom.2.1 56 = .ok (.iconst 0, 1) := op_iconst0 (gk (k := 32) (t := 24) ck_H_copyFrom_1 rfl)
theorem d_H_copyFrom_57 : decode y_H_copyFrom.2.1 57 = .ok (.aload_n 0, 1) := op_aload_n0 (gk (k := 32) (t := 25) ck_H_copyFrom_1 rfl)
theorem d_H_copyFrom_58 : decode y_H_copyFrom.2.1 58 = .ok (.getfield 9, 3) := op_getfield (gk (k := 32) (t := 26) ck_H_copyFrom_1 rfl) (gk (k := 32) (t := 27) ck_H_copyFrom_1 rfl) (gk (k := 32) (t := 28) ck_H_copyFrom_1 rfl) rfl
theorem d_H_copyFrom_61 : decode y_H_copyFrom.2.1 61 = .ok (.iconst 0, 1) := op_iconst0 (gk (k := 32) (t := 29) ck_H_copyFrom_1 rfl)
theorem d_H_copyFrom_62 : decode y_H_copyFrom.2.1 62 = .ok (.aload_n 0, 1) := op_aload_n0 (gk (k := 32) (t := 30) ck_H_copyFrom_1 rfl)
theorem ck_H_copyFrom_2 : (y_H_copyFrom.2.1.data.toList.drop 64).take 32 = [0, 9, 190, 184, 0, 64, 43, 180, 0, 21, 3, 42, 180, 0, 21, 3, 42, 180, 0, 21, 190, 184, 0, 64, 43, 180, 0, 24, 3, 42, 180, 0] := by decide +kernel
theorem d_H_copyFrom_63 : decode y_H_copyFrom.2.1 63 = .ok (.getfield 9, 3) := op_getfield (gk (k := 32) (t := 31) ck_H_copyFrom_1 rfl) (gk (k := 64) (t := 0) ck_H_copyFrom_2 rfl) (gk (k := 64) (t := 1) ck_H_copyFrom_2 rfl) rfl
theorem d_H_copyFrom_66 : decode y_H_copyFrom.2.1 66 = .ok (.arraylength, 1) := op_arraylength (gk (k := 64) (t := 2) ck_H_copyFrom_2 rfl)
theorem lka_H_64 : Cond.methodLink "SinglesUp$Hill" 64 arraycopyName ∈ TW := tw_c4 221 (by decide +kernel) rfl
theorem d_H_copyFrom_67 : decode y_H_copyFrom.2.1 67 = .ok (.invokestatic 64, 3) := op_invokestatic (gk (k := 64) (t := 3) ck_H_copyFrom_2 rfl) (gk (k := 64) (t := 4) ck_H_copyFrom_2 rfl) (gk (k := 64) (t := 5) ck_H_copyFrom_2 rfl) rfl
theorem d_H_copyFrom_70 : decode y_H_copyFrom.2.1 70 = .ok (.aload_n 1, 1) := op_aload_n1 (gk (k := 64) (t := 6) ck_H_copyFrom_2 rfl)
theorem fl_H_21 : FL "SinglesUp$Hill" 21 2 2 := ⟨"SinglesUp$Hill", zT2, 14, rfl, by decide, rfl, Or.inl (tw_c1 91 (by decide +kernel) rfl)⟩
theorem d_H_copyFrom_71 : decode y_H_copyFrom.2.1 71 = .ok (.getfield 21, 3) := op_getfield (gk (k := 64) (t := 7) ck_H_copyFrom_2 rfl) (gk (k := 64) (t := 8) ck_H_copyFrom_2 rfl) (gk (k := 64) (t := 9) ck_H_copyFrom_2 rfl) rfl
theorem d_H_copyFrom_74 : decode y_H_copyFrom.2.1 74 = .ok (.iconst 0, 1) := op_iconst0 (gk (k := 64) (t := 10) ck_H_copyFrom_2 rfl)
theorem d_H_copyFrom_75 : decode y_H_copyFrom.2.1 75 = .ok (.aload_n 0, 1) := op_aload_n0 (gk (k := 64) (t := 11) ck_H_copyFrom_2 rfl)
theorem d_H_copyFrom_76 : decode y_H_copyFrom.2.1 76 = .ok (.getfield 21, 3) := op_getfield (gk (k := 64) (t := 12) ck_H_copyFrom_2 rfl) (gk (k := 64) (t := 13) ck_H_copyFrom_2 rfl) (gk (k := 64) (t := 14) ck_H_copyFrom_2 rfl) rfl
theorem d_H_copyFrom_79 : decode y_H_copyFrom.2.1 79 = .ok (.iconst 0, 1) := op_iconst0 (gk (k := 64) (t := 15) ck_H_copyFrom_2 rfl)
theorem d_H_copyFrom_80 : decode y_H_copyFrom.2.1 80 = .ok (.aload_n 0, 1) := op_aload_n0 (gk (k := 64) (t := 16) ck_H_copyFrom_2 rfl)
theorem d_H_copyFrom_81 : decode y_H_copyFrom.2.1 81 = .ok (.getfield 21, 3) := op_getfield (gk (k := 64) (t := 17) ck_H_copyFrom_2 rfl) (gk (k := 64) (t := 18) ck_H_copyFrom_2 rfl) (gk (k := 64) (t := 19) ck_H_copyFrom_2 rfl) rfl
theorem d_H_copyFrom_84 : decode y_H_copyFrom.2.1 84 = .ok (.arraylength, 1) := op_arraylength (gk (k := 64) (t := 20) ck_H_copyFrom_2 rfl)
theorem d_H_copyFrom_85 : decode y_H_copyFrom.2.1 85 = .ok (.invokestatic 64, 3) := op_invokestatic (gk (k := 64) (t := 21) ck_H_copyFrom_2 rfl) (gk (k := 64) (t := 22) ck_H_copyFrom_2 rfl) (gk (k := 64) (t := 23) ck_H_copyFrom_2 rfl) rfl
theorem d_H_copyFrom_88 : decode y_H_copyFrom.2.1 88 = .ok (.aload_n 1, 1) := op_aload_n1 (gk (k := 64) (t := 24) ck_H_copyFrom_2 rfl)
theorem d_H_copyFrom_89 : decode y_H_copyFrom.2.1 89 = .ok (.getfield 24, 3) := op_getfield (gk (k := 64) (t := 25) ck_H_copyFrom_2 rfl) (gk (k := 64) (t := 26) ck_H_copyFrom_2 rfl) (gk (k := 64) (t := 27) ck_H_copyFrom_2 rfl) rfl
theorem d_H_copyFrom_92 : decode y_H_copyFrom.2.1 92 = .ok (.iconst 0, 1) := op_iconst0 (gk (k := 64) (t := 28) ck_H_copyFrom_2 rfl)
theorem d_H_copyFrom_93 : decode y_H_copyFrom.2.1 93 = .ok (.aload_n 0, 1) := op_aload_n0 (gk (k := 64) (t := 29) ck_H_copyFrom_2 rfl)
theorem ck_H_copyFrom_3 : (y_H_copyFrom.2.1.data.toList.drop 96).take 32 = [24, 3, 42, 180, 0, 24, 190, 184, 0, 64, 43, 180, 0, 27, 3, 42, 180, 0, 27, 3, 42, 180, 0, 27, 190, 184, 0, 64, 43, 180, 0, 37] := by decide +kernel
theorem d_H_copyFrom_94 : decode y_H_copyFrom.2.1 94 = .ok (.getfield 24, 3) := op_getfield (gk (k := 64) (t := 30) ck_H_copyFrom_2 rfl) (gk (k := 64) (t := 31) ck_H_copyFrom_2 rfl) (gk (k := 96) (t := 0) ck_H_copyFrom_3 rfl) rfl
theorem d_H_copyFrom_97 : decode y_H_copyFrom.2.1 97 = .ok (.iconst 0, 1) := op_iconst0 (gk (k := 96) (t := 1) ck_H_copyFrom_3 rfl)
theorem d_H_copyFrom_98 : decode y_H_copyFrom.2.1 98 = .ok (.aload_n 0, 1) := op_aload_n0 (gk (k := 96) (t := 2) ck_H_copyFrom_3 rfl)
theorem d_H_copyFrom_99 : decode y_H_copyFrom.2.1 99 = .ok (.getfield 24, 3) := op_getfield (gk (k := 96) (t := 3) ck_H_copyFrom_3 rfl) (gk (k := 96) (t := 4) ck_H_copyFrom_3 rfl) (gk (k := 96) (t := 5) ck_H_copyFrom_3 rfl) rfl
theorem d_H_copyFrom_102 : decode y_H_copyFrom.2.1 102 = .ok (.arraylength, 1) := op_arraylength (gk (k := 96) (t := 6) ck_H_copyFrom_3 rfl)
theorem d_H_copyFrom_103 : decode y_H_copyFrom.2.1 103 = .ok (.invokestatic 64, 3) := op_invokestatic (gk (k := 96) (t := 7) ck_H_copyFrom_3 rfl) (gk (k := 96) (t := 8) ck_H_copyFrom_3 rfl) (gk (k := 96) (t := 9) ck_H_copyFrom_3 rfl) rfl
theorem d_H_copyFrom_106 : decode y_H_copyFrom.2.1 106 = .ok (.aload_n 1, 1) := op_aload_n1 (gk (k := 96) (t := 10) ck_H_copyFrom_3 rfl)
theorem fl_H_27 : FL "SinglesUp$Hill" 27 2 4 := ⟨"SinglesUp$Hill", zT2, 14, rfl, by decide, rfl, Or.inl (tw_c1 95 (by decide +kernel) rfl)⟩
theorem d_H_copyFrom_107 : decode y_H_copyFrom.2.1 107 = .ok (.getfield 27, 3) := op_getfield (gk (k := 96) (t := 11) ck_H_copyFrom_3 rfl) (gk (k := 96) (t := 12) ck_H_copyFrom_3 rfl) (gk (k := 96) (t := 13) ck_H_copyFrom_3 rfl) rfl
theorem d_H_copyFrom_110 : decode y_H_copyFrom.2.1 110 = .ok (.iconst 0, 1) := op_iconst0 (gk (k := 96) (t := 14) ck_H_copyFrom_3 rfl)
theorem d_H_copyFrom_111 : decode y_H_copyFrom.2.1 111 = .ok (.aload_n 0, 1) := op_aload_n0 (gk (k := 96) (t := 15) ck_H_copyFrom_3 rfl)
theorem d_H_copyFrom_112 : decode y_H_copyFrom.2.1 112 = .ok (.getfield 27, 3) := op_getfield (gk (k := 96) (t := 16) ck_H_copyFrom_3 rfl) (gk (k := 96) (t := 17) ck_H_copyFrom_3 rfl) (gk (k := 96) (t := 18) ck_H_copyFrom_3 rfl) rfl
theorem d_H_copyFrom_115 : decode y_H_copyFrom.2.1 115 = .ok (.iconst 0, 1) := op_iconst0 (gk (k := 96) (t := 19) ck_H_copyFrom_3 rfl)
theorem d_H_copyFrom_116 : decode y_H_copyFrom.2.1 116 = .ok (.aload_n 0, 1) := op_aload_n0 (gk (k := 96) (t := 20) ck_H_copyFrom_3 rfl)
theorem d_H_copyFrom_117 : decode y_H_copyFrom.2.1 117 = .ok (.getfield 27, 3) := op_getfield (gk (k := 96) (t := 21) ck_H_copyFrom_3 rfl) (gk (k := 96) (t := 22) ck_H_copyFrom_3 rfl) (gk (k := 96) (t := 23) ck_H_copyFrom_3 rfl) rfl
theorem d_H_copyFrom_120 : decode y_H_copyFrom.2.1 120 = .ok (.arraylength, 1) := op_arraylength (gk (k := 96) (t := 24) ck_H_copyFrom_3 rfl)
theorem d_H_copyFrom_121 : decode y_H_copyFrom.2.1 121 = .ok (.invokestatic 64, 3) := op_invokestatic (gk (k := 96) (t := 25) ck_H_copyFrom_3 rfl) (gk (k := 96) (t := 26) ck_H_copyFrom_3 rfl) (gk (k := 96) (t := 27) ck_H_copyFrom_3 rfl) rfl
theorem d_H_copyFrom_124 : decode y_H_copyFrom.2.1 124 = .ok (.aload_n 1, 1) := op_aload_n1 (gk (k := 96) (t := 28) ck_H_copyFrom_3 rfl)
theorem d_H_copyFrom_125 : decode y_H_copyFrom.2.1 125 = .ok (.getfield 37, 3) := op_getfield (gk (k := 96) (t := 29) ck_H_copyFrom_3 rfl) (gk (k := 96) (t := 30) ck_H_copyFrom_3 rfl) (gk (k := 96) (t := 31) ck_H_copyFrom_3 rfl) rfl
theorem ck_H_copyFrom_4 : (y_H_copyFrom.2.1.data.toList.drop 128).take 32 = [3, 42, 180, 0, 37, 3, 42, 180, 0, 37, 190, 184, 0, 64, 43, 180, 0, 40, 3, 42, 180, 0, 40, 3, 42, 180, 0, 40, 190, 184, 0, 64] := by decide +kernel
theorem d_H_copyFrom_128 : decode y_H_copyFrom.2.1 128 = .ok (.iconst 0, 1) := op_iconst0 (gk (k := 128) (t := 0) ck_H_copyFrom_4 rfl)
theorem d_H_copyFrom_129 : decode y_H_copyFrom.2.1 129 = .ok (.aload_n 0, 1) := op_aload_n0 (gk (k := 128) (t := 1) ck_H_copyFrom_4 rfl)
theorem d_H_copyFrom_130 : decode y_H_copyFrom.2.1 130 = .ok (.getfield 37, 3) := op_getfield (gk (k := 128) (t := 2) ck_H_copyFrom_4 rfl) (gk (k := 128) (t := 3) ck_H_copyFrom_4 rfl) (gk (k := 128) (t := 4) ck_H_copyFrom_4 rfl) rfl
theorem d_H_copyFrom_133 : decode y_H_copyFrom.2.1 133 = .ok (.iconst 0, 1) := op_iconst0 (gk (k := 128) (t := 5) ck_H_copyFrom_4 rfl)
theorem d_H_copyFrom_134 : decode y_H_copyFrom.2.1 134 = .ok (.aload_n 0, 1) := op_aload_n0 (gk (k := 128) (t := 6) ck_H_copyFrom_4 rfl)
theorem d_H_copyFrom_135 : decode y_H_copyFrom.2.1 135 = .ok (.getfield 37, 3) := op_getfield (gk (k := 128) (t := 7) ck_H_copyFrom_4 rfl) (gk (k := 128) (t := 8) ck_H_copyFrom_4 rfl) (gk (k := 128) (t := 9) ck_H_copyFrom_4 rfl) rfl
theorem d_H_copyFrom_138 : decode y_H_copyFrom.2.1 138 = .ok (.arraylength, 1) := op_arraylength (gk (k := 128) (t := 10) ck_H_copyFrom_4 rfl)
theorem d_H_copyFrom_139 : decode y_H_copyFrom.2.1 139 = .ok (.invokestatic 64, 3) := op_invokestatic (gk (k := 128) (t := 11) ck_H_copyFrom_4 rfl) (gk (k := 128) (t := 12) ck_H_copyFrom_4 rfl) (gk (k := 128) (t := 13) ck_H_copyFrom_4 rfl) rfl
theorem d_H_copyFrom_142 : decode y_H_copyFrom.2.1 142 = .ok (.aload_n 1, 1) := op_aload_n1 (gk (k := 128) (t := 14) ck_H_copyFrom_4 rfl)
theorem d_H_copyFrom_143 : decode y_H_copyFrom.2.1 143 = .ok (.getfield 40, 3) := op_getfield (gk (k := 128) (t := 15) ck_H_copyFrom_4 rfl) (gk (k := 128) (t := 16) ck_H_copyFrom_4 rfl) (gk (k := 128) (t := 17) ck_H_copyFrom_4 rfl) rfl
theorem d_H_copyFrom_146 : decode y_H_copyFrom.2.1 146 = .ok (.iconst 0, 1) := op_iconst0 (gk (k := 128) (t := 18) ck_H_copyFrom_4 rfl)
theorem d_H_copyFrom_147 : decode y_H_copyFrom.2.1 147 = .ok (.aload_n 0, 1) := op_aload_n0 (gk (k := 128) (t := 19) ck_H_copyFrom_4 rfl)
theorem d_H_copyFrom_148 : decode y_H_copyFrom.2.1 148 = .ok (.getfield 40, 3) := op_getfield (gk (k := 128) (t := 20) ck_H_copyFrom_4 rfl) (gk (k := 128) (t := 21) ck_H_copyFrom_4 rfl) (gk (k := 128) (t := 22) ck_H_copyFrom_4 rfl) rfl
theorem d_H_copyFrom_151 : decode y_H_copyFrom.2.1 151 = .ok (.iconst 0, 1) := op_iconst0 (gk (k := 128) (t := 23) ck_H_copyFrom_4 rfl)
theorem d_H_copyFrom_152 : decode y_H_copyFrom.2.1 152 = .ok (.aload_n 0, 1) := op_aload_n0 (gk (k := 128) (t := 24) ck_H_copyFrom_4 rfl)
theorem d_H_copyFrom_153 : decode y_H_copyFrom.2.1 153 = .ok (.getfield 40, 3) := op_getfield (gk (k := 128) (t := 25) ck_H_copyFrom_4 rfl) (gk (k := 128) (t := 26) ck_H_copyFrom_4 rfl) (gk (k := 128) (t := 27) ck_H_copyFrom_4 rfl) rfl
theorem d_H_copyFrom_156 : decode y_H_copyFrom.2.1 156 = .ok (.arraylength, 1) := op_arraylength (gk (k := 128) (t := 28) ck_H_copyFrom_4 rfl)
theorem d_H_copyFrom_157 : decode y_H_copyFrom.2.1 157 = .ok (.invokestatic 64, 3) := op_invokestatic (gk (k := 128) (t := 29) ck_H_copyFrom_4 rfl) (gk (k := 128) (t := 30) ck_H_copyFrom_4 rfl) (gk (k := 128) (t := 31) ck_H_copyFrom_4 rfl) rfl
theorem ck_H_copyFrom_5 : (y_H_copyFrom.2.1.data.toList.drop 160).take 32 = [43, 180, 0, 43, 3, 42, 180, 0, 43, 3, 42, 180, 0, 43, 190, 184, 0, 64, 42, 43, 180, 0, 70, 181, 0, 70, 42, 43, 180, 0, 73, 181] := by decide +kernel
theorem d_H_copyFrom_160 : decode y_H_copyFrom.2.1 160 = .ok (.aload_n 1, 1) := op_aload_n1 (gk (k := 160) (t := 0) ck_H_copyFrom_5 rfl)
theorem d_H_copyFrom_161 : decode y_H_copyFrom.2.1 161 = .ok (.getfield 43, 3) := op_getfield (gk (k := 160) (t := 1) ck_H_copyFrom_5 rfl) (gk (k := 160) (t := 2) ck_H_copyFrom_5 rfl) (gk (k := 160) (t := 3) ck_H_copyFrom_5 rfl) rfl
theorem d_H_copyFrom_164 : decode y_H_copyFrom.2.1 164 = .ok (.iconst 0, 1) := op_iconst0 (gk (k := 160) (t := 4) ck_H_copyFrom_5 rfl)
theorem d_H_copyFrom_165 : decode y_H_copyFrom.2.1 165 = .ok (.aload_n 0, 1) := op_aload_n0 (gk (k := 160) (t := 5) ck_H_copyFrom_5 rfl)
theorem d_H_copyFrom_166 : decode y_H_copyFrom.2.1 166 = .ok (.getfield 43, 3) := op_getfield (gk (k := 160) (t := 6) ck_H_copyFrom_5 rfl) (gk (k := 160) (t := 7) ck_H_copyFrom_5 rfl) (gk (k := 160) (t := 8) ck_H_copyFrom_5 rfl) rfl
theorem d_H_copyFrom_169 : decode y_H_copyFrom.2.1 169 = .ok (.iconst 0, 1) := op_iconst0 (gk (k := 160) (t := 9) ck_H_copyFrom_5 rfl)
theorem d_H_copyFrom_170 : decode y_H_copyFrom.2.1 170 = .ok (.aload_n 0, 1) := op_aload_n0 (gk (k := 160) (t := 10) ck_H_copyFrom_5 rfl)
theorem d_H_copyFrom_171 : decode y_H_copyFrom.2.1 171 = .ok (.getfield 43, 3) := op_getfield (gk (k := 160) (t := 11) ck_H_copyFrom_5 rfl) (gk (k := 160) (t := 12) ck_H_copyFrom_5 rfl) (gk (k := 160) (t := 13) ck_H_copyFrom_5 rfl) rfl
theorem d_H_copyFrom_174 : decode y_H_copyFrom.2.1 174 = .ok (.arraylength, 1) := op_arraylength (gk (k := 160) (t := 14) ck_H_copyFrom_5 rfl)
theorem in_180 : inr (180) := lit_in rfl
theorem d_H_copyFrom_175 : decode y_H_copyFrom.2.1 175 = .ok (.invokestatic 64, 3) := op_invokestatic (gk (k := 160) (t := 15) ck_H_copyFrom_5 rfl) (gk (k := 160) (t := 16) ck_H_copyFrom_5 rfl) (gk (k := 160) (t := 17) ck_H_copyFrom_5 rfl) rfl
theorem d_H_copyFrom_178 : decode y_H_copyFrom.2.1 178 = .ok (.aload_n 0, 1) := op_aload_n0 (gk (k := 160) (t := 18) ck_H_copyFrom_5 rfl)
theorem d_H_copyFrom_179 : decode y_H_copyFrom.2.1 179 = .ok (.aload_n 1, 1) := op_aload_n1 (gk (k := 160) (t := 19) ck_H_copyFrom_5 rfl)
theorem d_H_copyFrom_180 : decode y_H_copyFrom.2.1 180 = .ok (.getfield 70, 3) := op_getfield (gk (k := 160) (t := 20) ck_H_copyFrom_5 rfl) (gk (k := 160) (t := 21) ck_H_copyFrom_5 rfl) (gk (k := 160) (t := 22) ck_H_copyFrom_5 rfl) rfl
theorem d_H_copyFrom_183 : decode y_H_copyFrom.2.1 183 = .ok (.putfield 70, 3) := op_putfield (gk (k := 160) (t := 23) ck_H_copyFrom_5 rfl) (gk (k := 160) (t := 24) ck_H_copyFrom_5 rfl) (gk (k := 160) (t := 25) ck_H_copyFrom_5 rfl) rfl
theorem d_H_copyFrom_186 : decode y_H_copyFrom.2.1 186 = .ok (.aload_n 0, 1) := op_aload_n0 (gk (k := 160) (t := 26) ck_H_copyFrom_5 rfl)
theorem d_H_copyFrom_187 : decode y_H_copyFrom.2.1 187 = .ok (.aload_n 1, 1) := op_aload_n1 (gk (k := 160) (t := 27) ck_H_copyFrom_5 rfl)
theorem d_H_copyFrom_188 : decode y_H_copyFrom.2.1 188 = .ok (.getfield 73, 3) := op_getfield (gk (k := 160) (t := 28) ck_H_copyFrom_5 rfl) (gk (k := 160) (t := 29) ck_H_copyFrom_5 rfl) (gk (k := 160) (t := 30) ck_H_copyFrom_5 rfl) rfl
theorem ck_H_copyFrom_6 : (y_H_copyFrom.2.1.data.toList.drop 192).take 32 = [0, 73, 42, 43, 180, 0, 46, 181, 0, 46, 177] := by decide +kernel
theorem d_H_copyFrom_191 : decode y_H_copyFrom.2.1 191 = .ok (.putfield 73, 3) := op_putfield (gk (k := 160) (t := 31) ck_H_copyFrom_5 rfl) (gk (k := 192) (t := 0) ck_H_copyFrom_6 rfl) (gk (k := 192) (t := 1) ck_H_copyFrom_6 rfl) rfl
theorem d_H_copyFrom_194 : decode y_H_copyFrom.2.1 194 = .ok (.aload_n 0, 1) := op_aload_n0 (gk (k := 192) (t := 2) ck_H_copyFrom_6 rfl)
theorem d_H_copyFrom_195 : decode y_H_copyFrom.2.1 195 = .ok (.aload_n 1, 1) := op_aload_n1 (gk (k := 192) (t := 3) ck_H_copyFrom_6 rfl)
theorem d_H_copyFrom_196 : decode y_H_copyFrom.2.1 196 = .ok (.getfield 46, 3) := op_getfield (gk (k := 192) (t := 4) ck_H_copyFrom_6 rfl) (gk (k := 192) (t := 5) ck_H_copyFrom_6 rfl) (gk (k := 192) (t := 6) ck_H_copyFrom_6 rfl) rfl
theorem d_H_copyFrom_199 : decode y_H_copyFrom.2.1 199 = .ok (.putfield 46, 3) := op_putfield (gk (k := 192) (t := 7) ck_H_copyFrom_6 rfl) (gk (k := 192) (t := 8) ck_H_copyFrom_6 rfl) (gk (k := 192) (t := 9) ck_H_copyFrom_6 rfl) rfl
theorem d_H_copyFrom_202 : decode y_H_copyFrom.2.1 202 = .ok (.return_, 1) := op_return_ (gk (k := 192) (t := 10) ck_H_copyFrom_6 rfl)
abbrev y_M_imagine : MI := (⟨"SinglesUp$Mind", "imagine", "(LSinglesUp$Hill;IIII)V"⟩, prog_7_method_2_code, 6, none)
theorem ck_M_imagine_0 : (y_M_imagine.2.1.data.toList.drop 0).take 32 = [42, 180, 0, 12, 43, 182, 0, 29, 42, 180, 0, 12, 180, 0, 33, 8, 28, 79, 42, 180, 0, 12, 180, 0, 33, 7, 29, 79, 42, 180, 0, 12] := by decide +kernel
theorem d_M_imagine_0 : decode y_M_imagine.2.1 0 = .ok (.aload_n 0, 1) := op_aload_n0 (gk (k := 0) (t := 0) ck_M_imagine_0 rfl)
theorem d_M_imagine_1 : decode y_M_imagine.2.1 1 = .ok (.getfield 12, 3) := op_getfield (gk (k := 0) (t := 1) ck_M_imagine_0 rfl) (gk (k := 0) (t := 2) ck_M_imagine_0 rfl) (gk (k := 0) (t := 3) ck_M_imagine_0 rfl) rfl
theorem d_M_imagine_4 : decode y_M_imagine.2.1 4 = .ok (.aload_n 1, 1) := op_aload_n1 (gk (k := 0) (t := 4) ck_M_imagine_0 rfl)
theorem lk_M_29 : LkV "SinglesUp$Mind" 29 y_H_copyFrom := ⟨tw_c4 213 (by decide +kernel) rfl, tw_c4 214 (by decide +kernel) rfl, Or.inl (tw_c4 212 (by decide +kernel) rfl)⟩
set_option maxRecDepth 100000 in
theorem mo_H_copyFrom : MOk y_H_copyFrom 1 := ⟨by decide +kernel, tw_c4 215 rfl rfl, tw_c1 2 (by decide +kernel) rfl, by decide +kernel, by decide +kernel, by decide +kernel⟩
theorem d_M_imagine_5 : decode y_M_imagine.2.1 5 = .ok (.invokevirtual 29, 3) := op_invokevirtual (gk (k := 0) (t := 5) ck_M_imagine_0 rfl) (gk (k := 0) (t := 6) ck_M_imagine_0 rfl) (gk (k := 0) (t := 7) ck_M_imagine_0 rfl) rfl
theorem d_M_imagine_8 : decode y_M_imagine.2.1 8 = .ok (.aload_n 0, 1) := op_aload_n0 (gk (k := 0) (t := 8) ck_M_imagine_0 rfl)
theorem d_M_imagine_9 : decode y_M_imagine.2.1 9 = .ok (.getfield 12, 3) := op_getfield (gk (k := 0) (t := 9) ck_M_imagine_0 rfl) (gk (k := 0) (t := 10) ck_M_imagine_0 rfl) (gk (k := 0) (t := 11) ck_M_imagine_0 rfl) rfl
theorem fl_M_33 : FL "SinglesUp$Mind" 33 2 0 := ⟨"SinglesUp$Hill", zT2, 14, rfl, by decide, rfl, Or.inr ⟨"SinglesUp", nw_in 86 (by decide +kernel) rfl⟩⟩
theorem d_M_imagine_12 : decode y_M_imagine.2.1 12 = .ok (.getfield 33, 3) := op_getfield (gk (k := 0) (t := 12) ck_M_imagine_0 rfl) (gk (k := 0) (t := 13) ck_M_imagine_0 rfl) (gk (k := 0) (t := 14) ck_M_imagine_0 rfl) rfl
theorem d_M_imagine_15 : decode y_M_imagine.2.1 15 = .ok (.iconst 5, 1) := op_iconst5 (gk (k := 0) (t := 15) ck_M_imagine_0 rfl)
theorem d_M_imagine_16 : decode y_M_imagine.2.1 16 = .ok (.iload_n 2, 1) := op_iload_n2 (gk (k := 0) (t := 16) ck_M_imagine_0 rfl)
theorem d_M_imagine_17 : decode y_M_imagine.2.1 17 = .ok (.iastore, 1) := op_iastore (gk (k := 0) (t := 17) ck_M_imagine_0 rfl)
theorem d_M_imagine_18 : decode y_M_imagine.2.1 18 = .ok (.aload_n 0, 1) := op_aload_n0 (gk (k := 0) (t := 18) ck_M_imagine_0 rfl)
theorem d_M_imagine_19 : decode y_M_imagine.2.1 19 = .ok (.getfield 12, 3) := op_getfield (gk (k := 0) (t := 19) ck_M_imagine_0 rfl) (gk (k := 0) (t := 20) ck_M_imagine_0 rfl) (gk (k := 0) (t := 21) ck_M_imagine_0 rfl) rfl
theorem d_M_imagine_22 : decode y_M_imagine.2.1 22 = .ok (.getfield 33, 3) := op_getfield (gk (k := 0) (t := 22) ck_M_imagine_0 rfl) (gk (k := 0) (t := 23) ck_M_imagine_0 rfl) (gk (k := 0) (t := 24) ck_M_imagine_0 rfl) rfl
theorem d_M_imagine_25 : decode y_M_imagine.2.1 25 = .ok (.iconst 4, 1) := op_iconst4 (gk (k := 0) (t := 25) ck_M_imagine_0 rfl)
theorem d_M_imagine_26 : decode y_M_imagine.2.1 26 = .ok (.iload_n 3, 1) := op_iload_n3 (gk (k := 0) (t := 26) ck_M_imagine_0 rfl)
theorem d_M_imagine_27 : decode y_M_imagine.2.1 27 = .ok (.iastore, 1) := op_iastore (gk (k := 0) (t := 27) ck_M_imagine_0 rfl)
theorem d_M_imagine_28 : decode y_M_imagine.2.1 28 = .ok (.aload_n 0, 1) := op_aload_n0 (gk (k := 0) (t := 28) ck_M_imagine_0 rfl)
theorem d_M_imagine_29 : decode y_M_imagine.2.1 29 = .ok (.getfield 12, 3) := op_getfield (gk (k := 0) (t := 29) ck_M_imagine_0 rfl) (gk (k := 0) (t := 30) ck_M_imagine_0 rfl) (gk (k := 0) (t := 31) ck_M_imagine_0 rfl) rfl
theorem ck_M_imagine_1 : (y_M_imagine.2.1.data.toList.drop 32).take 32 = [180, 0, 33, 3, 21, 4, 79, 42, 180, 0, 21, 42, 180, 0, 12, 21, 5, 182, 0, 36, 87, 177] := by decide +kernel
theorem d_M_imagine_32 : decode y_M_imagine.2.1 32 = .ok (.getfield 33, 3) := op_getfield (gk (k := 32) (t := 0) ck_M_imagine_1 rfl) (gk (k := 32) (t := 1) ck_M_imagine_1 rfl) (gk (k := 32) (t := 2) ck_M_imagine_1 rfl) rfl
theorem d_M_imagine_35 : decode y_M_imagine.2.1 35 = .ok (.iconst 0, 1) := op_iconst0 (gk (k := 32) (t := 3) ck_M_imagine_1 rfl)
theorem d_M_imagine_36 : decode y_M_imagine.2.1 36 = .ok (.iload 4, 2) := op_iload (gk (k := 32) (t := 4) ck_M_imagine_1 rfl) (gk (k := 32) (t := 5) ck_M_imagine_1 rfl) rfl
theorem d_M_imagine_38 : decode y_M_imagine.2.1 38 = .ok (.iastore, 1) := op_iastore (gk (k := 32) (t := 6) ck_M_imagine_1 rfl)
theorem d_M_imagine_39 : decode y_M_imagine.2.1 39 = .ok (.aload_n 0, 1) := op_aload_n0 (gk (k := 32) (t := 7) ck_M_imagine_1 rfl)
theorem fl_M_21 : FL "SinglesUp$Mind" 21 5 1 := ⟨"SinglesUp$Mind", zT5, 3, rfl, by decide, rfl, Or.inl (tw_c1 201 (by decide +kernel) rfl)⟩
theorem rc_5_1 : ∀ o, KC[o]? = some (8, 3) → RC o 1 = some (o + 41) ∧ KC[o + 41]? = some (3, 12) := by
  intro o h
  have hl : o < 166 := (List.getElem?_eq_some_iff.mp h).1
  exact (by decide +kernel : ∀ o, o < 166 → KC[o]? = some (8, 3) → RC o 1 = some (o + 41) ∧ KC[o + 41]? = some (3, 12)) o hl h
theorem d_M_imagine_40 : decode y_M_imagine.2.1 40 = .ok (.getfield 21, 3) := op_getfield (gk (k := 32) (t := 8) ck_M_imagine_1 rfl) (gk (k := 32) (t := 9) ck_M_imagine_1 rfl) (gk (k := 32) (t := 10) ck_M_imagine_1 rfl) rfl
theorem d_M_imagine_43 : decode y_M_imagine.2.1 43 = .ok (.aload_n 0, 1) := op_aload_n0 (gk (k := 32) (t := 11) ck_M_imagine_1 rfl)
theorem d_M_imagine_44 : decode y_M_imagine.2.1 44 = .ok (.getfield 12, 3) := op_getfield (gk (k := 32) (t := 12) ck_M_imagine_1 rfl) (gk (k := 32) (t := 13) ck_M_imagine_1 rfl) (gk (k := 32) (t := 14) ck_M_imagine_1 rfl) rfl
theorem d_M_imagine_47 : decode y_M_imagine.2.1 47 = .ok (.iload 5, 2) := op_iload (gk (k := 32) (t := 15) ck_M_imagine_1 rfl) (gk (k := 32) (t := 16) ck_M_imagine_1 rfl) rfl
theorem lk_M_36 : LkV "SinglesUp$Mind" 36 y_C_turns := ⟨tw_c4 111 (by decide +kernel) rfl, tw_c4 112 (by decide +kernel) rfl, Or.inl (tw_c4 222 (by decide +kernel) rfl)⟩
theorem d_M_imagine_49 : decode y_M_imagine.2.1 49 = .ok (.invokevirtual 36, 3) := op_invokevirtual (gk (k := 32) (t := 17) ck_M_imagine_1 rfl) (gk (k := 32) (t := 18) ck_M_imagine_1 rfl) (gk (k := 32) (t := 19) ck_M_imagine_1 rfl) rfl
theorem d_M_imagine_52 : decode y_M_imagine.2.1 52 = .ok (.pop, 1) := op_pop (gk (k := 32) (t := 20) ck_M_imagine_1 rfl)
theorem d_M_imagine_53 : decode y_M_imagine.2.1 53 = .ok (.return_, 1) := op_return_ (gk (k := 32) (t := 21) ck_M_imagine_1 rfl)
abbrev y_S_thought : MI := (⟨"SinglesUp", "thought", "(IIIII)I"⟩, prog_1_method_24_code, 6, some .int)
theorem ck_S_thought_0 : (y_S_thought.2.1.data.toList.drop 0).take 32 = [8, 27, 184, 0, 61, 153, 0, 19, 7, 28, 184, 0, 61, 153, 0, 11, 3, 29, 184, 0, 61, 154, 0, 5, 2, 172, 21, 4, 4, 161, 0, 21] := by decide +kernel
theorem d_S_thought_0 : decode y_S_thought.2.1 0 = .ok (.iconst 5, 1) := op_iconst5 (gk (k := 0) (t := 0) ck_S_thought_0 rfl)
theorem d_S_thought_1 : decode y_S_thought.2.1 1 = .ok (.iload_n 1, 1) := op_iload_n1 (gk (k := 0) (t := 1) ck_S_thought_0 rfl)
theorem d_S_thought_2 : decode y_S_thought.2.1 2 = .ok (.invokestatic 61, 3) := op_invokestatic (gk (k := 0) (t := 2) ck_S_thought_0 rfl) (gk (k := 0) (t := 3) ck_S_thought_0 rfl) (gk (k := 0) (t := 4) ck_S_thought_0 rfl) rfl
theorem d_S_thought_5 : decode y_S_thought.2.1 5 = .ok (.ifCond .eq 19, 3) := op_if_eq (gk (k := 0) (t := 5) ck_S_thought_0 rfl) (gk (k := 0) (t := 6) ck_S_thought_0 rfl) (gk (k := 0) (t := 7) ck_S_thought_0 rfl) (by decide +kernel)
theorem d_S_thought_24 : decode y_S_thought.2.1 24 = .ok (.iconst (-1), 1) := op_iconstm1 (gk (k := 0) (t := 24) ck_S_thought_0 rfl)
theorem d_S_thought_25 : decode y_S_thought.2.1 25 = .ok (.ireturn, 1) := op_ireturn (gk (k := 0) (t := 25) ck_S_thought_0 rfl)
theorem d_S_thought_8 : decode y_S_thought.2.1 8 = .ok (.iconst 4, 1) := op_iconst4 (gk (k := 0) (t := 8) ck_S_thought_0 rfl)
theorem d_S_thought_9 : decode y_S_thought.2.1 9 = .ok (.iload_n 2, 1) := op_iload_n2 (gk (k := 0) (t := 9) ck_S_thought_0 rfl)
theorem d_S_thought_10 : decode y_S_thought.2.1 10 = .ok (.invokestatic 61, 3) := op_invokestatic (gk (k := 0) (t := 10) ck_S_thought_0 rfl) (gk (k := 0) (t := 11) ck_S_thought_0 rfl) (gk (k := 0) (t := 12) ck_S_thought_0 rfl) rfl
theorem d_S_thought_13 : decode y_S_thought.2.1 13 = .ok (.ifCond .eq 11, 3) := op_if_eq (gk (k := 0) (t := 13) ck_S_thought_0 rfl) (gk (k := 0) (t := 14) ck_S_thought_0 rfl) (gk (k := 0) (t := 15) ck_S_thought_0 rfl) (by decide +kernel)
theorem d_S_thought_16 : decode y_S_thought.2.1 16 = .ok (.iconst 0, 1) := op_iconst0 (gk (k := 0) (t := 16) ck_S_thought_0 rfl)
theorem d_S_thought_17 : decode y_S_thought.2.1 17 = .ok (.iload_n 3, 1) := op_iload_n3 (gk (k := 0) (t := 17) ck_S_thought_0 rfl)
theorem d_S_thought_18 : decode y_S_thought.2.1 18 = .ok (.invokestatic 61, 3) := op_invokestatic (gk (k := 0) (t := 18) ck_S_thought_0 rfl) (gk (k := 0) (t := 19) ck_S_thought_0 rfl) (gk (k := 0) (t := 20) ck_S_thought_0 rfl) rfl
theorem d_S_thought_21 : decode y_S_thought.2.1 21 = .ok (.ifCond .ne 5, 3) := op_if_ne (gk (k := 0) (t := 21) ck_S_thought_0 rfl) (gk (k := 0) (t := 22) ck_S_thought_0 rfl) (gk (k := 0) (t := 23) ck_S_thought_0 rfl) (by decide +kernel)
theorem d_S_thought_26 : decode y_S_thought.2.1 26 = .ok (.iload 4, 2) := op_iload (gk (k := 0) (t := 26) ck_S_thought_0 rfl) (gk (k := 0) (t := 27) ck_S_thought_0 rfl) rfl
theorem d_S_thought_28 : decode y_S_thought.2.1 28 = .ok (.iconst 1, 1) := op_iconst1 (gk (k := 0) (t := 28) ck_S_thought_0 rfl)
theorem d_S_thought_29 : decode y_S_thought.2.1 29 = .ok (.if_icmp .lt 21, 3) := op_icmp_lt (gk (k := 0) (t := 29) ck_S_thought_0 rfl) (gk (k := 0) (t := 30) ck_S_thought_0 rfl) (gk (k := 0) (t := 31) ck_S_thought_0 rfl) (by decide +kernel)
theorem ck_S_thought_1 : (y_S_thought.2.1.data.toList.drop 32).take 32 = [21, 4, 16, 40, 163, 0, 14, 21, 5, 155, 0, 9, 21, 5, 8, 164, 0, 5, 2, 172, 42, 180, 0, 22, 42, 180, 0, 12, 27, 28, 29, 21] := by decide +kernel
theorem d_S_thought_50 : decode y_S_thought.2.1 50 = .ok (.iconst (-1), 1) := op_iconstm1 (gk (k := 32) (t := 18) ck_S_thought_1 rfl)
theorem d_S_thought_51 : decode y_S_thought.2.1 51 = .ok (.ireturn, 1) := op_ireturn (gk (k := 32) (t := 19) ck_S_thought_1 rfl)
theorem d_S_thought_32 : decode y_S_thought.2.1 32 = .ok (.iload 4, 2) := op_iload (gk (k := 32) (t := 0) ck_S_thought_1 rfl) (gk (k := 32) (t := 1) ck_S_thought_1 rfl) rfl
theorem d_S_thought_34 : decode y_S_thought.2.1 34 = .ok (.bipush 40, 2) := op_bipush (gk (k := 32) (t := 2) ck_S_thought_1 rfl) (gk (k := 32) (t := 3) ck_S_thought_1 rfl) rfl
theorem d_S_thought_36 : decode y_S_thought.2.1 36 = .ok (.if_icmp .gt 14, 3) := op_icmp_gt (gk (k := 32) (t := 4) ck_S_thought_1 rfl) (gk (k := 32) (t := 5) ck_S_thought_1 rfl) (gk (k := 32) (t := 6) ck_S_thought_1 rfl) (by decide +kernel)
theorem d_S_thought_39 : decode y_S_thought.2.1 39 = .ok (.iload 5, 2) := op_iload (gk (k := 32) (t := 7) ck_S_thought_1 rfl) (gk (k := 32) (t := 8) ck_S_thought_1 rfl) rfl
theorem d_S_thought_41 : decode y_S_thought.2.1 41 = .ok (.ifCond .lt 9, 3) := op_if_lt (gk (k := 32) (t := 9) ck_S_thought_1 rfl) (gk (k := 32) (t := 10) ck_S_thought_1 rfl) (gk (k := 32) (t := 11) ck_S_thought_1 rfl) (by decide +kernel)
theorem d_S_thought_44 : decode y_S_thought.2.1 44 = .ok (.iload 5, 2) := op_iload (gk (k := 32) (t := 12) ck_S_thought_1 rfl) (gk (k := 32) (t := 13) ck_S_thought_1 rfl) rfl
theorem d_S_thought_46 : decode y_S_thought.2.1 46 = .ok (.iconst 5, 1) := op_iconst5 (gk (k := 32) (t := 14) ck_S_thought_1 rfl)
theorem d_S_thought_47 : decode y_S_thought.2.1 47 = .ok (.if_icmp .le 5, 3) := op_icmp_le (gk (k := 32) (t := 15) ck_S_thought_1 rfl) (gk (k := 32) (t := 16) ck_S_thought_1 rfl) (gk (k := 32) (t := 17) ck_S_thought_1 rfl) (by decide +kernel)
theorem d_S_thought_52 : decode y_S_thought.2.1 52 = .ok (.aload_n 0, 1) := op_aload_n0 (gk (k := 32) (t := 20) ck_S_thought_1 rfl)
theorem fl_S_22 : FL "SinglesUp" 22 8 2 := ⟨"SinglesUp", zT8, 9, rfl, by decide, rfl, Or.inl (tw_c2 94 (by decide +kernel) rfl)⟩
theorem rc_8_2 : ∀ o, KC[o]? = some (11, 9) → RC o 2 = some (o + 81) ∧ KC[o + 81]? = some (8, 3) := by
  intro o h
  have hl : o < 166 := (List.getElem?_eq_some_iff.mp h).1
  exact (by decide +kernel : ∀ o, o < 166 → KC[o]? = some (11, 9) → RC o 2 = some (o + 81) ∧ KC[o + 81]? = some (8, 3)) o hl h
theorem d_S_thought_53 : decode y_S_thought.2.1 53 = .ok (.getfield 22, 3) := op_getfield (gk (k := 32) (t := 21) ck_S_thought_1 rfl) (gk (k := 32) (t := 22) ck_S_thought_1 rfl) (gk (k := 32) (t := 23) ck_S_thought_1 rfl) rfl
theorem d_S_thought_56 : decode y_S_thought.2.1 56 = .ok (.aload_n 0, 1) := op_aload_n0 (gk (k := 32) (t := 24) ck_S_thought_1 rfl)
theorem d_S_thought_57 : decode y_S_thought.2.1 57 = .ok (.getfield 12, 3) := op_getfield (gk (k := 32) (t := 25) ck_S_thought_1 rfl) (gk (k := 32) (t := 26) ck_S_thought_1 rfl) (gk (k := 32) (t := 27) ck_S_thought_1 rfl) rfl
theorem d_S_thought_60 : decode y_S_thought.2.1 60 = .ok (.iload_n 1, 1) := op_iload_n1 (gk (k := 32) (t := 28) ck_S_thought_1 rfl)
theorem d_S_thought_61 : decode y_S_thought.2.1 61 = .ok (.iload_n 2, 1) := op_iload_n2 (gk (k := 32) (t := 29) ck_S_thought_1 rfl)
theorem d_S_thought_62 : decode y_S_thought.2.1 62 = .ok (.iload_n 3, 1) := op_iload_n3 (gk (k := 32) (t := 30) ck_S_thought_1 rfl)
theorem ck_S_thought_2 : (y_S_thought.2.1.data.toList.drop 64).take 32 = [4, 182, 0, 219, 42, 180, 0, 22, 42, 180, 0, 12, 21, 5, 182, 0, 223, 172] := by decide +kernel
theorem d_S_thought_63 : decode y_S_thought.2.1 63 = .ok (.iload 4, 2) := op_iload (gk (k := 32) (t := 31) ck_S_thought_1 rfl) (gk (k := 64) (t := 0) ck_S_thought_2 rfl) rfl
theorem lk_S_219 : LkV "SinglesUp" 219 y_M_imagine := ⟨tw_c4 209 (by decide +kernel) rfl, tw_c4 210 (by decide +kernel) rfl, Or.inl (tw_c4 208 (by decide +kernel) rfl)⟩
set_option maxRecDepth 100000 in
theorem mo_M_imagine : MOk y_M_imagine 5 := ⟨by decide +kernel, tw_c4 211 rfl rfl, tw_c1 6 (by decide +kernel) rfl, by decide +kernel, by decide +kernel, by decide +kernel⟩
theorem d_S_thought_65 : decode y_S_thought.2.1 65 = .ok (.invokevirtual 219, 3) := op_invokevirtual (gk (k := 64) (t := 1) ck_S_thought_2 rfl) (gk (k := 64) (t := 2) ck_S_thought_2 rfl) (gk (k := 64) (t := 3) ck_S_thought_2 rfl) rfl
theorem d_S_thought_68 : decode y_S_thought.2.1 68 = .ok (.aload_n 0, 1) := op_aload_n0 (gk (k := 64) (t := 4) ck_S_thought_2 rfl)
theorem d_S_thought_69 : decode y_S_thought.2.1 69 = .ok (.getfield 22, 3) := op_getfield (gk (k := 64) (t := 5) ck_S_thought_2 rfl) (gk (k := 64) (t := 6) ck_S_thought_2 rfl) (gk (k := 64) (t := 7) ck_S_thought_2 rfl) rfl
theorem d_S_thought_72 : decode y_S_thought.2.1 72 = .ok (.aload_n 0, 1) := op_aload_n0 (gk (k := 64) (t := 8) ck_S_thought_2 rfl)
theorem d_S_thought_73 : decode y_S_thought.2.1 73 = .ok (.getfield 12, 3) := op_getfield (gk (k := 64) (t := 9) ck_S_thought_2 rfl) (gk (k := 64) (t := 10) ck_S_thought_2 rfl) (gk (k := 64) (t := 11) ck_S_thought_2 rfl) rfl
theorem d_S_thought_76 : decode y_S_thought.2.1 76 = .ok (.iload 5, 2) := op_iload (gk (k := 64) (t := 12) ck_S_thought_2 rfl) (gk (k := 64) (t := 13) ck_S_thought_2 rfl) rfl
theorem lk_S_223 : LkV "SinglesUp" 223 y_M_gained := ⟨tw_c4 224 (by decide +kernel) rfl, tw_c4 225 (by decide +kernel) rfl, Or.inl (tw_c4 223 (by decide +kernel) rfl)⟩
set_option maxRecDepth 100000 in
theorem mo_M_gained : MOk y_M_gained 2 := ⟨by decide +kernel, tw_c4 226 rfl rfl, tw_c1 6 (by decide +kernel) rfl, by decide +kernel, by decide +kernel, by decide +kernel⟩
theorem d_S_thought_78 : decode y_S_thought.2.1 78 = .ok (.invokevirtual 223, 3) := op_invokevirtual (gk (k := 64) (t := 14) ck_S_thought_2 rfl) (gk (k := 64) (t := 15) ck_S_thought_2 rfl) (gk (k := 64) (t := 16) ck_S_thought_2 rfl) rfl
theorem d_S_thought_81 : decode y_S_thought.2.1 81 = .ok (.ireturn, 1) := op_ireturn (gk (k := 64) (t := 17) ck_S_thought_2 rfl)
abbrev y_S_price : MI := (⟨"SinglesUp", "price", "(II)I"⟩, prog_1_method_25_code, 6, some .int)
theorem ck_S_price_0 : (y_S_price.2.1.data.toList.drop 0).take 32 = [7, 27, 184, 0, 61, 153, 0, 14, 28, 4, 161, 0, 9, 28, 16, 40, 164, 0, 6, 18, 143, 172, 42, 180, 0, 12, 180, 0, 65, 8, 46, 62] := by decide +kernel
theorem d_S_price_0 : decode y_S_price.2.1 0 = .ok (.iconst 4, 1) := op_iconst4 (gk (k := 0) (t := 0) ck_S_price_0 rfl)
theorem d_S_price_1 : decode y_S_price.2.1 1 = .ok (.iload_n 1, 1) := op_iload_n1 (gk (k := 0) (t := 1) ck_S_price_0 rfl)
theorem d_S_price_2 : decode y_S_price.2.1 2 = .ok (.invokestatic 61, 3) := op_invokestatic (gk (k := 0) (t := 2) ck_S_price_0 rfl) (gk (k := 0) (t := 3) ck_S_price_0 rfl) (gk (k := 0) (t := 4) ck_S_price_0 rfl) rfl
theorem d_S_price_5 : decode y_S_price.2.1 5 = .ok (.ifCond .eq 14, 3) := op_if_eq (gk (k := 0) (t := 5) ck_S_price_0 rfl) (gk (k := 0) (t := 6) ck_S_price_0 rfl) (gk (k := 0) (t := 7) ck_S_price_0 rfl) (by decide +kernel)
theorem d_S_price_19 : decode y_S_price.2.1 19 = .ok (.ldc 143, 2) := op_ldc (gk (k := 0) (t := 19) ck_S_price_0 rfl) (gk (k := 0) (t := 20) ck_S_price_0 rfl) rfl
theorem d_S_price_21 : decode y_S_price.2.1 21 = .ok (.ireturn, 1) := op_ireturn (gk (k := 0) (t := 21) ck_S_price_0 rfl)
theorem d_S_price_8 : decode y_S_price.2.1 8 = .ok (.iload_n 2, 1) := op_iload_n2 (gk (k := 0) (t := 8) ck_S_price_0 rfl)
theorem d_S_price_9 : decode y_S_price.2.1 9 = .ok (.iconst 1, 1) := op_iconst1 (gk (k := 0) (t := 9) ck_S_price_0 rfl)
theorem d_S_price_10 : decode y_S_price.2.1 10 = .ok (.if_icmp .lt 9, 3) := op_icmp_lt (gk (k := 0) (t := 10) ck_S_price_0 rfl) (gk (k := 0) (t := 11) ck_S_price_0 rfl) (gk (k := 0) (t := 12) ck_S_price_0 rfl) (by decide +kernel)
theorem d_S_price_13 : decode y_S_price.2.1 13 = .ok (.iload_n 2, 1) := op_iload_n2 (gk (k := 0) (t := 13) ck_S_price_0 rfl)
theorem d_S_price_14 : decode y_S_price.2.1 14 = .ok (.bipush 40, 2) := op_bipush (gk (k := 0) (t := 14) ck_S_price_0 rfl) (gk (k := 0) (t := 15) ck_S_price_0 rfl) rfl
theorem d_S_price_16 : decode y_S_price.2.1 16 = .ok (.if_icmp .le 6, 3) := op_icmp_le (gk (k := 0) (t := 16) ck_S_price_0 rfl) (gk (k := 0) (t := 17) ck_S_price_0 rfl) (gk (k := 0) (t := 18) ck_S_price_0 rfl) (by decide +kernel)
theorem d_S_price_22 : decode y_S_price.2.1 22 = .ok (.aload_n 0, 1) := op_aload_n0 (gk (k := 0) (t := 22) ck_S_price_0 rfl)
theorem d_S_price_23 : decode y_S_price.2.1 23 = .ok (.getfield 12, 3) := op_getfield (gk (k := 0) (t := 23) ck_S_price_0 rfl) (gk (k := 0) (t := 24) ck_S_price_0 rfl) (gk (k := 0) (t := 25) ck_S_price_0 rfl) rfl
theorem d_S_price_26 : decode y_S_price.2.1 26 = .ok (.getfield 65, 3) := op_getfield (gk (k := 0) (t := 26) ck_S_price_0 rfl) (gk (k := 0) (t := 27) ck_S_price_0 rfl) (gk (k := 0) (t := 28) ck_S_price_0 rfl) rfl
theorem d_S_price_29 : decode y_S_price.2.1 29 = .ok (.iconst 5, 1) := op_iconst5 (gk (k := 0) (t := 29) ck_S_price_0 rfl)
theorem d_S_price_30 : decode y_S_price.2.1 30 = .ok (.iaload, 1) := op_iaload (gk (k := 0) (t := 30) ck_S_price_0 rfl)
theorem d_S_price_31 : decode y_S_price.2.1 31 = .ok (.istore_n 3, 1) := op_istore_n3 (gk (k := 0) (t := 31) ck_S_price_0 rfl)
theorem ck_S_price_1 : (y_S_price.2.1.data.toList.drop 32).take 32 = [42, 180, 0, 12, 180, 0, 65, 3, 46, 54, 4, 42, 180, 0, 22, 42, 180, 0, 12, 29, 27, 21, 4, 28, 182, 0, 219, 42, 180, 0, 22, 42] := by decide +kernel
theorem d_S_price_32 : decode y_S_price.2.1 32 = .ok (.aload_n 0, 1) := op_aload_n0 (gk (k := 32) (t := 0) ck_S_price_1 rfl)
theorem d_S_price_33 : decode y_S_price.2.1 33 = .ok (.getfield 12, 3) := op_getfield (gk (k := 32) (t := 1) ck_S_price_1 rfl) (gk (k := 32) (t := 2) ck_S_price_1 rfl) (gk (k := 32) (t := 3) ck_S_price_1 rfl) rfl
theorem d_S_price_36 : decode y_S_price.2.1 36 = .ok (.getfield 65, 3) := op_getfield (gk (k := 32) (t := 4) ck_S_price_1 rfl) (gk (k := 32) (t := 5) ck_S_price_1 rfl) (gk (k := 32) (t := 6) ck_S_price_1 rfl) rfl
theorem d_S_price_39 : decode y_S_price.2.1 39 = .ok (.iconst 0, 1) := op_iconst0 (gk (k := 32) (t := 7) ck_S_price_1 rfl)
theorem d_S_price_40 : decode y_S_price.2.1 40 = .ok (.iaload, 1) := op_iaload (gk (k := 32) (t := 8) ck_S_price_1 rfl)
theorem d_S_price_41 : decode y_S_price.2.1 41 = .ok (.istore 4, 2) := op_istore (gk (k := 32) (t := 9) ck_S_price_1 rfl) (gk (k := 32) (t := 10) ck_S_price_1 rfl) rfl
theorem d_S_price_43 : decode y_S_price.2.1 43 = .ok (.aload_n 0, 1) := op_aload_n0 (gk (k := 32) (t := 11) ck_S_price_1 rfl)
theorem d_S_price_44 : decode y_S_price.2.1 44 = .ok (.getfield 22, 3) := op_getfield (gk (k := 32) (t := 12) ck_S_price_1 rfl) (gk (k := 32) (t := 13) ck_S_price_1 rfl) (gk (k := 32) (t := 14) ck_S_price_1 rfl) rfl
theorem d_S_price_47 : decode y_S_price.2.1 47 = .ok (.aload_n 0, 1) := op_aload_n0 (gk (k := 32) (t := 15) ck_S_price_1 rfl)
theorem d_S_price_48 : decode y_S_price.2.1 48 = .ok (.getfield 12, 3) := op_getfield (gk (k := 32) (t := 16) ck_S_price_1 rfl) (gk (k := 32) (t := 17) ck_S_price_1 rfl) (gk (k := 32) (t := 18) ck_S_price_1 rfl) rfl
theorem d_S_price_51 : decode y_S_price.2.1 51 = .ok (.iload_n 3, 1) := op_iload_n3 (gk (k := 32) (t := 19) ck_S_price_1 rfl)
theorem d_S_price_52 : decode y_S_price.2.1 52 = .ok (.iload_n 1, 1) := op_iload_n1 (gk (k := 32) (t := 20) ck_S_price_1 rfl)
theorem d_S_price_53 : decode y_S_price.2.1 53 = .ok (.iload 4, 2) := op_iload (gk (k := 32) (t := 21) ck_S_price_1 rfl) (gk (k := 32) (t := 22) ck_S_price_1 rfl) rfl
theorem d_S_price_55 : decode y_S_price.2.1 55 = .ok (.iload_n 2, 1) := op_iload_n2 (gk (k := 32) (t := 23) ck_S_price_1 rfl)
theorem d_S_price_56 : decode y_S_price.2.1 56 = .ok (.invokevirtual 219, 3) := op_invokevirtual (gk (k := 32) (t := 24) ck_S_price_1 rfl) (gk (k := 32) (t := 25) ck_S_price_1 rfl) (gk (k := 32) (t := 26) ck_S_price_1 rfl) rfl
theorem d_S_price_59 : decode y_S_price.2.1 59 = .ok (.aload_n 0, 1) := op_aload_n0 (gk (k := 32) (t := 27) ck_S_price_1 rfl)
theorem d_S_price_60 : decode y_S_price.2.1 60 = .ok (.getfield 22, 3) := op_getfield (gk (k := 32) (t := 28) ck_S_price_1 rfl) (gk (k := 32) (t := 29) ck_S_price_1 rfl) (gk (k := 32) (t := 30) ck_S_price_1 rfl) rfl
theorem d_S_price_63 : decode y_S_price.2.1 63 = .ok (.aload_n 0, 1) := op_aload_n0 (gk (k := 32) (t := 31) ck_S_price_1 rfl)
theorem ck_S_price_2 : (y_S_price.2.1.data.toList.drop 64).take 32 = [180, 0, 12, 3, 182, 0, 223, 54, 5, 42, 180, 0, 22, 42, 180, 0, 12, 29, 3, 21, 4, 28, 182, 0, 219, 21, 5, 42, 180, 0, 22, 42] := by decide +kernel
theorem d_S_price_64 : decode y_S_price.2.1 64 = .ok (.getfield 12, 3) := op_getfield (gk (k := 64) (t := 0) ck_S_price_2 rfl) (gk (k := 64) (t := 1) ck_S_price_2 rfl) (gk (k := 64) (t := 2) ck_S_price_2 rfl) rfl
theorem d_S_price_67 : decode y_S_price.2.1 67 = .ok (.iconst 0, 1) := op_iconst0 (gk (k := 64) (t := 3) ck_S_price_2 rfl)
theorem d_S_price_68 : decode y_S_price.2.1 68 = .ok (.invokevirtual 223, 3) := op_invokevirtual (gk (k := 64) (t := 4) ck_S_price_2 rfl) (gk (k := 64) (t := 5) ck_S_price_2 rfl) (gk (k := 64) (t := 6) ck_S_price_2 rfl) rfl
theorem d_S_price_71 : decode y_S_price.2.1 71 = .ok (.istore 5, 2) := op_istore (gk (k := 64) (t := 7) ck_S_price_2 rfl) (gk (k := 64) (t := 8) ck_S_price_2 rfl) rfl
theorem d_S_price_73 : decode y_S_price.2.1 73 = .ok (.aload_n 0, 1) := op_aload_n0 (gk (k := 64) (t := 9) ck_S_price_2 rfl)
theorem d_S_price_74 : decode y_S_price.2.1 74 = .ok (.getfield 22, 3) := op_getfield (gk (k := 64) (t := 10) ck_S_price_2 rfl) (gk (k := 64) (t := 11) ck_S_price_2 rfl) (gk (k := 64) (t := 12) ck_S_price_2 rfl) rfl
theorem d_S_price_77 : decode y_S_price.2.1 77 = .ok (.aload_n 0, 1) := op_aload_n0 (gk (k := 64) (t := 13) ck_S_price_2 rfl)
theorem d_S_price_78 : decode y_S_price.2.1 78 = .ok (.getfield 12, 3) := op_getfield (gk (k := 64) (t := 14) ck_S_price_2 rfl) (gk (k := 64) (t := 15) ck_S_price_2 rfl) (gk (k := 64) (t := 16) ck_S_price_2 rfl) rfl
theorem d_S_price_81 : decode y_S_price.2.1 81 = .ok (.iload_n 3, 1) := op_iload_n3 (gk (k := 64) (t := 17) ck_S_price_2 rfl)
theorem d_S_price_82 : decode y_S_price.2.1 82 = .ok (.iconst 0, 1) := op_iconst0 (gk (k := 64) (t := 18) ck_S_price_2 rfl)
theorem d_S_price_83 : decode y_S_price.2.1 83 = .ok (.iload 4, 2) := op_iload (gk (k := 64) (t := 19) ck_S_price_2 rfl) (gk (k := 64) (t := 20) ck_S_price_2 rfl) rfl
theorem d_S_price_85 : decode y_S_price.2.1 85 = .ok (.iload_n 2, 1) := op_iload_n2 (gk (k := 64) (t := 21) ck_S_price_2 rfl)
theorem d_S_price_86 : decode y_S_price.2.1 86 = .ok (.invokevirtual 219, 3) := op_invokevirtual (gk (k := 64) (t := 22) ck_S_price_2 rfl) (gk (k := 64) (t := 23) ck_S_price_2 rfl) (gk (k := 64) (t := 24) ck_S_price_2 rfl) rfl
theorem d_S_price_89 : decode y_S_price.2.1 89 = .ok (.iload 5, 2) := op_iload (gk (k := 64) (t := 25) ck_S_price_2 rfl) (gk (k := 64) (t := 26) ck_S_price_2 rfl) rfl
theorem d_S_price_91 : decode y_S_price.2.1 91 = .ok (.aload_n 0, 1) := op_aload_n0 (gk (k := 64) (t := 27) ck_S_price_2 rfl)
theorem d_S_price_92 : decode y_S_price.2.1 92 = .ok (.getfield 22, 3) := op_getfield (gk (k := 64) (t := 28) ck_S_price_2 rfl) (gk (k := 64) (t := 29) ck_S_price_2 rfl) (gk (k := 64) (t := 30) ck_S_price_2 rfl) rfl
theorem d_S_price_95 : decode y_S_price.2.1 95 = .ok (.aload_n 0, 1) := op_aload_n0 (gk (k := 64) (t := 31) ck_S_price_2 rfl)
theorem ck_S_price_3 : (y_S_price.2.1.data.toList.drop 96).take 32 = [180, 0, 12, 3, 182, 0, 223, 100, 172] := by decide +kernel
theorem d_S_price_96 : decode y_S_price.2.1 96 = .ok (.getfield 12, 3) := op_getfield (gk (k := 96) (t := 0) ck_S_price_3 rfl) (gk (k := 96) (t := 1) ck_S_price_3 rfl) (gk (k := 96) (t := 2) ck_S_price_3 rfl) rfl
theorem d_S_price_99 : decode y_S_price.2.1 99 = .ok (.iconst 0, 1) := op_iconst0 (gk (k := 96) (t := 3) ck_S_price_3 rfl)
theorem d_S_price_100 : decode y_S_price.2.1 100 = .ok (.invokevirtual 223, 3) := op_invokevirtual (gk (k := 96) (t := 4) ck_S_price_3 rfl) (gk (k := 96) (t := 5) ck_S_price_3 rfl) (gk (k := 96) (t := 6) ck_S_price_3 rfl) rfl
theorem d_S_price_103 : decode y_S_price.2.1 103 = .ok (.isub, 1) := op_isub (gk (k := 96) (t := 7) ck_S_price_3 rfl)
theorem d_S_price_104 : decode y_S_price.2.1 104 = .ok (.ireturn, 1) := op_ireturn (gk (k := 96) (t := 8) ck_S_price_3 rfl)
abbrev y_H_satLast : MI := (⟨"SinglesUp$Hill", "satLast", "(I)Z"⟩, prog_4_method_15_code, 3, some .boolean)
theorem ck_H_satLast_0 : (y_H_satLast.2.1.data.toList.drop 0).take 32 = [3, 61, 28, 42, 180, 0, 40, 3, 46, 162, 0, 30, 28, 16, 8, 162, 0, 24, 42, 180, 0, 40, 16, 10, 28, 96, 46, 27, 160, 0, 5, 4] := by decide +kernel
theorem d_H_satLast_0 : decode y_H_satLast.2.1 0 = .ok (.iconst 0, 1) := op_iconst0 (gk (k := 0) (t := 0) ck_H_satLast_0 rfl)
theorem d_H_satLast_1 : decode y_H_satLast.2.1 1 = .ok (.istore_n 2, 1) := op_istore_n2 (gk (k := 0) (t := 1) ck_H_satLast_0 rfl)
theorem d_H_satLast_2 : decode y_H_satLast.2.1 2 = .ok (.iload_n 2, 1) := op_iload_n2 (gk (k := 0) (t := 2) ck_H_satLast_0 rfl)
theorem d_H_satLast_3 : decode y_H_satLast.2.1 3 = .ok (.aload_n 0, 1) := op_aload_n0 (gk (k := 0) (t := 3) ck_H_satLast_0 rfl)
theorem d_H_satLast_4 : decode y_H_satLast.2.1 4 = .ok (.getfield 40, 3) := op_getfield (gk (k := 0) (t := 4) ck_H_satLast_0 rfl) (gk (k := 0) (t := 5) ck_H_satLast_0 rfl) (gk (k := 0) (t := 6) ck_H_satLast_0 rfl) rfl
theorem d_H_satLast_7 : decode y_H_satLast.2.1 7 = .ok (.iconst 0, 1) := op_iconst0 (gk (k := 0) (t := 7) ck_H_satLast_0 rfl)
theorem d_H_satLast_8 : decode y_H_satLast.2.1 8 = .ok (.iaload, 1) := op_iaload (gk (k := 0) (t := 8) ck_H_satLast_0 rfl)
theorem d_H_satLast_9 : decode y_H_satLast.2.1 9 = .ok (.if_icmp .ge 30, 3) := op_icmp_ge (gk (k := 0) (t := 9) ck_H_satLast_0 rfl) (gk (k := 0) (t := 10) ck_H_satLast_0 rfl) (gk (k := 0) (t := 11) ck_H_satLast_0 rfl) (by decide +kernel)
theorem ck_H_satLast_1 : (y_H_satLast.2.1.data.toList.drop 32).take 32 = [172, 132, 2, 1, 167, 255, 222, 3, 172] := by decide +kernel
theorem d_H_satLast_39 : decode y_H_satLast.2.1 39 = .ok (.iconst 0, 1) := op_iconst0 (gk (k := 32) (t := 7) ck_H_satLast_1 rfl)
theorem d_H_satLast_40 : decode y_H_satLast.2.1 40 = .ok (.ireturn, 1) := op_ireturn (gk (k := 32) (t := 8) ck_H_satLast_1 rfl)
theorem d_H_satLast_12 : decode y_H_satLast.2.1 12 = .ok (.iload_n 2, 1) := op_iload_n2 (gk (k := 0) (t := 12) ck_H_satLast_0 rfl)
theorem d_H_satLast_13 : decode y_H_satLast.2.1 13 = .ok (.bipush 8, 2) := op_bipush (gk (k := 0) (t := 13) ck_H_satLast_0 rfl) (gk (k := 0) (t := 14) ck_H_satLast_0 rfl) rfl
theorem d_H_satLast_15 : decode y_H_satLast.2.1 15 = .ok (.if_icmp .ge 24, 3) := op_icmp_ge (gk (k := 0) (t := 15) ck_H_satLast_0 rfl) (gk (k := 0) (t := 16) ck_H_satLast_0 rfl) (gk (k := 0) (t := 17) ck_H_satLast_0 rfl) (by decide +kernel)
theorem d_H_satLast_18 : decode y_H_satLast.2.1 18 = .ok (.aload_n 0, 1) := op_aload_n0 (gk (k := 0) (t := 18) ck_H_satLast_0 rfl)
theorem d_H_satLast_19 : decode y_H_satLast.2.1 19 = .ok (.getfield 40, 3) := op_getfield (gk (k := 0) (t := 19) ck_H_satLast_0 rfl) (gk (k := 0) (t := 20) ck_H_satLast_0 rfl) (gk (k := 0) (t := 21) ck_H_satLast_0 rfl) rfl
theorem d_H_satLast_22 : decode y_H_satLast.2.1 22 = .ok (.bipush 10, 2) := op_bipush (gk (k := 0) (t := 22) ck_H_satLast_0 rfl) (gk (k := 0) (t := 23) ck_H_satLast_0 rfl) rfl
theorem d_H_satLast_24 : decode y_H_satLast.2.1 24 = .ok (.iload_n 2, 1) := op_iload_n2 (gk (k := 0) (t := 24) ck_H_satLast_0 rfl)
theorem d_H_satLast_25 : decode y_H_satLast.2.1 25 = .ok (.iadd, 1) := op_iadd (gk (k := 0) (t := 25) ck_H_satLast_0 rfl)
theorem d_H_satLast_26 : decode y_H_satLast.2.1 26 = .ok (.iaload, 1) := op_iaload (gk (k := 0) (t := 26) ck_H_satLast_0 rfl)
theorem d_H_satLast_27 : decode y_H_satLast.2.1 27 = .ok (.iload_n 1, 1) := op_iload_n1 (gk (k := 0) (t := 27) ck_H_satLast_0 rfl)
theorem d_H_satLast_28 : decode y_H_satLast.2.1 28 = .ok (.if_icmp .ne 5, 3) := op_icmp_ne (gk (k := 0) (t := 28) ck_H_satLast_0 rfl) (gk (k := 0) (t := 29) ck_H_satLast_0 rfl) (gk (k := 0) (t := 30) ck_H_satLast_0 rfl) (by decide +kernel)
theorem d_H_satLast_33 : decode y_H_satLast.2.1 33 = .ok (.iinc 2 1, 3) := op_iinc (gk (k := 32) (t := 1) ck_H_satLast_1 rfl) (gk (k := 32) (t := 2) ck_H_satLast_1 rfl) (gk (k := 32) (t := 3) ck_H_satLast_1 rfl) rfl rfl
theorem d_H_satLast_36 : decode y_H_satLast.2.1 36 = .ok (.goto (-34), 3) := op_goto (gk (k := 32) (t := 4) ck_H_satLast_1 rfl) (gk (k := 32) (t := 5) ck_H_satLast_1 rfl) (gk (k := 32) (t := 6) ck_H_satLast_1 rfl) (by decide +kernel)
theorem d_H_satLast_31 : decode y_H_satLast.2.1 31 = .ok (.iconst 1, 1) := op_iconst1 (gk (k := 0) (t := 31) ck_H_satLast_0 rfl)
theorem d_H_satLast_32 : decode y_H_satLast.2.1 32 = .ok (.ireturn, 1) := op_ireturn (gk (k := 32) (t := 0) ck_H_satLast_1 rfl)
abbrev y_L_hasNumber : MI := (⟨"SinglesUp$Lines", "hasNumber", "(I)Z"⟩, prog_6_method_15_code, 4, some .boolean)
theorem ck_L_hasNumber_0 : (y_L_hasNumber.2.1.data.toList.drop 0).take 32 = [3, 61, 28, 16, 6, 162, 0, 44, 3, 62, 29, 42, 180, 0, 15, 28, 46, 162, 0, 26, 42, 28, 16, 40, 104, 29, 96, 3, 182, 0, 53, 27] := by decide +kernel
theorem d_L_hasNumber_0 : decode y_L_hasNumber.2.1 0 = .ok (.iconst 0, 1) := op_iconst0 (gk (k := 0) (t := 0) ck_L_hasNumber_0 rfl)
theorem d_L_hasNumber_1 : decode y_L_hasNumber.2.1 1 = .ok (.istore_n 2, 1) := op_istore_n2 (gk (k := 0) (t := 1) ck_L_hasNumber_0 rfl)
theorem d_L_hasNumber_2 : decode y_L_hasNumber.2.1 2 = .ok (.iload_n 2, 1) := op_iload_n2 (gk (k := 0) (t := 2) ck_L_hasNumber_0 rfl)
theorem d_L_hasNumber_3 : decode y_L_hasNumber.2.1 3 = .ok (.bipush 6, 2) := op_bipush (gk (k := 0) (t := 3) ck_L_hasNumber_0 rfl) (gk (k := 0) (t := 4) ck_L_hasNumber_0 rfl) rfl
theorem d_L_hasNumber_5 : decode y_L_hasNumber.2.1 5 = .ok (.if_icmp .ge 44, 3) := op_icmp_ge (gk (k := 0) (t := 5) ck_L_hasNumber_0 rfl) (gk (k := 0) (t := 6) ck_L_hasNumber_0 rfl) (gk (k := 0) (t := 7) ck_L_hasNumber_0 rfl) (by decide +kernel)
theorem ck_L_hasNumber_1 : (y_L_hasNumber.2.1.data.toList.drop 32).take 32 = [160, 0, 5, 4, 172, 132, 3, 1, 167, 255, 226, 132, 2, 1, 167, 255, 212, 3, 172] := by decide +kernel
theorem d_L_hasNumber_49 : decode y_L_hasNumber.2.1 49 = .ok (.iconst 0, 1) := op_iconst0 (gk (k := 32) (t := 17) ck_L_hasNumber_1 rfl)
theorem d_L_hasNumber_50 : decode y_L_hasNumber.2.1 50 = .ok (.ireturn, 1) := op_ireturn (gk (k := 32) (t := 18) ck_L_hasNumber_1 rfl)
theorem d_L_hasNumber_8 : decode y_L_hasNumber.2.1 8 = .ok (.iconst 0, 1) := op_iconst0 (gk (k := 0) (t := 8) ck_L_hasNumber_0 rfl)
theorem d_L_hasNumber_9 : decode y_L_hasNumber.2.1 9 = .ok (.istore_n 3, 1) := op_istore_n3 (gk (k := 0) (t := 9) ck_L_hasNumber_0 rfl)
theorem d_L_hasNumber_10 : decode y_L_hasNumber.2.1 10 = .ok (.iload_n 3, 1) := op_iload_n3 (gk (k := 0) (t := 10) ck_L_hasNumber_0 rfl)
theorem d_L_hasNumber_11 : decode y_L_hasNumber.2.1 11 = .ok (.aload_n 0, 1) := op_aload_n0 (gk (k := 0) (t := 11) ck_L_hasNumber_0 rfl)
theorem d_L_hasNumber_12 : decode y_L_hasNumber.2.1 12 = .ok (.getfield 15, 3) := op_getfield (gk (k := 0) (t := 12) ck_L_hasNumber_0 rfl) (gk (k := 0) (t := 13) ck_L_hasNumber_0 rfl) (gk (k := 0) (t := 14) ck_L_hasNumber_0 rfl) rfl
theorem d_L_hasNumber_15 : decode y_L_hasNumber.2.1 15 = .ok (.iload_n 2, 1) := op_iload_n2 (gk (k := 0) (t := 15) ck_L_hasNumber_0 rfl)
theorem d_L_hasNumber_16 : decode y_L_hasNumber.2.1 16 = .ok (.iaload, 1) := op_iaload (gk (k := 0) (t := 16) ck_L_hasNumber_0 rfl)
theorem d_L_hasNumber_17 : decode y_L_hasNumber.2.1 17 = .ok (.if_icmp .ge 26, 3) := op_icmp_ge (gk (k := 0) (t := 17) ck_L_hasNumber_0 rfl) (gk (k := 0) (t := 18) ck_L_hasNumber_0 rfl) (gk (k := 0) (t := 19) ck_L_hasNumber_0 rfl) (by decide +kernel)
theorem d_L_hasNumber_20 : decode y_L_hasNumber.2.1 20 = .ok (.aload_n 0, 1) := op_aload_n0 (gk (k := 0) (t := 20) ck_L_hasNumber_0 rfl)
theorem d_L_hasNumber_21 : decode y_L_hasNumber.2.1 21 = .ok (.iload_n 2, 1) := op_iload_n2 (gk (k := 0) (t := 21) ck_L_hasNumber_0 rfl)
theorem d_L_hasNumber_22 : decode y_L_hasNumber.2.1 22 = .ok (.bipush 40, 2) := op_bipush (gk (k := 0) (t := 22) ck_L_hasNumber_0 rfl) (gk (k := 0) (t := 23) ck_L_hasNumber_0 rfl) rfl
theorem d_L_hasNumber_24 : decode y_L_hasNumber.2.1 24 = .ok (.imul, 1) := op_imul (gk (k := 0) (t := 24) ck_L_hasNumber_0 rfl)
theorem d_L_hasNumber_25 : decode y_L_hasNumber.2.1 25 = .ok (.iload_n 3, 1) := op_iload_n3 (gk (k := 0) (t := 25) ck_L_hasNumber_0 rfl)
theorem d_L_hasNumber_26 : decode y_L_hasNumber.2.1 26 = .ok (.iadd, 1) := op_iadd (gk (k := 0) (t := 26) ck_L_hasNumber_0 rfl)
theorem d_L_hasNumber_27 : decode y_L_hasNumber.2.1 27 = .ok (.iconst 0, 1) := op_iconst0 (gk (k := 0) (t := 27) ck_L_hasNumber_0 rfl)
theorem d_L_hasNumber_28 : decode y_L_hasNumber.2.1 28 = .ok (.invokevirtual 53, 3) := op_invokevirtual (gk (k := 0) (t := 28) ck_L_hasNumber_0 rfl) (gk (k := 0) (t := 29) ck_L_hasNumber_0 rfl) (gk (k := 0) (t := 30) ck_L_hasNumber_0 rfl) rfl
theorem d_L_hasNumber_31 : decode y_L_hasNumber.2.1 31 = .ok (.iload_n 1, 1) := op_iload_n1 (gk (k := 0) (t := 31) ck_L_hasNumber_0 rfl)
theorem d_L_hasNumber_32 : decode y_L_hasNumber.2.1 32 = .ok (.if_icmp .ne 5, 3) := op_icmp_ne (gk (k := 32) (t := 0) ck_L_hasNumber_1 rfl) (gk (k := 32) (t := 1) ck_L_hasNumber_1 rfl) (gk (k := 32) (t := 2) ck_L_hasNumber_1 rfl) (by decide +kernel)
theorem d_L_hasNumber_37 : decode y_L_hasNumber.2.1 37 = .ok (.iinc 3 1, 3) := op_iinc (gk (k := 32) (t := 5) ck_L_hasNumber_1 rfl) (gk (k := 32) (t := 6) ck_L_hasNumber_1 rfl) (gk (k := 32) (t := 7) ck_L_hasNumber_1 rfl) rfl rfl
theorem d_L_hasNumber_40 : decode y_L_hasNumber.2.1 40 = .ok (.goto (-30), 3) := op_goto (gk (k := 32) (t := 8) ck_L_hasNumber_1 rfl) (gk (k := 32) (t := 9) ck_L_hasNumber_1 rfl) (gk (k := 32) (t := 10) ck_L_hasNumber_1 rfl) (by decide +kernel)
theorem d_L_hasNumber_35 : decode y_L_hasNumber.2.1 35 = .ok (.iconst 1, 1) := op_iconst1 (gk (k := 32) (t := 3) ck_L_hasNumber_1 rfl)
theorem d_L_hasNumber_36 : decode y_L_hasNumber.2.1 36 = .ok (.ireturn, 1) := op_ireturn (gk (k := 32) (t := 4) ck_L_hasNumber_1 rfl)
theorem d_L_hasNumber_43 : decode y_L_hasNumber.2.1 43 = .ok (.iinc 2 1, 3) := op_iinc (gk (k := 32) (t := 11) ck_L_hasNumber_1 rfl) (gk (k := 32) (t := 12) ck_L_hasNumber_1 rfl) (gk (k := 32) (t := 13) ck_L_hasNumber_1 rfl) rfl rfl
theorem d_L_hasNumber_46 : decode y_L_hasNumber.2.1 46 = .ok (.goto (-44), 3) := op_goto (gk (k := 32) (t := 14) ck_L_hasNumber_1 rfl) (gk (k := 32) (t := 15) ck_L_hasNumber_1 rfl) (gk (k := 32) (t := 16) ck_L_hasNumber_1 rfl) (by decide +kernel)
abbrev y_M_countTill : MI := (⟨"SinglesUp$Mind", "countTill", "(I)I"⟩, prog_7_method_8_code, 3, some .int)
theorem ck_M_countTill_0 : (y_M_countTill.2.1.data.toList.drop 0).take 32 = [4, 61, 28, 16, 40, 163, 0, 63, 42, 180, 0, 21, 42, 180, 0, 12, 182, 0, 74, 42, 180, 0, 21, 42, 180, 0, 12, 182, 0, 77, 87, 42] := by decide +kernel
theorem d_M_countTill_0 : decode y_M_countTill.2.1 0 = .ok (.iconst 1, 1) := op_iconst1 (gk (k := 0) (t := 0) ck_M_countTill_0 rfl)
theorem d_M_countTill_1 : decode y_M_countTill.2.1 1 = .ok (.istore_n 2, 1) := op_istore_n2 (gk (k := 0) (t := 1) ck_M_countTill_0 rfl)
theorem d_M_countTill_2 : decode y_M_countTill.2.1 2 = .ok (.iload_n 2, 1) := op_iload_n2 (gk (k := 0) (t := 2) ck_M_countTill_0 rfl)
theorem d_M_countTill_3 : decode y_M_countTill.2.1 3 = .ok (.bipush 40, 2) := op_bipush (gk (k := 0) (t := 3) ck_M_countTill_0 rfl) (gk (k := 0) (t := 4) ck_M_countTill_0 rfl) rfl
theorem d_M_countTill_5 : decode y_M_countTill.2.1 5 = .ok (.if_icmp .gt 63, 3) := op_icmp_gt (gk (k := 0) (t := 5) ck_M_countTill_0 rfl) (gk (k := 0) (t := 6) ck_M_countTill_0 rfl) (gk (k := 0) (t := 7) ck_M_countTill_0 rfl) (by decide +kernel)
theorem ck_M_countTill_2 : (y_M_countTill.2.1.data.toList.drop 64).take 32 = [1, 167, 255, 193, 2, 172] := by decide +kernel
theorem d_M_countTill_68 : decode y_M_countTill.2.1 68 = .ok (.iconst (-1), 1) := op_iconstm1 (gk (k := 64) (t := 4) ck_M_countTill_2 rfl)
theorem d_M_countTill_69 : decode y_M_countTill.2.1 69 = .ok (.ireturn, 1) := op_ireturn (gk (k := 64) (t := 5) ck_M_countTill_2 rfl)
theorem d_M_countTill_8 : decode y_M_countTill.2.1 8 = .ok (.aload_n 0, 1) := op_aload_n0 (gk (k := 0) (t := 8) ck_M_countTill_0 rfl)
theorem d_M_countTill_9 : decode y_M_countTill.2.1 9 = .ok (.getfield 21, 3) := op_getfield (gk (k := 0) (t := 9) ck_M_countTill_0 rfl) (gk (k := 0) (t := 10) ck_M_countTill_0 rfl) (gk (k := 0) (t := 11) ck_M_countTill_0 rfl) rfl
theorem d_M_countTill_12 : decode y_M_countTill.2.1 12 = .ok (.aload_n 0, 1) := op_aload_n0 (gk (k := 0) (t := 12) ck_M_countTill_0 rfl)
theorem d_M_countTill_13 : decode y_M_countTill.2.1 13 = .ok (.getfield 12, 3) := op_getfield (gk (k := 0) (t := 13) ck_M_countTill_0 rfl) (gk (k := 0) (t := 14) ck_M_countTill_0 rfl) (gk (k := 0) (t := 15) ck_M_countTill_0 rfl) rfl
theorem lk_M_74 : LkV "SinglesUp$Mind" 74 y_C_fill := ⟨tw_c4 63 (by decide +kernel) rfl, tw_c4 64 (by decide +kernel) rfl, Or.inl (tw_c5 12 (by decide +kernel) rfl)⟩
theorem d_M_countTill_16 : decode y_M_countTill.2.1 16 = .ok (.invokevirtual 74, 3) := op_invokevirtual (gk (k := 0) (t := 16) ck_M_countTill_0 rfl) (gk (k := 0) (t := 17) ck_M_countTill_0 rfl) (gk (k := 0) (t := 18) ck_M_countTill_0 rfl) rfl
theorem d_M_countTill_19 : decode y_M_countTill.2.1 19 = .ok (.aload_n 0, 1) := op_aload_n0 (gk (k := 0) (t := 19) ck_M_countTill_0 rfl)
theorem d_M_countTill_20 : decode y_M_countTill.2.1 20 = .ok (.getfield 21, 3) := op_getfield (gk (k := 0) (t := 20) ck_M_countTill_0 rfl) (gk (k := 0) (t := 21) ck_M_countTill_0 rfl) (gk (k := 0) (t := 22) ck_M_countTill_0 rfl) rfl
theorem d_M_countTill_23 : decode y_M_countTill.2.1 23 = .ok (.aload_n 0, 1) := op_aload_n0 (gk (k := 0) (t := 23) ck_M_countTill_0 rfl)
theorem d_M_countTill_24 : decode y_M_countTill.2.1 24 = .ok (.getfield 12, 3) := op_getfield (gk (k := 0) (t := 24) ck_M_countTill_0 rfl) (gk (k := 0) (t := 25) ck_M_countTill_0 rfl) (gk (k := 0) (t := 26) ck_M_countTill_0 rfl) rfl
theorem lk_M_77 : LkV "SinglesUp$Mind" 77 y_C_leave := ⟨tw_c4 13 (by decide +kernel) rfl, tw_c4 14 (by decide +kernel) rfl, Or.inl (tw_c5 13 (by decide +kernel) rfl)⟩
theorem d_M_countTill_27 : decode y_M_countTill.2.1 27 = .ok (.invokevirtual 77, 3) := op_invokevirtual (gk (k := 0) (t := 27) ck_M_countTill_0 rfl) (gk (k := 0) (t := 28) ck_M_countTill_0 rfl) (gk (k := 0) (t := 29) ck_M_countTill_0 rfl) rfl
theorem d_M_countTill_30 : decode y_M_countTill.2.1 30 = .ok (.pop, 1) := op_pop (gk (k := 0) (t := 30) ck_M_countTill_0 rfl)
theorem d_M_countTill_31 : decode y_M_countTill.2.1 31 = .ok (.aload_n 0, 1) := op_aload_n0 (gk (k := 0) (t := 31) ck_M_countTill_0 rfl)
theorem ck_M_countTill_1 : (y_M_countTill.2.1.data.toList.drop 32).take 32 = [180, 0, 12, 180, 0, 57, 27, 182, 0, 80, 154, 0, 20, 42, 180, 0, 12, 27, 182, 0, 84, 153, 0, 7, 28, 167, 0, 4, 2, 172, 132, 2] := by decide +kernel
theorem d_M_countTill_32 : decode y_M_countTill.2.1 32 = .ok (.getfield 12, 3) := op_getfield (gk (k := 32) (t := 0) ck_M_countTill_1 rfl) (gk (k := 32) (t := 1) ck_M_countTill_1 rfl) (gk (k := 32) (t := 2) ck_M_countTill_1 rfl) rfl
theorem fl_M_57 : FL "SinglesUp$Mind" 57 2 5 := ⟨"SinglesUp$Hill", zT2, 14, rfl, by decide, rfl, Or.inr ⟨"SinglesUp", nw_in 101 (by decide +kernel) rfl⟩⟩
theorem d_M_countTill_35 : decode y_M_countTill.2.1 35 = .ok (.getfield 57, 3) := op_getfield (gk (k := 32) (t := 3) ck_M_countTill_1 rfl) (gk (k := 32) (t := 4) ck_M_countTill_1 rfl) (gk (k := 32) (t := 5) ck_M_countTill_1 rfl) rfl
theorem d_M_countTill_38 : decode y_M_countTill.2.1 38 = .ok (.iload_n 1, 1) := op_iload_n1 (gk (k := 32) (t := 6) ck_M_countTill_1 rfl)
theorem lk_M_80 : LkV "SinglesUp$Mind" 80 y_L_hasNumber := ⟨tw_c5 15 (by decide +kernel) rfl, tw_c5 16 (by decide +kernel) rfl, Or.inl (tw_c5 14 (by decide +kernel) rfl)⟩
set_option maxRecDepth 100000 in
theorem mo_L_hasNumber : MOk y_L_hasNumber 1 := ⟨by decide +kernel, tw_c5 17 rfl rfl, tw_c1 3 (by decide +kernel) rfl, by decide +kernel, by decide +kernel, by decide +kernel⟩
theorem d_M_countTill_39 : decode y_M_countTill.2.1 39 = .ok (.invokevirtual 80, 3) := op_invokevirtual (gk (k := 32) (t := 7) ck_M_countTill_1 rfl) (gk (k := 32) (t := 8) ck_M_countTill_1 rfl) (gk (k := 32) (t := 9) ck_M_countTill_1 rfl) rfl
theorem d_M_countTill_42 : decode y_M_countTill.2.1 42 = .ok (.ifCond .ne 20, 3) := op_if_ne (gk (k := 32) (t := 10) ck_M_countTill_1 rfl) (gk (k := 32) (t := 11) ck_M_countTill_1 rfl) (gk (k := 32) (t := 12) ck_M_countTill_1 rfl) (by decide +kernel)
theorem d_M_countTill_62 : decode y_M_countTill.2.1 62 = .ok (.iinc 2 1, 3) := op_iinc (gk (k := 32) (t := 30) ck_M_countTill_1 rfl) (gk (k := 32) (t := 31) ck_M_countTill_1 rfl) (gk (k := 64) (t := 0) ck_M_countTill_2 rfl) rfl rfl
theorem d_M_countTill_65 : decode y_M_countTill.2.1 65 = .ok (.goto (-63), 3) := op_goto (gk (k := 64) (t := 1) ck_M_countTill_2 rfl) (gk (k := 64) (t := 2) ck_M_countTill_2 rfl) (gk (k := 64) (t := 3) ck_M_countTill_2 rfl) (by decide +kernel)
theorem d_M_countTill_45 : decode y_M_countTill.2.1 45 = .ok (.aload_n 0, 1) := op_aload_n0 (gk (k := 32) (t := 13) ck_M_countTill_1 rfl)
theorem d_M_countTill_46 : decode y_M_countTill.2.1 46 = .ok (.getfield 12, 3) := op_getfield (gk (k := 32) (t := 14) ck_M_countTill_1 rfl) (gk (k := 32) (t := 15) ck_M_countTill_1 rfl) (gk (k := 32) (t := 16) ck_M_countTill_1 rfl) rfl
theorem d_M_countTill_49 : decode y_M_countTill.2.1 49 = .ok (.iload_n 1, 1) := op_iload_n1 (gk (k := 32) (t := 17) ck_M_countTill_1 rfl)
theorem lk_M_84 : LkV "SinglesUp$Mind" 84 y_H_satLast := ⟨tw_c5 19 (by decide +kernel) rfl, tw_c5 20 (by decide +kernel) rfl, Or.inl (tw_c5 18 (by decide +kernel) rfl)⟩
set_option maxRecDepth 100000 in
theorem mo_H_satLast : MOk y_H_satLast 1 := ⟨by decide +kernel, tw_c5 21 rfl rfl, tw_c1 2 (by decide +kernel) rfl, by decide +kernel, by decide +kernel, by decide +kernel⟩
theorem d_M_countTill_50 : decode y_M_countTill.2.1 50 = .ok (.invokevirtual 84, 3) := op_invokevirtual (gk (k := 32) (t := 18) ck_M_countTill_1 rfl) (gk (k := 32) (t := 19) ck_M_countTill_1 rfl) (gk (k := 32) (t := 20) ck_M_countTill_1 rfl) rfl
theorem d_M_countTill_53 : decode y_M_countTill.2.1 53 = .ok (.ifCond .eq 7, 3) := op_if_eq (gk (k := 32) (t := 21) ck_M_countTill_1 rfl) (gk (k := 32) (t := 22) ck_M_countTill_1 rfl) (gk (k := 32) (t := 23) ck_M_countTill_1 rfl) (by decide +kernel)
theorem d_M_countTill_60 : decode y_M_countTill.2.1 60 = .ok (.iconst (-1), 1) := op_iconstm1 (gk (k := 32) (t := 28) ck_M_countTill_1 rfl)
theorem d_M_countTill_61 : decode y_M_countTill.2.1 61 = .ok (.ireturn, 1) := op_ireturn (gk (k := 32) (t := 29) ck_M_countTill_1 rfl)
theorem d_M_countTill_56 : decode y_M_countTill.2.1 56 = .ok (.iload_n 2, 1) := op_iload_n2 (gk (k := 32) (t := 24) ck_M_countTill_1 rfl)
theorem d_M_countTill_57 : decode y_M_countTill.2.1 57 = .ok (.goto 4, 3) := op_goto (gk (k := 32) (t := 25) ck_M_countTill_1 rfl) (gk (k := 32) (t := 26) ck_M_countTill_1 rfl) (gk (k := 32) (t := 27) ck_M_countTill_1 rfl) (by decide +kernel)
def f_S_best (fu : Nat) (o0 : Nat) (a1 : Int) (I0 : IMem) : Res :=
  if a1 < 0 then (
      zr ((-1)) I0)
    else (
      zb (f_F_fillMost fu (o0 + 154) (o0 + 1) ((-1)) I0) fun y1 I2 =>
      if a1 < 10 then (
        if a1 = 0 then (
          zr y1 I2)
        else (
          if a1 = 1 then (
            zr (I2 (o0 + 154) 6) I2)
          else (
            zr ((-1)) I2)))
      else (
        zb (f_F_chosenAt fu (o0 + 154) (wr32 (a1 - 10)) I2) fun y4 I5 =>
        zr y4 I5))
def f_S_look (fu : Nat) (o0 : Nat) (a1 : Int) (I0 : IMem) : Res :=
  zb (f_S_isLine fu a1 I0) fun y1 I2 =>
    if y1 = 0 then (
      zr ((-1)) I2)
    else (
      zg (0 ≤ a1 ∧ a1 < 6) (
      if I2 (o0 + 10) a1.toNat < 24 then (
        zb (f_F_fillMost fu (o0 + 154) (o0 + 1) a1 I2) fun y4 I5 =>
        zb (f_F_fillMost fu (o0 + 154) (o0 + 1) ((-1)) I5) fun y7 I8 =>
        zr (wr32 (y4 - y7)) I8)
      else (
        zr ((-1)) I2)))
def fb_S_heap_38 (fu : Nat) (k_70 : Int → IMem → Res) (o0 : Nat) (p1 : Int) (p2 : Int) (R_ : Int → Int → IMem → Res) (w3 : Int) (w4 : Int) (I0 : IMem) : Res :=
  if w4 < 9 then (
      zg (0 ≤ w4 ∧ w4 < 9) (
      zl (wr32 (w3 + (I0 (o0 + 6) w4.toNat))) fun x2 =>
      zl (wr32 (w4 + 1)) fun x3 =>
      R_ x2 x3 I0))
    else (
      k_70 w3 I0)
def f_S_heap_38 (fu : Nat) (k_70 : Int → IMem → Res) (o0 : Nat) (p1 : Int) (p2 : Int) : Nat → Int → Int → IMem → Res
 | 0 => fun _ _ _ => none
 | n + 1 => fb_S_heap_38 fu k_70 o0 p1 p2 (f_S_heap_38 fu k_70 o0 p1 p2 n)
def f_S_heap (fu : Nat) (o0 : Nat) (a1 : Int) (a2 : Int) (I0 : IMem) : Res :=
  if a1 < 1 then (
      zr 0 I0)
    else (
      if 8 < a1 then (
        zr 0 I0)
      else (
        if a2 < 0 then (
          zr 0 I0)
        else (
          if 9 < a2 then (
            zr 0 I0)
          else (
            zg (0 ≤ a1 ∧ a1 < 9) (
            zl (wr32 (a2 - (I0 (o0 + 6) a1.toNat))) fun x1 =>
            f_S_heap_38 fu (fun (x5 : Int) (I4 : IMem) =>
              if 12 < x5 then (
                zr 0 I4)
              else (
                zg (0 ≤ a1 ∧ a1 < 9) (zw I4 (o0 + 6) a1.toNat a2 fun I6 =>
                zr 1 I6))) o0 a1 a2 fu x1 1 I0)))))
def f_P_inFirst (fu : Nat) (o0 : Nat) (a1 : Int) (I0 : IMem) : Res :=
  zj (fun (x3 : Int) (I2 : IMem) =>
        if x3 = 0 then (
          zr 0 I2)
        else (
          zl (wr32 ((wr32 ((I2 o0 6) * 9)) + a1)) fun x4 =>
          zg (0 ≤ x4 ∧ x4 < 603) (
          zr (I2 (o0 + 1) x4.toNat) I2))) fun k1 =>
      if I0 o0 6 < 0 then (
        k1 0 I0)
      else (
        if I0 o0 6 < 67 then (
          if a1 < 1 then (
            k1 0 I0)
          else (
            if 8 < a1 then (
              k1 0 I0)
            else (
              k1 1 I0)))
        else (
          k1 0 I0))
def fb_P_canGo_17 (fu : Nat) (o0 : Nat) (p1 : Int) (R_ : Int → IMem → Res) (w3 : Int) (I0 : IMem) : Res :=
  if 8 < w3 then (
      zr 1 I0)
    else (
      zl (wr32 ((wr32 (p1 * 9)) + w3)) fun x2 =>
      zg (0 ≤ x2 ∧ x2 < 603) (
      zg (0 ≤ w3 ∧ w3 < 9) (
      if I0 (o0 + 5) w3.toNat < I0 (o0 + 1) x2.toNat then (
        zr 0 I0)
      else (
        zl (wr32 (w3 + 1)) fun x3 =>
        R_ x3 I0))))
def f_P_canGo_17 (fu : Nat) (o0 : Nat) (p1 : Int) : Nat → Int → IMem → Res
 | 0 => fun _ _ => none
 | n + 1 => fb_P_canGo_17 fu o0 p1 (f_P_canGo_17 fu o0 p1 n)
def f_P_canGo (fu : Nat) (o0 : Nat) (a1 : Int) (a2 : Int) (I0 : IMem) : Res :=
  zl (wr32 (a1 * 9)) fun x1 =>
    zg (0 ≤ x1 ∧ x1 < 603) (
    if a2 < I0 (o0 + 1) x1.toNat then (
      zr 0 I0)
    else (
      f_P_canGo_17 fu  o0 a1 fu 1 I0))
def fb_P_firstWay_3 (fu : Nat) (k_22 : Int → IMem → Res) (o0 : Nat) (p1 : Int) (p2 : Int) (R_ : Int → IMem → Res) (w3 : Int) (I0 : IMem) : Res :=
  if 0 < w3 then (
      zg (0 ≤ w3 ∧ w3 < 9) (
      if I0 (o0 + 5) w3.toNat = 0 then (
        zl (wr32 (w3 + (-1))) fun x1 =>
        R_ x1 I0)
      else (
        k_22 w3 I0)))
    else (
      k_22 w3 I0)
def f_P_firstWay_3 (fu : Nat) (k_22 : Int → IMem → Res) (o0 : Nat) (p1 : Int) (p2 : Int) : Nat → Int → IMem → Res
 | 0 => fun _ _ => none
 | n + 1 => fb_P_firstWay_3 fu k_22 o0 p1 p2 (f_P_firstWay_3 fu k_22 o0 p1 p2 n)
def fb_P_firstWay_31 (fu : Nat) (o0 : Nat) (p1 : Int) (p2 : Int) (p3 : Int) (R_ : Int → Int → Int → IMem → Res) (w4 : Int) (w5 : Int) (w6 : Int) (I0 : IMem) : Res :=
  if w6 < I0 o0 2 then (
      if w6 < 67 then (
        zg (0 ≤ w6 ∧ w6 < 67) (
        zl (wr32 (p1 - (I0 (o0 + 3) w6.toNat))) fun x4 =>
        zg (0 ≤ w6 ∧ w6 < 67) (
        zj (fun (x7 : Int) (x8 : Int) (I6 : IMem) =>
            zl (wr32 (w6 + 1)) fun x9 =>
            R_ x7 x8 x9 I6) fun k5 =>
          if I0 (o0 + 2) w6.toNat = p3 then (
            zb (f_P_canGo fu o0 w6 p2 I0) fun y10 I11 =>
            if y10 = 0 then (
              k5 w4 w5 I11)
            else (
              if x4 < 0 then (
                k5 w4 w5 I11)
              else (
                if x4 < 1296 then (
                  zj (fun  (I14 : IMem) =>
                      zg (0 ≤ x4 ∧ x4 < 1296) (
                      zl (I14 (o0 + 4) x4.toNat) fun x15 =>
                      k5 w6 x15 I14)) fun k13 =>
                    if w4 = (-1) then (
                      k13 I11)
                    else (
                      zg (0 ≤ x4 ∧ x4 < 1296) (
                      if I11 (o0 + 4) x4.toNat < w5 then (
                        k13 I11)
                      else (
                        k5 w4 w5 I11))))
                else (
                  k5 w4 w5 I11))))
          else (
            k5 w4 w5 I0))))
      else (
        zr w4 I0))
    else (
      zr w4 I0)
def f_P_firstWay_31 (fu : Nat) (o0 : Nat) (p1 : Int) (p2 : Int) (p3 : Int) : Nat → Int → Int → Int → IMem → Res
 | 0 => fun _ _ _ _ => none
 | n + 1 => fb_P_firstWay_31 fu o0 p1 p2 p3 (f_P_firstWay_31 fu o0 p1 p2 p3 n)
def f_P_firstWay (fu : Nat) (o0 : Nat) (a1 : Int) (a2 : Int) (I0 : IMem) : Res :=
  f_P_firstWay_3 fu (fun (x3 : Int) (I2 : IMem) =>
      f_P_firstWay_31 fu  o0 a1 a2 x3 fu ((-1)) 0 0 I2) o0 a1 a2 fu 8 I0
def fb_P_goOn_2 (fu : Nat) (k_26 : Int → IMem → Res) (o0 : Nat) (o1 n1 : Nat) (R_ : Int → IMem → Res) (w2 : Int) (I0 : IMem) : Res :=
  if 8 < w2 then (
      zr 0 I0)
    else (
      if w2 < (n1 : Int) then (
        zg (0 ≤ w2 ∧ w2 < 9) (
        zg (0 ≤ w2 ∧ w2 < n1) (
        if I0 (o0 + 5) w2.toNat < I0 o1 w2.toNat then (
          k_26 w2 I0)
        else (
          zg (0 ≤ w2 ∧ w2 < 9) (zw I0 (o0 + 5) w2.toNat 0 fun I1 =>
          zl (wr32 (w2 + 1)) fun x2 =>
          R_ x2 I1)))))
      else (
        zr 0 I0))
def f_P_goOn_2 (fu : Nat) (k_26 : Int → IMem → Res) (o0 : Nat) (o1 n1 : Nat) : Nat → Int → IMem → Res
 | 0 => fun _ _ => none
 | n + 1 => fb_P_goOn_2 fu k_26 o0 o1 n1 (f_P_goOn_2 fu k_26 o0 o1 n1 n)
def f_P_goOn (fu : Nat) (o0 : Nat) (o1 n1 : Nat) (I0 : IMem) : Res :=
  f_P_goOn_2 fu (fun (x4 : Int) (I3 : IMem) =>
      zg (0 ≤ x4 ∧ x4 < 9) (
      zg (0 ≤ x4 ∧ x4 < 9) (zw I3 (o0 + 5) x4.toNat (wr32 ((I3 (o0 + 5) x4.toNat) + 1)) fun I5 =>
      zr 0 I5))) o0 o1 n1 fu 1 I0
def fb_P_numberAll_27 (fu : Nat) (k_64 : IMem → Res) (o0 : Nat) (o1 n1 : Nat) (p2 : Int) (p3 : Int) (R_ : Int → IMem → Res) (w4 : Int) (I0 : IMem) : Res :=
  if w4 < 67 then (
      zg (0 ≤ w4 ∧ w4 < 67) (
      zl (wr32 ((wr32 (w4 * 9)) + p3)) fun x4 =>
      zg (0 ≤ x4 ∧ x4 < 603) (
      zg (0 ≤ w4 ∧ w4 < 67) (zw I0 (o0 + 3) w4.toNat (wr32 ((I0 (o0 + 3) w4.toNat) + (wr32 (p2 * (I0 (o0 + 1) x4.toNat))))) fun I5 =>
      zl (wr32 (w4 + 1)) fun x6 =>
      R_ x6 I5))))
    else (
      k_64 I0)
def f_P_numberAll_27 (fu : Nat) (k_64 : IMem → Res) (o0 : Nat) (o1 n1 : Nat) (p2 : Int) (p3 : Int) : Nat → Int → IMem → Res
 | 0 => fun _ _ => none
 | n + 1 => fb_P_numberAll_27 fu k_64 o0 o1 n1 p2 p3 (f_P_numberAll_27 fu k_64 o0 o1 n1 p2 p3 n)
def fb_P_numberAll_12 (fu : Nat) (o0 : Nat) (o1 n1 : Nat) (R_ : Int → Int → IMem → Res) (w2 : Int) (w3 : Int) (I0 : IMem) : Res :=
  if 8 < w3 then (
      zr w2 I0)
    else (
      if w3 < (n1 : Int) then (
        f_P_numberAll_27 fu (fun  (I7 : IMem) =>
          zg (0 ≤ w3 ∧ w3 < n1) (
          zl (wr32 (w2 * (wr32 ((I7 o1 w3.toNat) + 1)))) fun x8 =>
          zl (wr32 (w3 + 1)) fun x9 =>
          R_ x8 x9 I7)) o0 o1 n1 w2 w3 fu 0 I0)
      else (
        zr w2 I0))
def f_P_numberAll_12 (fu : Nat) (o0 : Nat) (o1 n1 : Nat) : Nat → Int → Int → IMem → Res
 | 0 => fun _ _ _ => none
 | n + 1 => fb_P_numberAll_12 fu o0 o1 n1 (f_P_numberAll_12 fu o0 o1 n1 n)
def f_P_numberAll (fu : Nat) (o0 : Nat) (o1 n1 : Nat) (I0 : IMem) : Res :=
  zb (f_JA_fill fu (o0 + 3) 67 0 I0) fun _ I2 =>
    f_P_numberAll_12 fu  o0 o1 n1 fu 1 1 I2
def fb_P_pack_22 (fu : Nat) (k_115 : IMem → Res) (o0 : Nat) (o1 n1 : Nat) (p2 : Int) (p3 : Int) (R_ : Int → IMem → Res) (w4 : Int) (I0 : IMem) : Res :=
  if w4 < p3 then (
      if w4 < 1296 then (
        zb (f_P_goOn fu o0 o1 n1 I0) fun _ I9 =>
        zb (f_P_firstWay fu o0 w4 p2 I9) fun y11 I12 =>
        zw I12 o0 6 y11 fun I14 =>
        if I14 o0 6 = (-1) then (
          zr ((-1)) I14)
        else (
          zl (I14 o0 6) fun x15 =>
          zg (0 ≤ x15 ∧ x15 < 67) (
          zl (wr32 (w4 - (I14 (o0 + 3) x15.toNat))) fun x16 =>
          zj (fun (x19 : Int) (I18 : IMem) =>
              zg (0 ≤ w4 ∧ w4 < 1296) (zw I18 (o0 + 4) w4.toNat x19 fun I20 =>
              zl (wr32 (w4 + 1)) fun x21 =>
              R_ x21 I20)) fun k17 =>
            if x16 < 0 then (
              k17 ((-1)) I14)
            else (
              if x16 < 1296 then (
                zg (0 ≤ x16 ∧ x16 < 1296) (
                k17 (wr32 (1 + (I14 (o0 + 4) x16.toNat))) I14))
              else (
                k17 ((-1)) I14)))))
      else (
        k_115 I0))
    else (
      k_115 I0)
def f_P_pack_22 (fu : Nat) (k_115 : IMem → Res) (o0 : Nat) (o1 n1 : Nat) (p2 : Int) (p3 : Int) : Nat → Int → IMem → Res
 | 0 => fun _ _ => none
 | n + 1 => fb_P_pack_22 fu k_115 o0 o1 n1 p2 p3 (f_P_pack_22 fu k_115 o0 o1 n1 p2 p3 n)
def f_P_pack (fu : Nat) (o0 : Nat) (o1 n1 : Nat) (a2 : Int) (I0 : IMem) : Res :=
  zb (f_P_numberAll fu o0 o1 n1 I0) fun y1 I2 =>
    zb (f_JA_fill fu (o0 + 5) 9 0 I2) fun _ I5 =>
    zw I5 o0 6 ((-1)) fun I7 =>
    f_P_pack_22 fu (fun  (I22 : IMem) =>
      if y1 < 1 then (
        zr ((-1)) I22)
      else (
        if 1296 < y1 then (
          zr ((-1)) I22)
        else (
          zl (wr32 (y1 - 1)) fun x23 =>
          zg (0 ≤ x23 ∧ x23 < 1296) (
          zr (I22 (o0 + 4) x23.toNat) I22)))) o0 o1 n1 a2 y1 fu 1 I7
def f_S_fewest (fu : Nat) (o0 : Nat) (a1 : Int) (I0 : IMem) : Res :=
  if a1 < 0 then (
      zr ((-1)) I0)
    else (
      if 8 < a1 then (
        zr ((-1)) I0)
      else (
        zb (f_P_pack fu (o0 + 160) (o0 + 6) 9 (I0 (o0 + 2) 0) I0) fun y1 I2 =>
        if a1 = 0 then (
          zr y1 I2)
        else (
          if y1 = (-1) then (
            zr y1 I2)
          else (
            zb (f_P_inFirst fu (o0 + 160) a1 I2) fun y4 I5 =>
            zr y4 I5))))
def fb_M_allWait_4 (fu : Nat) (o0 : Nat) (R_ : Int → Int → IMem → Res) (w1 : Int) (w2 : Int) (I0 : IMem) : Res :=
  if 8 < w2 then (
      zr w1 I0)
    else (
      zl (wr32 (20 + w2)) fun x1 =>
      zg (0 ≤ x1 ∧ x1 < 40) (
      zl (wr32 (w1 + (I0 (o0 + 10) x1.toNat))) fun x2 =>
      zl (wr32 (w2 + 1)) fun x3 =>
      R_ x2 x3 I0))
def f_M_allWait_4 (fu : Nat) (o0 : Nat) : Nat → Int → Int → IMem → Res
 | 0 => fun _ _ _ => none
 | n + 1 => fb_M_allWait_4 fu o0 (f_M_allWait_4 fu o0 n)
def f_M_allWait (fu : Nat) (o0 : Nat) (I0 : IMem) : Res :=
  f_M_allWait_4 fu  o0 fu 0 1 I0
def fb_M_longest_4 (fu : Nat) (o0 : Nat) (R_ : Int → Int → IMem → Res) (w1 : Int) (w2 : Int) (I0 : IMem) : Res :=
  if 8 < w2 then (
      zr w1 I0)
    else (
      zl (wr32 (30 + w2)) fun x1 =>
      zg (0 ≤ x1 ∧ x1 < 40) (
      zb (f_JM_max fu w1 (I0 (o0 + 11) x1.toNat) I0) fun y2 I3 =>
      zl (wr32 (w2 + 1)) fun x5 =>
      R_ y2 x5 I3))
def f_M_longest_4 (fu : Nat) (o0 : Nat) : Nat → Int → Int → IMem → Res
 | 0 => fun _ _ _ => none
 | n + 1 => fb_M_longest_4 fu o0 (f_M_longest_4 fu o0 n)
def f_M_longest (fu : Nat) (o0 : Nat) (I0 : IMem) : Res :=
  f_M_longest_4 fu  o0 fu 0 1 I0
def f_M_gained (fu : Nat) (o0 : Nat) (o1 : Nat) (a2 : Int) (I0 : IMem) : Res :=
  if a2 = 0 then (
      zr (wr32 ((I0 (o0 + 11) 1) - (I0 (o1 + 10) 1))) I0)
    else if a2 = 1 then (
      zr (wr32 ((I0 (o0 + 11) 2) - (I0 (o1 + 10) 2))) I0)
    else if a2 = 2 then (
      zb (f_M_allWait fu (o0 + 1) I0) fun y4 I5 =>
      zb (f_M_allWait fu o1 I5) fun y7 I8 =>
      zr (wr32 (y4 - y7)) I8)
    else if a2 = 3 then (
      zr (wr32 ((I0 (o0 + 11) 6) - (I0 (o1 + 10) 6))) I0)
    else if a2 = 4 then (
      zr (wr32 ((I0 (o0 + 11) 5) - (I0 (o1 + 10) 5))) I0)
    else (
      zb (f_M_longest fu o0 I0) fun y12 I13 =>
      zr y12 I13)
def f_L_copyFrom (fu : Nat) (o0 : Nat) (o1 : Nat) (I0 : IMem) : Res :=
  zg ((0 : Int) ≤ 0 ∧ (0 : Int) ≤ 0 ∧ (0 : Int) ≤ 1440 ∧ (0 : Int) + 1440 ≤ 1440 ∧ (0 : Int) + 1440 ≤ 1440) (zc I0 (o1 + 1) 0 (o0 + 1) 0 1440 fun I1 =>
    zg ((0 : Int) ≤ 0 ∧ (0 : Int) ≤ 0 ∧ (0 : Int) ≤ 6 ∧ (0 : Int) + 6 ≤ 6 ∧ (0 : Int) + 6 ≤ 6) (zc I1 (o1 + 2) 0 (o0 + 2) 0 6 fun I2 =>
    zg ((0 : Int) ≤ 0 ∧ (0 : Int) ≤ 0 ∧ (0 : Int) ≤ 6 ∧ (0 : Int) + 6 ≤ 6 ∧ (0 : Int) + 6 ≤ 6) (zc I2 (o1 + 3) 0 (o0 + 3) 0 6 fun I3 =>
    zr 0 I3)))
def fb_H_copyFrom_2 (fu : Nat) (k_41 : IMem → Res) (o0 : Nat) (o1 : Nat) (R_ : Int → IMem → Res) (w2 : Int) (I0 : IMem) : Res :=
  if w2 < 5 then (
      if w2 < 5 then (
        zg (0 ≤ w2 ∧ w2 < 5) (
        zg (0 ≤ w2 ∧ w2 < 5) (
        zb (f_W_copyFrom fu (o0 + 15 + 5 * w2.toNat) (o1 + 15 + 5 * w2.toNat) I0) fun _ I4 =>
        zl (wr32 (w2 + 1)) fun x6 =>
        R_ x6 I4)))
      else (
        k_41 I0))
    else (
      k_41 I0)
def f_H_copyFrom_2 (fu : Nat) (k_41 : IMem → Res) (o0 : Nat) (o1 : Nat) : Nat → Int → IMem → Res
 | 0 => fun _ _ => none
 | n + 1 => fb_H_copyFrom_2 fu k_41 o0 o1 (f_H_copyFrom_2 fu k_41 o0 o1 n)
def f_H_copyFrom (fu : Nat) (o0 : Nat) (o1 : Nat) (I0 : IMem) : Res :=
  f_H_copyFrom_2 fu (fun  (I7 : IMem) =>
      zb (f_L_copyFrom fu (o0 + 6) (o1 + 6) I7) fun _ I9 =>
      zg ((0 : Int) ≤ 0 ∧ (0 : Int) ≤ 0 ∧ (0 : Int) ≤ 6 ∧ (0 : Int) + 6 ≤ 6 ∧ (0 : Int) + 6 ≤ 6) (zc I9 (o1 + 1) 0 (o0 + 1) 0 6 fun I11 =>
      zg ((0 : Int) ≤ 0 ∧ (0 : Int) ≤ 0 ∧ (0 : Int) ≤ 9 ∧ (0 : Int) + 9 ≤ 9 ∧ (0 : Int) + 9 ≤ 9) (zc I11 (o1 + 3) 0 (o0 + 3) 0 9 fun I12 =>
      zg ((0 : Int) ≤ 0 ∧ (0 : Int) ≤ 0 ∧ (0 : Int) ≤ 32 ∧ (0 : Int) + 32 ≤ 32 ∧ (0 : Int) + 32 ≤ 32) (zc I12 (o1 + 4) 0 (o0 + 4) 0 32 fun I13 =>
      zg ((0 : Int) ≤ 0 ∧ (0 : Int) ≤ 0 ∧ (0 : Int) ≤ 9 ∧ (0 : Int) + 9 ≤ 9 ∧ (0 : Int) + 9 ≤ 9) (zc I13 (o1 + 5) 0 (o0 + 5) 0 9 fun I14 =>
      zg ((0 : Int) ≤ 0 ∧ (0 : Int) ≤ 0 ∧ (0 : Int) ≤ 40 ∧ (0 : Int) + 40 ≤ 40 ∧ (0 : Int) + 40 ≤ 40) (zc I14 (o1 + 10) 0 (o0 + 10) 0 40 fun I15 =>
      zg ((0 : Int) ≤ 0 ∧ (0 : Int) ≤ 0 ∧ (0 : Int) ≤ 30 ∧ (0 : Int) + 30 ≤ 30 ∧ (0 : Int) + 30 ≤ 30) (zc I15 (o1 + 11) 0 (o0 + 11) 0 30 fun I16 =>
      zg ((0 : Int) ≤ 0 ∧ (0 : Int) ≤ 0 ∧ (0 : Int) ≤ 180 ∧ (0 : Int) + 180 ≤ 180 ∧ (0 : Int) + 180 ≤ 180) (zc I16 (o1 + 12) 0 (o0 + 12) 0 180 fun I17 =>
      zw I17 o0 6 (I17 o1 6) fun I18 =>
      zw I18 o0 7 (I18 o1 7) fun I19 =>
      zw I19 o0 11 (I19 o1 11) fun I20 =>
      zr 0 I20)))))))) o0 o1 fu 0 I0
def f_M_imagine (fu : Nat) (o0 : Nat) (o1 : Nat) (a2 : Int) (a3 : Int) (a4 : Int) (a5 : Int) (I0 : IMem) : Res :=
  zb (f_H_copyFrom fu (o0 + 1) o1 I0) fun _ I2 =>
    zw I2 (o0 + 2) 5 a2 fun I4 =>
    zw I4 (o0 + 2) 4 a3 fun I5 =>
    zw I5 (o0 + 2) 0 a4 fun I6 =>
    zb (f_C_turns fu (o0 + 41) (o0 + 1) a5 I6) fun y7 I8 =>
    zr 0 I8
def f_S_thought (fu : Nat) (o0 : Nat) (a1 : Int) (a2 : Int) (a3 : Int) (a4 : Int) (a5 : Int) (I0 : IMem) : Res :=
  zb (f_S_canTell fu 5 a1 I0) fun y1 I2 =>
    if y1 = 0 then (
      zr ((-1)) I2)
    else (
      zb (f_S_canTell fu 4 a2 I2) fun y4 I5 =>
      if y4 = 0 then (
        zr ((-1)) I5)
      else (
        zb (f_S_canTell fu 0 a3 I5) fun y7 I8 =>
        if y7 = 0 then (
          zr ((-1)) I8)
        else (
          if a4 < 1 then (
            zr ((-1)) I8)
          else (
            if 40 < a4 then (
              zr ((-1)) I8)
            else (
              if a5 < 0 then (
                zr ((-1)) I8)
              else (
                if 5 < a5 then (
                  zr ((-1)) I8)
                else (
                  zb (f_M_imagine fu (o0 + 81) (o0 + 1) a1 a2 a3 a4 I8) fun _ I11 =>
                  zb (f_M_gained fu (o0 + 81) (o0 + 1) a5 I11) fun y13 I14 =>
                  zr y13 I14)))))))
def f_S_price (fu : Nat) (o0 : Nat) (a1 : Int) (a2 : Int) (I0 : IMem) : Res :=
  zb (f_S_canTell fu 4 a1 I0) fun y1 I2 =>
    if y1 = 0 then (
      zr ((-1000000)) I2)
    else (
      if a2 < 1 then (
        zr ((-1000000)) I2)
      else (
        if 40 < a2 then (
          zr ((-1000000)) I2)
        else (
          zl (I2 (o0 + 2) 5) fun x4 =>
          zl (I2 (o0 + 2) 0) fun x5 =>
          zb (f_M_imagine fu (o0 + 81) (o0 + 1) x4 a1 x5 a2 I2) fun _ I7 =>
          zb (f_M_gained fu (o0 + 81) (o0 + 1) 0 I7) fun y9 I10 =>
          zb (f_M_imagine fu (o0 + 81) (o0 + 1) x4 0 x5 a2 I10) fun _ I13 =>
          zb (f_M_gained fu (o0 + 81) (o0 + 1) 0 I13) fun y15 I16 =>
          zr (wr32 (y9 - y15)) I16)))
def fb_H_satLast_2 (fu : Nat) (o0 : Nat) (p1 : Int) (R_ : Int → IMem → Res) (w2 : Int) (I0 : IMem) : Res :=
  if w2 < I0 (o0 + 11) 0 then (
      if w2 < 8 then (
        zl (wr32 (10 + w2)) fun x1 =>
        zg (0 ≤ x1 ∧ x1 < 30) (
        if I0 (o0 + 11) x1.toNat = p1 then (
          zr 1 I0)
        else (
          zl (wr32 (w2 + 1)) fun x2 =>
          R_ x2 I0)))
      else (
        zr 0 I0))
    else (
      zr 0 I0)
def f_H_satLast_2 (fu : Nat) (o0 : Nat) (p1 : Int) : Nat → Int → IMem → Res
 | 0 => fun _ _ => none
 | n + 1 => fb_H_satLast_2 fu o0 p1 (f_H_satLast_2 fu o0 p1 n)
def f_H_satLast (fu : Nat) (o0 : Nat) (a1 : Int) (I0 : IMem) : Res :=
  f_H_satLast_2 fu  o0 a1 fu 0 I0
def fb_L_hasNumber_10 (fu : Nat) (k_43 : IMem → Res) (o0 : Nat) (p1 : Int) (p2 : Int) (R_ : Int → IMem → Res) (w3 : Int) (I0 : IMem) : Res :=
  zg (0 ≤ p2 ∧ p2 < 6) (
    if w3 < I0 (o0 + 2) p2.toNat then (
      zb (f_L_get fu o0 (wr32 ((wr32 (p2 * 40)) + w3)) 0 I0) fun y1 I2 =>
      if y1 = p1 then (
        zr 1 I2)
      else (
        zl (wr32 (w3 + 1)) fun x4 =>
        R_ x4 I2))
    else (
      k_43 I0))
def f_L_hasNumber_10 (fu : Nat) (k_43 : IMem → Res) (o0 : Nat) (p1 : Int) (p2 : Int) : Nat → Int → IMem → Res
 | 0 => fun _ _ => none
 | n + 1 => fb_L_hasNumber_10 fu k_43 o0 p1 p2 (f_L_hasNumber_10 fu k_43 o0 p1 p2 n)
def fb_L_hasNumber_2 (fu : Nat) (o0 : Nat) (p1 : Int) (R_ : Int → IMem → Res) (w2 : Int) (I0 : IMem) : Res :=
  if w2 < 6 then (
      f_L_hasNumber_10 fu (fun  (I5 : IMem) =>
        zl (wr32 (w2 + 1)) fun x6 =>
        R_ x6 I5) o0 p1 w2 fu 0 I0)
    else (
      zr 0 I0)
def f_L_hasNumber_2 (fu : Nat) (o0 : Nat) (p1 : Int) : Nat → Int → IMem → Res
 | 0 => fun _ _ => none
 | n + 1 => fb_L_hasNumber_2 fu o0 p1 (f_L_hasNumber_2 fu o0 p1 n)
def f_L_hasNumber (fu : Nat) (o0 : Nat) (a1 : Int) (I0 : IMem) : Res :=
  f_L_hasNumber_2 fu  o0 a1 fu 0 I0
def fb_M_countTill_2 (fu : Nat) (k_45 : Int → IMem → Res) (o0 : Nat) (p1 : Int) (R_ : Int → IMem → Res) (w2 : Int) (I0 : IMem) : Res :=
  if 40 < w2 then (
      zr ((-1)) I0)
    else (
      zb (f_C_fill fu (o0 + 41) (o0 + 1) I0) fun _ I2 =>
      zb (f_C_leave fu (o0 + 41) (o0 + 1) I2) fun y4 I5 =>
      zb (f_L_hasNumber fu (o0 + 7) p1 I5) fun y7 I8 =>
      if y7 = 0 then (
        k_45 w2 I8)
      else (
        zl (wr32 (w2 + 1)) fun x10 =>
        R_ x10 I8))
def f_M_countTill_2 (fu : Nat) (k_45 : Int → IMem → Res) (o0 : Nat) (p1 : Int) : Nat → Int → IMem → Res
 | 0 => fun _ _ => none
 | n + 1 => fb_M_countTill_2 fu k_45 o0 p1 (f_M_countTill_2 fu k_45 o0 p1 n)
def f_M_countTill (fu : Nat) (o0 : Nat) (a1 : Int) (I0 : IMem) : Res :=
  f_M_countTill_2 fu (fun (x12 : Int) (I11 : IMem) =>
      zb (f_H_satLast fu (o0 + 1) a1 I11) fun y13 I14 =>
      if y13 = 0 then (
        zr ((-1)) I14)
      else (
        zr x12 I14)) o0 a1 fu 1 I0
section
variable {l : Launch} {b : PB}
set_option maxRecDepth 20000 in
theorem t_S_best (fu : Nat) (o0 : Nat) (a1 : Int) (I0 : IMem) (hI : RG I0) (h_o0 : KC[o0]? = some (11, 9)) (h_a1 : inr a1) {r : Int × IMem} (hf : f_S_best fu o0 a1 I0 = some r) : Ss l b 5 y_S_best KC RC [.ref o0, .int (iv a1)] (ivm I0) (Ps r) := by
  unfold f_S_best at hf
  refine Ss.of (show Ai l b 5 y_S_best KC RC (Ps r) I0 0 [.ref o0, .int (iv a1), uu] [] from ?_)
  refine aw_iload_n rfl rfl d_S_best_0 ?_
  refine ai_if_ge h_a1 hf (tgt := 6) (by decide) d_S_best_1 (fun hf => ?_) (fun hf => ?_)
  · refine aw_aload_n rfl rfl d_S_best_6 (aw_getr (r := o0 + 154) fl_S_46 h_o0 (by decide) rfl (rc_8_6 _ h_o0).1 d_S_best_7 (aw_aload_n rfl rfl d_S_best_10 (aw_getr (r := o0 + 1) fl_S_12 h_o0 (by decide) rfl (rc_8_0 _ h_o0).1 d_S_best_11 (aw_iconst (v := iv (-1)) rfl d_S_best_14 ?_))))
    obtain ⟨y1, I2, c3, hf⟩ := of_zb hf
    refine ai_callV (as := [.ref (o0 + 1), .int (iv ((-1)))]) (d' := 4) (q := ("SinglesUp$Filling", zT1, 7)) mo_F_fillMost lk_S_200 (rc_8_6 _ h_o0).2 rfl rfl rfl ⟨by decide, by decide⟩ rfl rfl (by decide) d_S_best_15 (t_F_fillMost fu (o0 + 154) (o0 + 1) ((-1)) I0 hI (rc_8_6 _ h_o0).2 (rc_8_0 _ h_o0).2 in_m1 c3) (fun h_y1 h_I2 => ?_)
    refine aw_istore_n (lv2 := [.ref o0, .int (iv a1), .int (iv y1)]) rfl (Nat.le_of_ble_eq_true rfl) rfl d_S_best_18 (aw_iload_n rfl rfl d_S_best_19 (aw_bipush (v := iv 10) cb_10 d_S_best_20 ?_))
    refine ai_icmp_ge h_a1 in_10 hf (tgt := 50) (by decide) d_S_best_22 (fun hf => ?_) (fun hf => ?_)
    · refine aw_aload_n rfl rfl d_S_best_50 (aw_getr (r := o0 + 154) fl_S_46 h_o0 (by decide) rfl (rc_8_6 _ h_o0).1 d_S_best_51 (aw_iload_n rfl rfl d_S_best_54 (aw_bipush (v := iv 10) cb_10 d_S_best_55 (ai_isub d_S_best_57 ?_))))
      obtain ⟨y4, I5, c6, hf⟩ := of_zb hf
      refine ai_callV (as := [.int (iv (wr32 (a1 - 10)))]) (d' := 1) (q := ("SinglesUp$Filling", zT1, 7)) mo_F_chosenAt lk_S_206 (rc_8_6 _ h_o0).2 rfl rfl rfl ⟨by decide, by decide⟩ rfl rfl (by decide) d_S_best_58 (t_F_chosenAt fu (o0 + 154) (wr32 (a1 - 10)) I2 h_I2 (rc_8_6 _ h_o0).2 (wr32_in _) c6) (fun h_y4 h_I5 => ?_)
      exact ai_reti rfl d_S_best_61 hf h_y4 h_I5
    · refine aw_iload_n rfl rfl d_S_best_25 ?_
      refine ai_if_ne h_a1 hf (tgt := 33) (by decide) d_S_best_26 (fun hf => ?_) (fun hf => ?_)
      · refine aw_iload_n rfl rfl d_S_best_33 (aw_iconst (v := iv 1) rfl d_S_best_34 ?_)
        refine ai_icmp_ne h_a1 in_1 hf (tgt := 48) (by decide) d_S_best_35 (fun hf => ?_) (fun hf => ?_)
        · refine aw_iconst (v := iv (-1)) rfl d_S_best_48 ?_
          exact ai_reti rfl d_S_best_49 hf in_m1 h_I2
        · refine aw_aload_n rfl rfl d_S_best_38 (aw_getr (r := o0 + 154) fl_S_46 h_o0 (by decide) rfl (rc_8_6 _ h_o0).1 d_S_best_39 (ai_geti fl_S_203 (rc_8_6 _ h_o0).2 (by decide) rfl d_S_best_42 (aw_goto (tgt := 49) (by decide) d_S_best_45 ?_)))
          exact ai_reti rfl d_S_best_49 hf (h_I2 (o0 + 154) 6) h_I2
      · refine aw_iload_n rfl rfl d_S_best_29 (aw_goto (tgt := 49) (by decide) d_S_best_30 ?_)
        exact ai_reti rfl d_S_best_49 hf h_y1 h_I2
  · refine aw_iconst (v := iv (-1)) rfl d_S_best_4 ?_
    exact ai_reti rfl d_S_best_5 hf in_m1 hI
set_option maxRecDepth 20000 in
theorem t_S_look (fu : Nat) (o0 : Nat) (a1 : Int) (I0 : IMem) (hI : RG I0) (h_o0 : KC[o0]? = some (11, 9)) (h_a1 : inr a1) {r : Int × IMem} (hf : f_S_look fu o0 a1 I0 = some r) : Ss l b 5 y_S_look KC RC [.ref o0, .int (iv a1)] (ivm I0) (Ps r) := by
  unfold f_S_look at hf
  refine Ss.of (show Ai l b 5 y_S_look KC RC (Ps r) I0 0 [.ref o0, .int (iv a1)] [] from ?_)
  refine aw_iload_n rfl rfl d_S_look_0 ?_
  obtain ⟨y1, I2, c3, hf⟩ := of_zb hf
  refine ai_callS (as := [.int (iv a1)]) (d' := 1) mo_S_isLine lk_S_73 rfl ⟨by decide, by decide⟩ rfl rfl (by decide) d_S_look_1 (t_S_isLine fu a1 I0 hI h_a1 c3) (fun h_y1 h_I2 => ?_)
  refine ai_if_eq h_y1 hf (tgt := 24) (by decide) d_S_look_4 (fun hf => ?_) (fun hf => ?_)
  · refine aw_iconst (v := iv (-1)) rfl d_S_look_24 ?_
    exact ai_reti rfl d_S_look_25 hf in_m1 h_I2
  · refine aw_aload_n rfl rfl d_S_look_7 (aw_getr (r := o0 + 1) fl_S_12 h_o0 (by decide) rfl (rc_8_0 _ h_o0).1 d_S_look_8 (aw_getr (r := o0 + 7) fl_S_77 ((rc_8_0 _ h_o0).2) (by decide) rfl (rc_2_5 _ (rc_8_0 _ h_o0).2).1 d_S_look_11 (aw_getr (r := o0 + 10) fl_S_81 ((rc_2_5 _ (rc_8_0 _ h_o0).2).2) (by decide) rfl (rc_4_2 _ (rc_2_5 _ (rc_8_0 _ h_o0).2).2).1 d_S_look_14 (aw_iload_n rfl rfl d_S_look_17 ?_))))
    refine ai_iald (rc_4_2 _ (rc_2_5 _ (rc_8_0 _ h_o0).2).2).2 rfl h_a1 hf d_S_look_18 (fun _ hf => ?_)
    refine aw_bipush (v := iv 24) cb_24 d_S_look_19 ?_
    refine ai_icmp_lt (h_I2 (o0 + 10) a1.toNat) in_24 hf (tgt := 26) (by decide) d_S_look_21 (fun hf => ?_) (fun hf => ?_)
    · refine aw_aload_n rfl rfl d_S_look_26 (aw_getr (r := o0 + 154) fl_S_46 h_o0 (by decide) rfl (rc_8_6 _ h_o0).1 d_S_look_27 (aw_aload_n rfl rfl d_S_look_30 (aw_getr (r := o0 + 1) fl_S_12 h_o0 (by decide) rfl (rc_8_0 _ h_o0).1 d_S_look_31 (aw_iload_n rfl rfl d_S_look_34 ?_))))
      obtain ⟨y4, I5, c6, hf⟩ := of_zb hf
      refine ai_callV (as := [.ref (o0 + 1), .int (iv a1)]) (d' := 4) (q := ("SinglesUp$Filling", zT1, 7)) mo_F_fillMost lk_S_200 (rc_8_6 _ h_o0).2 rfl rfl rfl ⟨by decide, by decide⟩ rfl rfl (by decide) d_S_look_35 (t_F_fillMost fu (o0 + 154) (o0 + 1) a1 I2 h_I2 (rc_8_6 _ h_o0).2 (rc_8_0 _ h_o0).2 h_a1 c6) (fun h_y4 h_I5 => ?_)
      refine aw_aload_n rfl rfl d_S_look_38 (aw_getr (r := o0 + 154) fl_S_46 h_o0 (by decide) rfl (rc_8_6 _ h_o0).1 d_S_look_39 (aw_aload_n rfl rfl d_S_look_42 (aw_getr (r := o0 + 1) fl_S_12 h_o0 (by decide) rfl (rc_8_0 _ h_o0).1 d_S_look_43 (aw_iconst (v := iv (-1)) rfl d_S_look_46 ?_))))
      obtain ⟨y7, I8, c9, hf⟩ := of_zb hf
      refine ai_callV (as := [.ref (o0 + 1), .int (iv ((-1)))]) (d' := 4) (q := ("SinglesUp$Filling", zT1, 7)) mo_F_fillMost lk_S_200 (rc_8_6 _ h_o0).2 rfl rfl rfl ⟨by decide, by decide⟩ rfl rfl (by decide) d_S_look_47 (t_F_fillMost fu (o0 + 154) (o0 + 1) ((-1)) I5 h_I5 (rc_8_6 _ h_o0).2 (rc_8_0 _ h_o0).2 in_m1 c9) (fun h_y7 h_I8 => ?_)
      refine ai_isub d_S_look_50 ?_
      exact ai_reti rfl d_S_look_51 hf (wr32_in _) h_I8
    · refine aw_iconst (v := iv (-1)) rfl d_S_look_24 ?_
      exact ai_reti rfl d_S_look_25 hf in_m1 h_I2
set_option maxRecDepth 20000 in
theorem t_S_heap_38 (fu : Nat) {r : Int × IMem} (k_70 : Int → IMem → Res) (o0 : Nat) (p1 : Int) (p2 : Int) (h_o0 : KC[o0]? = some (11, 9)) (h_p1 : inr p1) (h_p2 : inr p2) (hk_70 : ∀ (z3 : Int) (I9 : IMem), inr z3 → RG I9 → k_70 z3 I9 = some r → Ai l b 1 y_S_heap KC RC (Ps r) I9 70 [.ref o0, .int (iv p1), .int (iv p2), .int (iv z3), uu] []) : ∀ (m : Nat) (w3 : Int) (w4 : Int) (I0 : IMem), inr w3 → inr w4 → RG I0 → f_S_heap_38 fu k_70 o0 p1 p2 m w3 w4 I0 = some r → Ai l b 1 y_S_heap KC RC (Ps r) I0 38 [.ref o0, .int (iv p1), .int (iv p2), .int (iv w3), .int (iv w4)] [] := by
  intro m
  induction m with
  | zero => intro w3 w4 I0 h_w3 h_w4 h_I0 hf; cases hf
  | succ m ih =>
    intro w3 w4 I0 h_w3 h_w4 h_I0 hf
    replace hf : fb_S_heap_38 fu k_70 o0 p1 p2 (f_S_heap_38 fu k_70 o0 p1 p2 m) w3 w4 I0 = some r := hf
    unfold fb_S_heap_38 at hf
    refine aw_iload rfl d_S_heap_38 (aw_aload_n rfl rfl d_S_heap_40 (aw_getr (r := o0 + 1) fl_S_12 h_o0 (by decide) rfl (rc_8_0 _ h_o0).1 d_S_heap_41 (aw_getr (r := o0 + 6) fl_S_209 ((rc_8_0 _ h_o0).2) (by decide) rfl (rc_2_4 _ (rc_8_0 _ h_o0).2).1 d_S_heap_44 (ai_alen (N := 9) (rc_2_4 _ (rc_8_0 _ h_o0).2).2 (by decide) rfl (by decide) d_S_heap_47 ?_))))
    refine ai_icmp_ge h_w4 in_9 hf (tgt := 70) (by decide) d_S_heap_48 (fun hf => ?_) (fun hf => ?_)
    · refine aw_weakB (lv2 := [.ref o0, .int (iv p1), .int (iv p2), .int (iv w3), uu]) (wk_s (wk_s (wk_s (wk_s (wk_u wk_n))))) ?_
      exact hk_70 w3 I0 h_w3 h_I0 hf
    · refine aw_iload_n rfl rfl d_S_heap_51 (aw_aload_n rfl rfl d_S_heap_52 (aw_getr (r := o0 + 1) fl_S_12 h_o0 (by decide) rfl (rc_8_0 _ h_o0).1 d_S_heap_53 (aw_getr (r := o0 + 6) fl_S_209 ((rc_8_0 _ h_o0).2) (by decide) rfl (rc_2_4 _ (rc_8_0 _ h_o0).2).1 d_S_heap_56 (aw_iload rfl d_S_heap_59 ?_))))
      refine ai_iald (rc_2_4 _ (rc_8_0 _ h_o0).2).2 rfl h_w4 hf d_S_heap_61 (fun _ hf => ?_)
      refine ai_iadd d_S_heap_62 ?_
      refine ai_name hf (wr32_in _) (fun x2 h_x2 hf => ?_)
      refine aw_istore_n (lv2 := [.ref o0, .int (iv p1), .int (iv p2), .int (iv x2), .int (iv w4)]) rfl (Nat.le_of_ble_eq_true rfl) rfl d_S_heap_63 ?_
      refine ai_iinc (n := 1) (lv2 := fun x3 => [.ref o0, .int (iv p1), .int (iv p2), .int (iv x2), .int (iv x3)]) hf rfl (Nat.le_of_ble_eq_true rfl) (fun _ => rfl) d_S_heap_64 (fun x3 h_x3 hf => ?_)
      refine aw_goto (tgt := 38) (by decide) d_S_heap_67 ?_
      exact ih x2 x3 I0 h_x2 h_x3 h_I0 hf
set_option maxRecDepth 20000 in
theorem t_S_heap (fu : Nat) (o0 : Nat) (a1 : Int) (a2 : Int) (I0 : IMem) (hI : RG I0) (h_o0 : KC[o0]? = some (11, 9)) (h_a1 : inr a1) (h_a2 : inr a2) {r : Int × IMem} (hf : f_S_heap fu o0 a1 a2 I0 = some r) : Ss l b 1 y_S_heap KC RC [.ref o0, .int (iv a1), .int (iv a2)] (ivm I0) (Ps r) := by
  unfold f_S_heap at hf
  refine Ss.of (show Ai l b 1 y_S_heap KC RC (Ps r) I0 0 [.ref o0, .int (iv a1), .int (iv a2), uu, uu] [] from ?_)
  refine aw_iload_n rfl rfl d_S_heap_0 (aw_iconst (v := iv 1) rfl d_S_heap_1 ?_)
  refine ai_icmp_lt h_a1 in_1 hf (tgt := 21) (by decide) d_S_heap_2 (fun hf => ?_) (fun hf => ?_)
  · refine aw_iconst (v := iv 0) rfl d_S_heap_21 ?_
    exact ai_retn rfl (nar_z (Or.inl rfl)) d_S_heap_22 hf in_0 hI
  · refine aw_iload_n rfl rfl d_S_heap_5 (aw_bipush (v := iv 8) cb_8 d_S_heap_6 ?_)
    refine ai_icmp_gt h_a1 in_8 hf (tgt := 21) (by decide) d_S_heap_8 (fun hf => ?_) (fun hf => ?_)
    · refine aw_iconst (v := iv 0) rfl d_S_heap_21 ?_
      exact ai_retn rfl (nar_z (Or.inl rfl)) d_S_heap_22 hf in_0 hI
    · refine aw_iload_n rfl rfl d_S_heap_11 ?_
      refine ai_if_lt h_a2 hf (tgt := 21) (by decide) d_S_heap_12 (fun hf => ?_) (fun hf => ?_)
      · refine aw_iconst (v := iv 0) rfl d_S_heap_21 ?_
        exact ai_retn rfl (nar_z (Or.inl rfl)) d_S_heap_22 hf in_0 hI
      · refine aw_iload_n rfl rfl d_S_heap_15 (aw_bipush (v := iv 9) cb_9 d_S_heap_16 ?_)
        refine ai_icmp_le h_a2 in_9 hf (tgt := 23) (by decide) d_S_heap_18 (fun hf => ?_) (fun hf => ?_)
        · refine aw_iload_n rfl rfl d_S_heap_23 (aw_aload_n rfl rfl d_S_heap_24 (aw_getr (r := o0 + 1) fl_S_12 h_o0 (by decide) rfl (rc_8_0 _ h_o0).1 d_S_heap_25 (aw_getr (r := o0 + 6) fl_S_209 ((rc_8_0 _ h_o0).2) (by decide) rfl (rc_2_4 _ (rc_8_0 _ h_o0).2).1 d_S_heap_28 (aw_iload_n rfl rfl d_S_heap_31 ?_))))
          refine ai_iald (rc_2_4 _ (rc_8_0 _ h_o0).2).2 rfl h_a1 hf d_S_heap_32 (fun _ hf => ?_)
          refine ai_isub d_S_heap_33 ?_
          refine ai_name hf (wr32_in _) (fun x1 h_x1 hf => ?_)
          refine aw_istore_n (lv2 := [.ref o0, .int (iv a1), .int (iv a2), .int (iv x1), uu]) rfl (Nat.le_of_ble_eq_true rfl) rfl d_S_heap_34 ?_
          refine aw_iconst (v := iv 1) rfl d_S_heap_35 (aw_istore (lv2 := [.ref o0, .int (iv a1), .int (iv a2), .int (iv x1), .int (iv 1)]) (Nat.le_of_ble_eq_true rfl) rfl d_S_heap_36 ?_)
          refine t_S_heap_38 fu _ o0 a1 a2 h_o0 h_a1 h_a2 ?_ fu x1 1 I0 h_x1 in_1 hI hf
          · intro x5 I4 h_x5 h_I4 hf
            refine aw_iload_n rfl rfl d_S_heap_70 (aw_bipush (v := iv 12) cb_12 d_S_heap_71 ?_)
            refine ai_icmp_le h_x5 in_12 hf (tgt := 78) (by decide) d_S_heap_73 (fun hf => ?_) (fun hf => ?_)
            · refine aw_aload_n rfl rfl d_S_heap_78 (aw_getr (r := o0 + 1) fl_S_12 h_o0 (by decide) rfl (rc_8_0 _ h_o0).1 d_S_heap_79 (aw_getr (r := o0 + 6) fl_S_209 ((rc_8_0 _ h_o0).2) (by decide) rfl (rc_2_4 _ (rc_8_0 _ h_o0).2).1 d_S_heap_82 (aw_iload_n rfl rfl d_S_heap_85 (aw_iload_n rfl rfl d_S_heap_86 ?_))))
              refine ai_iast (rc_2_4 _ (rc_8_0 _ h_o0).2).2 rfl h_a1 h_a2 h_I4 hf d_S_heap_87 (fun _ I6 h_I6 hf => ?_)
              refine aw_iconst (v := iv 1) rfl d_S_heap_88 ?_
              exact ai_retn rfl (nar_z (Or.inr rfl)) d_S_heap_89 hf in_1 h_I6
            · refine aw_iconst (v := iv 0) rfl d_S_heap_76 ?_
              exact ai_retn rfl (nar_z (Or.inl rfl)) d_S_heap_77 hf in_0 h_I4
        · refine aw_iconst (v := iv 0) rfl d_S_heap_21 ?_
          exact ai_retn rfl (nar_z (Or.inl rfl)) d_S_heap_22 hf in_0 hI
set_option maxRecDepth 20000 in
theorem t_P_inFirst (fu : Nat) (o0 : Nat) (a1 : Int) (I0 : IMem) (hI : RG I0) (h_o0 : KC[o0]? = some (9, 7)) (h_a1 : inr a1) {r : Int × IMem} (hf : f_P_inFirst fu o0 a1 I0 = some r) : Ss l b 1 y_P_inFirst KC RC [.ref o0, .int (iv a1)] (ivm I0) (Ps r) := by
  unfold f_P_inFirst at hf
  refine Ss.of (show Ai l b 1 y_P_inFirst KC RC (Ps r) I0 0 [.ref o0, .int (iv a1), uu] [] from ?_)
  refine aw_aload_n rfl rfl d_P_inFirst_0 (ai_geti fl_P_27 h_o0 (by decide) rfl d_P_inFirst_1 ?_)
  obtain ⟨k1, ek1, hf⟩ := of_zj hf
  have hk1 : ∀ (x3 : Int) (I2 : IMem), inr x3 → RG I2 → k1 x3 I2 = some r → Ai l b 1 y_P_inFirst KC RC (Ps r) I2 32 [.ref o0, .int (iv a1), uu] [.int (iv x3)] := by
    intro x3 I2 h_x3 h_I2 hf
    subst ek1
    refine aw_istore_n (lv2 := [.ref o0, .int (iv a1), .int (iv x3)]) rfl (Nat.le_of_ble_eq_true rfl) rfl d_P_inFirst_32 (aw_iload_n rfl rfl d_P_inFirst_33 ?_)
    refine ai_if_eq h_x3 hf (tgt := 54) (by decide) d_P_inFirst_34 (fun hf => ?_) (fun hf => ?_)
    · refine aw_iconst (v := iv 0) rfl d_P_inFirst_54 ?_
      exact ai_reti rfl d_P_inFirst_55 hf in_0 h_I2
    · refine aw_aload_n rfl rfl d_P_inFirst_37 (aw_getr (r := o0 + 1) fl_P_11 h_o0 (by decide) rfl (rc_6_0 _ h_o0).1 d_P_inFirst_38 (aw_aload_n rfl rfl d_P_inFirst_41 (ai_geti fl_P_27 h_o0 (by decide) rfl d_P_inFirst_42 (aw_bipush (v := iv 9) cb_9 d_P_inFirst_45 (ai_imul d_P_inFirst_47 (aw_iload_n rfl rfl d_P_inFirst_48 (ai_iadd d_P_inFirst_49 ?_)))))))
      refine ai_name hf (wr32_in _) (fun x4 h_x4 hf => ?_)
      refine ai_iald (rc_6_0 _ h_o0).2 rfl h_x4 hf d_P_inFirst_50 (fun _ hf => ?_)
      refine aw_goto (tgt := 55) (by decide) d_P_inFirst_51 ?_
      exact ai_reti rfl d_P_inFirst_55 hf (h_I2 (o0 + 1) x4.toNat) h_I2
  refine ai_if_lt (hI o0 6) hf (tgt := 31) (by decide) d_P_inFirst_4 (fun hf => ?_) (fun hf => ?_)
  · refine aw_iconst (v := iv 0) rfl d_P_inFirst_31 ?_
    exact hk1 0 I0 in_0 hI hf
  · refine aw_aload_n rfl rfl d_P_inFirst_7 (ai_geti fl_P_27 h_o0 (by decide) rfl d_P_inFirst_8 (aw_bipush (v := iv 67) cb_67 d_P_inFirst_11 ?_))
    refine ai_icmp_ge (hI o0 6) in_67 hf (tgt := 31) (by decide) d_P_inFirst_13 (fun hf => ?_) (fun hf => ?_)
    · refine aw_iconst (v := iv 0) rfl d_P_inFirst_31 ?_
      exact hk1 0 I0 in_0 hI hf
    · refine aw_iload_n rfl rfl d_P_inFirst_16 (aw_iconst (v := iv 1) rfl d_P_inFirst_17 ?_)
      refine ai_icmp_lt h_a1 in_1 hf (tgt := 31) (by decide) d_P_inFirst_18 (fun hf => ?_) (fun hf => ?_)
      · refine aw_iconst (v := iv 0) rfl d_P_inFirst_31 ?_
        exact hk1 0 I0 in_0 hI hf
      · refine aw_iload_n rfl rfl d_P_inFirst_21 (aw_bipush (v := iv 8) cb_8 d_P_inFirst_22 ?_)
        refine ai_icmp_gt h_a1 in_8 hf (tgt := 31) (by decide) d_P_inFirst_24 (fun hf => ?_) (fun hf => ?_)
        · refine aw_iconst (v := iv 0) rfl d_P_inFirst_31 ?_
          exact hk1 0 I0 in_0 hI hf
        · refine aw_iconst (v := iv 1) rfl d_P_inFirst_27 (aw_goto (tgt := 32) (by decide) d_P_inFirst_28 ?_)
          exact hk1 1 I0 in_1 hI hf
set_option maxRecDepth 20000 in
theorem t_P_canGo_17 (fu : Nat) {r : Int × IMem} (o0 : Nat) (p1 : Int) (h_o0 : KC[o0]? = some (9, 7)) (h_p1 : inr p1) : ∀ (m : Nat) (w3 : Int) (I0 : IMem), inr w3 → RG I0 → f_P_canGo_17 fu o0 p1 m w3 I0 = some r → Ai l b 1 y_P_canGo KC RC (Ps r) I0 17 [.ref o0, .int (iv p1), uu, .int (iv w3)] [] := by
  intro m
  induction m with
  | zero => intro w3 I0 h_w3 h_I0 hf; cases hf
  | succ m ih =>
    intro w3 I0 h_w3 h_I0 hf
    replace hf : fb_P_canGo_17 fu o0 p1 (f_P_canGo_17 fu o0 p1 m) w3 I0 = some r := hf
    unfold fb_P_canGo_17 at hf
    refine aw_iload_n rfl rfl d_P_canGo_17 (aw_bipush (v := iv 8) cb_8 d_P_canGo_18 ?_)
    refine ai_icmp_gt h_w3 in_8 hf (tgt := 51) (by decide) d_P_canGo_20 (fun hf => ?_) (fun hf => ?_)
    · refine aw_iconst (v := iv 1) rfl d_P_canGo_51 ?_
      exact ai_retn rfl (nar_z (Or.inr rfl)) d_P_canGo_52 hf in_1 h_I0
    · refine aw_aload_n rfl rfl d_P_canGo_23 (aw_getr (r := o0 + 1) fl_P_11 h_o0 (by decide) rfl (rc_6_0 _ h_o0).1 d_P_canGo_24 (aw_iload_n rfl rfl d_P_canGo_27 (aw_bipush (v := iv 9) cb_9 d_P_canGo_28 (ai_imul d_P_canGo_30 (aw_iload_n rfl rfl d_P_canGo_31 (ai_iadd d_P_canGo_32 ?_))))))
      refine ai_name hf (wr32_in _) (fun x2 h_x2 hf => ?_)
      refine ai_iald (rc_6_0 _ h_o0).2 rfl h_x2 hf d_P_canGo_33 (fun _ hf => ?_)
      refine aw_aload_n rfl rfl d_P_canGo_34 (aw_getr (r := o0 + 5) fl_P_24 h_o0 (by decide) rfl (rc_6_5 _ h_o0).1 d_P_canGo_35 (aw_iload_n rfl rfl d_P_canGo_38 ?_))
      refine ai_iald (rc_6_5 _ h_o0).2 rfl h_w3 hf d_P_canGo_39 (fun _ hf => ?_)
      refine ai_icmp_le (h_I0 (o0 + 1) x2.toNat) (h_I0 (o0 + 5) w3.toNat) hf (tgt := 45) (by decide) d_P_canGo_40 (fun hf => ?_) (fun hf => ?_)
      · refine ai_iinc (n := 1) (lv2 := fun x3 => [.ref o0, .int (iv p1), uu, .int (iv x3)]) hf rfl (Nat.le_of_ble_eq_true rfl) (fun _ => rfl) d_P_canGo_45 (fun x3 h_x3 hf => ?_)
        refine aw_goto (tgt := 17) (by decide) d_P_canGo_48 ?_
        exact ih x3 I0 h_x3 h_I0 hf
      · refine aw_iconst (v := iv 0) rfl d_P_canGo_43 ?_
        exact ai_retn rfl (nar_z (Or.inl rfl)) d_P_canGo_44 hf in_0 h_I0
set_option maxRecDepth 20000 in
theorem t_P_canGo (fu : Nat) (o0 : Nat) (a1 : Int) (a2 : Int) (I0 : IMem) (hI : RG I0) (h_o0 : KC[o0]? = some (9, 7)) (h_a1 : inr a1) (h_a2 : inr a2) {r : Int × IMem} (hf : f_P_canGo fu o0 a1 a2 I0 = some r) : Ss l b 1 y_P_canGo KC RC [.ref o0, .int (iv a1), .int (iv a2)] (ivm I0) (Ps r) := by
  unfold f_P_canGo at hf
  refine Ss.of (show Ai l b 1 y_P_canGo KC RC (Ps r) I0 0 [.ref o0, .int (iv a1), .int (iv a2), uu] [] from ?_)
  refine aw_aload_n rfl rfl d_P_canGo_0 (aw_getr (r := o0 + 1) fl_P_11 h_o0 (by decide) rfl (rc_6_0 _ h_o0).1 d_P_canGo_1 (aw_iload_n rfl rfl d_P_canGo_4 (aw_bipush (v := iv 9) cb_9 d_P_canGo_5 (ai_imul d_P_canGo_7 ?_))))
  refine ai_name hf (wr32_in _) (fun x1 h_x1 hf => ?_)
  refine ai_iald (rc_6_0 _ h_o0).2 rfl h_x1 hf d_P_canGo_8 (fun _ hf => ?_)
  refine aw_iload_n rfl rfl d_P_canGo_9 ?_
  refine ai_icmp_le (hI (o0 + 1) x1.toNat) h_a2 hf (tgt := 15) (by decide) d_P_canGo_10 (fun hf => ?_) (fun hf => ?_)
  · refine aw_iconst (v := iv 1) rfl d_P_canGo_15 (aw_istore_n (lv2 := [.ref o0, .int (iv a1), .int (iv a2), .int (iv 1)]) rfl (Nat.le_of_ble_eq_true rfl) rfl d_P_canGo_16 ?_)
    refine aw_weakB (lv2 := [.ref o0, .int (iv a1), uu, .int (iv 1)]) (wk_s (wk_s (wk_u (wk_s wk_n)))) ?_
    refine t_P_canGo_17 fu o0 a1 h_o0 h_a1 fu 1 I0 in_1 hI hf
  · refine aw_iconst (v := iv 0) rfl d_P_canGo_13 ?_
    exact ai_retn rfl (nar_z (Or.inl rfl)) d_P_canGo_14 hf in_0 hI
set_option maxRecDepth 20000 in
theorem t_P_firstWay_3 (fu : Nat) {r : Int × IMem} (k_22 : Int → IMem → Res) (o0 : Nat) (p1 : Int) (p2 : Int) (h_o0 : KC[o0]? = some (9, 7)) (h_p1 : inr p1) (h_p2 : inr p2) (hk_22 : ∀ (z3 : Int) (I9 : IMem), inr z3 → RG I9 → k_22 z3 I9 = some r → Ai l b 2 y_P_firstWay KC RC (Ps r) I9 22 [.ref o0, .int (iv p1), .int (iv p2), .int (iv z3), uu, uu, uu, uu] []) : ∀ (m : Nat) (w3 : Int) (I0 : IMem), inr w3 → RG I0 → f_P_firstWay_3 fu k_22 o0 p1 p2 m w3 I0 = some r → Ai l b 2 y_P_firstWay KC RC (Ps r) I0 3 [.ref o0, .int (iv p1), .int (iv p2), .int (iv w3), uu, uu, uu, uu] [] := by
  intro m
  induction m with
  | zero => intro w3 I0 h_w3 h_I0 hf; cases hf
  | succ m ih =>
    intro w3 I0 h_w3 h_I0 hf
    replace hf : fb_P_firstWay_3 fu k_22 o0 p1 p2 (f_P_firstWay_3 fu k_22 o0 p1 p2 m) w3 I0 = some r := hf
    unfold fb_P_firstWay_3 at hf
    refine aw_iload_n rfl rfl d_P_firstWay_3 ?_
    refine ai_if_le h_w3 hf (tgt := 22) (by decide) d_P_firstWay_4 (fun hf => ?_) (fun hf => ?_)
    · exact hk_22 w3 I0 h_w3 h_I0 hf
    · refine aw_aload_n rfl rfl d_P_firstWay_7 (aw_getr (r := o0 + 5) fl_P_24 h_o0 (by decide) rfl (rc_6_5 _ h_o0).1 d_P_firstWay_8 (aw_iload_n rfl rfl d_P_firstWay_11 ?_))
      refine ai_iald (rc_6_5 _ h_o0).2 rfl h_w3 hf d_P_firstWay_12 (fun _ hf => ?_)
      refine ai_if_ne (h_I0 (o0 + 5) w3.toNat) hf (tgt := 22) (by decide) d_P_firstWay_13 (fun hf => ?_) (fun hf => ?_)
      · exact hk_22 w3 I0 h_w3 h_I0 hf
      · refine ai_iinc (n := (-1)) (lv2 := fun x1 => [.ref o0, .int (iv p1), .int (iv p2), .int (iv x1), uu, uu, uu, uu]) hf rfl (Nat.le_of_ble_eq_true rfl) (fun _ => rfl) d_P_firstWay_16 (fun x1 h_x1 hf => ?_)
        refine aw_goto (tgt := 3) (by decide) d_P_firstWay_19 ?_
        exact ih x1 I0 h_x1 h_I0 hf
set_option maxRecDepth 20000 in
theorem t_P_firstWay_31 (fu : Nat) {r : Int × IMem} (o0 : Nat) (p1 : Int) (p2 : Int) (p3 : Int) (h_o0 : KC[o0]? = some (9, 7)) (h_p1 : inr p1) (h_p2 : inr p2) (h_p3 : inr p3) : ∀ (m : Nat) (w4 : Int) (w5 : Int) (w6 : Int) (I0 : IMem), inr w4 → inr w5 → inr w6 → RG I0 → f_P_firstWay_31 fu o0 p1 p2 p3 m w4 w5 w6 I0 = some r → Ai l b 2 y_P_firstWay KC RC (Ps r) I0 31 [.ref o0, .int (iv p1), .int (iv p2), .int (iv p3), .int (iv w4), .int (iv w5), .int (iv w6), uu] [] := by
  intro m
  induction m with
  | zero => intro w4 w5 w6 I0 h_w4 h_w5 h_w6 h_I0 hf; cases hf
  | succ m ih =>
    intro w4 w5 w6 I0 h_w4 h_w5 h_w6 h_I0 hf
    replace hf : fb_P_firstWay_31 fu o0 p1 p2 p3 (f_P_firstWay_31 fu o0 p1 p2 p3 m) w4 w5 w6 I0 = some r := hf
    unfold fb_P_firstWay_31 at hf
    refine aw_iload rfl d_P_firstWay_31 (aw_aload_n rfl rfl d_P_firstWay_33 (ai_geti fl_P_39 h_o0 (by decide) rfl d_P_firstWay_34 ?_))
    refine ai_icmp_ge h_w6 (h_I0 o0 2) hf (tgt := 129) (by decide) d_P_firstWay_37 (fun hf => ?_) (fun hf => ?_)
    · refine aw_iload rfl d_P_firstWay_129 ?_
      exact ai_reti rfl d_P_firstWay_131 hf h_w4 h_I0
    · refine aw_iload rfl d_P_firstWay_40 (aw_bipush (v := iv 67) cb_67 d_P_firstWay_42 ?_)
      refine ai_icmp_ge h_w6 in_67 hf (tgt := 129) (by decide) d_P_firstWay_44 (fun hf => ?_) (fun hf => ?_)
      · refine aw_iload rfl d_P_firstWay_129 ?_
        exact ai_reti rfl d_P_firstWay_131 hf h_w4 h_I0
      · refine aw_iload_n rfl rfl d_P_firstWay_47 (aw_aload_n rfl rfl d_P_firstWay_48 (aw_getr (r := o0 + 3) fl_P_18 h_o0 (by decide) rfl (rc_6_3 _ h_o0).1 d_P_firstWay_49 (aw_iload rfl d_P_firstWay_52 ?_)))
        refine ai_iald (rc_6_3 _ h_o0).2 rfl h_w6 hf d_P_firstWay_54 (fun _ hf => ?_)
        refine ai_isub d_P_firstWay_55 ?_
        refine ai_name hf (wr32_in _) (fun x4 h_x4 hf => ?_)
        refine aw_istore (lv2 := [.ref o0, .int (iv p1), .int (iv p2), .int (iv p3), .int (iv w4), .int (iv w5), .int (iv w6), .int (iv x4)]) (Nat.le_of_ble_eq_true rfl) rfl d_P_firstWay_56 ?_
        refine aw_aload_n rfl rfl d_P_firstWay_58 (aw_getr (r := o0 + 2) fl_P_15 h_o0 (by decide) rfl (rc_6_1 _ h_o0).1 d_P_firstWay_59 (aw_iload rfl d_P_firstWay_62 ?_))
        refine ai_iald (rc_6_1 _ h_o0).2 rfl h_w6 hf d_P_firstWay_64 (fun _ hf => ?_)
        refine aw_iload_n rfl rfl d_P_firstWay_65 ?_
        obtain ⟨k5, ek5, hf⟩ := of_zj hf
        have hk5 : ∀ (x7 : Int) (x8 : Int) (I6 : IMem), inr x7 → inr x8 → RG I6 → k5 x7 x8 I6 = some r → Ai l b 2 y_P_firstWay KC RC (Ps r) I6 123 [.ref o0, .int (iv p1), .int (iv p2), .int (iv p3), .int (iv x7), .int (iv x8), .int (iv w6), uu] [] := by
          intro x7 x8 I6 h_x7 h_x8 h_I6 hf
          subst ek5
          refine ai_iinc (n := 1) (lv2 := fun x9 => [.ref o0, .int (iv p1), .int (iv p2), .int (iv p3), .int (iv x7), .int (iv x8), .int (iv x9), uu]) hf rfl (Nat.le_of_ble_eq_true rfl) (fun _ => rfl) d_P_firstWay_123 (fun x9 h_x9 hf => ?_)
          refine aw_goto (tgt := 31) (by decide) d_P_firstWay_126 ?_
          exact ih x7 x8 x9 I6 h_x7 h_x8 h_x9 h_I6 hf
        refine ai_icmp_ne (h_I0 (o0 + 2) w6.toNat) h_p3 hf (tgt := 123) (by decide) d_P_firstWay_66 (fun hf => ?_) (fun hf => ?_)
        · refine aw_weakB (lv2 := [.ref o0, .int (iv p1), .int (iv p2), .int (iv p3), .int (iv w4), .int (iv w5), .int (iv w6), uu]) (wk_s (wk_s (wk_s (wk_s (wk_s (wk_s (wk_s (wk_u wk_n)))))))) ?_
          exact hk5 w4 w5 I0 h_w4 h_w5 h_I0 hf
        · refine aw_aload_n rfl rfl d_P_firstWay_69 (aw_iload rfl d_P_firstWay_70 (aw_iload_n rfl rfl d_P_firstWay_72 ?_))
          obtain ⟨y10, I11, c12, hf⟩ := of_zb hf
          refine ai_callV (as := [.int (iv w6), .int (iv p2)]) (d' := 1) (q := ("SinglesUp$Packer", zT6, 7)) mo_P_canGo lk_P_66 h_o0 rfl rfl rfl ⟨by decide, by decide⟩ rfl rfl (by decide) d_P_firstWay_73 (t_P_canGo fu o0 w6 p2 I0 h_I0 h_o0 h_w6 h_p2 c12) (fun h_y10 h_I11 => ?_)
          refine ai_if_eq h_y10 hf (tgt := 123) (by decide) d_P_firstWay_76 (fun hf => ?_) (fun hf => ?_)
          · refine aw_weakB (lv2 := [.ref o0, .int (iv p1), .int (iv p2), .int (iv p3), .int (iv w4), .int (iv w5), .int (iv w6), uu]) (wk_s (wk_s (wk_s (wk_s (wk_s (wk_s (wk_s (wk_u wk_n)))))))) ?_
            exact hk5 w4 w5 I11 h_w4 h_w5 h_I11 hf
          · refine aw_iload rfl d_P_firstWay_79 ?_
            refine ai_if_lt h_x4 hf (tgt := 123) (by decide) d_P_firstWay_81 (fun hf => ?_) (fun hf => ?_)
            · refine aw_weakB (lv2 := [.ref o0, .int (iv p1), .int (iv p2), .int (iv p3), .int (iv w4), .int (iv w5), .int (iv w6), uu]) (wk_s (wk_s (wk_s (wk_s (wk_s (wk_s (wk_s (wk_u wk_n)))))))) ?_
              exact hk5 w4 w5 I11 h_w4 h_w5 h_I11 hf
            · refine aw_iload rfl d_P_firstWay_84 (aw_sipush (v := iv 1296) cs_1296 d_P_firstWay_86 ?_)
              refine ai_icmp_ge h_x4 in_1296 hf (tgt := 123) (by decide) d_P_firstWay_89 (fun hf => ?_) (fun hf => ?_)
              · refine aw_weakB (lv2 := [.ref o0, .int (iv p1), .int (iv p2), .int (iv p3), .int (iv w4), .int (iv w5), .int (iv w6), uu]) (wk_s (wk_s (wk_s (wk_s (wk_s (wk_s (wk_s (wk_u wk_n)))))))) ?_
                exact hk5 w4 w5 I11 h_w4 h_w5 h_I11 hf
              · refine aw_iload rfl d_P_firstWay_92 (aw_iconst (v := iv (-1)) rfl d_P_firstWay_94 ?_)
                obtain ⟨k13, ek13, hf⟩ := of_zj hf
                have hk13 : ∀  (I14 : IMem), RG I14 → k13 I14 = some r → Ai l b 2 y_P_firstWay KC RC (Ps r) I14 110 [.ref o0, .int (iv p1), .int (iv p2), .int (iv p3), uu, uu, .int (iv w6), .int (iv x4)] [] := by
                  intro I14 h_I14 hf
                  subst ek13
                  refine aw_aload_n rfl rfl d_P_firstWay_110 (aw_getr (r := o0 + 4) fl_P_21 h_o0 (by decide) rfl (rc_6_4 _ h_o0).1 d_P_firstWay_111 (aw_iload rfl d_P_firstWay_114 ?_))
                  refine ai_iald (rc_6_4 _ h_o0).2 rfl h_x4 hf d_P_firstWay_116 (fun _ hf => ?_)
                  refine ai_name hf (h_I14 (o0 + 4) x4.toNat) (fun x15 h_x15 hf => ?_)
                  refine aw_istore (lv2 := [.ref o0, .int (iv p1), .int (iv p2), .int (iv p3), uu, .int (iv x15), .int (iv w6), .int (iv x4)]) (Nat.le_of_ble_eq_true rfl) rfl d_P_firstWay_117 ?_
                  refine aw_iload rfl d_P_firstWay_119 (aw_istore (lv2 := [.ref o0, .int (iv p1), .int (iv p2), .int (iv p3), .int (iv w6), .int (iv x15), .int (iv w6), .int (iv x4)]) (Nat.le_of_ble_eq_true rfl) rfl d_P_firstWay_121 ?_)
                  refine aw_weakB (lv2 := [.ref o0, .int (iv p1), .int (iv p2), .int (iv p3), .int (iv w6), .int (iv x15), .int (iv w6), uu]) (wk_s (wk_s (wk_s (wk_s (wk_s (wk_s (wk_s (wk_u wk_n)))))))) ?_
                  exact hk5 w6 x15 I14 h_w6 h_x15 h_I14 hf
                refine ai_icmp_eq h_w4 in_m1 hf (tgt := 110) (by decide) d_P_firstWay_95 (fun hf => ?_) (fun hf => ?_)
                · refine aw_weakB (lv2 := [.ref o0, .int (iv p1), .int (iv p2), .int (iv p3), uu, uu, .int (iv w6), .int (iv x4)]) (wk_s (wk_s (wk_s (wk_s (wk_u (wk_u (wk_s (wk_s wk_n)))))))) ?_
                  exact hk13 I11 h_I11 hf
                · refine aw_aload_n rfl rfl d_P_firstWay_98 (aw_getr (r := o0 + 4) fl_P_21 h_o0 (by decide) rfl (rc_6_4 _ h_o0).1 d_P_firstWay_99 (aw_iload rfl d_P_firstWay_102 ?_))
                  refine ai_iald (rc_6_4 _ h_o0).2 rfl h_x4 hf d_P_firstWay_104 (fun _ hf => ?_)
                  refine aw_iload rfl d_P_firstWay_105 ?_
                  refine ai_icmp_ge (h_I11 (o0 + 4) x4.toNat) h_w5 hf (tgt := 123) (by decide) d_P_firstWay_107 (fun hf => ?_) (fun hf => ?_)
                  · refine aw_weakB (lv2 := [.ref o0, .int (iv p1), .int (iv p2), .int (iv p3), .int (iv w4), .int (iv w5), .int (iv w6), uu]) (wk_s (wk_s (wk_s (wk_s (wk_s (wk_s (wk_s (wk_u wk_n)))))))) ?_
                    exact hk5 w4 w5 I11 h_w4 h_w5 h_I11 hf
                  · refine aw_weakB (lv2 := [.ref o0, .int (iv p1), .int (iv p2), .int (iv p3), uu, uu, .int (iv w6), .int (iv x4)]) (wk_s (wk_s (wk_s (wk_s (wk_u (wk_u (wk_s (wk_s wk_n)))))))) ?_
                    exact hk13 I11 h_I11 hf
set_option maxRecDepth 20000 in
theorem t_P_firstWay (fu : Nat) (o0 : Nat) (a1 : Int) (a2 : Int) (I0 : IMem) (hI : RG I0) (h_o0 : KC[o0]? = some (9, 7)) (h_a1 : inr a1) (h_a2 : inr a2) {r : Int × IMem} (hf : f_P_firstWay fu o0 a1 a2 I0 = some r) : Ss l b 2 y_P_firstWay KC RC [.ref o0, .int (iv a1), .int (iv a2)] (ivm I0) (Ps r) := by
  unfold f_P_firstWay at hf
  refine Ss.of (show Ai l b 2 y_P_firstWay KC RC (Ps r) I0 0 [.ref o0, .int (iv a1), .int (iv a2), uu, uu, uu, uu, uu] [] from ?_)
  refine aw_bipush (v := iv 8) cb_8 d_P_firstWay_0 (aw_istore_n (lv2 := [.ref o0, .int (iv a1), .int (iv a2), .int (iv 8), uu, uu, uu, uu]) rfl (Nat.le_of_ble_eq_true rfl) rfl d_P_firstWay_2 ?_)
  refine t_P_firstWay_3 fu _ o0 a1 a2 h_o0 h_a1 h_a2 ?_ fu 8 I0 in_8 hI hf
  · intro x3 I2 h_x3 h_I2 hf
    refine aw_iconst (v := iv (-1)) rfl d_P_firstWay_22 (aw_istore (lv2 := [.ref o0, .int (iv a1), .int (iv a2), .int (iv x3), .int (iv ((-1))), uu, uu, uu]) (Nat.le_of_ble_eq_true rfl) rfl d_P_firstWay_23 (aw_iconst (v := iv 0) rfl d_P_firstWay_25 (aw_istore (lv2 := [.ref o0, .int (iv a1), .int (iv a2), .int (iv x3), .int (iv ((-1))), .int (iv 0), uu, uu]) (Nat.le_of_ble_eq_true rfl) rfl d_P_firstWay_26 (aw_iconst (v := iv 0) rfl d_P_firstWay_28 (aw_istore (lv2 := [.ref o0, .int (iv a1), .int (iv a2), .int (iv x3), .int (iv ((-1))), .int (iv 0), .int (iv 0), uu]) (Nat.le_of_ble_eq_true rfl) rfl d_P_firstWay_29 ?_)))))
    refine t_P_firstWay_31 fu o0 a1 a2 x3 h_o0 h_a1 h_a2 h_x3 fu ((-1)) 0 0 I2 in_m1 in_0 in_0 h_I2 hf
set_option maxRecDepth 20000 in
theorem t_P_goOn_2 (fu : Nat) {r : Int × IMem} (k_26 : Int → IMem → Res) (o0 : Nat) (o1 n1 : Nat) (h_o0 : KC[o0]? = some (9, 7)) (h_o1 : KC[o1]? = some (0, n1) ∧ n1 < 1000000) (hk_26 : ∀ (z2 : Int) (I9 : IMem), inr z2 → RG I9 → k_26 z2 I9 = some r → Ai l b 1 y_P_goOn KC RC (Pv r) I9 26 [.ref o0, uu, .int (iv z2)] []) : ∀ (m : Nat) (w2 : Int) (I0 : IMem), inr w2 → RG I0 → f_P_goOn_2 fu k_26 o0 o1 n1 m w2 I0 = some r → Ai l b 1 y_P_goOn KC RC (Pv r) I0 2 [.ref o0, .ref o1, .int (iv w2)] [] := by
  intro m
  induction m with
  | zero => intro w2 I0 h_w2 h_I0 hf; cases hf
  | succ m ih =>
    intro w2 I0 h_w2 h_I0 hf
    replace hf : fb_P_goOn_2 fu k_26 o0 o1 n1 (f_P_goOn_2 fu k_26 o0 o1 n1 m) w2 I0 = some r := hf
    unfold fb_P_goOn_2 at hf
    refine aw_iload_n rfl rfl d_P_goOn_2 (aw_bipush (v := iv 8) cb_8 d_P_goOn_3 ?_)
    refine ai_icmp_gt h_w2 in_8 hf (tgt := 50) (by decide) d_P_goOn_5 (fun hf => ?_) (fun hf => ?_)
    · exact ai_retv rfl d_P_goOn_50 hf h_I0
    · refine aw_iload_n rfl rfl d_P_goOn_8 (aw_aload_n rfl rfl d_P_goOn_9 (ai_alen (N := n1) h_o1.1 (by decide) rfl h_o1.2 d_P_goOn_10 ?_))
      refine ai_icmp_ge h_w2 (nat_in h_o1.2) hf (tgt := 50) (by decide) d_P_goOn_11 (fun hf => ?_) (fun hf => ?_)
      · exact ai_retv rfl d_P_goOn_50 hf h_I0
      · refine aw_aload_n rfl rfl d_P_goOn_14 (aw_getr (r := o0 + 5) fl_P_24 h_o0 (by decide) rfl (rc_6_5 _ h_o0).1 d_P_goOn_15 (aw_iload_n rfl rfl d_P_goOn_18 ?_))
        refine ai_iald (rc_6_5 _ h_o0).2 rfl h_w2 hf d_P_goOn_19 (fun _ hf => ?_)
        refine aw_aload_n rfl rfl d_P_goOn_20 (aw_iload_n rfl rfl d_P_goOn_21 ?_)
        refine ai_iald h_o1.1 rfl h_w2 hf d_P_goOn_22 (fun _ hf => ?_)
        refine ai_icmp_ge (h_I0 (o0 + 5) w2.toNat) (h_I0 o1 w2.toNat) hf (tgt := 37) (by decide) d_P_goOn_23 (fun hf => ?_) (fun hf => ?_)
        · refine aw_aload_n rfl rfl d_P_goOn_37 (aw_getr (r := o0 + 5) fl_P_24 h_o0 (by decide) rfl (rc_6_5 _ h_o0).1 d_P_goOn_38 (aw_iload_n rfl rfl d_P_goOn_41 (aw_iconst (v := iv 0) rfl d_P_goOn_42 ?_)))
          refine ai_iast (rc_6_5 _ h_o0).2 rfl h_w2 in_0 h_I0 hf d_P_goOn_43 (fun _ I1 h_I1 hf => ?_)
          refine ai_iinc (n := 1) (lv2 := fun x2 => [.ref o0, .ref o1, .int (iv x2)]) hf rfl (Nat.le_of_ble_eq_true rfl) (fun _ => rfl) d_P_goOn_44 (fun x2 h_x2 hf => ?_)
          refine aw_goto (tgt := 2) (by decide) d_P_goOn_47 ?_
          exact ih x2 I1 h_x2 h_I1 hf
        · refine aw_weakB (lv2 := [.ref o0, uu, .int (iv w2)]) (wk_s (wk_u (wk_s wk_n))) ?_
          exact hk_26 w2 I0 h_w2 h_I0 hf
set_option maxRecDepth 20000 in
theorem t_P_goOn (fu : Nat) (o0 : Nat) (o1 n1 : Nat) (I0 : IMem) (hI : RG I0) (h_o0 : KC[o0]? = some (9, 7)) (h_o1 : KC[o1]? = some (0, n1) ∧ n1 < 1000000) {r : Int × IMem} (hf : f_P_goOn fu o0 o1 n1 I0 = some r) : Ss l b 1 y_P_goOn KC RC [.ref o0, .ref o1] (ivm I0) (Pv r) := by
  unfold f_P_goOn at hf
  refine Ss.of (show Ai l b 1 y_P_goOn KC RC (Pv r) I0 0 [.ref o0, .ref o1, uu] [] from ?_)
  refine aw_iconst (v := iv 1) rfl d_P_goOn_0 (aw_istore_n (lv2 := [.ref o0, .ref o1, .int (iv 1)]) rfl (Nat.le_of_ble_eq_true rfl) rfl d_P_goOn_1 ?_)
  refine t_P_goOn_2 fu _ o0 o1 n1 h_o0 h_o1 ?_ fu 1 I0 in_1 hI hf
  · intro x4 I3 h_x4 h_I3 hf
    refine aw_aload_n rfl rfl d_P_goOn_26 (aw_getr (r := o0 + 5) fl_P_24 h_o0 (by decide) rfl (rc_6_5 _ h_o0).1 d_P_goOn_27 (aw_iload_n rfl rfl d_P_goOn_30 (aw_dup2 rfl rfl d_P_goOn_31 ?_)))
    refine ai_iald (rc_6_5 _ h_o0).2 rfl h_x4 hf d_P_goOn_32 (fun _ hf => ?_)
    refine aw_iconst (v := iv 1) rfl d_P_goOn_33 (ai_iadd d_P_goOn_34 ?_)
    refine ai_iast (rc_6_5 _ h_o0).2 rfl h_x4 (wr32_in _) h_I3 hf d_P_goOn_35 (fun _ I5 h_I5 hf => ?_)
    exact ai_retv rfl d_P_goOn_36 hf h_I5
set_option maxRecDepth 20000 in
theorem t_P_numberAll_27 (fu : Nat) {r : Int × IMem} (k_64 : IMem → Res) (o0 : Nat) (o1 n1 : Nat) (p2 : Int) (p3 : Int) (h_o0 : KC[o0]? = some (9, 7)) (h_o1 : KC[o1]? = some (0, n1) ∧ n1 < 1000000) (h_p2 : inr p2) (h_p3 : inr p3) (hk_64 : ∀ (I9 : IMem), RG I9 → k_64 I9 = some r → Ai l b 2 y_P_numberAll KC RC (Ps r) I9 64 [.ref o0, .ref o1, .int (iv p2), .int (iv p3), uu] []) : ∀ (m : Nat) (w4 : Int) (I0 : IMem), inr w4 → RG I0 → f_P_numberAll_27 fu k_64 o0 o1 n1 p2 p3 m w4 I0 = some r → Ai l b 2 y_P_numberAll KC RC (Ps r) I0 27 [.ref o0, .ref o1, .int (iv p2), .int (iv p3), .int (iv w4)] [] := by
  intro m
  induction m with
  | zero => intro w4 I0 h_w4 h_I0 hf; cases hf
  | succ m ih =>
    intro w4 I0 h_w4 h_I0 hf
    replace hf : fb_P_numberAll_27 fu k_64 o0 o1 n1 p2 p3 (f_P_numberAll_27 fu k_64 o0 o1 n1 p2 p3 m) w4 I0 = some r := hf
    unfold fb_P_numberAll_27 at hf
    refine aw_iload rfl d_P_numberAll_27 (aw_bipush (v := iv 67) cb_67 d_P_numberAll_29 ?_)
    refine ai_icmp_ge h_w4 in_67 hf (tgt := 64) (by decide) d_P_numberAll_31 (fun hf => ?_) (fun hf => ?_)
    · refine aw_weakB (lv2 := [.ref o0, .ref o1, .int (iv p2), .int (iv p3), uu]) (wk_s (wk_s (wk_s (wk_s (wk_u wk_n))))) ?_
      exact hk_64 I0 h_I0 hf
    · refine aw_aload_n rfl rfl d_P_numberAll_34 (aw_getr (r := o0 + 3) fl_P_18 h_o0 (by decide) rfl (rc_6_3 _ h_o0).1 d_P_numberAll_35 (aw_iload rfl d_P_numberAll_38 (aw_dup2 rfl rfl d_P_numberAll_40 ?_)))
      refine ai_iald (rc_6_3 _ h_o0).2 rfl h_w4 hf d_P_numberAll_41 (fun _ hf => ?_)
      refine aw_iload_n rfl rfl d_P_numberAll_42 (aw_aload_n rfl rfl d_P_numberAll_43 (aw_getr (r := o0 + 1) fl_P_11 h_o0 (by decide) rfl (rc_6_0 _ h_o0).1 d_P_numberAll_44 (aw_iload rfl d_P_numberAll_47 (aw_bipush (v := iv 9) cb_9 d_P_numberAll_49 (ai_imul d_P_numberAll_51 (aw_iload_n rfl rfl d_P_numberAll_52 (ai_iadd d_P_numberAll_53 ?_)))))))
      refine ai_name hf (wr32_in _) (fun x4 h_x4 hf => ?_)
      refine ai_iald (rc_6_0 _ h_o0).2 rfl h_x4 hf d_P_numberAll_54 (fun _ hf => ?_)
      refine ai_imul d_P_numberAll_55 (ai_iadd d_P_numberAll_56 ?_)
      refine ai_iast (rc_6_3 _ h_o0).2 rfl h_w4 (wr32_in _) h_I0 hf d_P_numberAll_57 (fun _ I5 h_I5 hf => ?_)
      refine ai_iinc (n := 1) (lv2 := fun x6 => [.ref o0, .ref o1, .int (iv p2), .int (iv p3), .int (iv x6)]) hf rfl (Nat.le_of_ble_eq_true rfl) (fun _ => rfl) d_P_numberAll_58 (fun x6 h_x6 hf => ?_)
      refine aw_goto (tgt := 27) (by decide) d_P_numberAll_61 ?_
      exact ih x6 I5 h_x6 h_I5 hf
set_option maxRecDepth 20000 in
theorem t_P_numberAll_12 (fu : Nat) {r : Int × IMem} (o0 : Nat) (o1 n1 : Nat) (h_o0 : KC[o0]? = some (9, 7)) (h_o1 : KC[o1]? = some (0, n1) ∧ n1 < 1000000) : ∀ (m : Nat) (w2 : Int) (w3 : Int) (I0 : IMem), inr w2 → inr w3 → RG I0 → f_P_numberAll_12 fu o0 o1 n1 m w2 w3 I0 = some r → Ai l b 2 y_P_numberAll KC RC (Ps r) I0 12 [.ref o0, .ref o1, .int (iv w2), .int (iv w3), uu] [] := by
  intro m
  induction m with
  | zero => intro w2 w3 I0 h_w2 h_w3 h_I0 hf; cases hf
  | succ m ih =>
    intro w2 w3 I0 h_w2 h_w3 h_I0 hf
    replace hf : fb_P_numberAll_12 fu o0 o1 n1 (f_P_numberAll_12 fu o0 o1 n1 m) w2 w3 I0 = some r := hf
    unfold fb_P_numberAll_12 at hf
    refine aw_iload_n rfl rfl d_P_numberAll_12 (aw_bipush (v := iv 8) cb_8 d_P_numberAll_13 ?_)
    refine ai_icmp_gt h_w3 in_8 hf (tgt := 78) (by decide) d_P_numberAll_15 (fun hf => ?_) (fun hf => ?_)
    · refine aw_iload_n rfl rfl d_P_numberAll_78 ?_
      exact ai_reti rfl d_P_numberAll_79 hf h_w2 h_I0
    · refine aw_iload_n rfl rfl d_P_numberAll_18 (aw_aload_n rfl rfl d_P_numberAll_19 (ai_alen (N := n1) h_o1.1 (by decide) rfl h_o1.2 d_P_numberAll_20 ?_))
      refine ai_icmp_ge h_w3 (nat_in h_o1.2) hf (tgt := 78) (by decide) d_P_numberAll_21 (fun hf => ?_) (fun hf => ?_)
      · refine aw_iload_n rfl rfl d_P_numberAll_78 ?_
        exact ai_reti rfl d_P_numberAll_79 hf h_w2 h_I0
      · refine aw_iconst (v := iv 0) rfl d_P_numberAll_24 (aw_istore (lv2 := [.ref o0, .ref o1, .int (iv w2), .int (iv w3), .int (iv 0)]) (Nat.le_of_ble_eq_true rfl) rfl d_P_numberAll_25 ?_)
        refine t_P_numberAll_27 fu _ o0 o1 n1 w2 w3 h_o0 h_o1 h_w2 h_w3 ?_ fu 0 I0 in_0 h_I0 hf
        · intro I7 h_I7 hf
          refine aw_iload_n rfl rfl d_P_numberAll_64 (aw_aload_n rfl rfl d_P_numberAll_65 (aw_iload_n rfl rfl d_P_numberAll_66 ?_))
          refine ai_iald h_o1.1 rfl h_w3 hf d_P_numberAll_67 (fun _ hf => ?_)
          refine aw_iconst (v := iv 1) rfl d_P_numberAll_68 (ai_iadd d_P_numberAll_69 (ai_imul d_P_numberAll_70 ?_))
          refine ai_name hf (wr32_in _) (fun x8 h_x8 hf => ?_)
          refine aw_istore_n (lv2 := [.ref o0, .ref o1, .int (iv x8), .int (iv w3), uu]) rfl (Nat.le_of_ble_eq_true rfl) rfl d_P_numberAll_71 ?_
          refine ai_iinc (n := 1) (lv2 := fun x9 => [.ref o0, .ref o1, .int (iv x8), .int (iv x9), uu]) hf rfl (Nat.le_of_ble_eq_true rfl) (fun _ => rfl) d_P_numberAll_72 (fun x9 h_x9 hf => ?_)
          refine aw_goto (tgt := 12) (by decide) d_P_numberAll_75 ?_
          exact ih x8 x9 I7 h_x8 h_x9 h_I7 hf
set_option maxRecDepth 20000 in
theorem t_P_numberAll (fu : Nat) (o0 : Nat) (o1 n1 : Nat) (I0 : IMem) (hI : RG I0) (h_o0 : KC[o0]? = some (9, 7)) (h_o1 : KC[o1]? = some (0, n1) ∧ n1 < 1000000) {r : Int × IMem} (hf : f_P_numberAll fu o0 o1 n1 I0 = some r) : Ss l b 2 y_P_numberAll KC RC [.ref o0, .ref o1] (ivm I0) (Ps r) := by
  unfold f_P_numberAll at hf
  refine Ss.of (show Ai l b 2 y_P_numberAll KC RC (Ps r) I0 0 [.ref o0, .ref o1, uu, uu, uu] [] from ?_)
  refine aw_aload_n rfl rfl d_P_numberAll_0 (aw_getr (r := o0 + 3) fl_P_18 h_o0 (by decide) rfl (rc_6_3 _ h_o0).1 d_P_numberAll_1 (aw_iconst (v := iv 0) rfl d_P_numberAll_4 ?_))
  obtain ⟨y1, I2, c3, hf⟩ := of_zb hf
  refine ai_callSv (as := [.ref (o0 + 3), .int (iv 0)]) (d' := 1) mo_JA_fill lk_P_52 rfl ⟨by decide, by decide⟩ rfl rfl (by decide) d_P_numberAll_5 (t_JA_fill fu (o0 + 3) 67 0 I0 hI ⟨(rc_6_3 _ h_o0).2, by decide⟩ in_0 c3) (fun h_I2 => ?_)
  refine aw_iconst (v := iv 1) rfl d_P_numberAll_8 (aw_istore_n (lv2 := [.ref o0, .ref o1, .int (iv 1), uu, uu]) rfl (Nat.le_of_ble_eq_true rfl) rfl d_P_numberAll_9 (aw_iconst (v := iv 1) rfl d_P_numberAll_10 (aw_istore_n (lv2 := [.ref o0, .ref o1, .int (iv 1), .int (iv 1), uu]) rfl (Nat.le_of_ble_eq_true rfl) rfl d_P_numberAll_11 ?_)))
  refine t_P_numberAll_12 fu o0 o1 n1 h_o0 h_o1 fu 1 1 I2 in_1 in_1 h_I2 hf
set_option maxRecDepth 20000 in
theorem t_P_pack_22 (fu : Nat) {r : Int × IMem} (k_115 : IMem → Res) (o0 : Nat) (o1 n1 : Nat) (p2 : Int) (p3 : Int) (h_o0 : KC[o0]? = some (9, 7)) (h_o1 : KC[o1]? = some (0, n1) ∧ n1 < 1000000) (h_p2 : inr p2) (h_p3 : inr p3) (hk_115 : ∀ (I9 : IMem), RG I9 → k_115 I9 = some r → Ai l b 3 y_P_pack KC RC (Ps r) I9 115 [.ref o0, uu, uu, .int (iv p3), uu, uu] []) : ∀ (m : Nat) (w4 : Int) (I0 : IMem), inr w4 → RG I0 → f_P_pack_22 fu k_115 o0 o1 n1 p2 p3 m w4 I0 = some r → Ai l b 3 y_P_pack KC RC (Ps r) I0 22 [.ref o0, .ref o1, .int (iv p2), .int (iv p3), .int (iv w4), uu] [] := by
  intro m
  induction m with
  | zero => intro w4 I0 h_w4 h_I0 hf; cases hf
  | succ m ih =>
    intro w4 I0 h_w4 h_I0 hf
    replace hf : fb_P_pack_22 fu k_115 o0 o1 n1 p2 p3 (f_P_pack_22 fu k_115 o0 o1 n1 p2 p3 m) w4 I0 = some r := hf
    unfold fb_P_pack_22 at hf
    refine aw_iload rfl d_P_pack_22 (aw_iload_n rfl rfl d_P_pack_24 ?_)
    refine ai_icmp_ge h_w4 h_p3 hf (tgt := 115) (by decide) d_P_pack_25 (fun hf => ?_) (fun hf => ?_)
    · refine aw_weakB (lv2 := [.ref o0, uu, uu, .int (iv p3), uu, uu]) (wk_s (wk_u (wk_u (wk_s (wk_u (wk_u wk_n)))))) ?_
      exact hk_115 I0 h_I0 hf
    · refine aw_iload rfl d_P_pack_28 (aw_sipush (v := iv 1296) cs_1296 d_P_pack_30 ?_)
      refine ai_icmp_ge h_w4 in_1296 hf (tgt := 115) (by decide) d_P_pack_33 (fun hf => ?_) (fun hf => ?_)
      · refine aw_weakB (lv2 := [.ref o0, uu, uu, .int (iv p3), uu, uu]) (wk_s (wk_u (wk_u (wk_s (wk_u (wk_u wk_n)))))) ?_
        exact hk_115 I0 h_I0 hf
      · refine aw_aload_n rfl rfl d_P_pack_36 (aw_aload_n rfl rfl d_P_pack_37 ?_)
        obtain ⟨y8, I9, c10, hf⟩ := of_zb hf
        refine ai_callVv (as := [.ref o1]) (d' := 1) (q := ("SinglesUp$Packer", zT6, 7)) mo_P_goOn lk_P_58 h_o0 rfl rfl rfl ⟨by decide, by decide⟩ rfl rfl (by decide) d_P_pack_38 (t_P_goOn fu o0 o1 n1 I0 h_I0 h_o0 h_o1 c10) (fun h_I9 => ?_)
        refine aw_aload_n rfl rfl d_P_pack_41 (aw_aload_n rfl rfl d_P_pack_42 (aw_iload rfl d_P_pack_43 (aw_iload_n rfl rfl d_P_pack_45 ?_)))
        obtain ⟨y11, I12, c13, hf⟩ := of_zb hf
        refine ai_callV (as := [.int (iv w4), .int (iv p2)]) (d' := 2) (q := ("SinglesUp$Packer", zT6, 7)) mo_P_firstWay lk_P_62 h_o0 rfl rfl rfl ⟨by decide, by decide⟩ rfl rfl (by decide) d_P_pack_46 (t_P_firstWay fu o0 w4 p2 I9 h_I9 h_o0 h_w4 h_p2 c13) (fun h_y11 h_I12 => ?_)
        refine ai_puti hf h_I12 h_y11 fl_P_27 h_o0 (by decide) rfl rfl rfl rfl d_P_pack_49 (fun I14 h_I14 hf => ?_)
        refine aw_aload_n rfl rfl d_P_pack_52 (ai_geti fl_P_27 h_o0 (by decide) rfl d_P_pack_53 (aw_iconst (v := iv (-1)) rfl d_P_pack_56 ?_))
        refine ai_icmp_ne (h_I14 o0 6) in_m1 hf (tgt := 62) (by decide) d_P_pack_57 (fun hf => ?_) (fun hf => ?_)
        · refine aw_iload rfl d_P_pack_62 (aw_aload_n rfl rfl d_P_pack_64 (aw_getr (r := o0 + 3) fl_P_18 h_o0 (by decide) rfl (rc_6_3 _ h_o0).1 d_P_pack_65 (aw_aload_n rfl rfl d_P_pack_68 (ai_geti fl_P_27 h_o0 (by decide) rfl d_P_pack_69 ?_))))
          refine ai_name hf (h_I14 o0 6) (fun x15 h_x15 hf => ?_)
          refine ai_iald (rc_6_3 _ h_o0).2 rfl h_x15 hf d_P_pack_72 (fun _ hf => ?_)
          refine ai_isub d_P_pack_73 ?_
          refine ai_name hf (wr32_in _) (fun x16 h_x16 hf => ?_)
          refine aw_istore (lv2 := [.ref o0, .ref o1, .int (iv p2), .int (iv p3), .int (iv w4), .int (iv x16)]) (Nat.le_of_ble_eq_true rfl) rfl d_P_pack_74 ?_
          refine aw_aload_n rfl rfl d_P_pack_76 (aw_getr (r := o0 + 4) fl_P_21 h_o0 (by decide) rfl (rc_6_4 _ h_o0).1 d_P_pack_77 (aw_iload rfl d_P_pack_80 (aw_iload rfl d_P_pack_82 ?_)))
          obtain ⟨k17, ek17, hf⟩ := of_zj hf
          have hk17 : ∀ (x19 : Int) (I18 : IMem), inr x19 → RG I18 → k17 x19 I18 = some r → Ai l b 3 y_P_pack KC RC (Ps r) I18 108 [.ref o0, .ref o1, .int (iv p2), .int (iv p3), .int (iv w4), uu] [.int (iv x19), .int (iv w4), .ref (o0 + 4)] := by
            intro x19 I18 h_x19 h_I18 hf
            subst ek17
            refine ai_iast (rc_6_4 _ h_o0).2 rfl h_w4 h_x19 h_I18 hf d_P_pack_108 (fun _ I20 h_I20 hf => ?_)
            refine ai_iinc (n := 1) (lv2 := fun x21 => [.ref o0, .ref o1, .int (iv p2), .int (iv p3), .int (iv x21), uu]) hf rfl (Nat.le_of_ble_eq_true rfl) (fun _ => rfl) d_P_pack_109 (fun x21 h_x21 hf => ?_)
            refine aw_goto (tgt := 22) (by decide) d_P_pack_112 ?_
            exact ih x21 I20 h_x21 h_I20 hf
          refine ai_if_lt h_x16 hf (tgt := 107) (by decide) d_P_pack_84 (fun hf => ?_) (fun hf => ?_)
          · refine aw_iconst (v := iv (-1)) rfl d_P_pack_107 ?_
            refine aw_weakB (lv2 := [.ref o0, .ref o1, .int (iv p2), .int (iv p3), .int (iv w4), uu]) (wk_s (wk_s (wk_s (wk_s (wk_s (wk_u wk_n)))))) ?_
            exact hk17 ((-1)) I14 in_m1 h_I14 hf
          · refine aw_iload rfl d_P_pack_87 (aw_sipush (v := iv 1296) cs_1296 d_P_pack_89 ?_)
            refine ai_icmp_ge h_x16 in_1296 hf (tgt := 107) (by decide) d_P_pack_92 (fun hf => ?_) (fun hf => ?_)
            · refine aw_iconst (v := iv (-1)) rfl d_P_pack_107 ?_
              refine aw_weakB (lv2 := [.ref o0, .ref o1, .int (iv p2), .int (iv p3), .int (iv w4), uu]) (wk_s (wk_s (wk_s (wk_s (wk_s (wk_u wk_n)))))) ?_
              exact hk17 ((-1)) I14 in_m1 h_I14 hf
            · refine aw_iconst (v := iv 1) rfl d_P_pack_95 (aw_aload_n rfl rfl d_P_pack_96 (aw_getr (r := o0 + 4) fl_P_21 h_o0 (by decide) rfl (rc_6_4 _ h_o0).1 d_P_pack_97 (aw_iload rfl d_P_pack_100 ?_)))
              refine ai_iald (rc_6_4 _ h_o0).2 rfl h_x16 hf d_P_pack_102 (fun _ hf => ?_)
              refine ai_iadd d_P_pack_103 (aw_goto (tgt := 108) (by decide) d_P_pack_104 ?_)
              refine aw_weakB (lv2 := [.ref o0, .ref o1, .int (iv p2), .int (iv p3), .int (iv w4), uu]) (wk_s (wk_s (wk_s (wk_s (wk_s (wk_u wk_n)))))) ?_
              exact hk17 (wr32 (1 + (I14 (o0 + 4) x16.toNat))) I14 (wr32_in _) h_I14 hf
        · refine aw_iconst (v := iv (-1)) rfl d_P_pack_60 ?_
          exact ai_reti rfl d_P_pack_61 hf in_m1 h_I14
set_option maxRecDepth 20000 in
theorem t_P_pack (fu : Nat) (o0 : Nat) (o1 n1 : Nat) (a2 : Int) (I0 : IMem) (hI : RG I0) (h_o0 : KC[o0]? = some (9, 7)) (h_o1 : KC[o1]? = some (0, n1) ∧ n1 < 1000000) (h_a2 : inr a2) {r : Int × IMem} (hf : f_P_pack fu o0 o1 n1 a2 I0 = some r) : Ss l b 3 y_P_pack KC RC [.ref o0, .ref o1, .int (iv a2)] (ivm I0) (Ps r) := by
  unfold f_P_pack at hf
  refine Ss.of (show Ai l b 3 y_P_pack KC RC (Ps r) I0 0 [.ref o0, .ref o1, .int (iv a2), uu, uu, uu] [] from ?_)
  refine aw_aload_n rfl rfl d_P_pack_0 (aw_aload_n rfl rfl d_P_pack_1 ?_)
  obtain ⟨y1, I2, c3, hf⟩ := of_zb hf
  refine ai_callV (as := [.ref o1]) (d' := 2) (q := ("SinglesUp$Packer", zT6, 7)) mo_P_numberAll lk_P_48 h_o0 rfl rfl rfl ⟨by decide, by decide⟩ rfl rfl (by decide) d_P_pack_2 (t_P_numberAll fu o0 o1 n1 I0 hI h_o0 h_o1 c3) (fun h_y1 h_I2 => ?_)
  refine aw_istore_n (lv2 := [.ref o0, .ref o1, .int (iv a2), .int (iv y1), uu, uu]) rfl (Nat.le_of_ble_eq_true rfl) rfl d_P_pack_5 (aw_aload_n rfl rfl d_P_pack_6 (aw_getr (r := o0 + 5) fl_P_24 h_o0 (by decide) rfl (rc_6_5 _ h_o0).1 d_P_pack_7 (aw_iconst (v := iv 0) rfl d_P_pack_10 ?_)))
  obtain ⟨y4, I5, c6, hf⟩ := of_zb hf
  refine ai_callSv (as := [.ref (o0 + 5), .int (iv 0)]) (d' := 1) mo_JA_fill lk_P_52 rfl ⟨by decide, by decide⟩ rfl rfl (by decide) d_P_pack_11 (t_JA_fill fu (o0 + 5) 9 0 I2 h_I2 ⟨(rc_6_5 _ h_o0).2, by decide⟩ in_0 c6) (fun h_I5 => ?_)
  refine aw_aload_n rfl rfl d_P_pack_14 (aw_iconst (v := iv (-1)) rfl d_P_pack_15 ?_)
  refine ai_puti hf h_I5 in_m1 fl_P_27 h_o0 (by decide) rfl rfl rfl rfl d_P_pack_16 (fun I7 h_I7 hf => ?_)
  refine aw_iconst (v := iv 1) rfl d_P_pack_19 (aw_istore (lv2 := [.ref o0, .ref o1, .int (iv a2), .int (iv y1), .int (iv 1), uu]) (Nat.le_of_ble_eq_true rfl) rfl d_P_pack_20 ?_)
  refine t_P_pack_22 fu _ o0 o1 n1 a2 y1 h_o0 h_o1 h_a2 h_y1 ?_ fu 1 I7 in_1 h_I7 hf
  · intro I22 h_I22 hf
    refine aw_iload_n rfl rfl d_P_pack_115 (aw_iconst (v := iv 1) rfl d_P_pack_116 ?_)
    refine ai_icmp_lt h_y1 in_1 hf (tgt := 138) (by decide) d_P_pack_117 (fun hf => ?_) (fun hf => ?_)
    · refine aw_iconst (v := iv (-1)) rfl d_P_pack_138 ?_
      exact ai_reti rfl d_P_pack_139 hf in_m1 h_I22
    · refine aw_iload_n rfl rfl d_P_pack_120 (aw_sipush (v := iv 1296) cs_1296 d_P_pack_121 ?_)
      refine ai_icmp_gt h_y1 in_1296 hf (tgt := 138) (by decide) d_P_pack_124 (fun hf => ?_) (fun hf => ?_)
      · refine aw_iconst (v := iv (-1)) rfl d_P_pack_138 ?_
        exact ai_reti rfl d_P_pack_139 hf in_m1 h_I22
      · refine aw_aload_n rfl rfl d_P_pack_127 (aw_getr (r := o0 + 4) fl_P_21 h_o0 (by decide) rfl (rc_6_4 _ h_o0).1 d_P_pack_128 (aw_iload_n rfl rfl d_P_pack_131 (aw_iconst (v := iv 1) rfl d_P_pack_132 (ai_isub d_P_pack_133 ?_))))
        refine ai_name hf (wr32_in _) (fun x23 h_x23 hf => ?_)
        refine ai_iald (rc_6_4 _ h_o0).2 rfl h_x23 hf d_P_pack_134 (fun _ hf => ?_)
        refine aw_goto (tgt := 139) (by decide) d_P_pack_135 ?_
        exact ai_reti rfl d_P_pack_139 hf (h_I22 (o0 + 4) x23.toNat) h_I22
set_option maxRecDepth 20000 in
theorem t_S_fewest (fu : Nat) (o0 : Nat) (a1 : Int) (I0 : IMem) (hI : RG I0) (h_o0 : KC[o0]? = some (11, 9)) (h_a1 : inr a1) {r : Int × IMem} (hf : f_S_fewest fu o0 a1 I0 = some r) : Ss l b 4 y_S_fewest KC RC [.ref o0, .int (iv a1)] (ivm I0) (Ps r) := by
  unfold f_S_fewest at hf
  refine Ss.of (show Ai l b 4 y_S_fewest KC RC (Ps r) I0 0 [.ref o0, .int (iv a1), uu] [] from ?_)
  refine aw_iload_n rfl rfl d_S_fewest_0 ?_
  refine ai_if_lt h_a1 hf (tgt := 10) (by decide) d_S_fewest_1 (fun hf => ?_) (fun hf => ?_)
  · refine aw_iconst (v := iv (-1)) rfl d_S_fewest_10 ?_
    exact ai_reti rfl d_S_fewest_11 hf in_m1 hI
  · refine aw_iload_n rfl rfl d_S_fewest_4 (aw_bipush (v := iv 8) cb_8 d_S_fewest_5 ?_)
    refine ai_icmp_le h_a1 in_8 hf (tgt := 12) (by decide) d_S_fewest_7 (fun hf => ?_) (fun hf => ?_)
    · refine aw_aload_n rfl rfl d_S_fewest_12 (aw_getr (r := o0 + 160) fl_S_53 h_o0 (by decide) rfl (rc_8_7 _ h_o0).1 d_S_fewest_13 (aw_aload_n rfl rfl d_S_fewest_16 (aw_getr (r := o0 + 1) fl_S_12 h_o0 (by decide) rfl (rc_8_0 _ h_o0).1 d_S_fewest_17 (aw_getr (r := o0 + 6) fl_S_209 ((rc_8_0 _ h_o0).2) (by decide) rfl (rc_2_4 _ (rc_8_0 _ h_o0).2).1 d_S_fewest_20 (aw_aload_n rfl rfl d_S_fewest_23 (aw_getr (r := o0 + 1) fl_S_12 h_o0 (by decide) rfl (rc_8_0 _ h_o0).1 d_S_fewest_24 (aw_getr (r := o0 + 2) fl_S_65 ((rc_8_0 _ h_o0).2) (by decide) rfl (rc_2_0 _ (rc_8_0 _ h_o0).2).1 d_S_fewest_27 (aw_iconst (v := iv 0) rfl d_S_fewest_30 (ai_ialdc (j := 0) (rc_2_0 _ (rc_8_0 _ h_o0).2).2 (by decide) (by decide) d_S_fewest_31 ?_)))))))))
      obtain ⟨y1, I2, c3, hf⟩ := of_zb hf
      refine ai_callV (as := [.ref (o0 + 6), .int (iv (I0 (o0 + 2) 0))]) (d' := 3) (q := ("SinglesUp$Packer", zT6, 7)) mo_P_pack lk_S_212 (rc_8_7 _ h_o0).2 rfl rfl rfl ⟨by decide, by decide⟩ rfl rfl (by decide) d_S_fewest_32 (t_P_pack fu (o0 + 160) (o0 + 6) 9 (I0 (o0 + 2) 0) I0 hI (rc_8_7 _ h_o0).2 ⟨(rc_2_4 _ (rc_8_0 _ h_o0).2).2, by decide⟩ (hI (o0 + 2) 0) c3) (fun h_y1 h_I2 => ?_)
      refine aw_istore_n (lv2 := [.ref o0, .int (iv a1), .int (iv y1)]) rfl (Nat.le_of_ble_eq_true rfl) rfl d_S_fewest_35 (aw_iload_n rfl rfl d_S_fewest_36 ?_)
      refine ai_if_eq h_a1 hf (tgt := 45) (by decide) d_S_fewest_37 (fun hf => ?_) (fun hf => ?_)
      · refine aw_iload_n rfl rfl d_S_fewest_45 (aw_goto (tgt := 57) (by decide) d_S_fewest_46 ?_)
        exact ai_reti rfl d_S_fewest_57 hf h_y1 h_I2
      · refine aw_iload_n rfl rfl d_S_fewest_40 (aw_iconst (v := iv (-1)) rfl d_S_fewest_41 ?_)
        refine ai_icmp_ne h_y1 in_m1 hf (tgt := 49) (by decide) d_S_fewest_42 (fun hf => ?_) (fun hf => ?_)
        · refine aw_aload_n rfl rfl d_S_fewest_49 (aw_getr (r := o0 + 160) fl_S_53 h_o0 (by decide) rfl (rc_8_7 _ h_o0).1 d_S_fewest_50 (aw_iload_n rfl rfl d_S_fewest_53 ?_))
          obtain ⟨y4, I5, c6, hf⟩ := of_zb hf
          refine ai_callV (as := [.int (iv a1)]) (d' := 1) (q := ("SinglesUp$Packer", zT6, 7)) mo_P_inFirst lk_S_216 (rc_8_7 _ h_o0).2 rfl rfl rfl ⟨by decide, by decide⟩ rfl rfl (by decide) d_S_fewest_54 (t_P_inFirst fu (o0 + 160) a1 I2 h_I2 (rc_8_7 _ h_o0).2 h_a1 c6) (fun h_y4 h_I5 => ?_)
          exact ai_reti rfl d_S_fewest_57 hf h_y4 h_I5
        · refine aw_iload_n rfl rfl d_S_fewest_45 (aw_goto (tgt := 57) (by decide) d_S_fewest_46 ?_)
          exact ai_reti rfl d_S_fewest_57 hf h_y1 h_I2
    · refine aw_iconst (v := iv (-1)) rfl d_S_fewest_10 ?_
      exact ai_reti rfl d_S_fewest_11 hf in_m1 hI
set_option maxRecDepth 20000 in
theorem t_M_allWait_4 (fu : Nat) {r : Int × IMem} (o0 : Nat) (h_o0 : KC[o0]? = some (5, 14)) : ∀ (m : Nat) (w1 : Int) (w2 : Int) (I0 : IMem), inr w1 → inr w2 → RG I0 → f_M_allWait_4 fu o0 m w1 w2 I0 = some r → Ai l b 1 y_M_allWait KC RC (Ps r) I0 4 [.ref o0, .int (iv w1), .int (iv w2)] [] := by
  intro m
  induction m with
  | zero => intro w1 w2 I0 h_w1 h_w2 h_I0 hf; cases hf
  | succ m ih =>
    intro w1 w2 I0 h_w1 h_w2 h_I0 hf
    replace hf : fb_M_allWait_4 fu o0 (f_M_allWait_4 fu o0 m) w1 w2 I0 = some r := hf
    unfold fb_M_allWait_4 at hf
    refine aw_iload_n rfl rfl d_M_allWait_4 (aw_bipush (v := iv 8) cb_8 d_M_allWait_5 ?_)
    refine ai_icmp_gt h_w2 in_8 hf (tgt := 28) (by decide) d_M_allWait_7 (fun hf => ?_) (fun hf => ?_)
    · refine aw_iload_n rfl rfl d_M_allWait_28 ?_
      exact ai_reti rfl d_M_allWait_29 hf h_w1 h_I0
    · refine aw_iload_n rfl rfl d_M_allWait_10 (aw_aload_n rfl rfl d_M_allWait_11 (aw_getr (r := o0 + 10) fl_M_40 h_o0 (by decide) rfl (rc_2_8 _ h_o0).1 d_M_allWait_12 (aw_bipush (v := iv 20) cb_20 d_M_allWait_15 (aw_iload_n rfl rfl d_M_allWait_17 (ai_iadd d_M_allWait_18 ?_)))))
      refine ai_name hf (wr32_in _) (fun x1 h_x1 hf => ?_)
      refine ai_iald (rc_2_8 _ h_o0).2 rfl h_x1 hf d_M_allWait_19 (fun _ hf => ?_)
      refine ai_iadd d_M_allWait_20 ?_
      refine ai_name hf (wr32_in _) (fun x2 h_x2 hf => ?_)
      refine aw_istore_n (lv2 := [.ref o0, .int (iv x2), .int (iv w2)]) rfl (Nat.le_of_ble_eq_true rfl) rfl d_M_allWait_21 ?_
      refine ai_iinc (n := 1) (lv2 := fun x3 => [.ref o0, .int (iv x2), .int (iv x3)]) hf rfl (Nat.le_of_ble_eq_true rfl) (fun _ => rfl) d_M_allWait_22 (fun x3 h_x3 hf => ?_)
      refine aw_goto (tgt := 4) (by decide) d_M_allWait_25 ?_
      exact ih x2 x3 I0 h_x2 h_x3 h_I0 hf
set_option maxRecDepth 20000 in
theorem t_M_allWait (fu : Nat) (o0 : Nat) (I0 : IMem) (hI : RG I0) (h_o0 : KC[o0]? = some (5, 14)) {r : Int × IMem} (hf : f_M_allWait fu o0 I0 = some r) : Ss l b 1 y_M_allWait KC RC [.ref o0] (ivm I0) (Ps r) := by
  unfold f_M_allWait at hf
  refine Ss.of (show Ai l b 1 y_M_allWait KC RC (Ps r) I0 0 [.ref o0, uu, uu] [] from ?_)
  refine aw_iconst (v := iv 0) rfl d_M_allWait_0 (aw_istore_n (lv2 := [.ref o0, .int (iv 0), uu]) rfl (Nat.le_of_ble_eq_true rfl) rfl d_M_allWait_1 (aw_iconst (v := iv 1) rfl d_M_allWait_2 (aw_istore_n (lv2 := [.ref o0, .int (iv 0), .int (iv 1)]) rfl (Nat.le_of_ble_eq_true rfl) rfl d_M_allWait_3 ?_)))
  refine t_M_allWait_4 fu o0 h_o0 fu 0 1 I0 in_0 in_1 hI hf
set_option maxRecDepth 20000 in
theorem t_M_longest_4 (fu : Nat) {r : Int × IMem} (o0 : Nat) (h_o0 : KC[o0]? = some (8, 3)) : ∀ (m : Nat) (w1 : Int) (w2 : Int) (I0 : IMem), inr w1 → inr w2 → RG I0 → f_M_longest_4 fu o0 m w1 w2 I0 = some r → Ai l b 2 y_M_longest KC RC (Ps r) I0 4 [.ref o0, .int (iv w1), .int (iv w2)] [] := by
  intro m
  induction m with
  | zero => intro w1 w2 I0 h_w1 h_w2 h_I0 hf; cases hf
  | succ m ih =>
    intro w1 w2 I0 h_w1 h_w2 h_I0 hf
    replace hf : fb_M_longest_4 fu o0 (f_M_longest_4 fu o0 m) w1 w2 I0 = some r := hf
    unfold fb_M_longest_4 at hf
    refine aw_iload_n rfl rfl d_M_longest_4 (aw_bipush (v := iv 8) cb_8 d_M_longest_5 ?_)
    refine ai_icmp_gt h_w2 in_8 hf (tgt := 33) (by decide) d_M_longest_7 (fun hf => ?_) (fun hf => ?_)
    · refine aw_iload_n rfl rfl d_M_longest_33 ?_
      exact ai_reti rfl d_M_longest_34 hf h_w1 h_I0
    · refine aw_iload_n rfl rfl d_M_longest_10 (aw_aload_n rfl rfl d_M_longest_11 (aw_getr (r := o0 + 1) fl_M_12 h_o0 (by decide) rfl (rc_5_0 _ h_o0).1 d_M_longest_12 (aw_getr (r := o0 + 11) fl_M_40 ((rc_5_0 _ h_o0).2) (by decide) rfl (rc_2_8 _ (rc_5_0 _ h_o0).2).1 d_M_longest_15 (aw_bipush (v := iv 30) cb_30 d_M_longest_18 (aw_iload_n rfl rfl d_M_longest_20 (ai_iadd d_M_longest_21 ?_))))))
      refine ai_name hf (wr32_in _) (fun x1 h_x1 hf => ?_)
      refine ai_iald (rc_2_8 _ (rc_5_0 _ h_o0).2).2 rfl h_x1 hf d_M_longest_22 (fun _ hf => ?_)
      obtain ⟨y2, I3, c4, hf⟩ := of_zb hf
      refine ai_callS (as := [.int (iv w1), .int (iv (I0 (o0 + 11) x1.toNat))]) (d' := 1) mo_JM_max lk_M_51 rfl ⟨by decide, by decide⟩ rfl rfl (by decide) d_M_longest_23 (t_JM_max fu w1 (I0 (o0 + 11) x1.toNat) I0 h_I0 h_w1 (h_I0 (o0 + 11) x1.toNat) c4) (fun h_y2 h_I3 => ?_)
      refine aw_istore_n (lv2 := [.ref o0, .int (iv y2), .int (iv w2)]) rfl (Nat.le_of_ble_eq_true rfl) rfl d_M_longest_26 ?_
      refine ai_iinc (n := 1) (lv2 := fun x5 => [.ref o0, .int (iv y2), .int (iv x5)]) hf rfl (Nat.le_of_ble_eq_true rfl) (fun _ => rfl) d_M_longest_27 (fun x5 h_x5 hf => ?_)
      refine aw_goto (tgt := 4) (by decide) d_M_longest_30 ?_
      exact ih y2 x5 I3 h_y2 h_x5 h_I3 hf
set_option maxRecDepth 20000 in
theorem t_M_longest (fu : Nat) (o0 : Nat) (I0 : IMem) (hI : RG I0) (h_o0 : KC[o0]? = some (8, 3)) {r : Int × IMem} (hf : f_M_longest fu o0 I0 = some r) : Ss l b 2 y_M_longest KC RC [.ref o0] (ivm I0) (Ps r) := by
  unfold f_M_longest at hf
  refine Ss.of (show Ai l b 2 y_M_longest KC RC (Ps r) I0 0 [.ref o0, uu, uu] [] from ?_)
  refine aw_iconst (v := iv 0) rfl d_M_longest_0 (aw_istore_n (lv2 := [.ref o0, .int (iv 0), uu]) rfl (Nat.le_of_ble_eq_true rfl) rfl d_M_longest_1 (aw_iconst (v := iv 1) rfl d_M_longest_2 (aw_istore_n (lv2 := [.ref o0, .int (iv 0), .int (iv 1)]) rfl (Nat.le_of_ble_eq_true rfl) rfl d_M_longest_3 ?_)))
  refine t_M_longest_4 fu o0 h_o0 fu 0 1 I0 in_0 in_1 hI hf
set_option maxRecDepth 20000 in
theorem t_M_gained (fu : Nat) (o0 : Nat) (o1 : Nat) (a2 : Int) (I0 : IMem) (hI : RG I0) (h_o0 : KC[o0]? = some (8, 3)) (h_o1 : KC[o1]? = some (5, 14)) (h_a2 : inr a2) {r : Int × IMem} (hf : f_M_gained fu o0 o1 a2 I0 = some r) : Ss l b 3 y_M_gained KC RC [.ref o0, .ref o1, .int (iv a2)] (ivm I0) (Ps r) := by
  unfold f_M_gained at hf
  refine Ss.of (show Ai l b 3 y_M_gained KC RC (Ps r) I0 0 [.ref o0, .ref o1, .int (iv a2)] [] from ?_)
  refine aw_iload_n rfl rfl d_M_gained_0 ?_
  rcases of_ite hf with ⟨q1, hf⟩ | ⟨q1, hf⟩
  · refine ai_tabIn 0 h_a2 q1 (by decide) rfl (tgt := 36) (by decide) d_M_gained_1 ?_
    refine aw_aload_n rfl rfl d_M_gained_36 (aw_getr (r := o0 + 1) fl_M_12 h_o0 (by decide) rfl (rc_5_0 _ h_o0).1 d_M_gained_37 (aw_getr (r := o0 + 11) fl_M_40 ((rc_5_0 _ h_o0).2) (by decide) rfl (rc_2_8 _ (rc_5_0 _ h_o0).2).1 d_M_gained_40 (aw_iconst (v := iv 1) rfl d_M_gained_43 (ai_ialdc (j := 1) (rc_2_8 _ (rc_5_0 _ h_o0).2).2 (by decide) (by decide) d_M_gained_44 (aw_aload_n rfl rfl d_M_gained_45 (aw_getr (r := o1 + 10) fl_M_40 h_o1 (by decide) rfl (rc_2_8 _ h_o1).1 d_M_gained_46 (aw_iconst (v := iv 1) rfl d_M_gained_49 (ai_ialdc (j := 1) (rc_2_8 _ h_o1).2 (by decide) (by decide) d_M_gained_50 (ai_isub d_M_gained_51 ?_)))))))))
    exact ai_reti rfl d_M_gained_52 hf (wr32_in _) hI
  rcases of_ite hf with ⟨q2, hf⟩ | ⟨q2, hf⟩
  · refine ai_tabIn 1 h_a2 q2 (by decide) rfl (tgt := 53) (by decide) d_M_gained_1 ?_
    refine aw_aload_n rfl rfl d_M_gained_53 (aw_getr (r := o0 + 1) fl_M_12 h_o0 (by decide) rfl (rc_5_0 _ h_o0).1 d_M_gained_54 (aw_getr (r := o0 + 11) fl_M_40 ((rc_5_0 _ h_o0).2) (by decide) rfl (rc_2_8 _ (rc_5_0 _ h_o0).2).1 d_M_gained_57 (aw_iconst (v := iv 2) rfl d_M_gained_60 (ai_ialdc (j := 2) (rc_2_8 _ (rc_5_0 _ h_o0).2).2 (by decide) (by decide) d_M_gained_61 (aw_aload_n rfl rfl d_M_gained_62 (aw_getr (r := o1 + 10) fl_M_40 h_o1 (by decide) rfl (rc_2_8 _ h_o1).1 d_M_gained_63 (aw_iconst (v := iv 2) rfl d_M_gained_66 (ai_ialdc (j := 2) (rc_2_8 _ h_o1).2 (by decide) (by decide) d_M_gained_67 (ai_isub d_M_gained_68 ?_)))))))))
    exact ai_reti rfl d_M_gained_69 hf (wr32_in _) hI
  rcases of_ite hf with ⟨q3, hf⟩ | ⟨q3, hf⟩
  · refine ai_tabIn 2 h_a2 q3 (by decide) rfl (tgt := 70) (by decide) d_M_gained_1 ?_
    refine aw_aload_n rfl rfl d_M_gained_70 (aw_getr (r := o0 + 1) fl_M_12 h_o0 (by decide) rfl (rc_5_0 _ h_o0).1 d_M_gained_71 ?_)
    obtain ⟨y4, I5, c6, hf⟩ := of_zb hf
    refine ai_callS (as := [.ref (o0 + 1)]) (d' := 1) mo_M_allWait lk_M_43 rfl ⟨by decide, by decide⟩ rfl rfl (by decide) d_M_gained_74 (t_M_allWait fu (o0 + 1) I0 hI (rc_5_0 _ h_o0).2 c6) (fun h_y4 h_I5 => ?_)
    refine aw_aload_n rfl rfl d_M_gained_77 ?_
    obtain ⟨y7, I8, c9, hf⟩ := of_zb hf
    refine ai_callS (as := [.ref o1]) (d' := 1) mo_M_allWait lk_M_43 rfl ⟨by decide, by decide⟩ rfl rfl (by decide) d_M_gained_78 (t_M_allWait fu o1 I5 h_I5 h_o1 c9) (fun h_y7 h_I8 => ?_)
    refine ai_isub d_M_gained_81 ?_
    exact ai_reti rfl d_M_gained_82 hf (wr32_in _) h_I8
  rcases of_ite hf with ⟨q10, hf⟩ | ⟨q10, hf⟩
  · refine ai_tabIn 3 h_a2 q10 (by decide) rfl (tgt := 83) (by decide) d_M_gained_1 ?_
    refine aw_aload_n rfl rfl d_M_gained_83 (aw_getr (r := o0 + 1) fl_M_12 h_o0 (by decide) rfl (rc_5_0 _ h_o0).1 d_M_gained_84 (aw_getr (r := o0 + 11) fl_M_40 ((rc_5_0 _ h_o0).2) (by decide) rfl (rc_2_8 _ (rc_5_0 _ h_o0).2).1 d_M_gained_87 (aw_bipush (v := iv 6) cb_6 d_M_gained_90 (ai_ialdc (j := 6) (rc_2_8 _ (rc_5_0 _ h_o0).2).2 (by decide) (by decide) d_M_gained_92 (aw_aload_n rfl rfl d_M_gained_93 (aw_getr (r := o1 + 10) fl_M_40 h_o1 (by decide) rfl (rc_2_8 _ h_o1).1 d_M_gained_94 (aw_bipush (v := iv 6) cb_6 d_M_gained_97 (ai_ialdc (j := 6) (rc_2_8 _ h_o1).2 (by decide) (by decide) d_M_gained_99 (ai_isub d_M_gained_100 ?_)))))))))
    exact ai_reti rfl d_M_gained_101 hf (wr32_in _) hI
  rcases of_ite hf with ⟨q11, hf⟩ | ⟨q11, hf⟩
  · refine ai_tabIn 4 h_a2 q11 (by decide) rfl (tgt := 102) (by decide) d_M_gained_1 ?_
    refine aw_aload_n rfl rfl d_M_gained_102 (aw_getr (r := o0 + 1) fl_M_12 h_o0 (by decide) rfl (rc_5_0 _ h_o0).1 d_M_gained_103 (aw_getr (r := o0 + 11) fl_M_40 ((rc_5_0 _ h_o0).2) (by decide) rfl (rc_2_8 _ (rc_5_0 _ h_o0).2).1 d_M_gained_106 (aw_iconst (v := iv 5) rfl d_M_gained_109 (ai_ialdc (j := 5) (rc_2_8 _ (rc_5_0 _ h_o0).2).2 (by decide) (by decide) d_M_gained_110 (aw_aload_n rfl rfl d_M_gained_111 (aw_getr (r := o1 + 10) fl_M_40 h_o1 (by decide) rfl (rc_2_8 _ h_o1).1 d_M_gained_112 (aw_iconst (v := iv 5) rfl d_M_gained_115 (ai_ialdc (j := 5) (rc_2_8 _ h_o1).2 (by decide) (by decide) d_M_gained_116 (ai_isub d_M_gained_117 ?_)))))))))
    exact ai_reti rfl d_M_gained_118 hf (wr32_in _) hI
  by_cases qr : a2 < 0 ∨ 4 < a2
  · refine ai_tabOut h_a2 qr (tgt := 119) (by decide) d_M_gained_1 ?_
    refine aw_aload_n rfl rfl d_M_gained_119 ?_
    obtain ⟨y12, I13, c14, hf⟩ := of_zb hf
    refine ai_callV (as := []) (d' := 2) (q := ("SinglesUp$Mind", zT5, 3)) mo_M_longest lk_M_47 h_o0 rfl rfl rfl ⟨by decide, by decide⟩ rfl rfl (by decide) d_M_gained_120 (t_M_longest fu o0 I0 hI h_o0 c14) (fun h_y12 h_I13 => ?_)
    exact ai_reti rfl d_M_gained_123 hf h_y12 h_I13
  exact absurd qr (by omega)
set_option maxRecDepth 20000 in
theorem t_L_copyFrom (fu : Nat) (o0 : Nat) (o1 : Nat) (I0 : IMem) (hI : RG I0) (h_o0 : KC[o0]? = some (7, 3)) (h_o1 : KC[o1]? = some (7, 3)) {r : Int × IMem} (hf : f_L_copyFrom fu o0 o1 I0 = some r) : Ss l b 1 y_L_copyFrom KC RC [.ref o0, .ref o1] (ivm I0) (Pv r) := by
  unfold f_L_copyFrom at hf
  refine Ss.of (show Ai l b 1 y_L_copyFrom KC RC (Pv r) I0 0 [.ref o0, .ref o1] [] from ?_)
  refine aw_aload_n rfl rfl d_L_copyFrom_0 (aw_getr (r := o1 + 1) fl_L_9 h_o1 (by decide) rfl (rc_4_0 _ h_o1).1 d_L_copyFrom_1 (aw_iconst (v := iv 0) rfl d_L_copyFrom_4 (aw_aload_n rfl rfl d_L_copyFrom_5 (aw_getr (r := o0 + 1) fl_L_9 h_o0 (by decide) rfl (rc_4_0 _ h_o0).1 d_L_copyFrom_6 (aw_iconst (v := iv 0) rfl d_L_copyFrom_9 (aw_aload_n rfl rfl d_L_copyFrom_10 (aw_getr (r := o0 + 1) fl_L_9 h_o0 (by decide) rfl (rc_4_0 _ h_o0).1 d_L_copyFrom_11 (ai_alen (N := 1440) (rc_4_0 _ h_o0).2 (by decide) rfl (by decide) d_L_copyFrom_14 ?_))))))))
  refine ai_copy lka_L_27 ac_nat ac_sta ac_ini (rc_4_0 _ h_o1).2 (rc_4_0 _ h_o0).2 rfl rfl in_0 in_0 in_1440 hI (by decide) rfl hf d_L_copyFrom_15 (fun I1 h_I1 hf => ?_)
  refine aw_aload_n rfl rfl d_L_copyFrom_18 (aw_getr (r := o1 + 2) fl_L_15 h_o1 (by decide) rfl (rc_4_1 _ h_o1).1 d_L_copyFrom_19 (aw_iconst (v := iv 0) rfl d_L_copyFrom_22 (aw_aload_n rfl rfl d_L_copyFrom_23 (aw_getr (r := o0 + 2) fl_L_15 h_o0 (by decide) rfl (rc_4_1 _ h_o0).1 d_L_copyFrom_24 (aw_iconst (v := iv 0) rfl d_L_copyFrom_27 (aw_bipush (v := iv 6) cb_6 d_L_copyFrom_28 ?_))))))
  refine ai_copy lka_L_27 ac_nat ac_sta ac_ini (rc_4_1 _ h_o1).2 (rc_4_1 _ h_o0).2 rfl rfl in_0 in_0 in_6 h_I1 (by decide) rfl hf d_L_copyFrom_30 (fun I2 h_I2 hf => ?_)
  refine aw_aload_n rfl rfl d_L_copyFrom_33 (aw_getr (r := o1 + 3) fl_L_18 h_o1 (by decide) rfl (rc_4_2 _ h_o1).1 d_L_copyFrom_34 (aw_iconst (v := iv 0) rfl d_L_copyFrom_37 (aw_aload_n rfl rfl d_L_copyFrom_38 (aw_getr (r := o0 + 3) fl_L_18 h_o0 (by decide) rfl (rc_4_2 _ h_o0).1 d_L_copyFrom_39 (aw_iconst (v := iv 0) rfl d_L_copyFrom_42 (aw_bipush (v := iv 6) cb_6 d_L_copyFrom_43 ?_))))))
  refine ai_copy lka_L_27 ac_nat ac_sta ac_ini (rc_4_2 _ h_o1).2 (rc_4_2 _ h_o0).2 rfl rfl in_0 in_0 in_6 h_I2 (by decide) rfl hf d_L_copyFrom_45 (fun I3 h_I3 hf => ?_)
  exact ai_retv rfl d_L_copyFrom_48 hf h_I3
set_option maxRecDepth 20000 in
theorem t_H_copyFrom_2 (fu : Nat) {r : Int × IMem} (k_41 : IMem → Res) (o0 : Nat) (o1 : Nat) (h_o0 : KC[o0]? = some (5, 14)) (h_o1 : KC[o1]? = some (5, 14)) (hk_41 : ∀ (I9 : IMem), RG I9 → k_41 I9 = some r → Ai l b 2 y_H_copyFrom KC RC (Pv r) I9 41 [.ref o0, .ref o1, uu] []) : ∀ (m : Nat) (w2 : Int) (I0 : IMem), inr w2 → RG I0 → f_H_copyFrom_2 fu k_41 o0 o1 m w2 I0 = some r → Ai l b 2 y_H_copyFrom KC RC (Pv r) I0 2 [.ref o0, .ref o1, .int (iv w2)] [] := by
  intro m
  induction m with
  | zero => intro w2 I0 h_w2 h_I0 hf; cases hf
  | succ m ih =>
    intro w2 I0 h_w2 h_I0 hf
    replace hf : fb_H_copyFrom_2 fu k_41 o0 o1 (f_H_copyFrom_2 fu k_41 o0 o1 m) w2 I0 = some r := hf
    unfold fb_H_copyFrom_2 at hf
    refine aw_iload_n rfl rfl d_H_copyFrom_2 (aw_aload_n rfl rfl d_H_copyFrom_3 (aw_getr (r := o0 + 2) fl_H_17 h_o0 (by decide) rfl (rc_2_1 _ h_o0).1 d_H_copyFrom_4 (ai_alen (N := 5) (rc_2_1 _ h_o0).2 (by decide) rfl (by decide) d_H_copyFrom_7 ?_)))
    refine ai_icmp_ge h_w2 in_5 hf (tgt := 41) (by decide) d_H_copyFrom_8 (fun hf => ?_) (fun hf => ?_)
    · refine aw_weakB (lv2 := [.ref o0, .ref o1, uu]) (wk_s (wk_s (wk_u wk_n))) ?_
      exact hk_41 I0 h_I0 hf
    · refine aw_iload_n rfl rfl d_H_copyFrom_11 (aw_aload_n rfl rfl d_H_copyFrom_12 (aw_getr (r := o1 + 2) fl_H_17 h_o1 (by decide) rfl (rc_2_1 _ h_o1).1 d_H_copyFrom_13 (ai_alen (N := 5) (rc_2_1 _ h_o1).2 (by decide) rfl (by decide) d_H_copyFrom_16 ?_)))
      refine ai_icmp_ge h_w2 in_5 hf (tgt := 41) (by decide) d_H_copyFrom_17 (fun hf => ?_) (fun hf => ?_)
      · refine aw_weakB (lv2 := [.ref o0, .ref o1, uu]) (wk_s (wk_s (wk_u wk_n))) ?_
        exact hk_41 I0 h_I0 hf
      · refine aw_aload_n rfl rfl d_H_copyFrom_20 (aw_getr (r := o0 + 2) fl_H_17 h_o0 (by decide) rfl (rc_2_1 _ h_o0).1 d_H_copyFrom_21 (aw_iload_n rfl rfl d_H_copyFrom_24 ?_))
        refine ai_aald (q := o0 + 15 + 5 * w2.toNat) (rc_2_1 _ h_o0).2 rfl h_w2 hf (fun g => (la_at _ (rc_2_1 _ h_o0).2 w2.toNat (by omega)).1) d_H_copyFrom_25 (fun g1 hf => ?_)
        refine aw_aload_n rfl rfl d_H_copyFrom_26 (aw_getr (r := o1 + 2) fl_H_17 h_o1 (by decide) rfl (rc_2_1 _ h_o1).1 d_H_copyFrom_27 (aw_iload_n rfl rfl d_H_copyFrom_30 ?_))
        refine ai_aald (q := o1 + 15 + 5 * w2.toNat) (rc_2_1 _ h_o1).2 rfl h_w2 hf (fun g => (la_at _ (rc_2_1 _ h_o1).2 w2.toNat (by omega)).1) d_H_copyFrom_31 (fun g2 hf => ?_)
        obtain ⟨y3, I4, c5, hf⟩ := of_zb hf
        refine ai_callVv (as := [.ref (o1 + 15 + 5 * w2.toNat)]) (d' := 1) (q := ("SinglesUp$Law", zT3, 6)) mo_W_copyFrom lk_H_57 (la_at _ (rc_2_1 _ h_o0).2 w2.toNat (by omega)).2 rfl rfl rfl ⟨by decide, by decide⟩ rfl rfl (by decide) d_H_copyFrom_32 (t_W_copyFrom fu (o0 + 15 + 5 * w2.toNat) (o1 + 15 + 5 * w2.toNat) I0 h_I0 (la_at _ (rc_2_1 _ h_o0).2 w2.toNat (by omega)).2 (la_at _ (rc_2_1 _ h_o1).2 w2.toNat (by omega)).2 c5) (fun h_I4 => ?_)
        refine ai_iinc (n := 1) (lv2 := fun x6 => [.ref o0, .ref o1, .int (iv x6)]) hf rfl (Nat.le_of_ble_eq_true rfl) (fun _ => rfl) d_H_copyFrom_35 (fun x6 h_x6 hf => ?_)
        refine aw_goto (tgt := 2) (by decide) d_H_copyFrom_38 ?_
        exact ih x6 I4 h_x6 h_I4 hf
set_option maxRecDepth 20000 in
theorem t_H_copyFrom (fu : Nat) (o0 : Nat) (o1 : Nat) (I0 : IMem) (hI : RG I0) (h_o0 : KC[o0]? = some (5, 14)) (h_o1 : KC[o1]? = some (5, 14)) {r : Int × IMem} (hf : f_H_copyFrom fu o0 o1 I0 = some r) : Ss l b 2 y_H_copyFrom KC RC [.ref o0, .ref o1] (ivm I0) (Pv r) := by
  unfold f_H_copyFrom at hf
  refine Ss.of (show Ai l b 2 y_H_copyFrom KC RC (Pv r) I0 0 [.ref o0, .ref o1, uu] [] from ?_)
  refine aw_iconst (v := iv 0) rfl d_H_copyFrom_0 (aw_istore_n (lv2 := [.ref o0, .ref o1, .int (iv 0)]) rfl (Nat.le_of_ble_eq_true rfl) rfl d_H_copyFrom_1 ?_)
  refine t_H_copyFrom_2 fu _ o0 o1 h_o0 h_o1 ?_ fu 0 I0 in_0 hI hf
  · intro I7 h_I7 hf
    refine aw_aload_n rfl rfl d_H_copyFrom_41 (aw_getr (r := o0 + 6) fl_H_33 h_o0 (by decide) rfl (rc_2_5 _ h_o0).1 d_H_copyFrom_42 (aw_aload_n rfl rfl d_H_copyFrom_45 (aw_getr (r := o1 + 6) fl_H_33 h_o1 (by decide) rfl (rc_2_5 _ h_o1).1 d_H_copyFrom_46 ?_)))
    obtain ⟨y8, I9, c10, hf⟩ := of_zb hf
    refine ai_callVv (as := [.ref (o1 + 6)]) (d' := 1) (q := ("SinglesUp$Lines", zT4, 3)) mo_L_copyFrom lk_H_61 (rc_2_5 _ h_o0).2 rfl rfl rfl ⟨by decide, by decide⟩ rfl rfl (by decide) d_H_copyFrom_49 (t_L_copyFrom fu (o0 + 6) (o1 + 6) I7 h_I7 (rc_2_5 _ h_o0).2 (rc_2_5 _ h_o1).2 c10) (fun h_I9 => ?_)
    refine aw_aload_n rfl rfl d_H_copyFrom_52 (aw_getr (r := o1 + 1) fl_H_9 h_o1 (by decide) rfl (rc_2_0 _ h_o1).1 d_H_copyFrom_53 (aw_iconst (v := iv 0) rfl d_H_copyFrom_56 (aw_aload_n rfl rfl d_H_copyFrom_57 (aw_getr (r := o0 + 1) fl_H_9 h_o0 (by decide) rfl (rc_2_0 _ h_o0).1 d_H_copyFrom_58 (aw_iconst (v := iv 0) rfl d_H_copyFrom_61 (aw_aload_n rfl rfl d_H_copyFrom_62 (aw_getr (r := o0 + 1) fl_H_9 h_o0 (by decide) rfl (rc_2_0 _ h_o0).1 d_H_copyFrom_63 (ai_alen (N := 6) (rc_2_0 _ h_o0).2 (by decide) rfl (by decide) d_H_copyFrom_66 ?_))))))))
    refine ai_copy lka_H_64 ac_nat ac_sta ac_ini (rc_2_0 _ h_o1).2 (rc_2_0 _ h_o0).2 rfl rfl in_0 in_0 in_6 h_I9 (by decide) rfl hf d_H_copyFrom_67 (fun I11 h_I11 hf => ?_)
    refine aw_aload_n rfl rfl d_H_copyFrom_70 (aw_getr (r := o1 + 3) fl_H_21 h_o1 (by decide) rfl (rc_2_2 _ h_o1).1 d_H_copyFrom_71 (aw_iconst (v := iv 0) rfl d_H_copyFrom_74 (aw_aload_n rfl rfl d_H_copyFrom_75 (aw_getr (r := o0 + 3) fl_H_21 h_o0 (by decide) rfl (rc_2_2 _ h_o0).1 d_H_copyFrom_76 (aw_iconst (v := iv 0) rfl d_H_copyFrom_79 (aw_aload_n rfl rfl d_H_copyFrom_80 (aw_getr (r := o0 + 3) fl_H_21 h_o0 (by decide) rfl (rc_2_2 _ h_o0).1 d_H_copyFrom_81 (ai_alen (N := 9) (rc_2_2 _ h_o0).2 (by decide) rfl (by decide) d_H_copyFrom_84 ?_))))))))
    refine ai_copy lka_H_64 ac_nat ac_sta ac_ini (rc_2_2 _ h_o1).2 (rc_2_2 _ h_o0).2 rfl rfl in_0 in_0 in_9 h_I11 (by decide) rfl hf d_H_copyFrom_85 (fun I12 h_I12 hf => ?_)
    refine aw_aload_n rfl rfl d_H_copyFrom_88 (aw_getr (r := o1 + 4) fl_H_24 h_o1 (by decide) rfl (rc_2_3 _ h_o1).1 d_H_copyFrom_89 (aw_iconst (v := iv 0) rfl d_H_copyFrom_92 (aw_aload_n rfl rfl d_H_copyFrom_93 (aw_getr (r := o0 + 4) fl_H_24 h_o0 (by decide) rfl (rc_2_3 _ h_o0).1 d_H_copyFrom_94 (aw_iconst (v := iv 0) rfl d_H_copyFrom_97 (aw_aload_n rfl rfl d_H_copyFrom_98 (aw_getr (r := o0 + 4) fl_H_24 h_o0 (by decide) rfl (rc_2_3 _ h_o0).1 d_H_copyFrom_99 (ai_alen (N := 32) (rc_2_3 _ h_o0).2 (by decide) rfl (by decide) d_H_copyFrom_102 ?_))))))))
    refine ai_copy lka_H_64 ac_nat ac_sta ac_ini (rc_2_3 _ h_o1).2 (rc_2_3 _ h_o0).2 rfl rfl in_0 in_0 in_32 h_I12 (by decide) rfl hf d_H_copyFrom_103 (fun I13 h_I13 hf => ?_)
    refine aw_aload_n rfl rfl d_H_copyFrom_106 (aw_getr (r := o1 + 5) fl_H_27 h_o1 (by decide) rfl (rc_2_4 _ h_o1).1 d_H_copyFrom_107 (aw_iconst (v := iv 0) rfl d_H_copyFrom_110 (aw_aload_n rfl rfl d_H_copyFrom_111 (aw_getr (r := o0 + 5) fl_H_27 h_o0 (by decide) rfl (rc_2_4 _ h_o0).1 d_H_copyFrom_112 (aw_iconst (v := iv 0) rfl d_H_copyFrom_115 (aw_aload_n rfl rfl d_H_copyFrom_116 (aw_getr (r := o0 + 5) fl_H_27 h_o0 (by decide) rfl (rc_2_4 _ h_o0).1 d_H_copyFrom_117 (ai_alen (N := 9) (rc_2_4 _ h_o0).2 (by decide) rfl (by decide) d_H_copyFrom_120 ?_))))))))
    refine ai_copy lka_H_64 ac_nat ac_sta ac_ini (rc_2_4 _ h_o1).2 (rc_2_4 _ h_o0).2 rfl rfl in_0 in_0 in_9 h_I13 (by decide) rfl hf d_H_copyFrom_121 (fun I14 h_I14 hf => ?_)
    refine aw_aload_n rfl rfl d_H_copyFrom_124 (aw_getr (r := o1 + 10) fl_H_37 h_o1 (by decide) rfl (rc_2_8 _ h_o1).1 d_H_copyFrom_125 (aw_iconst (v := iv 0) rfl d_H_copyFrom_128 (aw_aload_n rfl rfl d_H_copyFrom_129 (aw_getr (r := o0 + 10) fl_H_37 h_o0 (by decide) rfl (rc_2_8 _ h_o0).1 d_H_copyFrom_130 (aw_iconst (v := iv 0) rfl d_H_copyFrom_133 (aw_aload_n rfl rfl d_H_copyFrom_134 (aw_getr (r := o0 + 10) fl_H_37 h_o0 (by decide) rfl (rc_2_8 _ h_o0).1 d_H_copyFrom_135 (ai_alen (N := 40) (rc_2_8 _ h_o0).2 (by decide) rfl (by decide) d_H_copyFrom_138 ?_))))))))
    refine ai_copy lka_H_64 ac_nat ac_sta ac_ini (rc_2_8 _ h_o1).2 (rc_2_8 _ h_o0).2 rfl rfl in_0 in_0 in_40 h_I14 (by decide) rfl hf d_H_copyFrom_139 (fun I15 h_I15 hf => ?_)
    refine aw_aload_n rfl rfl d_H_copyFrom_142 (aw_getr (r := o1 + 11) fl_H_40 h_o1 (by decide) rfl (rc_2_9 _ h_o1).1 d_H_copyFrom_143 (aw_iconst (v := iv 0) rfl d_H_copyFrom_146 (aw_aload_n rfl rfl d_H_copyFrom_147 (aw_getr (r := o0 + 11) fl_H_40 h_o0 (by decide) rfl (rc_2_9 _ h_o0).1 d_H_copyFrom_148 (aw_iconst (v := iv 0) rfl d_H_copyFrom_151 (aw_aload_n rfl rfl d_H_copyFrom_152 (aw_getr (r := o0 + 11) fl_H_40 h_o0 (by decide) rfl (rc_2_9 _ h_o0).1 d_H_copyFrom_153 (ai_alen (N := 30) (rc_2_9 _ h_o0).2 (by decide) rfl (by decide) d_H_copyFrom_156 ?_))))))))
    refine ai_copy lka_H_64 ac_nat ac_sta ac_ini (rc_2_9 _ h_o1).2 (rc_2_9 _ h_o0).2 rfl rfl in_0 in_0 in_30 h_I15 (by decide) rfl hf d_H_copyFrom_157 (fun I16 h_I16 hf => ?_)
    refine aw_aload_n rfl rfl d_H_copyFrom_160 (aw_getr (r := o1 + 12) fl_H_43 h_o1 (by decide) rfl (rc_2_10 _ h_o1).1 d_H_copyFrom_161 (aw_iconst (v := iv 0) rfl d_H_copyFrom_164 (aw_aload_n rfl rfl d_H_copyFrom_165 (aw_getr (r := o0 + 12) fl_H_43 h_o0 (by decide) rfl (rc_2_10 _ h_o0).1 d_H_copyFrom_166 (aw_iconst (v := iv 0) rfl d_H_copyFrom_169 (aw_aload_n rfl rfl d_H_copyFrom_170 (aw_getr (r := o0 + 12) fl_H_43 h_o0 (by decide) rfl (rc_2_10 _ h_o0).1 d_H_copyFrom_171 (ai_alen (N := 180) (rc_2_10 _ h_o0).2 (by decide) rfl (by decide) d_H_copyFrom_174 ?_))))))))
    refine ai_copy lka_H_64 ac_nat ac_sta ac_ini (rc_2_10 _ h_o1).2 (rc_2_10 _ h_o0).2 rfl rfl in_0 in_0 in_180 h_I16 (by decide) rfl hf d_H_copyFrom_175 (fun I17 h_I17 hf => ?_)
    refine aw_aload_n rfl rfl d_H_copyFrom_178 (aw_aload_n rfl rfl d_H_copyFrom_179 (ai_geti fl_H_70 h_o1 (by decide) rfl d_H_copyFrom_180 ?_))
    refine ai_puti hf h_I17 (h_I17 o1 6) fl_H_70 h_o0 (by decide) rfl rfl rfl rfl d_H_copyFrom_183 (fun I18 h_I18 hf => ?_)
    refine aw_aload_n rfl rfl d_H_copyFrom_186 (aw_aload_n rfl rfl d_H_copyFrom_187 (ai_geti fl_H_73 h_o1 (by decide) rfl d_H_copyFrom_188 ?_))
    refine ai_puti hf h_I18 (h_I18 o1 7) fl_H_73 h_o0 (by decide) rfl rfl rfl rfl d_H_copyFrom_191 (fun I19 h_I19 hf => ?_)
    refine aw_aload_n rfl rfl d_H_copyFrom_194 (aw_aload_n rfl rfl d_H_copyFrom_195 (ai_geti fl_H_46 h_o1 (by decide) rfl d_H_copyFrom_196 ?_))
    refine ai_puti hf h_I19 (h_I19 o1 11) fl_H_46 h_o0 (by decide) rfl rfl rfl rfl d_H_copyFrom_199 (fun I20 h_I20 hf => ?_)
    exact ai_retv rfl d_H_copyFrom_202 hf h_I20
set_option maxRecDepth 20000 in
theorem t_M_imagine (fu : Nat) (o0 : Nat) (o1 : Nat) (a2 : Int) (a3 : Int) (a4 : Int) (a5 : Int) (I0 : IMem) (hI : RG I0) (h_o0 : KC[o0]? = some (8, 3)) (h_o1 : KC[o1]? = some (5, 14)) (h_a2 : inr a2) (h_a3 : inr a3) (h_a4 : inr a4) (h_a5 : inr a5) {r : Int × IMem} (hf : f_M_imagine fu o0 o1 a2 a3 a4 a5 I0 = some r) : Ss l b 7 y_M_imagine KC RC [.ref o0, .ref o1, .int (iv a2), .int (iv a3), .int (iv a4), .int (iv a5)] (ivm I0) (Pv r) := by
  unfold f_M_imagine at hf
  refine Ss.of (show Ai l b 7 y_M_imagine KC RC (Pv r) I0 0 [.ref o0, .ref o1, .int (iv a2), .int (iv a3), .int (iv a4), .int (iv a5)] [] from ?_)
  refine aw_aload_n rfl rfl d_M_imagine_0 (aw_getr (r := o0 + 1) fl_M_12 h_o0 (by decide) rfl (rc_5_0 _ h_o0).1 d_M_imagine_1 (aw_aload_n rfl rfl d_M_imagine_4 ?_))
  obtain ⟨y1, I2, c3, hf⟩ := of_zb hf
  refine ai_callVv (as := [.ref o1]) (d' := 2) (q := ("SinglesUp$Hill", zT2, 14)) mo_H_copyFrom lk_M_29 (rc_5_0 _ h_o0).2 rfl rfl rfl ⟨by decide, by decide⟩ rfl rfl (by decide) d_M_imagine_5 (t_H_copyFrom fu (o0 + 1) o1 I0 hI (rc_5_0 _ h_o0).2 h_o1 c3) (fun h_I2 => ?_)
  refine aw_aload_n rfl rfl d_M_imagine_8 (aw_getr (r := o0 + 1) fl_M_12 h_o0 (by decide) rfl (rc_5_0 _ h_o0).1 d_M_imagine_9 (aw_getr (r := o0 + 2) fl_M_33 ((rc_5_0 _ h_o0).2) (by decide) rfl (rc_2_0 _ (rc_5_0 _ h_o0).2).1 d_M_imagine_12 (aw_iconst (v := iv 5) rfl d_M_imagine_15 (aw_iload_n rfl rfl d_M_imagine_16 ?_))))
  refine ai_iastc (j := 5) (rc_2_0 _ (rc_5_0 _ h_o0).2).2 (by decide) (by decide) h_a2 h_I2 hf d_M_imagine_17 (fun I4 h_I4 hf => ?_)
  refine aw_aload_n rfl rfl d_M_imagine_18 (aw_getr (r := o0 + 1) fl_M_12 h_o0 (by decide) rfl (rc_5_0 _ h_o0).1 d_M_imagine_19 (aw_getr (r := o0 + 2) fl_M_33 ((rc_5_0 _ h_o0).2) (by decide) rfl (rc_2_0 _ (rc_5_0 _ h_o0).2).1 d_M_imagine_22 (aw_iconst (v := iv 4) rfl d_M_imagine_25 (aw_iload_n rfl rfl d_M_imagine_26 ?_))))
  refine ai_iastc (j := 4) (rc_2_0 _ (rc_5_0 _ h_o0).2).2 (by decide) (by decide) h_a3 h_I4 hf d_M_imagine_27 (fun I5 h_I5 hf => ?_)
  refine aw_aload_n rfl rfl d_M_imagine_28 (aw_getr (r := o0 + 1) fl_M_12 h_o0 (by decide) rfl (rc_5_0 _ h_o0).1 d_M_imagine_29 (aw_getr (r := o0 + 2) fl_M_33 ((rc_5_0 _ h_o0).2) (by decide) rfl (rc_2_0 _ (rc_5_0 _ h_o0).2).1 d_M_imagine_32 (aw_iconst (v := iv 0) rfl d_M_imagine_35 (aw_iload rfl d_M_imagine_36 ?_))))
  refine ai_iastc (j := 0) (rc_2_0 _ (rc_5_0 _ h_o0).2).2 (by decide) (by decide) h_a4 h_I5 hf d_M_imagine_38 (fun I6 h_I6 hf => ?_)
  refine aw_aload_n rfl rfl d_M_imagine_39 (aw_getr (r := o0 + 41) fl_M_21 h_o0 (by decide) rfl (rc_5_1 _ h_o0).1 d_M_imagine_40 (aw_aload_n rfl rfl d_M_imagine_43 (aw_getr (r := o0 + 1) fl_M_12 h_o0 (by decide) rfl (rc_5_0 _ h_o0).1 d_M_imagine_44 (aw_iload rfl d_M_imagine_47 ?_))))
  obtain ⟨y7, I8, c9, hf⟩ := of_zb hf
  refine ai_callV (as := [.ref (o0 + 1), .int (iv a5)]) (d' := 6) (q := ("SinglesUp$Chair", zT0, 12)) mo_C_turns lk_M_36 (rc_5_1 _ h_o0).2 rfl rfl rfl ⟨by decide, by decide⟩ rfl rfl (by decide) d_M_imagine_49 (t_C_turns fu (o0 + 41) (o0 + 1) a5 I6 h_I6 (rc_5_1 _ h_o0).2 (rc_5_0 _ h_o0).2 h_a5 c9) (fun h_y7 h_I8 => ?_)
  refine aw_pop rfl d_M_imagine_52 ?_
  exact ai_retv rfl d_M_imagine_53 hf h_I8
set_option maxRecDepth 20000 in
theorem t_S_thought (fu : Nat) (o0 : Nat) (a1 : Int) (a2 : Int) (a3 : Int) (a4 : Int) (a5 : Int) (I0 : IMem) (hI : RG I0) (h_o0 : KC[o0]? = some (11, 9)) (h_a1 : inr a1) (h_a2 : inr a2) (h_a3 : inr a3) (h_a4 : inr a4) (h_a5 : inr a5) {r : Int × IMem} (hf : f_S_thought fu o0 a1 a2 a3 a4 a5 I0 = some r) : Ss l b 8 y_S_thought KC RC [.ref o0, .int (iv a1), .int (iv a2), .int (iv a3), .int (iv a4), .int (iv a5)] (ivm I0) (Ps r) := by
  unfold f_S_thought at hf
  refine Ss.of (show Ai l b 8 y_S_thought KC RC (Ps r) I0 0 [.ref o0, .int (iv a1), .int (iv a2), .int (iv a3), .int (iv a4), .int (iv a5)] [] from ?_)
  refine aw_iconst (v := iv 5) rfl d_S_thought_0 (aw_iload_n rfl rfl d_S_thought_1 ?_)
  obtain ⟨y1, I2, c3, hf⟩ := of_zb hf
  refine ai_callS (as := [.int (iv 5), .int (iv a1)]) (d' := 1) mo_S_canTell lk_S_61 rfl ⟨by decide, by decide⟩ rfl rfl (by decide) d_S_thought_2 (t_S_canTell fu 5 a1 I0 hI in_5 h_a1 c3) (fun h_y1 h_I2 => ?_)
  refine ai_if_eq h_y1 hf (tgt := 24) (by decide) d_S_thought_5 (fun hf => ?_) (fun hf => ?_)
  · refine aw_iconst (v := iv (-1)) rfl d_S_thought_24 ?_
    exact ai_reti rfl d_S_thought_25 hf in_m1 h_I2
  · refine aw_iconst (v := iv 4) rfl d_S_thought_8 (aw_iload_n rfl rfl d_S_thought_9 ?_)
    obtain ⟨y4, I5, c6, hf⟩ := of_zb hf
    refine ai_callS (as := [.int (iv 4), .int (iv a2)]) (d' := 1) mo_S_canTell lk_S_61 rfl ⟨by decide, by decide⟩ rfl rfl (by decide) d_S_thought_10 (t_S_canTell fu 4 a2 I2 h_I2 in_4 h_a2 c6) (fun h_y4 h_I5 => ?_)
    refine ai_if_eq h_y4 hf (tgt := 24) (by decide) d_S_thought_13 (fun hf => ?_) (fun hf => ?_)
    · refine aw_iconst (v := iv (-1)) rfl d_S_thought_24 ?_
      exact ai_reti rfl d_S_thought_25 hf in_m1 h_I5
    · refine aw_iconst (v := iv 0) rfl d_S_thought_16 (aw_iload_n rfl rfl d_S_thought_17 ?_)
      obtain ⟨y7, I8, c9, hf⟩ := of_zb hf
      refine ai_callS (as := [.int (iv 0), .int (iv a3)]) (d' := 1) mo_S_canTell lk_S_61 rfl ⟨by decide, by decide⟩ rfl rfl (by decide) d_S_thought_18 (t_S_canTell fu 0 a3 I5 h_I5 in_0 h_a3 c9) (fun h_y7 h_I8 => ?_)
      refine ai_if_ne h_y7 hf (tgt := 26) (by decide) d_S_thought_21 (fun hf => ?_) (fun hf => ?_)
      · refine aw_iload rfl d_S_thought_26 (aw_iconst (v := iv 1) rfl d_S_thought_28 ?_)
        refine ai_icmp_lt h_a4 in_1 hf (tgt := 50) (by decide) d_S_thought_29 (fun hf => ?_) (fun hf => ?_)
        · refine aw_iconst (v := iv (-1)) rfl d_S_thought_50 ?_
          exact ai_reti rfl d_S_thought_51 hf in_m1 h_I8
        · refine aw_iload rfl d_S_thought_32 (aw_bipush (v := iv 40) cb_40 d_S_thought_34 ?_)
          refine ai_icmp_gt h_a4 in_40 hf (tgt := 50) (by decide) d_S_thought_36 (fun hf => ?_) (fun hf => ?_)
          · refine aw_iconst (v := iv (-1)) rfl d_S_thought_50 ?_
            exact ai_reti rfl d_S_thought_51 hf in_m1 h_I8
          · refine aw_iload rfl d_S_thought_39 ?_
            refine ai_if_lt h_a5 hf (tgt := 50) (by decide) d_S_thought_41 (fun hf => ?_) (fun hf => ?_)
            · refine aw_iconst (v := iv (-1)) rfl d_S_thought_50 ?_
              exact ai_reti rfl d_S_thought_51 hf in_m1 h_I8
            · refine aw_iload rfl d_S_thought_44 (aw_iconst (v := iv 5) rfl d_S_thought_46 ?_)
              refine ai_icmp_le h_a5 in_5 hf (tgt := 52) (by decide) d_S_thought_47 (fun hf => ?_) (fun hf => ?_)
              · refine aw_aload_n rfl rfl d_S_thought_52 (aw_getr (r := o0 + 81) fl_S_22 h_o0 (by decide) rfl (rc_8_2 _ h_o0).1 d_S_thought_53 (aw_aload_n rfl rfl d_S_thought_56 (aw_getr (r := o0 + 1) fl_S_12 h_o0 (by decide) rfl (rc_8_0 _ h_o0).1 d_S_thought_57 (aw_iload_n rfl rfl d_S_thought_60 (aw_iload_n rfl rfl d_S_thought_61 (aw_iload_n rfl rfl d_S_thought_62 (aw_iload rfl d_S_thought_63 ?_)))))))
                obtain ⟨y10, I11, c12, hf⟩ := of_zb hf
                refine ai_callVv (as := [.ref (o0 + 1), .int (iv a1), .int (iv a2), .int (iv a3), .int (iv a4)]) (d' := 7) (q := ("SinglesUp$Mind", zT5, 3)) mo_M_imagine lk_S_219 (rc_8_2 _ h_o0).2 rfl rfl rfl ⟨by decide, by decide⟩ rfl rfl (by decide) d_S_thought_65 (t_M_imagine fu (o0 + 81) (o0 + 1) a1 a2 a3 a4 I8 h_I8 (rc_8_2 _ h_o0).2 (rc_8_0 _ h_o0).2 h_a1 h_a2 h_a3 h_a4 c12) (fun h_I11 => ?_)
                refine aw_aload_n rfl rfl d_S_thought_68 (aw_getr (r := o0 + 81) fl_S_22 h_o0 (by decide) rfl (rc_8_2 _ h_o0).1 d_S_thought_69 (aw_aload_n rfl rfl d_S_thought_72 (aw_getr (r := o0 + 1) fl_S_12 h_o0 (by decide) rfl (rc_8_0 _ h_o0).1 d_S_thought_73 (aw_iload rfl d_S_thought_76 ?_))))
                obtain ⟨y13, I14, c15, hf⟩ := of_zb hf
                refine ai_callV (as := [.ref (o0 + 1), .int (iv a5)]) (d' := 3) (q := ("SinglesUp$Mind", zT5, 3)) mo_M_gained lk_S_223 (rc_8_2 _ h_o0).2 rfl rfl rfl ⟨by decide, by decide⟩ rfl rfl (by decide) d_S_thought_78 (t_M_gained fu (o0 + 81) (o0 + 1) a5 I11 h_I11 (rc_8_2 _ h_o0).2 (rc_8_0 _ h_o0).2 h_a5 c15) (fun h_y13 h_I14 => ?_)
                exact ai_reti rfl d_S_thought_81 hf h_y13 h_I14
              · refine aw_iconst (v := iv (-1)) rfl d_S_thought_50 ?_
                exact ai_reti rfl d_S_thought_51 hf in_m1 h_I8
      · refine aw_iconst (v := iv (-1)) rfl d_S_thought_24 ?_
        exact ai_reti rfl d_S_thought_25 hf in_m1 h_I8
set_option maxRecDepth 20000 in
theorem t_S_price (fu : Nat) (o0 : Nat) (a1 : Int) (a2 : Int) (I0 : IMem) (hI : RG I0) (h_o0 : KC[o0]? = some (11, 9)) (h_a1 : inr a1) (h_a2 : inr a2) {r : Int × IMem} (hf : f_S_price fu o0 a1 a2 I0 = some r) : Ss l b 8 y_S_price KC RC [.ref o0, .int (iv a1), .int (iv a2)] (ivm I0) (Ps r) := by
  unfold f_S_price at hf
  refine Ss.of (show Ai l b 8 y_S_price KC RC (Ps r) I0 0 [.ref o0, .int (iv a1), .int (iv a2), uu, uu, uu] [] from ?_)
  refine aw_iconst (v := iv 4) rfl d_S_price_0 (aw_iload_n rfl rfl d_S_price_1 ?_)
  obtain ⟨y1, I2, c3, hf⟩ := of_zb hf
  refine ai_callS (as := [.int (iv 4), .int (iv a1)]) (d' := 1) mo_S_canTell lk_S_61 rfl ⟨by decide, by decide⟩ rfl rfl (by decide) d_S_price_2 (t_S_canTell fu 4 a1 I0 hI in_4 h_a1 c3) (fun h_y1 h_I2 => ?_)
  refine ai_if_eq h_y1 hf (tgt := 19) (by decide) d_S_price_5 (fun hf => ?_) (fun hf => ?_)
  · refine ai_ldc kc_S_143e kc_S_143 d_S_price_19 ?_
    exact ai_reti rfl d_S_price_21 hf in_m1000000 h_I2
  · refine aw_iload_n rfl rfl d_S_price_8 (aw_iconst (v := iv 1) rfl d_S_price_9 ?_)
    refine ai_icmp_lt h_a2 in_1 hf (tgt := 19) (by decide) d_S_price_10 (fun hf => ?_) (fun hf => ?_)
    · refine ai_ldc kc_S_143e kc_S_143 d_S_price_19 ?_
      exact ai_reti rfl d_S_price_21 hf in_m1000000 h_I2
    · refine aw_iload_n rfl rfl d_S_price_13 (aw_bipush (v := iv 40) cb_40 d_S_price_14 ?_)
      refine ai_icmp_le h_a2 in_40 hf (tgt := 22) (by decide) d_S_price_16 (fun hf => ?_) (fun hf => ?_)
      · refine aw_aload_n rfl rfl d_S_price_22 (aw_getr (r := o0 + 1) fl_S_12 h_o0 (by decide) rfl (rc_8_0 _ h_o0).1 d_S_price_23 (aw_getr (r := o0 + 2) fl_S_65 ((rc_8_0 _ h_o0).2) (by decide) rfl (rc_2_0 _ (rc_8_0 _ h_o0).2).1 d_S_price_26 (aw_iconst (v := iv 5) rfl d_S_price_29 (ai_ialdc (j := 5) (rc_2_0 _ (rc_8_0 _ h_o0).2).2 (by decide) (by decide) d_S_price_30 ?_))))
        refine ai_name hf (h_I2 (o0 + 2) 5) (fun x4 h_x4 hf => ?_)
        refine aw_istore_n (lv2 := [.ref o0, .int (iv a1), .int (iv a2), .int (iv x4), uu, uu]) rfl (Nat.le_of_ble_eq_true rfl) rfl d_S_price_31 ?_
        refine aw_aload_n rfl rfl d_S_price_32 (aw_getr (r := o0 + 1) fl_S_12 h_o0 (by decide) rfl (rc_8_0 _ h_o0).1 d_S_price_33 (aw_getr (r := o0 + 2) fl_S_65 ((rc_8_0 _ h_o0).2) (by decide) rfl (rc_2_0 _ (rc_8_0 _ h_o0).2).1 d_S_price_36 (aw_iconst (v := iv 0) rfl d_S_price_39 (ai_ialdc (j := 0) (rc_2_0 _ (rc_8_0 _ h_o0).2).2 (by decide) (by decide) d_S_price_40 ?_))))
        refine ai_name hf (h_I2 (o0 + 2) 0) (fun x5 h_x5 hf => ?_)
        refine aw_istore (lv2 := [.ref o0, .int (iv a1), .int (iv a2), .int (iv x4), .int (iv x5), uu]) (Nat.le_of_ble_eq_true rfl) rfl d_S_price_41 ?_
        refine aw_aload_n rfl rfl d_S_price_43 (aw_getr (r := o0 + 81) fl_S_22 h_o0 (by decide) rfl (rc_8_2 _ h_o0).1 d_S_price_44 (aw_aload_n rfl rfl d_S_price_47 (aw_getr (r := o0 + 1) fl_S_12 h_o0 (by decide) rfl (rc_8_0 _ h_o0).1 d_S_price_48 (aw_iload_n rfl rfl d_S_price_51 (aw_iload_n rfl rfl d_S_price_52 (aw_iload rfl d_S_price_53 (aw_iload_n rfl rfl d_S_price_55 ?_)))))))
        obtain ⟨y6, I7, c8, hf⟩ := of_zb hf
        refine ai_callVv (as := [.ref (o0 + 1), .int (iv x4), .int (iv a1), .int (iv x5), .int (iv a2)]) (d' := 7) (q := ("SinglesUp$Mind", zT5, 3)) mo_M_imagine lk_S_219 (rc_8_2 _ h_o0).2 rfl rfl rfl ⟨by decide, by decide⟩ rfl rfl (by decide) d_S_price_56 (t_M_imagine fu (o0 + 81) (o0 + 1) x4 a1 x5 a2 I2 h_I2 (rc_8_2 _ h_o0).2 (rc_8_0 _ h_o0).2 h_x4 h_a1 h_x5 h_a2 c8) (fun h_I7 => ?_)
        refine aw_aload_n rfl rfl d_S_price_59 (aw_getr (r := o0 + 81) fl_S_22 h_o0 (by decide) rfl (rc_8_2 _ h_o0).1 d_S_price_60 (aw_aload_n rfl rfl d_S_price_63 (aw_getr (r := o0 + 1) fl_S_12 h_o0 (by decide) rfl (rc_8_0 _ h_o0).1 d_S_price_64 (aw_iconst (v := iv 0) rfl d_S_price_67 ?_))))
        obtain ⟨y9, I10, c11, hf⟩ := of_zb hf
        refine ai_callV (as := [.ref (o0 + 1), .int (iv 0)]) (d' := 3) (q := ("SinglesUp$Mind", zT5, 3)) mo_M_gained lk_S_223 (rc_8_2 _ h_o0).2 rfl rfl rfl ⟨by decide, by decide⟩ rfl rfl (by decide) d_S_price_68 (t_M_gained fu (o0 + 81) (o0 + 1) 0 I7 h_I7 (rc_8_2 _ h_o0).2 (rc_8_0 _ h_o0).2 in_0 c11) (fun h_y9 h_I10 => ?_)
        refine aw_istore (lv2 := [.ref o0, .int (iv a1), .int (iv a2), .int (iv x4), .int (iv x5), .int (iv y9)]) (Nat.le_of_ble_eq_true rfl) rfl d_S_price_71 (aw_aload_n rfl rfl d_S_price_73 (aw_getr (r := o0 + 81) fl_S_22 h_o0 (by decide) rfl (rc_8_2 _ h_o0).1 d_S_price_74 (aw_aload_n rfl rfl d_S_price_77 (aw_getr (r := o0 + 1) fl_S_12 h_o0 (by decide) rfl (rc_8_0 _ h_o0).1 d_S_price_78 (aw_iload_n rfl rfl d_S_price_81 (aw_iconst (v := iv 0) rfl d_S_price_82 (aw_iload rfl d_S_price_83 (aw_iload_n rfl rfl d_S_price_85 ?_))))))))
        obtain ⟨y12, I13, c14, hf⟩ := of_zb hf
        refine ai_callVv (as := [.ref (o0 + 1), .int (iv x4), .int (iv 0), .int (iv x5), .int (iv a2)]) (d' := 7) (q := ("SinglesUp$Mind", zT5, 3)) mo_M_imagine lk_S_219 (rc_8_2 _ h_o0).2 rfl rfl rfl ⟨by decide, by decide⟩ rfl rfl (by decide) d_S_price_86 (t_M_imagine fu (o0 + 81) (o0 + 1) x4 0 x5 a2 I10 h_I10 (rc_8_2 _ h_o0).2 (rc_8_0 _ h_o0).2 h_x4 in_0 h_x5 h_a2 c14) (fun h_I13 => ?_)
        refine aw_iload rfl d_S_price_89 (aw_aload_n rfl rfl d_S_price_91 (aw_getr (r := o0 + 81) fl_S_22 h_o0 (by decide) rfl (rc_8_2 _ h_o0).1 d_S_price_92 (aw_aload_n rfl rfl d_S_price_95 (aw_getr (r := o0 + 1) fl_S_12 h_o0 (by decide) rfl (rc_8_0 _ h_o0).1 d_S_price_96 (aw_iconst (v := iv 0) rfl d_S_price_99 ?_)))))
        obtain ⟨y15, I16, c17, hf⟩ := of_zb hf
        refine ai_callV (as := [.ref (o0 + 1), .int (iv 0)]) (d' := 3) (q := ("SinglesUp$Mind", zT5, 3)) mo_M_gained lk_S_223 (rc_8_2 _ h_o0).2 rfl rfl rfl ⟨by decide, by decide⟩ rfl rfl (by decide) d_S_price_100 (t_M_gained fu (o0 + 81) (o0 + 1) 0 I13 h_I13 (rc_8_2 _ h_o0).2 (rc_8_0 _ h_o0).2 in_0 c17) (fun h_y15 h_I16 => ?_)
        refine ai_isub d_S_price_103 ?_
        exact ai_reti rfl d_S_price_104 hf (wr32_in _) h_I16
      · refine ai_ldc kc_S_143e kc_S_143 d_S_price_19 ?_
        exact ai_reti rfl d_S_price_21 hf in_m1000000 h_I2
set_option maxRecDepth 20000 in
theorem t_H_satLast_2 (fu : Nat) {r : Int × IMem} (o0 : Nat) (p1 : Int) (h_o0 : KC[o0]? = some (5, 14)) (h_p1 : inr p1) : ∀ (m : Nat) (w2 : Int) (I0 : IMem), inr w2 → RG I0 → f_H_satLast_2 fu o0 p1 m w2 I0 = some r → Ai l b 1 y_H_satLast KC RC (Ps r) I0 2 [.ref o0, .int (iv p1), .int (iv w2)] [] := by
  intro m
  induction m with
  | zero => intro w2 I0 h_w2 h_I0 hf; cases hf
  | succ m ih =>
    intro w2 I0 h_w2 h_I0 hf
    replace hf : fb_H_satLast_2 fu o0 p1 (f_H_satLast_2 fu o0 p1 m) w2 I0 = some r := hf
    unfold fb_H_satLast_2 at hf
    refine aw_iload_n rfl rfl d_H_satLast_2 (aw_aload_n rfl rfl d_H_satLast_3 (aw_getr (r := o0 + 11) fl_H_40 h_o0 (by decide) rfl (rc_2_9 _ h_o0).1 d_H_satLast_4 (aw_iconst (v := iv 0) rfl d_H_satLast_7 (ai_ialdc (j := 0) (rc_2_9 _ h_o0).2 (by decide) (by decide) d_H_satLast_8 ?_))))
    refine ai_icmp_ge h_w2 (h_I0 (o0 + 11) 0) hf (tgt := 39) (by decide) d_H_satLast_9 (fun hf => ?_) (fun hf => ?_)
    · refine aw_iconst (v := iv 0) rfl d_H_satLast_39 ?_
      exact ai_retn rfl (nar_z (Or.inl rfl)) d_H_satLast_40 hf in_0 h_I0
    · refine aw_iload_n rfl rfl d_H_satLast_12 (aw_bipush (v := iv 8) cb_8 d_H_satLast_13 ?_)
      refine ai_icmp_ge h_w2 in_8 hf (tgt := 39) (by decide) d_H_satLast_15 (fun hf => ?_) (fun hf => ?_)
      · refine aw_iconst (v := iv 0) rfl d_H_satLast_39 ?_
        exact ai_retn rfl (nar_z (Or.inl rfl)) d_H_satLast_40 hf in_0 h_I0
      · refine aw_aload_n rfl rfl d_H_satLast_18 (aw_getr (r := o0 + 11) fl_H_40 h_o0 (by decide) rfl (rc_2_9 _ h_o0).1 d_H_satLast_19 (aw_bipush (v := iv 10) cb_10 d_H_satLast_22 (aw_iload_n rfl rfl d_H_satLast_24 (ai_iadd d_H_satLast_25 ?_))))
        refine ai_name hf (wr32_in _) (fun x1 h_x1 hf => ?_)
        refine ai_iald (rc_2_9 _ h_o0).2 rfl h_x1 hf d_H_satLast_26 (fun _ hf => ?_)
        refine aw_iload_n rfl rfl d_H_satLast_27 ?_
        refine ai_icmp_ne (h_I0 (o0 + 11) x1.toNat) h_p1 hf (tgt := 33) (by decide) d_H_satLast_28 (fun hf => ?_) (fun hf => ?_)
        · refine ai_iinc (n := 1) (lv2 := fun x2 => [.ref o0, .int (iv p1), .int (iv x2)]) hf rfl (Nat.le_of_ble_eq_true rfl) (fun _ => rfl) d_H_satLast_33 (fun x2 h_x2 hf => ?_)
          refine aw_goto (tgt := 2) (by decide) d_H_satLast_36 ?_
          exact ih x2 I0 h_x2 h_I0 hf
        · refine aw_iconst (v := iv 1) rfl d_H_satLast_31 ?_
          exact ai_retn rfl (nar_z (Or.inr rfl)) d_H_satLast_32 hf in_1 h_I0
set_option maxRecDepth 20000 in
theorem t_H_satLast (fu : Nat) (o0 : Nat) (a1 : Int) (I0 : IMem) (hI : RG I0) (h_o0 : KC[o0]? = some (5, 14)) (h_a1 : inr a1) {r : Int × IMem} (hf : f_H_satLast fu o0 a1 I0 = some r) : Ss l b 1 y_H_satLast KC RC [.ref o0, .int (iv a1)] (ivm I0) (Ps r) := by
  unfold f_H_satLast at hf
  refine Ss.of (show Ai l b 1 y_H_satLast KC RC (Ps r) I0 0 [.ref o0, .int (iv a1), uu] [] from ?_)
  refine aw_iconst (v := iv 0) rfl d_H_satLast_0 (aw_istore_n (lv2 := [.ref o0, .int (iv a1), .int (iv 0)]) rfl (Nat.le_of_ble_eq_true rfl) rfl d_H_satLast_1 ?_)
  refine t_H_satLast_2 fu o0 a1 h_o0 h_a1 fu 0 I0 in_0 hI hf
set_option maxRecDepth 20000 in
theorem t_L_hasNumber_10 (fu : Nat) {r : Int × IMem} (k_43 : IMem → Res) (o0 : Nat) (p1 : Int) (p2 : Int) (h_o0 : KC[o0]? = some (7, 3)) (h_p1 : inr p1) (h_p2 : inr p2) (hk_43 : ∀ (I9 : IMem), RG I9 → k_43 I9 = some r → Ai l b 2 y_L_hasNumber KC RC (Ps r) I9 43 [.ref o0, .int (iv p1), .int (iv p2), uu] []) : ∀ (m : Nat) (w3 : Int) (I0 : IMem), inr w3 → RG I0 → f_L_hasNumber_10 fu k_43 o0 p1 p2 m w3 I0 = some r → Ai l b 2 y_L_hasNumber KC RC (Ps r) I0 10 [.ref o0, .int (iv p1), .int (iv p2), .int (iv w3)] [] := by
  intro m
  induction m with
  | zero => intro w3 I0 h_w3 h_I0 hf; cases hf
  | succ m ih =>
    intro w3 I0 h_w3 h_I0 hf
    replace hf : fb_L_hasNumber_10 fu k_43 o0 p1 p2 (f_L_hasNumber_10 fu k_43 o0 p1 p2 m) w3 I0 = some r := hf
    unfold fb_L_hasNumber_10 at hf
    refine aw_iload_n rfl rfl d_L_hasNumber_10 (aw_aload_n rfl rfl d_L_hasNumber_11 (aw_getr (r := o0 + 2) fl_L_15 h_o0 (by decide) rfl (rc_4_1 _ h_o0).1 d_L_hasNumber_12 (aw_iload_n rfl rfl d_L_hasNumber_15 ?_)))
    refine ai_iald (rc_4_1 _ h_o0).2 rfl h_p2 hf d_L_hasNumber_16 (fun _ hf => ?_)
    refine ai_icmp_ge h_w3 (h_I0 (o0 + 2) p2.toNat) hf (tgt := 43) (by decide) d_L_hasNumber_17 (fun hf => ?_) (fun hf => ?_)
    · refine aw_weakB (lv2 := [.ref o0, .int (iv p1), .int (iv p2), uu]) (wk_s (wk_s (wk_s (wk_u wk_n)))) ?_
      exact hk_43 I0 h_I0 hf
    · refine aw_aload_n rfl rfl d_L_hasNumber_20 (aw_iload_n rfl rfl d_L_hasNumber_21 (aw_bipush (v := iv 40) cb_40 d_L_hasNumber_22 (ai_imul d_L_hasNumber_24 (aw_iload_n rfl rfl d_L_hasNumber_25 (ai_iadd d_L_hasNumber_26 (aw_iconst (v := iv 0) rfl d_L_hasNumber_27 ?_))))))
      obtain ⟨y1, I2, c3, hf⟩ := of_zb hf
      refine ai_callV (as := [.int (iv (wr32 ((wr32 (p2 * 40)) + w3))), .int (iv 0)]) (d' := 1) (q := ("SinglesUp$Lines", zT4, 3)) mo_L_get lk_L_53 h_o0 rfl rfl rfl ⟨by decide, by decide⟩ rfl rfl (by decide) d_L_hasNumber_28 (t_L_get fu o0 (wr32 ((wr32 (p2 * 40)) + w3)) 0 I0 h_I0 h_o0 (wr32_in _) in_0 c3) (fun h_y1 h_I2 => ?_)
      refine aw_iload_n rfl rfl d_L_hasNumber_31 ?_
      refine ai_icmp_ne h_y1 h_p1 hf (tgt := 37) (by decide) d_L_hasNumber_32 (fun hf => ?_) (fun hf => ?_)
      · refine ai_iinc (n := 1) (lv2 := fun x4 => [.ref o0, .int (iv p1), .int (iv p2), .int (iv x4)]) hf rfl (Nat.le_of_ble_eq_true rfl) (fun _ => rfl) d_L_hasNumber_37 (fun x4 h_x4 hf => ?_)
        refine aw_goto (tgt := 10) (by decide) d_L_hasNumber_40 ?_
        exact ih x4 I2 h_x4 h_I2 hf
      · refine aw_iconst (v := iv 1) rfl d_L_hasNumber_35 ?_
        exact ai_retn rfl (nar_z (Or.inr rfl)) d_L_hasNumber_36 hf in_1 h_I2
set_option maxRecDepth 20000 in
theorem t_L_hasNumber_2 (fu : Nat) {r : Int × IMem} (o0 : Nat) (p1 : Int) (h_o0 : KC[o0]? = some (7, 3)) (h_p1 : inr p1) : ∀ (m : Nat) (w2 : Int) (I0 : IMem), inr w2 → RG I0 → f_L_hasNumber_2 fu o0 p1 m w2 I0 = some r → Ai l b 2 y_L_hasNumber KC RC (Ps r) I0 2 [.ref o0, .int (iv p1), .int (iv w2), uu] [] := by
  intro m
  induction m with
  | zero => intro w2 I0 h_w2 h_I0 hf; cases hf
  | succ m ih =>
    intro w2 I0 h_w2 h_I0 hf
    replace hf : fb_L_hasNumber_2 fu o0 p1 (f_L_hasNumber_2 fu o0 p1 m) w2 I0 = some r := hf
    unfold fb_L_hasNumber_2 at hf
    refine aw_iload_n rfl rfl d_L_hasNumber_2 (aw_bipush (v := iv 6) cb_6 d_L_hasNumber_3 ?_)
    refine ai_icmp_ge h_w2 in_6 hf (tgt := 49) (by decide) d_L_hasNumber_5 (fun hf => ?_) (fun hf => ?_)
    · refine aw_iconst (v := iv 0) rfl d_L_hasNumber_49 ?_
      exact ai_retn rfl (nar_z (Or.inl rfl)) d_L_hasNumber_50 hf in_0 h_I0
    · refine aw_iconst (v := iv 0) rfl d_L_hasNumber_8 (aw_istore_n (lv2 := [.ref o0, .int (iv p1), .int (iv w2), .int (iv 0)]) rfl (Nat.le_of_ble_eq_true rfl) rfl d_L_hasNumber_9 ?_)
      refine t_L_hasNumber_10 fu _ o0 p1 w2 h_o0 h_p1 h_w2 ?_ fu 0 I0 in_0 h_I0 hf
      · intro I5 h_I5 hf
        refine ai_iinc (n := 1) (lv2 := fun x6 => [.ref o0, .int (iv p1), .int (iv x6), uu]) hf rfl (Nat.le_of_ble_eq_true rfl) (fun _ => rfl) d_L_hasNumber_43 (fun x6 h_x6 hf => ?_)
        refine aw_goto (tgt := 2) (by decide) d_L_hasNumber_46 ?_
        exact ih x6 I5 h_x6 h_I5 hf
set_option maxRecDepth 20000 in
theorem t_L_hasNumber (fu : Nat) (o0 : Nat) (a1 : Int) (I0 : IMem) (hI : RG I0) (h_o0 : KC[o0]? = some (7, 3)) (h_a1 : inr a1) {r : Int × IMem} (hf : f_L_hasNumber fu o0 a1 I0 = some r) : Ss l b 2 y_L_hasNumber KC RC [.ref o0, .int (iv a1)] (ivm I0) (Ps r) := by
  unfold f_L_hasNumber at hf
  refine Ss.of (show Ai l b 2 y_L_hasNumber KC RC (Ps r) I0 0 [.ref o0, .int (iv a1), uu, uu] [] from ?_)
  refine aw_iconst (v := iv 0) rfl d_L_hasNumber_0 (aw_istore_n (lv2 := [.ref o0, .int (iv a1), .int (iv 0), uu]) rfl (Nat.le_of_ble_eq_true rfl) rfl d_L_hasNumber_1 ?_)
  refine t_L_hasNumber_2 fu o0 a1 h_o0 h_a1 fu 0 I0 in_0 hI hf
set_option maxRecDepth 20000 in
theorem t_M_countTill_2 (fu : Nat) {r : Int × IMem} (k_45 : Int → IMem → Res) (o0 : Nat) (p1 : Int) (h_o0 : KC[o0]? = some (8, 3)) (h_p1 : inr p1) (hk_45 : ∀ (z2 : Int) (I9 : IMem), inr z2 → RG I9 → k_45 z2 I9 = some r → Ai l b 6 y_M_countTill KC RC (Ps r) I9 45 [.ref o0, .int (iv p1), .int (iv z2)] []) : ∀ (m : Nat) (w2 : Int) (I0 : IMem), inr w2 → RG I0 → f_M_countTill_2 fu k_45 o0 p1 m w2 I0 = some r → Ai l b 6 y_M_countTill KC RC (Ps r) I0 2 [.ref o0, .int (iv p1), .int (iv w2)] [] := by
  intro m
  induction m with
  | zero => intro w2 I0 h_w2 h_I0 hf; cases hf
  | succ m ih =>
    intro w2 I0 h_w2 h_I0 hf
    replace hf : fb_M_countTill_2 fu k_45 o0 p1 (f_M_countTill_2 fu k_45 o0 p1 m) w2 I0 = some r := hf
    unfold fb_M_countTill_2 at hf
    refine aw_iload_n rfl rfl d_M_countTill_2 (aw_bipush (v := iv 40) cb_40 d_M_countTill_3 ?_)
    refine ai_icmp_gt h_w2 in_40 hf (tgt := 68) (by decide) d_M_countTill_5 (fun hf => ?_) (fun hf => ?_)
    · refine aw_iconst (v := iv (-1)) rfl d_M_countTill_68 ?_
      exact ai_reti rfl d_M_countTill_69 hf in_m1 h_I0
    · refine aw_aload_n rfl rfl d_M_countTill_8 (aw_getr (r := o0 + 41) fl_M_21 h_o0 (by decide) rfl (rc_5_1 _ h_o0).1 d_M_countTill_9 (aw_aload_n rfl rfl d_M_countTill_12 (aw_getr (r := o0 + 1) fl_M_12 h_o0 (by decide) rfl (rc_5_0 _ h_o0).1 d_M_countTill_13 ?_)))
      obtain ⟨y1, I2, c3, hf⟩ := of_zb hf
      refine ai_callVv (as := [.ref (o0 + 1)]) (d' := 5) (q := ("SinglesUp$Chair", zT0, 12)) mo_C_fill lk_M_74 (rc_5_1 _ h_o0).2 rfl rfl rfl ⟨by decide, by decide⟩ rfl rfl (by decide) d_M_countTill_16 (t_C_fill fu (o0 + 41) (o0 + 1) I0 h_I0 (rc_5_1 _ h_o0).2 (rc_5_0 _ h_o0).2 c3) (fun h_I2 => ?_)
      refine aw_aload_n rfl rfl d_M_countTill_19 (aw_getr (r := o0 + 41) fl_M_21 h_o0 (by decide) rfl (rc_5_1 _ h_o0).1 d_M_countTill_20 (aw_aload_n rfl rfl d_M_countTill_23 (aw_getr (r := o0 + 1) fl_M_12 h_o0 (by decide) rfl (rc_5_0 _ h_o0).1 d_M_countTill_24 ?_)))
      obtain ⟨y4, I5, c6, hf⟩ := of_zb hf
      refine ai_callV (as := [.ref (o0 + 1)]) (d' := 4) (q := ("SinglesUp$Chair", zT0, 12)) mo_C_leave lk_M_77 (rc_5_1 _ h_o0).2 rfl rfl rfl ⟨by decide, by decide⟩ rfl rfl (by decide) d_M_countTill_27 (t_C_leave fu (o0 + 41) (o0 + 1) I2 h_I2 (rc_5_1 _ h_o0).2 (rc_5_0 _ h_o0).2 c6) (fun h_y4 h_I5 => ?_)
      refine aw_pop rfl d_M_countTill_30 (aw_aload_n rfl rfl d_M_countTill_31 (aw_getr (r := o0 + 1) fl_M_12 h_o0 (by decide) rfl (rc_5_0 _ h_o0).1 d_M_countTill_32 (aw_getr (r := o0 + 7) fl_M_57 ((rc_5_0 _ h_o0).2) (by decide) rfl (rc_2_5 _ (rc_5_0 _ h_o0).2).1 d_M_countTill_35 (aw_iload_n rfl rfl d_M_countTill_38 ?_))))
      obtain ⟨y7, I8, c9, hf⟩ := of_zb hf
      refine ai_callV (as := [.int (iv p1)]) (d' := 2) (q := ("SinglesUp$Lines", zT4, 3)) mo_L_hasNumber lk_M_80 (rc_2_5 _ (rc_5_0 _ h_o0).2).2 rfl rfl rfl ⟨by decide, by decide⟩ rfl rfl (by decide) d_M_countTill_39 (t_L_hasNumber fu (o0 + 7) p1 I5 h_I5 (rc_2_5 _ (rc_5_0 _ h_o0).2).2 h_p1 c9) (fun h_y7 h_I8 => ?_)
      refine ai_if_ne h_y7 hf (tgt := 62) (by decide) d_M_countTill_42 (fun hf => ?_) (fun hf => ?_)
      · refine ai_iinc (n := 1) (lv2 := fun x10 => [.ref o0, .int (iv p1), .int (iv x10)]) hf rfl (Nat.le_of_ble_eq_true rfl) (fun _ => rfl) d_M_countTill_62 (fun x10 h_x10 hf => ?_)
        refine aw_goto (tgt := 2) (by decide) d_M_countTill_65 ?_
        exact ih x10 I8 h_x10 h_I8 hf
      · exact hk_45 w2 I8 h_w2 h_I8 hf
set_option maxRecDepth 20000 in
theorem t_M_countTill (fu : Nat) (o0 : Nat) (a1 : Int) (I0 : IMem) (hI : RG I0) (h_o0 : KC[o0]? = some (8, 3)) (h_a1 : inr a1) {r : Int × IMem} (hf : f_M_countTill fu o0 a1 I0 = some r) : Ss l b 6 y_M_countTill KC RC [.ref o0, .int (iv a1)] (ivm I0) (Ps r) := by
  unfold f_M_countTill at hf
  refine Ss.of (show Ai l b 6 y_M_countTill KC RC (Ps r) I0 0 [.ref o0, .int (iv a1), uu] [] from ?_)
  refine aw_iconst (v := iv 1) rfl d_M_countTill_0 (aw_istore_n (lv2 := [.ref o0, .int (iv a1), .int (iv 1)]) rfl (Nat.le_of_ble_eq_true rfl) rfl d_M_countTill_1 ?_)
  refine t_M_countTill_2 fu _ o0 a1 h_o0 h_a1 ?_ fu 1 I0 in_1 hI hf
  · intro x12 I11 h_x12 h_I11 hf
    refine aw_aload_n rfl rfl d_M_countTill_45 (aw_getr (r := o0 + 1) fl_M_12 h_o0 (by decide) rfl (rc_5_0 _ h_o0).1 d_M_countTill_46 (aw_iload_n rfl rfl d_M_countTill_49 ?_))
    obtain ⟨y13, I14, c15, hf⟩ := of_zb hf
    refine ai_callV (as := [.int (iv a1)]) (d' := 1) (q := ("SinglesUp$Hill", zT2, 14)) mo_H_satLast lk_M_84 (rc_5_0 _ h_o0).2 rfl rfl rfl ⟨by decide, by decide⟩ rfl rfl (by decide) d_M_countTill_50 (t_H_satLast fu (o0 + 1) a1 I11 h_I11 (rc_5_0 _ h_o0).2 h_a1 c15) (fun h_y13 h_I14 => ?_)
    refine ai_if_eq h_y13 hf (tgt := 60) (by decide) d_M_countTill_53 (fun hf => ?_) (fun hf => ?_)
    · refine aw_iconst (v := iv (-1)) rfl d_M_countTill_60 ?_
      exact ai_reti rfl d_M_countTill_61 hf in_m1 h_I14
    · refine aw_iload_n rfl rfl d_M_countTill_56 (aw_goto (tgt := 61) (by decide) d_M_countTill_57 ?_)
      exact ai_reti rfl d_M_countTill_61 hf h_x12 h_I14
end
