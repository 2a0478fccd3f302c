/-! calls on a fresh object -/
theorem kc_137 : KC[137]? = some (3, 12) := by decide +kernel
theorem rc_137_0 : RC 137 0 = some 138 := by decide +kernel
theorem kc_138 : KC[138]? = some (0, 240) := by decide +kernel
abbrev y_S_state : MI := (⟨"SinglesUp", "state", "(I)I"⟩, prog_1_method_2_code, 3, some .int)
theorem d_S_state_0 : decode y_S_state.2.1 0 = .ok (.aload_n 0, 1) := by decide +kernel
theorem d_S_state_1 : decode y_S_state.2.1 1 = .ok (.getfield 12, 3) := by decide +kernel
theorem fl_S_12 : FL "SinglesUp" 12 8 0 := ⟨"SinglesUp", zT8, 9, rfl, by decide, rfl, Or.inl (tw_in 428 (by decide +kernel) rfl)⟩
theorem kc_0 : KC[0]? = some (11, 9) := by decide +kernel
theorem rc_0_0 : RC 0 0 = some 1 := by decide +kernel
theorem d_S_state_4 : decode y_S_state.2.1 4 = .ok (.getfield 57, 3) := by decide +kernel
theorem fl_S_57 : FL "SinglesUp" 57 2 6 := ⟨"SinglesUp$Hill", zT2, 14, rfl, by decide, rfl, Or.inr ⟨"SinglesUp", nw_in 102 (by decide +kernel) rfl⟩⟩
theorem d_S_state_7 : decode y_S_state.2.1 7 = .ok (.istore_n 2, 1) := by decide +kernel
theorem d_S_state_8 : decode y_S_state.2.1 8 = .ok (.aload_n 0, 1) := by decide +kernel
theorem d_S_state_9 : decode y_S_state.2.1 9 = .ok (.getfield 12, 3) := by decide +kernel
theorem d_S_state_12 : decode y_S_state.2.1 12 = .ok (.iload_n 1, 1) := by decide +kernel
theorem d_S_state_13 : decode y_S_state.2.1 13 = .ok (.putfield 57, 3) := by decide +kernel
theorem d_S_state_16 : decode y_S_state.2.1 16 = .ok (.iload_n 2, 1) := by decide +kernel
theorem d_S_state_17 : decode y_S_state.2.1 17 = .ok (.ireturn, 1) := by decide +kernel
abbrev y_S_set : MI := (⟨"SinglesUp", "set", "(II)Z"⟩, prog_1_method_3_code, 3, some .boolean)
theorem d_S_set_0 : decode y_S_set.2.1 0 = .ok (.iload_n 1, 1) := by decide +kernel
theorem d_S_set_1 : decode y_S_set.2.1 1 = .ok (.iload_n 2, 1) := by decide +kernel
theorem d_S_set_2 : decode y_S_set.2.1 2 = .ok (.invokestatic 61, 3) := by decide +kernel
abbrev y_S_canTell : MI := (⟨"SinglesUp", "canTell", "(II)Z"⟩, prog_1_method_36_code, 2, some .boolean)
theorem lk_S_61 : LkS "SinglesUp" 61 y_S_canTell := ⟨tw_in 465 (by decide +kernel) rfl, Or.inl (tw_in 464 (by decide +kernel) rfl)⟩
theorem mo_S_canTell : MOk y_S_canTell 2 := ⟨by decide +kernel, tw_in 466 (by decide +kernel) rfl, tw_in 97 (by decide +kernel) rfl, by decide +kernel, by decide +kernel, by decide +kernel⟩
theorem d_S_canTell_0 : decode y_S_canTell.2.1 0 = .ok (.iload_n 0, 1) := by decide +kernel
theorem d_S_canTell_1 : decode y_S_canTell.2.1 1 = .ok (.ifCond .lt 30, 3) := by decide +kernel
theorem d_S_canTell_31 : decode y_S_canTell.2.1 31 = .ok (.iconst 0, 1) := by decide +kernel
theorem d_S_canTell_32 : decode y_S_canTell.2.1 32 = .ok (.ireturn, 1) := by decide +kernel
theorem d_S_set_5 : decode y_S_set.2.1 5 = .ok (.ifCond .ne 5, 3) := by decide +kernel
theorem d_S_set_8 : decode y_S_set.2.1 8 = .ok (.iconst 0, 1) := by decide +kernel
theorem d_S_set_9 : decode y_S_set.2.1 9 = .ok (.ireturn, 1) := by decide +kernel
theorem d_S_canTell_4 : decode y_S_canTell.2.1 4 = .ok (.iload_n 0, 1) := by decide +kernel
theorem d_S_canTell_5 : decode y_S_canTell.2.1 5 = .ok (.iconst 5, 1) := by decide +kernel
theorem d_S_canTell_6 : decode y_S_canTell.2.1 6 = .ok (.if_icmp .gt 25, 3) := by decide +kernel
theorem d_S_canTell_9 : decode y_S_canTell.2.1 9 = .ok (.iload_n 1, 1) := by decide +kernel
theorem d_S_canTell_10 : decode y_S_canTell.2.1 10 = .ok (.getstatic 265, 3) := by decide +kernel
theorem gs_S_265 : Cond.fieldLink "SinglesUp" 265 "SinglesUp" "LEAST" "[I" ∈ TW := tw_in 467 (by decide +kernel) rfl
theorem d_S_canTell_13 : decode y_S_canTell.2.1 13 = .ok (.iload_n 0, 1) := by decide +kernel
theorem d_S_canTell_14 : decode y_S_canTell.2.1 14 = .ok (.iaload, 1) := by decide +kernel
theorem d_S_canTell_15 : decode y_S_canTell.2.1 15 = .ok (.if_icmp .lt 16, 3) := by decide +kernel
theorem d_S_canTell_18 : decode y_S_canTell.2.1 18 = .ok (.iload_n 1, 1) := by decide +kernel
theorem d_S_canTell_19 : decode y_S_canTell.2.1 19 = .ok (.getstatic 268, 3) := by decide +kernel
theorem gs_S_268 : Cond.fieldLink "SinglesUp" 268 "SinglesUp" "MOST" "[I" ∈ TW := tw_in 469 (by decide +kernel) rfl
theorem d_S_canTell_22 : decode y_S_canTell.2.1 22 = .ok (.iload_n 0, 1) := by decide +kernel
theorem d_S_canTell_23 : decode y_S_canTell.2.1 23 = .ok (.iaload, 1) := by decide +kernel
theorem d_S_canTell_24 : decode y_S_canTell.2.1 24 = .ok (.if_icmp .gt 7, 3) := by decide +kernel
theorem d_S_canTell_27 : decode y_S_canTell.2.1 27 = .ok (.iconst 1, 1) := by decide +kernel
theorem d_S_canTell_28 : decode y_S_canTell.2.1 28 = .ok (.goto 4, 3) := by decide +kernel
theorem d_S_set_10 : decode y_S_set.2.1 10 = .ok (.aload_n 0, 1) := by decide +kernel
theorem d_S_set_11 : decode y_S_set.2.1 11 = .ok (.getfield 12, 3) := by decide +kernel
theorem d_S_set_14 : decode y_S_set.2.1 14 = .ok (.getfield 65, 3) := by decide +kernel
theorem fl_S_65 : FL "SinglesUp" 65 2 0 := ⟨"SinglesUp$Hill", zT2, 14, rfl, by decide, rfl, Or.inr ⟨"SinglesUp", nw_in 87 (by decide +kernel) rfl⟩⟩
theorem d_S_set_17 : decode y_S_set.2.1 17 = .ok (.iload_n 1, 1) := by decide +kernel
theorem d_S_set_18 : decode y_S_set.2.1 18 = .ok (.iload_n 2, 1) := by decide +kernel
theorem d_S_set_19 : decode y_S_set.2.1 19 = .ok (.iastore, 1) := by decide +kernel
theorem d_S_set_20 : decode y_S_set.2.1 20 = .ok (.iload_n 1, 1) := by decide +kernel
theorem d_S_set_21 : decode y_S_set.2.1 21 = .ok (.ifCond .ne 11, 3) := by decide +kernel
theorem d_S_set_24 : decode y_S_set.2.1 24 = .ok (.aload_n 0, 1) := by decide +kernel
theorem d_S_set_25 : decode y_S_set.2.1 25 = .ok (.getfield 33, 3) := by decide +kernel
theorem fl_S_33 : FL "SinglesUp" 33 8 4 := ⟨"SinglesUp", zT8, 9, rfl, by decide, rfl, Or.inl (tw_in 432 (by decide +kernel) rfl)⟩
theorem rc_0_4 : RC 0 4 = some 137 := by decide +kernel
theorem d_S_set_28 : decode y_S_set.2.1 28 = .ok (.iload_n 2, 1) := by decide +kernel
theorem d_S_set_29 : decode y_S_set.2.1 29 = .ok (.invokevirtual 69, 3) := by decide +kernel
theorem lk_S_69 : LkV "SinglesUp" 69 y_C_clear := ⟨tw_in 472 (by decide +kernel) rfl, tw_in 473 (by decide +kernel) rfl, Or.inl (tw_in 471 (by decide +kernel) rfl)⟩
theorem d_S_set_32 : decode y_S_set.2.1 32 = .ok (.iconst 1, 1) := by decide +kernel
theorem d_S_set_33 : decode y_S_set.2.1 33 = .ok (.ireturn, 1) := by decide +kernel
abbrev y_S_seen : MI := (⟨"SinglesUp", "seen", "(II)Z"⟩, prog_1_method_4_code, 3, some .boolean)
theorem d_S_seen_0 : decode y_S_seen.2.1 0 = .ok (.iload_n 1, 1) := by decide +kernel
theorem d_S_seen_1 : decode y_S_seen.2.1 1 = .ok (.invokestatic 73, 3) := by decide +kernel
theorem lk_S_73 : LkS "SinglesUp" 73 y_S_isLine := ⟨tw_in 481 (by decide +kernel) rfl, Or.inl (tw_in 480 (by decide +kernel) rfl)⟩
theorem mo_S_isLine : MOk y_S_isLine 1 := ⟨by decide +kernel, tw_in 482 (by decide +kernel) rfl, tw_in 97 (by decide +kernel) rfl, by decide +kernel, by decide +kernel, by decide +kernel⟩
theorem d_S_seen_4 : decode y_S_seen.2.1 4 = .ok (.ifCond .eq 14, 3) := by decide +kernel
theorem d_S_seen_7 : decode y_S_seen.2.1 7 = .ok (.iload_n 2, 1) := by decide +kernel
theorem d_S_seen_8 : decode y_S_seen.2.1 8 = .ok (.iconst 1, 1) := by decide +kernel
theorem d_S_seen_9 : decode y_S_seen.2.1 9 = .ok (.if_icmp .lt 9, 3) := by decide +kernel
theorem d_S_seen_18 : decode y_S_seen.2.1 18 = .ok (.iconst 0, 1) := by decide +kernel
theorem d_S_seen_19 : decode y_S_seen.2.1 19 = .ok (.ireturn, 1) := by decide +kernel
theorem d_S_seen_12 : decode y_S_seen.2.1 12 = .ok (.iload_n 2, 1) := by decide +kernel
theorem d_S_seen_13 : decode y_S_seen.2.1 13 = .ok (.bipush 24, 2) := by decide +kernel
theorem cb_24 : (Int8.ofInt 24).toInt32 = nI 24 := by decide +kernel
theorem d_S_seen_15 : decode y_S_seen.2.1 15 = .ok (.if_icmp .le 5, 3) := by decide +kernel
theorem d_S_seen_20 : decode y_S_seen.2.1 20 = .ok (.aload_n 0, 1) := by decide +kernel
theorem d_S_seen_21 : decode y_S_seen.2.1 21 = .ok (.getfield 12, 3) := by decide +kernel
theorem d_S_seen_24 : decode y_S_seen.2.1 24 = .ok (.getfield 77, 3) := by decide +kernel
theorem fl_S_77 : FL "SinglesUp" 77 2 5 := ⟨"SinglesUp$Hill", zT2, 14, rfl, by decide, rfl, Or.inr ⟨"SinglesUp", nw_in 99 (by decide +kernel) rfl⟩⟩
theorem d_S_seen_27 : decode y_S_seen.2.1 27 = .ok (.getfield 81, 3) := by decide +kernel
theorem fl_S_81 : FL "SinglesUp" 81 4 2 := ⟨"SinglesUp$Lines", zT4, 3, rfl, by decide, rfl, Or.inr ⟨"SinglesUp", nw_in 50 (by decide +kernel) rfl⟩⟩
theorem d_S_seen_30 : decode y_S_seen.2.1 30 = .ok (.iload_n 1, 1) := by decide +kernel
theorem d_S_seen_31 : decode y_S_seen.2.1 31 = .ok (.iload_n 2, 1) := by decide +kernel
theorem d_S_seen_32 : decode y_S_seen.2.1 32 = .ok (.iastore, 1) := by decide +kernel
theorem d_S_seen_33 : decode y_S_seen.2.1 33 = .ok (.iconst 1, 1) := by decide +kernel
theorem d_S_seen_34 : decode y_S_seen.2.1 34 = .ok (.ireturn, 1) := by decide +kernel
abbrev y_S_parts : MI := (⟨"SinglesUp", "parts", "(II)Z"⟩, prog_1_method_5_code, 3, some .boolean)
theorem d_S_parts_0 : decode y_S_parts.2.1 0 = .ok (.iload_n 1, 1) := by decide +kernel
theorem d_S_parts_1 : decode y_S_parts.2.1 1 = .ok (.iconst 2, 1) := by decide +kernel
theorem d_S_parts_2 : decode y_S_parts.2.1 2 = .ok (.if_icmp .lt 18, 3) := by decide +kernel
theorem d_S_parts_20 : decode y_S_parts.2.1 20 = .ok (.iconst 0, 1) := by decide +kernel
theorem d_S_parts_21 : decode y_S_parts.2.1 21 = .ok (.ireturn, 1) := by decide +kernel
theorem d_S_parts_5 : decode y_S_parts.2.1 5 = .ok (.iload_n 1, 1) := by decide +kernel
theorem d_S_parts_6 : decode y_S_parts.2.1 6 = .ok (.bipush 8, 2) := by decide +kernel
theorem d_S_parts_8 : decode y_S_parts.2.1 8 = .ok (.if_icmp .gt 12, 3) := by decide +kernel
theorem d_S_parts_11 : decode y_S_parts.2.1 11 = .ok (.iload_n 2, 1) := by decide +kernel
theorem d_S_parts_12 : decode y_S_parts.2.1 12 = .ok (.ifCond .lt 8, 3) := by decide +kernel
theorem d_S_parts_15 : decode y_S_parts.2.1 15 = .ok (.iload_n 2, 1) := by decide +kernel
theorem d_S_parts_16 : decode y_S_parts.2.1 16 = .ok (.iload_n 1, 1) := by decide +kernel
theorem d_S_parts_17 : decode y_S_parts.2.1 17 = .ok (.if_icmp .lt 5, 3) := by decide +kernel
theorem d_S_parts_22 : decode y_S_parts.2.1 22 = .ok (.aload_n 0, 1) := by decide +kernel
theorem d_S_parts_23 : decode y_S_parts.2.1 23 = .ok (.getfield 12, 3) := by decide +kernel
theorem d_S_parts_26 : decode y_S_parts.2.1 26 = .ok (.getfield 86, 3) := by decide +kernel
theorem fl_S_86 : FL "SinglesUp" 86 2 2 := ⟨"SinglesUp$Hill", zT2, 14, rfl, by decide, rfl, Or.inr ⟨"SinglesUp", nw_in 92 (by decide +kernel) rfl⟩⟩
theorem rc_1_2 : RC 1 2 = some 4 := by decide +kernel
theorem d_S_parts_29 : decode y_S_parts.2.1 29 = .ok (.iload_n 1, 1) := by decide +kernel
theorem d_S_parts_30 : decode y_S_parts.2.1 30 = .ok (.iload_n 2, 1) := by decide +kernel
theorem d_S_parts_31 : decode y_S_parts.2.1 31 = .ok (.iastore, 1) := by decide +kernel
theorem kc_4 : KC[4]? = some (0, 9) := by decide +kernel
theorem d_S_parts_32 : decode y_S_parts.2.1 32 = .ok (.iconst 1, 1) := by decide +kernel
theorem d_S_parts_33 : decode y_S_parts.2.1 33 = .ok (.ireturn, 1) := by decide +kernel
abbrev y_S_comer : MI := (⟨"SinglesUp", "comer", "(IIIII)Z"⟩, prog_1_method_6_code, 6, some .boolean)
theorem d_S_comer_0 : decode y_S_comer.2.1 0 = .ok (.iload_n 1, 1) := by decide +kernel
theorem d_S_comer_1 : decode y_S_comer.2.1 1 = .ok (.ifCond .lt 32, 3) := by decide +kernel
theorem d_S_comer_33 : decode y_S_comer.2.1 33 = .ok (.iconst 0, 1) := by decide +kernel
theorem d_S_comer_34 : decode y_S_comer.2.1 34 = .ok (.ireturn, 1) := by decide +kernel
theorem d_S_comer_4 : decode y_S_comer.2.1 4 = .ok (.iload_n 1, 1) := by decide +kernel
theorem d_S_comer_5 : decode y_S_comer.2.1 5 = .ok (.bipush 8, 2) := by decide +kernel
theorem d_S_comer_7 : decode y_S_comer.2.1 7 = .ok (.if_icmp .ge 26, 3) := by decide +kernel
theorem d_S_comer_10 : decode y_S_comer.2.1 10 = .ok (.iload_n 2, 1) := by decide +kernel
theorem d_S_comer_11 : decode y_S_comer.2.1 11 = .ok (.iload_n 3, 1) := by decide +kernel
theorem d_S_comer_12 : decode y_S_comer.2.1 12 = .ok (.iload 4, 2) := by decide +kernel
theorem d_S_comer_14 : decode y_S_comer.2.1 14 = .ok (.invokestatic 89, 3) := by decide +kernel
theorem lk_S_89 : LkS "SinglesUp" 89 y_S_canBe := ⟨tw_in 492 (by decide +kernel) rfl, Or.inl (tw_in 491 (by decide +kernel) rfl)⟩
theorem mo_S_canBe : MOk y_S_canBe 3 := ⟨by decide +kernel, tw_in 493 (by decide +kernel) rfl, tw_in 97 (by decide +kernel) rfl, by decide +kernel, by decide +kernel, by decide +kernel⟩
theorem d_S_comer_17 : decode y_S_comer.2.1 17 = .ok (.ifCond .eq 16, 3) := by decide +kernel
theorem d_S_comer_20 : decode y_S_comer.2.1 20 = .ok (.iload 5, 2) := by decide +kernel
theorem d_S_comer_22 : decode y_S_comer.2.1 22 = .ok (.ifCond .lt 11, 3) := by decide +kernel
theorem d_S_comer_25 : decode y_S_comer.2.1 25 = .ok (.iload 5, 2) := by decide +kernel
theorem d_S_comer_27 : decode y_S_comer.2.1 27 = .ok (.sipush 1000, 3) := by decide +kernel
theorem cs_1000 : (Int16.ofInt 1000).toInt32 = nI 1000 := by decide +kernel
theorem d_S_comer_30 : decode y_S_comer.2.1 30 = .ok (.if_icmp .le 5, 3) := by decide +kernel
theorem d_S_comer_35 : decode y_S_comer.2.1 35 = .ok (.aload_n 0, 1) := by decide +kernel
theorem d_S_comer_36 : decode y_S_comer.2.1 36 = .ok (.getfield 12, 3) := by decide +kernel
theorem d_S_comer_39 : decode y_S_comer.2.1 39 = .ok (.iload_n 1, 1) := by decide +kernel
theorem d_S_comer_40 : decode y_S_comer.2.1 40 = .ok (.iload_n 2, 1) := by decide +kernel
theorem d_S_comer_41 : decode y_S_comer.2.1 41 = .ok (.iload_n 3, 1) := by decide +kernel
theorem d_S_comer_42 : decode y_S_comer.2.1 42 = .ok (.iload 4, 2) := by decide +kernel
theorem d_S_comer_44 : decode y_S_comer.2.1 44 = .ok (.iload 5, 2) := by decide +kernel
theorem d_S_comer_46 : decode y_S_comer.2.1 46 = .ok (.invokevirtual 93, 3) := by decide +kernel
abbrev y_H_tellComer : MI := (⟨"SinglesUp$Hill", "tellComer", "(IIIII)V"⟩, prog_4_method_4_code, 6, none)
theorem lk_S_93 : LkV "SinglesUp" 93 y_H_tellComer := ⟨tw_in 495 (by decide +kernel) rfl, tw_in 496 (by decide +kernel) rfl, Or.inl (tw_in 494 (by decide +kernel) rfl)⟩
theorem mo_H_tellComer : MOk y_H_tellComer 5 := ⟨by decide +kernel, tw_in 497 (by decide +kernel) rfl, tw_in 98 (by decide +kernel) rfl, by decide +kernel, by decide +kernel, by decide +kernel⟩
theorem d_H_tellComer_0 : decode y_H_tellComer.2.1 0 = .ok (.iload_n 1, 1) := by decide +kernel
theorem d_H_tellComer_1 : decode y_H_tellComer.2.1 1 = .ok (.ifCond .lt 53, 3) := by decide +kernel
theorem d_H_tellComer_4 : decode y_H_tellComer.2.1 4 = .ok (.iload_n 1, 1) := by decide +kernel
theorem d_H_tellComer_5 : decode y_H_tellComer.2.1 5 = .ok (.bipush 8, 2) := by decide +kernel
theorem d_H_tellComer_7 : decode y_H_tellComer.2.1 7 = .ok (.if_icmp .ge 47, 3) := by decide +kernel
theorem d_H_tellComer_10 : decode y_H_tellComer.2.1 10 = .ok (.aload_n 0, 1) := by decide +kernel
theorem d_H_tellComer_11 : decode y_H_tellComer.2.1 11 = .ok (.getfield 24, 3) := by decide +kernel
theorem d_H_tellComer_14 : decode y_H_tellComer.2.1 14 = .ok (.iconst 4, 1) := by decide +kernel
theorem d_H_tellComer_15 : decode y_H_tellComer.2.1 15 = .ok (.iload_n 1, 1) := by decide +kernel
theorem d_H_tellComer_16 : decode y_H_tellComer.2.1 16 = .ok (.imul, 1) := by decide +kernel
theorem d_H_tellComer_17 : decode y_H_tellComer.2.1 17 = .ok (.iload_n 2, 1) := by decide +kernel
theorem d_H_tellComer_18 : decode y_H_tellComer.2.1 18 = .ok (.iastore, 1) := by decide +kernel
theorem d_H_tellComer_19 : decode y_H_tellComer.2.1 19 = .ok (.aload_n 0, 1) := by decide +kernel
theorem d_H_tellComer_20 : decode y_H_tellComer.2.1 20 = .ok (.getfield 24, 3) := by decide +kernel
theorem d_H_tellComer_23 : decode y_H_tellComer.2.1 23 = .ok (.iconst 4, 1) := by decide +kernel
theorem d_H_tellComer_24 : decode y_H_tellComer.2.1 24 = .ok (.iload_n 1, 1) := by decide +kernel
theorem d_H_tellComer_25 : decode y_H_tellComer.2.1 25 = .ok (.imul, 1) := by decide +kernel
theorem d_H_tellComer_26 : decode y_H_tellComer.2.1 26 = .ok (.iconst 1, 1) := by decide +kernel
theorem d_H_tellComer_27 : decode y_H_tellComer.2.1 27 = .ok (.iadd, 1) := by decide +kernel
theorem d_H_tellComer_28 : decode y_H_tellComer.2.1 28 = .ok (.iload_n 3, 1) := by decide +kernel
theorem d_H_tellComer_29 : decode y_H_tellComer.2.1 29 = .ok (.iastore, 1) := by decide +kernel
theorem d_H_tellComer_30 : decode y_H_tellComer.2.1 30 = .ok (.aload_n 0, 1) := by decide +kernel
theorem d_H_tellComer_31 : decode y_H_tellComer.2.1 31 = .ok (.getfield 24, 3) := by decide +kernel
theorem d_H_tellComer_34 : decode y_H_tellComer.2.1 34 = .ok (.iconst 4, 1) := by decide +kernel
theorem d_H_tellComer_35 : decode y_H_tellComer.2.1 35 = .ok (.iload_n 1, 1) := by decide +kernel
theorem d_H_tellComer_36 : decode y_H_tellComer.2.1 36 = .ok (.imul, 1) := by decide +kernel
theorem d_H_tellComer_37 : decode y_H_tellComer.2.1 37 = .ok (.iconst 2, 1) := by decide +kernel
theorem d_H_tellComer_38 : decode y_H_tellComer.2.1 38 = .ok (.iadd, 1) := by decide +kernel
theorem d_H_tellComer_39 : decode y_H_tellComer.2.1 39 = .ok (.iload 4, 2) := by decide +kernel
theorem d_H_tellComer_41 : decode y_H_tellComer.2.1 41 = .ok (.iastore, 1) := by decide +kernel
theorem d_H_tellComer_42 : decode y_H_tellComer.2.1 42 = .ok (.aload_n 0, 1) := by decide +kernel
theorem d_H_tellComer_43 : decode y_H_tellComer.2.1 43 = .ok (.getfield 24, 3) := by decide +kernel
theorem d_H_tellComer_46 : decode y_H_tellComer.2.1 46 = .ok (.iconst 4, 1) := by decide +kernel
theorem d_H_tellComer_47 : decode y_H_tellComer.2.1 47 = .ok (.iload_n 1, 1) := by decide +kernel
theorem d_H_tellComer_48 : decode y_H_tellComer.2.1 48 = .ok (.imul, 1) := by decide +kernel
theorem d_H_tellComer_49 : decode y_H_tellComer.2.1 49 = .ok (.iconst 3, 1) := by decide +kernel
theorem d_H_tellComer_50 : decode y_H_tellComer.2.1 50 = .ok (.iadd, 1) := by decide +kernel
theorem d_H_tellComer_51 : decode y_H_tellComer.2.1 51 = .ok (.iload 5, 2) := by decide +kernel
theorem d_H_tellComer_53 : decode y_H_tellComer.2.1 53 = .ok (.iastore, 1) := by decide +kernel
theorem d_H_tellComer_54 : decode y_H_tellComer.2.1 54 = .ok (.return_, 1) := by decide +kernel
theorem d_S_comer_49 : decode y_S_comer.2.1 49 = .ok (.iconst 1, 1) := by decide +kernel
theorem d_S_comer_50 : decode y_S_comer.2.1 50 = .ok (.ireturn, 1) := by decide +kernel
abbrev y_S_feed : MI := (⟨"SinglesUp", "feed", "(IIIII)I"⟩, prog_1_method_7_code, 6, some .int)
theorem d_S_feed_0 : decode y_S_feed.2.1 0 = .ok (.aload_n 0, 1) := by decide +kernel
theorem d_S_feed_1 : decode y_S_feed.2.1 1 = .ok (.getfield 39, 3) := by decide +kernel
theorem fl_S_39 : FL "SinglesUp" 39 8 5 := ⟨"SinglesUp", zT8, 9, rfl, by decide, rfl, Or.inl (tw_in 433 (by decide +kernel) rfl)⟩
theorem rc_0_5 : RC 0 5 = some 144 := by decide +kernel
theorem d_S_feed_4 : decode y_S_feed.2.1 4 = .ok (.invokevirtual 97, 3) := by decide +kernel
abbrev y_R_hasRoomForFive : MI := (⟨"SinglesUp$Reader", "hasRoomForFive", "()Z"⟩, prog_9_method_2_code, 1, some .boolean)
theorem lk_S_97 : LkV "SinglesUp" 97 y_R_hasRoomForFive := ⟨tw_in 503 (by decide +kernel) rfl, tw_in 504 (by decide +kernel) rfl, Or.inl (tw_in 502 (by decide +kernel) rfl)⟩
theorem mo_R_hasRoomForFive : MOk y_R_hasRoomForFive 0 := ⟨by decide +kernel, tw_in 505 (by decide +kernel) rfl, tw_in 104 (by decide +kernel) rfl, by decide +kernel, by decide +kernel, by decide +kernel⟩
theorem kc_144 : KC[144]? = some (10, 13) := by decide +kernel
theorem d_R_hasRoomForFive_0 : decode y_R_hasRoomForFive.2.1 0 = .ok (.aload_n 0, 1) := by decide +kernel
theorem d_R_hasRoomForFive_1 : decode y_R_hasRoomForFive.2.1 1 = .ok (.getfield 35, 3) := by decide +kernel
theorem fl_R_35 : FL "SinglesUp$Reader" 35 7 1 := ⟨"SinglesUp$Reader", zT7, 13, rfl, by decide, rfl, Or.inl (tw_in 317 (by decide +kernel) rfl)⟩
theorem d_R_hasRoomForFive_4 : decode y_R_hasRoomForFive.2.1 4 = .ok (.sipush 380, 3) := by decide +kernel
theorem cs_380 : (Int16.ofInt 380).toInt32 = nI 380 := by decide +kernel
theorem d_R_hasRoomForFive_7 : decode y_R_hasRoomForFive.2.1 7 = .ok (.if_icmp .gt 7, 3) := by decide +kernel
theorem d_R_hasRoomForFive_10 : decode y_R_hasRoomForFive.2.1 10 = .ok (.iconst 1, 1) := by decide +kernel
theorem d_R_hasRoomForFive_11 : decode y_R_hasRoomForFive.2.1 11 = .ok (.goto 4, 3) := by decide +kernel
theorem d_R_hasRoomForFive_15 : decode y_R_hasRoomForFive.2.1 15 = .ok (.ireturn, 1) := by decide +kernel
theorem d_S_feed_7 : decode y_S_feed.2.1 7 = .ok (.ifCond .ne 5, 3) := by decide +kernel
theorem d_S_feed_12 : decode y_S_feed.2.1 12 = .ok (.aload_n 0, 1) := by decide +kernel
theorem d_S_feed_13 : decode y_S_feed.2.1 13 = .ok (.getfield 39, 3) := by decide +kernel
theorem d_S_feed_16 : decode y_S_feed.2.1 16 = .ok (.iload_n 1, 1) := by decide +kernel
theorem d_S_feed_17 : decode y_S_feed.2.1 17 = .ok (.invokevirtual 101, 3) := by decide +kernel
abbrev y_R_take : MI := (⟨"SinglesUp$Reader", "take", "(I)V"⟩, prog_9_method_3_code, 3, none)
theorem lk_S_101 : LkV "SinglesUp" 101 y_R_take := ⟨tw_in 507 (by decide +kernel) rfl, tw_in 508 (by decide +kernel) rfl, Or.inl (tw_in 506 (by decide +kernel) rfl)⟩
theorem mo_R_take : MOk y_R_take 1 := ⟨by decide +kernel, tw_in 509 (by decide +kernel) rfl, tw_in 104 (by decide +kernel) rfl, by decide +kernel, by decide +kernel, by decide +kernel⟩
theorem d_R_take_0 : decode y_R_take.2.1 0 = .ok (.bipush 24, 2) := by decide +kernel
theorem d_R_take_2 : decode y_R_take.2.1 2 = .ok (.istore_n 2, 1) := by decide +kernel
theorem d_R_take_3 : decode y_R_take.2.1 3 = .ok (.iload_n 2, 1) := by decide +kernel
theorem d_R_take_4 : decode y_R_take.2.1 4 = .ok (.ifCond .lt 52, 3) := by decide +kernel
theorem d_R_take_7 : decode y_R_take.2.1 7 = .ok (.aload_n 0, 1) := by decide +kernel
theorem d_R_take_8 : decode y_R_take.2.1 8 = .ok (.getfield 35, 3) := by decide +kernel
theorem d_R_take_11 : decode y_R_take.2.1 11 = .ok (.ifCond .lt 39, 3) := by decide +kernel
theorem d_R_take_14 : decode y_R_take.2.1 14 = .ok (.aload_n 0, 1) := by decide +kernel
theorem d_R_take_15 : decode y_R_take.2.1 15 = .ok (.getfield 35, 3) := by decide +kernel
theorem d_R_take_18 : decode y_R_take.2.1 18 = .ok (.sipush 400, 3) := by decide +kernel
theorem cs_400 : (Int16.ofInt 400).toInt32 = nI 400 := by decide +kernel
theorem d_R_take_21 : decode y_R_take.2.1 21 = .ok (.if_icmp .ge 29, 3) := by decide +kernel
theorem d_R_take_24 : decode y_R_take.2.1 24 = .ok (.aload_n 0, 1) := by decide +kernel
theorem d_R_take_25 : decode y_R_take.2.1 25 = .ok (.getfield 11, 3) := by decide +kernel
theorem fl_R_11 : FL "SinglesUp$Reader" 11 7 0 := ⟨"SinglesUp$Reader", zT7, 13, rfl, by decide, rfl, Or.inl (tw_in 316 (by decide +kernel) rfl)⟩
theorem rc_144_0 : RC 144 0 = some 145 := by decide +kernel
theorem d_R_take_28 : decode y_R_take.2.1 28 = .ok (.aload_n 0, 1) := by decide +kernel
theorem d_R_take_29 : decode y_R_take.2.1 29 = .ok (.getfield 35, 3) := by decide +kernel
theorem d_R_take_32 : decode y_R_take.2.1 32 = .ok (.iload_n 1, 1) := by decide +kernel
theorem d_R_take_33 : decode y_R_take.2.1 33 = .ok (.iload_n 2, 1) := by decide +kernel
theorem d_R_take_34 : decode y_R_take.2.1 34 = .ok (.iushr, 1) := by decide +kernel
theorem d_R_take_35 : decode y_R_take.2.1 35 = .ok (.sipush 255, 3) := by decide +kernel
theorem cs_255 : (Int16.ofInt 255).toInt32 = nI 255 := by decide +kernel
theorem d_R_take_38 : decode y_R_take.2.1 38 = .ok (.iand, 1) := by decide +kernel
theorem d_R_take_39 : decode y_R_take.2.1 39 = .ok (.iastore, 1) := by decide +kernel
theorem kc_145 : KC[145]? = some (0, 400) := by decide +kernel
theorem d_R_take_40 : decode y_R_take.2.1 40 = .ok (.aload_n 0, 1) := by decide +kernel
theorem d_R_take_41 : decode y_R_take.2.1 41 = .ok (.dup, 1) := by decide +kernel
theorem d_R_take_42 : decode y_R_take.2.1 42 = .ok (.getfield 35, 3) := by decide +kernel
theorem d_R_take_45 : decode y_R_take.2.1 45 = .ok (.iconst 1, 1) := by decide +kernel
theorem d_R_take_46 : decode y_R_take.2.1 46 = .ok (.iadd, 1) := by decide +kernel
theorem d_R_take_47 : decode y_R_take.2.1 47 = .ok (.putfield 35, 3) := by decide +kernel
theorem d_R_take_50 : decode y_R_take.2.1 50 = .ok (.iinc 2 (-8), 3) := by decide +kernel
theorem d_R_take_53 : decode y_R_take.2.1 53 = .ok (.goto (-50), 3) := by decide +kernel
theorem d_R_take_56 : decode y_R_take.2.1 56 = .ok (.return_, 1) := by decide +kernel
theorem d_S_feed_20 : decode y_S_feed.2.1 20 = .ok (.aload_n 0, 1) := by decide +kernel
theorem d_S_feed_21 : decode y_S_feed.2.1 21 = .ok (.getfield 39, 3) := by decide +kernel
theorem d_S_feed_24 : decode y_S_feed.2.1 24 = .ok (.iload_n 2, 1) := by decide +kernel
theorem d_S_feed_25 : decode y_S_feed.2.1 25 = .ok (.invokevirtual 101, 3) := by decide +kernel
theorem d_S_feed_28 : decode y_S_feed.2.1 28 = .ok (.aload_n 0, 1) := by decide +kernel
theorem d_S_feed_29 : decode y_S_feed.2.1 29 = .ok (.getfield 39, 3) := by decide +kernel
theorem d_S_feed_32 : decode y_S_feed.2.1 32 = .ok (.iload_n 3, 1) := by decide +kernel
theorem d_S_feed_33 : decode y_S_feed.2.1 33 = .ok (.invokevirtual 101, 3) := by decide +kernel
theorem d_S_feed_36 : decode y_S_feed.2.1 36 = .ok (.aload_n 0, 1) := by decide +kernel
theorem d_S_feed_37 : decode y_S_feed.2.1 37 = .ok (.getfield 39, 3) := by decide +kernel
theorem d_S_feed_40 : decode y_S_feed.2.1 40 = .ok (.iload 4, 2) := by decide +kernel
theorem d_S_feed_42 : decode y_S_feed.2.1 42 = .ok (.invokevirtual 101, 3) := by decide +kernel
theorem d_S_feed_45 : decode y_S_feed.2.1 45 = .ok (.aload_n 0, 1) := by decide +kernel
theorem d_S_feed_46 : decode y_S_feed.2.1 46 = .ok (.getfield 39, 3) := by decide +kernel
theorem d_S_feed_49 : decode y_S_feed.2.1 49 = .ok (.iload 5, 2) := by decide +kernel
theorem d_S_feed_51 : decode y_S_feed.2.1 51 = .ok (.invokevirtual 101, 3) := by decide +kernel
theorem d_S_feed_54 : decode y_S_feed.2.1 54 = .ok (.aload_n 0, 1) := by decide +kernel
theorem d_S_feed_55 : decode y_S_feed.2.1 55 = .ok (.getfield 39, 3) := by decide +kernel
theorem d_S_feed_58 : decode y_S_feed.2.1 58 = .ok (.getfield 104, 3) := by decide +kernel
theorem fl_S_104 : FL "SinglesUp" 104 7 1 := ⟨"SinglesUp$Reader", zT7, 13, rfl, by decide, rfl, Or.inr ⟨"SinglesUp", nw_in 222 (by decide +kernel) rfl⟩⟩
theorem d_S_feed_61 : decode y_S_feed.2.1 61 = .ok (.ireturn, 1) := by decide +kernel
abbrev y_S_end : MI := (⟨"SinglesUp", "end", "(I)Z"⟩, prog_1_method_8_code, 2, some .boolean)
theorem d_S_end_0 : decode y_S_end.2.1 0 = .ok (.aload_n 0, 1) := by decide +kernel
theorem d_S_end_1 : decode y_S_end.2.1 1 = .ok (.getfield 39, 3) := by decide +kernel
theorem d_S_end_4 : decode y_S_end.2.1 4 = .ok (.iload_n 1, 1) := by decide +kernel
theorem d_S_end_5 : decode y_S_end.2.1 5 = .ok (.invokevirtual 107, 3) := by decide +kernel
abbrev y_R_cut : MI := (⟨"SinglesUp$Reader", "cut", "(I)Z"⟩, prog_9_method_4_code, 2, some .boolean)
theorem lk_S_107 : LkV "SinglesUp" 107 y_R_cut := ⟨tw_in 515 (by decide +kernel) rfl, tw_in 516 (by decide +kernel) rfl, Or.inl (tw_in 514 (by decide +kernel) rfl)⟩
theorem mo_R_cut : MOk y_R_cut 1 := ⟨by decide +kernel, tw_in 517 (by decide +kernel) rfl, tw_in 104 (by decide +kernel) rfl, by decide +kernel, by decide +kernel, by decide +kernel⟩
theorem d_R_cut_0 : decode y_R_cut.2.1 0 = .ok (.iload_n 1, 1) := by decide +kernel
theorem d_R_cut_1 : decode y_R_cut.2.1 1 = .ok (.ifCond .lt 11, 3) := by decide +kernel
theorem d_R_cut_12 : decode y_R_cut.2.1 12 = .ok (.iconst 0, 1) := by decide +kernel
theorem d_R_cut_13 : decode y_R_cut.2.1 13 = .ok (.ireturn, 1) := by decide +kernel
theorem d_S_end_8 : decode y_S_end.2.1 8 = .ok (.ireturn, 1) := by decide +kernel
theorem d_R_cut_4 : decode y_R_cut.2.1 4 = .ok (.iload_n 1, 1) := by decide +kernel
theorem d_R_cut_5 : decode y_R_cut.2.1 5 = .ok (.aload_n 0, 1) := by decide +kernel
theorem d_R_cut_6 : decode y_R_cut.2.1 6 = .ok (.getfield 35, 3) := by decide +kernel
theorem d_R_cut_9 : decode y_R_cut.2.1 9 = .ok (.if_icmp .le 5, 3) := by decide +kernel
theorem d_R_cut_14 : decode y_R_cut.2.1 14 = .ok (.aload_n 0, 1) := by decide +kernel
theorem d_R_cut_15 : decode y_R_cut.2.1 15 = .ok (.iload_n 1, 1) := by decide +kernel
theorem d_R_cut_16 : decode y_R_cut.2.1 16 = .ok (.putfield 35, 3) := by decide +kernel
theorem d_R_cut_19 : decode y_R_cut.2.1 19 = .ok (.iconst 1, 1) := by decide +kernel
theorem d_R_cut_20 : decode y_R_cut.2.1 20 = .ok (.ireturn, 1) := by decide +kernel
abbrev y_S_text : MI := (⟨"SinglesUp", "text", "(I)I"⟩, prog_1_method_9_code, 2, some .int)
theorem d_S_text_0 : decode y_S_text.2.1 0 = .ok (.iload_n 1, 1) := by decide +kernel
theorem d_S_text_1 : decode y_S_text.2.1 1 = .ok (.ifCond .lt 8, 3) := by decide +kernel
theorem d_S_text_9 : decode y_S_text.2.1 9 = .ok (.aload_n 0, 1) := by decide +kernel
theorem d_S_text_10 : decode y_S_text.2.1 10 = .ok (.getfield 39, 3) := by decide +kernel
theorem d_S_text_13 : decode y_S_text.2.1 13 = .ok (.invokevirtual 110, 3) := by decide +kernel
abbrev y_R_forget : MI := (⟨"SinglesUp$Reader", "forget", "()V"⟩, prog_9_method_5_code, 1, none)
theorem lk_S_110 : LkV "SinglesUp" 110 y_R_forget := ⟨tw_in 523 (by decide +kernel) rfl, tw_in 524 (by decide +kernel) rfl, Or.inl (tw_in 522 (by decide +kernel) rfl)⟩
theorem mo_R_forget : MOk y_R_forget 0 := ⟨by decide +kernel, tw_in 525 (by decide +kernel) rfl, tw_in 104 (by decide +kernel) rfl, by decide +kernel, by decide +kernel, by decide +kernel⟩
theorem d_R_forget_0 : decode y_R_forget.2.1 0 = .ok (.aload_n 0, 1) := by decide +kernel
theorem d_R_forget_1 : decode y_R_forget.2.1 1 = .ok (.iconst 0, 1) := by decide +kernel
theorem d_R_forget_2 : decode y_R_forget.2.1 2 = .ok (.putfield 35, 3) := by decide +kernel
theorem d_R_forget_5 : decode y_R_forget.2.1 5 = .ok (.aload_n 0, 1) := by decide +kernel
theorem d_R_forget_6 : decode y_R_forget.2.1 6 = .ok (.iconst 0, 1) := by decide +kernel
theorem d_R_forget_7 : decode y_R_forget.2.1 7 = .ok (.putfield 38, 3) := by decide +kernel
theorem fl_R_38 : FL "SinglesUp$Reader" 38 7 10 := ⟨"SinglesUp$Reader", zT7, 13, rfl, by decide, rfl, Or.inl (tw_in 327 (by decide +kernel) rfl)⟩
theorem d_R_forget_10 : decode y_R_forget.2.1 10 = .ok (.aload_n 0, 1) := by decide +kernel
theorem d_R_forget_11 : decode y_R_forget.2.1 11 = .ok (.iconst (-1), 1) := by decide +kernel
theorem d_R_forget_12 : decode y_R_forget.2.1 12 = .ok (.putfield 24, 3) := by decide +kernel
theorem fl_R_24 : FL "SinglesUp$Reader" 24 7 11 := ⟨"SinglesUp$Reader", zT7, 13, rfl, by decide, rfl, Or.inl (tw_in 329 (by decide +kernel) rfl)⟩
theorem d_R_forget_15 : decode y_R_forget.2.1 15 = .ok (.return_, 1) := by decide +kernel
theorem d_S_text_16 : decode y_S_text.2.1 16 = .ok (.iconst (-1), 1) := by decide +kernel
theorem d_S_text_17 : decode y_S_text.2.1 17 = .ok (.ireturn, 1) := by decide +kernel
theorem d_S_text_4 : decode y_S_text.2.1 4 = .ok (.iload_n 1, 1) := by decide +kernel
theorem d_S_text_5 : decode y_S_text.2.1 5 = .ok (.iconst 4, 1) := by decide +kernel
theorem d_S_text_6 : decode y_S_text.2.1 6 = .ok (.if_icmp .le 12, 3) := by decide +kernel
theorem d_S_text_18 : decode y_S_text.2.1 18 = .ok (.aload_n 0, 1) := by decide +kernel
theorem d_S_text_19 : decode y_S_text.2.1 19 = .ok (.getfield 39, 3) := by decide +kernel
theorem d_S_text_22 : decode y_S_text.2.1 22 = .ok (.iload_n 1, 1) := by decide +kernel
theorem d_S_text_23 : decode y_S_text.2.1 23 = .ok (.iconst 4, 1) := by decide +kernel
theorem d_S_text_24 : decode y_S_text.2.1 24 = .ok (.if_icmp .ne 7, 3) := by decide +kernel
theorem d_S_text_31 : decode y_S_text.2.1 31 = .ok (.iconst 0, 1) := by decide +kernel
theorem d_S_text_32 : decode y_S_text.2.1 32 = .ok (.invokevirtual 113, 3) := by decide +kernel
abbrev y_R_understand : MI := (⟨"SinglesUp$Reader", "understand", "(Z)Z"⟩, prog_9_method_6_code, 3, some .boolean)
theorem lk_S_113 : LkV "SinglesUp" 113 y_R_understand := ⟨tw_in 527 (by decide +kernel) rfl, tw_in 528 (by decide +kernel) rfl, Or.inl (tw_in 526 (by decide +kernel) rfl)⟩
theorem mo_R_understand : MOk y_R_understand 1 := ⟨by decide +kernel, tw_in 529 (by decide +kernel) rfl, tw_in 104 (by decide +kernel) rfl, by decide +kernel, by decide +kernel, by decide +kernel⟩
theorem d_R_understand_0 : decode y_R_understand.2.1 0 = .ok (.aload_n 0, 1) := by decide +kernel
theorem d_R_understand_1 : decode y_R_understand.2.1 1 = .ok (.invokevirtual 41, 3) := by decide +kernel
abbrev y_R_scan : MI := (⟨"SinglesUp$Reader", "scan", "()V"⟩, prog_9_method_7_code, 4, none)
theorem lk_R_41 : LkV "SinglesUp$Reader" 41 y_R_scan := ⟨tw_in 532 (by decide +kernel) rfl, tw_in 2 (by decide +kernel) rfl, Or.inl (tw_in 530 (by decide +kernel) rfl)⟩
theorem mo_R_scan : MOk y_R_scan 0 := ⟨by decide +kernel, tw_in 533 (by decide +kernel) rfl, tw_in 104 (by decide +kernel) rfl, by decide +kernel, by decide +kernel, by decide +kernel⟩
theorem d_R_scan_0 : decode y_R_scan.2.1 0 = .ok (.aload_n 0, 1) := by decide +kernel
theorem d_R_scan_1 : decode y_R_scan.2.1 1 = .ok (.iconst 0, 1) := by decide +kernel
theorem d_R_scan_2 : decode y_R_scan.2.1 2 = .ok (.putfield 66, 3) := by decide +kernel
theorem fl_R_66 : FL "SinglesUp$Reader" 66 7 5 := ⟨"SinglesUp$Reader", zT7, 13, rfl, by decide, rfl, Or.inl (tw_in 322 (by decide +kernel) rfl)⟩
theorem d_R_scan_5 : decode y_R_scan.2.1 5 = .ok (.iconst 0, 1) := by decide +kernel
theorem d_R_scan_6 : decode y_R_scan.2.1 6 = .ok (.istore_n 1, 1) := by decide +kernel
theorem d_R_scan_7 : decode y_R_scan.2.1 7 = .ok (.iload_n 1, 1) := by decide +kernel
theorem d_R_scan_8 : decode y_R_scan.2.1 8 = .ok (.aload_n 0, 1) := by decide +kernel
theorem d_R_scan_9 : decode y_R_scan.2.1 9 = .ok (.getfield 35, 3) := by decide +kernel
theorem d_R_scan_12 : decode y_R_scan.2.1 12 = .ok (.if_icmp .ge 182, 3) := by decide +kernel
theorem d_R_scan_194 : decode y_R_scan.2.1 194 = .ok (.aload_n 0, 1) := by decide +kernel
theorem d_R_scan_195 : decode y_R_scan.2.1 195 = .ok (.bipush 17, 2) := by decide +kernel
theorem cb_17 : (Int8.ofInt 17).toInt32 = nI 17 := by decide +kernel
theorem d_R_scan_197 : decode y_R_scan.2.1 197 = .ok (.aload_n 0, 1) := by decide +kernel
theorem d_R_scan_198 : decode y_R_scan.2.1 198 = .ok (.getfield 35, 3) := by decide +kernel
theorem d_R_scan_201 : decode y_R_scan.2.1 201 = .ok (.iconst 0, 1) := by decide +kernel
theorem d_R_scan_202 : decode y_R_scan.2.1 202 = .ok (.invokevirtual 77, 3) := by decide +kernel
abbrev y_R_addToken : MI := (⟨"SinglesUp$Reader", "addToken", "(III)V"⟩, prog_9_method_10_code, 4, none)
theorem lk_R_77 : LkV "SinglesUp$Reader" 77 y_R_addToken := ⟨tw_in 592 (by decide +kernel) rfl, tw_in 4 (by decide +kernel) rfl, Or.inl (tw_in 590 (by decide +kernel) rfl)⟩
theorem mo_R_addToken : MOk y_R_addToken 3 := ⟨by decide +kernel, tw_in 593 (by decide +kernel) rfl, tw_in 104 (by decide +kernel) rfl, by decide +kernel, by decide +kernel, by decide +kernel⟩
theorem d_R_addToken_0 : decode y_R_addToken.2.1 0 = .ok (.aload_n 0, 1) := by decide +kernel
theorem d_R_addToken_1 : decode y_R_addToken.2.1 1 = .ok (.getfield 66, 3) := by decide +kernel
theorem d_R_addToken_4 : decode y_R_addToken.2.1 4 = .ok (.ifCond .lt 53, 3) := by decide +kernel
theorem d_R_addToken_7 : decode y_R_addToken.2.1 7 = .ok (.aload_n 0, 1) := by decide +kernel
theorem d_R_addToken_8 : decode y_R_addToken.2.1 8 = .ok (.getfield 66, 3) := by decide +kernel
theorem d_R_addToken_11 : decode y_R_addToken.2.1 11 = .ok (.sipush 400, 3) := by decide +kernel
theorem d_R_addToken_14 : decode y_R_addToken.2.1 14 = .ok (.if_icmp .gt 43, 3) := by decide +kernel
theorem d_R_addToken_17 : decode y_R_addToken.2.1 17 = .ok (.aload_n 0, 1) := by decide +kernel
theorem d_R_addToken_18 : decode y_R_addToken.2.1 18 = .ok (.getfield 15, 3) := by decide +kernel
theorem fl_R_15 : FL "SinglesUp$Reader" 15 7 2 := ⟨"SinglesUp$Reader", zT7, 13, rfl, by decide, rfl, Or.inl (tw_in 319 (by decide +kernel) rfl)⟩
theorem rc_144_2 : RC 144 2 = some 146 := by decide +kernel
theorem d_R_addToken_21 : decode y_R_addToken.2.1 21 = .ok (.aload_n 0, 1) := by decide +kernel
theorem d_R_addToken_22 : decode y_R_addToken.2.1 22 = .ok (.getfield 66, 3) := by decide +kernel
theorem d_R_addToken_25 : decode y_R_addToken.2.1 25 = .ok (.iload_n 1, 1) := by decide +kernel
theorem d_R_addToken_26 : decode y_R_addToken.2.1 26 = .ok (.iastore, 1) := by decide +kernel
theorem kc_146 : KC[146]? = some (0, 401) := by decide +kernel
theorem d_R_addToken_27 : decode y_R_addToken.2.1 27 = .ok (.aload_n 0, 1) := by decide +kernel
theorem d_R_addToken_28 : decode y_R_addToken.2.1 28 = .ok (.getfield 18, 3) := by decide +kernel
theorem fl_R_18 : FL "SinglesUp$Reader" 18 7 3 := ⟨"SinglesUp$Reader", zT7, 13, rfl, by decide, rfl, Or.inl (tw_in 320 (by decide +kernel) rfl)⟩
theorem rc_144_3 : RC 144 3 = some 147 := by decide +kernel
theorem d_R_addToken_31 : decode y_R_addToken.2.1 31 = .ok (.aload_n 0, 1) := by decide +kernel
theorem d_R_addToken_32 : decode y_R_addToken.2.1 32 = .ok (.getfield 66, 3) := by decide +kernel
theorem d_R_addToken_35 : decode y_R_addToken.2.1 35 = .ok (.iload_n 2, 1) := by decide +kernel
theorem d_R_addToken_36 : decode y_R_addToken.2.1 36 = .ok (.iastore, 1) := by decide +kernel
theorem kc_147 : KC[147]? = some (0, 401) := by decide +kernel
theorem d_R_addToken_37 : decode y_R_addToken.2.1 37 = .ok (.aload_n 0, 1) := by decide +kernel
theorem d_R_addToken_38 : decode y_R_addToken.2.1 38 = .ok (.getfield 21, 3) := by decide +kernel
theorem fl_R_21 : FL "SinglesUp$Reader" 21 7 4 := ⟨"SinglesUp$Reader", zT7, 13, rfl, by decide, rfl, Or.inl (tw_in 321 (by decide +kernel) rfl)⟩
theorem rc_144_4 : RC 144 4 = some 148 := by decide +kernel
theorem d_R_addToken_41 : decode y_R_addToken.2.1 41 = .ok (.aload_n 0, 1) := by decide +kernel
theorem d_R_addToken_42 : decode y_R_addToken.2.1 42 = .ok (.getfield 66, 3) := by decide +kernel
theorem d_R_addToken_45 : decode y_R_addToken.2.1 45 = .ok (.iload_n 3, 1) := by decide +kernel
theorem d_R_addToken_46 : decode y_R_addToken.2.1 46 = .ok (.iastore, 1) := by decide +kernel
theorem kc_148 : KC[148]? = some (0, 401) := by decide +kernel
theorem d_R_addToken_47 : decode y_R_addToken.2.1 47 = .ok (.aload_n 0, 1) := by decide +kernel
theorem d_R_addToken_48 : decode y_R_addToken.2.1 48 = .ok (.dup, 1) := by decide +kernel
theorem d_R_addToken_49 : decode y_R_addToken.2.1 49 = .ok (.getfield 66, 3) := by decide +kernel
theorem d_R_addToken_52 : decode y_R_addToken.2.1 52 = .ok (.iconst 1, 1) := by decide +kernel
theorem d_R_addToken_53 : decode y_R_addToken.2.1 53 = .ok (.iadd, 1) := by decide +kernel
theorem d_R_addToken_54 : decode y_R_addToken.2.1 54 = .ok (.putfield 66, 3) := by decide +kernel
theorem d_R_addToken_57 : decode y_R_addToken.2.1 57 = .ok (.return_, 1) := by decide +kernel
theorem d_R_scan_205 : decode y_R_scan.2.1 205 = .ok (.return_, 1) := by decide +kernel
theorem d_R_understand_4 : decode y_R_understand.2.1 4 = .ok (.aload_n 0, 1) := by decide +kernel
theorem d_R_understand_5 : decode y_R_understand.2.1 5 = .ok (.invokevirtual 44, 3) := by decide +kernel
theorem lk_R_44 : LkV "SinglesUp$Reader" 44 y_R_forget := ⟨tw_in 523 (by decide +kernel) rfl, tw_in 524 (by decide +kernel) rfl, Or.inl (tw_in 662 (by decide +kernel) rfl)⟩
theorem d_R_understand_8 : decode y_R_understand.2.1 8 = .ok (.aload_n 0, 1) := by decide +kernel
theorem d_R_understand_9 : decode y_R_understand.2.1 9 = .ok (.iload_n 1, 1) := by decide +kernel
theorem d_R_understand_10 : decode y_R_understand.2.1 10 = .ok (.putfield 47, 3) := by decide +kernel
theorem fl_R_47 : FL "SinglesUp$Reader" 47 7 9 := ⟨"SinglesUp$Reader", zT7, 13, rfl, by decide, rfl, Or.inl (tw_in 326 (by decide +kernel) rfl)⟩
theorem d_R_understand_13 : decode y_R_understand.2.1 13 = .ok (.aload_n 0, 1) := by decide +kernel
theorem d_R_understand_14 : decode y_R_understand.2.1 14 = .ok (.getfield 31, 3) := by decide +kernel
theorem fl_R_31 : FL "SinglesUp$Reader" 31 7 12 := ⟨"SinglesUp$Reader", zT7, 13, rfl, by decide, rfl, Or.inl (tw_in 331 (by decide +kernel) rfl)⟩
theorem rc_144_12 : RC 144 12 = some 149 := by decide +kernel
theorem d_R_understand_17 : decode y_R_understand.2.1 17 = .ok (.invokevirtual 51, 3) := by decide +kernel
abbrev y_W_clear : MI := (⟨"SinglesUp$Law", "clear", "()V"⟩, prog_5_method_2_code, 1, none)
theorem lk_R_51 : LkV "SinglesUp$Reader" 51 y_W_clear := ⟨tw_in 664 (by decide +kernel) rfl, tw_in 665 (by decide +kernel) rfl, Or.inl (tw_in 663 (by decide +kernel) rfl)⟩
theorem mo_W_clear : MOk y_W_clear 0 := ⟨by decide +kernel, tw_in 666 (by decide +kernel) rfl, tw_in 101 (by decide +kernel) rfl, by decide +kernel, by decide +kernel, by decide +kernel⟩
theorem kc_149 : KC[149]? = some (6, 6) := by decide +kernel
theorem d_W_clear_0 : decode y_W_clear.2.1 0 = .ok (.aload_n 0, 1) := by decide +kernel
theorem d_W_clear_1 : decode y_W_clear.2.1 1 = .ok (.iconst 0, 1) := by decide +kernel
theorem d_W_clear_2 : decode y_W_clear.2.1 2 = .ok (.putfield 22, 3) := by decide +kernel
theorem fl_W_22 : FL "SinglesUp$Law" 22 3 1 := ⟨"SinglesUp$Law", zT3, 6, rfl, by decide, rfl, Or.inl (tw_in 161 (by decide +kernel) rfl)⟩
theorem d_W_clear_5 : decode y_W_clear.2.1 5 = .ok (.aload_n 0, 1) := by decide +kernel
theorem d_W_clear_6 : decode y_W_clear.2.1 6 = .ok (.iconst 0, 1) := by decide +kernel
theorem d_W_clear_7 : decode y_W_clear.2.1 7 = .ok (.putfield 26, 3) := by decide +kernel
theorem fl_W_26 : FL "SinglesUp$Law" 26 3 4 := ⟨"SinglesUp$Law", zT3, 6, rfl, by decide, rfl, Or.inl (tw_in 164 (by decide +kernel) rfl)⟩
theorem d_W_clear_10 : decode y_W_clear.2.1 10 = .ok (.return_, 1) := by decide +kernel
theorem d_R_understand_20 : decode y_R_understand.2.1 20 = .ok (.aload_n 0, 1) := by decide +kernel
theorem d_R_understand_21 : decode y_R_understand.2.1 21 = .ok (.iconst (-1), 1) := by decide +kernel
theorem d_R_understand_22 : decode y_R_understand.2.1 22 = .ok (.putfield 54, 3) := by decide +kernel
theorem fl_R_54 : FL "SinglesUp$Reader" 54 7 6 := ⟨"SinglesUp$Reader", zT7, 13, rfl, by decide, rfl, Or.inl (tw_in 323 (by decide +kernel) rfl)⟩
theorem d_R_understand_25 : decode y_R_understand.2.1 25 = .ok (.aload_n 0, 1) := by decide +kernel
theorem d_R_understand_26 : decode y_R_understand.2.1 26 = .ok (.invokevirtual 57, 3) := by decide +kernel
abbrev y_R_advance : MI := (⟨"SinglesUp$Reader", "advance", "()V"⟩, prog_9_method_13_code, 2, none)
theorem lk_R_57 : LkV "SinglesUp$Reader" 57 y_R_advance := ⟨tw_in 669 (by decide +kernel) rfl, tw_in 6 (by decide +kernel) rfl, Or.inl (tw_in 667 (by decide +kernel) rfl)⟩
theorem mo_R_advance : MOk y_R_advance 0 := ⟨by decide +kernel, tw_in 670 (by decide +kernel) rfl, tw_in 104 (by decide +kernel) rfl, by decide +kernel, by decide +kernel, by decide +kernel⟩
theorem d_R_advance_0 : decode y_R_advance.2.1 0 = .ok (.aload_n 0, 1) := by decide +kernel
theorem d_R_advance_1 : decode y_R_advance.2.1 1 = .ok (.getfield 54, 3) := by decide +kernel
theorem d_R_advance_4 : decode y_R_advance.2.1 4 = .ok (.iconst 1, 1) := by decide +kernel
theorem d_R_advance_5 : decode y_R_advance.2.1 5 = .ok (.iadd, 1) := by decide +kernel
theorem d_R_advance_6 : decode y_R_advance.2.1 6 = .ok (.istore_n 1, 1) := by decide +kernel
theorem d_R_advance_7 : decode y_R_advance.2.1 7 = .ok (.aload_n 0, 1) := by decide +kernel
theorem d_R_advance_8 : decode y_R_advance.2.1 8 = .ok (.getfield 38, 3) := by decide +kernel
theorem d_R_advance_11 : decode y_R_advance.2.1 11 = .ok (.ifCond .ne 47, 3) := by decide +kernel
theorem d_R_advance_14 : decode y_R_advance.2.1 14 = .ok (.iload_n 1, 1) := by decide +kernel
theorem d_R_advance_15 : decode y_R_advance.2.1 15 = .ok (.ifCond .lt 43, 3) := by decide +kernel
theorem d_R_advance_18 : decode y_R_advance.2.1 18 = .ok (.iload_n 1, 1) := by decide +kernel
theorem d_R_advance_19 : decode y_R_advance.2.1 19 = .ok (.sipush 400, 3) := by decide +kernel
theorem d_R_advance_22 : decode y_R_advance.2.1 22 = .ok (.if_icmp .gt 36, 3) := by decide +kernel
theorem d_R_advance_25 : decode y_R_advance.2.1 25 = .ok (.iload_n 1, 1) := by decide +kernel
theorem d_R_advance_26 : decode y_R_advance.2.1 26 = .ok (.aload_n 0, 1) := by decide +kernel
theorem d_R_advance_27 : decode y_R_advance.2.1 27 = .ok (.getfield 66, 3) := by decide +kernel
theorem d_R_advance_30 : decode y_R_advance.2.1 30 = .ok (.if_icmp .ge 28, 3) := by decide +kernel
theorem d_R_advance_33 : decode y_R_advance.2.1 33 = .ok (.aload_n 0, 1) := by decide +kernel
theorem d_R_advance_34 : decode y_R_advance.2.1 34 = .ok (.iload_n 1, 1) := by decide +kernel
theorem d_R_advance_35 : decode y_R_advance.2.1 35 = .ok (.putfield 54, 3) := by decide +kernel
theorem d_R_advance_38 : decode y_R_advance.2.1 38 = .ok (.aload_n 0, 1) := by decide +kernel
theorem d_R_advance_39 : decode y_R_advance.2.1 39 = .ok (.aload_n 0, 1) := by decide +kernel
theorem d_R_advance_40 : decode y_R_advance.2.1 40 = .ok (.getfield 15, 3) := by decide +kernel
theorem d_R_advance_43 : decode y_R_advance.2.1 43 = .ok (.iload_n 1, 1) := by decide +kernel
theorem d_R_advance_44 : decode y_R_advance.2.1 44 = .ok (.iaload, 1) := by decide +kernel
theorem d_R_advance_45 : decode y_R_advance.2.1 45 = .ok (.putfield 60, 3) := by decide +kernel
theorem fl_R_60 : FL "SinglesUp$Reader" 60 7 7 := ⟨"SinglesUp$Reader", zT7, 13, rfl, by decide, rfl, Or.inl (tw_in 324 (by decide +kernel) rfl)⟩
theorem d_R_advance_48 : decode y_R_advance.2.1 48 = .ok (.aload_n 0, 1) := by decide +kernel
theorem d_R_advance_49 : decode y_R_advance.2.1 49 = .ok (.aload_n 0, 1) := by decide +kernel
theorem d_R_advance_50 : decode y_R_advance.2.1 50 = .ok (.getfield 21, 3) := by decide +kernel
theorem d_R_advance_53 : decode y_R_advance.2.1 53 = .ok (.iload_n 1, 1) := by decide +kernel
theorem d_R_advance_54 : decode y_R_advance.2.1 54 = .ok (.iaload, 1) := by decide +kernel
theorem d_R_advance_55 : decode y_R_advance.2.1 55 = .ok (.putfield 109, 3) := by decide +kernel
theorem fl_R_109 : FL "SinglesUp$Reader" 109 7 8 := ⟨"SinglesUp$Reader", zT7, 13, rfl, by decide, rfl, Or.inl (tw_in 325 (by decide +kernel) rfl)⟩
theorem d_R_advance_58 : decode y_R_advance.2.1 58 = .ok (.return_, 1) := by decide +kernel
theorem d_R_understand_29 : decode y_R_understand.2.1 29 = .ok (.iconst 0, 1) := by decide +kernel
theorem d_R_understand_30 : decode y_R_understand.2.1 30 = .ok (.istore_n 2, 1) := by decide +kernel
theorem d_R_understand_31 : decode y_R_understand.2.1 31 = .ok (.iload_n 2, 1) := by decide +kernel
theorem d_R_understand_32 : decode y_R_understand.2.1 32 = .ok (.sipush 400, 3) := by decide +kernel
theorem d_R_understand_35 : decode y_R_understand.2.1 35 = .ok (.if_icmp .ge 29, 3) := by decide +kernel
theorem d_R_understand_38 : decode y_R_understand.2.1 38 = .ok (.aload_n 0, 1) := by decide +kernel
theorem d_R_understand_39 : decode y_R_understand.2.1 39 = .ok (.getfield 38, 3) := by decide +kernel
theorem d_R_understand_42 : decode y_R_understand.2.1 42 = .ok (.ifCond .ne 22, 3) := by decide +kernel
theorem d_R_understand_45 : decode y_R_understand.2.1 45 = .ok (.aload_n 0, 1) := by decide +kernel
theorem d_R_understand_46 : decode y_R_understand.2.1 46 = .ok (.getfield 60, 3) := by decide +kernel
theorem d_R_understand_49 : decode y_R_understand.2.1 49 = .ok (.bipush 17, 2) := by decide +kernel
theorem d_R_understand_51 : decode y_R_understand.2.1 51 = .ok (.if_icmp .eq 13, 3) := by decide +kernel
theorem d_R_understand_64 : decode y_R_understand.2.1 64 = .ok (.aload_n 0, 1) := by decide +kernel
theorem d_R_understand_65 : decode y_R_understand.2.1 65 = .ok (.getfield 38, 3) := by decide +kernel
theorem d_R_understand_68 : decode y_R_understand.2.1 68 = .ok (.ifCond .ne 7, 3) := by decide +kernel
theorem d_R_understand_71 : decode y_R_understand.2.1 71 = .ok (.iconst 1, 1) := by decide +kernel
theorem d_R_understand_72 : decode y_R_understand.2.1 72 = .ok (.goto 4, 3) := by decide +kernel
theorem d_R_understand_76 : decode y_R_understand.2.1 76 = .ok (.ireturn, 1) := by decide +kernel
theorem d_S_text_35 : decode y_S_text.2.1 35 = .ok (.ifCond .ne 5, 3) := by decide +kernel
theorem d_S_text_40 : decode y_S_text.2.1 40 = .ok (.aload_n 0, 1) := by decide +kernel
theorem d_S_text_41 : decode y_S_text.2.1 41 = .ok (.getfield 12, 3) := by decide +kernel
theorem d_S_text_44 : decode y_S_text.2.1 44 = .ok (.getfield 117, 3) := by decide +kernel
theorem fl_S_117 : FL "SinglesUp" 117 2 1 := ⟨"SinglesUp$Hill", zT2, 14, rfl, by decide, rfl, Or.inr ⟨"SinglesUp", nw_in 90 (by decide +kernel) rfl⟩⟩
theorem d_S_text_47 : decode y_S_text.2.1 47 = .ok (.iload_n 1, 1) := by decide +kernel
theorem d_S_text_48 : decode y_S_text.2.1 48 = .ok (.aaload, 1) := by decide +kernel
theorem d_S_text_49 : decode y_S_text.2.1 49 = .ok (.aload_n 0, 1) := by decide +kernel
theorem d_S_text_50 : decode y_S_text.2.1 50 = .ok (.getfield 39, 3) := by decide +kernel
theorem d_S_text_53 : decode y_S_text.2.1 53 = .ok (.getfield 121, 3) := by decide +kernel
theorem fl_S_121 : FL "SinglesUp" 121 7 12 := ⟨"SinglesUp$Reader", zT7, 13, rfl, by decide, rfl, Or.inr ⟨"SinglesUp", nw_in 236 (by decide +kernel) rfl⟩⟩
theorem d_S_text_56 : decode y_S_text.2.1 56 = .ok (.invokevirtual 125, 3) := by decide +kernel
abbrev y_W_copyFrom : MI := (⟨"SinglesUp$Law", "copyFrom", "(LSinglesUp$Law;)V"⟩, prog_5_method_7_code, 2, none)
theorem lk_S_125 : LkV "SinglesUp" 125 y_W_copyFrom := ⟨tw_in 724 (by decide +kernel) rfl, tw_in 725 (by decide +kernel) rfl, Or.inl (tw_in 723 (by decide +kernel) rfl)⟩
theorem mo_W_copyFrom : MOk y_W_copyFrom 1 := ⟨by decide +kernel, tw_in 726 (by decide +kernel) rfl, tw_in 101 (by decide +kernel) rfl, by decide +kernel, by decide +kernel, by decide +kernel⟩
theorem kc_16 : KC[16]? = some (6, 6) := by decide +kernel
theorem d_W_copyFrom_0 : decode y_W_copyFrom.2.1 0 = .ok (.aload_n 0, 1) := by decide +kernel
theorem d_W_copyFrom_1 : decode y_W_copyFrom.2.1 1 = .ok (.aload_n 1, 1) := by decide +kernel
theorem d_W_copyFrom_2 : decode y_W_copyFrom.2.1 2 = .ok (.getfield 22, 3) := by decide +kernel
theorem d_W_copyFrom_5 : decode y_W_copyFrom.2.1 5 = .ok (.putfield 22, 3) := by decide +kernel
theorem d_W_copyFrom_8 : decode y_W_copyFrom.2.1 8 = .ok (.aload_n 0, 1) := by decide +kernel
theorem d_W_copyFrom_9 : decode y_W_copyFrom.2.1 9 = .ok (.aload_n 1, 1) := by decide +kernel
theorem d_W_copyFrom_10 : decode y_W_copyFrom.2.1 10 = .ok (.getfield 26, 3) := by decide +kernel
theorem d_W_copyFrom_13 : decode y_W_copyFrom.2.1 13 = .ok (.putfield 26, 3) := by decide +kernel
theorem d_W_copyFrom_16 : decode y_W_copyFrom.2.1 16 = .ok (.aload_n 1, 1) := by decide +kernel
theorem d_W_copyFrom_17 : decode y_W_copyFrom.2.1 17 = .ok (.getfield 9, 3) := by decide +kernel
theorem fl_W_9 : FL "SinglesUp$Law" 9 3 0 := ⟨"SinglesUp$Law", zT3, 6, rfl, by decide, rfl, Or.inl (tw_in 160 (by decide +kernel) rfl)⟩
theorem rc_149_0 : RC 149 0 = some 150 := by decide +kernel
theorem d_W_copyFrom_20 : decode y_W_copyFrom.2.1 20 = .ok (.iconst 0, 1) := by decide +kernel
theorem d_W_copyFrom_21 : decode y_W_copyFrom.2.1 21 = .ok (.aload_n 0, 1) := by decide +kernel
theorem d_W_copyFrom_22 : decode y_W_copyFrom.2.1 22 = .ok (.getfield 9, 3) := by decide +kernel
theorem rc_16_0 : RC 16 0 = some 17 := by decide +kernel
theorem d_W_copyFrom_25 : decode y_W_copyFrom.2.1 25 = .ok (.iconst 0, 1) := by decide +kernel
theorem d_W_copyFrom_26 : decode y_W_copyFrom.2.1 26 = .ok (.sipush 400, 3) := by decide +kernel
theorem d_W_copyFrom_29 : decode y_W_copyFrom.2.1 29 = .ok (.invokestatic 29, 3) := by decide +kernel
theorem lka_W_29 : Cond.methodLink "SinglesUp$Law" 29 arraycopyName ∈ TW := tw_in 727 (by decide +kernel) rfl
theorem ac_nat : Cond.native arraycopyName ∈ TW := tw_in 405 (by decide +kernel) rfl
theorem ac_sta : Cond.static arraycopyName ∈ TW := tw_in 404 (by decide +kernel) rfl
theorem ac_ini : Cond.initialized "java/lang/System" ∈ TW := tw_in 107 (by decide +kernel) rfl
theorem kc_150 : KC[150]? = some (0, 400) := by decide +kernel
theorem kc_17 : KC[17]? = some (0, 400) := by decide +kernel
theorem d_W_copyFrom_32 : decode y_W_copyFrom.2.1 32 = .ok (.aload_n 1, 1) := by decide +kernel
theorem d_W_copyFrom_33 : decode y_W_copyFrom.2.1 33 = .ok (.getfield 13, 3) := by decide +kernel
theorem fl_W_13 : FL "SinglesUp$Law" 13 3 2 := ⟨"SinglesUp$Law", zT3, 6, rfl, by decide, rfl, Or.inl (tw_in 162 (by decide +kernel) rfl)⟩
theorem rc_149_2 : RC 149 2 = some 151 := by decide +kernel
theorem d_W_copyFrom_36 : decode y_W_copyFrom.2.1 36 = .ok (.iconst 0, 1) := by decide +kernel
theorem d_W_copyFrom_37 : decode y_W_copyFrom.2.1 37 = .ok (.aload_n 0, 1) := by decide +kernel
theorem d_W_copyFrom_38 : decode y_W_copyFrom.2.1 38 = .ok (.getfield 13, 3) := by decide +kernel
theorem rc_16_2 : RC 16 2 = some 18 := by decide +kernel
theorem d_W_copyFrom_41 : decode y_W_copyFrom.2.1 41 = .ok (.iconst 0, 1) := by decide +kernel
theorem d_W_copyFrom_42 : decode y_W_copyFrom.2.1 42 = .ok (.bipush 17, 2) := by decide +kernel
theorem d_W_copyFrom_44 : decode y_W_copyFrom.2.1 44 = .ok (.invokestatic 29, 3) := by decide +kernel
theorem kc_151 : KC[151]? = some (0, 17) := by decide +kernel
theorem kc_18 : KC[18]? = some (0, 17) := by decide +kernel
theorem d_W_copyFrom_47 : decode y_W_copyFrom.2.1 47 = .ok (.aload_n 1, 1) := by decide +kernel
theorem d_W_copyFrom_48 : decode y_W_copyFrom.2.1 48 = .ok (.getfield 16, 3) := by decide +kernel
theorem fl_W_16 : FL "SinglesUp$Law" 16 3 3 := ⟨"SinglesUp$Law", zT3, 6, rfl, by decide, rfl, Or.inl (tw_in 163 (by decide +kernel) rfl)⟩
theorem rc_149_3 : RC 149 3 = some 152 := by decide +kernel
theorem d_W_copyFrom_51 : decode y_W_copyFrom.2.1 51 = .ok (.iconst 0, 1) := by decide +kernel
theorem d_W_copyFrom_52 : decode y_W_copyFrom.2.1 52 = .ok (.aload_n 0, 1) := by decide +kernel
theorem d_W_copyFrom_53 : decode y_W_copyFrom.2.1 53 = .ok (.getfield 16, 3) := by decide +kernel
theorem rc_16_3 : RC 16 3 = some 19 := by decide +kernel
theorem d_W_copyFrom_56 : decode y_W_copyFrom.2.1 56 = .ok (.iconst 0, 1) := by decide +kernel
theorem d_W_copyFrom_57 : decode y_W_copyFrom.2.1 57 = .ok (.bipush 16, 2) := by decide +kernel
theorem cb_16 : (Int8.ofInt 16).toInt32 = nI 16 := by decide +kernel
theorem d_W_copyFrom_59 : decode y_W_copyFrom.2.1 59 = .ok (.invokestatic 29, 3) := by decide +kernel
theorem kc_152 : KC[152]? = some (0, 16) := by decide +kernel
theorem kc_19 : KC[19]? = some (0, 16) := by decide +kernel
theorem d_W_copyFrom_62 : decode y_W_copyFrom.2.1 62 = .ok (.return_, 1) := by decide +kernel
theorem d_S_text_59 : decode y_S_text.2.1 59 = .ok (.aload_n 0, 1) := by decide +kernel
theorem d_S_text_60 : decode y_S_text.2.1 60 = .ok (.getfield 39, 3) := by decide +kernel
theorem d_S_text_63 : decode y_S_text.2.1 63 = .ok (.getfield 121, 3) := by decide +kernel
theorem d_S_text_66 : decode y_S_text.2.1 66 = .ok (.getfield 131, 3) := by decide +kernel
theorem fl_S_131 : FL "SinglesUp" 131 3 4 := ⟨"SinglesUp$Law", zT3, 6, rfl, by decide, rfl, Or.inr ⟨"SinglesUp", nw_in 69 (by decide +kernel) rfl⟩⟩
theorem d_S_text_69 : decode y_S_text.2.1 69 = .ok (.ireturn, 1) := by decide +kernel
theorem kc_21 : KC[21]? = some (6, 6) := by decide +kernel
theorem rc_21_0 : RC 21 0 = some 22 := by decide +kernel
theorem kc_22 : KC[22]? = some (0, 400) := by decide +kernel
theorem rc_21_2 : RC 21 2 = some 23 := by decide +kernel
theorem kc_23 : KC[23]? = some (0, 17) := by decide +kernel
theorem rc_21_3 : RC 21 3 = some 24 := by decide +kernel
theorem kc_24 : KC[24]? = some (0, 16) := by decide +kernel
theorem kc_26 : KC[26]? = some (6, 6) := by decide +kernel
theorem rc_26_0 : RC 26 0 = some 27 := by decide +kernel
theorem kc_27 : KC[27]? = some (0, 400) := by decide +kernel
theorem rc_26_2 : RC 26 2 = some 28 := by decide +kernel
theorem kc_28 : KC[28]? = some (0, 17) := by decide +kernel
theorem rc_26_3 : RC 26 3 = some 29 := by decide +kernel
theorem kc_29 : KC[29]? = some (0, 16) := by decide +kernel
theorem kc_31 : KC[31]? = some (6, 6) := by decide +kernel
theorem rc_31_0 : RC 31 0 = some 32 := by decide +kernel
theorem kc_32 : KC[32]? = some (0, 400) := by decide +kernel
theorem rc_31_2 : RC 31 2 = some 33 := by decide +kernel
theorem kc_33 : KC[33]? = some (0, 17) := by decide +kernel
theorem rc_31_3 : RC 31 3 = some 34 := by decide +kernel
theorem kc_34 : KC[34]? = some (0, 16) := by decide +kernel
theorem d_S_text_27 : decode y_S_text.2.1 27 = .ok (.iconst 1, 1) := by decide +kernel
theorem d_S_text_28 : decode y_S_text.2.1 28 = .ok (.goto 4, 3) := by decide +kernel
theorem rc_3_4 : RC 3 4 = some 36 := by decide +kernel
theorem kc_36 : KC[36]? = some (6, 6) := by decide +kernel
theorem rc_36_0 : RC 36 0 = some 37 := by decide +kernel
theorem kc_37 : KC[37]? = some (0, 400) := by decide +kernel
theorem rc_36_2 : RC 36 2 = some 38 := by decide +kernel
theorem kc_38 : KC[38]? = some (0, 17) := by decide +kernel
theorem rc_36_3 : RC 36 3 = some 39 := by decide +kernel
theorem kc_39 : KC[39]? = some (0, 16) := by decide +kernel
abbrev y_S_fault : MI := (⟨"SinglesUp", "fault", "(I)I"⟩, prog_1_method_10_code, 2, some .int)
theorem d_S_fault_0 : decode y_S_fault.2.1 0 = .ok (.iload_n 1, 1) := by decide +kernel
theorem d_S_fault_1 : decode y_S_fault.2.1 1 = .ok (.ifCond .ne 11, 3) := by decide +kernel
theorem d_S_fault_12 : decode y_S_fault.2.1 12 = .ok (.iload_n 1, 1) := by decide +kernel
theorem d_S_fault_13 : decode y_S_fault.2.1 13 = .ok (.iconst 1, 1) := by decide +kernel
theorem d_S_fault_14 : decode y_S_fault.2.1 14 = .ok (.if_icmp .ne 13, 3) := by decide +kernel
theorem d_S_fault_27 : decode y_S_fault.2.1 27 = .ok (.iconst (-1), 1) := by decide +kernel
theorem d_S_fault_28 : decode y_S_fault.2.1 28 = .ok (.ireturn, 1) := by decide +kernel
theorem d_S_fault_17 : decode y_S_fault.2.1 17 = .ok (.aload_n 0, 1) := by decide +kernel
theorem d_S_fault_18 : decode y_S_fault.2.1 18 = .ok (.getfield 39, 3) := by decide +kernel
theorem d_S_fault_21 : decode y_S_fault.2.1 21 = .ok (.getfield 136, 3) := by decide +kernel
theorem fl_S_136 : FL "SinglesUp" 136 7 11 := ⟨"SinglesUp$Reader", zT7, 13, rfl, by decide, rfl, Or.inr ⟨"SinglesUp", nw_in 234 (by decide +kernel) rfl⟩⟩
theorem d_S_fault_24 : decode y_S_fault.2.1 24 = .ok (.goto 4, 3) := by decide +kernel
theorem d_S_fault_4 : decode y_S_fault.2.1 4 = .ok (.aload_n 0, 1) := by decide +kernel
theorem d_S_fault_5 : decode y_S_fault.2.1 5 = .ok (.getfield 39, 3) := by decide +kernel
theorem d_S_fault_8 : decode y_S_fault.2.1 8 = .ok (.getfield 133, 3) := by decide +kernel
theorem fl_S_133 : FL "SinglesUp" 133 7 10 := ⟨"SinglesUp$Reader", zT7, 13, rfl, by decide, rfl, Or.inr ⟨"SinglesUp", nw_in 232 (by decide +kernel) rfl⟩⟩
theorem d_S_fault_11 : decode y_S_fault.2.1 11 = .ok (.ireturn, 1) := by decide +kernel
abbrev y_S_come : MI := (⟨"SinglesUp", "come", "(III)I"⟩, prog_1_method_11_code, 4, some .int)
theorem d_S_come_0 : decode y_S_come.2.1 0 = .ok (.iload_n 1, 1) := by decide +kernel
theorem d_S_come_1 : decode y_S_come.2.1 1 = .ok (.iload_n 2, 1) := by decide +kernel
theorem d_S_come_2 : decode y_S_come.2.1 2 = .ok (.iload_n 3, 1) := by decide +kernel
theorem d_S_come_3 : decode y_S_come.2.1 3 = .ok (.invokestatic 89, 3) := by decide +kernel
theorem d_S_come_6 : decode y_S_come.2.1 6 = .ok (.ifCond .eq 16, 3) := by decide +kernel
theorem d_S_come_9 : decode y_S_come.2.1 9 = .ok (.aload_n 0, 1) := by decide +kernel
theorem d_S_come_10 : decode y_S_come.2.1 10 = .ok (.getfield 12, 3) := by decide +kernel
theorem d_S_come_13 : decode y_S_come.2.1 13 = .ok (.iload_n 1, 1) := by decide +kernel
theorem d_S_come_14 : decode y_S_come.2.1 14 = .ok (.iload_n 2, 1) := by decide +kernel
theorem d_S_come_15 : decode y_S_come.2.1 15 = .ok (.iload_n 3, 1) := by decide +kernel
theorem d_S_come_16 : decode y_S_come.2.1 16 = .ok (.invokevirtual 139, 3) := by decide +kernel
abbrev y_H_enter : MI := (⟨"SinglesUp$Hill", "enter", "(III)I"⟩, prog_4_method_6_code, 5, some .int)
theorem lk_S_139 : LkV "SinglesUp" 139 y_H_enter := ⟨tw_in 738 (by decide +kernel) rfl, tw_in 739 (by decide +kernel) rfl, Or.inl (tw_in 737 (by decide +kernel) rfl)⟩
theorem mo_H_enter : MOk y_H_enter 3 := ⟨by decide +kernel, tw_in 740 (by decide +kernel) rfl, tw_in 98 (by decide +kernel) rfl, by decide +kernel, by decide +kernel, by decide +kernel⟩
theorem d_H_enter_0 : decode y_H_enter.2.1 0 = .ok (.aload_n 0, 1) := by decide +kernel
theorem d_H_enter_1 : decode y_H_enter.2.1 1 = .ok (.getfield 53, 3) := by decide +kernel
theorem fl_H_53 : FL "SinglesUp$Hill" 53 2 13 := ⟨"SinglesUp$Hill", zT2, 14, rfl, by decide, rfl, Or.inl (tw_in 214 (by decide +kernel) rfl)⟩
theorem rc_1_13 : RC 1 13 = some 15 := by decide +kernel
theorem d_H_enter_4 : decode y_H_enter.2.1 4 = .ok (.iconst 0, 1) := by decide +kernel
theorem d_H_enter_5 : decode y_H_enter.2.1 5 = .ok (.aload_n 0, 1) := by decide +kernel
theorem d_H_enter_6 : decode y_H_enter.2.1 6 = .ok (.getfield 73, 3) := by decide +kernel
theorem fl_H_73 : FL "SinglesUp$Hill" 73 2 7 := ⟨"SinglesUp$Hill", zT2, 14, rfl, by decide, rfl, Or.inl (tw_in 200 (by decide +kernel) rfl)⟩
theorem d_H_enter_9 : decode y_H_enter.2.1 9 = .ok (.iastore, 1) := by decide +kernel
theorem kc_15 : KC[15]? = some (0, 6) := by decide +kernel
theorem d_H_enter_10 : decode y_H_enter.2.1 10 = .ok (.aload_n 0, 1) := by decide +kernel
theorem d_H_enter_11 : decode y_H_enter.2.1 11 = .ok (.getfield 53, 3) := by decide +kernel
theorem d_H_enter_14 : decode y_H_enter.2.1 14 = .ok (.iconst 1, 1) := by decide +kernel
theorem d_H_enter_15 : decode y_H_enter.2.1 15 = .ok (.iload_n 1, 1) := by decide +kernel
theorem d_H_enter_16 : decode y_H_enter.2.1 16 = .ok (.iastore, 1) := by decide +kernel
theorem d_H_enter_17 : decode y_H_enter.2.1 17 = .ok (.aload_n 0, 1) := by decide +kernel
theorem d_H_enter_18 : decode y_H_enter.2.1 18 = .ok (.getfield 53, 3) := by decide +kernel
theorem d_H_enter_21 : decode y_H_enter.2.1 21 = .ok (.iconst 2, 1) := by decide +kernel
theorem d_H_enter_22 : decode y_H_enter.2.1 22 = .ok (.iload_n 2, 1) := by decide +kernel
theorem d_H_enter_23 : decode y_H_enter.2.1 23 = .ok (.iastore, 1) := by decide +kernel
theorem d_H_enter_24 : decode y_H_enter.2.1 24 = .ok (.aload_n 0, 1) := by decide +kernel
theorem d_H_enter_25 : decode y_H_enter.2.1 25 = .ok (.getfield 53, 3) := by decide +kernel
theorem d_H_enter_28 : decode y_H_enter.2.1 28 = .ok (.iconst 3, 1) := by decide +kernel
theorem d_H_enter_29 : decode y_H_enter.2.1 29 = .ok (.iload_n 3, 1) := by decide +kernel
theorem d_H_enter_30 : decode y_H_enter.2.1 30 = .ok (.iastore, 1) := by decide +kernel
theorem d_H_enter_31 : decode y_H_enter.2.1 31 = .ok (.aload_n 0, 1) := by decide +kernel
theorem d_H_enter_32 : decode y_H_enter.2.1 32 = .ok (.dup, 1) := by decide +kernel
theorem d_H_enter_33 : decode y_H_enter.2.1 33 = .ok (.getfield 73, 3) := by decide +kernel
theorem d_H_enter_36 : decode y_H_enter.2.1 36 = .ok (.iconst 1, 1) := by decide +kernel
theorem d_H_enter_37 : decode y_H_enter.2.1 37 = .ok (.iadd, 1) := by decide +kernel
theorem d_H_enter_38 : decode y_H_enter.2.1 38 = .ok (.putfield 73, 3) := by decide +kernel
theorem d_H_enter_41 : decode y_H_enter.2.1 41 = .ok (.aload_n 0, 1) := by decide +kernel
theorem d_H_enter_42 : decode y_H_enter.2.1 42 = .ok (.iload_n 2, 1) := by decide +kernel
theorem d_H_enter_43 : decode y_H_enter.2.1 43 = .ok (.iload_n 3, 1) := by decide +kernel
theorem d_H_enter_44 : decode y_H_enter.2.1 44 = .ok (.invokevirtual 86, 3) := by decide +kernel
abbrev y_H_lineFor : MI := (⟨"SinglesUp$Hill", "lineFor", "(II)I"⟩, prog_4_method_7_code, 3, some .int)
theorem lk_H_86 : LkV "SinglesUp$Hill" 86 y_H_lineFor := ⟨tw_in 743 (by decide +kernel) rfl, tw_in 16 (by decide +kernel) rfl, Or.inl (tw_in 741 (by decide +kernel) rfl)⟩
theorem mo_H_lineFor : MOk y_H_lineFor 2 := ⟨by decide +kernel, tw_in 744 (by decide +kernel) rfl, tw_in 98 (by decide +kernel) rfl, by decide +kernel, by decide +kernel, by decide +kernel⟩
theorem d_H_lineFor_0 : decode y_H_lineFor.2.1 0 = .ok (.aload_n 0, 1) := by decide +kernel
theorem d_H_lineFor_1 : decode y_H_lineFor.2.1 1 = .ok (.getfield 46, 3) := by decide +kernel
theorem fl_H_46 : FL "SinglesUp$Hill" 46 2 11 := ⟨"SinglesUp$Hill", zT2, 14, rfl, by decide, rfl, Or.inl (tw_in 209 (by decide +kernel) rfl)⟩
theorem d_H_lineFor_4 : decode y_H_lineFor.2.1 4 = .ok (.iconst (-1), 1) := by decide +kernel
theorem d_H_lineFor_5 : decode y_H_lineFor.2.1 5 = .ok (.if_icmp .eq 23, 3) := by decide +kernel
theorem d_H_lineFor_28 : decode y_H_lineFor.2.1 28 = .ok (.aload_n 0, 1) := by decide +kernel
theorem d_H_lineFor_29 : decode y_H_lineFor.2.1 29 = .ok (.getfield 50, 3) := by decide +kernel
theorem fl_H_50 : FL "SinglesUp$Hill" 50 2 12 := ⟨"SinglesUp$Hill", zT2, 14, rfl, by decide, rfl, Or.inl (tw_in 211 (by decide +kernel) rfl)⟩
theorem rc_1_12 : RC 1 12 = some 14 := by decide +kernel
theorem d_H_lineFor_32 : decode y_H_lineFor.2.1 32 = .ok (.bipush 7, 2) := by decide +kernel
theorem cb_7 : (Int8.ofInt 7).toInt32 = nI 7 := by decide +kernel
theorem d_H_lineFor_34 : decode y_H_lineFor.2.1 34 = .ok (.iload_n 1, 1) := by decide +kernel
theorem d_H_lineFor_35 : decode y_H_lineFor.2.1 35 = .ok (.iastore, 1) := by decide +kernel
theorem kc_14 : KC[14]? = some (0, 16) := by decide +kernel
theorem d_H_lineFor_36 : decode y_H_lineFor.2.1 36 = .ok (.aload_n 0, 1) := by decide +kernel
theorem d_H_lineFor_37 : decode y_H_lineFor.2.1 37 = .ok (.getfield 50, 3) := by decide +kernel
theorem d_H_lineFor_40 : decode y_H_lineFor.2.1 40 = .ok (.bipush 8, 2) := by decide +kernel
theorem d_H_lineFor_42 : decode y_H_lineFor.2.1 42 = .ok (.iload_n 2, 1) := by decide +kernel
theorem d_H_lineFor_43 : decode y_H_lineFor.2.1 43 = .ok (.iastore, 1) := by decide +kernel
theorem d_H_lineFor_44 : decode y_H_lineFor.2.1 44 = .ok (.aload_n 0, 1) := by decide +kernel
theorem d_H_lineFor_45 : decode y_H_lineFor.2.1 45 = .ok (.getfield 50, 3) := by decide +kernel
theorem d_H_lineFor_48 : decode y_H_lineFor.2.1 48 = .ok (.iconst 5, 1) := by decide +kernel
theorem d_H_lineFor_49 : decode y_H_lineFor.2.1 49 = .ok (.aload_n 0, 1) := by decide +kernel
theorem d_H_lineFor_50 : decode y_H_lineFor.2.1 50 = .ok (.getfield 33, 3) := by decide +kernel
theorem fl_H_33 : FL "SinglesUp$Hill" 33 2 5 := ⟨"SinglesUp$Hill", zT2, 14, rfl, by decide, rfl, Or.inl (tw_in 193 (by decide +kernel) rfl)⟩
theorem d_H_lineFor_53 : decode y_H_lineFor.2.1 53 = .ok (.invokevirtual 94, 3) := by decide +kernel
abbrev y_L_shortest : MI := (⟨"SinglesUp$Lines", "shortest", "()I"⟩, prog_6_method_14_code, 3, some .int)
theorem lk_H_94 : LkV "SinglesUp$Hill" 94 y_L_shortest := ⟨tw_in 746 (by decide +kernel) rfl, tw_in 747 (by decide +kernel) rfl, Or.inl (tw_in 745 (by decide +kernel) rfl)⟩
theorem mo_L_shortest : MOk y_L_shortest 0 := ⟨by decide +kernel, tw_in 748 (by decide +kernel) rfl, tw_in 99 (by decide +kernel) rfl, by decide +kernel, by decide +kernel, by decide +kernel⟩
theorem d_L_shortest_0 : decode y_L_shortest.2.1 0 = .ok (.iconst 0, 1) := by decide +kernel
theorem d_L_shortest_1 : decode y_L_shortest.2.1 1 = .ok (.istore_n 1, 1) := by decide +kernel
theorem d_L_shortest_2 : decode y_L_shortest.2.1 2 = .ok (.iconst 1, 1) := by decide +kernel
theorem d_L_shortest_3 : decode y_L_shortest.2.1 3 = .ok (.istore_n 2, 1) := by decide +kernel
theorem d_L_shortest_4 : decode y_L_shortest.2.1 4 = .ok (.iload_n 2, 1) := by decide +kernel
theorem d_L_shortest_5 : decode y_L_shortest.2.1 5 = .ok (.bipush 6, 2) := by decide +kernel
theorem d_L_shortest_7 : decode y_L_shortest.2.1 7 = .ok (.if_icmp .ge 26, 3) := by decide +kernel
theorem d_L_shortest_10 : decode y_L_shortest.2.1 10 = .ok (.aload_n 0, 1) := by decide +kernel
theorem d_L_shortest_11 : decode y_L_shortest.2.1 11 = .ok (.getfield 15, 3) := by decide +kernel
theorem d_L_shortest_14 : decode y_L_shortest.2.1 14 = .ok (.iload_n 2, 1) := by decide +kernel
theorem d_L_shortest_15 : decode y_L_shortest.2.1 15 = .ok (.iaload, 1) := by decide +kernel
theorem d_L_shortest_16 : decode y_L_shortest.2.1 16 = .ok (.aload_n 0, 1) := by decide +kernel
theorem d_L_shortest_17 : decode y_L_shortest.2.1 17 = .ok (.getfield 15, 3) := by decide +kernel
theorem d_L_shortest_20 : decode y_L_shortest.2.1 20 = .ok (.iload_n 1, 1) := by decide +kernel
theorem d_L_shortest_21 : decode y_L_shortest.2.1 21 = .ok (.iaload, 1) := by decide +kernel
theorem d_L_shortest_22 : decode y_L_shortest.2.1 22 = .ok (.if_icmp .ge 5, 3) := by decide +kernel
theorem d_L_shortest_27 : decode y_L_shortest.2.1 27 = .ok (.iinc 2 1, 3) := by decide +kernel
theorem d_L_shortest_30 : decode y_L_shortest.2.1 30 = .ok (.goto (-26), 3) := by decide +kernel
theorem d_L_shortest_33 : decode y_L_shortest.2.1 33 = .ok (.iload_n 1, 1) := by decide +kernel
theorem d_L_shortest_34 : decode y_L_shortest.2.1 34 = .ok (.ireturn, 1) := by decide +kernel
theorem d_H_lineFor_56 : decode y_H_lineFor.2.1 56 = .ok (.iastore, 1) := by decide +kernel
theorem d_H_lineFor_57 : decode y_H_lineFor.2.1 57 = .ok (.aload_n 0, 1) := by decide +kernel
theorem d_H_lineFor_58 : decode y_H_lineFor.2.1 58 = .ok (.getfield 50, 3) := by decide +kernel
theorem d_H_lineFor_61 : decode y_H_lineFor.2.1 61 = .ok (.bipush 6, 2) := by decide +kernel
theorem d_H_lineFor_63 : decode y_H_lineFor.2.1 63 = .ok (.aload_n 0, 1) := by decide +kernel
theorem d_H_lineFor_64 : decode y_H_lineFor.2.1 64 = .ok (.getfield 33, 3) := by decide +kernel
theorem d_H_lineFor_67 : decode y_H_lineFor.2.1 67 = .ok (.getfield 98, 3) := by decide +kernel
theorem fl_H_98 : FL "SinglesUp$Hill" 98 4 1 := ⟨"SinglesUp$Lines", zT4, 3, rfl, by decide, rfl, Or.inr ⟨"SinglesUp", nw_in 47 (by decide +kernel) rfl⟩⟩
theorem d_H_lineFor_70 : decode y_H_lineFor.2.1 70 = .ok (.iconst 0, 1) := by decide +kernel
theorem d_H_lineFor_71 : decode y_H_lineFor.2.1 71 = .ok (.iaload, 1) := by decide +kernel
theorem d_H_lineFor_72 : decode y_H_lineFor.2.1 72 = .ok (.iastore, 1) := by decide +kernel
theorem d_H_lineFor_73 : decode y_H_lineFor.2.1 73 = .ok (.aload_n 0, 1) := by decide +kernel
theorem d_H_lineFor_74 : decode y_H_lineFor.2.1 74 = .ok (.getfield 17, 3) := by decide +kernel
theorem d_H_lineFor_77 : decode y_H_lineFor.2.1 77 = .ok (.iconst 4, 1) := by decide +kernel
theorem d_H_lineFor_78 : decode y_H_lineFor.2.1 78 = .ok (.aaload, 1) := by decide +kernel
theorem d_H_lineFor_79 : decode y_H_lineFor.2.1 79 = .ok (.aload_n 0, 1) := by decide +kernel
theorem d_H_lineFor_80 : decode y_H_lineFor.2.1 80 = .ok (.getfield 50, 3) := by decide +kernel
theorem d_H_lineFor_83 : decode y_H_lineFor.2.1 83 = .ok (.invokevirtual 101, 3) := by decide +kernel
abbrev y_W_value : MI := (⟨"SinglesUp$Law", "value", "([I)I"⟩, prog_5_method_8_code, 5, some .int)
theorem lk_H_101 : LkV "SinglesUp$Hill" 101 y_W_value := ⟨tw_in 750 (by decide +kernel) rfl, tw_in 751 (by decide +kernel) rfl, Or.inl (tw_in 749 (by decide +kernel) rfl)⟩
theorem mo_W_value : MOk y_W_value 1 := ⟨by decide +kernel, tw_in 752 (by decide +kernel) rfl, tw_in 101 (by decide +kernel) rfl, by decide +kernel, by decide +kernel, by decide +kernel⟩
theorem d_W_value_0 : decode y_W_value.2.1 0 = .ok (.iconst 0, 1) := by decide +kernel
theorem d_W_value_1 : decode y_W_value.2.1 1 = .ok (.istore_n 2, 1) := by decide +kernel
theorem d_W_value_2 : decode y_W_value.2.1 2 = .ok (.iload_n 2, 1) := by decide +kernel
theorem d_W_value_3 : decode y_W_value.2.1 3 = .ok (.aload_n 0, 1) := by decide +kernel
theorem d_W_value_4 : decode y_W_value.2.1 4 = .ok (.getfield 26, 3) := by decide +kernel
theorem d_W_value_7 : decode y_W_value.2.1 7 = .ok (.if_icmp .ge 62, 3) := by decide +kernel
theorem d_W_value_69 : decode y_W_value.2.1 69 = .ok (.iconst 0, 1) := by decide +kernel
theorem d_W_value_70 : decode y_W_value.2.1 70 = .ok (.ireturn, 1) := by decide +kernel
theorem d_H_lineFor_86 : decode y_H_lineFor.2.1 86 = .ok (.ireturn, 1) := by decide +kernel
theorem d_H_enter_47 : decode y_H_enter.2.1 47 = .ok (.istore 4, 2) := by decide +kernel
theorem d_H_enter_49 : decode y_H_enter.2.1 49 = .ok (.aload_n 0, 1) := by decide +kernel
theorem d_H_enter_50 : decode y_H_enter.2.1 50 = .ok (.getfield 33, 3) := by decide +kernel
theorem d_H_enter_53 : decode y_H_enter.2.1 53 = .ok (.iload 4, 2) := by decide +kernel
theorem d_H_enter_55 : decode y_H_enter.2.1 55 = .ok (.aload_n 0, 1) := by decide +kernel
theorem d_H_enter_56 : decode y_H_enter.2.1 56 = .ok (.getfield 53, 3) := by decide +kernel
theorem d_H_enter_59 : decode y_H_enter.2.1 59 = .ok (.iconst 0, 1) := by decide +kernel
theorem d_H_enter_60 : decode y_H_enter.2.1 60 = .ok (.invokevirtual 90, 3) := by decide +kernel
abbrev y_L_append : MI := (⟨"SinglesUp$Lines", "append", "(I[II)Z"⟩, prog_6_method_9_code, 5, some .boolean)
theorem lk_H_90 : LkV "SinglesUp$Hill" 90 y_L_append := ⟨tw_in 758 (by decide +kernel) rfl, tw_in 759 (by decide +kernel) rfl, Or.inl (tw_in 757 (by decide +kernel) rfl)⟩
theorem mo_L_append : MOk y_L_append 3 := ⟨by decide +kernel, tw_in 760 (by decide +kernel) rfl, tw_in 99 (by decide +kernel) rfl, by decide +kernel, by decide +kernel, by decide +kernel⟩
theorem d_L_append_0 : decode y_L_append.2.1 0 = .ok (.iload_n 1, 1) := by decide +kernel
theorem d_L_append_1 : decode y_L_append.2.1 1 = .ok (.invokestatic 33, 3) := by decide +kernel
theorem lk_L_33 : LkS "SinglesUp$Lines" 33 y_S_isLine := ⟨tw_in 481 (by decide +kernel) rfl, Or.inr ⟨"SinglesUp", nw_in 665 (by decide +kernel) rfl⟩⟩
theorem d_L_append_4 : decode y_L_append.2.1 4 = .ok (.ifCond .eq 27, 3) := by decide +kernel
theorem d_L_append_7 : decode y_L_append.2.1 7 = .ok (.aload_n 0, 1) := by decide +kernel
theorem d_L_append_8 : decode y_L_append.2.1 8 = .ok (.getfield 15, 3) := by decide +kernel
theorem d_L_append_11 : decode y_L_append.2.1 11 = .ok (.iload_n 1, 1) := by decide +kernel
theorem d_L_append_12 : decode y_L_append.2.1 12 = .ok (.iaload, 1) := by decide +kernel
theorem d_L_append_13 : decode y_L_append.2.1 13 = .ok (.bipush 40, 2) := by decide +kernel
theorem cb_40 : (Int8.ofInt 40).toInt32 = nI 40 := by decide +kernel
theorem d_L_append_15 : decode y_L_append.2.1 15 = .ok (.if_icmp .ge 16, 3) := by decide +kernel
theorem d_L_append_18 : decode y_L_append.2.1 18 = .ok (.iload_n 3, 1) := by decide +kernel
theorem d_L_append_19 : decode y_L_append.2.1 19 = .ok (.ifCond .lt 12, 3) := by decide +kernel
theorem d_L_append_22 : decode y_L_append.2.1 22 = .ok (.iload_n 3, 1) := by decide +kernel
theorem d_L_append_23 : decode y_L_append.2.1 23 = .ok (.aload_n 2, 1) := by decide +kernel
theorem d_L_append_24 : decode y_L_append.2.1 24 = .ok (.arraylength, 1) := by decide +kernel
theorem d_L_append_25 : decode y_L_append.2.1 25 = .ok (.bipush 6, 2) := by decide +kernel
theorem d_L_append_27 : decode y_L_append.2.1 27 = .ok (.isub, 1) := by decide +kernel
theorem d_L_append_28 : decode y_L_append.2.1 28 = .ok (.if_icmp .le 5, 3) := by decide +kernel
theorem d_L_append_33 : decode y_L_append.2.1 33 = .ok (.iload_n 1, 1) := by decide +kernel
theorem d_L_append_34 : decode y_L_append.2.1 34 = .ok (.bipush 40, 2) := by decide +kernel
theorem d_L_append_36 : decode y_L_append.2.1 36 = .ok (.imul, 1) := by decide +kernel
theorem d_L_append_37 : decode y_L_append.2.1 37 = .ok (.aload_n 0, 1) := by decide +kernel
theorem d_L_append_38 : decode y_L_append.2.1 38 = .ok (.getfield 15, 3) := by decide +kernel
theorem d_L_append_41 : decode y_L_append.2.1 41 = .ok (.iload_n 1, 1) := by decide +kernel
theorem d_L_append_42 : decode y_L_append.2.1 42 = .ok (.iaload, 1) := by decide +kernel
theorem d_L_append_43 : decode y_L_append.2.1 43 = .ok (.iadd, 1) := by decide +kernel
theorem d_L_append_44 : decode y_L_append.2.1 44 = .ok (.istore 4, 2) := by decide +kernel
theorem d_L_append_46 : decode y_L_append.2.1 46 = .ok (.aload_n 2, 1) := by decide +kernel
theorem d_L_append_47 : decode y_L_append.2.1 47 = .ok (.iload_n 3, 1) := by decide +kernel
theorem d_L_append_48 : decode y_L_append.2.1 48 = .ok (.aload_n 0, 1) := by decide +kernel
theorem d_L_append_49 : decode y_L_append.2.1 49 = .ok (.getfield 9, 3) := by decide +kernel
theorem fl_L_9 : FL "SinglesUp$Lines" 9 4 0 := ⟨"SinglesUp$Lines", zT4, 3, rfl, by decide, rfl, Or.inl (tw_in 140 (by decide +kernel) rfl)⟩
theorem rc_7_0 : RC 7 0 = some 8 := by decide +kernel
theorem d_L_append_52 : decode y_L_append.2.1 52 = .ok (.iload 4, 2) := by decide +kernel
theorem d_L_append_54 : decode y_L_append.2.1 54 = .ok (.bipush 6, 2) := by decide +kernel
theorem d_L_append_56 : decode y_L_append.2.1 56 = .ok (.imul, 1) := by decide +kernel
theorem d_L_append_57 : decode y_L_append.2.1 57 = .ok (.bipush 6, 2) := by decide +kernel
theorem d_L_append_59 : decode y_L_append.2.1 59 = .ok (.invokestatic 27, 3) := by decide +kernel
theorem lka_L_27 : Cond.methodLink "SinglesUp$Lines" 27 arraycopyName ∈ TW := tw_in 762 (by decide +kernel) rfl
theorem kc_8 : KC[8]? = some (0, 1440) := by decide +kernel
theorem d_L_append_62 : decode y_L_append.2.1 62 = .ok (.aload_n 0, 1) := by decide +kernel
theorem d_L_append_63 : decode y_L_append.2.1 63 = .ok (.getfield 15, 3) := by decide +kernel
theorem d_L_append_66 : decode y_L_append.2.1 66 = .ok (.iload_n 1, 1) := by decide +kernel
theorem d_L_append_67 : decode y_L_append.2.1 67 = .ok (.dup2, 1) := by decide +kernel
theorem d_L_append_68 : decode y_L_append.2.1 68 = .ok (.iaload, 1) := by decide +kernel
theorem d_L_append_69 : decode y_L_append.2.1 69 = .ok (.iconst 1, 1) := by decide +kernel
theorem d_L_append_70 : decode y_L_append.2.1 70 = .ok (.iadd, 1) := by decide +kernel
theorem d_L_append_71 : decode y_L_append.2.1 71 = .ok (.iastore, 1) := by decide +kernel
theorem d_L_append_72 : decode y_L_append.2.1 72 = .ok (.iconst 1, 1) := by decide +kernel
theorem d_L_append_73 : decode y_L_append.2.1 73 = .ok (.ireturn, 1) := by decide +kernel
theorem d_H_enter_63 : decode y_H_enter.2.1 63 = .ok (.ifCond .eq 6, 3) := by decide +kernel
theorem d_H_enter_66 : decode y_H_enter.2.1 66 = .ok (.iload 4, 2) := by decide +kernel
theorem d_H_enter_68 : decode y_H_enter.2.1 68 = .ok (.ireturn, 1) := by decide +kernel
theorem d_S_come_19 : decode y_S_come.2.1 19 = .ok (.goto 5, 3) := by decide +kernel
theorem d_S_come_24 : decode y_S_come.2.1 24 = .ok (.ireturn, 1) := by decide +kernel
theorem d_S_come_22 : decode y_S_come.2.1 22 = .ok (.bipush (-2), 2) := by decide +kernel
abbrev y_S_group : MI := (⟨"SinglesUp", "group", "(III)I"⟩, prog_1_method_12_code, 5, some .int)
theorem d_S_group_0 : decode y_S_group.2.1 0 = .ok (.iload_n 1, 1) := by decide +kernel
theorem d_S_group_1 : decode y_S_group.2.1 1 = .ok (.invokestatic 73, 3) := by decide +kernel
theorem d_S_group_4 : decode y_S_group.2.1 4 = .ok (.ifCond .eq 23, 3) := by decide +kernel
theorem d_S_group_7 : decode y_S_group.2.1 7 = .ok (.iload_n 2, 1) := by decide +kernel
theorem d_S_group_8 : decode y_S_group.2.1 8 = .ok (.ifCond .lt 19, 3) := by decide +kernel
theorem d_S_group_27 : decode y_S_group.2.1 27 = .ok (.ldc 143, 2) := by decide +kernel
theorem lc_S_143 : Cond.constant "SinglesUp" 143 (-1000000) ∈ TW := tw_in 767 (by decide +kernel) rfl
theorem d_S_group_29 : decode y_S_group.2.1 29 = .ok (.ireturn, 1) := by decide +kernel
theorem d_S_group_11 : decode y_S_group.2.1 11 = .ok (.iload_n 2, 1) := by decide +kernel
theorem d_S_group_12 : decode y_S_group.2.1 12 = .ok (.bipush 40, 2) := by decide +kernel
theorem d_S_group_14 : decode y_S_group.2.1 14 = .ok (.if_icmp .ge 13, 3) := by decide +kernel
theorem d_S_group_17 : decode y_S_group.2.1 17 = .ok (.iload_n 3, 1) := by decide +kernel
theorem d_S_group_18 : decode y_S_group.2.1 18 = .ok (.ifCond .lt 9, 3) := by decide +kernel
theorem d_S_group_21 : decode y_S_group.2.1 21 = .ok (.iload_n 3, 1) := by decide +kernel
theorem d_S_group_22 : decode y_S_group.2.1 22 = .ok (.bipush 6, 2) := by decide +kernel
theorem d_S_group_24 : decode y_S_group.2.1 24 = .ok (.if_icmp .le 6, 3) := by decide +kernel
theorem d_S_group_30 : decode y_S_group.2.1 30 = .ok (.aload_n 0, 1) := by decide +kernel
theorem d_S_group_31 : decode y_S_group.2.1 31 = .ok (.getfield 12, 3) := by decide +kernel
theorem d_S_group_34 : decode y_S_group.2.1 34 = .ok (.getfield 77, 3) := by decide +kernel
theorem d_S_group_37 : decode y_S_group.2.1 37 = .ok (.iload_n 1, 1) := by decide +kernel
theorem d_S_group_38 : decode y_S_group.2.1 38 = .ok (.iload_n 2, 1) := by decide +kernel
theorem d_S_group_39 : decode y_S_group.2.1 39 = .ok (.invokevirtual 144, 3) := by decide +kernel
abbrev y_L_has : MI := (⟨"SinglesUp$Lines", "has", "(II)Z"⟩, prog_6_method_3_code, 3, some .boolean)
theorem lk_S_144 : LkV "SinglesUp" 144 y_L_has := ⟨tw_in 769 (by decide +kernel) rfl, tw_in 770 (by decide +kernel) rfl, Or.inl (tw_in 768 (by decide +kernel) rfl)⟩
theorem mo_L_has : MOk y_L_has 2 := ⟨by decide +kernel, tw_in 771 (by decide +kernel) rfl, tw_in 99 (by decide +kernel) rfl, by decide +kernel, by decide +kernel, by decide +kernel⟩
theorem d_L_has_0 : decode y_L_has.2.1 0 = .ok (.iload_n 1, 1) := by decide +kernel
theorem d_L_has_1 : decode y_L_has.2.1 1 = .ok (.invokestatic 33, 3) := by decide +kernel
theorem d_L_has_4 : decode y_L_has.2.1 4 = .ok (.ifCond .eq 21, 3) := by decide +kernel
theorem d_L_has_7 : decode y_L_has.2.1 7 = .ok (.iload_n 2, 1) := by decide +kernel
theorem d_L_has_8 : decode y_L_has.2.1 8 = .ok (.ifCond .lt 17, 3) := by decide +kernel
theorem d_L_has_11 : decode y_L_has.2.1 11 = .ok (.iload_n 2, 1) := by decide +kernel
theorem d_L_has_12 : decode y_L_has.2.1 12 = .ok (.aload_n 0, 1) := by decide +kernel
theorem d_L_has_13 : decode y_L_has.2.1 13 = .ok (.getfield 15, 3) := by decide +kernel
theorem d_L_has_16 : decode y_L_has.2.1 16 = .ok (.iload_n 1, 1) := by decide +kernel
theorem d_L_has_17 : decode y_L_has.2.1 17 = .ok (.iaload, 1) := by decide +kernel
theorem d_L_has_18 : decode y_L_has.2.1 18 = .ok (.if_icmp .ge 7, 3) := by decide +kernel
theorem d_L_has_25 : decode y_L_has.2.1 25 = .ok (.iconst 0, 1) := by decide +kernel
theorem d_L_has_26 : decode y_L_has.2.1 26 = .ok (.ireturn, 1) := by decide +kernel
theorem d_S_group_42 : decode y_S_group.2.1 42 = .ok (.ifCond .ne 5, 3) := by decide +kernel
theorem d_S_group_45 : decode y_S_group.2.1 45 = .ok (.iconst (-1), 1) := by decide +kernel
theorem d_S_group_46 : decode y_S_group.2.1 46 = .ok (.ireturn, 1) := by decide +kernel
abbrev y_S_line : MI := (⟨"SinglesUp", "line", "(II)I"⟩, prog_1_method_13_code, 3, some .int)
theorem d_S_line_0 : decode y_S_line.2.1 0 = .ok (.iload_n 1, 1) := by decide +kernel
theorem d_S_line_1 : decode y_S_line.2.1 1 = .ok (.invokestatic 73, 3) := by decide +kernel
theorem d_S_line_4 : decode y_S_line.2.1 4 = .ok (.ifCond .eq 12, 3) := by decide +kernel
theorem d_S_line_7 : decode y_S_line.2.1 7 = .ok (.iload_n 2, 1) := by decide +kernel
theorem d_S_line_8 : decode y_S_line.2.1 8 = .ok (.ifCond .lt 8, 3) := by decide +kernel
theorem d_S_line_16 : decode y_S_line.2.1 16 = .ok (.iconst (-1), 1) := by decide +kernel
theorem d_S_line_17 : decode y_S_line.2.1 17 = .ok (.ireturn, 1) := by decide +kernel
theorem d_S_line_11 : decode y_S_line.2.1 11 = .ok (.iload_n 2, 1) := by decide +kernel
theorem d_S_line_12 : decode y_S_line.2.1 12 = .ok (.iconst 1, 1) := by decide +kernel
theorem d_S_line_13 : decode y_S_line.2.1 13 = .ok (.if_icmp .le 5, 3) := by decide +kernel
theorem d_S_line_18 : decode y_S_line.2.1 18 = .ok (.iload_n 2, 1) := by decide +kernel
theorem d_S_line_19 : decode y_S_line.2.1 19 = .ok (.ifCond .ne 18, 3) := by decide +kernel
theorem d_S_line_37 : decode y_S_line.2.1 37 = .ok (.aload_n 0, 1) := by decide +kernel
theorem d_S_line_38 : decode y_S_line.2.1 38 = .ok (.getfield 12, 3) := by decide +kernel
theorem d_S_line_41 : decode y_S_line.2.1 41 = .ok (.getfield 77, 3) := by decide +kernel
theorem d_S_line_44 : decode y_S_line.2.1 44 = .ok (.iload_n 1, 1) := by decide +kernel
theorem d_S_line_45 : decode y_S_line.2.1 45 = .ok (.invokevirtual 169, 3) := by decide +kernel
abbrev y_L_people : MI := (⟨"SinglesUp$Lines", "people", "(I)I"⟩, prog_6_method_13_code, 5, some .int)
theorem lk_S_169 : LkV "SinglesUp" 169 y_L_people := ⟨tw_in 796 (by decide +kernel) rfl, tw_in 797 (by decide +kernel) rfl, Or.inl (tw_in 795 (by decide +kernel) rfl)⟩
theorem mo_L_people : MOk y_L_people 1 := ⟨by decide +kernel, tw_in 798 (by decide +kernel) rfl, tw_in 99 (by decide +kernel) rfl, by decide +kernel, by decide +kernel, by decide +kernel⟩
theorem d_L_people_0 : decode y_L_people.2.1 0 = .ok (.iconst 0, 1) := by decide +kernel
theorem d_L_people_1 : decode y_L_people.2.1 1 = .ok (.istore_n 2, 1) := by decide +kernel
theorem d_L_people_2 : decode y_L_people.2.1 2 = .ok (.aload_n 0, 1) := by decide +kernel
theorem d_L_people_3 : decode y_L_people.2.1 3 = .ok (.iload_n 1, 1) := by decide +kernel
theorem d_L_people_4 : decode y_L_people.2.1 4 = .ok (.invokevirtual 60, 3) := by decide +kernel
abbrev y_L_countOf : MI := (⟨"SinglesUp$Lines", "countOf", "(I)I"⟩, prog_6_method_4_code, 2, some .int)
theorem lk_L_60 : LkV "SinglesUp$Lines" 60 y_L_countOf := ⟨tw_in 782 (by decide +kernel) rfl, tw_in 783 (by decide +kernel) rfl, Or.inl (tw_in 799 (by decide +kernel) rfl)⟩
theorem mo_L_countOf : MOk y_L_countOf 1 := ⟨by decide +kernel, tw_in 784 (by decide +kernel) rfl, tw_in 99 (by decide +kernel) rfl, by decide +kernel, by decide +kernel, by decide +kernel⟩
theorem d_L_countOf_0 : decode y_L_countOf.2.1 0 = .ok (.iload_n 1, 1) := by decide +kernel
theorem d_L_countOf_1 : decode y_L_countOf.2.1 1 = .ok (.invokestatic 33, 3) := by decide +kernel
theorem d_L_countOf_4 : decode y_L_countOf.2.1 4 = .ok (.ifCond .eq 17, 3) := by decide +kernel
theorem d_L_countOf_7 : decode y_L_countOf.2.1 7 = .ok (.aload_n 0, 1) := by decide +kernel
theorem d_L_countOf_8 : decode y_L_countOf.2.1 8 = .ok (.getfield 15, 3) := by decide +kernel
theorem d_L_countOf_11 : decode y_L_countOf.2.1 11 = .ok (.iload_n 1, 1) := by decide +kernel
theorem d_L_countOf_12 : decode y_L_countOf.2.1 12 = .ok (.iaload, 1) := by decide +kernel
theorem d_L_countOf_13 : decode y_L_countOf.2.1 13 = .ok (.bipush 40, 2) := by decide +kernel
theorem d_L_countOf_15 : decode y_L_countOf.2.1 15 = .ok (.invokestatic 37, 3) := by decide +kernel
theorem d_L_countOf_18 : decode y_L_countOf.2.1 18 = .ok (.goto 4, 3) := by decide +kernel
theorem d_L_countOf_22 : decode y_L_countOf.2.1 22 = .ok (.ireturn, 1) := by decide +kernel
theorem d_L_people_7 : decode y_L_people.2.1 7 = .ok (.istore_n 3, 1) := by decide +kernel
theorem d_L_people_8 : decode y_L_people.2.1 8 = .ok (.iconst 0, 1) := by decide +kernel
theorem d_L_people_9 : decode y_L_people.2.1 9 = .ok (.istore 4, 2) := by decide +kernel
theorem d_L_people_11 : decode y_L_people.2.1 11 = .ok (.iload 4, 2) := by decide +kernel
theorem d_L_people_13 : decode y_L_people.2.1 13 = .ok (.iload_n 3, 1) := by decide +kernel
theorem d_L_people_14 : decode y_L_people.2.1 14 = .ok (.if_icmp .ge 24, 3) := by decide +kernel
theorem d_L_people_38 : decode y_L_people.2.1 38 = .ok (.iload_n 2, 1) := by decide +kernel
theorem d_L_people_39 : decode y_L_people.2.1 39 = .ok (.ireturn, 1) := by decide +kernel
theorem d_S_line_48 : decode y_S_line.2.1 48 = .ok (.ireturn, 1) := by decide +kernel
theorem d_L_countOf_21 : decode y_L_countOf.2.1 21 = .ok (.iconst 0, 1) := by decide +kernel
theorem d_S_line_22 : decode y_S_line.2.1 22 = .ok (.aload_n 0, 1) := by decide +kernel
theorem d_S_line_23 : decode y_S_line.2.1 23 = .ok (.getfield 12, 3) := by decide +kernel
theorem d_S_line_26 : decode y_S_line.2.1 26 = .ok (.getfield 77, 3) := by decide +kernel
theorem d_S_line_29 : decode y_S_line.2.1 29 = .ok (.getfield 166, 3) := by decide +kernel
theorem fl_S_166 : FL "SinglesUp" 166 4 1 := ⟨"SinglesUp$Lines", zT4, 3, rfl, by decide, rfl, Or.inr ⟨"SinglesUp", nw_in 48 (by decide +kernel) rfl⟩⟩
theorem d_S_line_32 : decode y_S_line.2.1 32 = .ok (.iload_n 1, 1) := by decide +kernel
theorem d_S_line_33 : decode y_S_line.2.1 33 = .ok (.iaload, 1) := by decide +kernel
theorem d_S_line_34 : decode y_S_line.2.1 34 = .ok (.goto 14, 3) := by decide +kernel
abbrev y_S_pick : MI := (⟨"SinglesUp", "pick", "(II)I"⟩, prog_1_method_14_code, 3, some .int)
theorem d_S_pick_0 : decode y_S_pick.2.1 0 = .ok (.aload_n 0, 1) := by decide +kernel
theorem d_S_pick_1 : decode y_S_pick.2.1 1 = .ok (.getfield 33, 3) := by decide +kernel
theorem d_S_pick_4 : decode y_S_pick.2.1 4 = .ok (.aload_n 0, 1) := by decide +kernel
theorem d_S_pick_5 : decode y_S_pick.2.1 5 = .ok (.getfield 12, 3) := by decide +kernel
theorem d_S_pick_8 : decode y_S_pick.2.1 8 = .ok (.iload_n 1, 1) := by decide +kernel
theorem d_S_pick_9 : decode y_S_pick.2.1 9 = .ok (.iload_n 2, 1) := by decide +kernel
theorem d_S_pick_10 : decode y_S_pick.2.1 10 = .ok (.invokevirtual 173, 3) := by decide +kernel
abbrev y_C_judge : MI := (⟨"SinglesUp$Chair", "judge", "(LSinglesUp$Hill;II)I"⟩, prog_2_method_15_code, 7, some .int)
theorem lk_S_173 : LkV "SinglesUp" 173 y_C_judge := ⟨tw_in 806 (by decide +kernel) rfl, tw_in 807 (by decide +kernel) rfl, Or.inl (tw_in 805 (by decide +kernel) rfl)⟩
theorem mo_C_judge : MOk y_C_judge 3 := ⟨by decide +kernel, tw_in 808 (by decide +kernel) rfl, tw_in 103 (by decide +kernel) rfl, by decide +kernel, by decide +kernel, by decide +kernel⟩
theorem d_C_judge_0 : decode y_C_judge.2.1 0 = .ok (.iload_n 2, 1) := by decide +kernel
theorem d_C_judge_1 : decode y_C_judge.2.1 1 = .ok (.bipush 40, 2) := by decide +kernel
theorem d_C_judge_3 : decode y_C_judge.2.1 3 = .ok (.imul, 1) := by decide +kernel
theorem d_C_judge_4 : decode y_C_judge.2.1 4 = .ok (.iload_n 3, 1) := by decide +kernel
theorem d_C_judge_5 : decode y_C_judge.2.1 5 = .ok (.iadd, 1) := by decide +kernel
theorem d_C_judge_6 : decode y_C_judge.2.1 6 = .ok (.istore 4, 2) := by decide +kernel
theorem d_C_judge_8 : decode y_C_judge.2.1 8 = .ok (.aload_n 1, 1) := by decide +kernel
theorem d_C_judge_9 : decode y_C_judge.2.1 9 = .ok (.getfield 72, 3) := by decide +kernel
theorem d_C_judge_12 : decode y_C_judge.2.1 12 = .ok (.iload_n 2, 1) := by decide +kernel
theorem d_C_judge_13 : decode y_C_judge.2.1 13 = .ok (.iload_n 3, 1) := by decide +kernel
theorem d_C_judge_14 : decode y_C_judge.2.1 14 = .ok (.invokevirtual 177, 3) := by decide +kernel
theorem lk_C_177 : LkV "SinglesUp$Chair" 177 y_L_has := ⟨tw_in 769 (by decide +kernel) rfl, tw_in 770 (by decide +kernel) rfl, Or.inl (tw_in 809 (by decide +kernel) rfl)⟩
theorem d_C_judge_17 : decode y_C_judge.2.1 17 = .ok (.ifCond .eq 12, 3) := by decide +kernel
theorem d_C_judge_29 : decode y_C_judge.2.1 29 = .ok (.iconst 1, 1) := by decide +kernel
theorem d_C_judge_30 : decode y_C_judge.2.1 30 = .ok (.ireturn, 1) := by decide +kernel
theorem d_S_pick_13 : decode y_S_pick.2.1 13 = .ok (.ireturn, 1) := by decide +kernel
abbrev y_S_send : MI := (⟨"SinglesUp", "send", "()I"⟩, prog_1_method_15_code, 2, some .int)
theorem d_S_send_0 : decode y_S_send.2.1 0 = .ok (.aload_n 0, 1) := by decide +kernel
theorem d_S_send_1 : decode y_S_send.2.1 1 = .ok (.getfield 33, 3) := by decide +kernel
theorem d_S_send_4 : decode y_S_send.2.1 4 = .ok (.aload_n 0, 1) := by decide +kernel
theorem d_S_send_5 : decode y_S_send.2.1 5 = .ok (.getfield 12, 3) := by decide +kernel
theorem d_S_send_8 : decode y_S_send.2.1 8 = .ok (.invokevirtual 177, 3) := by decide +kernel
theorem lk_S_177 : LkV "SinglesUp" 177 y_C_leave := ⟨tw_in 829 (by decide +kernel) rfl, tw_in 830 (by decide +kernel) rfl, Or.inl (tw_in 828 (by decide +kernel) rfl)⟩
theorem d_S_send_11 : decode y_S_send.2.1 11 = .ok (.istore_n 1, 1) := by decide +kernel
theorem d_S_send_12 : decode y_S_send.2.1 12 = .ok (.aload_n 0, 1) := by decide +kernel
theorem d_S_send_13 : decode y_S_send.2.1 13 = .ok (.invokevirtual 181, 3) := by decide +kernel
abbrev y_S_dropPicked : MI := (⟨"SinglesUp", "dropPicked", "()V"⟩, prog_1_method_34_code, 1, none)
theorem lk_S_181 : LkV "SinglesUp" 181 y_S_dropPicked := ⟨tw_in 868 (by decide +kernel) rfl, tw_in 22 (by decide +kernel) rfl, Or.inl (tw_in 866 (by decide +kernel) rfl)⟩
theorem mo_S_dropPicked : MOk y_S_dropPicked 0 := ⟨by decide +kernel, tw_in 869 (by decide +kernel) rfl, tw_in 97 (by decide +kernel) rfl, by decide +kernel, by decide +kernel, by decide +kernel⟩
theorem d_S_dropPicked_0 : decode y_S_dropPicked.2.1 0 = .ok (.aload_n 0, 1) := by decide +kernel
theorem d_S_dropPicked_1 : decode y_S_dropPicked.2.1 1 = .ok (.getfield 33, 3) := by decide +kernel
theorem d_S_dropPicked_4 : decode y_S_dropPicked.2.1 4 = .ok (.aload_n 0, 1) := by decide +kernel
theorem d_S_dropPicked_5 : decode y_S_dropPicked.2.1 5 = .ok (.getfield 12, 3) := by decide +kernel
theorem d_S_dropPicked_8 : decode y_S_dropPicked.2.1 8 = .ok (.getfield 65, 3) := by decide +kernel
theorem d_S_dropPicked_11 : decode y_S_dropPicked.2.1 11 = .ok (.iconst 0, 1) := by decide +kernel
theorem d_S_dropPicked_12 : decode y_S_dropPicked.2.1 12 = .ok (.iaload, 1) := by decide +kernel
theorem d_S_dropPicked_13 : decode y_S_dropPicked.2.1 13 = .ok (.invokevirtual 69, 3) := by decide +kernel
theorem d_S_dropPicked_16 : decode y_S_dropPicked.2.1 16 = .ok (.return_, 1) := by decide +kernel
theorem d_S_send_16 : decode y_S_send.2.1 16 = .ok (.iload_n 1, 1) := by decide +kernel
theorem d_S_send_17 : decode y_S_send.2.1 17 = .ok (.ireturn, 1) := by decide +kernel
abbrev y_S_chair : MI := (⟨"SinglesUp", "chair", "()I"⟩, prog_1_method_16_code, 1, some .int)
theorem d_S_chair_0 : decode y_S_chair.2.1 0 = .ok (.aload_n 0, 1) := by decide +kernel
theorem d_S_chair_1 : decode y_S_chair.2.1 1 = .ok (.invokevirtual 181, 3) := by decide +kernel
theorem d_S_chair_4 : decode y_S_chair.2.1 4 = .ok (.aload_n 0, 1) := by decide +kernel
theorem d_S_chair_5 : decode y_S_chair.2.1 5 = .ok (.getfield 29, 3) := by decide +kernel
theorem fl_S_29 : FL "SinglesUp" 29 8 3 := ⟨"SinglesUp", zT8, 9, rfl, by decide, rfl, Or.inl (tw_in 431 (by decide +kernel) rfl)⟩
theorem rc_0_3 : RC 0 3 = some 130 := by decide +kernel
theorem d_S_chair_8 : decode y_S_chair.2.1 8 = .ok (.aload_n 0, 1) := by decide +kernel
theorem d_S_chair_9 : decode y_S_chair.2.1 9 = .ok (.getfield 12, 3) := by decide +kernel
theorem d_S_chair_12 : decode y_S_chair.2.1 12 = .ok (.invokevirtual 184, 3) := by decide +kernel
theorem lk_S_184 : LkV "SinglesUp" 184 y_C_ride := ⟨tw_in 875 (by decide +kernel) rfl, tw_in 876 (by decide +kernel) rfl, Or.inl (tw_in 874 (by decide +kernel) rfl)⟩
theorem mo_C_ride : MOk y_C_ride 1 := ⟨by decide +kernel, tw_in 877 (by decide +kernel) rfl, tw_in 103 (by decide +kernel) rfl, by decide +kernel, by decide +kernel, by decide +kernel⟩
theorem d_S_chair_15 : decode y_S_chair.2.1 15 = .ok (.ireturn, 1) := by decide +kernel
abbrev y_S_run : MI := (⟨"SinglesUp", "run", "(I)I"⟩, prog_1_method_17_code, 2, some .int)
theorem d_S_run_0 : decode y_S_run.2.1 0 = .ok (.iload_n 1, 1) := by decide +kernel
theorem d_S_run_1 : decode y_S_run.2.1 1 = .ok (.iconst 1, 1) := by decide +kernel
theorem d_S_run_2 : decode y_S_run.2.1 2 = .ok (.if_icmp .lt 9, 3) := by decide +kernel
theorem d_S_run_11 : decode y_S_run.2.1 11 = .ok (.iconst (-1), 1) := by decide +kernel
theorem d_S_run_12 : decode y_S_run.2.1 12 = .ok (.ireturn, 1) := by decide +kernel
theorem d_S_run_5 : decode y_S_run.2.1 5 = .ok (.iload_n 1, 1) := by decide +kernel
theorem d_S_run_6 : decode y_S_run.2.1 6 = .ok (.bipush 60, 2) := by decide +kernel
theorem d_S_run_8 : decode y_S_run.2.1 8 = .ok (.if_icmp .le 5, 3) := by decide +kernel
theorem d_S_run_13 : decode y_S_run.2.1 13 = .ok (.aload_n 0, 1) := by decide +kernel
theorem d_S_run_14 : decode y_S_run.2.1 14 = .ok (.invokevirtual 181, 3) := by decide +kernel
theorem d_S_run_17 : decode y_S_run.2.1 17 = .ok (.aload_n 0, 1) := by decide +kernel
theorem d_S_run_18 : decode y_S_run.2.1 18 = .ok (.getfield 29, 3) := by decide +kernel
theorem d_S_run_21 : decode y_S_run.2.1 21 = .ok (.aload_n 0, 1) := by decide +kernel
theorem d_S_run_22 : decode y_S_run.2.1 22 = .ok (.getfield 12, 3) := by decide +kernel
theorem d_S_run_25 : decode y_S_run.2.1 25 = .ok (.iload_n 1, 1) := by decide +kernel
theorem d_S_run_26 : decode y_S_run.2.1 26 = .ok (.invokevirtual 187, 3) := by decide +kernel
theorem lk_S_187 : LkV "SinglesUp" 187 y_C_turns := ⟨tw_in 927 (by decide +kernel) rfl, tw_in 928 (by decide +kernel) rfl, Or.inl (tw_in 926 (by decide +kernel) rfl)⟩
theorem mo_C_turns : MOk y_C_turns 2 := ⟨by decide +kernel, tw_in 929 (by decide +kernel) rfl, tw_in 103 (by decide +kernel) rfl, by decide +kernel, by decide +kernel, by decide +kernel⟩
theorem d_S_run_29 : decode y_S_run.2.1 29 = .ok (.ireturn, 1) := by decide +kernel
abbrev y_S_last : MI := (⟨"SinglesUp", "last", "(I)I"⟩, prog_1_method_18_code, 3, some .int)
theorem d_S_last_0 : decode y_S_last.2.1 0 = .ok (.iload_n 1, 1) := by decide +kernel
theorem d_S_last_1 : decode y_S_last.2.1 1 = .ok (.ifCond .lt 27, 3) := by decide +kernel
theorem d_S_last_28 : decode y_S_last.2.1 28 = .ok (.iconst (-1), 1) := by decide +kernel
theorem d_S_last_29 : decode y_S_last.2.1 29 = .ok (.ireturn, 1) := by decide +kernel
theorem d_S_last_4 : decode y_S_last.2.1 4 = .ok (.iload_n 1, 1) := by decide +kernel
theorem d_S_last_5 : decode y_S_last.2.1 5 = .ok (.aload_n 0, 1) := by decide +kernel
theorem d_S_last_6 : decode y_S_last.2.1 6 = .ok (.getfield 12, 3) := by decide +kernel
theorem d_S_last_9 : decode y_S_last.2.1 9 = .ok (.getfield 191, 3) := by decide +kernel
theorem fl_S_191 : FL "SinglesUp" 191 2 9 := ⟨"SinglesUp$Hill", zT2, 14, rfl, by decide, rfl, Or.inr ⟨"SinglesUp", nw_in 111 (by decide +kernel) rfl⟩⟩
theorem d_S_last_12 : decode y_S_last.2.1 12 = .ok (.arraylength, 1) := by decide +kernel
theorem d_S_last_13 : decode y_S_last.2.1 13 = .ok (.if_icmp .ge 15, 3) := by decide +kernel
theorem d_S_last_16 : decode y_S_last.2.1 16 = .ok (.aload_n 0, 1) := by decide +kernel
theorem d_S_last_17 : decode y_S_last.2.1 17 = .ok (.getfield 12, 3) := by decide +kernel
theorem d_S_last_20 : decode y_S_last.2.1 20 = .ok (.getfield 194, 3) := by decide +kernel
theorem fl_S_194 : FL "SinglesUp" 194 2 8 := ⟨"SinglesUp$Hill", zT2, 14, rfl, by decide, rfl, Or.inr ⟨"SinglesUp", nw_in 109 (by decide +kernel) rfl⟩⟩
theorem d_S_last_23 : decode y_S_last.2.1 23 = .ok (.iconst 0, 1) := by decide +kernel
theorem d_S_last_24 : decode y_S_last.2.1 24 = .ok (.iaload, 1) := by decide +kernel
theorem d_S_last_25 : decode y_S_last.2.1 25 = .ok (.ifCond .ne 5, 3) := by decide +kernel
abbrev y_S_count : MI := (⟨"SinglesUp", "count", "(I)I"⟩, prog_1_method_19_code, 3, some .int)
theorem d_S_count_0 : decode y_S_count.2.1 0 = .ok (.iload_n 1, 1) := by decide +kernel
theorem d_S_count_1 : decode y_S_count.2.1 1 = .ok (.ifCond .lt 19, 3) := by decide +kernel
theorem d_S_count_20 : decode y_S_count.2.1 20 = .ok (.iload_n 1, 1) := by decide +kernel
theorem d_S_count_21 : decode y_S_count.2.1 21 = .ok (.bipush 10, 2) := by decide +kernel
theorem cb_10 : (Int8.ofInt 10).toInt32 = nI 10 := by decide +kernel
theorem d_S_count_23 : decode y_S_count.2.1 23 = .ok (.irem, 1) := by decide +kernel
theorem d_S_count_24 : decode y_S_count.2.1 24 = .ok (.istore_n 2, 1) := by decide +kernel
theorem d_S_count_25 : decode y_S_count.2.1 25 = .ok (.iload_n 1, 1) := by decide +kernel
theorem d_S_count_26 : decode y_S_count.2.1 26 = .ok (.bipush 10, 2) := by decide +kernel
theorem d_S_count_28 : decode y_S_count.2.1 28 = .ok (.if_icmp .lt 20, 3) := by decide +kernel
theorem d_S_count_48 : decode y_S_count.2.1 48 = .ok (.iconst (-1), 1) := by decide +kernel
theorem d_S_count_49 : decode y_S_count.2.1 49 = .ok (.ireturn, 1) := by decide +kernel
theorem d_S_count_4 : decode y_S_count.2.1 4 = .ok (.iload_n 1, 1) := by decide +kernel
theorem d_S_count_5 : decode y_S_count.2.1 5 = .ok (.bipush 6, 2) := by decide +kernel
theorem d_S_count_7 : decode y_S_count.2.1 7 = .ok (.if_icmp .gt 13, 3) := by decide +kernel
theorem d_S_count_31 : decode y_S_count.2.1 31 = .ok (.iload_n 1, 1) := by decide +kernel
theorem d_S_count_32 : decode y_S_count.2.1 32 = .ok (.bipush 48, 2) := by decide +kernel
theorem cb_48 : (Int8.ofInt 48).toInt32 = nI 48 := by decide +kernel
theorem d_S_count_34 : decode y_S_count.2.1 34 = .ok (.if_icmp .gt 14, 3) := by decide +kernel
theorem d_S_count_37 : decode y_S_count.2.1 37 = .ok (.iload_n 2, 1) := by decide +kernel
theorem d_S_count_38 : decode y_S_count.2.1 38 = .ok (.iconst 1, 1) := by decide +kernel
theorem d_S_count_39 : decode y_S_count.2.1 39 = .ok (.if_icmp .lt 9, 3) := by decide +kernel
theorem d_S_count_42 : decode y_S_count.2.1 42 = .ok (.iload_n 2, 1) := by decide +kernel
theorem d_S_count_43 : decode y_S_count.2.1 43 = .ok (.bipush 8, 2) := by decide +kernel
theorem d_S_count_45 : decode y_S_count.2.1 45 = .ok (.if_icmp .le 5, 3) := by decide +kernel
theorem d_S_count_50 : decode y_S_count.2.1 50 = .ok (.iload_n 1, 1) := by decide +kernel
theorem d_S_count_51 : decode y_S_count.2.1 51 = .ok (.bipush 40, 2) := by decide +kernel
theorem d_S_count_53 : decode y_S_count.2.1 53 = .ok (.if_icmp .ge 15, 3) := by decide +kernel
theorem d_S_count_68 : decode y_S_count.2.1 68 = .ok (.aload_n 0, 1) := by decide +kernel
theorem d_S_count_69 : decode y_S_count.2.1 69 = .ok (.getfield 12, 3) := by decide +kernel
theorem d_S_count_72 : decode y_S_count.2.1 72 = .ok (.iload_n 2, 1) := by decide +kernel
theorem d_S_count_73 : decode y_S_count.2.1 73 = .ok (.invokevirtual 197, 3) := by decide +kernel
abbrev y_H_meanWait : MI := (⟨"SinglesUp$Hill", "meanWait", "(I)I"⟩, prog_4_method_14_code, 2, some .int)
theorem lk_S_197 : LkV "SinglesUp" 197 y_H_meanWait := ⟨tw_in 944 (by decide +kernel) rfl, tw_in 945 (by decide +kernel) rfl, Or.inl (tw_in 943 (by decide +kernel) rfl)⟩
theorem mo_H_meanWait : MOk y_H_meanWait 1 := ⟨by decide +kernel, tw_in 946 (by decide +kernel) rfl, tw_in 98 (by decide +kernel) rfl, by decide +kernel, by decide +kernel, by decide +kernel⟩
theorem d_H_meanWait_0 : decode y_H_meanWait.2.1 0 = .ok (.iload_n 1, 1) := by decide +kernel
theorem d_H_meanWait_1 : decode y_H_meanWait.2.1 1 = .ok (.iconst 1, 1) := by decide +kernel
theorem d_H_meanWait_2 : decode y_H_meanWait.2.1 2 = .ok (.if_icmp .lt 21, 3) := by decide +kernel
theorem d_H_meanWait_5 : decode y_H_meanWait.2.1 5 = .ok (.iload_n 1, 1) := by decide +kernel
theorem d_H_meanWait_6 : decode y_H_meanWait.2.1 6 = .ok (.bipush 8, 2) := by decide +kernel
theorem d_H_meanWait_8 : decode y_H_meanWait.2.1 8 = .ok (.if_icmp .gt 15, 3) := by decide +kernel
theorem d_H_meanWait_11 : decode y_H_meanWait.2.1 11 = .ok (.aload_n 0, 1) := by decide +kernel
theorem d_H_meanWait_12 : decode y_H_meanWait.2.1 12 = .ok (.getfield 37, 3) := by decide +kernel
theorem d_H_meanWait_15 : decode y_H_meanWait.2.1 15 = .ok (.bipush 10, 2) := by decide +kernel
theorem d_H_meanWait_17 : decode y_H_meanWait.2.1 17 = .ok (.iload_n 1, 1) := by decide +kernel
theorem d_H_meanWait_18 : decode y_H_meanWait.2.1 18 = .ok (.iadd, 1) := by decide +kernel
theorem d_H_meanWait_19 : decode y_H_meanWait.2.1 19 = .ok (.iaload, 1) := by decide +kernel
theorem d_H_meanWait_20 : decode y_H_meanWait.2.1 20 = .ok (.ifCond .gt 5, 3) := by decide +kernel
theorem d_H_meanWait_23 : decode y_H_meanWait.2.1 23 = .ok (.iconst (-1), 1) := by decide +kernel
theorem d_H_meanWait_24 : decode y_H_meanWait.2.1 24 = .ok (.ireturn, 1) := by decide +kernel
theorem d_S_count_76 : decode y_S_count.2.1 76 = .ok (.ireturn, 1) := by decide +kernel
theorem d_S_count_56 : decode y_S_count.2.1 56 = .ok (.aload_n 0, 1) := by decide +kernel
theorem d_S_count_57 : decode y_S_count.2.1 57 = .ok (.getfield 12, 3) := by decide +kernel
theorem d_S_count_60 : decode y_S_count.2.1 60 = .ok (.getfield 194, 3) := by decide +kernel
theorem d_S_count_63 : decode y_S_count.2.1 63 = .ok (.iload_n 1, 1) := by decide +kernel
theorem d_S_count_64 : decode y_S_count.2.1 64 = .ok (.iaload, 1) := by decide +kernel
theorem d_S_count_65 : decode y_S_count.2.1 65 = .ok (.goto 11, 3) := by decide +kernel
theorem d_S_count_10 : decode y_S_count.2.1 10 = .ok (.aload_n 0, 1) := by decide +kernel
theorem d_S_count_11 : decode y_S_count.2.1 11 = .ok (.getfield 12, 3) := by decide +kernel
theorem d_S_count_14 : decode y_S_count.2.1 14 = .ok (.getfield 194, 3) := by decide +kernel
theorem d_S_count_17 : decode y_S_count.2.1 17 = .ok (.iload_n 1, 1) := by decide +kernel
theorem d_S_count_18 : decode y_S_count.2.1 18 = .ok (.iaload, 1) := by decide +kernel
theorem d_S_count_19 : decode y_S_count.2.1 19 = .ok (.ireturn, 1) := by decide +kernel
section
variable {l : Launch} {b : PB}
/-- what a fresh object holds -/
def FRc (I : Nat → Nat → Int32) : Prop :=
  FH 1 I 4 0 0 0 ∧ I 1 6 = nI 0 ∧ I 1 7 = nI 0 ∧ I 1 11 = (-1) ∧ I 2 1 = nI 6 ∧ I 2 2 = nI 40 ∧ I 2 4 = nI 0 ∧ (∀ j, j < 9 → I 6 j = nI 0) ∧ I 11 3 = nI 0 ∧ I 137 7 = nI 4 ∧ I 137 8 = nI 0 ∧ I 137 9 = nI 0 ∧ I 144 1 = nI 0 ∧ I 144 10 = nI 0 ∧ I 144 11 = (-1) ∧ I 0 8 = nI 0 ∧ I 164 0 = nI 0
theorem irem10 {a : Int32} (h : 0 ≤ a.toInt) : (a - a / nI 10 * nI 10).toInt = a.toInt % 10 := by
  rw [rem_toInt]
  exact Int.tmod_eq_emod_of_nonneg h
set_option maxRecDepth 20000 in
theorem lp_fill_c138 {K2 : K2T} {I : Nat → Nat → Int32} {v : Int32} (hK : K2 none (updA I 138 (fun j => if j < 240 then v else I 138 j))) : ∀ (n i : Nat), i + n = 240 → As l b 1 y_JA_fill KC RC K2 (updA I 138 (fun j => if j < i then v else I 138 j)) 5 [.ref 138, .int (v), .int (nI (i)), .int (nI 240)] [] := by
  intro n
  induction n with
  | zero =>
    intro i hi
    refine aw_iload_n rfl rfl d_JA_fill_5 ?_
    refine aw_iload_n rfl rfl d_JA_fill_6 ?_
    refine aw_icmp_geI (tgt := 20) ((i : Nat) : Int) (240) (nI_toInt (by omega)) (by decide +kernel) (by decide) d_JA_fill_7 (fun _ => ?_) (fun q => absurd q (by omega))
    exact as_retv rfl d_JA_fill_20 (by rw [show i = 240 by omega]; exact hK)
  | succ n ih =>
    intro i hi
    refine aw_iload_n rfl rfl d_JA_fill_5 ?_
    refine aw_iload_n rfl rfl d_JA_fill_6 ?_
    refine aw_icmp_geI (tgt := 20) ((i : Nat) : Int) (240) (nI_toInt (by omega)) (by decide +kernel) (by decide) d_JA_fill_7 (fun q => absurd q (by omega)) (fun _ => ?_)
    refine aw_aload_n rfl rfl d_JA_fill_10 ?_
    refine aw_iload_n rfl rfl d_JA_fill_11 ?_
    refine aw_iload_n rfl rfl d_JA_fill_12 ?_
    refine aw_iast (j := i) kc_138 (vp_in_nI (by omega) (by decide)) (nI_clamp (by omega)) d_JA_fill_13 ?_
    refine aw_iinc (v := nI (i + 1)) (lv2 := [.ref 138, .int (v), .int (nI (i + 1)), .int (nI 240)]) rfl (inc_1 _) (by decide) rfl d_JA_fill_14 ?_
    refine aw_goto (tgt := 5) (by decide) d_JA_fill_17 ?_
    rw [fill_s]; exact ih (i + 1) (by omega)
set_option maxRecDepth 20000 in
theorem sp_fill_c138 {K2 : K2T} {I : Nat → Nat → Int32} {v : Int32} (hK : K2 none (updA I 138 (fun j => if j < 240 then v else I 138 j))) : Ss l b 1 y_JA_fill KC RC [.ref 138, .int (v)] (I) K2 := by
  refine Ss.of (show As l b 1 y_JA_fill KC RC K2 (I) 0 [.ref 138, .int (v), uu, uu] [] from ?_)
  refine aw_iconst (v := nI 0) ci_0 d_JA_fill_0 ?_
  refine aw_istore_n (lv2 := [.ref 138, .int (v), .int (nI 0), uu]) rfl (by decide) rfl d_JA_fill_1 ?_
  refine aw_aload_n rfl rfl d_JA_fill_2 ?_
  refine aw_alen kc_138 (by decide) d_JA_fill_3 ?_
  refine aw_istore_n (lv2 := [.ref 138, .int (v), .int (nI 0), .int (nI 240)]) rfl (by decide) rfl d_JA_fill_4 ?_
  have h0 := lp_fill_c138 (l := l) (b := b) hK 240 0 (by omega); rw [fill_0] at h0; exact h0
set_option maxRecDepth 20000 in
theorem sp_clear_137 {K2 : K2T} {I : Nat → Nat → Int32} {v : Int32} (hK : K2 none (upd2 (upd2 (upd2 (upd2 (upd2 (updA I 138 (fun j => if j < 240 then nI 0 else I 138 j)) 137 7 (v)) 137 8 (nI 0)) 137 9 (nI 0)) 137 10 (nI 0)) 137 11 (nI 0))) : Ss l b 2 y_C_clear KC RC [.ref 137, .int (v)] (I) K2 := by
  refine Ss.of (show As l b 2 y_C_clear KC RC K2 (I) 0 [.ref 137, .int (v)] [] from ?_)
  refine aw_aload_n rfl rfl d_C_clear_0 ?_
  refine aw_getr fl_C_9 kc_137 (by decide) rfl rc_137_0 d_C_clear_1 ?_
  refine aw_iconst (v := nI 0) ci_0 d_C_clear_4 ?_
  refine as_callS (as := [.ref 138, .int (nI 0)]) (d' := 1) mo_JA_fill lk_C_34 rfl ⟨by decide, by decide⟩ rfl rfl (by decide) d_C_clear_5 (sp_fill_c138 (I := I) (v := nI 0) ?_)
  refine (show As l b 2 y_C_clear KC RC K2 (updA (I) 138 (fun j => if j < 240 then nI 0 else (I) 138 j)) 8 [.ref 137, .int (v)] [] from ?_)
  refine aw_aload_n rfl rfl d_C_clear_8 ?_
  refine aw_iload_n rfl rfl d_C_clear_9 ?_
  refine aw_puti fl_C_30 kc_137 (by decide) rfl rfl rfl rfl d_C_clear_10 ?_
  refine aw_aload_n rfl rfl d_C_clear_13 ?_
  refine aw_iconst (v := nI 0) ci_0 d_C_clear_14 ?_
  refine aw_puti fl_C_40 kc_137 (by decide) rfl rfl rfl rfl d_C_clear_15 ?_
  refine aw_aload_n rfl rfl d_C_clear_18 ?_
  refine aw_iconst (v := nI 0) ci_0 d_C_clear_19 ?_
  refine aw_puti fl_C_43 kc_137 (by decide) rfl rfl rfl rfl d_C_clear_20 ?_
  refine aw_aload_n rfl rfl d_C_clear_23 ?_
  refine aw_iconst (v := nI 0) ci_0 d_C_clear_24 ?_
  refine aw_puti fl_C_46 kc_137 (by decide) rfl (by decide +kernel) (by decide +kernel) rfl d_C_clear_25 ?_
  refine aw_aload_n rfl rfl d_C_clear_28 ?_
  refine aw_iconst (v := nI 0) ci_0 d_C_clear_29 ?_
  refine aw_puti fl_C_50 kc_137 (by decide) rfl (by decide +kernel) (by decide +kernel) rfl d_C_clear_30 ?_
  exact as_retv rfl d_C_clear_33 hK
set_option maxRecDepth 20000 in
theorem sp_rearmost_1_137_0 {K2 : K2T} {I : Nat → Nat → Int32} (f1 : ∀ j, j < 6 → I 9 j = nI 0) (hK : K2 (some (.int (-1))) I) : Ss l b 1 y_L_rearmostSitting KC RC [.ref 7, .ref 138, .int (nI 0)] (I) K2 := by
  refine Ss.of (show As l b 1 y_L_rearmostSitting KC RC K2 (I) 0 [.ref 7, .ref 138, .int (nI 0), uu, uu] [] from ?_)
  refine aw_aload_n rfl rfl d_L_rearmostSitting_0 ?_
  refine aw_getr fl_L_15 kc_7 (by decide) rfl rc_7_1 d_L_rearmostSitting_1 ?_
  refine aw_iload_n rfl rfl d_L_rearmostSitting_4 ?_
  refine aw_iald (j := 0) kc_9 (vp_in_nI (by decide) (by decide)) (nI_clamp (by decide)) d_L_rearmostSitting_5 ?_
  refine aw_top (x2 := nI 0) (f1 (0) (by omega)) ?_
  refine aw_iconst (v := nI 1) ci_1 d_L_rearmostSitting_6 ?_
  refine aw_isub d_L_rearmostSitting_7 ?_
  refine aw_top (x2 := (-1 : Int32)) (by decide +kernel) ?_
  refine aw_istore_n (lv2 := [.ref 7, .ref 138, .int (nI 0), .int ((-1 : Int32)), uu]) rfl (by decide) rfl d_L_rearmostSitting_8 ?_
  refine aw_iload_n rfl rfl d_L_rearmostSitting_9 ?_
  refine aw_if_ltI (tgt := 52) (-1) (by decide +kernel) (by decide) d_L_rearmostSitting_10 (fun _ => ?_) (fun q => absurd q (by decide))
  refine aw_iconst (v := (-1 : Int32)) rfl d_L_rearmostSitting_52 ?_
  exact as_reti rfl d_L_rearmostSitting_53 hK
set_option maxRecDepth 20000 in
theorem sp_rearmost_1_137_1 {K2 : K2T} {I : Nat → Nat → Int32} (f1 : ∀ j, j < 6 → I 9 j = nI 0) (hK : K2 (some (.int (-1))) I) : Ss l b 1 y_L_rearmostSitting KC RC [.ref 7, .ref 138, .int (nI 1)] (I) K2 := by
  refine Ss.of (show As l b 1 y_L_rearmostSitting KC RC K2 (I) 0 [.ref 7, .ref 138, .int (nI 1), uu, uu] [] from ?_)
  refine aw_aload_n rfl rfl d_L_rearmostSitting_0 ?_
  refine aw_getr fl_L_15 kc_7 (by decide) rfl rc_7_1 d_L_rearmostSitting_1 ?_
  refine aw_iload_n rfl rfl d_L_rearmostSitting_4 ?_
  refine aw_iald (j := 1) kc_9 (vp_in_nI (by decide) (by decide)) (nI_clamp (by decide)) d_L_rearmostSitting_5 ?_
  refine aw_top (x2 := nI 0) (f1 (1) (by omega)) ?_
  refine aw_iconst (v := nI 1) ci_1 d_L_rearmostSitting_6 ?_
  refine aw_isub d_L_rearmostSitting_7 ?_
  refine aw_top (x2 := (-1 : Int32)) (by decide +kernel) ?_
  refine aw_istore_n (lv2 := [.ref 7, .ref 138, .int (nI 1), .int ((-1 : Int32)), uu]) rfl (by decide) rfl d_L_rearmostSitting_8 ?_
  refine aw_iload_n rfl rfl d_L_rearmostSitting_9 ?_
  refine aw_if_ltI (tgt := 52) (-1) (by decide +kernel) (by decide) d_L_rearmostSitting_10 (fun _ => ?_) (fun q => absurd q (by decide))
  refine aw_iconst (v := (-1 : Int32)) rfl d_L_rearmostSitting_52 ?_
  exact as_reti rfl d_L_rearmostSitting_53 hK
set_option maxRecDepth 20000 in
theorem sp_rearmost_1_137_2 {K2 : K2T} {I : Nat → Nat → Int32} (f1 : ∀ j, j < 6 → I 9 j = nI 0) (hK : K2 (some (.int (-1))) I) : Ss l b 1 y_L_rearmostSitting KC RC [.ref 7, .ref 138, .int (nI 2)] (I) K2 := by
  refine Ss.of (show As l b 1 y_L_rearmostSitting KC RC K2 (I) 0 [.ref 7, .ref 138, .int (nI 2), uu, uu] [] from ?_)
  refine aw_aload_n rfl rfl d_L_rearmostSitting_0 ?_
  refine aw_getr fl_L_15 kc_7 (by decide) rfl rc_7_1 d_L_rearmostSitting_1 ?_
  refine aw_iload_n rfl rfl d_L_rearmostSitting_4 ?_
  refine aw_iald (j := 2) kc_9 (vp_in_nI (by decide) (by decide)) (nI_clamp (by decide)) d_L_rearmostSitting_5 ?_
  refine aw_top (x2 := nI 0) (f1 (2) (by omega)) ?_
  refine aw_iconst (v := nI 1) ci_1 d_L_rearmostSitting_6 ?_
  refine aw_isub d_L_rearmostSitting_7 ?_
  refine aw_top (x2 := (-1 : Int32)) (by decide +kernel) ?_
  refine aw_istore_n (lv2 := [.ref 7, .ref 138, .int (nI 2), .int ((-1 : Int32)), uu]) rfl (by decide) rfl d_L_rearmostSitting_8 ?_
  refine aw_iload_n rfl rfl d_L_rearmostSitting_9 ?_
  refine aw_if_ltI (tgt := 52) (-1) (by decide +kernel) (by decide) d_L_rearmostSitting_10 (fun _ => ?_) (fun q => absurd q (by decide))
  refine aw_iconst (v := (-1 : Int32)) rfl d_L_rearmostSitting_52 ?_
  exact as_reti rfl d_L_rearmostSitting_53 hK
set_option maxRecDepth 20000 in
theorem sp_rearmost_1_137_3 {K2 : K2T} {I : Nat → Nat → Int32} (f1 : ∀ j, j < 6 → I 9 j = nI 0) (hK : K2 (some (.int (-1))) I) : Ss l b 1 y_L_rearmostSitting KC RC [.ref 7, .ref 138, .int (nI 3)] (I) K2 := by
  refine Ss.of (show As l b 1 y_L_rearmostSitting KC RC K2 (I) 0 [.ref 7, .ref 138, .int (nI 3), uu, uu] [] from ?_)
  refine aw_aload_n rfl rfl d_L_rearmostSitting_0 ?_
  refine aw_getr fl_L_15 kc_7 (by decide) rfl rc_7_1 d_L_rearmostSitting_1 ?_
  refine aw_iload_n rfl rfl d_L_rearmostSitting_4 ?_
  refine aw_iald (j := 3) kc_9 (vp_in_nI (by decide) (by decide)) (nI_clamp (by decide)) d_L_rearmostSitting_5 ?_
  refine aw_top (x2 := nI 0) (f1 (3) (by omega)) ?_
  refine aw_iconst (v := nI 1) ci_1 d_L_rearmostSitting_6 ?_
  refine aw_isub d_L_rearmostSitting_7 ?_
  refine aw_top (x2 := (-1 : Int32)) (by decide +kernel) ?_
  refine aw_istore_n (lv2 := [.ref 7, .ref 138, .int (nI 3), .int ((-1 : Int32)), uu]) rfl (by decide) rfl d_L_rearmostSitting_8 ?_
  refine aw_iload_n rfl rfl d_L_rearmostSitting_9 ?_
  refine aw_if_ltI (tgt := 52) (-1) (by decide +kernel) (by decide) d_L_rearmostSitting_10 (fun _ => ?_) (fun q => absurd q (by decide))
  refine aw_iconst (v := (-1 : Int32)) rfl d_L_rearmostSitting_52 ?_
  exact as_reti rfl d_L_rearmostSitting_53 hK
set_option maxRecDepth 20000 in
theorem sp_rearmost_1_137_4 {K2 : K2T} {I : Nat → Nat → Int32} (f1 : ∀ j, j < 6 → I 9 j = nI 0) (hK : K2 (some (.int (-1))) I) : Ss l b 1 y_L_rearmostSitting KC RC [.ref 7, .ref 138, .int (nI 4)] (I) K2 := by
  refine Ss.of (show As l b 1 y_L_rearmostSitting KC RC K2 (I) 0 [.ref 7, .ref 138, .int (nI 4), uu, uu] [] from ?_)
  refine aw_aload_n rfl rfl d_L_rearmostSitting_0 ?_
  refine aw_getr fl_L_15 kc_7 (by decide) rfl rc_7_1 d_L_rearmostSitting_1 ?_
  refine aw_iload_n rfl rfl d_L_rearmostSitting_4 ?_
  refine aw_iald (j := 4) kc_9 (vp_in_nI (by decide) (by decide)) (nI_clamp (by decide)) d_L_rearmostSitting_5 ?_
  refine aw_top (x2 := nI 0) (f1 (4) (by omega)) ?_
  refine aw_iconst (v := nI 1) ci_1 d_L_rearmostSitting_6 ?_
  refine aw_isub d_L_rearmostSitting_7 ?_
  refine aw_top (x2 := (-1 : Int32)) (by decide +kernel) ?_
  refine aw_istore_n (lv2 := [.ref 7, .ref 138, .int (nI 4), .int ((-1 : Int32)), uu]) rfl (by decide) rfl d_L_rearmostSitting_8 ?_
  refine aw_iload_n rfl rfl d_L_rearmostSitting_9 ?_
  refine aw_if_ltI (tgt := 52) (-1) (by decide +kernel) (by decide) d_L_rearmostSitting_10 (fun _ => ?_) (fun q => absurd q (by decide))
  refine aw_iconst (v := (-1 : Int32)) rfl d_L_rearmostSitting_52 ?_
  exact as_reti rfl d_L_rearmostSitting_53 hK
set_option maxRecDepth 20000 in
theorem sp_rearmost_1_137_5 {K2 : K2T} {I : Nat → Nat → Int32} (f1 : ∀ j, j < 6 → I 9 j = nI 0) (hK : K2 (some (.int (-1))) I) : Ss l b 1 y_L_rearmostSitting KC RC [.ref 7, .ref 138, .int (nI 5)] (I) K2 := by
  refine Ss.of (show As l b 1 y_L_rearmostSitting KC RC K2 (I) 0 [.ref 7, .ref 138, .int (nI 5), uu, uu] [] from ?_)
  refine aw_aload_n rfl rfl d_L_rearmostSitting_0 ?_
  refine aw_getr fl_L_15 kc_7 (by decide) rfl rc_7_1 d_L_rearmostSitting_1 ?_
  refine aw_iload_n rfl rfl d_L_rearmostSitting_4 ?_
  refine aw_iald (j := 5) kc_9 (vp_in_nI (by decide) (by decide)) (nI_clamp (by decide)) d_L_rearmostSitting_5 ?_
  refine aw_top (x2 := nI 0) (f1 (5) (by omega)) ?_
  refine aw_iconst (v := nI 1) ci_1 d_L_rearmostSitting_6 ?_
  refine aw_isub d_L_rearmostSitting_7 ?_
  refine aw_top (x2 := (-1 : Int32)) (by decide +kernel) ?_
  refine aw_istore_n (lv2 := [.ref 7, .ref 138, .int (nI 5), .int ((-1 : Int32)), uu]) rfl (by decide) rfl d_L_rearmostSitting_8 ?_
  refine aw_iload_n rfl rfl d_L_rearmostSitting_9 ?_
  refine aw_if_ltI (tgt := 52) (-1) (by decide +kernel) (by decide) d_L_rearmostSitting_10 (fun _ => ?_) (fun q => absurd q (by decide))
  refine aw_iconst (v := (-1 : Int32)) rfl d_L_rearmostSitting_52 ?_
  exact as_reti rfl d_L_rearmostSitting_53 hK
set_option maxRecDepth 20000 in
theorem sp_depart_1_137 {K2 : K2T} {I : Nat → Nat → Int32} (f1 : ∀ j, j < 6 → I 9 j = nI 0) (hK : K2 none I) : Ss l b 2 y_L_depart KC RC [.ref 7, .ref 138] (I) K2 := by
  refine Ss.of (show As l b 2 y_L_depart KC RC K2 (I) 0 [.ref 7, .ref 138, uu, uu, uu, uu, uu, uu, uu] [] from ?_)
  refine aw_iconst (v := nI 0) ci_0 d_L_depart_0 ?_
  refine aw_istore_n (lv2 := [.ref 7, .ref 138, .int (nI 0), uu, uu, uu, uu, uu, uu]) rfl (by decide) rfl d_L_depart_1 ?_
  refine aw_iload_n rfl rfl d_L_depart_2 ?_
  refine aw_bipush (v := nI 6) cb_6 d_L_depart_3 ?_
  refine aw_icmp_geI (tgt := 173) (0) (6) (by decide +kernel) (by decide +kernel) (by decide) d_L_depart_5 (fun q => absurd q (by decide)) (fun _ => ?_)
  refine aw_aload_n rfl rfl d_L_depart_8 ?_
  refine aw_aload_n rfl rfl d_L_depart_9 ?_
  refine aw_iload_n rfl rfl d_L_depart_10 ?_
  refine as_callV (as := [.ref 138, .int (nI 0)]) (d' := 1) (q := ("SinglesUp$Lines", zT4, 3)) mo_L_rearmostSitting lk_L_47 kc_7 rfl rfl rfl ⟨by decide, by decide⟩ rfl rfl (by decide) d_L_depart_11 (sp_rearmost_1_137_0 (I := I) f1 ?_)
  refine (show As l b 2 y_L_depart KC RC K2 (I) 14 [.ref 7, .ref 138, .int (nI 0), uu, uu, uu, uu, uu, uu] [.int ((-1 : Int32))] from ?_)
  refine aw_istore_n (lv2 := [.ref 7, .ref 138, .int (nI 0), .int ((-1 : Int32)), uu, uu, uu, uu, uu]) rfl (by decide) rfl d_L_depart_14 ?_
  refine aw_iconst (v := nI 0) ci_0 d_L_depart_15 ?_
  refine aw_istore (lv2 := [.ref 7, .ref 138, .int (nI 0), .int ((-1 : Int32)), .int (nI 0), uu, uu, uu, uu]) (by decide) rfl d_L_depart_16 ?_
  refine aw_iconst (v := nI 0) ci_0 d_L_depart_18 ?_
  refine aw_istore (lv2 := [.ref 7, .ref 138, .int (nI 0), .int ((-1 : Int32)), .int (nI 0), .int (nI 0), uu, uu, uu]) (by decide) rfl d_L_depart_19 ?_
  refine aw_iload rfl d_L_depart_21 ?_
  refine aw_aload_n rfl rfl d_L_depart_23 ?_
  refine aw_getr fl_L_15 kc_7 (by decide) rfl rc_7_1 d_L_depart_24 ?_
  refine aw_iload_n rfl rfl d_L_depart_27 ?_
  refine aw_iald (j := 0) kc_9 (vp_in_nI (by decide) (by decide)) (nI_clamp (by decide)) d_L_depart_28 ?_
  refine aw_top (x2 := nI 0) (f1 (0) (by omega)) ?_
  refine aw_icmp_geI (tgt := 159) (0) (0) (by decide +kernel) (by decide +kernel) (by decide) d_L_depart_29 (fun _ => ?_) (fun q => absurd q (by decide))
  refine aw_aload_n rfl rfl d_L_depart_159 ?_
  refine aw_getr fl_L_15 kc_7 (by decide) rfl rc_7_1 d_L_depart_160 ?_
  refine aw_iload_n rfl rfl d_L_depart_163 ?_
  refine aw_iload rfl d_L_depart_164 ?_
  refine aw_iast (j := 0) kc_9 (vp_in_nI (by decide) (by decide)) (nI_clamp (by decide)) d_L_depart_166 ?_
  rw [upd2_id (f1 (0) (by omega))]
  refine aw_iinc (v := nI 1) (lv2 := [.ref 7, .ref 138, .int (nI 1), .int ((-1 : Int32)), .int (nI 0), .int (nI 0), uu, uu, uu]) rfl (by decide +kernel) (by decide) rfl d_L_depart_167 ?_
  refine aw_goto (tgt := 2) (by decide) d_L_depart_170 ?_
  refine aw_iload_n rfl rfl d_L_depart_2 ?_
  refine aw_bipush (v := nI 6) cb_6 d_L_depart_3 ?_
  refine aw_icmp_geI (tgt := 173) (1) (6) (by decide +kernel) (by decide +kernel) (by decide) d_L_depart_5 (fun q => absurd q (by decide)) (fun _ => ?_)
  refine aw_aload_n rfl rfl d_L_depart_8 ?_
  refine aw_aload_n rfl rfl d_L_depart_9 ?_
  refine aw_iload_n rfl rfl d_L_depart_10 ?_
  refine as_callV (as := [.ref 138, .int (nI 1)]) (d' := 1) (q := ("SinglesUp$Lines", zT4, 3)) mo_L_rearmostSitting lk_L_47 kc_7 rfl rfl rfl ⟨by decide, by decide⟩ rfl rfl (by decide) d_L_depart_11 (sp_rearmost_1_137_1 (I := I) f1 ?_)
  refine (show As l b 2 y_L_depart KC RC K2 (I) 14 [.ref 7, .ref 138, .int (nI 1), .int ((-1 : Int32)), .int (nI 0), .int (nI 0), uu, uu, uu] [.int ((-1 : Int32))] from ?_)
  refine aw_istore_n (lv2 := [.ref 7, .ref 138, .int (nI 1), .int ((-1 : Int32)), .int (nI 0), .int (nI 0), uu, uu, uu]) rfl (by decide) rfl d_L_depart_14 ?_
  refine aw_iconst (v := nI 0) ci_0 d_L_depart_15 ?_
  refine aw_istore (lv2 := [.ref 7, .ref 138, .int (nI 1), .int ((-1 : Int32)), .int (nI 0), .int (nI 0), uu, uu, uu]) (by decide) rfl d_L_depart_16 ?_
  refine aw_iconst (v := nI 0) ci_0 d_L_depart_18 ?_
  refine aw_istore (lv2 := [.ref 7, .ref 138, .int (nI 1), .int ((-1 : Int32)), .int (nI 0), .int (nI 0), uu, uu, uu]) (by decide) rfl d_L_depart_19 ?_
  refine aw_iload rfl d_L_depart_21 ?_
  refine aw_aload_n rfl rfl d_L_depart_23 ?_
  refine aw_getr fl_L_15 kc_7 (by decide) rfl rc_7_1 d_L_depart_24 ?_
  refine aw_iload_n rfl rfl d_L_depart_27 ?_
  refine aw_iald (j := 1) kc_9 (vp_in_nI (by decide) (by decide)) (nI_clamp (by decide)) d_L_depart_28 ?_
  refine aw_top (x2 := nI 0) (f1 (1) (by omega)) ?_
  refine aw_icmp_geI (tgt := 159) (0) (0) (by decide +kernel) (by decide +kernel) (by decide) d_L_depart_29 (fun _ => ?_) (fun q => absurd q (by decide))
  refine aw_aload_n rfl rfl d_L_depart_159 ?_
  refine aw_getr fl_L_15 kc_7 (by decide) rfl rc_7_1 d_L_depart_160 ?_
  refine aw_iload_n rfl rfl d_L_depart_163 ?_
  refine aw_iload rfl d_L_depart_164 ?_
  refine aw_iast (j := 1) kc_9 (vp_in_nI (by decide) (by decide)) (nI_clamp (by decide)) d_L_depart_166 ?_
  rw [upd2_id (f1 (1) (by omega))]
  refine aw_iinc (v := nI 2) (lv2 := [.ref 7, .ref 138, .int (nI 2), .int ((-1 : Int32)), .int (nI 0), .int (nI 0), uu, uu, uu]) rfl (by decide +kernel) (by decide) rfl d_L_depart_167 ?_
  refine aw_goto (tgt := 2) (by decide) d_L_depart_170 ?_
  refine aw_iload_n rfl rfl d_L_depart_2 ?_
  refine aw_bipush (v := nI 6) cb_6 d_L_depart_3 ?_
  refine aw_icmp_geI (tgt := 173) (2) (6) (by decide +kernel) (by decide +kernel) (by decide) d_L_depart_5 (fun q => absurd q (by decide)) (fun _ => ?_)
  refine aw_aload_n rfl rfl d_L_depart_8 ?_
  refine aw_aload_n rfl rfl d_L_depart_9 ?_
  refine aw_iload_n rfl rfl d_L_depart_10 ?_
  refine as_callV (as := [.ref 138, .int (nI 2)]) (d' := 1) (q := ("SinglesUp$Lines", zT4, 3)) mo_L_rearmostSitting lk_L_47 kc_7 rfl rfl rfl ⟨by decide, by decide⟩ rfl rfl (by decide) d_L_depart_11 (sp_rearmost_1_137_2 (I := I) f1 ?_)
  refine (show As l b 2 y_L_depart KC RC K2 (I) 14 [.ref 7, .ref 138, .int (nI 2), .int ((-1 : Int32)), .int (nI 0), .int (nI 0), uu, uu, uu] [.int ((-1 : Int32))] from ?_)
  refine aw_istore_n (lv2 := [.ref 7, .ref 138, .int (nI 2), .int ((-1 : Int32)), .int (nI 0), .int (nI 0), uu, uu, uu]) rfl (by decide) rfl d_L_depart_14 ?_
  refine aw_iconst (v := nI 0) ci_0 d_L_depart_15 ?_
  refine aw_istore (lv2 := [.ref 7, .ref 138, .int (nI 2), .int ((-1 : Int32)), .int (nI 0), .int (nI 0), uu, uu, uu]) (by decide) rfl d_L_depart_16 ?_
  refine aw_iconst (v := nI 0) ci_0 d_L_depart_18 ?_
  refine aw_istore (lv2 := [.ref 7, .ref 138, .int (nI 2), .int ((-1 : Int32)), .int (nI 0), .int (nI 0), uu, uu, uu]) (by decide) rfl d_L_depart_19 ?_
  refine aw_iload rfl d_L_depart_21 ?_
  refine aw_aload_n rfl rfl d_L_depart_23 ?_
  refine aw_getr fl_L_15 kc_7 (by decide) rfl rc_7_1 d_L_depart_24 ?_
  refine aw_iload_n rfl rfl d_L_depart_27 ?_
  refine aw_iald (j := 2) kc_9 (vp_in_nI (by decide) (by decide)) (nI_clamp (by decide)) d_L_depart_28 ?_
  refine aw_top (x2 := nI 0) (f1 (2) (by omega)) ?_
  refine aw_icmp_geI (tgt := 159) (0) (0) (by decide +kernel) (by decide +kernel) (by decide) d_L_depart_29 (fun _ => ?_) (fun q => absurd q (by decide))
  refine aw_aload_n rfl rfl d_L_depart_159 ?_
  refine aw_getr fl_L_15 kc_7 (by decide) rfl rc_7_1 d_L_depart_160 ?_
  refine aw_iload_n rfl rfl d_L_depart_163 ?_
  refine aw_iload rfl d_L_depart_164 ?_
  refine aw_iast (j := 2) kc_9 (vp_in_nI (by decide) (by decide)) (nI_clamp (by decide)) d_L_depart_166 ?_
  rw [upd2_id (f1 (2) (by omega))]
  refine aw_iinc (v := nI 3) (lv2 := [.ref 7, .ref 138, .int (nI 3), .int ((-1 : Int32)), .int (nI 0), .int (nI 0), uu, uu, uu]) rfl (by decide +kernel) (by decide) rfl d_L_depart_167 ?_
  refine aw_goto (tgt := 2) (by decide) d_L_depart_170 ?_
  refine aw_iload_n rfl rfl d_L_depart_2 ?_
  refine aw_bipush (v := nI 6) cb_6 d_L_depart_3 ?_
  refine aw_icmp_geI (tgt := 173) (3) (6) (by decide +kernel) (by decide +kernel) (by decide) d_L_depart_5 (fun q => absurd q (by decide)) (fun _ => ?_)
  refine aw_aload_n rfl rfl d_L_depart_8 ?_
  refine aw_aload_n rfl rfl d_L_depart_9 ?_
  refine aw_iload_n rfl rfl d_L_depart_10 ?_
  refine as_callV (as := [.ref 138, .int (nI 3)]) (d' := 1) (q := ("SinglesUp$Lines", zT4, 3)) mo_L_rearmostSitting lk_L_47 kc_7 rfl rfl rfl ⟨by decide, by decide⟩ rfl rfl (by decide) d_L_depart_11 (sp_rearmost_1_137_3 (I := I) f1 ?_)
  refine (show As l b 2 y_L_depart KC RC K2 (I) 14 [.ref 7, .ref 138, .int (nI 3), .int ((-1 : Int32)), .int (nI 0), .int (nI 0), uu, uu, uu] [.int ((-1 : Int32))] from ?_)
  refine aw_istore_n (lv2 := [.ref 7, .ref 138, .int (nI 3), .int ((-1 : Int32)), .int (nI 0), .int (nI 0), uu, uu, uu]) rfl (by decide) rfl d_L_depart_14 ?_
  refine aw_iconst (v := nI 0) ci_0 d_L_depart_15 ?_
  refine aw_istore (lv2 := [.ref 7, .ref 138, .int (nI 3), .int ((-1 : Int32)), .int (nI 0), .int (nI 0), uu, uu, uu]) (by decide) rfl d_L_depart_16 ?_
  refine aw_iconst (v := nI 0) ci_0 d_L_depart_18 ?_
  refine aw_istore (lv2 := [.ref 7, .ref 138, .int (nI 3), .int ((-1 : Int32)), .int (nI 0), .int (nI 0), uu, uu, uu]) (by decide) rfl d_L_depart_19 ?_
  refine aw_iload rfl d_L_depart_21 ?_
  refine aw_aload_n rfl rfl d_L_depart_23 ?_
  refine aw_getr fl_L_15 kc_7 (by decide) rfl rc_7_1 d_L_depart_24 ?_
  refine aw_iload_n rfl rfl d_L_depart_27 ?_
  refine aw_iald (j := 3) kc_9 (vp_in_nI (by decide) (by decide)) (nI_clamp (by decide)) d_L_depart_28 ?_
  refine aw_top (x2 := nI 0) (f1 (3) (by omega)) ?_
  refine aw_icmp_geI (tgt := 159) (0) (0) (by decide +kernel) (by decide +kernel) (by decide) d_L_depart_29 (fun _ => ?_) (fun q => absurd q (by decide))
  refine aw_aload_n rfl rfl d_L_depart_159 ?_
  refine aw_getr fl_L_15 kc_7 (by decide) rfl rc_7_1 d_L_depart_160 ?_
  refine aw_iload_n rfl rfl d_L_depart_163 ?_
  refine aw_iload rfl d_L_depart_164 ?_
  refine aw_iast (j := 3) kc_9 (vp_in_nI (by decide) (by decide)) (nI_clamp (by decide)) d_L_depart_166 ?_
  rw [upd2_id (f1 (3) (by omega))]
  refine aw_iinc (v := nI 4) (lv2 := [.ref 7, .ref 138, .int (nI 4), .int ((-1 : Int32)), .int (nI 0), .int (nI 0), uu, uu, uu]) rfl (by decide +kernel) (by decide) rfl d_L_depart_167 ?_
  refine aw_goto (tgt := 2) (by decide) d_L_depart_170 ?_
  refine aw_iload_n rfl rfl d_L_depart_2 ?_
  refine aw_bipush (v := nI 6) cb_6 d_L_depart_3 ?_
  refine aw_icmp_geI (tgt := 173) (4) (6) (by decide +kernel) (by decide +kernel) (by decide) d_L_depart_5 (fun q => absurd q (by decide)) (fun _ => ?_)
  refine aw_aload_n rfl rfl d_L_depart_8 ?_
  refine aw_aload_n rfl rfl d_L_depart_9 ?_
  refine aw_iload_n rfl rfl d_L_depart_10 ?_
  refine as_callV (as := [.ref 138, .int (nI 4)]) (d' := 1) (q := ("SinglesUp$Lines", zT4, 3)) mo_L_rearmostSitting lk_L_47 kc_7 rfl rfl rfl ⟨by decide, by decide⟩ rfl rfl (by decide) d_L_depart_11 (sp_rearmost_1_137_4 (I := I) f1 ?_)
  refine (show As l b 2 y_L_depart KC RC K2 (I) 14 [.ref 7, .ref 138, .int (nI 4), .int ((-1 : Int32)), .int (nI 0), .int (nI 0), uu, uu, uu] [.int ((-1 : Int32))] from ?_)
  refine aw_istore_n (lv2 := [.ref 7, .ref 138, .int (nI 4), .int ((-1 : Int32)), .int (nI 0), .int (nI 0), uu, uu, uu]) rfl (by decide) rfl d_L_depart_14 ?_
  refine aw_iconst (v := nI 0) ci_0 d_L_depart_15 ?_
  refine aw_istore (lv2 := [.ref 7, .ref 138, .int (nI 4), .int ((-1 : Int32)), .int (nI 0), .int (nI 0), uu, uu, uu]) (by decide) rfl d_L_depart_16 ?_
  refine aw_iconst (v := nI 0) ci_0 d_L_depart_18 ?_
  refine aw_istore (lv2 := [.ref 7, .ref 138, .int (nI 4), .int ((-1 : Int32)), .int (nI 0), .int (nI 0), uu, uu, uu]) (by decide) rfl d_L_depart_19 ?_
  refine aw_iload rfl d_L_depart_21 ?_
  refine aw_aload_n rfl rfl d_L_depart_23 ?_
  refine aw_getr fl_L_15 kc_7 (by decide) rfl rc_7_1 d_L_depart_24 ?_
  refine aw_iload_n rfl rfl d_L_depart_27 ?_
  refine aw_iald (j := 4) kc_9 (vp_in_nI (by decide) (by decide)) (nI_clamp (by decide)) d_L_depart_28 ?_
  refine aw_top (x2 := nI 0) (f1 (4) (by omega)) ?_
  refine aw_icmp_geI (tgt := 159) (0) (0) (by decide +kernel) (by decide +kernel) (by decide) d_L_depart_29 (fun _ => ?_) (fun q => absurd q (by decide))
  refine aw_aload_n rfl rfl d_L_depart_159 ?_
  refine aw_getr fl_L_15 kc_7 (by decide) rfl rc_7_1 d_L_depart_160 ?_
  refine aw_iload_n rfl rfl d_L_depart_163 ?_
  refine aw_iload rfl d_L_depart_164 ?_
  refine aw_iast (j := 4) kc_9 (vp_in_nI (by decide) (by decide)) (nI_clamp (by decide)) d_L_depart_166 ?_
  rw [upd2_id (f1 (4) (by omega))]
  refine aw_iinc (v := nI 5) (lv2 := [.ref 7, .ref 138, .int (nI 5), .int ((-1 : Int32)), .int (nI 0), .int (nI 0), uu, uu, uu]) rfl (by decide +kernel) (by decide) rfl d_L_depart_167 ?_
  refine aw_goto (tgt := 2) (by decide) d_L_depart_170 ?_
  refine aw_iload_n rfl rfl d_L_depart_2 ?_
  refine aw_bipush (v := nI 6) cb_6 d_L_depart_3 ?_
  refine aw_icmp_geI (tgt := 173) (5) (6) (by decide +kernel) (by decide +kernel) (by decide) d_L_depart_5 (fun q => absurd q (by decide)) (fun _ => ?_)
  refine aw_aload_n rfl rfl d_L_depart_8 ?_
  refine aw_aload_n rfl rfl d_L_depart_9 ?_
  refine aw_iload_n rfl rfl d_L_depart_10 ?_
  refine as_callV (as := [.ref 138, .int (nI 5)]) (d' := 1) (q := ("SinglesUp$Lines", zT4, 3)) mo_L_rearmostSitting lk_L_47 kc_7 rfl rfl rfl ⟨by decide, by decide⟩ rfl rfl (by decide) d_L_depart_11 (sp_rearmost_1_137_5 (I := I) f1 ?_)
  refine (show As l b 2 y_L_depart KC RC K2 (I) 14 [.ref 7, .ref 138, .int (nI 5), .int ((-1 : Int32)), .int (nI 0), .int (nI 0), uu, uu, uu] [.int ((-1 : Int32))] from ?_)
  refine aw_istore_n (lv2 := [.ref 7, .ref 138, .int (nI 5), .int ((-1 : Int32)), .int (nI 0), .int (nI 0), uu, uu, uu]) rfl (by decide) rfl d_L_depart_14 ?_
  refine aw_iconst (v := nI 0) ci_0 d_L_depart_15 ?_
  refine aw_istore (lv2 := [.ref 7, .ref 138, .int (nI 5), .int ((-1 : Int32)), .int (nI 0), .int (nI 0), uu, uu, uu]) (by decide) rfl d_L_depart_16 ?_
  refine aw_iconst (v := nI 0) ci_0 d_L_depart_18 ?_
  refine aw_istore (lv2 := [.ref 7, .ref 138, .int (nI 5), .int ((-1 : Int32)), .int (nI 0), .int (nI 0), uu, uu, uu]) (by decide) rfl d_L_depart_19 ?_
  refine aw_iload rfl d_L_depart_21 ?_
  refine aw_aload_n rfl rfl d_L_depart_23 ?_
  refine aw_getr fl_L_15 kc_7 (by decide) rfl rc_7_1 d_L_depart_24 ?_
  refine aw_iload_n rfl rfl d_L_depart_27 ?_
  refine aw_iald (j := 5) kc_9 (vp_in_nI (by decide) (by decide)) (nI_clamp (by decide)) d_L_depart_28 ?_
  refine aw_top (x2 := nI 0) (f1 (5) (by omega)) ?_
  refine aw_icmp_geI (tgt := 159) (0) (0) (by decide +kernel) (by decide +kernel) (by decide) d_L_depart_29 (fun _ => ?_) (fun q => absurd q (by decide))
  refine aw_aload_n rfl rfl d_L_depart_159 ?_
  refine aw_getr fl_L_15 kc_7 (by decide) rfl rc_7_1 d_L_depart_160 ?_
  refine aw_iload_n rfl rfl d_L_depart_163 ?_
  refine aw_iload rfl d_L_depart_164 ?_
  refine aw_iast (j := 5) kc_9 (vp_in_nI (by decide) (by decide)) (nI_clamp (by decide)) d_L_depart_166 ?_
  rw [upd2_id (f1 (5) (by omega))]
  refine aw_iinc (v := nI 6) (lv2 := [.ref 7, .ref 138, .int (nI 6), .int ((-1 : Int32)), .int (nI 0), .int (nI 0), uu, uu, uu]) rfl (by decide +kernel) (by decide) rfl d_L_depart_167 ?_
  refine aw_goto (tgt := 2) (by decide) d_L_depart_170 ?_
  refine aw_iload_n rfl rfl d_L_depart_2 ?_
  refine aw_bipush (v := nI 6) cb_6 d_L_depart_3 ?_
  refine aw_icmp_geI (tgt := 173) (6) (6) (by decide +kernel) (by decide +kernel) (by decide) d_L_depart_5 (fun _ => ?_) (fun q => absurd q (by decide))
  exact as_retv rfl d_L_depart_173 hK
set_option maxRecDepth 20000 in
theorem cs_state {K2 : K2T} {I : Nat → Nat → Int32} (hR : FRc I) {x : Int32} (hK : ∀ I', K2 (some (.int (nI 0))) I') : Ss l b 14 y_S_state KC RC [.ref 0, .int (x)] (I) K2 := by
  obtain ⟨hF, r6, r7, r11, t1, t2, t4, hh, tm, h7, h8, h9, q1, q10, q11, im, p0⟩ := hR
  have hF0 := hF
  obtain ⟨f0, f1, f2, f3, f4, f5, f6, f7, f8, f9, f10, f11, f12, f13, fb⟩ := hF
  have f0 : ∀ j, j < 32 → I 5 j = nI 0 := f0
  have f1 : ∀ j, j < 6 → I 9 j = nI 0 := f1
  have f2 : ∀ j, j < 6 → I 10 j = nI 9 := f2
  have f3 : I 2 0 = nI (4) := f3
  have f4 : I 2 3 = nI 0 := f4
  have f5 : I 2 5 = nI (0) := f5
  have f6 : I 11 1 = nI (0) := f6
  have f7 : I 11 0 = nI (0) := f7
  have f8 : ∀ j, j < 40 → j ≠ 0 → j ≠ 1 → j ≠ 3 → I 11 j = nI 0 := f8
  have f9 : I 16 4 = nI 0 := f9
  have f10 : I 21 4 = nI 0 := f10
  have f11 : I 26 4 = nI 0 := f11
  have f12 : I 31 4 = nI 0 := f12
  have f13 : I 36 4 = nI 0 := f13
  refine Ss.of (show As l b 14 y_S_state KC RC K2 (I) 0 [.ref 0, .int (x), uu] [] from ?_)
  refine aw_aload_n rfl rfl d_S_state_0 ?_
  refine aw_getr fl_S_12 kc_0 (by decide) rfl rc_0_0 d_S_state_1 ?_
  refine aw_geti fl_S_57 kc_1 (by decide) rfl d_S_state_4 ?_
  refine aw_top (x2 := nI 0) (r6) ?_
  refine aw_istore_n (lv2 := [.ref 0, .int (x), .int (nI 0)]) rfl (by decide) rfl d_S_state_7 ?_
  refine aw_aload_n rfl rfl d_S_state_8 ?_
  refine aw_getr fl_S_12 kc_0 (by decide) rfl rc_0_0 d_S_state_9 ?_
  refine aw_iload_n rfl rfl d_S_state_12 ?_
  refine aw_puti fl_S_57 kc_1 (by decide) rfl rfl rfl rfl d_S_state_13 ?_
  refine aw_iload_n rfl rfl d_S_state_16 ?_
  exact as_reti rfl d_S_state_17 (hK _)
set_option maxRecDepth 20000 in
theorem cs_set {K2 : K2T} {I : Nat → Nat → Int32} (hR : FRc I) {x z : Int32} (h1 : (x.toInt = 0 ∧ 2 ≤ z.toInt ∧ z.toInt ≤ 8) ∨ (x.toInt = 1 ∧ 1 ≤ z.toInt ∧ z.toInt ≤ 99) ∨ (x.toInt = 2 ∧ 0 ≤ z.toInt ∧ z.toInt ≤ 999) ∨ (x.toInt = 3 ∧ 0 ≤ z.toInt ∧ z.toInt ≤ 1000) ∨ (x.toInt = 4 ∧ 0 ≤ z.toInt ∧ z.toInt ≤ 99) ∨ (x.toInt = 5 ∧ 0 ≤ z.toInt ∧ z.toInt ≤ 3) → ∀ I', K2 (some (.int (nI 1))) I') (h0 : ¬ ((x.toInt = 0 ∧ 2 ≤ z.toInt ∧ z.toInt ≤ 8) ∨ (x.toInt = 1 ∧ 1 ≤ z.toInt ∧ z.toInt ≤ 99) ∨ (x.toInt = 2 ∧ 0 ≤ z.toInt ∧ z.toInt ≤ 999) ∨ (x.toInt = 3 ∧ 0 ≤ z.toInt ∧ z.toInt ≤ 1000) ∨ (x.toInt = 4 ∧ 0 ≤ z.toInt ∧ z.toInt ≤ 99) ∨ (x.toInt = 5 ∧ 0 ≤ z.toInt ∧ z.toInt ≤ 3)) → ∀ I', K2 (some (.int (nI 0))) I') : Ss l b 14 y_S_set KC RC [.ref 0, .int (x), .int (z)] (I) K2 := by
  obtain ⟨hF, r6, r7, r11, t1, t2, t4, hh, tm, h7, h8, h9, q1, q10, q11, im, p0⟩ := hR
  have hF0 := hF
  obtain ⟨f0, f1, f2, f3, f4, f5, f6, f7, f8, f9, f10, f11, f12, f13, fb⟩ := hF
  have f0 : ∀ j, j < 32 → I 5 j = nI 0 := f0
  have f1 : ∀ j, j < 6 → I 9 j = nI 0 := f1
  have f2 : ∀ j, j < 6 → I 10 j = nI 9 := f2
  have f3 : I 2 0 = nI (4) := f3
  have f4 : I 2 3 = nI 0 := f4
  have f5 : I 2 5 = nI (0) := f5
  have f6 : I 11 1 = nI (0) := f6
  have f7 : I 11 0 = nI (0) := f7
  have f8 : ∀ j, j < 40 → j ≠ 0 → j ≠ 1 → j ≠ 3 → I 11 j = nI 0 := f8
  have f9 : I 16 4 = nI 0 := f9
  have f10 : I 21 4 = nI 0 := f10
  have f11 : I 26 4 = nI 0 := f11
  have f12 : I 31 4 = nI 0 := f12
  have f13 : I 36 4 = nI 0 := f13
  refine Ss.of (show As l b 14 y_S_set KC RC K2 (I) 0 [.ref 0, .int (x), .int (z)] [] from ?_)
  refine aw_iload_n rfl rfl d_S_set_0 ?_
  refine aw_iload_n rfl rfl d_S_set_1 ?_
  refine as_callS (as := [.int (x), .int (z)]) (d' := 13) mo_S_canTell lk_S_61 rfl ⟨by decide, by decide⟩ rfl rfl (by decide) d_S_set_2 (Ss.of (show As l b 13 y_S_canTell KC RC _ (I) 0 [.int (x), .int (z)] [] from ?_))
  refine aw_iload_n rfl rfl d_S_canTell_0 ?_
  refine aw_if_ltI (tgt := 31) (x).toInt rfl (by decide) d_S_canTell_1 (fun c1 => ?_) (fun c1 => ?_)
  · refine aw_iconst (v := nI 0) ci_0 d_S_canTell_31 ?_
    refine as_retz rfl (by decide +kernel) d_S_canTell_32 ?_
    refine (show As l b 14 y_S_set KC RC K2 (I) 5 [.ref 0, .int (x), .int (z)] [.int (nI 0)] from ?_)
    refine aw_if_neI (tgt := 10) (0) (by decide +kernel) (by decide) d_S_set_5 (fun q => absurd q (by decide)) (fun _ => ?_)
    refine aw_iconst (v := nI 0) ci_0 d_S_set_8 ?_
    exact as_retz rfl (by decide +kernel) d_S_set_9 (h0 (by omega) _)
  · refine aw_iload_n rfl rfl d_S_canTell_4 ?_
    refine aw_iconst (v := nI 5) ci_5 d_S_canTell_5 ?_
    refine aw_icmp_gtI (tgt := 31) (x).toInt (5) rfl (by decide +kernel) (by decide) d_S_canTell_6 (fun c2 => ?_) (fun c2 => ?_)
    · refine aw_iconst (v := nI 0) ci_0 d_S_canTell_31 ?_
      refine as_retz rfl (by decide +kernel) d_S_canTell_32 ?_
      refine (show As l b 14 y_S_set KC RC K2 (I) 5 [.ref 0, .int (x), .int (z)] [.int (nI 0)] from ?_)
      refine aw_if_neI (tgt := 10) (0) (by decide +kernel) (by decide) d_S_set_5 (fun q => absurd q (by decide)) (fun _ => ?_)
      refine aw_iconst (v := nI 0) ci_0 d_S_set_8 ?_
      exact as_retz rfl (by decide +kernel) d_S_set_9 (h0 (by omega) _)
    · obtain ⟨w1, hw1, ew1, gw1⟩ := nI_of_range (x := x) (n := 6) (by omega) (by omega)
      subst ew1
      rcases (show w1 = 0 ∨ w1 = 1 ∨ w1 = 2 ∨ w1 = 3 ∨ w1 = 4 ∨ w1 = 5 by omega) with rfl | rfl | rfl | rfl | rfl | rfl
      · refine aw_iload_n rfl rfl d_S_canTell_9 ?_
        refine aw_getsL gs_S_265 d_S_canTell_10 ?_
        refine aw_iload_n rfl rfl d_S_canTell_13 ?_
        refine aw_ialdL (j := 0) (vp_in_nI (by omega) (by omega)) (nI_clamp (by omega)) d_S_canTell_14 ?_
        refine aw_top (x2 := nI 2) (by decide +kernel) ?_
        refine aw_icmp_ltI (tgt := 31) (z).toInt (2) rfl (by decide +kernel) (by decide) d_S_canTell_15 (fun c3 => ?_) (fun c3 => ?_)
        · refine aw_iconst (v := nI 0) ci_0 d_S_canTell_31 ?_
          refine as_retz rfl (by decide +kernel) d_S_canTell_32 ?_
          refine (show As l b 14 y_S_set KC RC K2 (I) 5 [.ref 0, .int (nI 0), .int (z)] [.int (nI 0)] from ?_)
          refine aw_if_neI (tgt := 10) (0) (by decide +kernel) (by decide) d_S_set_5 (fun q => absurd q (by decide)) (fun _ => ?_)
          refine aw_iconst (v := nI 0) ci_0 d_S_set_8 ?_
          exact as_retz rfl (by decide +kernel) d_S_set_9 (h0 (by omega) _)
        · refine aw_iload_n rfl rfl d_S_canTell_18 ?_
          refine aw_getsM gs_S_268 d_S_canTell_19 ?_
          refine aw_iload_n rfl rfl d_S_canTell_22 ?_
          refine aw_ialdM (j := 0) (vp_in_nI (by omega) (by omega)) (nI_clamp (by omega)) d_S_canTell_23 ?_
          refine aw_top (x2 := nI 8) (by decide +kernel) ?_
          refine aw_icmp_gtI (tgt := 31) (z).toInt (8) rfl (by decide +kernel) (by decide) d_S_canTell_24 (fun c4 => ?_) (fun c4 => ?_)
          · refine aw_iconst (v := nI 0) ci_0 d_S_canTell_31 ?_
            refine as_retz rfl (by decide +kernel) d_S_canTell_32 ?_
            refine (show As l b 14 y_S_set KC RC K2 (I) 5 [.ref 0, .int (nI 0), .int (z)] [.int (nI 0)] from ?_)
            refine aw_if_neI (tgt := 10) (0) (by decide +kernel) (by decide) d_S_set_5 (fun q => absurd q (by decide)) (fun _ => ?_)
            refine aw_iconst (v := nI 0) ci_0 d_S_set_8 ?_
            exact as_retz rfl (by decide +kernel) d_S_set_9 (h0 (by omega) _)
          · refine aw_iconst (v := nI 1) ci_1 d_S_canTell_27 ?_
            refine aw_goto (tgt := 32) (by decide) d_S_canTell_28 ?_
            refine as_retz rfl (by decide +kernel) d_S_canTell_32 ?_
            refine (show As l b 14 y_S_set KC RC K2 (I) 5 [.ref 0, .int (nI 0), .int (z)] [.int (nI 1)] from ?_)
            refine aw_if_neI (tgt := 10) (1) (by decide +kernel) (by decide) d_S_set_5 (fun _ => ?_) (fun q => absurd q (by decide))
            refine aw_aload_n rfl rfl d_S_set_10 ?_
            refine aw_getr fl_S_12 kc_0 (by decide) rfl rc_0_0 d_S_set_11 ?_
            refine aw_getr fl_S_65 kc_1 (by decide) rfl rc_1_0 d_S_set_14 ?_
            refine aw_iload_n rfl rfl d_S_set_17 ?_
            refine aw_iload_n rfl rfl d_S_set_18 ?_
            refine aw_iast (j := 0) kc_2 (vp_in_nI (by decide) (by decide)) (nI_clamp (by decide)) d_S_set_19 ?_
            refine aw_iload_n rfl rfl d_S_set_20 ?_
            refine aw_if_neI (tgt := 32) (0) (by decide +kernel) (by decide) d_S_set_21 (fun q => absurd q (by decide)) (fun _ => ?_)
            refine aw_aload_n rfl rfl d_S_set_24 ?_
            refine aw_getr fl_S_33 kc_0 (by decide) rfl rc_0_4 d_S_set_25 ?_
            refine aw_iload_n rfl rfl d_S_set_28 ?_
            refine as_callV (as := [.int (z)]) (d' := 2) (q := ("SinglesUp$Chair", zT0, 12)) mo_C_clear lk_S_69 kc_137 rfl rfl rfl ⟨by decide, by decide⟩ rfl rfl (by decide) d_S_set_29 (sp_clear_137 (I := upd2 I 2 (0) (z)) (v := z) ?_)
            refine (show As l b 14 y_S_set KC RC K2 (upd2 (upd2 (upd2 (upd2 (upd2 (updA (upd2 I 2 (0) (z)) 138 (fun j => if j < 240 then nI 0 else (upd2 I 2 (0) (z)) 138 j)) 137 7 (z)) 137 8 (nI 0)) 137 9 (nI 0)) 137 10 (nI 0)) 137 11 (nI 0)) 32 [.ref 0, .int (nI 0), .int (z)] [] from ?_)
            refine aw_iconst (v := nI 1) ci_1 d_S_set_32 ?_
            exact as_retz rfl (by decide +kernel) d_S_set_33 (h1 (by omega) _)
      · refine aw_iload_n rfl rfl d_S_canTell_9 ?_
        refine aw_getsL gs_S_265 d_S_canTell_10 ?_
        refine aw_iload_n rfl rfl d_S_canTell_13 ?_
        refine aw_ialdL (j := 1) (vp_in_nI (by omega) (by omega)) (nI_clamp (by omega)) d_S_canTell_14 ?_
        refine aw_top (x2 := nI 1) (by decide +kernel) ?_
        refine aw_icmp_ltI (tgt := 31) (z).toInt (1) rfl (by decide +kernel) (by decide) d_S_canTell_15 (fun c5 => ?_) (fun c5 => ?_)
        · refine aw_iconst (v := nI 0) ci_0 d_S_canTell_31 ?_
          refine as_retz rfl (by decide +kernel) d_S_canTell_32 ?_
          refine (show As l b 14 y_S_set KC RC K2 (I) 5 [.ref 0, .int (nI 1), .int (z)] [.int (nI 0)] from ?_)
          refine aw_if_neI (tgt := 10) (0) (by decide +kernel) (by decide) d_S_set_5 (fun q => absurd q (by decide)) (fun _ => ?_)
          refine aw_iconst (v := nI 0) ci_0 d_S_set_8 ?_
          exact as_retz rfl (by decide +kernel) d_S_set_9 (h0 (by omega) _)
        · refine aw_iload_n rfl rfl d_S_canTell_18 ?_
          refine aw_getsM gs_S_268 d_S_canTell_19 ?_
          refine aw_iload_n rfl rfl d_S_canTell_22 ?_
          refine aw_ialdM (j := 1) (vp_in_nI (by omega) (by omega)) (nI_clamp (by omega)) d_S_canTell_23 ?_
          refine aw_top (x2 := nI 99) (by decide +kernel) ?_
          refine aw_icmp_gtI (tgt := 31) (z).toInt (99) rfl (by decide +kernel) (by decide) d_S_canTell_24 (fun c6 => ?_) (fun c6 => ?_)
          · refine aw_iconst (v := nI 0) ci_0 d_S_canTell_31 ?_
            refine as_retz rfl (by decide +kernel) d_S_canTell_32 ?_
            refine (show As l b 14 y_S_set KC RC K2 (I) 5 [.ref 0, .int (nI 1), .int (z)] [.int (nI 0)] from ?_)
            refine aw_if_neI (tgt := 10) (0) (by decide +kernel) (by decide) d_S_set_5 (fun q => absurd q (by decide)) (fun _ => ?_)
            refine aw_iconst (v := nI 0) ci_0 d_S_set_8 ?_
            exact as_retz rfl (by decide +kernel) d_S_set_9 (h0 (by omega) _)
          · refine aw_iconst (v := nI 1) ci_1 d_S_canTell_27 ?_
            refine aw_goto (tgt := 32) (by decide) d_S_canTell_28 ?_
            refine as_retz rfl (by decide +kernel) d_S_canTell_32 ?_
            refine (show As l b 14 y_S_set KC RC K2 (I) 5 [.ref 0, .int (nI 1), .int (z)] [.int (nI 1)] from ?_)
            refine aw_if_neI (tgt := 10) (1) (by decide +kernel) (by decide) d_S_set_5 (fun _ => ?_) (fun q => absurd q (by decide))
            refine aw_aload_n rfl rfl d_S_set_10 ?_
            refine aw_getr fl_S_12 kc_0 (by decide) rfl rc_0_0 d_S_set_11 ?_
            refine aw_getr fl_S_65 kc_1 (by decide) rfl rc_1_0 d_S_set_14 ?_
            refine aw_iload_n rfl rfl d_S_set_17 ?_
            refine aw_iload_n rfl rfl d_S_set_18 ?_
            refine aw_iast (j := 1) kc_2 (vp_in_nI (by decide) (by decide)) (nI_clamp (by decide)) d_S_set_19 ?_
            refine aw_iload_n rfl rfl d_S_set_20 ?_
            refine aw_if_neI (tgt := 32) (1) (by decide +kernel) (by decide) d_S_set_21 (fun _ => ?_) (fun q => absurd q (by decide))
            refine aw_iconst (v := nI 1) ci_1 d_S_set_32 ?_
            exact as_retz rfl (by decide +kernel) d_S_set_33 (h1 (by omega) _)
      · refine aw_iload_n rfl rfl d_S_canTell_9 ?_
        refine aw_getsL gs_S_265 d_S_canTell_10 ?_
        refine aw_iload_n rfl rfl d_S_canTell_13 ?_
        refine aw_ialdL (j := 2) (vp_in_nI (by omega) (by omega)) (nI_clamp (by omega)) d_S_canTell_14 ?_
        refine aw_top (x2 := nI 0) (by decide +kernel) ?_
        refine aw_icmp_ltI (tgt := 31) (z).toInt (0) rfl (by decide +kernel) (by decide) d_S_canTell_15 (fun c7 => ?_) (fun c7 => ?_)
        · refine aw_iconst (v := nI 0) ci_0 d_S_canTell_31 ?_
          refine as_retz rfl (by decide +kernel) d_S_canTell_32 ?_
          refine (show As l b 14 y_S_set KC RC K2 (I) 5 [.ref 0, .int (nI 2), .int (z)] [.int (nI 0)] from ?_)
          refine aw_if_neI (tgt := 10) (0) (by decide +kernel) (by decide) d_S_set_5 (fun q => absurd q (by decide)) (fun _ => ?_)
          refine aw_iconst (v := nI 0) ci_0 d_S_set_8 ?_
          exact as_retz rfl (by decide +kernel) d_S_set_9 (h0 (by omega) _)
        · refine aw_iload_n rfl rfl d_S_canTell_18 ?_
          refine aw_getsM gs_S_268 d_S_canTell_19 ?_
          refine aw_iload_n rfl rfl d_S_canTell_22 ?_
          refine aw_ialdM (j := 2) (vp_in_nI (by omega) (by omega)) (nI_clamp (by omega)) d_S_canTell_23 ?_
          refine aw_top (x2 := nI 999) (by decide +kernel) ?_
          refine aw_icmp_gtI (tgt := 31) (z).toInt (999) rfl (by decide +kernel) (by decide) d_S_canTell_24 (fun c8 => ?_) (fun c8 => ?_)
          · refine aw_iconst (v := nI 0) ci_0 d_S_canTell_31 ?_
            refine as_retz rfl (by decide +kernel) d_S_canTell_32 ?_
            refine (show As l b 14 y_S_set KC RC K2 (I) 5 [.ref 0, .int (nI 2), .int (z)] [.int (nI 0)] from ?_)
            refine aw_if_neI (tgt := 10) (0) (by decide +kernel) (by decide) d_S_set_5 (fun q => absurd q (by decide)) (fun _ => ?_)
            refine aw_iconst (v := nI 0) ci_0 d_S_set_8 ?_
            exact as_retz rfl (by decide +kernel) d_S_set_9 (h0 (by omega) _)
          · refine aw_iconst (v := nI 1) ci_1 d_S_canTell_27 ?_
            refine aw_goto (tgt := 32) (by decide) d_S_canTell_28 ?_
            refine as_retz rfl (by decide +kernel) d_S_canTell_32 ?_
            refine (show As l b 14 y_S_set KC RC K2 (I) 5 [.ref 0, .int (nI 2), .int (z)] [.int (nI 1)] from ?_)
            refine aw_if_neI (tgt := 10) (1) (by decide +kernel) (by decide) d_S_set_5 (fun _ => ?_) (fun q => absurd q (by decide))
            refine aw_aload_n rfl rfl d_S_set_10 ?_
            refine aw_getr fl_S_12 kc_0 (by decide) rfl rc_0_0 d_S_set_11 ?_
            refine aw_getr fl_S_65 kc_1 (by decide) rfl rc_1_0 d_S_set_14 ?_
            refine aw_iload_n rfl rfl d_S_set_17 ?_
            refine aw_iload_n rfl rfl d_S_set_18 ?_
            refine aw_iast (j := 2) kc_2 (vp_in_nI (by decide) (by decide)) (nI_clamp (by decide)) d_S_set_19 ?_
            refine aw_iload_n rfl rfl d_S_set_20 ?_
            refine aw_if_neI (tgt := 32) (2) (by decide +kernel) (by decide) d_S_set_21 (fun _ => ?_) (fun q => absurd q (by decide))
            refine aw_iconst (v := nI 1) ci_1 d_S_set_32 ?_
            exact as_retz rfl (by decide +kernel) d_S_set_33 (h1 (by omega) _)
      · refine aw_iload_n rfl rfl d_S_canTell_9 ?_
        refine aw_getsL gs_S_265 d_S_canTell_10 ?_
        refine aw_iload_n rfl rfl d_S_canTell_13 ?_
        refine aw_ialdL (j := 3) (vp_in_nI (by omega) (by omega)) (nI_clamp (by omega)) d_S_canTell_14 ?_
        refine aw_top (x2 := nI 0) (by decide +kernel) ?_
        refine aw_icmp_ltI (tgt := 31) (z).toInt (0) rfl (by decide +kernel) (by decide) d_S_canTell_15 (fun c9 => ?_) (fun c9 => ?_)
        · refine aw_iconst (v := nI 0) ci_0 d_S_canTell_31 ?_
          refine as_retz rfl (by decide +kernel) d_S_canTell_32 ?_
          refine (show As l b 14 y_S_set KC RC K2 (I) 5 [.ref 0, .int (nI 3), .int (z)] [.int (nI 0)] from ?_)
          refine aw_if_neI (tgt := 10) (0) (by decide +kernel) (by decide) d_S_set_5 (fun q => absurd q (by decide)) (fun _ => ?_)
          refine aw_iconst (v := nI 0) ci_0 d_S_set_8 ?_
          exact as_retz rfl (by decide +kernel) d_S_set_9 (h0 (by omega) _)
        · refine aw_iload_n rfl rfl d_S_canTell_18 ?_
          refine aw_getsM gs_S_268 d_S_canTell_19 ?_
          refine aw_iload_n rfl rfl d_S_canTell_22 ?_
          refine aw_ialdM (j := 3) (vp_in_nI (by omega) (by omega)) (nI_clamp (by omega)) d_S_canTell_23 ?_
          refine aw_top (x2 := nI 1000) (by decide +kernel) ?_
          refine aw_icmp_gtI (tgt := 31) (z).toInt (1000) rfl (by decide +kernel) (by decide) d_S_canTell_24 (fun c10 => ?_) (fun c10 => ?_)
          · refine aw_iconst (v := nI 0) ci_0 d_S_canTell_31 ?_
            refine as_retz rfl (by decide +kernel) d_S_canTell_32 ?_
            refine (show As l b 14 y_S_set KC RC K2 (I) 5 [.ref 0, .int (nI 3), .int (z)] [.int (nI 0)] from ?_)
            refine aw_if_neI (tgt := 10) (0) (by decide +kernel) (by decide) d_S_set_5 (fun q => absurd q (by decide)) (fun _ => ?_)
            refine aw_iconst (v := nI 0) ci_0 d_S_set_8 ?_
            exact as_retz rfl (by decide +kernel) d_S_set_9 (h0 (by omega) _)
          · refine aw_iconst (v := nI 1) ci_1 d_S_canTell_27 ?_
            refine aw_goto (tgt := 32) (by decide) d_S_canTell_28 ?_
            refine as_retz rfl (by decide +kernel) d_S_canTell_32 ?_
            refine (show As l b 14 y_S_set KC RC K2 (I) 5 [.ref 0, .int (nI 3), .int (z)] [.int (nI 1)] from ?_)
            refine aw_if_neI (tgt := 10) (1) (by decide +kernel) (by decide) d_S_set_5 (fun _ => ?_) (fun q => absurd q (by decide))
            refine aw_aload_n rfl rfl d_S_set_10 ?_
            refine aw_getr fl_S_12 kc_0 (by decide) rfl rc_0_0 d_S_set_11 ?_
            refine aw_getr fl_S_65 kc_1 (by decide) rfl rc_1_0 d_S_set_14 ?_
            refine aw_iload_n rfl rfl d_S_set_17 ?_
            refine aw_iload_n rfl rfl d_S_set_18 ?_
            refine aw_iast (j := 3) kc_2 (vp_in_nI (by decide) (by decide)) (nI_clamp (by decide)) d_S_set_19 ?_
            refine aw_iload_n rfl rfl d_S_set_20 ?_
            refine aw_if_neI (tgt := 32) (3) (by decide +kernel) (by decide) d_S_set_21 (fun _ => ?_) (fun q => absurd q (by decide))
            refine aw_iconst (v := nI 1) ci_1 d_S_set_32 ?_
            exact as_retz rfl (by decide +kernel) d_S_set_33 (h1 (by omega) _)
      · refine aw_iload_n rfl rfl d_S_canTell_9 ?_
        refine aw_getsL gs_S_265 d_S_canTell_10 ?_
        refine aw_iload_n rfl rfl d_S_canTell_13 ?_
        refine aw_ialdL (j := 4) (vp_in_nI (by omega) (by omega)) (nI_clamp (by omega)) d_S_canTell_14 ?_
        refine aw_top (x2 := nI 0) (by decide +kernel) ?_
        refine aw_icmp_ltI (tgt := 31) (z).toInt (0) rfl (by decide +kernel) (by decide) d_S_canTell_15 (fun c11 => ?_) (fun c11 => ?_)
        · refine aw_iconst (v := nI 0) ci_0 d_S_canTell_31 ?_
          refine as_retz rfl (by decide +kernel) d_S_canTell_32 ?_
          refine (show As l b 14 y_S_set KC RC K2 (I) 5 [.ref 0, .int (nI 4), .int (z)] [.int (nI 0)] from ?_)
          refine aw_if_neI (tgt := 10) (0) (by decide +kernel) (by decide) d_S_set_5 (fun q => absurd q (by decide)) (fun _ => ?_)
          refine aw_iconst (v := nI 0) ci_0 d_S_set_8 ?_
          exact as_retz rfl (by decide +kernel) d_S_set_9 (h0 (by omega) _)
        · refine aw_iload_n rfl rfl d_S_canTell_18 ?_
          refine aw_getsM gs_S_268 d_S_canTell_19 ?_
          refine aw_iload_n rfl rfl d_S_canTell_22 ?_
          refine aw_ialdM (j := 4) (vp_in_nI (by omega) (by omega)) (nI_clamp (by omega)) d_S_canTell_23 ?_
          refine aw_top (x2 := nI 99) (by decide +kernel) ?_
          refine aw_icmp_gtI (tgt := 31) (z).toInt (99) rfl (by decide +kernel) (by decide) d_S_canTell_24 (fun c12 => ?_) (fun c12 => ?_)
          · refine aw_iconst (v := nI 0) ci_0 d_S_canTell_31 ?_
            refine as_retz rfl (by decide +kernel) d_S_canTell_32 ?_
            refine (show As l b 14 y_S_set KC RC K2 (I) 5 [.ref 0, .int (nI 4), .int (z)] [.int (nI 0)] from ?_)
            refine aw_if_neI (tgt := 10) (0) (by decide +kernel) (by decide) d_S_set_5 (fun q => absurd q (by decide)) (fun _ => ?_)
            refine aw_iconst (v := nI 0) ci_0 d_S_set_8 ?_
            exact as_retz rfl (by decide +kernel) d_S_set_9 (h0 (by omega) _)
          · refine aw_iconst (v := nI 1) ci_1 d_S_canTell_27 ?_
            refine aw_goto (tgt := 32) (by decide) d_S_canTell_28 ?_
            refine as_retz rfl (by decide +kernel) d_S_canTell_32 ?_
            refine (show As l b 14 y_S_set KC RC K2 (I) 5 [.ref 0, .int (nI 4), .int (z)] [.int (nI 1)] from ?_)
            refine aw_if_neI (tgt := 10) (1) (by decide +kernel) (by decide) d_S_set_5 (fun _ => ?_) (fun q => absurd q (by decide))
            refine aw_aload_n rfl rfl d_S_set_10 ?_
            refine aw_getr fl_S_12 kc_0 (by decide) rfl rc_0_0 d_S_set_11 ?_
            refine aw_getr fl_S_65 kc_1 (by decide) rfl rc_1_0 d_S_set_14 ?_
            refine aw_iload_n rfl rfl d_S_set_17 ?_
            refine aw_iload_n rfl rfl d_S_set_18 ?_
            refine aw_iast (j := 4) kc_2 (vp_in_nI (by decide) (by decide)) (nI_clamp (by decide)) d_S_set_19 ?_
            refine aw_iload_n rfl rfl d_S_set_20 ?_
            refine aw_if_neI (tgt := 32) (4) (by decide +kernel) (by decide) d_S_set_21 (fun _ => ?_) (fun q => absurd q (by decide))
            refine aw_iconst (v := nI 1) ci_1 d_S_set_32 ?_
            exact as_retz rfl (by decide +kernel) d_S_set_33 (h1 (by omega) _)
      · refine aw_iload_n rfl rfl d_S_canTell_9 ?_
        refine aw_getsL gs_S_265 d_S_canTell_10 ?_
        refine aw_iload_n rfl rfl d_S_canTell_13 ?_
        refine aw_ialdL (j := 5) (vp_in_nI (by omega) (by omega)) (nI_clamp (by omega)) d_S_canTell_14 ?_
        refine aw_top (x2 := nI 0) (by decide +kernel) ?_
        refine aw_icmp_ltI (tgt := 31) (z).toInt (0) rfl (by decide +kernel) (by decide) d_S_canTell_15 (fun c13 => ?_) (fun c13 => ?_)
        · refine aw_iconst (v := nI 0) ci_0 d_S_canTell_31 ?_
          refine as_retz rfl (by decide +kernel) d_S_canTell_32 ?_
          refine (show As l b 14 y_S_set KC RC K2 (I) 5 [.ref 0, .int (nI 5), .int (z)] [.int (nI 0)] from ?_)
          refine aw_if_neI (tgt := 10) (0) (by decide +kernel) (by decide) d_S_set_5 (fun q => absurd q (by decide)) (fun _ => ?_)
          refine aw_iconst (v := nI 0) ci_0 d_S_set_8 ?_
          exact as_retz rfl (by decide +kernel) d_S_set_9 (h0 (by omega) _)
        · refine aw_iload_n rfl rfl d_S_canTell_18 ?_
          refine aw_getsM gs_S_268 d_S_canTell_19 ?_
          refine aw_iload_n rfl rfl d_S_canTell_22 ?_
          refine aw_ialdM (j := 5) (vp_in_nI (by omega) (by omega)) (nI_clamp (by omega)) d_S_canTell_23 ?_
          refine aw_top (x2 := nI 3) (by decide +kernel) ?_
          refine aw_icmp_gtI (tgt := 31) (z).toInt (3) rfl (by decide +kernel) (by decide) d_S_canTell_24 (fun c14 => ?_) (fun c14 => ?_)
          · refine aw_iconst (v := nI 0) ci_0 d_S_canTell_31 ?_
            refine as_retz rfl (by decide +kernel) d_S_canTell_32 ?_
            refine (show As l b 14 y_S_set KC RC K2 (I) 5 [.ref 0, .int (nI 5), .int (z)] [.int (nI 0)] from ?_)
            refine aw_if_neI (tgt := 10) (0) (by decide +kernel) (by decide) d_S_set_5 (fun q => absurd q (by decide)) (fun _ => ?_)
            refine aw_iconst (v := nI 0) ci_0 d_S_set_8 ?_
            exact as_retz rfl (by decide +kernel) d_S_set_9 (h0 (by omega) _)
          · refine aw_iconst (v := nI 1) ci_1 d_S_canTell_27 ?_
            refine aw_goto (tgt := 32) (by decide) d_S_canTell_28 ?_
            refine as_retz rfl (by decide +kernel) d_S_canTell_32 ?_
            refine (show As l b 14 y_S_set KC RC K2 (I) 5 [.ref 0, .int (nI 5), .int (z)] [.int (nI 1)] from ?_)
            refine aw_if_neI (tgt := 10) (1) (by decide +kernel) (by decide) d_S_set_5 (fun _ => ?_) (fun q => absurd q (by decide))
            refine aw_aload_n rfl rfl d_S_set_10 ?_
            refine aw_getr fl_S_12 kc_0 (by decide) rfl rc_0_0 d_S_set_11 ?_
            refine aw_getr fl_S_65 kc_1 (by decide) rfl rc_1_0 d_S_set_14 ?_
            refine aw_iload_n rfl rfl d_S_set_17 ?_
            refine aw_iload_n rfl rfl d_S_set_18 ?_
            refine aw_iast (j := 5) kc_2 (vp_in_nI (by decide) (by decide)) (nI_clamp (by decide)) d_S_set_19 ?_
            refine aw_iload_n rfl rfl d_S_set_20 ?_
            refine aw_if_neI (tgt := 32) (5) (by decide +kernel) (by decide) d_S_set_21 (fun _ => ?_) (fun q => absurd q (by decide))
            refine aw_iconst (v := nI 1) ci_1 d_S_set_32 ?_
            exact as_retz rfl (by decide +kernel) d_S_set_33 (h1 (by omega) _)
set_option maxRecDepth 20000 in
theorem cs_seen {K2 : K2T} {I : Nat → Nat → Int32} (hR : FRc I) {x z : Int32} (h1 : 0 ≤ x.toInt ∧ x.toInt < 6 ∧ 1 ≤ z.toInt ∧ z.toInt ≤ 24 → ∀ I', K2 (some (.int (nI 1))) I') (h0 : ¬ (0 ≤ x.toInt ∧ x.toInt < 6 ∧ 1 ≤ z.toInt ∧ z.toInt ≤ 24) → ∀ I', K2 (some (.int (nI 0))) I') : Ss l b 14 y_S_seen KC RC [.ref 0, .int (x), .int (z)] (I) K2 := by
  obtain ⟨hF, r6, r7, r11, t1, t2, t4, hh, tm, h7, h8, h9, q1, q10, q11, im, p0⟩ := hR
  have hF0 := hF
  obtain ⟨f0, f1, f2, f3, f4, f5, f6, f7, f8, f9, f10, f11, f12, f13, fb⟩ := hF
  have f0 : ∀ j, j < 32 → I 5 j = nI 0 := f0
  have f1 : ∀ j, j < 6 → I 9 j = nI 0 := f1
  have f2 : ∀ j, j < 6 → I 10 j = nI 9 := f2
  have f3 : I 2 0 = nI (4) := f3
  have f4 : I 2 3 = nI 0 := f4
  have f5 : I 2 5 = nI (0) := f5
  have f6 : I 11 1 = nI (0) := f6
  have f7 : I 11 0 = nI (0) := f7
  have f8 : ∀ j, j < 40 → j ≠ 0 → j ≠ 1 → j ≠ 3 → I 11 j = nI 0 := f8
  have f9 : I 16 4 = nI 0 := f9
  have f10 : I 21 4 = nI 0 := f10
  have f11 : I 26 4 = nI 0 := f11
  have f12 : I 31 4 = nI 0 := f12
  have f13 : I 36 4 = nI 0 := f13
  refine Ss.of (show As l b 14 y_S_seen KC RC K2 (I) 0 [.ref 0, .int (x), .int (z)] [] from ?_)
  refine aw_iload_n rfl rfl d_S_seen_0 ?_
  refine as_callS (as := [.int (x)]) (d' := 1) mo_S_isLine lk_S_73 rfl ⟨by decide, by decide⟩ rfl rfl (by decide) d_S_seen_1 (sp_isLine (I := I) (x := x) (X := (x).toInt) rfl (fun c1 => ?_) (fun c2 => ?_))
  · refine (show As l b 14 y_S_seen KC RC K2 (I) 4 [.ref 0, .int (x), .int (z)] [.int (nI 1)] from ?_)
    refine aw_if_eqI (tgt := 18) (1) (by decide +kernel) (by decide) d_S_seen_4 (fun q => absurd q (by decide)) (fun _ => ?_)
    refine aw_iload_n rfl rfl d_S_seen_7 ?_
    refine aw_iconst (v := nI 1) ci_1 d_S_seen_8 ?_
    refine aw_icmp_ltI (tgt := 18) (z).toInt (1) rfl (by decide +kernel) (by decide) d_S_seen_9 (fun c3 => ?_) (fun c3 => ?_)
    · refine aw_iconst (v := nI 0) ci_0 d_S_seen_18 ?_
      exact as_retz rfl (by decide +kernel) d_S_seen_19 (h0 (by omega) _)
    · refine aw_iload_n rfl rfl d_S_seen_12 ?_
      refine aw_bipush (v := nI 24) cb_24 d_S_seen_13 ?_
      refine aw_icmp_leI (tgt := 20) (z).toInt (24) rfl (by decide +kernel) (by decide) d_S_seen_15 (fun c4 => ?_) (fun c4 => ?_)
      · refine aw_aload_n rfl rfl d_S_seen_20 ?_
        refine aw_getr fl_S_12 kc_0 (by decide) rfl rc_0_0 d_S_seen_21 ?_
        refine aw_getr fl_S_77 kc_1 (by decide) rfl rc_1_5 d_S_seen_24 ?_
        refine aw_getr fl_S_81 kc_7 (by decide) rfl rc_7_2 d_S_seen_27 ?_
        refine aw_iload_n rfl rfl d_S_seen_30 ?_
        refine aw_iload_n rfl rfl d_S_seen_31 ?_
        refine aw_iast (j := (x).toInt.toNat) kc_10 (vp_in_iff.mpr ⟨by omega, by omega⟩) rfl d_S_seen_32 ?_
        refine aw_iconst (v := nI 1) ci_1 d_S_seen_33 ?_
        exact as_retz rfl (by decide +kernel) d_S_seen_34 (h1 (by omega) _)
      · refine aw_iconst (v := nI 0) ci_0 d_S_seen_18 ?_
        exact as_retz rfl (by decide +kernel) d_S_seen_19 (h0 (by omega) _)
  · refine (show As l b 14 y_S_seen KC RC K2 (I) 4 [.ref 0, .int (x), .int (z)] [.int (nI 0)] from ?_)
    refine aw_if_eqI (tgt := 18) (0) (by decide +kernel) (by decide) d_S_seen_4 (fun _ => ?_) (fun q => absurd q (by decide))
    refine aw_iconst (v := nI 0) ci_0 d_S_seen_18 ?_
    exact as_retz rfl (by decide +kernel) d_S_seen_19 (h0 (by omega) _)
set_option maxRecDepth 20000 in
theorem cs_parts {K2 : K2T} {I : Nat → Nat → Int32} (hR : FRc I) {x z : Int32} (h1 : 2 ≤ x.toInt ∧ x.toInt ≤ 8 ∧ 0 ≤ z.toInt ∧ z.toInt < x.toInt → ∀ I', K2 (some (.int (nI 1))) I') (h0 : ¬ (2 ≤ x.toInt ∧ x.toInt ≤ 8 ∧ 0 ≤ z.toInt ∧ z.toInt < x.toInt) → ∀ I', K2 (some (.int (nI 0))) I') : Ss l b 14 y_S_parts KC RC [.ref 0, .int (x), .int (z)] (I) K2 := by
  obtain ⟨hF, r6, r7, r11, t1, t2, t4, hh, tm, h7, h8, h9, q1, q10, q11, im, p0⟩ := hR
  have hF0 := hF
  obtain ⟨f0, f1, f2, f3, f4, f5, f6, f7, f8, f9, f10, f11, f12, f13, fb⟩ := hF
  have f0 : ∀ j, j < 32 → I 5 j = nI 0 := f0
  have f1 : ∀ j, j < 6 → I 9 j = nI 0 := f1
  have f2 : ∀ j, j < 6 → I 10 j = nI 9 := f2
  have f3 : I 2 0 = nI (4) := f3
  have f4 : I 2 3 = nI 0 := f4
  have f5 : I 2 5 = nI (0) := f5
  have f6 : I 11 1 = nI (0) := f6
  have f7 : I 11 0 = nI (0) := f7
  have f8 : ∀ j, j < 40 → j ≠ 0 → j ≠ 1 → j ≠ 3 → I 11 j = nI 0 := f8
  have f9 : I 16 4 = nI 0 := f9
  have f10 : I 21 4 = nI 0 := f10
  have f11 : I 26 4 = nI 0 := f11
  have f12 : I 31 4 = nI 0 := f12
  have f13 : I 36 4 = nI 0 := f13
  refine Ss.of (show As l b 14 y_S_parts KC RC K2 (I) 0 [.ref 0, .int (x), .int (z)] [] from ?_)
  refine aw_iload_n rfl rfl d_S_parts_0 ?_
  refine aw_iconst (v := nI 2) ci_2 d_S_parts_1 ?_
  refine aw_icmp_ltI (tgt := 20) (x).toInt (2) rfl (by decide +kernel) (by decide) d_S_parts_2 (fun c1 => ?_) (fun c1 => ?_)
  · refine aw_iconst (v := nI 0) ci_0 d_S_parts_20 ?_
    exact as_retz rfl (by decide +kernel) d_S_parts_21 (h0 (by omega) _)
  · refine aw_iload_n rfl rfl d_S_parts_5 ?_
    refine aw_bipush (v := nI 8) cb_8 d_S_parts_6 ?_
    refine aw_icmp_gtI (tgt := 20) (x).toInt (8) rfl (by decide +kernel) (by decide) d_S_parts_8 (fun c2 => ?_) (fun c2 => ?_)
    · refine aw_iconst (v := nI 0) ci_0 d_S_parts_20 ?_
      exact as_retz rfl (by decide +kernel) d_S_parts_21 (h0 (by omega) _)
    · refine aw_iload_n rfl rfl d_S_parts_11 ?_
      refine aw_if_ltI (tgt := 20) (z).toInt rfl (by decide) d_S_parts_12 (fun c3 => ?_) (fun c3 => ?_)
      · refine aw_iconst (v := nI 0) ci_0 d_S_parts_20 ?_
        exact as_retz rfl (by decide +kernel) d_S_parts_21 (h0 (by omega) _)
      · refine aw_iload_n rfl rfl d_S_parts_15 ?_
        refine aw_iload_n rfl rfl d_S_parts_16 ?_
        refine aw_icmp_ltI (tgt := 22) (z).toInt (x).toInt rfl rfl (by decide) d_S_parts_17 (fun c4 => ?_) (fun c4 => ?_)
        · refine aw_aload_n rfl rfl d_S_parts_22 ?_
          refine aw_getr fl_S_12 kc_0 (by decide) rfl rc_0_0 d_S_parts_23 ?_
          refine aw_getr fl_S_86 kc_1 (by decide) rfl rc_1_2 d_S_parts_26 ?_
          refine aw_iload_n rfl rfl d_S_parts_29 ?_
          refine aw_iload_n rfl rfl d_S_parts_30 ?_
          refine aw_iast (j := (x).toInt.toNat) kc_4 (vp_in_iff.mpr ⟨by omega, by omega⟩) rfl d_S_parts_31 ?_
          refine aw_iconst (v := nI 1) ci_1 d_S_parts_32 ?_
          exact as_retz rfl (by decide +kernel) d_S_parts_33 (h1 (by omega) _)
        · refine aw_iconst (v := nI 0) ci_0 d_S_parts_20 ?_
          exact as_retz rfl (by decide +kernel) d_S_parts_21 (h0 (by omega) _)
set_option maxRecDepth 20000 in
theorem cs_comer {K2 : K2T} {I : Nat → Nat → Int32} (hR : FRc I) {x z u v c : Int32} (h1 : 0 ≤ x.toInt ∧ x.toInt < 8 ∧ 1 ≤ z.toInt ∧ z.toInt ≤ 8 ∧ 1 ≤ u.toInt ∧ u.toInt ≤ z.toInt ∧ 0 ≤ v.toInt ∧ v.toInt ≤ 3 ∧ 0 ≤ c.toInt ∧ c.toInt ≤ 1000 → ∀ I', K2 (some (.int (nI 1))) I') (h0 : ¬ (0 ≤ x.toInt ∧ x.toInt < 8 ∧ 1 ≤ z.toInt ∧ z.toInt ≤ 8 ∧ 1 ≤ u.toInt ∧ u.toInt ≤ z.toInt ∧ 0 ≤ v.toInt ∧ v.toInt ≤ 3 ∧ 0 ≤ c.toInt ∧ c.toInt ≤ 1000) → ∀ I', K2 (some (.int (nI 0))) I') : Ss l b 14 y_S_comer KC RC [.ref 0, .int (x), .int (z), .int (u), .int (v), .int (c)] (I) K2 := by
  obtain ⟨hF, r6, r7, r11, t1, t2, t4, hh, tm, h7, h8, h9, q1, q10, q11, im, p0⟩ := hR
  have hF0 := hF
  obtain ⟨f0, f1, f2, f3, f4, f5, f6, f7, f8, f9, f10, f11, f12, f13, fb⟩ := hF
  have f0 : ∀ j, j < 32 → I 5 j = nI 0 := f0
  have f1 : ∀ j, j < 6 → I 9 j = nI 0 := f1
  have f2 : ∀ j, j < 6 → I 10 j = nI 9 := f2
  have f3 : I 2 0 = nI (4) := f3
  have f4 : I 2 3 = nI 0 := f4
  have f5 : I 2 5 = nI (0) := f5
  have f6 : I 11 1 = nI (0) := f6
  have f7 : I 11 0 = nI (0) := f7
  have f8 : ∀ j, j < 40 → j ≠ 0 → j ≠ 1 → j ≠ 3 → I 11 j = nI 0 := f8
  have f9 : I 16 4 = nI 0 := f9
  have f10 : I 21 4 = nI 0 := f10
  have f11 : I 26 4 = nI 0 := f11
  have f12 : I 31 4 = nI 0 := f12
  have f13 : I 36 4 = nI 0 := f13
  refine Ss.of (show As l b 14 y_S_comer KC RC K2 (I) 0 [.ref 0, .int (x), .int (z), .int (u), .int (v), .int (c)] [] from ?_)
  refine aw_iload_n rfl rfl d_S_comer_0 ?_
  refine aw_if_ltI (tgt := 33) (x).toInt rfl (by decide) d_S_comer_1 (fun c1 => ?_) (fun c1 => ?_)
  · refine aw_iconst (v := nI 0) ci_0 d_S_comer_33 ?_
    exact as_retz rfl (by decide +kernel) d_S_comer_34 (h0 (by omega) _)
  · refine aw_iload_n rfl rfl d_S_comer_4 ?_
    refine aw_bipush (v := nI 8) cb_8 d_S_comer_5 ?_
    refine aw_icmp_geI (tgt := 33) (x).toInt (8) rfl (by decide +kernel) (by decide) d_S_comer_7 (fun c2 => ?_) (fun c2 => ?_)
    · refine aw_iconst (v := nI 0) ci_0 d_S_comer_33 ?_
      exact as_retz rfl (by decide +kernel) d_S_comer_34 (h0 (by omega) _)
    · refine aw_iload_n rfl rfl d_S_comer_10 ?_
      refine aw_iload_n rfl rfl d_S_comer_11 ?_
      refine aw_iload rfl d_S_comer_12 ?_
      refine as_callS (as := [.int (z), .int (u), .int (v)]) (d' := 1) mo_S_canBe lk_S_89 rfl ⟨by decide, by decide⟩ rfl rfl (by decide) d_S_comer_14 (sp_canBe (I := I) (x := z) (z := u) (u := v) (X := (z).toInt) (Z := (u).toInt) (U := (v).toInt) rfl rfl rfl (fun c3 => ?_) (fun c4 => ?_))
      · refine (show As l b 14 y_S_comer KC RC K2 (I) 17 [.ref 0, .int (x), .int (z), .int (u), .int (v), .int (c)] [.int (nI 1)] from ?_)
        refine aw_if_eqI (tgt := 33) (1) (by decide +kernel) (by decide) d_S_comer_17 (fun q => absurd q (by decide)) (fun _ => ?_)
        refine aw_iload rfl d_S_comer_20 ?_
        refine aw_if_ltI (tgt := 33) (c).toInt rfl (by decide) d_S_comer_22 (fun c5 => ?_) (fun c5 => ?_)
        · refine aw_iconst (v := nI 0) ci_0 d_S_comer_33 ?_
          exact as_retz rfl (by decide +kernel) d_S_comer_34 (h0 (by omega) _)
        · refine aw_iload rfl d_S_comer_25 ?_
          refine aw_sipush (v := nI 1000) cs_1000 d_S_comer_27 ?_
          refine aw_icmp_leI (tgt := 35) (c).toInt (1000) rfl (by decide +kernel) (by decide) d_S_comer_30 (fun c6 => ?_) (fun c6 => ?_)
          · refine aw_aload_n rfl rfl d_S_comer_35 ?_
            refine aw_getr fl_S_12 kc_0 (by decide) rfl rc_0_0 d_S_comer_36 ?_
            refine aw_iload_n rfl rfl d_S_comer_39 ?_
            refine aw_iload_n rfl rfl d_S_comer_40 ?_
            refine aw_iload_n rfl rfl d_S_comer_41 ?_
            refine aw_iload rfl d_S_comer_42 ?_
            refine aw_iload rfl d_S_comer_44 ?_
            refine as_callV (as := [.int (x), .int (z), .int (u), .int (v), .int (c)]) (d' := 13) (q := ("SinglesUp$Hill", zT2, 14)) mo_H_tellComer lk_S_93 kc_1 rfl rfl rfl ⟨by decide, by decide⟩ rfl rfl (by decide) d_S_comer_46 (Ss.of (show As l b 13 y_H_tellComer KC RC _ (I) 0 [.ref 1, .int (x), .int (z), .int (u), .int (v), .int (c)] [] from ?_))
            refine aw_iload_n rfl rfl d_H_tellComer_0 ?_
            refine aw_if_ltI (tgt := 54) (x).toInt rfl (by decide) d_H_tellComer_1 (fun q => absurd q (by omega)) (fun _ => ?_)
            refine aw_iload_n rfl rfl d_H_tellComer_4 ?_
            refine aw_bipush (v := nI 8) cb_8 d_H_tellComer_5 ?_
            refine aw_icmp_geI (tgt := 54) (x).toInt (8) rfl (by decide +kernel) (by decide) d_H_tellComer_7 (fun q => absurd q (by omega)) (fun _ => ?_)
            obtain ⟨w1, hw1, ew1, gw1⟩ := nI_of_range (x := x) (n := 8) (by omega) (by omega)
            subst ew1
            refine aw_aload_n rfl rfl d_H_tellComer_10 ?_
            refine aw_getr fl_H_24 kc_1 (by decide) rfl rc_1_3 d_H_tellComer_11 ?_
            refine aw_iconst (v := nI 4) ci_4 d_H_tellComer_14 ?_
            refine aw_iload_n rfl rfl d_H_tellComer_15 ?_
            refine aw_imulN d_H_tellComer_16 ?_
            refine aw_iload_n rfl rfl d_H_tellComer_17 ?_
            refine aw_iast (j := (4 * w1)) kc_5 (vp_in_nI (by omega) (by decide)) (nI_clamp (by omega)) d_H_tellComer_18 ?_
            refine aw_aload_n rfl rfl d_H_tellComer_19 ?_
            refine aw_getr fl_H_24 kc_1 (by decide) rfl rc_1_3 d_H_tellComer_20 ?_
            refine aw_iconst (v := nI 4) ci_4 d_H_tellComer_23 ?_
            refine aw_iload_n rfl rfl d_H_tellComer_24 ?_
            refine aw_imulN d_H_tellComer_25 ?_
            refine aw_iconst (v := nI 1) ci_1 d_H_tellComer_26 ?_
            refine aw_iaddN d_H_tellComer_27 ?_
            refine aw_iload_n rfl rfl d_H_tellComer_28 ?_
            refine aw_iast (j := ((4 * w1) + 1)) kc_5 (vp_in_nI (by omega) (by decide)) (nI_clamp (by omega)) d_H_tellComer_29 ?_
            refine aw_aload_n rfl rfl d_H_tellComer_30 ?_
            refine aw_getr fl_H_24 kc_1 (by decide) rfl rc_1_3 d_H_tellComer_31 ?_
            refine aw_iconst (v := nI 4) ci_4 d_H_tellComer_34 ?_
            refine aw_iload_n rfl rfl d_H_tellComer_35 ?_
            refine aw_imulN d_H_tellComer_36 ?_
            refine aw_iconst (v := nI 2) ci_2 d_H_tellComer_37 ?_
            refine aw_iaddN d_H_tellComer_38 ?_
            refine aw_iload rfl d_H_tellComer_39 ?_
            refine aw_iast (j := ((4 * w1) + 2)) kc_5 (vp_in_nI (by omega) (by decide)) (nI_clamp (by omega)) d_H_tellComer_41 ?_
            refine aw_aload_n rfl rfl d_H_tellComer_42 ?_
            refine aw_getr fl_H_24 kc_1 (by decide) rfl rc_1_3 d_H_tellComer_43 ?_
            refine aw_iconst (v := nI 4) ci_4 d_H_tellComer_46 ?_
            refine aw_iload_n rfl rfl d_H_tellComer_47 ?_
            refine aw_imulN d_H_tellComer_48 ?_
            refine aw_iconst (v := nI 3) ci_3 d_H_tellComer_49 ?_
            refine aw_iaddN d_H_tellComer_50 ?_
            refine aw_iload rfl d_H_tellComer_51 ?_
            refine aw_iast (j := ((4 * w1) + 3)) kc_5 (vp_in_nI (by omega) (by decide)) (nI_clamp (by omega)) d_H_tellComer_53 ?_
            refine as_retv rfl d_H_tellComer_54 ?_
            refine (show As l b 14 y_S_comer KC RC K2 (upd2 (upd2 (upd2 (upd2 I 5 ((4 * w1)) (z)) 5 (((4 * w1) + 1)) (u)) 5 (((4 * w1) + 2)) (v)) 5 (((4 * w1) + 3)) (c)) 49 [.ref 0, .int (nI (w1)), .int (z), .int (u), .int (v), .int (c)] [] from ?_)
            refine aw_iconst (v := nI 1) ci_1 d_S_comer_49 ?_
            exact as_retz rfl (by decide +kernel) d_S_comer_50 (h1 (by omega) _)
          · refine aw_iconst (v := nI 0) ci_0 d_S_comer_33 ?_
            exact as_retz rfl (by decide +kernel) d_S_comer_34 (h0 (by omega) _)
      · refine (show As l b 14 y_S_comer KC RC K2 (I) 17 [.ref 0, .int (x), .int (z), .int (u), .int (v), .int (c)] [.int (nI 0)] from ?_)
        refine aw_if_eqI (tgt := 33) (0) (by decide +kernel) (by decide) d_S_comer_17 (fun _ => ?_) (fun q => absurd q (by decide))
        refine aw_iconst (v := nI 0) ci_0 d_S_comer_33 ?_
        exact as_retz rfl (by decide +kernel) d_S_comer_34 (h0 (by omega) _)
set_option maxRecDepth 20000 in
theorem cs_feed {K2 : K2T} {I : Nat → Nat → Int32} (hR : FRc I) {x z u v c : Int32} (hK : ∀ I', K2 (some (.int (nI 20))) I') : Ss l b 14 y_S_feed KC RC [.ref 0, .int (x), .int (z), .int (u), .int (v), .int (c)] (I) K2 := by
  obtain ⟨hF, r6, r7, r11, t1, t2, t4, hh, tm, h7, h8, h9, q1, q10, q11, im, p0⟩ := hR
  have hF0 := hF
  obtain ⟨f0, f1, f2, f3, f4, f5, f6, f7, f8, f9, f10, f11, f12, f13, fb⟩ := hF
  have f0 : ∀ j, j < 32 → I 5 j = nI 0 := f0
  have f1 : ∀ j, j < 6 → I 9 j = nI 0 := f1
  have f2 : ∀ j, j < 6 → I 10 j = nI 9 := f2
  have f3 : I 2 0 = nI (4) := f3
  have f4 : I 2 3 = nI 0 := f4
  have f5 : I 2 5 = nI (0) := f5
  have f6 : I 11 1 = nI (0) := f6
  have f7 : I 11 0 = nI (0) := f7
  have f8 : ∀ j, j < 40 → j ≠ 0 → j ≠ 1 → j ≠ 3 → I 11 j = nI 0 := f8
  have f9 : I 16 4 = nI 0 := f9
  have f10 : I 21 4 = nI 0 := f10
  have f11 : I 26 4 = nI 0 := f11
  have f12 : I 31 4 = nI 0 := f12
  have f13 : I 36 4 = nI 0 := f13
  refine Ss.of (show As l b 14 y_S_feed KC RC K2 (I) 0 [.ref 0, .int (x), .int (z), .int (u), .int (v), .int (c)] [] from ?_)
  refine aw_aload_n rfl rfl d_S_feed_0 ?_
  refine aw_getr fl_S_39 kc_0 (by decide) rfl rc_0_5 d_S_feed_1 ?_
  refine as_callV (as := []) (d' := 13) (q := ("SinglesUp$Reader", zT7, 13)) mo_R_hasRoomForFive lk_S_97 kc_144 rfl rfl rfl ⟨by decide, by decide⟩ rfl rfl (by decide) d_S_feed_4 (Ss.of (show As l b 13 y_R_hasRoomForFive KC RC _ (I) 0 [.ref 144] [] from ?_))
  refine aw_aload_n rfl rfl d_R_hasRoomForFive_0 ?_
  refine aw_geti fl_R_35 kc_144 (by decide) rfl d_R_hasRoomForFive_1 ?_
  refine aw_top (x2 := nI 0) (q1) ?_
  refine aw_sipush (v := nI 380) cs_380 d_R_hasRoomForFive_4 ?_
  refine aw_icmp_gtI (tgt := 14) (0) (380) (by decide +kernel) (by decide +kernel) (by decide) d_R_hasRoomForFive_7 (fun q => absurd q (by decide)) (fun _ => ?_)
  refine aw_iconst (v := nI 1) ci_1 d_R_hasRoomForFive_10 ?_
  refine aw_goto (tgt := 15) (by decide) d_R_hasRoomForFive_11 ?_
  refine as_retz rfl (by decide +kernel) d_R_hasRoomForFive_15 ?_
  refine (show As l b 14 y_S_feed KC RC K2 (I) 7 [.ref 0, .int (x), .int (z), .int (u), .int (v), .int (c)] [.int (nI 1)] from ?_)
  refine aw_if_neI (tgt := 12) (1) (by decide +kernel) (by decide) d_S_feed_7 (fun _ => ?_) (fun q => absurd q (by decide))
  refine aw_aload_n rfl rfl d_S_feed_12 ?_
  refine aw_getr fl_S_39 kc_0 (by decide) rfl rc_0_5 d_S_feed_13 ?_
  refine aw_iload_n rfl rfl d_S_feed_16 ?_
  refine as_callV (as := [.int (x)]) (d' := 13) (q := ("SinglesUp$Reader", zT7, 13)) mo_R_take lk_S_101 kc_144 rfl rfl rfl ⟨by decide, by decide⟩ rfl rfl (by decide) d_S_feed_17 (Ss.of (show As l b 13 y_R_take KC RC _ (I) 0 [.ref 144, .int (x), uu] [] from ?_))
  refine aw_bipush (v := nI 24) cb_24 d_R_take_0 ?_
  refine aw_istore_n (lv2 := [.ref 144, .int (x), .int (nI 24)]) rfl (by decide) rfl d_R_take_2 ?_
  refine aw_iload_n rfl rfl d_R_take_3 ?_
  refine aw_if_ltI (tgt := 56) (24) (by decide +kernel) (by decide) d_R_take_4 (fun q => absurd q (by decide)) (fun _ => ?_)
  refine aw_aload_n rfl rfl d_R_take_7 ?_
  refine aw_geti fl_R_35 kc_144 (by decide) rfl d_R_take_8 ?_
  refine aw_top (x2 := nI 0) (q1) ?_
  refine aw_if_ltI (tgt := 50) (0) (by decide +kernel) (by decide) d_R_take_11 (fun q => absurd q (by decide)) (fun _ => ?_)
  refine aw_aload_n rfl rfl d_R_take_14 ?_
  refine aw_geti fl_R_35 kc_144 (by decide) rfl d_R_take_15 ?_
  refine aw_top (x2 := nI 0) (q1) ?_
  refine aw_sipush (v := nI 400) cs_400 d_R_take_18 ?_
  refine aw_icmp_geI (tgt := 50) (0) (400) (by decide +kernel) (by decide +kernel) (by decide) d_R_take_21 (fun q => absurd q (by decide)) (fun _ => ?_)
  refine aw_aload_n rfl rfl d_R_take_24 ?_
  refine aw_getr fl_R_11 kc_144 (by decide) rfl rc_144_0 d_R_take_25 ?_
  refine aw_aload_n rfl rfl d_R_take_28 ?_
  refine aw_geti fl_R_35 kc_144 (by decide) rfl d_R_take_29 ?_
  refine aw_top (x2 := nI 0) (q1) ?_
  refine aw_iload_n rfl rfl d_R_take_32 ?_
  refine aw_iload_n rfl rfl d_R_take_33 ?_
  refine aw_iushr rfl d_R_take_34 ?_
  refine aw_sipush (v := nI 255) cs_255 d_R_take_35 ?_
  refine aw_iand d_R_take_38 ?_
  refine aw_iast (j := 0) kc_145 (vp_in_nI (by decide) (by decide)) (nI_clamp (by decide)) d_R_take_39 ?_
  refine aw_aload_n rfl rfl d_R_take_40 ?_
  refine aw_dup rfl d_R_take_41 ?_
  refine aw_geti fl_R_35 kc_144 (by decide) rfl d_R_take_42 ?_
  refine aw_top (x2 := nI 0) (Eq.trans (congrFun (upd2_ne (by decide)) (1)) (q1)) ?_
  refine aw_iconst (v := nI 1) ci_1 d_R_take_45 ?_
  refine aw_iadd d_R_take_46 ?_
  refine aw_top (x2 := nI 1) (by decide +kernel) ?_
  refine aw_puti fl_R_35 kc_144 (by decide) rfl rfl rfl rfl d_R_take_47 ?_
  refine aw_iinc (v := nI 16) (lv2 := [.ref 144, .int (x), .int (nI 16)]) rfl (by decide +kernel) (by decide) rfl d_R_take_50 ?_
  refine aw_goto (tgt := 3) (by decide) d_R_take_53 ?_
  refine aw_iload_n rfl rfl d_R_take_3 ?_
  refine aw_if_ltI (tgt := 56) (16) (by decide +kernel) (by decide) d_R_take_4 (fun q => absurd q (by decide)) (fun _ => ?_)
  refine aw_aload_n rfl rfl d_R_take_7 ?_
  refine aw_geti fl_R_35 kc_144 (by decide) rfl d_R_take_8 ?_
  refine aw_top (x2 := nI 1) (upd2_eq) ?_
  refine aw_if_ltI (tgt := 50) (1) (by decide +kernel) (by decide) d_R_take_11 (fun q => absurd q (by decide)) (fun _ => ?_)
  refine aw_aload_n rfl rfl d_R_take_14 ?_
  refine aw_geti fl_R_35 kc_144 (by decide) rfl d_R_take_15 ?_
  refine aw_top (x2 := nI 1) (upd2_eq) ?_
  refine aw_sipush (v := nI 400) cs_400 d_R_take_18 ?_
  refine aw_icmp_geI (tgt := 50) (1) (400) (by decide +kernel) (by decide +kernel) (by decide) d_R_take_21 (fun q => absurd q (by decide)) (fun _ => ?_)
  refine aw_aload_n rfl rfl d_R_take_24 ?_
  refine aw_getr fl_R_11 kc_144 (by decide) rfl rc_144_0 d_R_take_25 ?_
  refine aw_aload_n rfl rfl d_R_take_28 ?_
  refine aw_geti fl_R_35 kc_144 (by decide) rfl d_R_take_29 ?_
  refine aw_top (x2 := nI 1) (upd2_eq) ?_
  refine aw_iload_n rfl rfl d_R_take_32 ?_
  refine aw_iload_n rfl rfl d_R_take_33 ?_
  refine aw_iushr rfl d_R_take_34 ?_
  refine aw_sipush (v := nI 255) cs_255 d_R_take_35 ?_
  refine aw_iand d_R_take_38 ?_
  refine aw_iast (j := 1) kc_145 (vp_in_nI (by decide) (by decide)) (nI_clamp (by decide)) d_R_take_39 ?_
  refine aw_aload_n rfl rfl d_R_take_40 ?_
  refine aw_dup rfl d_R_take_41 ?_
  refine aw_geti fl_R_35 kc_144 (by decide) rfl d_R_take_42 ?_
  refine aw_top (x2 := nI 1) (Eq.trans (congrFun (upd2_ne (by decide)) (1)) (upd2_eq)) ?_
  refine aw_iconst (v := nI 1) ci_1 d_R_take_45 ?_
  refine aw_iadd d_R_take_46 ?_
  refine aw_top (x2 := nI 2) (by decide +kernel) ?_
  refine aw_puti fl_R_35 kc_144 (by decide) rfl rfl rfl rfl d_R_take_47 ?_
  refine aw_iinc (v := nI 8) (lv2 := [.ref 144, .int (x), .int (nI 8)]) rfl (by decide +kernel) (by decide) rfl d_R_take_50 ?_
  refine aw_goto (tgt := 3) (by decide) d_R_take_53 ?_
  refine aw_iload_n rfl rfl d_R_take_3 ?_
  refine aw_if_ltI (tgt := 56) (8) (by decide +kernel) (by decide) d_R_take_4 (fun q => absurd q (by decide)) (fun _ => ?_)
  refine aw_aload_n rfl rfl d_R_take_7 ?_
  refine aw_geti fl_R_35 kc_144 (by decide) rfl d_R_take_8 ?_
  refine aw_top (x2 := nI 2) (upd2_eq) ?_
  refine aw_if_ltI (tgt := 50) (2) (by decide +kernel) (by decide) d_R_take_11 (fun q => absurd q (by decide)) (fun _ => ?_)
  refine aw_aload_n rfl rfl d_R_take_14 ?_
  refine aw_geti fl_R_35 kc_144 (by decide) rfl d_R_take_15 ?_
  refine aw_top (x2 := nI 2) (upd2_eq) ?_
  refine aw_sipush (v := nI 400) cs_400 d_R_take_18 ?_
  refine aw_icmp_geI (tgt := 50) (2) (400) (by decide +kernel) (by decide +kernel) (by decide) d_R_take_21 (fun q => absurd q (by decide)) (fun _ => ?_)
  refine aw_aload_n rfl rfl d_R_take_24 ?_
  refine aw_getr fl_R_11 kc_144 (by decide) rfl rc_144_0 d_R_take_25 ?_
  refine aw_aload_n rfl rfl d_R_take_28 ?_
  refine aw_geti fl_R_35 kc_144 (by decide) rfl d_R_take_29 ?_
  refine aw_top (x2 := nI 2) (upd2_eq) ?_
  refine aw_iload_n rfl rfl d_R_take_32 ?_
  refine aw_iload_n rfl rfl d_R_take_33 ?_
  refine aw_iushr rfl d_R_take_34 ?_
  refine aw_sipush (v := nI 255) cs_255 d_R_take_35 ?_
  refine aw_iand d_R_take_38 ?_
  refine aw_iast (j := 2) kc_145 (vp_in_nI (by decide) (by decide)) (nI_clamp (by decide)) d_R_take_39 ?_
  refine aw_aload_n rfl rfl d_R_take_40 ?_
  refine aw_dup rfl d_R_take_41 ?_
  refine aw_geti fl_R_35 kc_144 (by decide) rfl d_R_take_42 ?_
  refine aw_top (x2 := nI 2) (Eq.trans (congrFun (upd2_ne (by decide)) (1)) (upd2_eq)) ?_
  refine aw_iconst (v := nI 1) ci_1 d_R_take_45 ?_
  refine aw_iadd d_R_take_46 ?_
  refine aw_top (x2 := nI 3) (by decide +kernel) ?_
  refine aw_puti fl_R_35 kc_144 (by decide) rfl rfl rfl rfl d_R_take_47 ?_
  refine aw_iinc (v := nI 0) (lv2 := [.ref 144, .int (x), .int (nI 0)]) rfl (by decide +kernel) (by decide) rfl d_R_take_50 ?_
  refine aw_goto (tgt := 3) (by decide) d_R_take_53 ?_
  refine aw_iload_n rfl rfl d_R_take_3 ?_
  refine aw_if_ltI (tgt := 56) (0) (by decide +kernel) (by decide) d_R_take_4 (fun q => absurd q (by decide)) (fun _ => ?_)
  refine aw_aload_n rfl rfl d_R_take_7 ?_
  refine aw_geti fl_R_35 kc_144 (by decide) rfl d_R_take_8 ?_
  refine aw_top (x2 := nI 3) (upd2_eq) ?_
  refine aw_if_ltI (tgt := 50) (3) (by decide +kernel) (by decide) d_R_take_11 (fun q => absurd q (by decide)) (fun _ => ?_)
  refine aw_aload_n rfl rfl d_R_take_14 ?_
  refine aw_geti fl_R_35 kc_144 (by decide) rfl d_R_take_15 ?_
  refine aw_top (x2 := nI 3) (upd2_eq) ?_
  refine aw_sipush (v := nI 400) cs_400 d_R_take_18 ?_
  refine aw_icmp_geI (tgt := 50) (3) (400) (by decide +kernel) (by decide +kernel) (by decide) d_R_take_21 (fun q => absurd q (by decide)) (fun _ => ?_)
  refine aw_aload_n rfl rfl d_R_take_24 ?_
  refine aw_getr fl_R_11 kc_144 (by decide) rfl rc_144_0 d_R_take_25 ?_
  refine aw_aload_n rfl rfl d_R_take_28 ?_
  refine aw_geti fl_R_35 kc_144 (by decide) rfl d_R_take_29 ?_
  refine aw_top (x2 := nI 3) (upd2_eq) ?_
  refine aw_iload_n rfl rfl d_R_take_32 ?_
  refine aw_iload_n rfl rfl d_R_take_33 ?_
  refine aw_iushr rfl d_R_take_34 ?_
  refine aw_sipush (v := nI 255) cs_255 d_R_take_35 ?_
  refine aw_iand d_R_take_38 ?_
  refine aw_iast (j := 3) kc_145 (vp_in_nI (by decide) (by decide)) (nI_clamp (by decide)) d_R_take_39 ?_
  refine aw_aload_n rfl rfl d_R_take_40 ?_
  refine aw_dup rfl d_R_take_41 ?_
  refine aw_geti fl_R_35 kc_144 (by decide) rfl d_R_take_42 ?_
  refine aw_top (x2 := nI 3) (Eq.trans (congrFun (upd2_ne (by decide)) (1)) (upd2_eq)) ?_
  refine aw_iconst (v := nI 1) ci_1 d_R_take_45 ?_
  refine aw_iadd d_R_take_46 ?_
  refine aw_top (x2 := nI 4) (by decide +kernel) ?_
  refine aw_puti fl_R_35 kc_144 (by decide) rfl rfl rfl rfl d_R_take_47 ?_
  refine aw_iinc (v := (-8 : Int32)) (lv2 := [.ref 144, .int (x), .int ((-8 : Int32))]) rfl (by decide +kernel) (by decide) rfl d_R_take_50 ?_
  refine aw_goto (tgt := 3) (by decide) d_R_take_53 ?_
  refine aw_iload_n rfl rfl d_R_take_3 ?_
  refine aw_if_ltI (tgt := 56) (-8) (by decide +kernel) (by decide) d_R_take_4 (fun _ => ?_) (fun q => absurd q (by decide))
  refine as_retv rfl d_R_take_56 ?_
  refine (show As l b 14 y_S_feed KC RC K2 (upd2 (upd2 (upd2 (upd2 (upd2 (upd2 (upd2 (upd2 I 145 (0) ((((x).toUInt32 >>> ((nI 24).toUInt32 &&& Int32.toUInt32 31)).toInt32 &&& nI 255))) 144 1 (nI 1)) 145 (1) ((((x).toUInt32 >>> ((nI 16).toUInt32 &&& Int32.toUInt32 31)).toInt32 &&& nI 255))) 144 1 (nI 2)) 145 (2) ((((x).toUInt32 >>> ((nI 8).toUInt32 &&& Int32.toUInt32 31)).toInt32 &&& nI 255))) 144 1 (nI 3)) 145 (3) ((((x).toUInt32 >>> ((nI 0).toUInt32 &&& Int32.toUInt32 31)).toInt32 &&& nI 255))) 144 1 (nI 4)) 20 [.ref 0, .int (x), .int (z), .int (u), .int (v), .int (c)] [] from ?_)
  refine aw_aload_n rfl rfl d_S_feed_20 ?_
  refine aw_getr fl_S_39 kc_0 (by decide) rfl rc_0_5 d_S_feed_21 ?_
  refine aw_iload_n rfl rfl d_S_feed_24 ?_
  refine as_callV (as := [.int (z)]) (d' := 13) (q := ("SinglesUp$Reader", zT7, 13)) mo_R_take lk_S_101 kc_144 rfl rfl rfl ⟨by decide, by decide⟩ rfl rfl (by decide) d_S_feed_25 (Ss.of (show As l b 13 y_R_take KC RC _ (upd2 (upd2 (upd2 (upd2 (upd2 (upd2 (upd2 (upd2 I 145 (0) ((((x).toUInt32 >>> ((nI 24).toUInt32 &&& Int32.toUInt32 31)).toInt32 &&& nI 255))) 144 1 (nI 1)) 145 (1) ((((x).toUInt32 >>> ((nI 16).toUInt32 &&& Int32.toUInt32 31)).toInt32 &&& nI 255))) 144 1 (nI 2)) 145 (2) ((((x).toUInt32 >>> ((nI 8).toUInt32 &&& Int32.toUInt32 31)).toInt32 &&& nI 255))) 144 1 (nI 3)) 145 (3) ((((x).toUInt32 >>> ((nI 0).toUInt32 &&& Int32.toUInt32 31)).toInt32 &&& nI 255))) 144 1 (nI 4)) 0 [.ref 144, .int (z), uu] [] from ?_))
  refine aw_bipush (v := nI 24) cb_24 d_R_take_0 ?_
  refine aw_istore_n (lv2 := [.ref 144, .int (z), .int (nI 24)]) rfl (by decide) rfl d_R_take_2 ?_
  refine aw_iload_n rfl rfl d_R_take_3 ?_
  refine aw_if_ltI (tgt := 56) (24) (by decide +kernel) (by decide) d_R_take_4 (fun q => absurd q (by decide)) (fun _ => ?_)
  refine aw_aload_n rfl rfl d_R_take_7 ?_
  refine aw_geti fl_R_35 kc_144 (by decide) rfl d_R_take_8 ?_
  refine aw_top (x2 := nI 4) (upd2_eq) ?_
  refine aw_if_ltI (tgt := 50) (4) (by decide +kernel) (by decide) d_R_take_11 (fun q => absurd q (by decide)) (fun _ => ?_)
  refine aw_aload_n rfl rfl d_R_take_14 ?_
  refine aw_geti fl_R_35 kc_144 (by decide) rfl d_R_take_15 ?_
  refine aw_top (x2 := nI 4) (upd2_eq) ?_
  refine aw_sipush (v := nI 400) cs_400 d_R_take_18 ?_
  refine aw_icmp_geI (tgt := 50) (4) (400) (by decide +kernel) (by decide +kernel) (by decide) d_R_take_21 (fun q => absurd q (by decide)) (fun _ => ?_)
  refine aw_aload_n rfl rfl d_R_take_24 ?_
  refine aw_getr fl_R_11 kc_144 (by decide) rfl rc_144_0 d_R_take_25 ?_
  refine aw_aload_n rfl rfl d_R_take_28 ?_
  refine aw_geti fl_R_35 kc_144 (by decide) rfl d_R_take_29 ?_
  refine aw_top (x2 := nI 4) (upd2_eq) ?_
  refine aw_iload_n rfl rfl d_R_take_32 ?_
  refine aw_iload_n rfl rfl d_R_take_33 ?_
  refine aw_iushr rfl d_R_take_34 ?_
  refine aw_sipush (v := nI 255) cs_255 d_R_take_35 ?_
  refine aw_iand d_R_take_38 ?_
  refine aw_iast (j := 4) kc_145 (vp_in_nI (by decide) (by decide)) (nI_clamp (by decide)) d_R_take_39 ?_
  refine aw_aload_n rfl rfl d_R_take_40 ?_
  refine aw_dup rfl d_R_take_41 ?_
  refine aw_geti fl_R_35 kc_144 (by decide) rfl d_R_take_42 ?_
  refine aw_top (x2 := nI 4) (Eq.trans (congrFun (upd2_ne (by decide)) (1)) (upd2_eq)) ?_
  refine aw_iconst (v := nI 1) ci_1 d_R_take_45 ?_
  refine aw_iadd d_R_take_46 ?_
  refine aw_top (x2 := nI 5) (by decide +kernel) ?_
  refine aw_puti fl_R_35 kc_144 (by decide) rfl rfl rfl rfl d_R_take_47 ?_
  refine aw_iinc (v := nI 16) (lv2 := [.ref 144, .int (z), .int (nI 16)]) rfl (by decide +kernel) (by decide) rfl d_R_take_50 ?_
  refine aw_goto (tgt := 3) (by decide) d_R_take_53 ?_
  refine aw_iload_n rfl rfl d_R_take_3 ?_
  refine aw_if_ltI (tgt := 56) (16) (by decide +kernel) (by decide) d_R_take_4 (fun q => absurd q (by decide)) (fun _ => ?_)
  refine aw_aload_n rfl rfl d_R_take_7 ?_
  refine aw_geti fl_R_35 kc_144 (by decide) rfl d_R_take_8 ?_
  refine aw_top (x2 := nI 5) (upd2_eq) ?_
  refine aw_if_ltI (tgt := 50) (5) (by decide +kernel) (by decide) d_R_take_11 (fun q => absurd q (by decide)) (fun _ => ?_)
  refine aw_aload_n rfl rfl d_R_take_14 ?_
  refine aw_geti fl_R_35 kc_144 (by decide) rfl d_R_take_15 ?_
  refine aw_top (x2 := nI 5) (upd2_eq) ?_
  refine aw_sipush (v := nI 400) cs_400 d_R_take_18 ?_
  refine aw_icmp_geI (tgt := 50) (5) (400) (by decide +kernel) (by decide +kernel) (by decide) d_R_take_21 (fun q => absurd q (by decide)) (fun _ => ?_)
  refine aw_aload_n rfl rfl d_R_take_24 ?_
  refine aw_getr fl_R_11 kc_144 (by decide) rfl rc_144_0 d_R_take_25 ?_
  refine aw_aload_n rfl rfl d_R_take_28 ?_
  refine aw_geti fl_R_35 kc_144 (by decide) rfl d_R_take_29 ?_
  refine aw_top (x2 := nI 5) (upd2_eq) ?_
  refine aw_iload_n rfl rfl d_R_take_32 ?_
  refine aw_iload_n rfl rfl d_R_take_33 ?_
  refine aw_iushr rfl d_R_take_34 ?_
  refine aw_sipush (v := nI 255) cs_255 d_R_take_35 ?_
  refine aw_iand d_R_take_38 ?_
  refine aw_iast (j := 5) kc_145 (vp_in_nI (by decide) (by decide)) (nI_clamp (by decide)) d_R_take_39 ?_
  refine aw_aload_n rfl rfl d_R_take_40 ?_
  refine aw_dup rfl d_R_take_41 ?_
  refine aw_geti fl_R_35 kc_144 (by decide) rfl d_R_take_42 ?_
  refine aw_top (x2 := nI 5) (Eq.trans (congrFun (upd2_ne (by decide)) (1)) (upd2_eq)) ?_
  refine aw_iconst (v := nI 1) ci_1 d_R_take_45 ?_
  refine aw_iadd d_R_take_46 ?_
  refine aw_top (x2 := nI 6) (by decide +kernel) ?_
  refine aw_puti fl_R_35 kc_144 (by decide) rfl rfl rfl rfl d_R_take_47 ?_
  refine aw_iinc (v := nI 8) (lv2 := [.ref 144, .int (z), .int (nI 8)]) rfl (by decide +kernel) (by decide) rfl d_R_take_50 ?_
  refine aw_goto (tgt := 3) (by decide) d_R_take_53 ?_
  refine aw_iload_n rfl rfl d_R_take_3 ?_
  refine aw_if_ltI (tgt := 56) (8) (by decide +kernel) (by decide) d_R_take_4 (fun q => absurd q (by decide)) (fun _ => ?_)
  refine aw_aload_n rfl rfl d_R_take_7 ?_
  refine aw_geti fl_R_35 kc_144 (by decide) rfl d_R_take_8 ?_
  refine aw_top (x2 := nI 6) (upd2_eq) ?_
  refine aw_if_ltI (tgt := 50) (6) (by decide +kernel) (by decide) d_R_take_11 (fun q => absurd q (by decide)) (fun _ => ?_)
  refine aw_aload_n rfl rfl d_R_take_14 ?_
  refine aw_geti fl_R_35 kc_144 (by decide) rfl d_R_take_15 ?_
  refine aw_top (x2 := nI 6) (upd2_eq) ?_
  refine aw_sipush (v := nI 400) cs_400 d_R_take_18 ?_
  refine aw_icmp_geI (tgt := 50) (6) (400) (by decide +kernel) (by decide +kernel) (by decide) d_R_take_21 (fun q => absurd q (by decide)) (fun _ => ?_)
  refine aw_aload_n rfl rfl d_R_take_24 ?_
  refine aw_getr fl_R_11 kc_144 (by decide) rfl rc_144_0 d_R_take_25 ?_
  refine aw_aload_n rfl rfl d_R_take_28 ?_
  refine aw_geti fl_R_35 kc_144 (by decide) rfl d_R_take_29 ?_
  refine aw_top (x2 := nI 6) (upd2_eq) ?_
  refine aw_iload_n rfl rfl d_R_take_32 ?_
  refine aw_iload_n rfl rfl d_R_take_33 ?_
  refine aw_iushr rfl d_R_take_34 ?_
  refine aw_sipush (v := nI 255) cs_255 d_R_take_35 ?_
  refine aw_iand d_R_take_38 ?_
  refine aw_iast (j := 6) kc_145 (vp_in_nI (by decide) (by decide)) (nI_clamp (by decide)) d_R_take_39 ?_
  refine aw_aload_n rfl rfl d_R_take_40 ?_
  refine aw_dup rfl d_R_take_41 ?_
  refine aw_geti fl_R_35 kc_144 (by decide) rfl d_R_take_42 ?_
  refine aw_top (x2 := nI 6) (Eq.trans (congrFun (upd2_ne (by decide)) (1)) (upd2_eq)) ?_
  refine aw_iconst (v := nI 1) ci_1 d_R_take_45 ?_
  refine aw_iadd d_R_take_46 ?_
  refine aw_top (x2 := nI 7) (by decide +kernel) ?_
  refine aw_puti fl_R_35 kc_144 (by decide) rfl rfl rfl rfl d_R_take_47 ?_
  refine aw_iinc (v := nI 0) (lv2 := [.ref 144, .int (z), .int (nI 0)]) rfl (by decide +kernel) (by decide) rfl d_R_take_50 ?_
  refine aw_goto (tgt := 3) (by decide) d_R_take_53 ?_
  refine aw_iload_n rfl rfl d_R_take_3 ?_
  refine aw_if_ltI (tgt := 56) (0) (by decide +kernel) (by decide) d_R_take_4 (fun q => absurd q (by decide)) (fun _ => ?_)
  refine aw_aload_n rfl rfl d_R_take_7 ?_
  refine aw_geti fl_R_35 kc_144 (by decide) rfl d_R_take_8 ?_
  refine aw_top (x2 := nI 7) (upd2_eq) ?_
  refine aw_if_ltI (tgt := 50) (7) (by decide +kernel) (by decide) d_R_take_11 (fun q => absurd q (by decide)) (fun _ => ?_)
  refine aw_aload_n rfl rfl d_R_take_14 ?_
  refine aw_geti fl_R_35 kc_144 (by decide) rfl d_R_take_15 ?_
  refine aw_top (x2 := nI 7) (upd2_eq) ?_
  refine aw_sipush (v := nI 400) cs_400 d_R_take_18 ?_
  refine aw_icmp_geI (tgt := 50) (7) (400) (by decide +kernel) (by decide +kernel) (by decide) d_R_take_21 (fun q => absurd q (by decide)) (fun _ => ?_)
  refine aw_aload_n rfl rfl d_R_take_24 ?_
  refine aw_getr fl_R_11 kc_144 (by decide) rfl rc_144_0 d_R_take_25 ?_
  refine aw_aload_n rfl rfl d_R_take_28 ?_
  refine aw_geti fl_R_35 kc_144 (by decide) rfl d_R_take_29 ?_
  refine aw_top (x2 := nI 7) (upd2_eq) ?_
  refine aw_iload_n rfl rfl d_R_take_32 ?_
  refine aw_iload_n rfl rfl d_R_take_33 ?_
  refine aw_iushr rfl d_R_take_34 ?_
  refine aw_sipush (v := nI 255) cs_255 d_R_take_35 ?_
  refine aw_iand d_R_take_38 ?_
  refine aw_iast (j := 7) kc_145 (vp_in_nI (by decide) (by decide)) (nI_clamp (by decide)) d_R_take_39 ?_
  refine aw_aload_n rfl rfl d_R_take_40 ?_
  refine aw_dup rfl d_R_take_41 ?_
  refine aw_geti fl_R_35 kc_144 (by decide) rfl d_R_take_42 ?_
  refine aw_top (x2 := nI 7) (Eq.trans (congrFun (upd2_ne (by decide)) (1)) (upd2_eq)) ?_
  refine aw_iconst (v := nI 1) ci_1 d_R_take_45 ?_
  refine aw_iadd d_R_take_46 ?_
  refine aw_top (x2 := nI 8) (by decide +kernel) ?_
  refine aw_puti fl_R_35 kc_144 (by decide) rfl rfl rfl rfl d_R_take_47 ?_
  refine aw_iinc (v := (-8 : Int32)) (lv2 := [.ref 144, .int (z), .int ((-8 : Int32))]) rfl (by decide +kernel) (by decide) rfl d_R_take_50 ?_
  refine aw_goto (tgt := 3) (by decide) d_R_take_53 ?_
  refine aw_iload_n rfl rfl d_R_take_3 ?_
  refine aw_if_ltI (tgt := 56) (-8) (by decide +kernel) (by decide) d_R_take_4 (fun _ => ?_) (fun q => absurd q (by decide))
  refine as_retv rfl d_R_take_56 ?_
  refine (show As l b 14 y_S_feed KC RC K2 (upd2 (upd2 (upd2 (upd2 (upd2 (upd2 (upd2 (upd2 (upd2 (upd2 (upd2 (upd2 (upd2 (upd2 (upd2 (upd2 I 145 (0) ((((x).toUInt32 >>> ((nI 24).toUInt32 &&& Int32.toUInt32 31)).toInt32 &&& nI 255))) 144 1 (nI 1)) 145 (1) ((((x).toUInt32 >>> ((nI 16).toUInt32 &&& Int32.toUInt32 31)).toInt32 &&& nI 255))) 144 1 (nI 2)) 145 (2) ((((x).toUInt32 >>> ((nI 8).toUInt32 &&& Int32.toUInt32 31)).toInt32 &&& nI 255))) 144 1 (nI 3)) 145 (3) ((((x).toUInt32 >>> ((nI 0).toUInt32 &&& Int32.toUInt32 31)).toInt32 &&& nI 255))) 144 1 (nI 4)) 145 (4) ((((z).toUInt32 >>> ((nI 24).toUInt32 &&& Int32.toUInt32 31)).toInt32 &&& nI 255))) 144 1 (nI 5)) 145 (5) ((((z).toUInt32 >>> ((nI 16).toUInt32 &&& Int32.toUInt32 31)).toInt32 &&& nI 255))) 144 1 (nI 6)) 145 (6) ((((z).toUInt32 >>> ((nI 8).toUInt32 &&& Int32.toUInt32 31)).toInt32 &&& nI 255))) 144 1 (nI 7)) 145 (7) ((((z).toUInt32 >>> ((nI 0).toUInt32 &&& Int32.toUInt32 31)).toInt32 &&& nI 255))) 144 1 (nI 8)) 28 [.ref 0, .int (x), .int (z), .int (u), .int (v), .int (c)] [] from ?_)
  refine aw_aload_n rfl rfl d_S_feed_28 ?_
  refine aw_getr fl_S_39 kc_0 (by decide) rfl rc_0_5 d_S_feed_29 ?_
  refine aw_iload_n rfl rfl d_S_feed_32 ?_
  refine as_callV (as := [.int (u)]) (d' := 13) (q := ("SinglesUp$Reader", zT7, 13)) mo_R_take lk_S_101 kc_144 rfl rfl rfl ⟨by decide, by decide⟩ rfl rfl (by decide) d_S_feed_33 (Ss.of (show As l b 13 y_R_take KC RC _ (upd2 (upd2 (upd2 (upd2 (upd2 (upd2 (upd2 (upd2 (upd2 (upd2 (upd2 (upd2 (upd2 (upd2 (upd2 (upd2 I 145 (0) ((((x).toUInt32 >>> ((nI 24).toUInt32 &&& Int32.toUInt32 31)).toInt32 &&& nI 255))) 144 1 (nI 1)) 145 (1) ((((x).toUInt32 >>> ((nI 16).toUInt32 &&& Int32.toUInt32 31)).toInt32 &&& nI 255))) 144 1 (nI 2)) 145 (2) ((((x).toUInt32 >>> ((nI 8).toUInt32 &&& Int32.toUInt32 31)).toInt32 &&& nI 255))) 144 1 (nI 3)) 145 (3) ((((x).toUInt32 >>> ((nI 0).toUInt32 &&& Int32.toUInt32 31)).toInt32 &&& nI 255))) 144 1 (nI 4)) 145 (4) ((((z).toUInt32 >>> ((nI 24).toUInt32 &&& Int32.toUInt32 31)).toInt32 &&& nI 255))) 144 1 (nI 5)) 145 (5) ((((z).toUInt32 >>> ((nI 16).toUInt32 &&& Int32.toUInt32 31)).toInt32 &&& nI 255))) 144 1 (nI 6)) 145 (6) ((((z).toUInt32 >>> ((nI 8).toUInt32 &&& Int32.toUInt32 31)).toInt32 &&& nI 255))) 144 1 (nI 7)) 145 (7) ((((z).toUInt32 >>> ((nI 0).toUInt32 &&& Int32.toUInt32 31)).toInt32 &&& nI 255))) 144 1 (nI 8)) 0 [.ref 144, .int (u), uu] [] from ?_))
  refine aw_bipush (v := nI 24) cb_24 d_R_take_0 ?_
  refine aw_istore_n (lv2 := [.ref 144, .int (u), .int (nI 24)]) rfl (by decide) rfl d_R_take_2 ?_
  refine aw_iload_n rfl rfl d_R_take_3 ?_
  refine aw_if_ltI (tgt := 56) (24) (by decide +kernel) (by decide) d_R_take_4 (fun q => absurd q (by decide)) (fun _ => ?_)
  refine aw_aload_n rfl rfl d_R_take_7 ?_
  refine aw_geti fl_R_35 kc_144 (by decide) rfl d_R_take_8 ?_
  refine aw_top (x2 := nI 8) (upd2_eq) ?_
  refine aw_if_ltI (tgt := 50) (8) (by decide +kernel) (by decide) d_R_take_11 (fun q => absurd q (by decide)) (fun _ => ?_)
  refine aw_aload_n rfl rfl d_R_take_14 ?_
  refine aw_geti fl_R_35 kc_144 (by decide) rfl d_R_take_15 ?_
  refine aw_top (x2 := nI 8) (upd2_eq) ?_
  refine aw_sipush (v := nI 400) cs_400 d_R_take_18 ?_
  refine aw_icmp_geI (tgt := 50) (8) (400) (by decide +kernel) (by decide +kernel) (by decide) d_R_take_21 (fun q => absurd q (by decide)) (fun _ => ?_)
  refine aw_aload_n rfl rfl d_R_take_24 ?_
  refine aw_getr fl_R_11 kc_144 (by decide) rfl rc_144_0 d_R_take_25 ?_
  refine aw_aload_n rfl rfl d_R_take_28 ?_
  refine aw_geti fl_R_35 kc_144 (by decide) rfl d_R_take_29 ?_
  refine aw_top (x2 := nI 8) (upd2_eq) ?_
  refine aw_iload_n rfl rfl d_R_take_32 ?_
  refine aw_iload_n rfl rfl d_R_take_33 ?_
  refine aw_iushr rfl d_R_take_34 ?_
  refine aw_sipush (v := nI 255) cs_255 d_R_take_35 ?_
  refine aw_iand d_R_take_38 ?_
  refine aw_iast (j := 8) kc_145 (vp_in_nI (by decide) (by decide)) (nI_clamp (by decide)) d_R_take_39 ?_
  refine aw_aload_n rfl rfl d_R_take_40 ?_
  refine aw_dup rfl d_R_take_41 ?_
  refine aw_geti fl_R_35 kc_144 (by decide) rfl d_R_take_42 ?_
  refine aw_top (x2 := nI 8) (Eq.trans (congrFun (upd2_ne (by decide)) (1)) (upd2_eq)) ?_
  refine aw_iconst (v := nI 1) ci_1 d_R_take_45 ?_
  refine aw_iadd d_R_take_46 ?_
  refine aw_top (x2 := nI 9) (by decide +kernel) ?_
  refine aw_puti fl_R_35 kc_144 (by decide) rfl rfl rfl rfl d_R_take_47 ?_
  refine aw_iinc (v := nI 16) (lv2 := [.ref 144, .int (u), .int (nI 16)]) rfl (by decide +kernel) (by decide) rfl d_R_take_50 ?_
  refine aw_goto (tgt := 3) (by decide) d_R_take_53 ?_
  refine aw_iload_n rfl rfl d_R_take_3 ?_
  refine aw_if_ltI (tgt := 56) (16) (by decide +kernel) (by decide) d_R_take_4 (fun q => absurd q (by decide)) (fun _ => ?_)
  refine aw_aload_n rfl rfl d_R_take_7 ?_
  refine aw_geti fl_R_35 kc_144 (by decide) rfl d_R_take_8 ?_
  refine aw_top (x2 := nI 9) (upd2_eq) ?_
  refine aw_if_ltI (tgt := 50) (9) (by decide +kernel) (by decide) d_R_take_11 (fun q => absurd q (by decide)) (fun _ => ?_)
  refine aw_aload_n rfl rfl d_R_take_14 ?_
  refine aw_geti fl_R_35 kc_144 (by decide) rfl d_R_take_15 ?_
  refine aw_top (x2 := nI 9) (upd2_eq) ?_
  refine aw_sipush (v := nI 400) cs_400 d_R_take_18 ?_
  refine aw_icmp_geI (tgt := 50) (9) (400) (by decide +kernel) (by decide +kernel) (by decide) d_R_take_21 (fun q => absurd q (by decide)) (fun _ => ?_)
  refine aw_aload_n rfl rfl d_R_take_24 ?_
  refine aw_getr fl_R_11 kc_144 (by decide) rfl rc_144_0 d_R_take_25 ?_
  refine aw_aload_n rfl rfl d_R_take_28 ?_
  refine aw_geti fl_R_35 kc_144 (by decide) rfl d_R_take_29 ?_
  refine aw_top (x2 := nI 9) (upd2_eq) ?_
  refine aw_iload_n rfl rfl d_R_take_32 ?_
  refine aw_iload_n rfl rfl d_R_take_33 ?_
  refine aw_iushr rfl d_R_take_34 ?_
  refine aw_sipush (v := nI 255) cs_255 d_R_take_35 ?_
  refine aw_iand d_R_take_38 ?_
  refine aw_iast (j := 9) kc_145 (vp_in_nI (by decide) (by decide)) (nI_clamp (by decide)) d_R_take_39 ?_
  refine aw_aload_n rfl rfl d_R_take_40 ?_
  refine aw_dup rfl d_R_take_41 ?_
  refine aw_geti fl_R_35 kc_144 (by decide) rfl d_R_take_42 ?_
  refine aw_top (x2 := nI 9) (Eq.trans (congrFun (upd2_ne (by decide)) (1)) (upd2_eq)) ?_
  refine aw_iconst (v := nI 1) ci_1 d_R_take_45 ?_
  refine aw_iadd d_R_take_46 ?_
  refine aw_top (x2 := nI 10) (by decide +kernel) ?_
  refine aw_puti fl_R_35 kc_144 (by decide) rfl rfl rfl rfl d_R_take_47 ?_
  refine aw_iinc (v := nI 8) (lv2 := [.ref 144, .int (u), .int (nI 8)]) rfl (by decide +kernel) (by decide) rfl d_R_take_50 ?_
  refine aw_goto (tgt := 3) (by decide) d_R_take_53 ?_
  refine aw_iload_n rfl rfl d_R_take_3 ?_
  refine aw_if_ltI (tgt := 56) (8) (by decide +kernel) (by decide) d_R_take_4 (fun q => absurd q (by decide)) (fun _ => ?_)
  refine aw_aload_n rfl rfl d_R_take_7 ?_
  refine aw_geti fl_R_35 kc_144 (by decide) rfl d_R_take_8 ?_
  refine aw_top (x2 := nI 10) (upd2_eq) ?_
  refine aw_if_ltI (tgt := 50) (10) (by decide +kernel) (by decide) d_R_take_11 (fun q => absurd q (by decide)) (fun _ => ?_)
  refine aw_aload_n rfl rfl d_R_take_14 ?_
  refine aw_geti fl_R_35 kc_144 (by decide) rfl d_R_take_15 ?_
  refine aw_top (x2 := nI 10) (upd2_eq) ?_
  refine aw_sipush (v := nI 400) cs_400 d_R_take_18 ?_
  refine aw_icmp_geI (tgt := 50) (10) (400) (by decide +kernel) (by decide +kernel) (by decide) d_R_take_21 (fun q => absurd q (by decide)) (fun _ => ?_)
  refine aw_aload_n rfl rfl d_R_take_24 ?_
  refine aw_getr fl_R_11 kc_144 (by decide) rfl rc_144_0 d_R_take_25 ?_
  refine aw_aload_n rfl rfl d_R_take_28 ?_
  refine aw_geti fl_R_35 kc_144 (by decide) rfl d_R_take_29 ?_
  refine aw_top (x2 := nI 10) (upd2_eq) ?_
  refine aw_iload_n rfl rfl d_R_take_32 ?_
  refine aw_iload_n rfl rfl d_R_take_33 ?_
  refine aw_iushr rfl d_R_take_34 ?_
  refine aw_sipush (v := nI 255) cs_255 d_R_take_35 ?_
  refine aw_iand d_R_take_38 ?_
  refine aw_iast (j := 10) kc_145 (vp_in_nI (by decide) (by decide)) (nI_clamp (by decide)) d_R_take_39 ?_
  refine aw_aload_n rfl rfl d_R_take_40 ?_
  refine aw_dup rfl d_R_take_41 ?_
  refine aw_geti fl_R_35 kc_144 (by decide) rfl d_R_take_42 ?_
  refine aw_top (x2 := nI 10) (Eq.trans (congrFun (upd2_ne (by decide)) (1)) (upd2_eq)) ?_
  refine aw_iconst (v := nI 1) ci_1 d_R_take_45 ?_
  refine aw_iadd d_R_take_46 ?_
  refine aw_top (x2 := nI 11) (by decide +kernel) ?_
  refine aw_puti fl_R_35 kc_144 (by decide) rfl rfl rfl rfl d_R_take_47 ?_
  refine aw_iinc (v := nI 0) (lv2 := [.ref 144, .int (u), .int (nI 0)]) rfl (by decide +kernel) (by decide) rfl d_R_take_50 ?_
  refine aw_goto (tgt := 3) (by decide) d_R_take_53 ?_
  refine aw_iload_n rfl rfl d_R_take_3 ?_
  refine aw_if_ltI (tgt := 56) (0) (by decide +kernel) (by decide) d_R_take_4 (fun q => absurd q (by decide)) (fun _ => ?_)
  refine aw_aload_n rfl rfl d_R_take_7 ?_
  refine aw_geti fl_R_35 kc_144 (by decide) rfl d_R_take_8 ?_
  refine aw_top (x2 := nI 11) (upd2_eq) ?_
  refine aw_if_ltI (tgt := 50) (11) (by decide +kernel) (by decide) d_R_take_11 (fun q => absurd q (by decide)) (fun _ => ?_)
  refine aw_aload_n rfl rfl d_R_take_14 ?_
  refine aw_geti fl_R_35 kc_144 (by decide) rfl d_R_take_15 ?_
  refine aw_top (x2 := nI 11) (upd2_eq) ?_
  refine aw_sipush (v := nI 400) cs_400 d_R_take_18 ?_
  refine aw_icmp_geI (tgt := 50) (11) (400) (by decide +kernel) (by decide +kernel) (by decide) d_R_take_21 (fun q => absurd q (by decide)) (fun _ => ?_)
  refine aw_aload_n rfl rfl d_R_take_24 ?_
  refine aw_getr fl_R_11 kc_144 (by decide) rfl rc_144_0 d_R_take_25 ?_
  refine aw_aload_n rfl rfl d_R_take_28 ?_
  refine aw_geti fl_R_35 kc_144 (by decide) rfl d_R_take_29 ?_
  refine aw_top (x2 := nI 11) (upd2_eq) ?_
  refine aw_iload_n rfl rfl d_R_take_32 ?_
  refine aw_iload_n rfl rfl d_R_take_33 ?_
  refine aw_iushr rfl d_R_take_34 ?_
  refine aw_sipush (v := nI 255) cs_255 d_R_take_35 ?_
  refine aw_iand d_R_take_38 ?_
  refine aw_iast (j := 11) kc_145 (vp_in_nI (by decide) (by decide)) (nI_clamp (by decide)) d_R_take_39 ?_
  refine aw_aload_n rfl rfl d_R_take_40 ?_
  refine aw_dup rfl d_R_take_41 ?_
  refine aw_geti fl_R_35 kc_144 (by decide) rfl d_R_take_42 ?_
  refine aw_top (x2 := nI 11) (Eq.trans (congrFun (upd2_ne (by decide)) (1)) (upd2_eq)) ?_
  refine aw_iconst (v := nI 1) ci_1 d_R_take_45 ?_
  refine aw_iadd d_R_take_46 ?_
  refine aw_top (x2 := nI 12) (by decide +kernel) ?_
  refine aw_puti fl_R_35 kc_144 (by decide) rfl rfl rfl rfl d_R_take_47 ?_
  refine aw_iinc (v := (-8 : Int32)) (lv2 := [.ref 144, .int (u), .int ((-8 : Int32))]) rfl (by decide +kernel) (by decide) rfl d_R_take_50 ?_
  refine aw_goto (tgt := 3) (by decide) d_R_take_53 ?_
  refine aw_iload_n rfl rfl d_R_take_3 ?_
  refine aw_if_ltI (tgt := 56) (-8) (by decide +kernel) (by decide) d_R_take_4 (fun _ => ?_) (fun q => absurd q (by decide))
  refine as_retv rfl d_R_take_56 ?_
  refine (show As l b 14 y_S_feed KC RC K2 (upd2 (upd2 (upd2 (upd2 (upd2 (upd2 (upd2 (upd2 (upd2 (upd2 (upd2 (upd2 (upd2 (upd2 (upd2 (upd2 (upd2 (upd2 (upd2 (upd2 (upd2 (upd2 (upd2 (upd2 I 145 (0) ((((x).toUInt32 >>> ((nI 24).toUInt32 &&& Int32.toUInt32 31)).toInt32 &&& nI 255))) 144 1 (nI 1)) 145 (1) ((((x).toUInt32 >>> ((nI 16).toUInt32 &&& Int32.toUInt32 31)).toInt32 &&& nI 255))) 144 1 (nI 2)) 145 (2) ((((x).toUInt32 >>> ((nI 8).toUInt32 &&& Int32.toUInt32 31)).toInt32 &&& nI 255))) 144 1 (nI 3)) 145 (3) ((((x).toUInt32 >>> ((nI 0).toUInt32 &&& Int32.toUInt32 31)).toInt32 &&& nI 255))) 144 1 (nI 4)) 145 (4) ((((z).toUInt32 >>> ((nI 24).toUInt32 &&& Int32.toUInt32 31)).toInt32 &&& nI 255))) 144 1 (nI 5)) 145 (5) ((((z).toUInt32 >>> ((nI 16).toUInt32 &&& Int32.toUInt32 31)).toInt32 &&& nI 255))) 144 1 (nI 6)) 145 (6) ((((z).toUInt32 >>> ((nI 8).toUInt32 &&& Int32.toUInt32 31)).toInt32 &&& nI 255))) 144 1 (nI 7)) 145 (7) ((((z).toUInt32 >>> ((nI 0).toUInt32 &&& Int32.toUInt32 31)).toInt32 &&& nI 255))) 144 1 (nI 8)) 145 (8) ((((u).toUInt32 >>> ((nI 24).toUInt32 &&& Int32.toUInt32 31)).toInt32 &&& nI 255))) 144 1 (nI 9)) 145 (9) ((((u).toUInt32 >>> ((nI 16).toUInt32 &&& Int32.toUInt32 31)).toInt32 &&& nI 255))) 144 1 (nI 10)) 145 (10) ((((u).toUInt32 >>> ((nI 8).toUInt32 &&& Int32.toUInt32 31)).toInt32 &&& nI 255))) 144 1 (nI 11)) 145 (11) ((((u).toUInt32 >>> ((nI 0).toUInt32 &&& Int32.toUInt32 31)).toInt32 &&& nI 255))) 144 1 (nI 12)) 36 [.ref 0, .int (x), .int (z), .int (u), .int (v), .int (c)] [] from ?_)
  refine aw_aload_n rfl rfl d_S_feed_36 ?_
  refine aw_getr fl_S_39 kc_0 (by decide) rfl rc_0_5 d_S_feed_37 ?_
  refine aw_iload rfl d_S_feed_40 ?_
  refine as_callV (as := [.int (v)]) (d' := 13) (q := ("SinglesUp$Reader", zT7, 13)) mo_R_take lk_S_101 kc_144 rfl rfl rfl ⟨by decide, by decide⟩ rfl rfl (by decide) d_S_feed_42 (Ss.of (show As l b 13 y_R_take KC RC _ (upd2 (upd2 (upd2 (upd2 (upd2 (upd2 (upd2 (upd2 (upd2 (upd2 (upd2 (upd2 (upd2 (upd2 (upd2 (upd2 (upd2 (upd2 (upd2 (upd2 (upd2 (upd2 (upd2 (upd2 I 145 (0) ((((x).toUInt32 >>> ((nI 24).toUInt32 &&& Int32.toUInt32 31)).toInt32 &&& nI 255))) 144 1 (nI 1)) 145 (1) ((((x).toUInt32 >>> ((nI 16).toUInt32 &&& Int32.toUInt32 31)).toInt32 &&& nI 255))) 144 1 (nI 2)) 145 (2) ((((x).toUInt32 >>> ((nI 8).toUInt32 &&& Int32.toUInt32 31)).toInt32 &&& nI 255))) 144 1 (nI 3)) 145 (3) ((((x).toUInt32 >>> ((nI 0).toUInt32 &&& Int32.toUInt32 31)).toInt32 &&& nI 255))) 144 1 (nI 4)) 145 (4) ((((z).toUInt32 >>> ((nI 24).toUInt32 &&& Int32.toUInt32 31)).toInt32 &&& nI 255))) 144 1 (nI 5)) 145 (5) ((((z).toUInt32 >>> ((nI 16).toUInt32 &&& Int32.toUInt32 31)).toInt32 &&& nI 255))) 144 1 (nI 6)) 145 (6) ((((z).toUInt32 >>> ((nI 8).toUInt32 &&& Int32.toUInt32 31)).toInt32 &&& nI 255))) 144 1 (nI 7)) 145 (7) ((((z).toUInt32 >>> ((nI 0).toUInt32 &&& Int32.toUInt32 31)).toInt32 &&& nI 255))) 144 1 (nI 8)) 145 (8) ((((u).toUInt32 >>> ((nI 24).toUInt32 &&& Int32.toUInt32 31)).toInt32 &&& nI 255))) 144 1 (nI 9)) 145 (9) ((((u).toUInt32 >>> ((nI 16).toUInt32 &&& Int32.toUInt32 31)).toInt32 &&& nI 255))) 144 1 (nI 10)) 145 (10) ((((u).toUInt32 >>> ((nI 8).toUInt32 &&& Int32.toUInt32 31)).toInt32 &&& nI 255))) 144 1 (nI 11)) 145 (11) ((((u).toUInt32 >>> ((nI 0).toUInt32 &&& Int32.toUInt32 31)).toInt32 &&& nI 255))) 144 1 (nI 12)) 0 [.ref 144, .int (v), uu] [] from ?_))
  refine aw_bipush (v := nI 24) cb_24 d_R_take_0 ?_
  refine aw_istore_n (lv2 := [.ref 144, .int (v), .int (nI 24)]) rfl (by decide) rfl d_R_take_2 ?_
  refine aw_iload_n rfl rfl d_R_take_3 ?_
  refine aw_if_ltI (tgt := 56) (24) (by decide +kernel) (by decide) d_R_take_4 (fun q => absurd q (by decide)) (fun _ => ?_)
  refine aw_aload_n rfl rfl d_R_take_7 ?_
  refine aw_geti fl_R_35 kc_144 (by decide) rfl d_R_take_8 ?_
  refine aw_top (x2 := nI 12) (upd2_eq) ?_
  refine aw_if_ltI (tgt := 50) (12) (by decide +kernel) (by decide) d_R_take_11 (fun q => absurd q (by decide)) (fun _ => ?_)
  refine aw_aload_n rfl rfl d_R_take_14 ?_
  refine aw_geti fl_R_35 kc_144 (by decide) rfl d_R_take_15 ?_
  refine aw_top (x2 := nI 12) (upd2_eq) ?_
  refine aw_sipush (v := nI 400) cs_400 d_R_take_18 ?_
  refine aw_icmp_geI (tgt := 50) (12) (400) (by decide +kernel) (by decide +kernel) (by decide) d_R_take_21 (fun q => absurd q (by decide)) (fun _ => ?_)
  refine aw_aload_n rfl rfl d_R_take_24 ?_
  refine aw_getr fl_R_11 kc_144 (by decide) rfl rc_144_0 d_R_take_25 ?_
  refine aw_aload_n rfl rfl d_R_take_28 ?_
  refine aw_geti fl_R_35 kc_144 (by decide) rfl d_R_take_29 ?_
  refine aw_top (x2 := nI 12) (upd2_eq) ?_
  refine aw_iload_n rfl rfl d_R_take_32 ?_
  refine aw_iload_n rfl rfl d_R_take_33 ?_
  refine aw_iushr rfl d_R_take_34 ?_
  refine aw_sipush (v := nI 255) cs_255 d_R_take_35 ?_
  refine aw_iand d_R_take_38 ?_
  refine aw_iast (j := 12) kc_145 (vp_in_nI (by decide) (by decide)) (nI_clamp (by decide)) d_R_take_39 ?_
  refine aw_aload_n rfl rfl d_R_take_40 ?_
  refine aw_dup rfl d_R_take_41 ?_
  refine aw_geti fl_R_35 kc_144 (by decide) rfl d_R_take_42 ?_
  refine aw_top (x2 := nI 12) (Eq.trans (congrFun (upd2_ne (by decide)) (1)) (upd2_eq)) ?_
  refine aw_iconst (v := nI 1) ci_1 d_R_take_45 ?_
  refine aw_iadd d_R_take_46 ?_
  refine aw_top (x2 := nI 13) (by decide +kernel) ?_
  refine aw_puti fl_R_35 kc_144 (by decide) rfl rfl rfl rfl d_R_take_47 ?_
  refine aw_iinc (v := nI 16) (lv2 := [.ref 144, .int (v), .int (nI 16)]) rfl (by decide +kernel) (by decide) rfl d_R_take_50 ?_
  refine aw_goto (tgt := 3) (by decide) d_R_take_53 ?_
  refine aw_iload_n rfl rfl d_R_take_3 ?_
  refine aw_if_ltI (tgt := 56) (16) (by decide +kernel) (by decide) d_R_take_4 (fun q => absurd q (by decide)) (fun _ => ?_)
  refine aw_aload_n rfl rfl d_R_take_7 ?_
  refine aw_geti fl_R_35 kc_144 (by decide) rfl d_R_take_8 ?_
  refine aw_top (x2 := nI 13) (upd2_eq) ?_
  refine aw_if_ltI (tgt := 50) (13) (by decide +kernel) (by decide) d_R_take_11 (fun q => absurd q (by decide)) (fun _ => ?_)
  refine aw_aload_n rfl rfl d_R_take_14 ?_
  refine aw_geti fl_R_35 kc_144 (by decide) rfl d_R_take_15 ?_
  refine aw_top (x2 := nI 13) (upd2_eq) ?_
  refine aw_sipush (v := nI 400) cs_400 d_R_take_18 ?_
  refine aw_icmp_geI (tgt := 50) (13) (400) (by decide +kernel) (by decide +kernel) (by decide) d_R_take_21 (fun q => absurd q (by decide)) (fun _ => ?_)
  refine aw_aload_n rfl rfl d_R_take_24 ?_
  refine aw_getr fl_R_11 kc_144 (by decide) rfl rc_144_0 d_R_take_25 ?_
  refine aw_aload_n rfl rfl d_R_take_28 ?_
  refine aw_geti fl_R_35 kc_144 (by decide) rfl d_R_take_29 ?_
  refine aw_top (x2 := nI 13) (upd2_eq) ?_
  refine aw_iload_n rfl rfl d_R_take_32 ?_
  refine aw_iload_n rfl rfl d_R_take_33 ?_
  refine aw_iushr rfl d_R_take_34 ?_
  refine aw_sipush (v := nI 255) cs_255 d_R_take_35 ?_
  refine aw_iand d_R_take_38 ?_
  refine aw_iast (j := 13) kc_145 (vp_in_nI (by decide) (by decide)) (nI_clamp (by decide)) d_R_take_39 ?_
  refine aw_aload_n rfl rfl d_R_take_40 ?_
  refine aw_dup rfl d_R_take_41 ?_
  refine aw_geti fl_R_35 kc_144 (by decide) rfl d_R_take_42 ?_
  refine aw_top (x2 := nI 13) (Eq.trans (congrFun (upd2_ne (by decide)) (1)) (upd2_eq)) ?_
  refine aw_iconst (v := nI 1) ci_1 d_R_take_45 ?_
  refine aw_iadd d_R_take_46 ?_
  refine aw_top (x2 := nI 14) (by decide +kernel) ?_
  refine aw_puti fl_R_35 kc_144 (by decide) rfl rfl rfl rfl d_R_take_47 ?_
  refine aw_iinc (v := nI 8) (lv2 := [.ref 144, .int (v), .int (nI 8)]) rfl (by decide +kernel) (by decide) rfl d_R_take_50 ?_
  refine aw_goto (tgt := 3) (by decide) d_R_take_53 ?_
  refine aw_iload_n rfl rfl d_R_take_3 ?_
  refine aw_if_ltI (tgt := 56) (8) (by decide +kernel) (by decide) d_R_take_4 (fun q => absurd q (by decide)) (fun _ => ?_)
  refine aw_aload_n rfl rfl d_R_take_7 ?_
  refine aw_geti fl_R_35 kc_144 (by decide) rfl d_R_take_8 ?_
  refine aw_top (x2 := nI 14) (upd2_eq) ?_
  refine aw_if_ltI (tgt := 50) (14) (by decide +kernel) (by decide) d_R_take_11 (fun q => absurd q (by decide)) (fun _ => ?_)
  refine aw_aload_n rfl rfl d_R_take_14 ?_
  refine aw_geti fl_R_35 kc_144 (by decide) rfl d_R_take_15 ?_
  refine aw_top (x2 := nI 14) (upd2_eq) ?_
  refine aw_sipush (v := nI 400) cs_400 d_R_take_18 ?_
  refine aw_icmp_geI (tgt := 50) (14) (400) (by decide +kernel) (by decide +kernel) (by decide) d_R_take_21 (fun q => absurd q (by decide)) (fun _ => ?_)
  refine aw_aload_n rfl rfl d_R_take_24 ?_
  refine aw_getr fl_R_11 kc_144 (by decide) rfl rc_144_0 d_R_take_25 ?_
  refine aw_aload_n rfl rfl d_R_take_28 ?_
  refine aw_geti fl_R_35 kc_144 (by decide) rfl d_R_take_29 ?_
  refine aw_top (x2 := nI 14) (upd2_eq) ?_
  refine aw_iload_n rfl rfl d_R_take_32 ?_
  refine aw_iload_n rfl rfl d_R_take_33 ?_
  refine aw_iushr rfl d_R_take_34 ?_
  refine aw_sipush (v := nI 255) cs_255 d_R_take_35 ?_
  refine aw_iand d_R_take_38 ?_
  refine aw_iast (j := 14) kc_145 (vp_in_nI (by decide) (by decide)) (nI_clamp (by decide)) d_R_take_39 ?_
  refine aw_aload_n rfl rfl d_R_take_40 ?_
  refine aw_dup rfl d_R_take_41 ?_
  refine aw_geti fl_R_35 kc_144 (by decide) rfl d_R_take_42 ?_
  refine aw_top (x2 := nI 14) (Eq.trans (congrFun (upd2_ne (by decide)) (1)) (upd2_eq)) ?_
  refine aw_iconst (v := nI 1) ci_1 d_R_take_45 ?_
  refine aw_iadd d_R_take_46 ?_
  refine aw_top (x2 := nI 15) (by decide +kernel) ?_
  refine aw_puti fl_R_35 kc_144 (by decide) rfl rfl rfl rfl d_R_take_47 ?_
  refine aw_iinc (v := nI 0) (lv2 := [.ref 144, .int (v), .int (nI 0)]) rfl (by decide +kernel) (by decide) rfl d_R_take_50 ?_
  refine aw_goto (tgt := 3) (by decide) d_R_take_53 ?_
  refine aw_iload_n rfl rfl d_R_take_3 ?_
  refine aw_if_ltI (tgt := 56) (0) (by decide +kernel) (by decide) d_R_take_4 (fun q => absurd q (by decide)) (fun _ => ?_)
  refine aw_aload_n rfl rfl d_R_take_7 ?_
  refine aw_geti fl_R_35 kc_144 (by decide) rfl d_R_take_8 ?_
  refine aw_top (x2 := nI 15) (upd2_eq) ?_
  refine aw_if_ltI (tgt := 50) (15) (by decide +kernel) (by decide) d_R_take_11 (fun q => absurd q (by decide)) (fun _ => ?_)
  refine aw_aload_n rfl rfl d_R_take_14 ?_
  refine aw_geti fl_R_35 kc_144 (by decide) rfl d_R_take_15 ?_
  refine aw_top (x2 := nI 15) (upd2_eq) ?_
  refine aw_sipush (v := nI 400) cs_400 d_R_take_18 ?_
  refine aw_icmp_geI (tgt := 50) (15) (400) (by decide +kernel) (by decide +kernel) (by decide) d_R_take_21 (fun q => absurd q (by decide)) (fun _ => ?_)
  refine aw_aload_n rfl rfl d_R_take_24 ?_
  refine aw_getr fl_R_11 kc_144 (by decide) rfl rc_144_0 d_R_take_25 ?_
  refine aw_aload_n rfl rfl d_R_take_28 ?_
  refine aw_geti fl_R_35 kc_144 (by decide) rfl d_R_take_29 ?_
  refine aw_top (x2 := nI 15) (upd2_eq) ?_
  refine aw_iload_n rfl rfl d_R_take_32 ?_
  refine aw_iload_n rfl rfl d_R_take_33 ?_
  refine aw_iushr rfl d_R_take_34 ?_
  refine aw_sipush (v := nI 255) cs_255 d_R_take_35 ?_
  refine aw_iand d_R_take_38 ?_
  refine aw_iast (j := 15) kc_145 (vp_in_nI (by decide) (by decide)) (nI_clamp (by decide)) d_R_take_39 ?_
  refine aw_aload_n rfl rfl d_R_take_40 ?_
  refine aw_dup rfl d_R_take_41 ?_
  refine aw_geti fl_R_35 kc_144 (by decide) rfl d_R_take_42 ?_
  refine aw_top (x2 := nI 15) (Eq.trans (congrFun (upd2_ne (by decide)) (1)) (upd2_eq)) ?_
  refine aw_iconst (v := nI 1) ci_1 d_R_take_45 ?_
  refine aw_iadd d_R_take_46 ?_
  refine aw_top (x2 := nI 16) (by decide +kernel) ?_
  refine aw_puti fl_R_35 kc_144 (by decide) rfl rfl rfl rfl d_R_take_47 ?_
  refine aw_iinc (v := (-8 : Int32)) (lv2 := [.ref 144, .int (v), .int ((-8 : Int32))]) rfl (by decide +kernel) (by decide) rfl d_R_take_50 ?_
  refine aw_goto (tgt := 3) (by decide) d_R_take_53 ?_
  refine aw_iload_n rfl rfl d_R_take_3 ?_
  refine aw_if_ltI (tgt := 56) (-8) (by decide +kernel) (by decide) d_R_take_4 (fun _ => ?_) (fun q => absurd q (by decide))
  refine as_retv rfl d_R_take_56 ?_
  refine (show As l b 14 y_S_feed KC RC K2 (upd2 (upd2 (upd2 (upd2 (upd2 (upd2 (upd2 (upd2 (upd2 (upd2 (upd2 (upd2 (upd2 (upd2 (upd2 (upd2 (upd2 (upd2 (upd2 (upd2 (upd2 (upd2 (upd2 (upd2 (upd2 (upd2 (upd2 (upd2 (upd2 (upd2 (upd2 (upd2 I 145 (0) ((((x).toUInt32 >>> ((nI 24).toUInt32 &&& Int32.toUInt32 31)).toInt32 &&& nI 255))) 144 1 (nI 1)) 145 (1) ((((x).toUInt32 >>> ((nI 16).toUInt32 &&& Int32.toUInt32 31)).toInt32 &&& nI 255))) 144 1 (nI 2)) 145 (2) ((((x).toUInt32 >>> ((nI 8).toUInt32 &&& Int32.toUInt32 31)).toInt32 &&& nI 255))) 144 1 (nI 3)) 145 (3) ((((x).toUInt32 >>> ((nI 0).toUInt32 &&& Int32.toUInt32 31)).toInt32 &&& nI 255))) 144 1 (nI 4)) 145 (4) ((((z).toUInt32 >>> ((nI 24).toUInt32 &&& Int32.toUInt32 31)).toInt32 &&& nI 255))) 144 1 (nI 5)) 145 (5) ((((z).toUInt32 >>> ((nI 16).toUInt32 &&& Int32.toUInt32 31)).toInt32 &&& nI 255))) 144 1 (nI 6)) 145 (6) ((((z).toUInt32 >>> ((nI 8).toUInt32 &&& Int32.toUInt32 31)).toInt32 &&& nI 255))) 144 1 (nI 7)) 145 (7) ((((z).toUInt32 >>> ((nI 0).toUInt32 &&& Int32.toUInt32 31)).toInt32 &&& nI 255))) 144 1 (nI 8)) 145 (8) ((((u).toUInt32 >>> ((nI 24).toUInt32 &&& Int32.toUInt32 31)).toInt32 &&& nI 255))) 144 1 (nI 9)) 145 (9) ((((u).toUInt32 >>> ((nI 16).toUInt32 &&& Int32.toUInt32 31)).toInt32 &&& nI 255))) 144 1 (nI 10)) 145 (10) ((((u).toUInt32 >>> ((nI 8).toUInt32 &&& Int32.toUInt32 31)).toInt32 &&& nI 255))) 144 1 (nI 11)) 145 (11) ((((u).toUInt32 >>> ((nI 0).toUInt32 &&& Int32.toUInt32 31)).toInt32 &&& nI 255))) 144 1 (nI 12)) 145 (12) ((((v).toUInt32 >>> ((nI 24).toUInt32 &&& Int32.toUInt32 31)).toInt32 &&& nI 255))) 144 1 (nI 13)) 145 (13) ((((v).toUInt32 >>> ((nI 16).toUInt32 &&& Int32.toUInt32 31)).toInt32 &&& nI 255))) 144 1 (nI 14)) 145 (14) ((((v).toUInt32 >>> ((nI 8).toUInt32 &&& Int32.toUInt32 31)).toInt32 &&& nI 255))) 144 1 (nI 15)) 145 (15) ((((v).toUInt32 >>> ((nI 0).toUInt32 &&& Int32.toUInt32 31)).toInt32 &&& nI 255))) 144 1 (nI 16)) 45 [.ref 0, .int (x), .int (z), .int (u), .int (v), .int (c)] [] from ?_)
  refine aw_aload_n rfl rfl d_S_feed_45 ?_
  refine aw_getr fl_S_39 kc_0 (by decide) rfl rc_0_5 d_S_feed_46 ?_
  refine aw_iload rfl d_S_feed_49 ?_
  refine as_callV (as := [.int (c)]) (d' := 13) (q := ("SinglesUp$Reader", zT7, 13)) mo_R_take lk_S_101 kc_144 rfl rfl rfl ⟨by decide, by decide⟩ rfl rfl (by decide) d_S_feed_51 (Ss.of (show As l b 13 y_R_take KC RC _ (upd2 (upd2 (upd2 (upd2 (upd2 (upd2 (upd2 (upd2 (upd2 (upd2 (upd2 (upd2 (upd2 (upd2 (upd2 (upd2 (upd2 (upd2 (upd2 (upd2 (upd2 (upd2 (upd2 (upd2 (upd2 (upd2 (upd2 (upd2 (upd2 (upd2 (upd2 (upd2 I 145 (0) ((((x).toUInt32 >>> ((nI 24).toUInt32 &&& Int32.toUInt32 31)).toInt32 &&& nI 255))) 144 1 (nI 1)) 145 (1) ((((x).toUInt32 >>> ((nI 16).toUInt32 &&& Int32.toUInt32 31)).toInt32 &&& nI 255))) 144 1 (nI 2)) 145 (2) ((((x).toUInt32 >>> ((nI 8).toUInt32 &&& Int32.toUInt32 31)).toInt32 &&& nI 255))) 144 1 (nI 3)) 145 (3) ((((x).toUInt32 >>> ((nI 0).toUInt32 &&& Int32.toUInt32 31)).toInt32 &&& nI 255))) 144 1 (nI 4)) 145 (4) ((((z).toUInt32 >>> ((nI 24).toUInt32 &&& Int32.toUInt32 31)).toInt32 &&& nI 255))) 144 1 (nI 5)) 145 (5) ((((z).toUInt32 >>> ((nI 16).toUInt32 &&& Int32.toUInt32 31)).toInt32 &&& nI 255))) 144 1 (nI 6)) 145 (6) ((((z).toUInt32 >>> ((nI 8).toUInt32 &&& Int32.toUInt32 31)).toInt32 &&& nI 255))) 144 1 (nI 7)) 145 (7) ((((z).toUInt32 >>> ((nI 0).toUInt32 &&& Int32.toUInt32 31)).toInt32 &&& nI 255))) 144 1 (nI 8)) 145 (8) ((((u).toUInt32 >>> ((nI 24).toUInt32 &&& Int32.toUInt32 31)).toInt32 &&& nI 255))) 144 1 (nI 9)) 145 (9) ((((u).toUInt32 >>> ((nI 16).toUInt32 &&& Int32.toUInt32 31)).toInt32 &&& nI 255))) 144 1 (nI 10)) 145 (10) ((((u).toUInt32 >>> ((nI 8).toUInt32 &&& Int32.toUInt32 31)).toInt32 &&& nI 255))) 144 1 (nI 11)) 145 (11) ((((u).toUInt32 >>> ((nI 0).toUInt32 &&& Int32.toUInt32 31)).toInt32 &&& nI 255))) 144 1 (nI 12)) 145 (12) ((((v).toUInt32 >>> ((nI 24).toUInt32 &&& Int32.toUInt32 31)).toInt32 &&& nI 255))) 144 1 (nI 13)) 145 (13) ((((v).toUInt32 >>> ((nI 16).toUInt32 &&& Int32.toUInt32 31)).toInt32 &&& nI 255))) 144 1 (nI 14)) 145 (14) ((((v).toUInt32 >>> ((nI 8).toUInt32 &&& Int32.toUInt32 31)).toInt32 &&& nI 255))) 144 1 (nI 15)) 145 (15) ((((v).toUInt32 >>> ((nI 0).toUInt32 &&& Int32.toUInt32 31)).toInt32 &&& nI 255))) 144 1 (nI 16)) 0 [.ref 144, .int (c), uu] [] from ?_))
  refine aw_bipush (v := nI 24) cb_24 d_R_take_0 ?_
  refine aw_istore_n (lv2 := [.ref 144, .int (c), .int (nI 24)]) rfl (by decide) rfl d_R_take_2 ?_
  refine aw_iload_n rfl rfl d_R_take_3 ?_
  refine aw_if_ltI (tgt := 56) (24) (by decide +kernel) (by decide) d_R_take_4 (fun q => absurd q (by decide)) (fun _ => ?_)
  refine aw_aload_n rfl rfl d_R_take_7 ?_
  refine aw_geti fl_R_35 kc_144 (by decide) rfl d_R_take_8 ?_
  refine aw_top (x2 := nI 16) (upd2_eq) ?_
  refine aw_if_ltI (tgt := 50) (16) (by decide +kernel) (by decide) d_R_take_11 (fun q => absurd q (by decide)) (fun _ => ?_)
  refine aw_aload_n rfl rfl d_R_take_14 ?_
  refine aw_geti fl_R_35 kc_144 (by decide) rfl d_R_take_15 ?_
  refine aw_top (x2 := nI 16) (upd2_eq) ?_
  refine aw_sipush (v := nI 400) cs_400 d_R_take_18 ?_
  refine aw_icmp_geI (tgt := 50) (16) (400) (by decide +kernel) (by decide +kernel) (by decide) d_R_take_21 (fun q => absurd q (by decide)) (fun _ => ?_)
  refine aw_aload_n rfl rfl d_R_take_24 ?_
  refine aw_getr fl_R_11 kc_144 (by decide) rfl rc_144_0 d_R_take_25 ?_
  refine aw_aload_n rfl rfl d_R_take_28 ?_
  refine aw_geti fl_R_35 kc_144 (by decide) rfl d_R_take_29 ?_
  refine aw_top (x2 := nI 16) (upd2_eq) ?_
  refine aw_iload_n rfl rfl d_R_take_32 ?_
  refine aw_iload_n rfl rfl d_R_take_33 ?_
  refine aw_iushr rfl d_R_take_34 ?_
  refine aw_sipush (v := nI 255) cs_255 d_R_take_35 ?_
  refine aw_iand d_R_take_38 ?_
  refine aw_iast (j := 16) kc_145 (vp_in_nI (by decide) (by decide)) (nI_clamp (by decide)) d_R_take_39 ?_
  refine aw_aload_n rfl rfl d_R_take_40 ?_
  refine aw_dup rfl d_R_take_41 ?_
  refine aw_geti fl_R_35 kc_144 (by decide) rfl d_R_take_42 ?_
  refine aw_top (x2 := nI 16) (Eq.trans (congrFun (upd2_ne (by decide)) (1)) (upd2_eq)) ?_
  refine aw_iconst (v := nI 1) ci_1 d_R_take_45 ?_
  refine aw_iadd d_R_take_46 ?_
  refine aw_top (x2 := nI 17) (by decide +kernel) ?_
  refine aw_puti fl_R_35 kc_144 (by decide) rfl rfl rfl rfl d_R_take_47 ?_
  refine aw_iinc (v := nI 16) (lv2 := [.ref 144, .int (c), .int (nI 16)]) rfl (by decide +kernel) (by decide) rfl d_R_take_50 ?_
  refine aw_goto (tgt := 3) (by decide) d_R_take_53 ?_
  refine aw_iload_n rfl rfl d_R_take_3 ?_
  refine aw_if_ltI (tgt := 56) (16) (by decide +kernel) (by decide) d_R_take_4 (fun q => absurd q (by decide)) (fun _ => ?_)
  refine aw_aload_n rfl rfl d_R_take_7 ?_
  refine aw_geti fl_R_35 kc_144 (by decide) rfl d_R_take_8 ?_
  refine aw_top (x2 := nI 17) (upd2_eq) ?_
  refine aw_if_ltI (tgt := 50) (17) (by decide +kernel) (by decide) d_R_take_11 (fun q => absurd q (by decide)) (fun _ => ?_)
  refine aw_aload_n rfl rfl d_R_take_14 ?_
  refine aw_geti fl_R_35 kc_144 (by decide) rfl d_R_take_15 ?_
  refine aw_top (x2 := nI 17) (upd2_eq) ?_
  refine aw_sipush (v := nI 400) cs_400 d_R_take_18 ?_
  refine aw_icmp_geI (tgt := 50) (17) (400) (by decide +kernel) (by decide +kernel) (by decide) d_R_take_21 (fun q => absurd q (by decide)) (fun _ => ?_)
  refine aw_aload_n rfl rfl d_R_take_24 ?_
  refine aw_getr fl_R_11 kc_144 (by decide) rfl rc_144_0 d_R_take_25 ?_
  refine aw_aload_n rfl rfl d_R_take_28 ?_
  refine aw_geti fl_R_35 kc_144 (by decide) rfl d_R_take_29 ?_
  refine aw_top (x2 := nI 17) (upd2_eq) ?_
  refine aw_iload_n rfl rfl d_R_take_32 ?_
  refine aw_iload_n rfl rfl d_R_take_33 ?_
  refine aw_iushr rfl d_R_take_34 ?_
  refine aw_sipush (v := nI 255) cs_255 d_R_take_35 ?_
  refine aw_iand d_R_take_38 ?_
  refine aw_iast (j := 17) kc_145 (vp_in_nI (by decide) (by decide)) (nI_clamp (by decide)) d_R_take_39 ?_
  refine aw_aload_n rfl rfl d_R_take_40 ?_
  refine aw_dup rfl d_R_take_41 ?_
  refine aw_geti fl_R_35 kc_144 (by decide) rfl d_R_take_42 ?_
  refine aw_top (x2 := nI 17) (Eq.trans (congrFun (upd2_ne (by decide)) (1)) (upd2_eq)) ?_
  refine aw_iconst (v := nI 1) ci_1 d_R_take_45 ?_
  refine aw_iadd d_R_take_46 ?_
  refine aw_top (x2 := nI 18) (by decide +kernel) ?_
  refine aw_puti fl_R_35 kc_144 (by decide) rfl rfl rfl rfl d_R_take_47 ?_
  refine aw_iinc (v := nI 8) (lv2 := [.ref 144, .int (c), .int (nI 8)]) rfl (by decide +kernel) (by decide) rfl d_R_take_50 ?_
  refine aw_goto (tgt := 3) (by decide) d_R_take_53 ?_
  refine aw_iload_n rfl rfl d_R_take_3 ?_
  refine aw_if_ltI (tgt := 56) (8) (by decide +kernel) (by decide) d_R_take_4 (fun q => absurd q (by decide)) (fun _ => ?_)
  refine aw_aload_n rfl rfl d_R_take_7 ?_
  refine aw_geti fl_R_35 kc_144 (by decide) rfl d_R_take_8 ?_
  refine aw_top (x2 := nI 18) (upd2_eq) ?_
  refine aw_if_ltI (tgt := 50) (18) (by decide +kernel) (by decide) d_R_take_11 (fun q => absurd q (by decide)) (fun _ => ?_)
  refine aw_aload_n rfl rfl d_R_take_14 ?_
  refine aw_geti fl_R_35 kc_144 (by decide) rfl d_R_take_15 ?_
  refine aw_top (x2 := nI 18) (upd2_eq) ?_
  refine aw_sipush (v := nI 400) cs_400 d_R_take_18 ?_
  refine aw_icmp_geI (tgt := 50) (18) (400) (by decide +kernel) (by decide +kernel) (by decide) d_R_take_21 (fun q => absurd q (by decide)) (fun _ => ?_)
  refine aw_aload_n rfl rfl d_R_take_24 ?_
  refine aw_getr fl_R_11 kc_144 (by decide) rfl rc_144_0 d_R_take_25 ?_
  refine aw_aload_n rfl rfl d_R_take_28 ?_
  refine aw_geti fl_R_35 kc_144 (by decide) rfl d_R_take_29 ?_
  refine aw_top (x2 := nI 18) (upd2_eq) ?_
  refine aw_iload_n rfl rfl d_R_take_32 ?_
  refine aw_iload_n rfl rfl d_R_take_33 ?_
  refine aw_iushr rfl d_R_take_34 ?_
  refine aw_sipush (v := nI 255) cs_255 d_R_take_35 ?_
  refine aw_iand d_R_take_38 ?_
  refine aw_iast (j := 18) kc_145 (vp_in_nI (by decide) (by decide)) (nI_clamp (by decide)) d_R_take_39 ?_
  refine aw_aload_n rfl rfl d_R_take_40 ?_
  refine aw_dup rfl d_R_take_41 ?_
  refine aw_geti fl_R_35 kc_144 (by decide) rfl d_R_take_42 ?_
  refine aw_top (x2 := nI 18) (Eq.trans (congrFun (upd2_ne (by decide)) (1)) (upd2_eq)) ?_
  refine aw_iconst (v := nI 1) ci_1 d_R_take_45 ?_
  refine aw_iadd d_R_take_46 ?_
  refine aw_top (x2 := nI 19) (by decide +kernel) ?_
  refine aw_puti fl_R_35 kc_144 (by decide) rfl rfl rfl rfl d_R_take_47 ?_
  refine aw_iinc (v := nI 0) (lv2 := [.ref 144, .int (c), .int (nI 0)]) rfl (by decide +kernel) (by decide) rfl d_R_take_50 ?_
  refine aw_goto (tgt := 3) (by decide) d_R_take_53 ?_
  refine aw_iload_n rfl rfl d_R_take_3 ?_
  refine aw_if_ltI (tgt := 56) (0) (by decide +kernel) (by decide) d_R_take_4 (fun q => absurd q (by decide)) (fun _ => ?_)
  refine aw_aload_n rfl rfl d_R_take_7 ?_
  refine aw_geti fl_R_35 kc_144 (by decide) rfl d_R_take_8 ?_
  refine aw_top (x2 := nI 19) (upd2_eq) ?_
  refine aw_if_ltI (tgt := 50) (19) (by decide +kernel) (by decide) d_R_take_11 (fun q => absurd q (by decide)) (fun _ => ?_)
  refine aw_aload_n rfl rfl d_R_take_14 ?_
  refine aw_geti fl_R_35 kc_144 (by decide) rfl d_R_take_15 ?_
  refine aw_top (x2 := nI 19) (upd2_eq) ?_
  refine aw_sipush (v := nI 400) cs_400 d_R_take_18 ?_
  refine aw_icmp_geI (tgt := 50) (19) (400) (by decide +kernel) (by decide +kernel) (by decide) d_R_take_21 (fun q => absurd q (by decide)) (fun _ => ?_)
  refine aw_aload_n rfl rfl d_R_take_24 ?_
  refine aw_getr fl_R_11 kc_144 (by decide) rfl rc_144_0 d_R_take_25 ?_
  refine aw_aload_n rfl rfl d_R_take_28 ?_
  refine aw_geti fl_R_35 kc_144 (by decide) rfl d_R_take_29 ?_
  refine aw_top (x2 := nI 19) (upd2_eq) ?_
  refine aw_iload_n rfl rfl d_R_take_32 ?_
  refine aw_iload_n rfl rfl d_R_take_33 ?_
  refine aw_iushr rfl d_R_take_34 ?_
  refine aw_sipush (v := nI 255) cs_255 d_R_take_35 ?_
  refine aw_iand d_R_take_38 ?_
  refine aw_iast (j := 19) kc_145 (vp_in_nI (by decide) (by decide)) (nI_clamp (by decide)) d_R_take_39 ?_
  refine aw_aload_n rfl rfl d_R_take_40 ?_
  refine aw_dup rfl d_R_take_41 ?_
  refine aw_geti fl_R_35 kc_144 (by decide) rfl d_R_take_42 ?_
  refine aw_top (x2 := nI 19) (Eq.trans (congrFun (upd2_ne (by decide)) (1)) (upd2_eq)) ?_
  refine aw_iconst (v := nI 1) ci_1 d_R_take_45 ?_
  refine aw_iadd d_R_take_46 ?_
  refine aw_top (x2 := nI 20) (by decide +kernel) ?_
  refine aw_puti fl_R_35 kc_144 (by decide) rfl rfl rfl rfl d_R_take_47 ?_
  refine aw_iinc (v := (-8 : Int32)) (lv2 := [.ref 144, .int (c), .int ((-8 : Int32))]) rfl (by decide +kernel) (by decide) rfl d_R_take_50 ?_
  refine aw_goto (tgt := 3) (by decide) d_R_take_53 ?_
  refine aw_iload_n rfl rfl d_R_take_3 ?_
  refine aw_if_ltI (tgt := 56) (-8) (by decide +kernel) (by decide) d_R_take_4 (fun _ => ?_) (fun q => absurd q (by decide))
  refine as_retv rfl d_R_take_56 ?_
  refine (show As l b 14 y_S_feed KC RC K2 (upd2 (upd2 (upd2 (upd2 (upd2 (upd2 (upd2 (upd2 (upd2 (upd2 (upd2 (upd2 (upd2 (upd2 (upd2 (upd2 (upd2 (upd2 (upd2 (upd2 (upd2 (upd2 (upd2 (upd2 (upd2 (upd2 (upd2 (upd2 (upd2 (upd2 (upd2 (upd2 (upd2 (upd2 (upd2 (upd2 (upd2 (upd2 (upd2 (upd2 I 145 (0) ((((x).toUInt32 >>> ((nI 24).toUInt32 &&& Int32.toUInt32 31)).toInt32 &&& nI 255))) 144 1 (nI 1)) 145 (1) ((((x).toUInt32 >>> ((nI 16).toUInt32 &&& Int32.toUInt32 31)).toInt32 &&& nI 255))) 144 1 (nI 2)) 145 (2) ((((x).toUInt32 >>> ((nI 8).toUInt32 &&& Int32.toUInt32 31)).toInt32 &&& nI 255))) 144 1 (nI 3)) 145 (3) ((((x).toUInt32 >>> ((nI 0).toUInt32 &&& Int32.toUInt32 31)).toInt32 &&& nI 255))) 144 1 (nI 4)) 145 (4) ((((z).toUInt32 >>> ((nI 24).toUInt32 &&& Int32.toUInt32 31)).toInt32 &&& nI 255))) 144 1 (nI 5)) 145 (5) ((((z).toUInt32 >>> ((nI 16).toUInt32 &&& Int32.toUInt32 31)).toInt32 &&& nI 255))) 144 1 (nI 6)) 145 (6) ((((z).toUInt32 >>> ((nI 8).toUInt32 &&& Int32.toUInt32 31)).toInt32 &&& nI 255))) 144 1 (nI 7)) 145 (7) ((((z).toUInt32 >>> ((nI 0).toUInt32 &&& Int32.toUInt32 31)).toInt32 &&& nI 255))) 144 1 (nI 8)) 145 (8) ((((u).toUInt32 >>> ((nI 24).toUInt32 &&& Int32.toUInt32 31)).toInt32 &&& nI 255))) 144 1 (nI 9)) 145 (9) ((((u).toUInt32 >>> ((nI 16).toUInt32 &&& Int32.toUInt32 31)).toInt32 &&& nI 255))) 144 1 (nI 10)) 145 (10) ((((u).toUInt32 >>> ((nI 8).toUInt32 &&& Int32.toUInt32 31)).toInt32 &&& nI 255))) 144 1 (nI 11)) 145 (11) ((((u).toUInt32 >>> ((nI 0).toUInt32 &&& Int32.toUInt32 31)).toInt32 &&& nI 255))) 144 1 (nI 12)) 145 (12) ((((v).toUInt32 >>> ((nI 24).toUInt32 &&& Int32.toUInt32 31)).toInt32 &&& nI 255))) 144 1 (nI 13)) 145 (13) ((((v).toUInt32 >>> ((nI 16).toUInt32 &&& Int32.toUInt32 31)).toInt32 &&& nI 255))) 144 1 (nI 14)) 145 (14) ((((v).toUInt32 >>> ((nI 8).toUInt32 &&& Int32.toUInt32 31)).toInt32 &&& nI 255))) 144 1 (nI 15)) 145 (15) ((((v).toUInt32 >>> ((nI 0).toUInt32 &&& Int32.toUInt32 31)).toInt32 &&& nI 255))) 144 1 (nI 16)) 145 (16) ((((c).toUInt32 >>> ((nI 24).toUInt32 &&& Int32.toUInt32 31)).toInt32 &&& nI 255))) 144 1 (nI 17)) 145 (17) ((((c).toUInt32 >>> ((nI 16).toUInt32 &&& Int32.toUInt32 31)).toInt32 &&& nI 255))) 144 1 (nI 18)) 145 (18) ((((c).toUInt32 >>> ((nI 8).toUInt32 &&& Int32.toUInt32 31)).toInt32 &&& nI 255))) 144 1 (nI 19)) 145 (19) ((((c).toUInt32 >>> ((nI 0).toUInt32 &&& Int32.toUInt32 31)).toInt32 &&& nI 255))) 144 1 (nI 20)) 54 [.ref 0, .int (x), .int (z), .int (u), .int (v), .int (c)] [] from ?_)
  refine aw_aload_n rfl rfl d_S_feed_54 ?_
  refine aw_getr fl_S_39 kc_0 (by decide) rfl rc_0_5 d_S_feed_55 ?_
  refine aw_geti fl_S_104 kc_144 (by decide) rfl d_S_feed_58 ?_
  refine aw_top (x2 := nI 20) (upd2_eq) ?_
  exact as_reti rfl d_S_feed_61 (hK _)
set_option maxRecDepth 20000 in
theorem cs_end {K2 : K2T} {I : Nat → Nat → Int32} (hR : FRc I) {x : Int32} (h1 : x.toInt = 0 → ∀ I', K2 (some (.int (nI 1))) I') (h0 : ¬ (x.toInt = 0) → ∀ I', K2 (some (.int (nI 0))) I') : Ss l b 14 y_S_end KC RC [.ref 0, .int (x)] (I) K2 := by
  obtain ⟨hF, r6, r7, r11, t1, t2, t4, hh, tm, h7, h8, h9, q1, q10, q11, im, p0⟩ := hR
  have hF0 := hF
  obtain ⟨f0, f1, f2, f3, f4, f5, f6, f7, f8, f9, f10, f11, f12, f13, fb⟩ := hF
  have f0 : ∀ j, j < 32 → I 5 j = nI 0 := f0
  have f1 : ∀ j, j < 6 → I 9 j = nI 0 := f1
  have f2 : ∀ j, j < 6 → I 10 j = nI 9 := f2
  have f3 : I 2 0 = nI (4) := f3
  have f4 : I 2 3 = nI 0 := f4
  have f5 : I 2 5 = nI (0) := f5
  have f6 : I 11 1 = nI (0) := f6
  have f7 : I 11 0 = nI (0) := f7
  have f8 : ∀ j, j < 40 → j ≠ 0 → j ≠ 1 → j ≠ 3 → I 11 j = nI 0 := f8
  have f9 : I 16 4 = nI 0 := f9
  have f10 : I 21 4 = nI 0 := f10
  have f11 : I 26 4 = nI 0 := f11
  have f12 : I 31 4 = nI 0 := f12
  have f13 : I 36 4 = nI 0 := f13
  refine Ss.of (show As l b 14 y_S_end KC RC K2 (I) 0 [.ref 0, .int (x)] [] from ?_)
  refine aw_aload_n rfl rfl d_S_end_0 ?_
  refine aw_getr fl_S_39 kc_0 (by decide) rfl rc_0_5 d_S_end_1 ?_
  refine aw_iload_n rfl rfl d_S_end_4 ?_
  refine as_callV (as := [.int (x)]) (d' := 13) (q := ("SinglesUp$Reader", zT7, 13)) mo_R_cut lk_S_107 kc_144 rfl rfl rfl ⟨by decide, by decide⟩ rfl rfl (by decide) d_S_end_5 (Ss.of (show As l b 13 y_R_cut KC RC _ (I) 0 [.ref 144, .int (x)] [] from ?_))
  refine aw_iload_n rfl rfl d_R_cut_0 ?_
  refine aw_if_ltI (tgt := 12) (x).toInt rfl (by decide) d_R_cut_1 (fun c1 => ?_) (fun c1 => ?_)
  · refine aw_iconst (v := nI 0) ci_0 d_R_cut_12 ?_
    refine as_retz rfl (by decide +kernel) d_R_cut_13 ?_
    refine (show As l b 14 y_S_end KC RC K2 (I) 8 [.ref 0, .int (x)] [.int (nI 0)] from ?_)
    exact as_retz rfl (by decide +kernel) d_S_end_8 (h0 (by omega) _)
  · refine aw_iload_n rfl rfl d_R_cut_4 ?_
    refine aw_aload_n rfl rfl d_R_cut_5 ?_
    refine aw_geti fl_R_35 kc_144 (by decide) rfl d_R_cut_6 ?_
    refine aw_top (x2 := nI 0) (q1) ?_
    refine aw_icmp_leI (tgt := 14) (x).toInt (0) rfl (by decide +kernel) (by decide) d_R_cut_9 (fun c2 => ?_) (fun c2 => ?_)
    · refine aw_aload_n rfl rfl d_R_cut_14 ?_
      refine aw_iload_n rfl rfl d_R_cut_15 ?_
      refine aw_puti fl_R_35 kc_144 (by decide) rfl rfl rfl rfl d_R_cut_16 ?_
      refine aw_iconst (v := nI 1) ci_1 d_R_cut_19 ?_
      refine as_retz rfl (by decide +kernel) d_R_cut_20 ?_
      refine (show As l b 14 y_S_end KC RC K2 (upd2 I 144 1 (x)) 8 [.ref 0, .int (x)] [.int (nI 1)] from ?_)
      exact as_retz rfl (by decide +kernel) d_S_end_8 (h1 (by omega) _)
    · refine aw_iconst (v := nI 0) ci_0 d_R_cut_12 ?_
      refine as_retz rfl (by decide +kernel) d_R_cut_13 ?_
      refine (show As l b 14 y_S_end KC RC K2 (I) 8 [.ref 0, .int (x)] [.int (nI 0)] from ?_)
      exact as_retz rfl (by decide +kernel) d_S_end_8 (h0 (by omega) _)
set_option maxRecDepth 20000 in
theorem cs_text {K2 : K2T} {I : Nat → Nat → Int32} (hR : FRc I) {x : Int32} (hg : 0 ≤ x.toInt ∧ x.toInt ≤ 4 → ∀ I', K2 (some (.int (nI 0))) I') (hb : ¬ (0 ≤ x.toInt ∧ x.toInt ≤ 4) → ∀ I', K2 (some (.int (-1))) I') : Ss l b 14 y_S_text KC RC [.ref 0, .int (x)] (I) K2 := by
  obtain ⟨hF, r6, r7, r11, t1, t2, t4, hh, tm, h7, h8, h9, q1, q10, q11, im, p0⟩ := hR
  have hF0 := hF
  obtain ⟨f0, f1, f2, f3, f4, f5, f6, f7, f8, f9, f10, f11, f12, f13, fb⟩ := hF
  have f0 : ∀ j, j < 32 → I 5 j = nI 0 := f0
  have f1 : ∀ j, j < 6 → I 9 j = nI 0 := f1
  have f2 : ∀ j, j < 6 → I 10 j = nI 9 := f2
  have f3 : I 2 0 = nI (4) := f3
  have f4 : I 2 3 = nI 0 := f4
  have f5 : I 2 5 = nI (0) := f5
  have f6 : I 11 1 = nI (0) := f6
  have f7 : I 11 0 = nI (0) := f7
  have f8 : ∀ j, j < 40 → j ≠ 0 → j ≠ 1 → j ≠ 3 → I 11 j = nI 0 := f8
  have f9 : I 16 4 = nI 0 := f9
  have f10 : I 21 4 = nI 0 := f10
  have f11 : I 26 4 = nI 0 := f11
  have f12 : I 31 4 = nI 0 := f12
  have f13 : I 36 4 = nI 0 := f13
  refine Ss.of (show As l b 14 y_S_text KC RC K2 (I) 0 [.ref 0, .int (x)] [] from ?_)
  refine aw_iload_n rfl rfl d_S_text_0 ?_
  refine aw_if_ltI (tgt := 9) (x).toInt rfl (by decide) d_S_text_1 (fun c1 => ?_) (fun c1 => ?_)
  · refine aw_aload_n rfl rfl d_S_text_9 ?_
    refine aw_getr fl_S_39 kc_0 (by decide) rfl rc_0_5 d_S_text_10 ?_
    refine as_callV (as := []) (d' := 13) (q := ("SinglesUp$Reader", zT7, 13)) mo_R_forget lk_S_110 kc_144 rfl rfl rfl ⟨by decide, by decide⟩ rfl rfl (by decide) d_S_text_13 (Ss.of (show As l b 13 y_R_forget KC RC _ (I) 0 [.ref 144] [] from ?_))
    refine aw_aload_n rfl rfl d_R_forget_0 ?_
    refine aw_iconst (v := nI 0) ci_0 d_R_forget_1 ?_
    refine aw_puti fl_R_35 kc_144 (by decide) rfl rfl rfl rfl d_R_forget_2 ?_
    refine aw_aload_n rfl rfl d_R_forget_5 ?_
    refine aw_iconst (v := nI 0) ci_0 d_R_forget_6 ?_
    refine aw_puti fl_R_38 kc_144 (by decide) rfl rfl rfl rfl d_R_forget_7 ?_
    refine aw_aload_n rfl rfl d_R_forget_10 ?_
    refine aw_iconst (v := (-1 : Int32)) rfl d_R_forget_11 ?_
    refine aw_puti fl_R_24 kc_144 (by decide) rfl rfl rfl rfl d_R_forget_12 ?_
    refine as_retv rfl d_R_forget_15 ?_
    refine (show As l b 14 y_S_text KC RC K2 (upd2 (upd2 (upd2 I 144 1 (nI 0)) 144 10 (nI 0)) 144 11 ((-1 : Int32))) 16 [.ref 0, .int (x)] [] from ?_)
    refine aw_iconst (v := (-1 : Int32)) rfl d_S_text_16 ?_
    exact as_reti rfl d_S_text_17 (hb (by omega) _)
  · refine aw_iload_n rfl rfl d_S_text_4 ?_
    refine aw_iconst (v := nI 4) ci_4 d_S_text_5 ?_
    refine aw_icmp_leI (tgt := 18) (x).toInt (4) rfl (by decide +kernel) (by decide) d_S_text_6 (fun c2 => ?_) (fun c2 => ?_)
    · obtain ⟨w1, hw1, ew1, gw1⟩ := nI_of_range (x := x) (n := 5) (by omega) (by omega)
      subst ew1
      rcases (show w1 = 0 ∨ w1 = 1 ∨ w1 = 2 ∨ w1 = 3 ∨ w1 = 4 by omega) with rfl | rfl | rfl | rfl | rfl
      · refine aw_aload_n rfl rfl d_S_text_18 ?_
        refine aw_getr fl_S_39 kc_0 (by decide) rfl rc_0_5 d_S_text_19 ?_
        refine aw_iload_n rfl rfl d_S_text_22 ?_
        refine aw_iconst (v := nI 4) ci_4 d_S_text_23 ?_
        refine aw_icmp_neI (tgt := 31) (0) (4) (by decide +kernel) (by decide +kernel) (by decide) d_S_text_24 (fun _ => ?_) (fun q => absurd q (by decide))
        refine aw_iconst (v := nI 0) ci_0 d_S_text_31 ?_
        refine as_callV (as := [.int (nI 0)]) (d' := 13) (q := ("SinglesUp$Reader", zT7, 13)) mo_R_understand lk_S_113 kc_144 rfl rfl rfl ⟨by decide, by decide⟩ rfl rfl (by decide) d_S_text_32 (Ss.of (show As l b 13 y_R_understand KC RC _ (I) 0 [.ref 144, .int (nI 0), uu] [] from ?_))
        refine aw_aload_n rfl rfl d_R_understand_0 ?_
        refine as_callV (as := []) (d' := 12) (q := ("SinglesUp$Reader", zT7, 13)) mo_R_scan lk_R_41 kc_144 rfl rfl rfl ⟨by decide, by decide⟩ rfl rfl (by decide) d_R_understand_1 (Ss.of (show As l b 12 y_R_scan KC RC _ (I) 0 [.ref 144, uu, uu, uu] [] from ?_))
        refine aw_aload_n rfl rfl d_R_scan_0 ?_
        refine aw_iconst (v := nI 0) ci_0 d_R_scan_1 ?_
        refine aw_puti fl_R_66 kc_144 (by decide) rfl rfl rfl rfl d_R_scan_2 ?_
        refine aw_iconst (v := nI 0) ci_0 d_R_scan_5 ?_
        refine aw_istore_n (lv2 := [.ref 144, .int (nI 0), uu, uu]) rfl (by decide) rfl d_R_scan_6 ?_
        refine aw_iload_n rfl rfl d_R_scan_7 ?_
        refine aw_aload_n rfl rfl d_R_scan_8 ?_
        refine aw_geti fl_R_35 kc_144 (by decide) rfl d_R_scan_9 ?_
        refine aw_top (x2 := nI 0) (Eq.trans (upd2_nx (by omega)) (q1)) ?_
        refine aw_icmp_geI (tgt := 194) (0) (0) (by decide +kernel) (by decide +kernel) (by decide) d_R_scan_12 (fun _ => ?_) (fun q => absurd q (by decide))
        refine aw_aload_n rfl rfl d_R_scan_194 ?_
        refine aw_bipush (v := nI 17) cb_17 d_R_scan_195 ?_
        refine aw_aload_n rfl rfl d_R_scan_197 ?_
        refine aw_geti fl_R_35 kc_144 (by decide) rfl d_R_scan_198 ?_
        refine aw_top (x2 := nI 0) (Eq.trans (upd2_nx (by omega)) (q1)) ?_
        refine aw_iconst (v := nI 0) ci_0 d_R_scan_201 ?_
        refine as_callV (as := [.int (nI 17), .int (nI 0), .int (nI 0)]) (d' := 11) (q := ("SinglesUp$Reader", zT7, 13)) mo_R_addToken lk_R_77 kc_144 rfl rfl rfl ⟨by decide, by decide⟩ rfl rfl (by decide) d_R_scan_202 (Ss.of (show As l b 11 y_R_addToken KC RC _ (upd2 I 144 5 (nI 0)) 0 [.ref 144, .int (nI 17), .int (nI 0), .int (nI 0)] [] from ?_))
        refine aw_aload_n rfl rfl d_R_addToken_0 ?_
        refine aw_geti fl_R_66 kc_144 (by decide) rfl d_R_addToken_1 ?_
        refine aw_top (x2 := nI 0) (upd2_eq) ?_
        refine aw_if_ltI (tgt := 57) (0) (by decide +kernel) (by decide) d_R_addToken_4 (fun q => absurd q (by decide)) (fun _ => ?_)
        refine aw_aload_n rfl rfl d_R_addToken_7 ?_
        refine aw_geti fl_R_66 kc_144 (by decide) rfl d_R_addToken_8 ?_
        refine aw_top (x2 := nI 0) (upd2_eq) ?_
        refine aw_sipush (v := nI 400) cs_400 d_R_addToken_11 ?_
        refine aw_icmp_gtI (tgt := 57) (0) (400) (by decide +kernel) (by decide +kernel) (by decide) d_R_addToken_14 (fun q => absurd q (by decide)) (fun _ => ?_)
        refine aw_aload_n rfl rfl d_R_addToken_17 ?_
        refine aw_getr fl_R_15 kc_144 (by decide) rfl rc_144_2 d_R_addToken_18 ?_
        refine aw_aload_n rfl rfl d_R_addToken_21 ?_
        refine aw_geti fl_R_66 kc_144 (by decide) rfl d_R_addToken_22 ?_
        refine aw_top (x2 := nI 0) (upd2_eq) ?_
        refine aw_iload_n rfl rfl d_R_addToken_25 ?_
        refine aw_iast (j := 0) kc_146 (vp_in_nI (by decide) (by decide)) (nI_clamp (by decide)) d_R_addToken_26 ?_
        refine aw_aload_n rfl rfl d_R_addToken_27 ?_
        refine aw_getr fl_R_18 kc_144 (by decide) rfl rc_144_3 d_R_addToken_28 ?_
        refine aw_aload_n rfl rfl d_R_addToken_31 ?_
        refine aw_geti fl_R_66 kc_144 (by decide) rfl d_R_addToken_32 ?_
        refine aw_top (x2 := nI 0) (Eq.trans (congrFun (upd2_ne (by decide)) (5)) (upd2_eq)) ?_
        refine aw_iload_n rfl rfl d_R_addToken_35 ?_
        refine aw_iast (j := 0) kc_147 (vp_in_nI (by decide) (by decide)) (nI_clamp (by decide)) d_R_addToken_36 ?_
        refine aw_aload_n rfl rfl d_R_addToken_37 ?_
        refine aw_getr fl_R_21 kc_144 (by decide) rfl rc_144_4 d_R_addToken_38 ?_
        refine aw_aload_n rfl rfl d_R_addToken_41 ?_
        refine aw_geti fl_R_66 kc_144 (by decide) rfl d_R_addToken_42 ?_
        refine aw_top (x2 := nI 0) (Eq.trans (congrFun (upd2_ne (by decide)) (5)) (Eq.trans (congrFun (upd2_ne (by decide)) (5)) (upd2_eq))) ?_
        refine aw_iload_n rfl rfl d_R_addToken_45 ?_
        refine aw_iast (j := 0) kc_148 (vp_in_nI (by decide) (by decide)) (nI_clamp (by decide)) d_R_addToken_46 ?_
        refine aw_aload_n rfl rfl d_R_addToken_47 ?_
        refine aw_dup rfl d_R_addToken_48 ?_
        refine aw_geti fl_R_66 kc_144 (by decide) rfl d_R_addToken_49 ?_
        refine aw_top (x2 := nI 0) (Eq.trans (congrFun (upd2_ne (by decide)) (5)) (Eq.trans (congrFun (upd2_ne (by decide)) (5)) (Eq.trans (congrFun (upd2_ne (by decide)) (5)) (upd2_eq)))) ?_
        refine aw_iconst (v := nI 1) ci_1 d_R_addToken_52 ?_
        refine aw_iadd d_R_addToken_53 ?_
        refine aw_top (x2 := nI 1) (by decide +kernel) ?_
        refine aw_puti fl_R_66 kc_144 (by decide) rfl rfl rfl rfl d_R_addToken_54 ?_
        refine as_retv rfl d_R_addToken_57 ?_
        refine (show As l b 12 y_R_scan KC RC _ (upd2 (upd2 (upd2 (upd2 (upd2 I 144 5 (nI 0)) 146 (0) (nI 17)) 147 (0) (nI 0)) 148 (0) (nI 0)) 144 5 (nI 1)) 205 [.ref 144, .int (nI 0), uu, uu] [] from ?_)
        refine as_retv rfl d_R_scan_205 ?_
        refine (show As l b 13 y_R_understand KC RC _ (upd2 (upd2 (upd2 (upd2 (upd2 I 144 5 (nI 0)) 146 (0) (nI 17)) 147 (0) (nI 0)) 148 (0) (nI 0)) 144 5 (nI 1)) 4 [.ref 144, .int (nI 0), uu] [] from ?_)
        refine aw_aload_n rfl rfl d_R_understand_4 ?_
        refine as_callV (as := []) (d' := 12) (q := ("SinglesUp$Reader", zT7, 13)) mo_R_forget lk_R_44 kc_144 rfl rfl rfl ⟨by decide, by decide⟩ rfl rfl (by decide) d_R_understand_5 (Ss.of (show As l b 12 y_R_forget KC RC _ (upd2 (upd2 (upd2 (upd2 (upd2 I 144 5 (nI 0)) 146 (0) (nI 17)) 147 (0) (nI 0)) 148 (0) (nI 0)) 144 5 (nI 1)) 0 [.ref 144] [] from ?_))
        refine aw_aload_n rfl rfl d_R_forget_0 ?_
        refine aw_iconst (v := nI 0) ci_0 d_R_forget_1 ?_
        refine aw_puti fl_R_35 kc_144 (by decide) rfl rfl rfl rfl d_R_forget_2 ?_
        refine aw_aload_n rfl rfl d_R_forget_5 ?_
        refine aw_iconst (v := nI 0) ci_0 d_R_forget_6 ?_
        refine aw_puti fl_R_38 kc_144 (by decide) rfl rfl rfl rfl d_R_forget_7 ?_
        refine aw_aload_n rfl rfl d_R_forget_10 ?_
        refine aw_iconst (v := (-1 : Int32)) rfl d_R_forget_11 ?_
        refine aw_puti fl_R_24 kc_144 (by decide) rfl rfl rfl rfl d_R_forget_12 ?_
        refine as_retv rfl d_R_forget_15 ?_
        refine (show As l b 13 y_R_understand KC RC _ (upd2 (upd2 (upd2 (upd2 (upd2 (upd2 (upd2 (upd2 I 144 5 (nI 0)) 146 (0) (nI 17)) 147 (0) (nI 0)) 148 (0) (nI 0)) 144 5 (nI 1)) 144 1 (nI 0)) 144 10 (nI 0)) 144 11 ((-1 : Int32))) 8 [.ref 144, .int (nI 0), uu] [] from ?_)
        refine aw_aload_n rfl rfl d_R_understand_8 ?_
        refine aw_iload_n rfl rfl d_R_understand_9 ?_
        refine aw_puti fl_R_47 kc_144 (by decide) rfl (by decide +kernel) (by decide +kernel) rfl d_R_understand_10 ?_
        refine aw_aload_n rfl rfl d_R_understand_13 ?_
        refine aw_getr fl_R_31 kc_144 (by decide) rfl rc_144_12 d_R_understand_14 ?_
        refine as_callV (as := []) (d' := 12) (q := ("SinglesUp$Law", zT3, 6)) mo_W_clear lk_R_51 kc_149 rfl rfl rfl ⟨by decide, by decide⟩ rfl rfl (by decide) d_R_understand_17 (Ss.of (show As l b 12 y_W_clear KC RC _ (upd2 (upd2 (upd2 (upd2 (upd2 (upd2 (upd2 (upd2 (upd2 I 144 5 (nI 0)) 146 (0) (nI 17)) 147 (0) (nI 0)) 148 (0) (nI 0)) 144 5 (nI 1)) 144 1 (nI 0)) 144 10 (nI 0)) 144 11 ((-1 : Int32))) 144 9 (nI 0)) 0 [.ref 149] [] from ?_))
        refine aw_aload_n rfl rfl d_W_clear_0 ?_
        refine aw_iconst (v := nI 0) ci_0 d_W_clear_1 ?_
        refine aw_puti fl_W_22 kc_149 (by decide) rfl rfl rfl rfl d_W_clear_2 ?_
        refine aw_aload_n rfl rfl d_W_clear_5 ?_
        refine aw_iconst (v := nI 0) ci_0 d_W_clear_6 ?_
        refine aw_puti fl_W_26 kc_149 (by decide) rfl rfl rfl rfl d_W_clear_7 ?_
        refine as_retv rfl d_W_clear_10 ?_
        refine (show As l b 13 y_R_understand KC RC _ (upd2 (upd2 (upd2 (upd2 (upd2 (upd2 (upd2 (upd2 (upd2 (upd2 (upd2 I 144 5 (nI 0)) 146 (0) (nI 17)) 147 (0) (nI 0)) 148 (0) (nI 0)) 144 5 (nI 1)) 144 1 (nI 0)) 144 10 (nI 0)) 144 11 ((-1 : Int32))) 144 9 (nI 0)) 149 1 (nI 0)) 149 4 (nI 0)) 20 [.ref 144, .int (nI 0), uu] [] from ?_)
        refine aw_aload_n rfl rfl d_R_understand_20 ?_
        refine aw_iconst (v := (-1 : Int32)) rfl d_R_understand_21 ?_
        refine aw_puti fl_R_54 kc_144 (by decide) rfl rfl rfl rfl d_R_understand_22 ?_
        refine aw_aload_n rfl rfl d_R_understand_25 ?_
        refine as_callV (as := []) (d' := 12) (q := ("SinglesUp$Reader", zT7, 13)) mo_R_advance lk_R_57 kc_144 rfl rfl rfl ⟨by decide, by decide⟩ rfl rfl (by decide) d_R_understand_26 (Ss.of (show As l b 12 y_R_advance KC RC _ (upd2 (upd2 (upd2 (upd2 (upd2 (upd2 (upd2 (upd2 (upd2 (upd2 (upd2 (upd2 I 144 5 (nI 0)) 146 (0) (nI 17)) 147 (0) (nI 0)) 148 (0) (nI 0)) 144 5 (nI 1)) 144 1 (nI 0)) 144 10 (nI 0)) 144 11 ((-1 : Int32))) 144 9 (nI 0)) 149 1 (nI 0)) 149 4 (nI 0)) 144 6 ((-1 : Int32))) 0 [.ref 144, uu] [] from ?_))
        refine aw_aload_n rfl rfl d_R_advance_0 ?_
        refine aw_geti fl_R_54 kc_144 (by decide) rfl d_R_advance_1 ?_
        refine aw_top (x2 := (-1 : Int32)) (upd2_eq) ?_
        refine aw_iconst (v := nI 1) ci_1 d_R_advance_4 ?_
        refine aw_iadd d_R_advance_5 ?_
        refine aw_top (x2 := nI 0) (by decide +kernel) ?_
        refine aw_istore_n (lv2 := [.ref 144, .int (nI 0)]) rfl (by decide) rfl d_R_advance_6 ?_
        refine aw_aload_n rfl rfl d_R_advance_7 ?_
        refine aw_geti fl_R_38 kc_144 (by decide) rfl d_R_advance_8 ?_
        refine aw_top (x2 := nI 0) (Eq.trans (upd2_nx (by omega)) (Eq.trans (congrFun (upd2_ne (by decide)) (10)) (Eq.trans (congrFun (upd2_ne (by decide)) (10)) (Eq.trans (upd2_nx (by omega)) (Eq.trans (upd2_nx (by omega)) (upd2_eq)))))) ?_
        refine aw_if_neI (tgt := 58) (0) (by decide +kernel) (by decide) d_R_advance_11 (fun q => absurd q (by decide)) (fun _ => ?_)
        refine aw_iload_n rfl rfl d_R_advance_14 ?_
        refine aw_if_ltI (tgt := 58) (0) (by decide +kernel) (by decide) d_R_advance_15 (fun q => absurd q (by decide)) (fun _ => ?_)
        refine aw_iload_n rfl rfl d_R_advance_18 ?_
        refine aw_sipush (v := nI 400) cs_400 d_R_advance_19 ?_
        refine aw_icmp_gtI (tgt := 58) (0) (400) (by decide +kernel) (by decide +kernel) (by decide) d_R_advance_22 (fun q => absurd q (by decide)) (fun _ => ?_)
        refine aw_iload_n rfl rfl d_R_advance_25 ?_
        refine aw_aload_n rfl rfl d_R_advance_26 ?_
        refine aw_geti fl_R_66 kc_144 (by decide) rfl d_R_advance_27 ?_
        refine aw_top (x2 := nI 1) (Eq.trans (upd2_nx (by omega)) (Eq.trans (congrFun (upd2_ne (by decide)) (5)) (Eq.trans (congrFun (upd2_ne (by decide)) (5)) (Eq.trans (upd2_nx (by omega)) (Eq.trans (upd2_nx (by omega)) (Eq.trans (upd2_nx (by omega)) (Eq.trans (upd2_nx (by omega)) (upd2_eq)))))))) ?_
        refine aw_icmp_geI (tgt := 58) (0) (1) (by decide +kernel) (by decide +kernel) (by decide) d_R_advance_30 (fun q => absurd q (by decide)) (fun _ => ?_)
        refine aw_aload_n rfl rfl d_R_advance_33 ?_
        refine aw_iload_n rfl rfl d_R_advance_34 ?_
        refine aw_puti fl_R_54 kc_144 (by decide) rfl rfl rfl rfl d_R_advance_35 ?_
        refine aw_aload_n rfl rfl d_R_advance_38 ?_
        refine aw_aload_n rfl rfl d_R_advance_39 ?_
        refine aw_getr fl_R_15 kc_144 (by decide) rfl rc_144_2 d_R_advance_40 ?_
        refine aw_iload_n rfl rfl d_R_advance_43 ?_
        refine aw_iald (j := 0) kc_146 (vp_in_nI (by decide) (by decide)) (nI_clamp (by decide)) d_R_advance_44 ?_
        refine aw_top (x2 := nI 17) (Eq.trans (congrFun (upd2_ne (by decide)) (0)) (Eq.trans (congrFun (upd2_ne (by decide)) (0)) (Eq.trans (congrFun (upd2_ne (by decide)) (0)) (Eq.trans (congrFun (upd2_ne (by decide)) (0)) (Eq.trans (congrFun (upd2_ne (by decide)) (0)) (Eq.trans (congrFun (upd2_ne (by decide)) (0)) (Eq.trans (congrFun (upd2_ne (by decide)) (0)) (Eq.trans (congrFun (upd2_ne (by decide)) (0)) (Eq.trans (congrFun (upd2_ne (by decide)) (0)) (Eq.trans (congrFun (upd2_ne (by decide)) (0)) (Eq.trans (congrFun (upd2_ne (by decide)) (0)) (upd2_eq)))))))))))) ?_
        refine aw_puti fl_R_60 kc_144 (by decide) rfl rfl rfl rfl d_R_advance_45 ?_
        refine aw_aload_n rfl rfl d_R_advance_48 ?_
        refine aw_aload_n rfl rfl d_R_advance_49 ?_
        refine aw_getr fl_R_21 kc_144 (by decide) rfl rc_144_4 d_R_advance_50 ?_
        refine aw_iload_n rfl rfl d_R_advance_53 ?_
        refine aw_iald (j := 0) kc_148 (vp_in_nI (by decide) (by decide)) (nI_clamp (by decide)) d_R_advance_54 ?_
        refine aw_top (x2 := nI 0) (Eq.trans (congrFun (upd2_ne (by decide)) (0)) (Eq.trans (congrFun (upd2_ne (by decide)) (0)) (Eq.trans (congrFun (upd2_ne (by decide)) (0)) (Eq.trans (congrFun (upd2_ne (by decide)) (0)) (Eq.trans (congrFun (upd2_ne (by decide)) (0)) (Eq.trans (congrFun (upd2_ne (by decide)) (0)) (Eq.trans (congrFun (upd2_ne (by decide)) (0)) (Eq.trans (congrFun (upd2_ne (by decide)) (0)) (Eq.trans (congrFun (upd2_ne (by decide)) (0)) (Eq.trans (congrFun (upd2_ne (by decide)) (0)) (upd2_eq))))))))))) ?_
        refine aw_puti fl_R_109 kc_144 (by decide) rfl rfl rfl rfl d_R_advance_55 ?_
        refine as_retv rfl d_R_advance_58 ?_
        refine (show As l b 13 y_R_understand KC RC _ (upd2 (upd2 (upd2 (upd2 (upd2 (upd2 (upd2 (upd2 (upd2 (upd2 (upd2 (upd2 (upd2 (upd2 (upd2 I 144 5 (nI 0)) 146 (0) (nI 17)) 147 (0) (nI 0)) 148 (0) (nI 0)) 144 5 (nI 1)) 144 1 (nI 0)) 144 10 (nI 0)) 144 11 ((-1 : Int32))) 144 9 (nI 0)) 149 1 (nI 0)) 149 4 (nI 0)) 144 6 ((-1 : Int32))) 144 6 (nI 0)) 144 7 (nI 17)) 144 8 (nI 0)) 29 [.ref 144, .int (nI 0), uu] [] from ?_)
        refine aw_iconst (v := nI 0) ci_0 d_R_understand_29 ?_
        refine aw_istore_n (lv2 := [.ref 144, .int (nI 0), .int (nI 0)]) rfl (by decide) rfl d_R_understand_30 ?_
        refine aw_iload_n rfl rfl d_R_understand_31 ?_
        refine aw_sipush (v := nI 400) cs_400 d_R_understand_32 ?_
        refine aw_icmp_geI (tgt := 64) (0) (400) (by decide +kernel) (by decide +kernel) (by decide) d_R_understand_35 (fun q => absurd q (by decide)) (fun _ => ?_)
        refine aw_aload_n rfl rfl d_R_understand_38 ?_
        refine aw_geti fl_R_38 kc_144 (by decide) rfl d_R_understand_39 ?_
        refine aw_top (x2 := nI 0) (Eq.trans (upd2_nx (by omega)) (Eq.trans (upd2_nx (by omega)) (Eq.trans (upd2_nx (by omega)) (Eq.trans (upd2_nx (by omega)) (Eq.trans (congrFun (upd2_ne (by decide)) (10)) (Eq.trans (congrFun (upd2_ne (by decide)) (10)) (Eq.trans (upd2_nx (by omega)) (Eq.trans (upd2_nx (by omega)) (upd2_eq))))))))) ?_
        refine aw_if_neI (tgt := 64) (0) (by decide +kernel) (by decide) d_R_understand_42 (fun q => absurd q (by decide)) (fun _ => ?_)
        refine aw_aload_n rfl rfl d_R_understand_45 ?_
        refine aw_geti fl_R_60 kc_144 (by decide) rfl d_R_understand_46 ?_
        refine aw_top (x2 := nI 17) (Eq.trans (upd2_nx (by omega)) (upd2_eq)) ?_
        refine aw_bipush (v := nI 17) cb_17 d_R_understand_49 ?_
        refine aw_icmp_eqI (tgt := 64) (17) (17) (by decide +kernel) (by decide +kernel) (by decide) d_R_understand_51 (fun _ => ?_) (fun q => absurd q (by decide))
        refine aw_aload_n rfl rfl d_R_understand_64 ?_
        refine aw_geti fl_R_38 kc_144 (by decide) rfl d_R_understand_65 ?_
        refine aw_top (x2 := nI 0) (Eq.trans (upd2_nx (by omega)) (Eq.trans (upd2_nx (by omega)) (Eq.trans (upd2_nx (by omega)) (Eq.trans (upd2_nx (by omega)) (Eq.trans (congrFun (upd2_ne (by decide)) (10)) (Eq.trans (congrFun (upd2_ne (by decide)) (10)) (Eq.trans (upd2_nx (by omega)) (Eq.trans (upd2_nx (by omega)) (upd2_eq))))))))) ?_
        refine aw_if_neI (tgt := 75) (0) (by decide +kernel) (by decide) d_R_understand_68 (fun q => absurd q (by decide)) (fun _ => ?_)
        refine aw_iconst (v := nI 1) ci_1 d_R_understand_71 ?_
        refine aw_goto (tgt := 76) (by decide) d_R_understand_72 ?_
        refine as_retz rfl (by decide +kernel) d_R_understand_76 ?_
        refine (show As l b 14 y_S_text KC RC K2 (upd2 (upd2 (upd2 (upd2 (upd2 (upd2 (upd2 (upd2 (upd2 (upd2 (upd2 (upd2 (upd2 (upd2 (upd2 I 144 5 (nI 0)) 146 (0) (nI 17)) 147 (0) (nI 0)) 148 (0) (nI 0)) 144 5 (nI 1)) 144 1 (nI 0)) 144 10 (nI 0)) 144 11 ((-1 : Int32))) 144 9 (nI 0)) 149 1 (nI 0)) 149 4 (nI 0)) 144 6 ((-1 : Int32))) 144 6 (nI 0)) 144 7 (nI 17)) 144 8 (nI 0)) 35 [.ref 0, .int (nI 0)] [.int (nI 1)] from ?_)
        refine aw_if_neI (tgt := 40) (1) (by decide +kernel) (by decide) d_S_text_35 (fun _ => ?_) (fun q => absurd q (by decide))
        refine aw_aload_n rfl rfl d_S_text_40 ?_
        refine aw_getr fl_S_12 kc_0 (by decide) rfl rc_0_0 d_S_text_41 ?_
        refine aw_getr fl_S_117 kc_1 (by decide) rfl rc_1_1 d_S_text_44 ?_
        refine aw_iload_n rfl rfl d_S_text_47 ?_
        refine aw_aald (j := 0) kc_3 (vp_in_nI (by decide) (by decide)) (nI_clamp (by decide)) rc_3_0 d_S_text_48 ?_
        refine aw_aload_n rfl rfl d_S_text_49 ?_
        refine aw_getr fl_S_39 kc_0 (by decide) rfl rc_0_5 d_S_text_50 ?_
        refine aw_getr fl_S_121 kc_144 (by decide) rfl rc_144_12 d_S_text_53 ?_
        refine as_callV (as := [.ref 149]) (d' := 13) (q := ("SinglesUp$Law", zT3, 6)) mo_W_copyFrom lk_S_125 kc_16 rfl rfl rfl ⟨by decide, by decide⟩ rfl rfl (by decide) d_S_text_56 (Ss.of (show As l b 13 y_W_copyFrom KC RC _ (upd2 (upd2 (upd2 (upd2 (upd2 (upd2 (upd2 (upd2 (upd2 (upd2 (upd2 (upd2 (upd2 (upd2 (upd2 I 144 5 (nI 0)) 146 (0) (nI 17)) 147 (0) (nI 0)) 148 (0) (nI 0)) 144 5 (nI 1)) 144 1 (nI 0)) 144 10 (nI 0)) 144 11 ((-1 : Int32))) 144 9 (nI 0)) 149 1 (nI 0)) 149 4 (nI 0)) 144 6 ((-1 : Int32))) 144 6 (nI 0)) 144 7 (nI 17)) 144 8 (nI 0)) 0 [.ref 16, .ref 149] [] from ?_))
        refine aw_aload_n rfl rfl d_W_copyFrom_0 ?_
        refine aw_aload_n rfl rfl d_W_copyFrom_1 ?_
        refine aw_geti fl_W_22 kc_149 (by decide) rfl d_W_copyFrom_2 ?_
        refine aw_top (x2 := nI 0) (Eq.trans (congrFun (upd2_ne (by decide)) (1)) (Eq.trans (congrFun (upd2_ne (by decide)) (1)) (Eq.trans (congrFun (upd2_ne (by decide)) (1)) (Eq.trans (congrFun (upd2_ne (by decide)) (1)) (Eq.trans (upd2_nx (by omega)) (upd2_eq)))))) ?_
        refine aw_puti fl_W_22 kc_16 (by decide) rfl rfl rfl rfl d_W_copyFrom_5 ?_
        refine aw_aload_n rfl rfl d_W_copyFrom_8 ?_
        refine aw_aload_n rfl rfl d_W_copyFrom_9 ?_
        refine aw_geti fl_W_26 kc_149 (by decide) rfl d_W_copyFrom_10 ?_
        refine aw_top (x2 := nI 0) (Eq.trans (congrFun (upd2_ne (by decide)) (4)) (Eq.trans (congrFun (upd2_ne (by decide)) (4)) (Eq.trans (congrFun (upd2_ne (by decide)) (4)) (Eq.trans (congrFun (upd2_ne (by decide)) (4)) (Eq.trans (congrFun (upd2_ne (by decide)) (4)) (upd2_eq)))))) ?_
        refine aw_puti fl_W_26 kc_16 (by decide) rfl rfl rfl rfl d_W_copyFrom_13 ?_
        refine aw_aload_n rfl rfl d_W_copyFrom_16 ?_
        refine aw_getr fl_W_9 kc_149 (by decide) rfl rc_149_0 d_W_copyFrom_17 ?_
        refine aw_iconst (v := nI 0) ci_0 d_W_copyFrom_20 ?_
        refine aw_aload_n rfl rfl d_W_copyFrom_21 ?_
        refine aw_getr fl_W_9 kc_16 (by decide) rfl rc_16_0 d_W_copyFrom_22 ?_
        refine aw_iconst (v := nI 0) ci_0 d_W_copyFrom_25 ?_
        refine aw_sipush (v := nI 400) cs_400 d_W_copyFrom_26 ?_
        refine as_copy0 (n := 400) lka_W_29 ac_nat ac_sta ac_ini kc_150 kc_17 (by omega) (by omega) (by omega) (by decide) rfl d_W_copyFrom_29 (fun J3 e4 e5 e6 => ?_)
        refine aw_aload_n rfl rfl d_W_copyFrom_32 ?_
        refine aw_getr fl_W_13 kc_149 (by decide) rfl rc_149_2 d_W_copyFrom_33 ?_
        refine aw_iconst (v := nI 0) ci_0 d_W_copyFrom_36 ?_
        refine aw_aload_n rfl rfl d_W_copyFrom_37 ?_
        refine aw_getr fl_W_13 kc_16 (by decide) rfl rc_16_2 d_W_copyFrom_38 ?_
        refine aw_iconst (v := nI 0) ci_0 d_W_copyFrom_41 ?_
        refine aw_bipush (v := nI 17) cb_17 d_W_copyFrom_42 ?_
        refine as_copy0 (n := 17) lka_W_29 ac_nat ac_sta ac_ini kc_151 kc_18 (by omega) (by omega) (by omega) (by decide) rfl d_W_copyFrom_44 (fun J7 e8 e9 e10 => ?_)
        refine aw_aload_n rfl rfl d_W_copyFrom_47 ?_
        refine aw_getr fl_W_16 kc_149 (by decide) rfl rc_149_3 d_W_copyFrom_48 ?_
        refine aw_iconst (v := nI 0) ci_0 d_W_copyFrom_51 ?_
        refine aw_aload_n rfl rfl d_W_copyFrom_52 ?_
        refine aw_getr fl_W_16 kc_16 (by decide) rfl rc_16_3 d_W_copyFrom_53 ?_
        refine aw_iconst (v := nI 0) ci_0 d_W_copyFrom_56 ?_
        refine aw_bipush (v := nI 16) cb_16 d_W_copyFrom_57 ?_
        refine as_copy0 (n := 16) lka_W_29 ac_nat ac_sta ac_ini kc_152 kc_19 (by omega) (by omega) (by omega) (by decide) rfl d_W_copyFrom_59 (fun J11 e12 e13 e14 => ?_)
        refine as_retv rfl d_W_copyFrom_62 ?_
        refine (show As l b 14 y_S_text KC RC K2 (J11) 59 [.ref 0, .int (nI 0)] [] from ?_)
        refine aw_aload_n rfl rfl d_S_text_59 ?_
        refine aw_getr fl_S_39 kc_0 (by decide) rfl rc_0_5 d_S_text_60 ?_
        refine aw_getr fl_S_121 kc_144 (by decide) rfl rc_144_12 d_S_text_63 ?_
        refine aw_geti fl_S_131 kc_149 (by decide) rfl d_S_text_66 ?_
        refine aw_top (x2 := nI 0) (((congrFun (e12 149 (by decide)) (4)).trans (((congrFun (e8 149 (by decide)) (4)).trans (((congrFun (e4 149 (by decide)) (4)).trans (Eq.trans (congrFun (upd2_ne (by decide)) (4)) (Eq.trans (congrFun (upd2_ne (by decide)) (4)) (Eq.trans (congrFun (upd2_ne (by decide)) (4)) (Eq.trans (congrFun (upd2_ne (by decide)) (4)) (Eq.trans (congrFun (upd2_ne (by decide)) (4)) (Eq.trans (congrFun (upd2_ne (by decide)) (4)) (upd2_eq))))))))))))) ?_
        exact as_reti rfl d_S_text_69 (hg (by omega) _)
      · refine aw_aload_n rfl rfl d_S_text_18 ?_
        refine aw_getr fl_S_39 kc_0 (by decide) rfl rc_0_5 d_S_text_19 ?_
        refine aw_iload_n rfl rfl d_S_text_22 ?_
        refine aw_iconst (v := nI 4) ci_4 d_S_text_23 ?_
        refine aw_icmp_neI (tgt := 31) (1) (4) (by decide +kernel) (by decide +kernel) (by decide) d_S_text_24 (fun _ => ?_) (fun q => absurd q (by decide))
        refine aw_iconst (v := nI 0) ci_0 d_S_text_31 ?_
        refine as_callV (as := [.int (nI 0)]) (d' := 13) (q := ("SinglesUp$Reader", zT7, 13)) mo_R_understand lk_S_113 kc_144 rfl rfl rfl ⟨by decide, by decide⟩ rfl rfl (by decide) d_S_text_32 (Ss.of (show As l b 13 y_R_understand KC RC _ (I) 0 [.ref 144, .int (nI 0), uu] [] from ?_))
        refine aw_aload_n rfl rfl d_R_understand_0 ?_
        refine as_callV (as := []) (d' := 12) (q := ("SinglesUp$Reader", zT7, 13)) mo_R_scan lk_R_41 kc_144 rfl rfl rfl ⟨by decide, by decide⟩ rfl rfl (by decide) d_R_understand_1 (Ss.of (show As l b 12 y_R_scan KC RC _ (I) 0 [.ref 144, uu, uu, uu] [] from ?_))
        refine aw_aload_n rfl rfl d_R_scan_0 ?_
        refine aw_iconst (v := nI 0) ci_0 d_R_scan_1 ?_
        refine aw_puti fl_R_66 kc_144 (by decide) rfl rfl rfl rfl d_R_scan_2 ?_
        refine aw_iconst (v := nI 0) ci_0 d_R_scan_5 ?_
        refine aw_istore_n (lv2 := [.ref 144, .int (nI 0), uu, uu]) rfl (by decide) rfl d_R_scan_6 ?_
        refine aw_iload_n rfl rfl d_R_scan_7 ?_
        refine aw_aload_n rfl rfl d_R_scan_8 ?_
        refine aw_geti fl_R_35 kc_144 (by decide) rfl d_R_scan_9 ?_
        refine aw_top (x2 := nI 0) (Eq.trans (upd2_nx (by omega)) (q1)) ?_
        refine aw_icmp_geI (tgt := 194) (0) (0) (by decide +kernel) (by decide +kernel) (by decide) d_R_scan_12 (fun _ => ?_) (fun q => absurd q (by decide))
        refine aw_aload_n rfl rfl d_R_scan_194 ?_
        refine aw_bipush (v := nI 17) cb_17 d_R_scan_195 ?_
        refine aw_aload_n rfl rfl d_R_scan_197 ?_
        refine aw_geti fl_R_35 kc_144 (by decide) rfl d_R_scan_198 ?_
        refine aw_top (x2 := nI 0) (Eq.trans (upd2_nx (by omega)) (q1)) ?_
        refine aw_iconst (v := nI 0) ci_0 d_R_scan_201 ?_
        refine as_callV (as := [.int (nI 17), .int (nI 0), .int (nI 0)]) (d' := 11) (q := ("SinglesUp$Reader", zT7, 13)) mo_R_addToken lk_R_77 kc_144 rfl rfl rfl ⟨by decide, by decide⟩ rfl rfl (by decide) d_R_scan_202 (Ss.of (show As l b 11 y_R_addToken KC RC _ (upd2 I 144 5 (nI 0)) 0 [.ref 144, .int (nI 17), .int (nI 0), .int (nI 0)] [] from ?_))
        refine aw_aload_n rfl rfl d_R_addToken_0 ?_
        refine aw_geti fl_R_66 kc_144 (by decide) rfl d_R_addToken_1 ?_
        refine aw_top (x2 := nI 0) (upd2_eq) ?_
        refine aw_if_ltI (tgt := 57) (0) (by decide +kernel) (by decide) d_R_addToken_4 (fun q => absurd q (by decide)) (fun _ => ?_)
        refine aw_aload_n rfl rfl d_R_addToken_7 ?_
        refine aw_geti fl_R_66 kc_144 (by decide) rfl d_R_addToken_8 ?_
        refine aw_top (x2 := nI 0) (upd2_eq) ?_
        refine aw_sipush (v := nI 400) cs_400 d_R_addToken_11 ?_
        refine aw_icmp_gtI (tgt := 57) (0) (400) (by decide +kernel) (by decide +kernel) (by decide) d_R_addToken_14 (fun q => absurd q (by decide)) (fun _ => ?_)
        refine aw_aload_n rfl rfl d_R_addToken_17 ?_
        refine aw_getr fl_R_15 kc_144 (by decide) rfl rc_144_2 d_R_addToken_18 ?_
        refine aw_aload_n rfl rfl d_R_addToken_21 ?_
        refine aw_geti fl_R_66 kc_144 (by decide) rfl d_R_addToken_22 ?_
        refine aw_top (x2 := nI 0) (upd2_eq) ?_
        refine aw_iload_n rfl rfl d_R_addToken_25 ?_
        refine aw_iast (j := 0) kc_146 (vp_in_nI (by decide) (by decide)) (nI_clamp (by decide)) d_R_addToken_26 ?_
        refine aw_aload_n rfl rfl d_R_addToken_27 ?_
        refine aw_getr fl_R_18 kc_144 (by decide) rfl rc_144_3 d_R_addToken_28 ?_
        refine aw_aload_n rfl rfl d_R_addToken_31 ?_
        refine aw_geti fl_R_66 kc_144 (by decide) rfl d_R_addToken_32 ?_
        refine aw_top (x2 := nI 0) (Eq.trans (congrFun (upd2_ne (by decide)) (5)) (upd2_eq)) ?_
        refine aw_iload_n rfl rfl d_R_addToken_35 ?_
        refine aw_iast (j := 0) kc_147 (vp_in_nI (by decide) (by decide)) (nI_clamp (by decide)) d_R_addToken_36 ?_
        refine aw_aload_n rfl rfl d_R_addToken_37 ?_
        refine aw_getr fl_R_21 kc_144 (by decide) rfl rc_144_4 d_R_addToken_38 ?_
        refine aw_aload_n rfl rfl d_R_addToken_41 ?_
        refine aw_geti fl_R_66 kc_144 (by decide) rfl d_R_addToken_42 ?_
        refine aw_top (x2 := nI 0) (Eq.trans (congrFun (upd2_ne (by decide)) (5)) (Eq.trans (congrFun (upd2_ne (by decide)) (5)) (upd2_eq))) ?_
        refine aw_iload_n rfl rfl d_R_addToken_45 ?_
        refine aw_iast (j := 0) kc_148 (vp_in_nI (by decide) (by decide)) (nI_clamp (by decide)) d_R_addToken_46 ?_
        refine aw_aload_n rfl rfl d_R_addToken_47 ?_
        refine aw_dup rfl d_R_addToken_48 ?_
        refine aw_geti fl_R_66 kc_144 (by decide) rfl d_R_addToken_49 ?_
        refine aw_top (x2 := nI 0) (Eq.trans (congrFun (upd2_ne (by decide)) (5)) (Eq.trans (congrFun (upd2_ne (by decide)) (5)) (Eq.trans (congrFun (upd2_ne (by decide)) (5)) (upd2_eq)))) ?_
        refine aw_iconst (v := nI 1) ci_1 d_R_addToken_52 ?_
        refine aw_iadd d_R_addToken_53 ?_
        refine aw_top (x2 := nI 1) (by decide +kernel) ?_
        refine aw_puti fl_R_66 kc_144 (by decide) rfl rfl rfl rfl d_R_addToken_54 ?_
        refine as_retv rfl d_R_addToken_57 ?_
        refine (show As l b 12 y_R_scan KC RC _ (upd2 (upd2 (upd2 (upd2 (upd2 I 144 5 (nI 0)) 146 (0) (nI 17)) 147 (0) (nI 0)) 148 (0) (nI 0)) 144 5 (nI 1)) 205 [.ref 144, .int (nI 0), uu, uu] [] from ?_)
        refine as_retv rfl d_R_scan_205 ?_
        refine (show As l b 13 y_R_understand KC RC _ (upd2 (upd2 (upd2 (upd2 (upd2 I 144 5 (nI 0)) 146 (0) (nI 17)) 147 (0) (nI 0)) 148 (0) (nI 0)) 144 5 (nI 1)) 4 [.ref 144, .int (nI 0), uu] [] from ?_)
        refine aw_aload_n rfl rfl d_R_understand_4 ?_
        refine as_callV (as := []) (d' := 12) (q := ("SinglesUp$Reader", zT7, 13)) mo_R_forget lk_R_44 kc_144 rfl rfl rfl ⟨by decide, by decide⟩ rfl rfl (by decide) d_R_understand_5 (Ss.of (show As l b 12 y_R_forget KC RC _ (upd2 (upd2 (upd2 (upd2 (upd2 I 144 5 (nI 0)) 146 (0) (nI 17)) 147 (0) (nI 0)) 148 (0) (nI 0)) 144 5 (nI 1)) 0 [.ref 144] [] from ?_))
        refine aw_aload_n rfl rfl d_R_forget_0 ?_
        refine aw_iconst (v := nI 0) ci_0 d_R_forget_1 ?_
        refine aw_puti fl_R_35 kc_144 (by decide) rfl rfl rfl rfl d_R_forget_2 ?_
        refine aw_aload_n rfl rfl d_R_forget_5 ?_
        refine aw_iconst (v := nI 0) ci_0 d_R_forget_6 ?_
        refine aw_puti fl_R_38 kc_144 (by decide) rfl rfl rfl rfl d_R_forget_7 ?_
        refine aw_aload_n rfl rfl d_R_forget_10 ?_
        refine aw_iconst (v := (-1 : Int32)) rfl d_R_forget_11 ?_
        refine aw_puti fl_R_24 kc_144 (by decide) rfl rfl rfl rfl d_R_forget_12 ?_
        refine as_retv rfl d_R_forget_15 ?_
        refine (show As l b 13 y_R_understand KC RC _ (upd2 (upd2 (upd2 (upd2 (upd2 (upd2 (upd2 (upd2 I 144 5 (nI 0)) 146 (0) (nI 17)) 147 (0) (nI 0)) 148 (0) (nI 0)) 144 5 (nI 1)) 144 1 (nI 0)) 144 10 (nI 0)) 144 11 ((-1 : Int32))) 8 [.ref 144, .int (nI 0), uu] [] from ?_)
        refine aw_aload_n rfl rfl d_R_understand_8 ?_
        refine aw_iload_n rfl rfl d_R_understand_9 ?_
        refine aw_puti fl_R_47 kc_144 (by decide) rfl (by decide +kernel) (by decide +kernel) rfl d_R_understand_10 ?_
        refine aw_aload_n rfl rfl d_R_understand_13 ?_
        refine aw_getr fl_R_31 kc_144 (by decide) rfl rc_144_12 d_R_understand_14 ?_
        refine as_callV (as := []) (d' := 12) (q := ("SinglesUp$Law", zT3, 6)) mo_W_clear lk_R_51 kc_149 rfl rfl rfl ⟨by decide, by decide⟩ rfl rfl (by decide) d_R_understand_17 (Ss.of (show As l b 12 y_W_clear KC RC _ (upd2 (upd2 (upd2 (upd2 (upd2 (upd2 (upd2 (upd2 (upd2 I 144 5 (nI 0)) 146 (0) (nI 17)) 147 (0) (nI 0)) 148 (0) (nI 0)) 144 5 (nI 1)) 144 1 (nI 0)) 144 10 (nI 0)) 144 11 ((-1 : Int32))) 144 9 (nI 0)) 0 [.ref 149] [] from ?_))
        refine aw_aload_n rfl rfl d_W_clear_0 ?_
        refine aw_iconst (v := nI 0) ci_0 d_W_clear_1 ?_
        refine aw_puti fl_W_22 kc_149 (by decide) rfl rfl rfl rfl d_W_clear_2 ?_
        refine aw_aload_n rfl rfl d_W_clear_5 ?_
        refine aw_iconst (v := nI 0) ci_0 d_W_clear_6 ?_
        refine aw_puti fl_W_26 kc_149 (by decide) rfl rfl rfl rfl d_W_clear_7 ?_
        refine as_retv rfl d_W_clear_10 ?_
        refine (show As l b 13 y_R_understand KC RC _ (upd2 (upd2 (upd2 (upd2 (upd2 (upd2 (upd2 (upd2 (upd2 (upd2 (upd2 I 144 5 (nI 0)) 146 (0) (nI 17)) 147 (0) (nI 0)) 148 (0) (nI 0)) 144 5 (nI 1)) 144 1 (nI 0)) 144 10 (nI 0)) 144 11 ((-1 : Int32))) 144 9 (nI 0)) 149 1 (nI 0)) 149 4 (nI 0)) 20 [.ref 144, .int (nI 0), uu] [] from ?_)
        refine aw_aload_n rfl rfl d_R_understand_20 ?_
        refine aw_iconst (v := (-1 : Int32)) rfl d_R_understand_21 ?_
        refine aw_puti fl_R_54 kc_144 (by decide) rfl rfl rfl rfl d_R_understand_22 ?_
        refine aw_aload_n rfl rfl d_R_understand_25 ?_
        refine as_callV (as := []) (d' := 12) (q := ("SinglesUp$Reader", zT7, 13)) mo_R_advance lk_R_57 kc_144 rfl rfl rfl ⟨by decide, by decide⟩ rfl rfl (by decide) d_R_understand_26 (Ss.of (show As l b 12 y_R_advance KC RC _ (upd2 (upd2 (upd2 (upd2 (upd2 (upd2 (upd2 (upd2 (upd2 (upd2 (upd2 (upd2 I 144 5 (nI 0)) 146 (0) (nI 17)) 147 (0) (nI 0)) 148 (0) (nI 0)) 144 5 (nI 1)) 144 1 (nI 0)) 144 10 (nI 0)) 144 11 ((-1 : Int32))) 144 9 (nI 0)) 149 1 (nI 0)) 149 4 (nI 0)) 144 6 ((-1 : Int32))) 0 [.ref 144, uu] [] from ?_))
        refine aw_aload_n rfl rfl d_R_advance_0 ?_
        refine aw_geti fl_R_54 kc_144 (by decide) rfl d_R_advance_1 ?_
        refine aw_top (x2 := (-1 : Int32)) (upd2_eq) ?_
        refine aw_iconst (v := nI 1) ci_1 d_R_advance_4 ?_
        refine aw_iadd d_R_advance_5 ?_
        refine aw_top (x2 := nI 0) (by decide +kernel) ?_
        refine aw_istore_n (lv2 := [.ref 144, .int (nI 0)]) rfl (by decide) rfl d_R_advance_6 ?_
        refine aw_aload_n rfl rfl d_R_advance_7 ?_
        refine aw_geti fl_R_38 kc_144 (by decide) rfl d_R_advance_8 ?_
        refine aw_top (x2 := nI 0) (Eq.trans (upd2_nx (by omega)) (Eq.trans (congrFun (upd2_ne (by decide)) (10)) (Eq.trans (congrFun (upd2_ne (by decide)) (10)) (Eq.trans (upd2_nx (by omega)) (Eq.trans (upd2_nx (by omega)) (upd2_eq)))))) ?_
        refine aw_if_neI (tgt := 58) (0) (by decide +kernel) (by decide) d_R_advance_11 (fun q => absurd q (by decide)) (fun _ => ?_)
        refine aw_iload_n rfl rfl d_R_advance_14 ?_
        refine aw_if_ltI (tgt := 58) (0) (by decide +kernel) (by decide) d_R_advance_15 (fun q => absurd q (by decide)) (fun _ => ?_)
        refine aw_iload_n rfl rfl d_R_advance_18 ?_
        refine aw_sipush (v := nI 400) cs_400 d_R_advance_19 ?_
        refine aw_icmp_gtI (tgt := 58) (0) (400) (by decide +kernel) (by decide +kernel) (by decide) d_R_advance_22 (fun q => absurd q (by decide)) (fun _ => ?_)
        refine aw_iload_n rfl rfl d_R_advance_25 ?_
        refine aw_aload_n rfl rfl d_R_advance_26 ?_
        refine aw_geti fl_R_66 kc_144 (by decide) rfl d_R_advance_27 ?_
        refine aw_top (x2 := nI 1) (Eq.trans (upd2_nx (by omega)) (Eq.trans (congrFun (upd2_ne (by decide)) (5)) (Eq.trans (congrFun (upd2_ne (by decide)) (5)) (Eq.trans (upd2_nx (by omega)) (Eq.trans (upd2_nx (by omega)) (Eq.trans (upd2_nx (by omega)) (Eq.trans (upd2_nx (by omega)) (upd2_eq)))))))) ?_
        refine aw_icmp_geI (tgt := 58) (0) (1) (by decide +kernel) (by decide +kernel) (by decide) d_R_advance_30 (fun q => absurd q (by decide)) (fun _ => ?_)
        refine aw_aload_n rfl rfl d_R_advance_33 ?_
        refine aw_iload_n rfl rfl d_R_advance_34 ?_
        refine aw_puti fl_R_54 kc_144 (by decide) rfl rfl rfl rfl d_R_advance_35 ?_
        refine aw_aload_n rfl rfl d_R_advance_38 ?_
        refine aw_aload_n rfl rfl d_R_advance_39 ?_
        refine aw_getr fl_R_15 kc_144 (by decide) rfl rc_144_2 d_R_advance_40 ?_
        refine aw_iload_n rfl rfl d_R_advance_43 ?_
        refine aw_iald (j := 0) kc_146 (vp_in_nI (by decide) (by decide)) (nI_clamp (by decide)) d_R_advance_44 ?_
        refine aw_top (x2 := nI 17) (Eq.trans (congrFun (upd2_ne (by decide)) (0)) (Eq.trans (congrFun (upd2_ne (by decide)) (0)) (Eq.trans (congrFun (upd2_ne (by decide)) (0)) (Eq.trans (congrFun (upd2_ne (by decide)) (0)) (Eq.trans (congrFun (upd2_ne (by decide)) (0)) (Eq.trans (congrFun (upd2_ne (by decide)) (0)) (Eq.trans (congrFun (upd2_ne (by decide)) (0)) (Eq.trans (congrFun (upd2_ne (by decide)) (0)) (Eq.trans (congrFun (upd2_ne (by decide)) (0)) (Eq.trans (congrFun (upd2_ne (by decide)) (0)) (Eq.trans (congrFun (upd2_ne (by decide)) (0)) (upd2_eq)))))))))))) ?_
        refine aw_puti fl_R_60 kc_144 (by decide) rfl rfl rfl rfl d_R_advance_45 ?_
        refine aw_aload_n rfl rfl d_R_advance_48 ?_
        refine aw_aload_n rfl rfl d_R_advance_49 ?_
        refine aw_getr fl_R_21 kc_144 (by decide) rfl rc_144_4 d_R_advance_50 ?_
        refine aw_iload_n rfl rfl d_R_advance_53 ?_
        refine aw_iald (j := 0) kc_148 (vp_in_nI (by decide) (by decide)) (nI_clamp (by decide)) d_R_advance_54 ?_
        refine aw_top (x2 := nI 0) (Eq.trans (congrFun (upd2_ne (by decide)) (0)) (Eq.trans (congrFun (upd2_ne (by decide)) (0)) (Eq.trans (congrFun (upd2_ne (by decide)) (0)) (Eq.trans (congrFun (upd2_ne (by decide)) (0)) (Eq.trans (congrFun (upd2_ne (by decide)) (0)) (Eq.trans (congrFun (upd2_ne (by decide)) (0)) (Eq.trans (congrFun (upd2_ne (by decide)) (0)) (Eq.trans (congrFun (upd2_ne (by decide)) (0)) (Eq.trans (congrFun (upd2_ne (by decide)) (0)) (Eq.trans (congrFun (upd2_ne (by decide)) (0)) (upd2_eq))))))))))) ?_
        refine aw_puti fl_R_109 kc_144 (by decide) rfl rfl rfl rfl d_R_advance_55 ?_
        refine as_retv rfl d_R_advance_58 ?_
        refine (show As l b 13 y_R_understand KC RC _ (upd2 (upd2 (upd2 (upd2 (upd2 (upd2 (upd2 (upd2 (upd2 (upd2 (upd2 (upd2 (upd2 (upd2 (upd2 I 144 5 (nI 0)) 146 (0) (nI 17)) 147 (0) (nI 0)) 148 (0) (nI 0)) 144 5 (nI 1)) 144 1 (nI 0)) 144 10 (nI 0)) 144 11 ((-1 : Int32))) 144 9 (nI 0)) 149 1 (nI 0)) 149 4 (nI 0)) 144 6 ((-1 : Int32))) 144 6 (nI 0)) 144 7 (nI 17)) 144 8 (nI 0)) 29 [.ref 144, .int (nI 0), uu] [] from ?_)
        refine aw_iconst (v := nI 0) ci_0 d_R_understand_29 ?_
        refine aw_istore_n (lv2 := [.ref 144, .int (nI 0), .int (nI 0)]) rfl (by decide) rfl d_R_understand_30 ?_
        refine aw_iload_n rfl rfl d_R_understand_31 ?_
        refine aw_sipush (v := nI 400) cs_400 d_R_understand_32 ?_
        refine aw_icmp_geI (tgt := 64) (0) (400) (by decide +kernel) (by decide +kernel) (by decide) d_R_understand_35 (fun q => absurd q (by decide)) (fun _ => ?_)
        refine aw_aload_n rfl rfl d_R_understand_38 ?_
        refine aw_geti fl_R_38 kc_144 (by decide) rfl d_R_understand_39 ?_
        refine aw_top (x2 := nI 0) (Eq.trans (upd2_nx (by omega)) (Eq.trans (upd2_nx (by omega)) (Eq.trans (upd2_nx (by omega)) (Eq.trans (upd2_nx (by omega)) (Eq.trans (congrFun (upd2_ne (by decide)) (10)) (Eq.trans (congrFun (upd2_ne (by decide)) (10)) (Eq.trans (upd2_nx (by omega)) (Eq.trans (upd2_nx (by omega)) (upd2_eq))))))))) ?_
        refine aw_if_neI (tgt := 64) (0) (by decide +kernel) (by decide) d_R_understand_42 (fun q => absurd q (by decide)) (fun _ => ?_)
        refine aw_aload_n rfl rfl d_R_understand_45 ?_
        refine aw_geti fl_R_60 kc_144 (by decide) rfl d_R_understand_46 ?_
        refine aw_top (x2 := nI 17) (Eq.trans (upd2_nx (by omega)) (upd2_eq)) ?_
        refine aw_bipush (v := nI 17) cb_17 d_R_understand_49 ?_
        refine aw_icmp_eqI (tgt := 64) (17) (17) (by decide +kernel) (by decide +kernel) (by decide) d_R_understand_51 (fun _ => ?_) (fun q => absurd q (by decide))
        refine aw_aload_n rfl rfl d_R_understand_64 ?_
        refine aw_geti fl_R_38 kc_144 (by decide) rfl d_R_understand_65 ?_
        refine aw_top (x2 := nI 0) (Eq.trans (upd2_nx (by omega)) (Eq.trans (upd2_nx (by omega)) (Eq.trans (upd2_nx (by omega)) (Eq.trans (upd2_nx (by omega)) (Eq.trans (congrFun (upd2_ne (by decide)) (10)) (Eq.trans (congrFun (upd2_ne (by decide)) (10)) (Eq.trans (upd2_nx (by omega)) (Eq.trans (upd2_nx (by omega)) (upd2_eq))))))))) ?_
        refine aw_if_neI (tgt := 75) (0) (by decide +kernel) (by decide) d_R_understand_68 (fun q => absurd q (by decide)) (fun _ => ?_)
        refine aw_iconst (v := nI 1) ci_1 d_R_understand_71 ?_
        refine aw_goto (tgt := 76) (by decide) d_R_understand_72 ?_
        refine as_retz rfl (by decide +kernel) d_R_understand_76 ?_
        refine (show As l b 14 y_S_text KC RC K2 (upd2 (upd2 (upd2 (upd2 (upd2 (upd2 (upd2 (upd2 (upd2 (upd2 (upd2 (upd2 (upd2 (upd2 (upd2 I 144 5 (nI 0)) 146 (0) (nI 17)) 147 (0) (nI 0)) 148 (0) (nI 0)) 144 5 (nI 1)) 144 1 (nI 0)) 144 10 (nI 0)) 144 11 ((-1 : Int32))) 144 9 (nI 0)) 149 1 (nI 0)) 149 4 (nI 0)) 144 6 ((-1 : Int32))) 144 6 (nI 0)) 144 7 (nI 17)) 144 8 (nI 0)) 35 [.ref 0, .int (nI 1)] [.int (nI 1)] from ?_)
        refine aw_if_neI (tgt := 40) (1) (by decide +kernel) (by decide) d_S_text_35 (fun _ => ?_) (fun q => absurd q (by decide))
        refine aw_aload_n rfl rfl d_S_text_40 ?_
        refine aw_getr fl_S_12 kc_0 (by decide) rfl rc_0_0 d_S_text_41 ?_
        refine aw_getr fl_S_117 kc_1 (by decide) rfl rc_1_1 d_S_text_44 ?_
        refine aw_iload_n rfl rfl d_S_text_47 ?_
        refine aw_aald (j := 1) kc_3 (vp_in_nI (by decide) (by decide)) (nI_clamp (by decide)) rc_3_1 d_S_text_48 ?_
        refine aw_aload_n rfl rfl d_S_text_49 ?_
        refine aw_getr fl_S_39 kc_0 (by decide) rfl rc_0_5 d_S_text_50 ?_
        refine aw_getr fl_S_121 kc_144 (by decide) rfl rc_144_12 d_S_text_53 ?_
        refine as_callV (as := [.ref 149]) (d' := 13) (q := ("SinglesUp$Law", zT3, 6)) mo_W_copyFrom lk_S_125 kc_21 rfl rfl rfl ⟨by decide, by decide⟩ rfl rfl (by decide) d_S_text_56 (Ss.of (show As l b 13 y_W_copyFrom KC RC _ (upd2 (upd2 (upd2 (upd2 (upd2 (upd2 (upd2 (upd2 (upd2 (upd2 (upd2 (upd2 (upd2 (upd2 (upd2 I 144 5 (nI 0)) 146 (0) (nI 17)) 147 (0) (nI 0)) 148 (0) (nI 0)) 144 5 (nI 1)) 144 1 (nI 0)) 144 10 (nI 0)) 144 11 ((-1 : Int32))) 144 9 (nI 0)) 149 1 (nI 0)) 149 4 (nI 0)) 144 6 ((-1 : Int32))) 144 6 (nI 0)) 144 7 (nI 17)) 144 8 (nI 0)) 0 [.ref 21, .ref 149] [] from ?_))
        refine aw_aload_n rfl rfl d_W_copyFrom_0 ?_
        refine aw_aload_n rfl rfl d_W_copyFrom_1 ?_
        refine aw_geti fl_W_22 kc_149 (by decide) rfl d_W_copyFrom_2 ?_
        refine aw_top (x2 := nI 0) (Eq.trans (congrFun (upd2_ne (by decide)) (1)) (Eq.trans (congrFun (upd2_ne (by decide)) (1)) (Eq.trans (congrFun (upd2_ne (by decide)) (1)) (Eq.trans (congrFun (upd2_ne (by decide)) (1)) (Eq.trans (upd2_nx (by omega)) (upd2_eq)))))) ?_
        refine aw_puti fl_W_22 kc_21 (by decide) rfl rfl rfl rfl d_W_copyFrom_5 ?_
        refine aw_aload_n rfl rfl d_W_copyFrom_8 ?_
        refine aw_aload_n rfl rfl d_W_copyFrom_9 ?_
        refine aw_geti fl_W_26 kc_149 (by decide) rfl d_W_copyFrom_10 ?_
        refine aw_top (x2 := nI 0) (Eq.trans (congrFun (upd2_ne (by decide)) (4)) (Eq.trans (congrFun (upd2_ne (by decide)) (4)) (Eq.trans (congrFun (upd2_ne (by decide)) (4)) (Eq.trans (congrFun (upd2_ne (by decide)) (4)) (Eq.trans (congrFun (upd2_ne (by decide)) (4)) (upd2_eq)))))) ?_
        refine aw_puti fl_W_26 kc_21 (by decide) rfl rfl rfl rfl d_W_copyFrom_13 ?_
        refine aw_aload_n rfl rfl d_W_copyFrom_16 ?_
        refine aw_getr fl_W_9 kc_149 (by decide) rfl rc_149_0 d_W_copyFrom_17 ?_
        refine aw_iconst (v := nI 0) ci_0 d_W_copyFrom_20 ?_
        refine aw_aload_n rfl rfl d_W_copyFrom_21 ?_
        refine aw_getr fl_W_9 kc_21 (by decide) rfl rc_21_0 d_W_copyFrom_22 ?_
        refine aw_iconst (v := nI 0) ci_0 d_W_copyFrom_25 ?_
        refine aw_sipush (v := nI 400) cs_400 d_W_copyFrom_26 ?_
        refine as_copy0 (n := 400) lka_W_29 ac_nat ac_sta ac_ini kc_150 kc_22 (by omega) (by omega) (by omega) (by decide) rfl d_W_copyFrom_29 (fun J15 e16 e17 e18 => ?_)
        refine aw_aload_n rfl rfl d_W_copyFrom_32 ?_
        refine aw_getr fl_W_13 kc_149 (by decide) rfl rc_149_2 d_W_copyFrom_33 ?_
        refine aw_iconst (v := nI 0) ci_0 d_W_copyFrom_36 ?_
        refine aw_aload_n rfl rfl d_W_copyFrom_37 ?_
        refine aw_getr fl_W_13 kc_21 (by decide) rfl rc_21_2 d_W_copyFrom_38 ?_
        refine aw_iconst (v := nI 0) ci_0 d_W_copyFrom_41 ?_
        refine aw_bipush (v := nI 17) cb_17 d_W_copyFrom_42 ?_
        refine as_copy0 (n := 17) lka_W_29 ac_nat ac_sta ac_ini kc_151 kc_23 (by omega) (by omega) (by omega) (by decide) rfl d_W_copyFrom_44 (fun J19 e20 e21 e22 => ?_)
        refine aw_aload_n rfl rfl d_W_copyFrom_47 ?_
        refine aw_getr fl_W_16 kc_149 (by decide) rfl rc_149_3 d_W_copyFrom_48 ?_
        refine aw_iconst (v := nI 0) ci_0 d_W_copyFrom_51 ?_
        refine aw_aload_n rfl rfl d_W_copyFrom_52 ?_
        refine aw_getr fl_W_16 kc_21 (by decide) rfl rc_21_3 d_W_copyFrom_53 ?_
        refine aw_iconst (v := nI 0) ci_0 d_W_copyFrom_56 ?_
        refine aw_bipush (v := nI 16) cb_16 d_W_copyFrom_57 ?_
        refine as_copy0 (n := 16) lka_W_29 ac_nat ac_sta ac_ini kc_152 kc_24 (by omega) (by omega) (by omega) (by decide) rfl d_W_copyFrom_59 (fun J23 e24 e25 e26 => ?_)
        refine as_retv rfl d_W_copyFrom_62 ?_
        refine (show As l b 14 y_S_text KC RC K2 (J23) 59 [.ref 0, .int (nI 1)] [] from ?_)
        refine aw_aload_n rfl rfl d_S_text_59 ?_
        refine aw_getr fl_S_39 kc_0 (by decide) rfl rc_0_5 d_S_text_60 ?_
        refine aw_getr fl_S_121 kc_144 (by decide) rfl rc_144_12 d_S_text_63 ?_
        refine aw_geti fl_S_131 kc_149 (by decide) rfl d_S_text_66 ?_
        refine aw_top (x2 := nI 0) (((congrFun (e24 149 (by decide)) (4)).trans (((congrFun (e20 149 (by decide)) (4)).trans (((congrFun (e16 149 (by decide)) (4)).trans (Eq.trans (congrFun (upd2_ne (by decide)) (4)) (Eq.trans (congrFun (upd2_ne (by decide)) (4)) (Eq.trans (congrFun (upd2_ne (by decide)) (4)) (Eq.trans (congrFun (upd2_ne (by decide)) (4)) (Eq.trans (congrFun (upd2_ne (by decide)) (4)) (Eq.trans (congrFun (upd2_ne (by decide)) (4)) (upd2_eq))))))))))))) ?_
        exact as_reti rfl d_S_text_69 (hg (by omega) _)
      · refine aw_aload_n rfl rfl d_S_text_18 ?_
        refine aw_getr fl_S_39 kc_0 (by decide) rfl rc_0_5 d_S_text_19 ?_
        refine aw_iload_n rfl rfl d_S_text_22 ?_
        refine aw_iconst (v := nI 4) ci_4 d_S_text_23 ?_
        refine aw_icmp_neI (tgt := 31) (2) (4) (by decide +kernel) (by decide +kernel) (by decide) d_S_text_24 (fun _ => ?_) (fun q => absurd q (by decide))
        refine aw_iconst (v := nI 0) ci_0 d_S_text_31 ?_
        refine as_callV (as := [.int (nI 0)]) (d' := 13) (q := ("SinglesUp$Reader", zT7, 13)) mo_R_understand lk_S_113 kc_144 rfl rfl rfl ⟨by decide, by decide⟩ rfl rfl (by decide) d_S_text_32 (Ss.of (show As l b 13 y_R_understand KC RC _ (I) 0 [.ref 144, .int (nI 0), uu] [] from ?_))
        refine aw_aload_n rfl rfl d_R_understand_0 ?_
        refine as_callV (as := []) (d' := 12) (q := ("SinglesUp$Reader", zT7, 13)) mo_R_scan lk_R_41 kc_144 rfl rfl rfl ⟨by decide, by decide⟩ rfl rfl (by decide) d_R_understand_1 (Ss.of (show As l b 12 y_R_scan KC RC _ (I) 0 [.ref 144, uu, uu, uu] [] from ?_))
        refine aw_aload_n rfl rfl d_R_scan_0 ?_
        refine aw_iconst (v := nI 0) ci_0 d_R_scan_1 ?_
        refine aw_puti fl_R_66 kc_144 (by decide) rfl rfl rfl rfl d_R_scan_2 ?_
        refine aw_iconst (v := nI 0) ci_0 d_R_scan_5 ?_
        refine aw_istore_n (lv2 := [.ref 144, .int (nI 0), uu, uu]) rfl (by decide) rfl d_R_scan_6 ?_
        refine aw_iload_n rfl rfl d_R_scan_7 ?_
        refine aw_aload_n rfl rfl d_R_scan_8 ?_
        refine aw_geti fl_R_35 kc_144 (by decide) rfl d_R_scan_9 ?_
        refine aw_top (x2 := nI 0) (Eq.trans (upd2_nx (by omega)) (q1)) ?_
        refine aw_icmp_geI (tgt := 194) (0) (0) (by decide +kernel) (by decide +kernel) (by decide) d_R_scan_12 (fun _ => ?_) (fun q => absurd q (by decide))
        refine aw_aload_n rfl rfl d_R_scan_194 ?_
        refine aw_bipush (v := nI 17) cb_17 d_R_scan_195 ?_
        refine aw_aload_n rfl rfl d_R_scan_197 ?_
        refine aw_geti fl_R_35 kc_144 (by decide) rfl d_R_scan_198 ?_
        refine aw_top (x2 := nI 0) (Eq.trans (upd2_nx (by omega)) (q1)) ?_
        refine aw_iconst (v := nI 0) ci_0 d_R_scan_201 ?_
        refine as_callV (as := [.int (nI 17), .int (nI 0), .int (nI 0)]) (d' := 11) (q := ("SinglesUp$Reader", zT7, 13)) mo_R_addToken lk_R_77 kc_144 rfl rfl rfl ⟨by decide, by decide⟩ rfl rfl (by decide) d_R_scan_202 (Ss.of (show As l b 11 y_R_addToken KC RC _ (upd2 I 144 5 (nI 0)) 0 [.ref 144, .int (nI 17), .int (nI 0), .int (nI 0)] [] from ?_))
        refine aw_aload_n rfl rfl d_R_addToken_0 ?_
        refine aw_geti fl_R_66 kc_144 (by decide) rfl d_R_addToken_1 ?_
        refine aw_top (x2 := nI 0) (upd2_eq) ?_
        refine aw_if_ltI (tgt := 57) (0) (by decide +kernel) (by decide) d_R_addToken_4 (fun q => absurd q (by decide)) (fun _ => ?_)
        refine aw_aload_n rfl rfl d_R_addToken_7 ?_
        refine aw_geti fl_R_66 kc_144 (by decide) rfl d_R_addToken_8 ?_
        refine aw_top (x2 := nI 0) (upd2_eq) ?_
        refine aw_sipush (v := nI 400) cs_400 d_R_addToken_11 ?_
        refine aw_icmp_gtI (tgt := 57) (0) (400) (by decide +kernel) (by decide +kernel) (by decide) d_R_addToken_14 (fun q => absurd q (by decide)) (fun _ => ?_)
        refine aw_aload_n rfl rfl d_R_addToken_17 ?_
        refine aw_getr fl_R_15 kc_144 (by decide) rfl rc_144_2 d_R_addToken_18 ?_
        refine aw_aload_n rfl rfl d_R_addToken_21 ?_
        refine aw_geti fl_R_66 kc_144 (by decide) rfl d_R_addToken_22 ?_
        refine aw_top (x2 := nI 0) (upd2_eq) ?_
        refine aw_iload_n rfl rfl d_R_addToken_25 ?_
        refine aw_iast (j := 0) kc_146 (vp_in_nI (by decide) (by decide)) (nI_clamp (by decide)) d_R_addToken_26 ?_
        refine aw_aload_n rfl rfl d_R_addToken_27 ?_
        refine aw_getr fl_R_18 kc_144 (by decide) rfl rc_144_3 d_R_addToken_28 ?_
        refine aw_aload_n rfl rfl d_R_addToken_31 ?_
        refine aw_geti fl_R_66 kc_144 (by decide) rfl d_R_addToken_32 ?_
        refine aw_top (x2 := nI 0) (Eq.trans (congrFun (upd2_ne (by decide)) (5)) (upd2_eq)) ?_
        refine aw_iload_n rfl rfl d_R_addToken_35 ?_
        refine aw_iast (j := 0) kc_147 (vp_in_nI (by decide) (by decide)) (nI_clamp (by decide)) d_R_addToken_36 ?_
        refine aw_aload_n rfl rfl d_R_addToken_37 ?_
        refine aw_getr fl_R_21 kc_144 (by decide) rfl rc_144_4 d_R_addToken_38 ?_
        refine aw_aload_n rfl rfl d_R_addToken_41 ?_
        refine aw_geti fl_R_66 kc_144 (by decide) rfl d_R_addToken_42 ?_
        refine aw_top (x2 := nI 0) (Eq.trans (congrFun (upd2_ne (by decide)) (5)) (Eq.trans (congrFun (upd2_ne (by decide)) (5)) (upd2_eq))) ?_
        refine aw_iload_n rfl rfl d_R_addToken_45 ?_
        refine aw_iast (j := 0) kc_148 (vp_in_nI (by decide) (by decide)) (nI_clamp (by decide)) d_R_addToken_46 ?_
        refine aw_aload_n rfl rfl d_R_addToken_47 ?_
        refine aw_dup rfl d_R_addToken_48 ?_
        refine aw_geti fl_R_66 kc_144 (by decide) rfl d_R_addToken_49 ?_
        refine aw_top (x2 := nI 0) (Eq.trans (congrFun (upd2_ne (by decide)) (5)) (Eq.trans (congrFun (upd2_ne (by decide)) (5)) (Eq.trans (congrFun (upd2_ne (by decide)) (5)) (upd2_eq)))) ?_
        refine aw_iconst (v := nI 1) ci_1 d_R_addToken_52 ?_
        refine aw_iadd d_R_addToken_53 ?_
        refine aw_top (x2 := nI 1) (by decide +kernel) ?_
        refine aw_puti fl_R_66 kc_144 (by decide) rfl rfl rfl rfl d_R_addToken_54 ?_
        refine as_retv rfl d_R_addToken_57 ?_
        refine (show As l b 12 y_R_scan KC RC _ (upd2 (upd2 (upd2 (upd2 (upd2 I 144 5 (nI 0)) 146 (0) (nI 17)) 147 (0) (nI 0)) 148 (0) (nI 0)) 144 5 (nI 1)) 205 [.ref 144, .int (nI 0), uu, uu] [] from ?_)
        refine as_retv rfl d_R_scan_205 ?_
        refine (show As l b 13 y_R_understand KC RC _ (upd2 (upd2 (upd2 (upd2 (upd2 I 144 5 (nI 0)) 146 (0) (nI 17)) 147 (0) (nI 0)) 148 (0) (nI 0)) 144 5 (nI 1)) 4 [.ref 144, .int (nI 0), uu] [] from ?_)
        refine aw_aload_n rfl rfl d_R_understand_4 ?_
        refine as_callV (as := []) (d' := 12) (q := ("SinglesUp$Reader", zT7, 13)) mo_R_forget lk_R_44 kc_144 rfl rfl rfl ⟨by decide, by decide⟩ rfl rfl (by decide) d_R_understand_5 (Ss.of (show As l b 12 y_R_forget KC RC _ (upd2 (upd2 (upd2 (upd2 (upd2 I 144 5 (nI 0)) 146 (0) (nI 17)) 147 (0) (nI 0)) 148 (0) (nI 0)) 144 5 (nI 1)) 0 [.ref 144] [] from ?_))
        refine aw_aload_n rfl rfl d_R_forget_0 ?_
        refine aw_iconst (v := nI 0) ci_0 d_R_forget_1 ?_
        refine aw_puti fl_R_35 kc_144 (by decide) rfl rfl rfl rfl d_R_forget_2 ?_
        refine aw_aload_n rfl rfl d_R_forget_5 ?_
        refine aw_iconst (v := nI 0) ci_0 d_R_forget_6 ?_
        refine aw_puti fl_R_38 kc_144 (by decide) rfl rfl rfl rfl d_R_forget_7 ?_
        refine aw_aload_n rfl rfl d_R_forget_10 ?_
        refine aw_iconst (v := (-1 : Int32)) rfl d_R_forget_11 ?_
        refine aw_puti fl_R_24 kc_144 (by decide) rfl rfl rfl rfl d_R_forget_12 ?_
        refine as_retv rfl d_R_forget_15 ?_
        refine (show As l b 13 y_R_understand KC RC _ (upd2 (upd2 (upd2 (upd2 (upd2 (upd2 (upd2 (upd2 I 144 5 (nI 0)) 146 (0) (nI 17)) 147 (0) (nI 0)) 148 (0) (nI 0)) 144 5 (nI 1)) 144 1 (nI 0)) 144 10 (nI 0)) 144 11 ((-1 : Int32))) 8 [.ref 144, .int (nI 0), uu] [] from ?_)
        refine aw_aload_n rfl rfl d_R_understand_8 ?_
        refine aw_iload_n rfl rfl d_R_understand_9 ?_
        refine aw_puti fl_R_47 kc_144 (by decide) rfl (by decide +kernel) (by decide +kernel) rfl d_R_understand_10 ?_
        refine aw_aload_n rfl rfl d_R_understand_13 ?_
        refine aw_getr fl_R_31 kc_144 (by decide) rfl rc_144_12 d_R_understand_14 ?_
        refine as_callV (as := []) (d' := 12) (q := ("SinglesUp$Law", zT3, 6)) mo_W_clear lk_R_51 kc_149 rfl rfl rfl ⟨by decide, by decide⟩ rfl rfl (by decide) d_R_understand_17 (Ss.of (show As l b 12 y_W_clear KC RC _ (upd2 (upd2 (upd2 (upd2 (upd2 (upd2 (upd2 (upd2 (upd2 I 144 5 (nI 0)) 146 (0) (nI 17)) 147 (0) (nI 0)) 148 (0) (nI 0)) 144 5 (nI 1)) 144 1 (nI 0)) 144 10 (nI 0)) 144 11 ((-1 : Int32))) 144 9 (nI 0)) 0 [.ref 149] [] from ?_))
        refine aw_aload_n rfl rfl d_W_clear_0 ?_
        refine aw_iconst (v := nI 0) ci_0 d_W_clear_1 ?_
        refine aw_puti fl_W_22 kc_149 (by decide) rfl rfl rfl rfl d_W_clear_2 ?_
        refine aw_aload_n rfl rfl d_W_clear_5 ?_
        refine aw_iconst (v := nI 0) ci_0 d_W_clear_6 ?_
        refine aw_puti fl_W_26 kc_149 (by decide) rfl rfl rfl rfl d_W_clear_7 ?_
        refine as_retv rfl d_W_clear_10 ?_
        refine (show As l b 13 y_R_understand KC RC _ (upd2 (upd2 (upd2 (upd2 (upd2 (upd2 (upd2 (upd2 (upd2 (upd2 (upd2 I 144 5 (nI 0)) 146 (0) (nI 17)) 147 (0) (nI 0)) 148 (0) (nI 0)) 144 5 (nI 1)) 144 1 (nI 0)) 144 10 (nI 0)) 144 11 ((-1 : Int32))) 144 9 (nI 0)) 149 1 (nI 0)) 149 4 (nI 0)) 20 [.ref 144, .int (nI 0), uu] [] from ?_)
        refine aw_aload_n rfl rfl d_R_understand_20 ?_
        refine aw_iconst (v := (-1 : Int32)) rfl d_R_understand_21 ?_
        refine aw_puti fl_R_54 kc_144 (by decide) rfl rfl rfl rfl d_R_understand_22 ?_
        refine aw_aload_n rfl rfl d_R_understand_25 ?_
        refine as_callV (as := []) (d' := 12) (q := ("SinglesUp$Reader", zT7, 13)) mo_R_advance lk_R_57 kc_144 rfl rfl rfl ⟨by decide, by decide⟩ rfl rfl (by decide) d_R_understand_26 (Ss.of (show As l b 12 y_R_advance KC RC _ (upd2 (upd2 (upd2 (upd2 (upd2 (upd2 (upd2 (upd2 (upd2 (upd2 (upd2 (upd2 I 144 5 (nI 0)) 146 (0) (nI 17)) 147 (0) (nI 0)) 148 (0) (nI 0)) 144 5 (nI 1)) 144 1 (nI 0)) 144 10 (nI 0)) 144 11 ((-1 : Int32))) 144 9 (nI 0)) 149 1 (nI 0)) 149 4 (nI 0)) 144 6 ((-1 : Int32))) 0 [.ref 144, uu] [] from ?_))
        refine aw_aload_n rfl rfl d_R_advance_0 ?_
        refine aw_geti fl_R_54 kc_144 (by decide) rfl d_R_advance_1 ?_
        refine aw_top (x2 := (-1 : Int32)) (upd2_eq) ?_
        refine aw_iconst (v := nI 1) ci_1 d_R_advance_4 ?_
        refine aw_iadd d_R_advance_5 ?_
        refine aw_top (x2 := nI 0) (by decide +kernel) ?_
        refine aw_istore_n (lv2 := [.ref 144, .int (nI 0)]) rfl (by decide) rfl d_R_advance_6 ?_
        refine aw_aload_n rfl rfl d_R_advance_7 ?_
        refine aw_geti fl_R_38 kc_144 (by decide) rfl d_R_advance_8 ?_
        refine aw_top (x2 := nI 0) (Eq.trans (upd2_nx (by omega)) (Eq.trans (congrFun (upd2_ne (by decide)) (10)) (Eq.trans (congrFun (upd2_ne (by decide)) (10)) (Eq.trans (upd2_nx (by omega)) (Eq.trans (upd2_nx (by omega)) (upd2_eq)))))) ?_
        refine aw_if_neI (tgt := 58) (0) (by decide +kernel) (by decide) d_R_advance_11 (fun q => absurd q (by decide)) (fun _ => ?_)
        refine aw_iload_n rfl rfl d_R_advance_14 ?_
        refine aw_if_ltI (tgt := 58) (0) (by decide +kernel) (by decide) d_R_advance_15 (fun q => absurd q (by decide)) (fun _ => ?_)
        refine aw_iload_n rfl rfl d_R_advance_18 ?_
        refine aw_sipush (v := nI 400) cs_400 d_R_advance_19 ?_
        refine aw_icmp_gtI (tgt := 58) (0) (400) (by decide +kernel) (by decide +kernel) (by decide) d_R_advance_22 (fun q => absurd q (by decide)) (fun _ => ?_)
        refine aw_iload_n rfl rfl d_R_advance_25 ?_
        refine aw_aload_n rfl rfl d_R_advance_26 ?_
        refine aw_geti fl_R_66 kc_144 (by decide) rfl d_R_advance_27 ?_
        refine aw_top (x2 := nI 1) (Eq.trans (upd2_nx (by omega)) (Eq.trans (congrFun (upd2_ne (by decide)) (5)) (Eq.trans (congrFun (upd2_ne (by decide)) (5)) (Eq.trans (upd2_nx (by omega)) (Eq.trans (upd2_nx (by omega)) (Eq.trans (upd2_nx (by omega)) (Eq.trans (upd2_nx (by omega)) (upd2_eq)))))))) ?_
        refine aw_icmp_geI (tgt := 58) (0) (1) (by decide +kernel) (by decide +kernel) (by decide) d_R_advance_30 (fun q => absurd q (by decide)) (fun _ => ?_)
        refine aw_aload_n rfl rfl d_R_advance_33 ?_
        refine aw_iload_n rfl rfl d_R_advance_34 ?_
        refine aw_puti fl_R_54 kc_144 (by decide) rfl rfl rfl rfl d_R_advance_35 ?_
        refine aw_aload_n rfl rfl d_R_advance_38 ?_
        refine aw_aload_n rfl rfl d_R_advance_39 ?_
        refine aw_getr fl_R_15 kc_144 (by decide) rfl rc_144_2 d_R_advance_40 ?_
        refine aw_iload_n rfl rfl d_R_advance_43 ?_
        refine aw_iald (j := 0) kc_146 (vp_in_nI (by decide) (by decide)) (nI_clamp (by decide)) d_R_advance_44 ?_
        refine aw_top (x2 := nI 17) (Eq.trans (congrFun (upd2_ne (by decide)) (0)) (Eq.trans (congrFun (upd2_ne (by decide)) (0)) (Eq.trans (congrFun (upd2_ne (by decide)) (0)) (Eq.trans (congrFun (upd2_ne (by decide)) (0)) (Eq.trans (congrFun (upd2_ne (by decide)) (0)) (Eq.trans (congrFun (upd2_ne (by decide)) (0)) (Eq.trans (congrFun (upd2_ne (by decide)) (0)) (Eq.trans (congrFun (upd2_ne (by decide)) (0)) (Eq.trans (congrFun (upd2_ne (by decide)) (0)) (Eq.trans (congrFun (upd2_ne (by decide)) (0)) (Eq.trans (congrFun (upd2_ne (by decide)) (0)) (upd2_eq)))))))))))) ?_
        refine aw_puti fl_R_60 kc_144 (by decide) rfl rfl rfl rfl d_R_advance_45 ?_
        refine aw_aload_n rfl rfl d_R_advance_48 ?_
        refine aw_aload_n rfl rfl d_R_advance_49 ?_
        refine aw_getr fl_R_21 kc_144 (by decide) rfl rc_144_4 d_R_advance_50 ?_
        refine aw_iload_n rfl rfl d_R_advance_53 ?_
        refine aw_iald (j := 0) kc_148 (vp_in_nI (by decide) (by decide)) (nI_clamp (by decide)) d_R_advance_54 ?_
        refine aw_top (x2 := nI 0) (Eq.trans (congrFun (upd2_ne (by decide)) (0)) (Eq.trans (congrFun (upd2_ne (by decide)) (0)) (Eq.trans (congrFun (upd2_ne (by decide)) (0)) (Eq.trans (congrFun (upd2_ne (by decide)) (0)) (Eq.trans (congrFun (upd2_ne (by decide)) (0)) (Eq.trans (congrFun (upd2_ne (by decide)) (0)) (Eq.trans (congrFun (upd2_ne (by decide)) (0)) (Eq.trans (congrFun (upd2_ne (by decide)) (0)) (Eq.trans (congrFun (upd2_ne (by decide)) (0)) (Eq.trans (congrFun (upd2_ne (by decide)) (0)) (upd2_eq))))))))))) ?_
        refine aw_puti fl_R_109 kc_144 (by decide) rfl rfl rfl rfl d_R_advance_55 ?_
        refine as_retv rfl d_R_advance_58 ?_
        refine (show As l b 13 y_R_understand KC RC _ (upd2 (upd2 (upd2 (upd2 (upd2 (upd2 (upd2 (upd2 (upd2 (upd2 (upd2 (upd2 (upd2 (upd2 (upd2 I 144 5 (nI 0)) 146 (0) (nI 17)) 147 (0) (nI 0)) 148 (0) (nI 0)) 144 5 (nI 1)) 144 1 (nI 0)) 144 10 (nI 0)) 144 11 ((-1 : Int32))) 144 9 (nI 0)) 149 1 (nI 0)) 149 4 (nI 0)) 144 6 ((-1 : Int32))) 144 6 (nI 0)) 144 7 (nI 17)) 144 8 (nI 0)) 29 [.ref 144, .int (nI 0), uu] [] from ?_)
        refine aw_iconst (v := nI 0) ci_0 d_R_understand_29 ?_
        refine aw_istore_n (lv2 := [.ref 144, .int (nI 0), .int (nI 0)]) rfl (by decide) rfl d_R_understand_30 ?_
        refine aw_iload_n rfl rfl d_R_understand_31 ?_
        refine aw_sipush (v := nI 400) cs_400 d_R_understand_32 ?_
        refine aw_icmp_geI (tgt := 64) (0) (400) (by decide +kernel) (by decide +kernel) (by decide) d_R_understand_35 (fun q => absurd q (by decide)) (fun _ => ?_)
        refine aw_aload_n rfl rfl d_R_understand_38 ?_
        refine aw_geti fl_R_38 kc_144 (by decide) rfl d_R_understand_39 ?_
        refine aw_top (x2 := nI 0) (Eq.trans (upd2_nx (by omega)) (Eq.trans (upd2_nx (by omega)) (Eq.trans (upd2_nx (by omega)) (Eq.trans (upd2_nx (by omega)) (Eq.trans (congrFun (upd2_ne (by decide)) (10)) (Eq.trans (congrFun (upd2_ne (by decide)) (10)) (Eq.trans (upd2_nx (by omega)) (Eq.trans (upd2_nx (by omega)) (upd2_eq))))))))) ?_
        refine aw_if_neI (tgt := 64) (0) (by decide +kernel) (by decide) d_R_understand_42 (fun q => absurd q (by decide)) (fun _ => ?_)
        refine aw_aload_n rfl rfl d_R_understand_45 ?_
        refine aw_geti fl_R_60 kc_144 (by decide) rfl d_R_understand_46 ?_
        refine aw_top (x2 := nI 17) (Eq.trans (upd2_nx (by omega)) (upd2_eq)) ?_
        refine aw_bipush (v := nI 17) cb_17 d_R_understand_49 ?_
        refine aw_icmp_eqI (tgt := 64) (17) (17) (by decide +kernel) (by decide +kernel) (by decide) d_R_understand_51 (fun _ => ?_) (fun q => absurd q (by decide))
        refine aw_aload_n rfl rfl d_R_understand_64 ?_
        refine aw_geti fl_R_38 kc_144 (by decide) rfl d_R_understand_65 ?_
        refine aw_top (x2 := nI 0) (Eq.trans (upd2_nx (by omega)) (Eq.trans (upd2_nx (by omega)) (Eq.trans (upd2_nx (by omega)) (Eq.trans (upd2_nx (by omega)) (Eq.trans (congrFun (upd2_ne (by decide)) (10)) (Eq.trans (congrFun (upd2_ne (by decide)) (10)) (Eq.trans (upd2_nx (by omega)) (Eq.trans (upd2_nx (by omega)) (upd2_eq))))))))) ?_
        refine aw_if_neI (tgt := 75) (0) (by decide +kernel) (by decide) d_R_understand_68 (fun q => absurd q (by decide)) (fun _ => ?_)
        refine aw_iconst (v := nI 1) ci_1 d_R_understand_71 ?_
        refine aw_goto (tgt := 76) (by decide) d_R_understand_72 ?_
        refine as_retz rfl (by decide +kernel) d_R_understand_76 ?_
        refine (show As l b 14 y_S_text KC RC K2 (upd2 (upd2 (upd2 (upd2 (upd2 (upd2 (upd2 (upd2 (upd2 (upd2 (upd2 (upd2 (upd2 (upd2 (upd2 I 144 5 (nI 0)) 146 (0) (nI 17)) 147 (0) (nI 0)) 148 (0) (nI 0)) 144 5 (nI 1)) 144 1 (nI 0)) 144 10 (nI 0)) 144 11 ((-1 : Int32))) 144 9 (nI 0)) 149 1 (nI 0)) 149 4 (nI 0)) 144 6 ((-1 : Int32))) 144 6 (nI 0)) 144 7 (nI 17)) 144 8 (nI 0)) 35 [.ref 0, .int (nI 2)] [.int (nI 1)] from ?_)
        refine aw_if_neI (tgt := 40) (1) (by decide +kernel) (by decide) d_S_text_35 (fun _ => ?_) (fun q => absurd q (by decide))
        refine aw_aload_n rfl rfl d_S_text_40 ?_
        refine aw_getr fl_S_12 kc_0 (by decide) rfl rc_0_0 d_S_text_41 ?_
        refine aw_getr fl_S_117 kc_1 (by decide) rfl rc_1_1 d_S_text_44 ?_
        refine aw_iload_n rfl rfl d_S_text_47 ?_
        refine aw_aald (j := 2) kc_3 (vp_in_nI (by decide) (by decide)) (nI_clamp (by decide)) rc_3_2 d_S_text_48 ?_
        refine aw_aload_n rfl rfl d_S_text_49 ?_
        refine aw_getr fl_S_39 kc_0 (by decide) rfl rc_0_5 d_S_text_50 ?_
        refine aw_getr fl_S_121 kc_144 (by decide) rfl rc_144_12 d_S_text_53 ?_
        refine as_callV (as := [.ref 149]) (d' := 13) (q := ("SinglesUp$Law", zT3, 6)) mo_W_copyFrom lk_S_125 kc_26 rfl rfl rfl ⟨by decide, by decide⟩ rfl rfl (by decide) d_S_text_56 (Ss.of (show As l b 13 y_W_copyFrom KC RC _ (upd2 (upd2 (upd2 (upd2 (upd2 (upd2 (upd2 (upd2 (upd2 (upd2 (upd2 (upd2 (upd2 (upd2 (upd2 I 144 5 (nI 0)) 146 (0) (nI 17)) 147 (0) (nI 0)) 148 (0) (nI 0)) 144 5 (nI 1)) 144 1 (nI 0)) 144 10 (nI 0)) 144 11 ((-1 : Int32))) 144 9 (nI 0)) 149 1 (nI 0)) 149 4 (nI 0)) 144 6 ((-1 : Int32))) 144 6 (nI 0)) 144 7 (nI 17)) 144 8 (nI 0)) 0 [.ref 26, .ref 149] [] from ?_))
        refine aw_aload_n rfl rfl d_W_copyFrom_0 ?_
        refine aw_aload_n rfl rfl d_W_copyFrom_1 ?_
        refine aw_geti fl_W_22 kc_149 (by decide) rfl d_W_copyFrom_2 ?_
        refine aw_top (x2 := nI 0) (Eq.trans (congrFun (upd2_ne (by decide)) (1)) (Eq.trans (congrFun (upd2_ne (by decide)) (1)) (Eq.trans (congrFun (upd2_ne (by decide)) (1)) (Eq.trans (congrFun (upd2_ne (by decide)) (1)) (Eq.trans (upd2_nx (by omega)) (upd2_eq)))))) ?_
        refine aw_puti fl_W_22 kc_26 (by decide) rfl rfl rfl rfl d_W_copyFrom_5 ?_
        refine aw_aload_n rfl rfl d_W_copyFrom_8 ?_
        refine aw_aload_n rfl rfl d_W_copyFrom_9 ?_
        refine aw_geti fl_W_26 kc_149 (by decide) rfl d_W_copyFrom_10 ?_
        refine aw_top (x2 := nI 0) (Eq.trans (congrFun (upd2_ne (by decide)) (4)) (Eq.trans (congrFun (upd2_ne (by decide)) (4)) (Eq.trans (congrFun (upd2_ne (by decide)) (4)) (Eq.trans (congrFun (upd2_ne (by decide)) (4)) (Eq.trans (congrFun (upd2_ne (by decide)) (4)) (upd2_eq)))))) ?_
        refine aw_puti fl_W_26 kc_26 (by decide) rfl rfl rfl rfl d_W_copyFrom_13 ?_
        refine aw_aload_n rfl rfl d_W_copyFrom_16 ?_
        refine aw_getr fl_W_9 kc_149 (by decide) rfl rc_149_0 d_W_copyFrom_17 ?_
        refine aw_iconst (v := nI 0) ci_0 d_W_copyFrom_20 ?_
        refine aw_aload_n rfl rfl d_W_copyFrom_21 ?_
        refine aw_getr fl_W_9 kc_26 (by decide) rfl rc_26_0 d_W_copyFrom_22 ?_
        refine aw_iconst (v := nI 0) ci_0 d_W_copyFrom_25 ?_
        refine aw_sipush (v := nI 400) cs_400 d_W_copyFrom_26 ?_
        refine as_copy0 (n := 400) lka_W_29 ac_nat ac_sta ac_ini kc_150 kc_27 (by omega) (by omega) (by omega) (by decide) rfl d_W_copyFrom_29 (fun J27 e28 e29 e30 => ?_)
        refine aw_aload_n rfl rfl d_W_copyFrom_32 ?_
        refine aw_getr fl_W_13 kc_149 (by decide) rfl rc_149_2 d_W_copyFrom_33 ?_
        refine aw_iconst (v := nI 0) ci_0 d_W_copyFrom_36 ?_
        refine aw_aload_n rfl rfl d_W_copyFrom_37 ?_
        refine aw_getr fl_W_13 kc_26 (by decide) rfl rc_26_2 d_W_copyFrom_38 ?_
        refine aw_iconst (v := nI 0) ci_0 d_W_copyFrom_41 ?_
        refine aw_bipush (v := nI 17) cb_17 d_W_copyFrom_42 ?_
        refine as_copy0 (n := 17) lka_W_29 ac_nat ac_sta ac_ini kc_151 kc_28 (by omega) (by omega) (by omega) (by decide) rfl d_W_copyFrom_44 (fun J31 e32 e33 e34 => ?_)
        refine aw_aload_n rfl rfl d_W_copyFrom_47 ?_
        refine aw_getr fl_W_16 kc_149 (by decide) rfl rc_149_3 d_W_copyFrom_48 ?_
        refine aw_iconst (v := nI 0) ci_0 d_W_copyFrom_51 ?_
        refine aw_aload_n rfl rfl d_W_copyFrom_52 ?_
        refine aw_getr fl_W_16 kc_26 (by decide) rfl rc_26_3 d_W_copyFrom_53 ?_
        refine aw_iconst (v := nI 0) ci_0 d_W_copyFrom_56 ?_
        refine aw_bipush (v := nI 16) cb_16 d_W_copyFrom_57 ?_
        refine as_copy0 (n := 16) lka_W_29 ac_nat ac_sta ac_ini kc_152 kc_29 (by omega) (by omega) (by omega) (by decide) rfl d_W_copyFrom_59 (fun J35 e36 e37 e38 => ?_)
        refine as_retv rfl d_W_copyFrom_62 ?_
        refine (show As l b 14 y_S_text KC RC K2 (J35) 59 [.ref 0, .int (nI 2)] [] from ?_)
        refine aw_aload_n rfl rfl d_S_text_59 ?_
        refine aw_getr fl_S_39 kc_0 (by decide) rfl rc_0_5 d_S_text_60 ?_
        refine aw_getr fl_S_121 kc_144 (by decide) rfl rc_144_12 d_S_text_63 ?_
        refine aw_geti fl_S_131 kc_149 (by decide) rfl d_S_text_66 ?_
        refine aw_top (x2 := nI 0) (((congrFun (e36 149 (by decide)) (4)).trans (((congrFun (e32 149 (by decide)) (4)).trans (((congrFun (e28 149 (by decide)) (4)).trans (Eq.trans (congrFun (upd2_ne (by decide)) (4)) (Eq.trans (congrFun (upd2_ne (by decide)) (4)) (Eq.trans (congrFun (upd2_ne (by decide)) (4)) (Eq.trans (congrFun (upd2_ne (by decide)) (4)) (Eq.trans (congrFun (upd2_ne (by decide)) (4)) (Eq.trans (congrFun (upd2_ne (by decide)) (4)) (upd2_eq))))))))))))) ?_
        exact as_reti rfl d_S_text_69 (hg (by omega) _)
      · refine aw_aload_n rfl rfl d_S_text_18 ?_
        refine aw_getr fl_S_39 kc_0 (by decide) rfl rc_0_5 d_S_text_19 ?_
        refine aw_iload_n rfl rfl d_S_text_22 ?_
        refine aw_iconst (v := nI 4) ci_4 d_S_text_23 ?_
        refine aw_icmp_neI (tgt := 31) (3) (4) (by decide +kernel) (by decide +kernel) (by decide) d_S_text_24 (fun _ => ?_) (fun q => absurd q (by decide))
        refine aw_iconst (v := nI 0) ci_0 d_S_text_31 ?_
        refine as_callV (as := [.int (nI 0)]) (d' := 13) (q := ("SinglesUp$Reader", zT7, 13)) mo_R_understand lk_S_113 kc_144 rfl rfl rfl ⟨by decide, by decide⟩ rfl rfl (by decide) d_S_text_32 (Ss.of (show As l b 13 y_R_understand KC RC _ (I) 0 [.ref 144, .int (nI 0), uu] [] from ?_))
        refine aw_aload_n rfl rfl d_R_understand_0 ?_
        refine as_callV (as := []) (d' := 12) (q := ("SinglesUp$Reader", zT7, 13)) mo_R_scan lk_R_41 kc_144 rfl rfl rfl ⟨by decide, by decide⟩ rfl rfl (by decide) d_R_understand_1 (Ss.of (show As l b 12 y_R_scan KC RC _ (I) 0 [.ref 144, uu, uu, uu] [] from ?_))
        refine aw_aload_n rfl rfl d_R_scan_0 ?_
        refine aw_iconst (v := nI 0) ci_0 d_R_scan_1 ?_
        refine aw_puti fl_R_66 kc_144 (by decide) rfl rfl rfl rfl d_R_scan_2 ?_
        refine aw_iconst (v := nI 0) ci_0 d_R_scan_5 ?_
        refine aw_istore_n (lv2 := [.ref 144, .int (nI 0), uu, uu]) rfl (by decide) rfl d_R_scan_6 ?_
        refine aw_iload_n rfl rfl d_R_scan_7 ?_
        refine aw_aload_n rfl rfl d_R_scan_8 ?_
        refine aw_geti fl_R_35 kc_144 (by decide) rfl d_R_scan_9 ?_
        refine aw_top (x2 := nI 0) (Eq.trans (upd2_nx (by omega)) (q1)) ?_
        refine aw_icmp_geI (tgt := 194) (0) (0) (by decide +kernel) (by decide +kernel) (by decide) d_R_scan_12 (fun _ => ?_) (fun q => absurd q (by decide))
        refine aw_aload_n rfl rfl d_R_scan_194 ?_
        refine aw_bipush (v := nI 17) cb_17 d_R_scan_195 ?_
        refine aw_aload_n rfl rfl d_R_scan_197 ?_
        refine aw_geti fl_R_35 kc_144 (by decide) rfl d_R_scan_198 ?_
        refine aw_top (x2 := nI 0) (Eq.trans (upd2_nx (by omega)) (q1)) ?_
        refine aw_iconst (v := nI 0) ci_0 d_R_scan_201 ?_
        refine as_callV (as := [.int (nI 17), .int (nI 0), .int (nI 0)]) (d' := 11) (q := ("SinglesUp$Reader", zT7, 13)) mo_R_addToken lk_R_77 kc_144 rfl rfl rfl ⟨by decide, by decide⟩ rfl rfl (by decide) d_R_scan_202 (Ss.of (show As l b 11 y_R_addToken KC RC _ (upd2 I 144 5 (nI 0)) 0 [.ref 144, .int (nI 17), .int (nI 0), .int (nI 0)] [] from ?_))
        refine aw_aload_n rfl rfl d_R_addToken_0 ?_
        refine aw_geti fl_R_66 kc_144 (by decide) rfl d_R_addToken_1 ?_
        refine aw_top (x2 := nI 0) (upd2_eq) ?_
        refine aw_if_ltI (tgt := 57) (0) (by decide +kernel) (by decide) d_R_addToken_4 (fun q => absurd q (by decide)) (fun _ => ?_)
        refine aw_aload_n rfl rfl d_R_addToken_7 ?_
        refine aw_geti fl_R_66 kc_144 (by decide) rfl d_R_addToken_8 ?_
        refine aw_top (x2 := nI 0) (upd2_eq) ?_
        refine aw_sipush (v := nI 400) cs_400 d_R_addToken_11 ?_
        refine aw_icmp_gtI (tgt := 57) (0) (400) (by decide +kernel) (by decide +kernel) (by decide) d_R_addToken_14 (fun q => absurd q (by decide)) (fun _ => ?_)
        refine aw_aload_n rfl rfl d_R_addToken_17 ?_
        refine aw_getr fl_R_15 kc_144 (by decide) rfl rc_144_2 d_R_addToken_18 ?_
        refine aw_aload_n rfl rfl d_R_addToken_21 ?_
        refine aw_geti fl_R_66 kc_144 (by decide) rfl d_R_addToken_22 ?_
        refine aw_top (x2 := nI 0) (upd2_eq) ?_
        refine aw_iload_n rfl rfl d_R_addToken_25 ?_
        refine aw_iast (j := 0) kc_146 (vp_in_nI (by decide) (by decide)) (nI_clamp (by decide)) d_R_addToken_26 ?_
        refine aw_aload_n rfl rfl d_R_addToken_27 ?_
        refine aw_getr fl_R_18 kc_144 (by decide) rfl rc_144_3 d_R_addToken_28 ?_
        refine aw_aload_n rfl rfl d_R_addToken_31 ?_
        refine aw_geti fl_R_66 kc_144 (by decide) rfl d_R_addToken_32 ?_
        refine aw_top (x2 := nI 0) (Eq.trans (congrFun (upd2_ne (by decide)) (5)) (upd2_eq)) ?_
        refine aw_iload_n rfl rfl d_R_addToken_35 ?_
        refine aw_iast (j := 0) kc_147 (vp_in_nI (by decide) (by decide)) (nI_clamp (by decide)) d_R_addToken_36 ?_
        refine aw_aload_n rfl rfl d_R_addToken_37 ?_
        refine aw_getr fl_R_21 kc_144 (by decide) rfl rc_144_4 d_R_addToken_38 ?_
        refine aw_aload_n rfl rfl d_R_addToken_41 ?_
        refine aw_geti fl_R_66 kc_144 (by decide) rfl d_R_addToken_42 ?_
        refine aw_top (x2 := nI 0) (Eq.trans (congrFun (upd2_ne (by decide)) (5)) (Eq.trans (congrFun (upd2_ne (by decide)) (5)) (upd2_eq))) ?_
        refine aw_iload_n rfl rfl d_R_addToken_45 ?_
        refine aw_iast (j := 0) kc_148 (vp_in_nI (by decide) (by decide)) (nI_clamp (by decide)) d_R_addToken_46 ?_
        refine aw_aload_n rfl rfl d_R_addToken_47 ?_
        refine aw_dup rfl d_R_addToken_48 ?_
        refine aw_geti fl_R_66 kc_144 (by decide) rfl d_R_addToken_49 ?_
        refine aw_top (x2 := nI 0) (Eq.trans (congrFun (upd2_ne (by decide)) (5)) (Eq.trans (congrFun (upd2_ne (by decide)) (5)) (Eq.trans (congrFun (upd2_ne (by decide)) (5)) (upd2_eq)))) ?_
        refine aw_iconst (v := nI 1) ci_1 d_R_addToken_52 ?_
        refine aw_iadd d_R_addToken_53 ?_
        refine aw_top (x2 := nI 1) (by decide +kernel) ?_
        refine aw_puti fl_R_66 kc_144 (by decide) rfl rfl rfl rfl d_R_addToken_54 ?_
        refine as_retv rfl d_R_addToken_57 ?_
        refine (show As l b 12 y_R_scan KC RC _ (upd2 (upd2 (upd2 (upd2 (upd2 I 144 5 (nI 0)) 146 (0) (nI 17)) 147 (0) (nI 0)) 148 (0) (nI 0)) 144 5 (nI 1)) 205 [.ref 144, .int (nI 0), uu, uu] [] from ?_)
        refine as_retv rfl d_R_scan_205 ?_
        refine (show As l b 13 y_R_understand KC RC _ (upd2 (upd2 (upd2 (upd2 (upd2 I 144 5 (nI 0)) 146 (0) (nI 17)) 147 (0) (nI 0)) 148 (0) (nI 0)) 144 5 (nI 1)) 4 [.ref 144, .int (nI 0), uu] [] from ?_)
        refine aw_aload_n rfl rfl d_R_understand_4 ?_
        refine as_callV (as := []) (d' := 12) (q := ("SinglesUp$Reader", zT7, 13)) mo_R_forget lk_R_44 kc_144 rfl rfl rfl ⟨by decide, by decide⟩ rfl rfl (by decide) d_R_understand_5 (Ss.of (show As l b 12 y_R_forget KC RC _ (upd2 (upd2 (upd2 (upd2 (upd2 I 144 5 (nI 0)) 146 (0) (nI 17)) 147 (0) (nI 0)) 148 (0) (nI 0)) 144 5 (nI 1)) 0 [.ref 144] [] from ?_))
        refine aw_aload_n rfl rfl d_R_forget_0 ?_
        refine aw_iconst (v := nI 0) ci_0 d_R_forget_1 ?_
        refine aw_puti fl_R_35 kc_144 (by decide) rfl rfl rfl rfl d_R_forget_2 ?_
        refine aw_aload_n rfl rfl d_R_forget_5 ?_
        refine aw_iconst (v := nI 0) ci_0 d_R_forget_6 ?_
        refine aw_puti fl_R_38 kc_144 (by decide) rfl rfl rfl rfl d_R_forget_7 ?_
        refine aw_aload_n rfl rfl d_R_forget_10 ?_
        refine aw_iconst (v := (-1 : Int32)) rfl d_R_forget_11 ?_
        refine aw_puti fl_R_24 kc_144 (by decide) rfl rfl rfl rfl d_R_forget_12 ?_
        refine as_retv rfl d_R_forget_15 ?_
        refine (show As l b 13 y_R_understand KC RC _ (upd2 (upd2 (upd2 (upd2 (upd2 (upd2 (upd2 (upd2 I 144 5 (nI 0)) 146 (0) (nI 17)) 147 (0) (nI 0)) 148 (0) (nI 0)) 144 5 (nI 1)) 144 1 (nI 0)) 144 10 (nI 0)) 144 11 ((-1 : Int32))) 8 [.ref 144, .int (nI 0), uu] [] from ?_)
        refine aw_aload_n rfl rfl d_R_understand_8 ?_
        refine aw_iload_n rfl rfl d_R_understand_9 ?_
        refine aw_puti fl_R_47 kc_144 (by decide) rfl (by decide +kernel) (by decide +kernel) rfl d_R_understand_10 ?_
        refine aw_aload_n rfl rfl d_R_understand_13 ?_
        refine aw_getr fl_R_31 kc_144 (by decide) rfl rc_144_12 d_R_understand_14 ?_
        refine as_callV (as := []) (d' := 12) (q := ("SinglesUp$Law", zT3, 6)) mo_W_clear lk_R_51 kc_149 rfl rfl rfl ⟨by decide, by decide⟩ rfl rfl (by decide) d_R_understand_17 (Ss.of (show As l b 12 y_W_clear KC RC _ (upd2 (upd2 (upd2 (upd2 (upd2 (upd2 (upd2 (upd2 (upd2 I 144 5 (nI 0)) 146 (0) (nI 17)) 147 (0) (nI 0)) 148 (0) (nI 0)) 144 5 (nI 1)) 144 1 (nI 0)) 144 10 (nI 0)) 144 11 ((-1 : Int32))) 144 9 (nI 0)) 0 [.ref 149] [] from ?_))
        refine aw_aload_n rfl rfl d_W_clear_0 ?_
        refine aw_iconst (v := nI 0) ci_0 d_W_clear_1 ?_
        refine aw_puti fl_W_22 kc_149 (by decide) rfl rfl rfl rfl d_W_clear_2 ?_
        refine aw_aload_n rfl rfl d_W_clear_5 ?_
        refine aw_iconst (v := nI 0) ci_0 d_W_clear_6 ?_
        refine aw_puti fl_W_26 kc_149 (by decide) rfl rfl rfl rfl d_W_clear_7 ?_
        refine as_retv rfl d_W_clear_10 ?_
        refine (show As l b 13 y_R_understand KC RC _ (upd2 (upd2 (upd2 (upd2 (upd2 (upd2 (upd2 (upd2 (upd2 (upd2 (upd2 I 144 5 (nI 0)) 146 (0) (nI 17)) 147 (0) (nI 0)) 148 (0) (nI 0)) 144 5 (nI 1)) 144 1 (nI 0)) 144 10 (nI 0)) 144 11 ((-1 : Int32))) 144 9 (nI 0)) 149 1 (nI 0)) 149 4 (nI 0)) 20 [.ref 144, .int (nI 0), uu] [] from ?_)
        refine aw_aload_n rfl rfl d_R_understand_20 ?_
        refine aw_iconst (v := (-1 : Int32)) rfl d_R_understand_21 ?_
        refine aw_puti fl_R_54 kc_144 (by decide) rfl rfl rfl rfl d_R_understand_22 ?_
        refine aw_aload_n rfl rfl d_R_understand_25 ?_
        refine as_callV (as := []) (d' := 12) (q := ("SinglesUp$Reader", zT7, 13)) mo_R_advance lk_R_57 kc_144 rfl rfl rfl ⟨by decide, by decide⟩ rfl rfl (by decide) d_R_understand_26 (Ss.of (show As l b 12 y_R_advance KC RC _ (upd2 (upd2 (upd2 (upd2 (upd2 (upd2 (upd2 (upd2 (upd2 (upd2 (upd2 (upd2 I 144 5 (nI 0)) 146 (0) (nI 17)) 147 (0) (nI 0)) 148 (0) (nI 0)) 144 5 (nI 1)) 144 1 (nI 0)) 144 10 (nI 0)) 144 11 ((-1 : Int32))) 144 9 (nI 0)) 149 1 (nI 0)) 149 4 (nI 0)) 144 6 ((-1 : Int32))) 0 [.ref 144, uu] [] from ?_))
        refine aw_aload_n rfl rfl d_R_advance_0 ?_
        refine aw_geti fl_R_54 kc_144 (by decide) rfl d_R_advance_1 ?_
        refine aw_top (x2 := (-1 : Int32)) (upd2_eq) ?_
        refine aw_iconst (v := nI 1) ci_1 d_R_advance_4 ?_
        refine aw_iadd d_R_advance_5 ?_
        refine aw_top (x2 := nI 0) (by decide +kernel) ?_
        refine aw_istore_n (lv2 := [.ref 144, .int (nI 0)]) rfl (by decide) rfl d_R_advance_6 ?_
        refine aw_aload_n rfl rfl d_R_advance_7 ?_
        refine aw_geti fl_R_38 kc_144 (by decide) rfl d_R_advance_8 ?_
        refine aw_top (x2 := nI 0) (Eq.trans (upd2_nx (by omega)) (Eq.trans (congrFun (upd2_ne (by decide)) (10)) (Eq.trans (congrFun (upd2_ne (by decide)) (10)) (Eq.trans (upd2_nx (by omega)) (Eq.trans (upd2_nx (by omega)) (upd2_eq)))))) ?_
        refine aw_if_neI (tgt := 58) (0) (by decide +kernel) (by decide) d_R_advance_11 (fun q => absurd q (by decide)) (fun _ => ?_)
        refine aw_iload_n rfl rfl d_R_advance_14 ?_
        refine aw_if_ltI (tgt := 58) (0) (by decide +kernel) (by decide) d_R_advance_15 (fun q => absurd q (by decide)) (fun _ => ?_)
        refine aw_iload_n rfl rfl d_R_advance_18 ?_
        refine aw_sipush (v := nI 400) cs_400 d_R_advance_19 ?_
        refine aw_icmp_gtI (tgt := 58) (0) (400) (by decide +kernel) (by decide +kernel) (by decide) d_R_advance_22 (fun q => absurd q (by decide)) (fun _ => ?_)
        refine aw_iload_n rfl rfl d_R_advance_25 ?_
        refine aw_aload_n rfl rfl d_R_advance_26 ?_
        refine aw_geti fl_R_66 kc_144 (by decide) rfl d_R_advance_27 ?_
        refine aw_top (x2 := nI 1) (Eq.trans (upd2_nx (by omega)) (Eq.trans (congrFun (upd2_ne (by decide)) (5)) (Eq.trans (congrFun (upd2_ne (by decide)) (5)) (Eq.trans (upd2_nx (by omega)) (Eq.trans (upd2_nx (by omega)) (Eq.trans (upd2_nx (by omega)) (Eq.trans (upd2_nx (by omega)) (upd2_eq)))))))) ?_
        refine aw_icmp_geI (tgt := 58) (0) (1) (by decide +kernel) (by decide +kernel) (by decide) d_R_advance_30 (fun q => absurd q (by decide)) (fun _ => ?_)
        refine aw_aload_n rfl rfl d_R_advance_33 ?_
        refine aw_iload_n rfl rfl d_R_advance_34 ?_
        refine aw_puti fl_R_54 kc_144 (by decide) rfl rfl rfl rfl d_R_advance_35 ?_
        refine aw_aload_n rfl rfl d_R_advance_38 ?_
        refine aw_aload_n rfl rfl d_R_advance_39 ?_
        refine aw_getr fl_R_15 kc_144 (by decide) rfl rc_144_2 d_R_advance_40 ?_
        refine aw_iload_n rfl rfl d_R_advance_43 ?_
        refine aw_iald (j := 0) kc_146 (vp_in_nI (by decide) (by decide)) (nI_clamp (by decide)) d_R_advance_44 ?_
        refine aw_top (x2 := nI 17) (Eq.trans (congrFun (upd2_ne (by decide)) (0)) (Eq.trans (congrFun (upd2_ne (by decide)) (0)) (Eq.trans (congrFun (upd2_ne (by decide)) (0)) (Eq.trans (congrFun (upd2_ne (by decide)) (0)) (Eq.trans (congrFun (upd2_ne (by decide)) (0)) (Eq.trans (congrFun (upd2_ne (by decide)) (0)) (Eq.trans (congrFun (upd2_ne (by decide)) (0)) (Eq.trans (congrFun (upd2_ne (by decide)) (0)) (Eq.trans (congrFun (upd2_ne (by decide)) (0)) (Eq.trans (congrFun (upd2_ne (by decide)) (0)) (Eq.trans (congrFun (upd2_ne (by decide)) (0)) (upd2_eq)))))))))))) ?_
        refine aw_puti fl_R_60 kc_144 (by decide) rfl rfl rfl rfl d_R_advance_45 ?_
        refine aw_aload_n rfl rfl d_R_advance_48 ?_
        refine aw_aload_n rfl rfl d_R_advance_49 ?_
        refine aw_getr fl_R_21 kc_144 (by decide) rfl rc_144_4 d_R_advance_50 ?_
        refine aw_iload_n rfl rfl d_R_advance_53 ?_
        refine aw_iald (j := 0) kc_148 (vp_in_nI (by decide) (by decide)) (nI_clamp (by decide)) d_R_advance_54 ?_
        refine aw_top (x2 := nI 0) (Eq.trans (congrFun (upd2_ne (by decide)) (0)) (Eq.trans (congrFun (upd2_ne (by decide)) (0)) (Eq.trans (congrFun (upd2_ne (by decide)) (0)) (Eq.trans (congrFun (upd2_ne (by decide)) (0)) (Eq.trans (congrFun (upd2_ne (by decide)) (0)) (Eq.trans (congrFun (upd2_ne (by decide)) (0)) (Eq.trans (congrFun (upd2_ne (by decide)) (0)) (Eq.trans (congrFun (upd2_ne (by decide)) (0)) (Eq.trans (congrFun (upd2_ne (by decide)) (0)) (Eq.trans (congrFun (upd2_ne (by decide)) (0)) (upd2_eq))))))))))) ?_
        refine aw_puti fl_R_109 kc_144 (by decide) rfl rfl rfl rfl d_R_advance_55 ?_
        refine as_retv rfl d_R_advance_58 ?_
        refine (show As l b 13 y_R_understand KC RC _ (upd2 (upd2 (upd2 (upd2 (upd2 (upd2 (upd2 (upd2 (upd2 (upd2 (upd2 (upd2 (upd2 (upd2 (upd2 I 144 5 (nI 0)) 146 (0) (nI 17)) 147 (0) (nI 0)) 148 (0) (nI 0)) 144 5 (nI 1)) 144 1 (nI 0)) 144 10 (nI 0)) 144 11 ((-1 : Int32))) 144 9 (nI 0)) 149 1 (nI 0)) 149 4 (nI 0)) 144 6 ((-1 : Int32))) 144 6 (nI 0)) 144 7 (nI 17)) 144 8 (nI 0)) 29 [.ref 144, .int (nI 0), uu] [] from ?_)
        refine aw_iconst (v := nI 0) ci_0 d_R_understand_29 ?_
        refine aw_istore_n (lv2 := [.ref 144, .int (nI 0), .int (nI 0)]) rfl (by decide) rfl d_R_understand_30 ?_
        refine aw_iload_n rfl rfl d_R_understand_31 ?_
        refine aw_sipush (v := nI 400) cs_400 d_R_understand_32 ?_
        refine aw_icmp_geI (tgt := 64) (0) (400) (by decide +kernel) (by decide +kernel) (by decide) d_R_understand_35 (fun q => absurd q (by decide)) (fun _ => ?_)
        refine aw_aload_n rfl rfl d_R_understand_38 ?_
        refine aw_geti fl_R_38 kc_144 (by decide) rfl d_R_understand_39 ?_
        refine aw_top (x2 := nI 0) (Eq.trans (upd2_nx (by omega)) (Eq.trans (upd2_nx (by omega)) (Eq.trans (upd2_nx (by omega)) (Eq.trans (upd2_nx (by omega)) (Eq.trans (congrFun (upd2_ne (by decide)) (10)) (Eq.trans (congrFun (upd2_ne (by decide)) (10)) (Eq.trans (upd2_nx (by omega)) (Eq.trans (upd2_nx (by omega)) (upd2_eq))))))))) ?_
        refine aw_if_neI (tgt := 64) (0) (by decide +kernel) (by decide) d_R_understand_42 (fun q => absurd q (by decide)) (fun _ => ?_)
        refine aw_aload_n rfl rfl d_R_understand_45 ?_
        refine aw_geti fl_R_60 kc_144 (by decide) rfl d_R_understand_46 ?_
        refine aw_top (x2 := nI 17) (Eq.trans (upd2_nx (by omega)) (upd2_eq)) ?_
        refine aw_bipush (v := nI 17) cb_17 d_R_understand_49 ?_
        refine aw_icmp_eqI (tgt := 64) (17) (17) (by decide +kernel) (by decide +kernel) (by decide) d_R_understand_51 (fun _ => ?_) (fun q => absurd q (by decide))
        refine aw_aload_n rfl rfl d_R_understand_64 ?_
        refine aw_geti fl_R_38 kc_144 (by decide) rfl d_R_understand_65 ?_
        refine aw_top (x2 := nI 0) (Eq.trans (upd2_nx (by omega)) (Eq.trans (upd2_nx (by omega)) (Eq.trans (upd2_nx (by omega)) (Eq.trans (upd2_nx (by omega)) (Eq.trans (congrFun (upd2_ne (by decide)) (10)) (Eq.trans (congrFun (upd2_ne (by decide)) (10)) (Eq.trans (upd2_nx (by omega)) (Eq.trans (upd2_nx (by omega)) (upd2_eq))))))))) ?_
        refine aw_if_neI (tgt := 75) (0) (by decide +kernel) (by decide) d_R_understand_68 (fun q => absurd q (by decide)) (fun _ => ?_)
        refine aw_iconst (v := nI 1) ci_1 d_R_understand_71 ?_
        refine aw_goto (tgt := 76) (by decide) d_R_understand_72 ?_
        refine as_retz rfl (by decide +kernel) d_R_understand_76 ?_
        refine (show As l b 14 y_S_text KC RC K2 (upd2 (upd2 (upd2 (upd2 (upd2 (upd2 (upd2 (upd2 (upd2 (upd2 (upd2 (upd2 (upd2 (upd2 (upd2 I 144 5 (nI 0)) 146 (0) (nI 17)) 147 (0) (nI 0)) 148 (0) (nI 0)) 144 5 (nI 1)) 144 1 (nI 0)) 144 10 (nI 0)) 144 11 ((-1 : Int32))) 144 9 (nI 0)) 149 1 (nI 0)) 149 4 (nI 0)) 144 6 ((-1 : Int32))) 144 6 (nI 0)) 144 7 (nI 17)) 144 8 (nI 0)) 35 [.ref 0, .int (nI 3)] [.int (nI 1)] from ?_)
        refine aw_if_neI (tgt := 40) (1) (by decide +kernel) (by decide) d_S_text_35 (fun _ => ?_) (fun q => absurd q (by decide))
        refine aw_aload_n rfl rfl d_S_text_40 ?_
        refine aw_getr fl_S_12 kc_0 (by decide) rfl rc_0_0 d_S_text_41 ?_
        refine aw_getr fl_S_117 kc_1 (by decide) rfl rc_1_1 d_S_text_44 ?_
        refine aw_iload_n rfl rfl d_S_text_47 ?_
        refine aw_aald (j := 3) kc_3 (vp_in_nI (by decide) (by decide)) (nI_clamp (by decide)) rc_3_3 d_S_text_48 ?_
        refine aw_aload_n rfl rfl d_S_text_49 ?_
        refine aw_getr fl_S_39 kc_0 (by decide) rfl rc_0_5 d_S_text_50 ?_
        refine aw_getr fl_S_121 kc_144 (by decide) rfl rc_144_12 d_S_text_53 ?_
        refine as_callV (as := [.ref 149]) (d' := 13) (q := ("SinglesUp$Law", zT3, 6)) mo_W_copyFrom lk_S_125 kc_31 rfl rfl rfl ⟨by decide, by decide⟩ rfl rfl (by decide) d_S_text_56 (Ss.of (show As l b 13 y_W_copyFrom KC RC _ (upd2 (upd2 (upd2 (upd2 (upd2 (upd2 (upd2 (upd2 (upd2 (upd2 (upd2 (upd2 (upd2 (upd2 (upd2 I 144 5 (nI 0)) 146 (0) (nI 17)) 147 (0) (nI 0)) 148 (0) (nI 0)) 144 5 (nI 1)) 144 1 (nI 0)) 144 10 (nI 0)) 144 11 ((-1 : Int32))) 144 9 (nI 0)) 149 1 (nI 0)) 149 4 (nI 0)) 144 6 ((-1 : Int32))) 144 6 (nI 0)) 144 7 (nI 17)) 144 8 (nI 0)) 0 [.ref 31, .ref 149] [] from ?_))
        refine aw_aload_n rfl rfl d_W_copyFrom_0 ?_
        refine aw_aload_n rfl rfl d_W_copyFrom_1 ?_
        refine aw_geti fl_W_22 kc_149 (by decide) rfl d_W_copyFrom_2 ?_
        refine aw_top (x2 := nI 0) (Eq.trans (congrFun (upd2_ne (by decide)) (1)) (Eq.trans (congrFun (upd2_ne (by decide)) (1)) (Eq.trans (congrFun (upd2_ne (by decide)) (1)) (Eq.trans (congrFun (upd2_ne (by decide)) (1)) (Eq.trans (upd2_nx (by omega)) (upd2_eq)))))) ?_
        refine aw_puti fl_W_22 kc_31 (by decide) rfl rfl rfl rfl d_W_copyFrom_5 ?_
        refine aw_aload_n rfl rfl d_W_copyFrom_8 ?_
        refine aw_aload_n rfl rfl d_W_copyFrom_9 ?_
        refine aw_geti fl_W_26 kc_149 (by decide) rfl d_W_copyFrom_10 ?_
        refine aw_top (x2 := nI 0) (Eq.trans (congrFun (upd2_ne (by decide)) (4)) (Eq.trans (congrFun (upd2_ne (by decide)) (4)) (Eq.trans (congrFun (upd2_ne (by decide)) (4)) (Eq.trans (congrFun (upd2_ne (by decide)) (4)) (Eq.trans (congrFun (upd2_ne (by decide)) (4)) (upd2_eq)))))) ?_
        refine aw_puti fl_W_26 kc_31 (by decide) rfl rfl rfl rfl d_W_copyFrom_13 ?_
        refine aw_aload_n rfl rfl d_W_copyFrom_16 ?_
        refine aw_getr fl_W_9 kc_149 (by decide) rfl rc_149_0 d_W_copyFrom_17 ?_
        refine aw_iconst (v := nI 0) ci_0 d_W_copyFrom_20 ?_
        refine aw_aload_n rfl rfl d_W_copyFrom_21 ?_
        refine aw_getr fl_W_9 kc_31 (by decide) rfl rc_31_0 d_W_copyFrom_22 ?_
        refine aw_iconst (v := nI 0) ci_0 d_W_copyFrom_25 ?_
        refine aw_sipush (v := nI 400) cs_400 d_W_copyFrom_26 ?_
        refine as_copy0 (n := 400) lka_W_29 ac_nat ac_sta ac_ini kc_150 kc_32 (by omega) (by omega) (by omega) (by decide) rfl d_W_copyFrom_29 (fun J39 e40 e41 e42 => ?_)
        refine aw_aload_n rfl rfl d_W_copyFrom_32 ?_
        refine aw_getr fl_W_13 kc_149 (by decide) rfl rc_149_2 d_W_copyFrom_33 ?_
        refine aw_iconst (v := nI 0) ci_0 d_W_copyFrom_36 ?_
        refine aw_aload_n rfl rfl d_W_copyFrom_37 ?_
        refine aw_getr fl_W_13 kc_31 (by decide) rfl rc_31_2 d_W_copyFrom_38 ?_
        refine aw_iconst (v := nI 0) ci_0 d_W_copyFrom_41 ?_
        refine aw_bipush (v := nI 17) cb_17 d_W_copyFrom_42 ?_
        refine as_copy0 (n := 17) lka_W_29 ac_nat ac_sta ac_ini kc_151 kc_33 (by omega) (by omega) (by omega) (by decide) rfl d_W_copyFrom_44 (fun J43 e44 e45 e46 => ?_)
        refine aw_aload_n rfl rfl d_W_copyFrom_47 ?_
        refine aw_getr fl_W_16 kc_149 (by decide) rfl rc_149_3 d_W_copyFrom_48 ?_
        refine aw_iconst (v := nI 0) ci_0 d_W_copyFrom_51 ?_
        refine aw_aload_n rfl rfl d_W_copyFrom_52 ?_
        refine aw_getr fl_W_16 kc_31 (by decide) rfl rc_31_3 d_W_copyFrom_53 ?_
        refine aw_iconst (v := nI 0) ci_0 d_W_copyFrom_56 ?_
        refine aw_bipush (v := nI 16) cb_16 d_W_copyFrom_57 ?_
        refine as_copy0 (n := 16) lka_W_29 ac_nat ac_sta ac_ini kc_152 kc_34 (by omega) (by omega) (by omega) (by decide) rfl d_W_copyFrom_59 (fun J47 e48 e49 e50 => ?_)
        refine as_retv rfl d_W_copyFrom_62 ?_
        refine (show As l b 14 y_S_text KC RC K2 (J47) 59 [.ref 0, .int (nI 3)] [] from ?_)
        refine aw_aload_n rfl rfl d_S_text_59 ?_
        refine aw_getr fl_S_39 kc_0 (by decide) rfl rc_0_5 d_S_text_60 ?_
        refine aw_getr fl_S_121 kc_144 (by decide) rfl rc_144_12 d_S_text_63 ?_
        refine aw_geti fl_S_131 kc_149 (by decide) rfl d_S_text_66 ?_
        refine aw_top (x2 := nI 0) (((congrFun (e48 149 (by decide)) (4)).trans (((congrFun (e44 149 (by decide)) (4)).trans (((congrFun (e40 149 (by decide)) (4)).trans (Eq.trans (congrFun (upd2_ne (by decide)) (4)) (Eq.trans (congrFun (upd2_ne (by decide)) (4)) (Eq.trans (congrFun (upd2_ne (by decide)) (4)) (Eq.trans (congrFun (upd2_ne (by decide)) (4)) (Eq.trans (congrFun (upd2_ne (by decide)) (4)) (Eq.trans (congrFun (upd2_ne (by decide)) (4)) (upd2_eq))))))))))))) ?_
        exact as_reti rfl d_S_text_69 (hg (by omega) _)
      · refine aw_aload_n rfl rfl d_S_text_18 ?_
        refine aw_getr fl_S_39 kc_0 (by decide) rfl rc_0_5 d_S_text_19 ?_
        refine aw_iload_n rfl rfl d_S_text_22 ?_
        refine aw_iconst (v := nI 4) ci_4 d_S_text_23 ?_
        refine aw_icmp_neI (tgt := 31) (4) (4) (by decide +kernel) (by decide +kernel) (by decide) d_S_text_24 (fun q => absurd q (by decide)) (fun _ => ?_)
        refine aw_iconst (v := nI 1) ci_1 d_S_text_27 ?_
        refine aw_goto (tgt := 32) (by decide) d_S_text_28 ?_
        refine as_callV (as := [.int (nI 1)]) (d' := 13) (q := ("SinglesUp$Reader", zT7, 13)) mo_R_understand lk_S_113 kc_144 rfl rfl rfl ⟨by decide, by decide⟩ rfl rfl (by decide) d_S_text_32 (Ss.of (show As l b 13 y_R_understand KC RC _ (I) 0 [.ref 144, .int (nI 1), uu] [] from ?_))
        refine aw_aload_n rfl rfl d_R_understand_0 ?_
        refine as_callV (as := []) (d' := 12) (q := ("SinglesUp$Reader", zT7, 13)) mo_R_scan lk_R_41 kc_144 rfl rfl rfl ⟨by decide, by decide⟩ rfl rfl (by decide) d_R_understand_1 (Ss.of (show As l b 12 y_R_scan KC RC _ (I) 0 [.ref 144, uu, uu, uu] [] from ?_))
        refine aw_aload_n rfl rfl d_R_scan_0 ?_
        refine aw_iconst (v := nI 0) ci_0 d_R_scan_1 ?_
        refine aw_puti fl_R_66 kc_144 (by decide) rfl rfl rfl rfl d_R_scan_2 ?_
        refine aw_iconst (v := nI 0) ci_0 d_R_scan_5 ?_
        refine aw_istore_n (lv2 := [.ref 144, .int (nI 0), uu, uu]) rfl (by decide) rfl d_R_scan_6 ?_
        refine aw_iload_n rfl rfl d_R_scan_7 ?_
        refine aw_aload_n rfl rfl d_R_scan_8 ?_
        refine aw_geti fl_R_35 kc_144 (by decide) rfl d_R_scan_9 ?_
        refine aw_top (x2 := nI 0) (Eq.trans (upd2_nx (by omega)) (q1)) ?_
        refine aw_icmp_geI (tgt := 194) (0) (0) (by decide +kernel) (by decide +kernel) (by decide) d_R_scan_12 (fun _ => ?_) (fun q => absurd q (by decide))
        refine aw_aload_n rfl rfl d_R_scan_194 ?_
        refine aw_bipush (v := nI 17) cb_17 d_R_scan_195 ?_
        refine aw_aload_n rfl rfl d_R_scan_197 ?_
        refine aw_geti fl_R_35 kc_144 (by decide) rfl d_R_scan_198 ?_
        refine aw_top (x2 := nI 0) (Eq.trans (upd2_nx (by omega)) (q1)) ?_
        refine aw_iconst (v := nI 0) ci_0 d_R_scan_201 ?_
        refine as_callV (as := [.int (nI 17), .int (nI 0), .int (nI 0)]) (d' := 11) (q := ("SinglesUp$Reader", zT7, 13)) mo_R_addToken lk_R_77 kc_144 rfl rfl rfl ⟨by decide, by decide⟩ rfl rfl (by decide) d_R_scan_202 (Ss.of (show As l b 11 y_R_addToken KC RC _ (upd2 I 144 5 (nI 0)) 0 [.ref 144, .int (nI 17), .int (nI 0), .int (nI 0)] [] from ?_))
        refine aw_aload_n rfl rfl d_R_addToken_0 ?_
        refine aw_geti fl_R_66 kc_144 (by decide) rfl d_R_addToken_1 ?_
        refine aw_top (x2 := nI 0) (upd2_eq) ?_
        refine aw_if_ltI (tgt := 57) (0) (by decide +kernel) (by decide) d_R_addToken_4 (fun q => absurd q (by decide)) (fun _ => ?_)
        refine aw_aload_n rfl rfl d_R_addToken_7 ?_
        refine aw_geti fl_R_66 kc_144 (by decide) rfl d_R_addToken_8 ?_
        refine aw_top (x2 := nI 0) (upd2_eq) ?_
        refine aw_sipush (v := nI 400) cs_400 d_R_addToken_11 ?_
        refine aw_icmp_gtI (tgt := 57) (0) (400) (by decide +kernel) (by decide +kernel) (by decide) d_R_addToken_14 (fun q => absurd q (by decide)) (fun _ => ?_)
        refine aw_aload_n rfl rfl d_R_addToken_17 ?_
        refine aw_getr fl_R_15 kc_144 (by decide) rfl rc_144_2 d_R_addToken_18 ?_
        refine aw_aload_n rfl rfl d_R_addToken_21 ?_
        refine aw_geti fl_R_66 kc_144 (by decide) rfl d_R_addToken_22 ?_
        refine aw_top (x2 := nI 0) (upd2_eq) ?_
        refine aw_iload_n rfl rfl d_R_addToken_25 ?_
        refine aw_iast (j := 0) kc_146 (vp_in_nI (by decide) (by decide)) (nI_clamp (by decide)) d_R_addToken_26 ?_
        refine aw_aload_n rfl rfl d_R_addToken_27 ?_
        refine aw_getr fl_R_18 kc_144 (by decide) rfl rc_144_3 d_R_addToken_28 ?_
        refine aw_aload_n rfl rfl d_R_addToken_31 ?_
        refine aw_geti fl_R_66 kc_144 (by decide) rfl d_R_addToken_32 ?_
        refine aw_top (x2 := nI 0) (Eq.trans (congrFun (upd2_ne (by decide)) (5)) (upd2_eq)) ?_
        refine aw_iload_n rfl rfl d_R_addToken_35 ?_
        refine aw_iast (j := 0) kc_147 (vp_in_nI (by decide) (by decide)) (nI_clamp (by decide)) d_R_addToken_36 ?_
        refine aw_aload_n rfl rfl d_R_addToken_37 ?_
        refine aw_getr fl_R_21 kc_144 (by decide) rfl rc_144_4 d_R_addToken_38 ?_
        refine aw_aload_n rfl rfl d_R_addToken_41 ?_
        refine aw_geti fl_R_66 kc_144 (by decide) rfl d_R_addToken_42 ?_
        refine aw_top (x2 := nI 0) (Eq.trans (congrFun (upd2_ne (by decide)) (5)) (Eq.trans (congrFun (upd2_ne (by decide)) (5)) (upd2_eq))) ?_
        refine aw_iload_n rfl rfl d_R_addToken_45 ?_
        refine aw_iast (j := 0) kc_148 (vp_in_nI (by decide) (by decide)) (nI_clamp (by decide)) d_R_addToken_46 ?_
        refine aw_aload_n rfl rfl d_R_addToken_47 ?_
        refine aw_dup rfl d_R_addToken_48 ?_
        refine aw_geti fl_R_66 kc_144 (by decide) rfl d_R_addToken_49 ?_
        refine aw_top (x2 := nI 0) (Eq.trans (congrFun (upd2_ne (by decide)) (5)) (Eq.trans (congrFun (upd2_ne (by decide)) (5)) (Eq.trans (congrFun (upd2_ne (by decide)) (5)) (upd2_eq)))) ?_
        refine aw_iconst (v := nI 1) ci_1 d_R_addToken_52 ?_
        refine aw_iadd d_R_addToken_53 ?_
        refine aw_top (x2 := nI 1) (by decide +kernel) ?_
        refine aw_puti fl_R_66 kc_144 (by decide) rfl rfl rfl rfl d_R_addToken_54 ?_
        refine as_retv rfl d_R_addToken_57 ?_
        refine (show As l b 12 y_R_scan KC RC _ (upd2 (upd2 (upd2 (upd2 (upd2 I 144 5 (nI 0)) 146 (0) (nI 17)) 147 (0) (nI 0)) 148 (0) (nI 0)) 144 5 (nI 1)) 205 [.ref 144, .int (nI 0), uu, uu] [] from ?_)
        refine as_retv rfl d_R_scan_205 ?_
        refine (show As l b 13 y_R_understand KC RC _ (upd2 (upd2 (upd2 (upd2 (upd2 I 144 5 (nI 0)) 146 (0) (nI 17)) 147 (0) (nI 0)) 148 (0) (nI 0)) 144 5 (nI 1)) 4 [.ref 144, .int (nI 1), uu] [] from ?_)
        refine aw_aload_n rfl rfl d_R_understand_4 ?_
        refine as_callV (as := []) (d' := 12) (q := ("SinglesUp$Reader", zT7, 13)) mo_R_forget lk_R_44 kc_144 rfl rfl rfl ⟨by decide, by decide⟩ rfl rfl (by decide) d_R_understand_5 (Ss.of (show As l b 12 y_R_forget KC RC _ (upd2 (upd2 (upd2 (upd2 (upd2 I 144 5 (nI 0)) 146 (0) (nI 17)) 147 (0) (nI 0)) 148 (0) (nI 0)) 144 5 (nI 1)) 0 [.ref 144] [] from ?_))
        refine aw_aload_n rfl rfl d_R_forget_0 ?_
        refine aw_iconst (v := nI 0) ci_0 d_R_forget_1 ?_
        refine aw_puti fl_R_35 kc_144 (by decide) rfl rfl rfl rfl d_R_forget_2 ?_
        refine aw_aload_n rfl rfl d_R_forget_5 ?_
        refine aw_iconst (v := nI 0) ci_0 d_R_forget_6 ?_
        refine aw_puti fl_R_38 kc_144 (by decide) rfl rfl rfl rfl d_R_forget_7 ?_
        refine aw_aload_n rfl rfl d_R_forget_10 ?_
        refine aw_iconst (v := (-1 : Int32)) rfl d_R_forget_11 ?_
        refine aw_puti fl_R_24 kc_144 (by decide) rfl rfl rfl rfl d_R_forget_12 ?_
        refine as_retv rfl d_R_forget_15 ?_
        refine (show As l b 13 y_R_understand KC RC _ (upd2 (upd2 (upd2 (upd2 (upd2 (upd2 (upd2 (upd2 I 144 5 (nI 0)) 146 (0) (nI 17)) 147 (0) (nI 0)) 148 (0) (nI 0)) 144 5 (nI 1)) 144 1 (nI 0)) 144 10 (nI 0)) 144 11 ((-1 : Int32))) 8 [.ref 144, .int (nI 1), uu] [] from ?_)
        refine aw_aload_n rfl rfl d_R_understand_8 ?_
        refine aw_iload_n rfl rfl d_R_understand_9 ?_
        refine aw_puti fl_R_47 kc_144 (by decide) rfl (by decide +kernel) (by decide +kernel) rfl d_R_understand_10 ?_
        refine aw_aload_n rfl rfl d_R_understand_13 ?_
        refine aw_getr fl_R_31 kc_144 (by decide) rfl rc_144_12 d_R_understand_14 ?_
        refine as_callV (as := []) (d' := 12) (q := ("SinglesUp$Law", zT3, 6)) mo_W_clear lk_R_51 kc_149 rfl rfl rfl ⟨by decide, by decide⟩ rfl rfl (by decide) d_R_understand_17 (Ss.of (show As l b 12 y_W_clear KC RC _ (upd2 (upd2 (upd2 (upd2 (upd2 (upd2 (upd2 (upd2 (upd2 I 144 5 (nI 0)) 146 (0) (nI 17)) 147 (0) (nI 0)) 148 (0) (nI 0)) 144 5 (nI 1)) 144 1 (nI 0)) 144 10 (nI 0)) 144 11 ((-1 : Int32))) 144 9 (nI 1)) 0 [.ref 149] [] from ?_))
        refine aw_aload_n rfl rfl d_W_clear_0 ?_
        refine aw_iconst (v := nI 0) ci_0 d_W_clear_1 ?_
        refine aw_puti fl_W_22 kc_149 (by decide) rfl rfl rfl rfl d_W_clear_2 ?_
        refine aw_aload_n rfl rfl d_W_clear_5 ?_
        refine aw_iconst (v := nI 0) ci_0 d_W_clear_6 ?_
        refine aw_puti fl_W_26 kc_149 (by decide) rfl rfl rfl rfl d_W_clear_7 ?_
        refine as_retv rfl d_W_clear_10 ?_
        refine (show As l b 13 y_R_understand KC RC _ (upd2 (upd2 (upd2 (upd2 (upd2 (upd2 (upd2 (upd2 (upd2 (upd2 (upd2 I 144 5 (nI 0)) 146 (0) (nI 17)) 147 (0) (nI 0)) 148 (0) (nI 0)) 144 5 (nI 1)) 144 1 (nI 0)) 144 10 (nI 0)) 144 11 ((-1 : Int32))) 144 9 (nI 1)) 149 1 (nI 0)) 149 4 (nI 0)) 20 [.ref 144, .int (nI 1), uu] [] from ?_)
        refine aw_aload_n rfl rfl d_R_understand_20 ?_
        refine aw_iconst (v := (-1 : Int32)) rfl d_R_understand_21 ?_
        refine aw_puti fl_R_54 kc_144 (by decide) rfl rfl rfl rfl d_R_understand_22 ?_
        refine aw_aload_n rfl rfl d_R_understand_25 ?_
        refine as_callV (as := []) (d' := 12) (q := ("SinglesUp$Reader", zT7, 13)) mo_R_advance lk_R_57 kc_144 rfl rfl rfl ⟨by decide, by decide⟩ rfl rfl (by decide) d_R_understand_26 (Ss.of (show As l b 12 y_R_advance KC RC _ (upd2 (upd2 (upd2 (upd2 (upd2 (upd2 (upd2 (upd2 (upd2 (upd2 (upd2 (upd2 I 144 5 (nI 0)) 146 (0) (nI 17)) 147 (0) (nI 0)) 148 (0) (nI 0)) 144 5 (nI 1)) 144 1 (nI 0)) 144 10 (nI 0)) 144 11 ((-1 : Int32))) 144 9 (nI 1)) 149 1 (nI 0)) 149 4 (nI 0)) 144 6 ((-1 : Int32))) 0 [.ref 144, uu] [] from ?_))
        refine aw_aload_n rfl rfl d_R_advance_0 ?_
        refine aw_geti fl_R_54 kc_144 (by decide) rfl d_R_advance_1 ?_
        refine aw_top (x2 := (-1 : Int32)) (upd2_eq) ?_
        refine aw_iconst (v := nI 1) ci_1 d_R_advance_4 ?_
        refine aw_iadd d_R_advance_5 ?_
        refine aw_top (x2 := nI 0) (by decide +kernel) ?_
        refine aw_istore_n (lv2 := [.ref 144, .int (nI 0)]) rfl (by decide) rfl d_R_advance_6 ?_
        refine aw_aload_n rfl rfl d_R_advance_7 ?_
        refine aw_geti fl_R_38 kc_144 (by decide) rfl d_R_advance_8 ?_
        refine aw_top (x2 := nI 0) (Eq.trans (upd2_nx (by omega)) (Eq.trans (congrFun (upd2_ne (by decide)) (10)) (Eq.trans (congrFun (upd2_ne (by decide)) (10)) (Eq.trans (upd2_nx (by omega)) (Eq.trans (upd2_nx (by omega)) (upd2_eq)))))) ?_
        refine aw_if_neI (tgt := 58) (0) (by decide +kernel) (by decide) d_R_advance_11 (fun q => absurd q (by decide)) (fun _ => ?_)
        refine aw_iload_n rfl rfl d_R_advance_14 ?_
        refine aw_if_ltI (tgt := 58) (0) (by decide +kernel) (by decide) d_R_advance_15 (fun q => absurd q (by decide)) (fun _ => ?_)
        refine aw_iload_n rfl rfl d_R_advance_18 ?_
        refine aw_sipush (v := nI 400) cs_400 d_R_advance_19 ?_
        refine aw_icmp_gtI (tgt := 58) (0) (400) (by decide +kernel) (by decide +kernel) (by decide) d_R_advance_22 (fun q => absurd q (by decide)) (fun _ => ?_)
        refine aw_iload_n rfl rfl d_R_advance_25 ?_
        refine aw_aload_n rfl rfl d_R_advance_26 ?_
        refine aw_geti fl_R_66 kc_144 (by decide) rfl d_R_advance_27 ?_
        refine aw_top (x2 := nI 1) (Eq.trans (upd2_nx (by omega)) (Eq.trans (congrFun (upd2_ne (by decide)) (5)) (Eq.trans (congrFun (upd2_ne (by decide)) (5)) (Eq.trans (upd2_nx (by omega)) (Eq.trans (upd2_nx (by omega)) (Eq.trans (upd2_nx (by omega)) (Eq.trans (upd2_nx (by omega)) (upd2_eq)))))))) ?_
        refine aw_icmp_geI (tgt := 58) (0) (1) (by decide +kernel) (by decide +kernel) (by decide) d_R_advance_30 (fun q => absurd q (by decide)) (fun _ => ?_)
        refine aw_aload_n rfl rfl d_R_advance_33 ?_
        refine aw_iload_n rfl rfl d_R_advance_34 ?_
        refine aw_puti fl_R_54 kc_144 (by decide) rfl rfl rfl rfl d_R_advance_35 ?_
        refine aw_aload_n rfl rfl d_R_advance_38 ?_
        refine aw_aload_n rfl rfl d_R_advance_39 ?_
        refine aw_getr fl_R_15 kc_144 (by decide) rfl rc_144_2 d_R_advance_40 ?_
        refine aw_iload_n rfl rfl d_R_advance_43 ?_
        refine aw_iald (j := 0) kc_146 (vp_in_nI (by decide) (by decide)) (nI_clamp (by decide)) d_R_advance_44 ?_
        refine aw_top (x2 := nI 17) (Eq.trans (congrFun (upd2_ne (by decide)) (0)) (Eq.trans (congrFun (upd2_ne (by decide)) (0)) (Eq.trans (congrFun (upd2_ne (by decide)) (0)) (Eq.trans (congrFun (upd2_ne (by decide)) (0)) (Eq.trans (congrFun (upd2_ne (by decide)) (0)) (Eq.trans (congrFun (upd2_ne (by decide)) (0)) (Eq.trans (congrFun (upd2_ne (by decide)) (0)) (Eq.trans (congrFun (upd2_ne (by decide)) (0)) (Eq.trans (congrFun (upd2_ne (by decide)) (0)) (Eq.trans (congrFun (upd2_ne (by decide)) (0)) (Eq.trans (congrFun (upd2_ne (by decide)) (0)) (upd2_eq)))))))))))) ?_
        refine aw_puti fl_R_60 kc_144 (by decide) rfl rfl rfl rfl d_R_advance_45 ?_
        refine aw_aload_n rfl rfl d_R_advance_48 ?_
        refine aw_aload_n rfl rfl d_R_advance_49 ?_
        refine aw_getr fl_R_21 kc_144 (by decide) rfl rc_144_4 d_R_advance_50 ?_
        refine aw_iload_n rfl rfl d_R_advance_53 ?_
        refine aw_iald (j := 0) kc_148 (vp_in_nI (by decide) (by decide)) (nI_clamp (by decide)) d_R_advance_54 ?_
        refine aw_top (x2 := nI 0) (Eq.trans (congrFun (upd2_ne (by decide)) (0)) (Eq.trans (congrFun (upd2_ne (by decide)) (0)) (Eq.trans (congrFun (upd2_ne (by decide)) (0)) (Eq.trans (congrFun (upd2_ne (by decide)) (0)) (Eq.trans (congrFun (upd2_ne (by decide)) (0)) (Eq.trans (congrFun (upd2_ne (by decide)) (0)) (Eq.trans (congrFun (upd2_ne (by decide)) (0)) (Eq.trans (congrFun (upd2_ne (by decide)) (0)) (Eq.trans (congrFun (upd2_ne (by decide)) (0)) (Eq.trans (congrFun (upd2_ne (by decide)) (0)) (upd2_eq))))))))))) ?_
        refine aw_puti fl_R_109 kc_144 (by decide) rfl rfl rfl rfl d_R_advance_55 ?_
        refine as_retv rfl d_R_advance_58 ?_
        refine (show As l b 13 y_R_understand KC RC _ (upd2 (upd2 (upd2 (upd2 (upd2 (upd2 (upd2 (upd2 (upd2 (upd2 (upd2 (upd2 (upd2 (upd2 (upd2 I 144 5 (nI 0)) 146 (0) (nI 17)) 147 (0) (nI 0)) 148 (0) (nI 0)) 144 5 (nI 1)) 144 1 (nI 0)) 144 10 (nI 0)) 144 11 ((-1 : Int32))) 144 9 (nI 1)) 149 1 (nI 0)) 149 4 (nI 0)) 144 6 ((-1 : Int32))) 144 6 (nI 0)) 144 7 (nI 17)) 144 8 (nI 0)) 29 [.ref 144, .int (nI 1), uu] [] from ?_)
        refine aw_iconst (v := nI 0) ci_0 d_R_understand_29 ?_
        refine aw_istore_n (lv2 := [.ref 144, .int (nI 1), .int (nI 0)]) rfl (by decide) rfl d_R_understand_30 ?_
        refine aw_iload_n rfl rfl d_R_understand_31 ?_
        refine aw_sipush (v := nI 400) cs_400 d_R_understand_32 ?_
        refine aw_icmp_geI (tgt := 64) (0) (400) (by decide +kernel) (by decide +kernel) (by decide) d_R_understand_35 (fun q => absurd q (by decide)) (fun _ => ?_)
        refine aw_aload_n rfl rfl d_R_understand_38 ?_
        refine aw_geti fl_R_38 kc_144 (by decide) rfl d_R_understand_39 ?_
        refine aw_top (x2 := nI 0) (Eq.trans (upd2_nx (by omega)) (Eq.trans (upd2_nx (by omega)) (Eq.trans (upd2_nx (by omega)) (Eq.trans (upd2_nx (by omega)) (Eq.trans (congrFun (upd2_ne (by decide)) (10)) (Eq.trans (congrFun (upd2_ne (by decide)) (10)) (Eq.trans (upd2_nx (by omega)) (Eq.trans (upd2_nx (by omega)) (upd2_eq))))))))) ?_
        refine aw_if_neI (tgt := 64) (0) (by decide +kernel) (by decide) d_R_understand_42 (fun q => absurd q (by decide)) (fun _ => ?_)
        refine aw_aload_n rfl rfl d_R_understand_45 ?_
        refine aw_geti fl_R_60 kc_144 (by decide) rfl d_R_understand_46 ?_
        refine aw_top (x2 := nI 17) (Eq.trans (upd2_nx (by omega)) (upd2_eq)) ?_
        refine aw_bipush (v := nI 17) cb_17 d_R_understand_49 ?_
        refine aw_icmp_eqI (tgt := 64) (17) (17) (by decide +kernel) (by decide +kernel) (by decide) d_R_understand_51 (fun _ => ?_) (fun q => absurd q (by decide))
        refine aw_aload_n rfl rfl d_R_understand_64 ?_
        refine aw_geti fl_R_38 kc_144 (by decide) rfl d_R_understand_65 ?_
        refine aw_top (x2 := nI 0) (Eq.trans (upd2_nx (by omega)) (Eq.trans (upd2_nx (by omega)) (Eq.trans (upd2_nx (by omega)) (Eq.trans (upd2_nx (by omega)) (Eq.trans (congrFun (upd2_ne (by decide)) (10)) (Eq.trans (congrFun (upd2_ne (by decide)) (10)) (Eq.trans (upd2_nx (by omega)) (Eq.trans (upd2_nx (by omega)) (upd2_eq))))))))) ?_
        refine aw_if_neI (tgt := 75) (0) (by decide +kernel) (by decide) d_R_understand_68 (fun q => absurd q (by decide)) (fun _ => ?_)
        refine aw_iconst (v := nI 1) ci_1 d_R_understand_71 ?_
        refine aw_goto (tgt := 76) (by decide) d_R_understand_72 ?_
        refine as_retz rfl (by decide +kernel) d_R_understand_76 ?_
        refine (show As l b 14 y_S_text KC RC K2 (upd2 (upd2 (upd2 (upd2 (upd2 (upd2 (upd2 (upd2 (upd2 (upd2 (upd2 (upd2 (upd2 (upd2 (upd2 I 144 5 (nI 0)) 146 (0) (nI 17)) 147 (0) (nI 0)) 148 (0) (nI 0)) 144 5 (nI 1)) 144 1 (nI 0)) 144 10 (nI 0)) 144 11 ((-1 : Int32))) 144 9 (nI 1)) 149 1 (nI 0)) 149 4 (nI 0)) 144 6 ((-1 : Int32))) 144 6 (nI 0)) 144 7 (nI 17)) 144 8 (nI 0)) 35 [.ref 0, .int (nI 4)] [.int (nI 1)] from ?_)
        refine aw_if_neI (tgt := 40) (1) (by decide +kernel) (by decide) d_S_text_35 (fun _ => ?_) (fun q => absurd q (by decide))
        refine aw_aload_n rfl rfl d_S_text_40 ?_
        refine aw_getr fl_S_12 kc_0 (by decide) rfl rc_0_0 d_S_text_41 ?_
        refine aw_getr fl_S_117 kc_1 (by decide) rfl rc_1_1 d_S_text_44 ?_
        refine aw_iload_n rfl rfl d_S_text_47 ?_
        refine aw_aald (j := 4) kc_3 (vp_in_nI (by decide) (by decide)) (nI_clamp (by decide)) rc_3_4 d_S_text_48 ?_
        refine aw_aload_n rfl rfl d_S_text_49 ?_
        refine aw_getr fl_S_39 kc_0 (by decide) rfl rc_0_5 d_S_text_50 ?_
        refine aw_getr fl_S_121 kc_144 (by decide) rfl rc_144_12 d_S_text_53 ?_
        refine as_callV (as := [.ref 149]) (d' := 13) (q := ("SinglesUp$Law", zT3, 6)) mo_W_copyFrom lk_S_125 kc_36 rfl rfl rfl ⟨by decide, by decide⟩ rfl rfl (by decide) d_S_text_56 (Ss.of (show As l b 13 y_W_copyFrom KC RC _ (upd2 (upd2 (upd2 (upd2 (upd2 (upd2 (upd2 (upd2 (upd2 (upd2 (upd2 (upd2 (upd2 (upd2 (upd2 I 144 5 (nI 0)) 146 (0) (nI 17)) 147 (0) (nI 0)) 148 (0) (nI 0)) 144 5 (nI 1)) 144 1 (nI 0)) 144 10 (nI 0)) 144 11 ((-1 : Int32))) 144 9 (nI 1)) 149 1 (nI 0)) 149 4 (nI 0)) 144 6 ((-1 : Int32))) 144 6 (nI 0)) 144 7 (nI 17)) 144 8 (nI 0)) 0 [.ref 36, .ref 149] [] from ?_))
        refine aw_aload_n rfl rfl d_W_copyFrom_0 ?_
        refine aw_aload_n rfl rfl d_W_copyFrom_1 ?_
        refine aw_geti fl_W_22 kc_149 (by decide) rfl d_W_copyFrom_2 ?_
        refine aw_top (x2 := nI 0) (Eq.trans (congrFun (upd2_ne (by decide)) (1)) (Eq.trans (congrFun (upd2_ne (by decide)) (1)) (Eq.trans (congrFun (upd2_ne (by decide)) (1)) (Eq.trans (congrFun (upd2_ne (by decide)) (1)) (Eq.trans (upd2_nx (by omega)) (upd2_eq)))))) ?_
        refine aw_puti fl_W_22 kc_36 (by decide) rfl rfl rfl rfl d_W_copyFrom_5 ?_
        refine aw_aload_n rfl rfl d_W_copyFrom_8 ?_
        refine aw_aload_n rfl rfl d_W_copyFrom_9 ?_
        refine aw_geti fl_W_26 kc_149 (by decide) rfl d_W_copyFrom_10 ?_
        refine aw_top (x2 := nI 0) (Eq.trans (congrFun (upd2_ne (by decide)) (4)) (Eq.trans (congrFun (upd2_ne (by decide)) (4)) (Eq.trans (congrFun (upd2_ne (by decide)) (4)) (Eq.trans (congrFun (upd2_ne (by decide)) (4)) (Eq.trans (congrFun (upd2_ne (by decide)) (4)) (upd2_eq)))))) ?_
        refine aw_puti fl_W_26 kc_36 (by decide) rfl rfl rfl rfl d_W_copyFrom_13 ?_
        refine aw_aload_n rfl rfl d_W_copyFrom_16 ?_
        refine aw_getr fl_W_9 kc_149 (by decide) rfl rc_149_0 d_W_copyFrom_17 ?_
        refine aw_iconst (v := nI 0) ci_0 d_W_copyFrom_20 ?_
        refine aw_aload_n rfl rfl d_W_copyFrom_21 ?_
        refine aw_getr fl_W_9 kc_36 (by decide) rfl rc_36_0 d_W_copyFrom_22 ?_
        refine aw_iconst (v := nI 0) ci_0 d_W_copyFrom_25 ?_
        refine aw_sipush (v := nI 400) cs_400 d_W_copyFrom_26 ?_
        refine as_copy0 (n := 400) lka_W_29 ac_nat ac_sta ac_ini kc_150 kc_37 (by omega) (by omega) (by omega) (by decide) rfl d_W_copyFrom_29 (fun J51 e52 e53 e54 => ?_)
        refine aw_aload_n rfl rfl d_W_copyFrom_32 ?_
        refine aw_getr fl_W_13 kc_149 (by decide) rfl rc_149_2 d_W_copyFrom_33 ?_
        refine aw_iconst (v := nI 0) ci_0 d_W_copyFrom_36 ?_
        refine aw_aload_n rfl rfl d_W_copyFrom_37 ?_
        refine aw_getr fl_W_13 kc_36 (by decide) rfl rc_36_2 d_W_copyFrom_38 ?_
        refine aw_iconst (v := nI 0) ci_0 d_W_copyFrom_41 ?_
        refine aw_bipush (v := nI 17) cb_17 d_W_copyFrom_42 ?_
        refine as_copy0 (n := 17) lka_W_29 ac_nat ac_sta ac_ini kc_151 kc_38 (by omega) (by omega) (by omega) (by decide) rfl d_W_copyFrom_44 (fun J55 e56 e57 e58 => ?_)
        refine aw_aload_n rfl rfl d_W_copyFrom_47 ?_
        refine aw_getr fl_W_16 kc_149 (by decide) rfl rc_149_3 d_W_copyFrom_48 ?_
        refine aw_iconst (v := nI 0) ci_0 d_W_copyFrom_51 ?_
        refine aw_aload_n rfl rfl d_W_copyFrom_52 ?_
        refine aw_getr fl_W_16 kc_36 (by decide) rfl rc_36_3 d_W_copyFrom_53 ?_
        refine aw_iconst (v := nI 0) ci_0 d_W_copyFrom_56 ?_
        refine aw_bipush (v := nI 16) cb_16 d_W_copyFrom_57 ?_
        refine as_copy0 (n := 16) lka_W_29 ac_nat ac_sta ac_ini kc_152 kc_39 (by omega) (by omega) (by omega) (by decide) rfl d_W_copyFrom_59 (fun J59 e60 e61 e62 => ?_)
        refine as_retv rfl d_W_copyFrom_62 ?_
        refine (show As l b 14 y_S_text KC RC K2 (J59) 59 [.ref 0, .int (nI 4)] [] from ?_)
        refine aw_aload_n rfl rfl d_S_text_59 ?_
        refine aw_getr fl_S_39 kc_0 (by decide) rfl rc_0_5 d_S_text_60 ?_
        refine aw_getr fl_S_121 kc_144 (by decide) rfl rc_144_12 d_S_text_63 ?_
        refine aw_geti fl_S_131 kc_149 (by decide) rfl d_S_text_66 ?_
        refine aw_top (x2 := nI 0) (((congrFun (e60 149 (by decide)) (4)).trans (((congrFun (e56 149 (by decide)) (4)).trans (((congrFun (e52 149 (by decide)) (4)).trans (Eq.trans (congrFun (upd2_ne (by decide)) (4)) (Eq.trans (congrFun (upd2_ne (by decide)) (4)) (Eq.trans (congrFun (upd2_ne (by decide)) (4)) (Eq.trans (congrFun (upd2_ne (by decide)) (4)) (Eq.trans (congrFun (upd2_ne (by decide)) (4)) (Eq.trans (congrFun (upd2_ne (by decide)) (4)) (upd2_eq))))))))))))) ?_
        exact as_reti rfl d_S_text_69 (hg (by omega) _)
    · refine aw_aload_n rfl rfl d_S_text_9 ?_
      refine aw_getr fl_S_39 kc_0 (by decide) rfl rc_0_5 d_S_text_10 ?_
      refine as_callV (as := []) (d' := 13) (q := ("SinglesUp$Reader", zT7, 13)) mo_R_forget lk_S_110 kc_144 rfl rfl rfl ⟨by decide, by decide⟩ rfl rfl (by decide) d_S_text_13 (Ss.of (show As l b 13 y_R_forget KC RC _ (I) 0 [.ref 144] [] from ?_))
      refine aw_aload_n rfl rfl d_R_forget_0 ?_
      refine aw_iconst (v := nI 0) ci_0 d_R_forget_1 ?_
      refine aw_puti fl_R_35 kc_144 (by decide) rfl rfl rfl rfl d_R_forget_2 ?_
      refine aw_aload_n rfl rfl d_R_forget_5 ?_
      refine aw_iconst (v := nI 0) ci_0 d_R_forget_6 ?_
      refine aw_puti fl_R_38 kc_144 (by decide) rfl rfl rfl rfl d_R_forget_7 ?_
      refine aw_aload_n rfl rfl d_R_forget_10 ?_
      refine aw_iconst (v := (-1 : Int32)) rfl d_R_forget_11 ?_
      refine aw_puti fl_R_24 kc_144 (by decide) rfl rfl rfl rfl d_R_forget_12 ?_
      refine as_retv rfl d_R_forget_15 ?_
      refine (show As l b 14 y_S_text KC RC K2 (upd2 (upd2 (upd2 I 144 1 (nI 0)) 144 10 (nI 0)) 144 11 ((-1 : Int32))) 16 [.ref 0, .int (x)] [] from ?_)
      refine aw_iconst (v := (-1 : Int32)) rfl d_S_text_16 ?_
      exact as_reti rfl d_S_text_17 (hb (by omega) _)
set_option maxRecDepth 20000 in
theorem cs_fault {K2 : K2T} {I : Nat → Nat → Int32} (hR : FRc I) {x : Int32} (hg : x.toInt = 0 → ∀ I', K2 (some (.int (nI 0))) I') (hb : ¬ (x.toInt = 0) → ∀ I', K2 (some (.int (-1))) I') : Ss l b 14 y_S_fault KC RC [.ref 0, .int (x)] (I) K2 := by
  obtain ⟨hF, r6, r7, r11, t1, t2, t4, hh, tm, h7, h8, h9, q1, q10, q11, im, p0⟩ := hR
  have hF0 := hF
  obtain ⟨f0, f1, f2, f3, f4, f5, f6, f7, f8, f9, f10, f11, f12, f13, fb⟩ := hF
  have f0 : ∀ j, j < 32 → I 5 j = nI 0 := f0
  have f1 : ∀ j, j < 6 → I 9 j = nI 0 := f1
  have f2 : ∀ j, j < 6 → I 10 j = nI 9 := f2
  have f3 : I 2 0 = nI (4) := f3
  have f4 : I 2 3 = nI 0 := f4
  have f5 : I 2 5 = nI (0) := f5
  have f6 : I 11 1 = nI (0) := f6
  have f7 : I 11 0 = nI (0) := f7
  have f8 : ∀ j, j < 40 → j ≠ 0 → j ≠ 1 → j ≠ 3 → I 11 j = nI 0 := f8
  have f9 : I 16 4 = nI 0 := f9
  have f10 : I 21 4 = nI 0 := f10
  have f11 : I 26 4 = nI 0 := f11
  have f12 : I 31 4 = nI 0 := f12
  have f13 : I 36 4 = nI 0 := f13
  refine Ss.of (show As l b 14 y_S_fault KC RC K2 (I) 0 [.ref 0, .int (x)] [] from ?_)
  refine aw_iload_n rfl rfl d_S_fault_0 ?_
  refine aw_if_neI (tgt := 12) (x).toInt rfl (by decide) d_S_fault_1 (fun c1 => ?_) (fun c1 => ?_)
  · refine aw_iload_n rfl rfl d_S_fault_12 ?_
    refine aw_iconst (v := nI 1) ci_1 d_S_fault_13 ?_
    refine aw_icmp_neI (tgt := 27) (x).toInt (1) rfl (by decide +kernel) (by decide) d_S_fault_14 (fun c2 => ?_) (fun c2 => ?_)
    · refine aw_iconst (v := (-1 : Int32)) rfl d_S_fault_27 ?_
      exact as_reti rfl d_S_fault_28 (hb (by omega) _)
    · refine aw_aload_n rfl rfl d_S_fault_17 ?_
      refine aw_getr fl_S_39 kc_0 (by decide) rfl rc_0_5 d_S_fault_18 ?_
      refine aw_geti fl_S_136 kc_144 (by decide) rfl d_S_fault_21 ?_
      refine aw_top (x2 := (-1 : Int32)) (q11) ?_
      refine aw_goto (tgt := 28) (by decide) d_S_fault_24 ?_
      exact as_reti rfl d_S_fault_28 (hb (by omega) _)
  · refine aw_aload_n rfl rfl d_S_fault_4 ?_
    refine aw_getr fl_S_39 kc_0 (by decide) rfl rc_0_5 d_S_fault_5 ?_
    refine aw_geti fl_S_133 kc_144 (by decide) rfl d_S_fault_8 ?_
    refine aw_top (x2 := nI 0) (q10) ?_
    exact as_reti rfl d_S_fault_11 (hg (by omega) _)
set_option maxRecDepth 20000 in
theorem cs_come {K2 : K2T} {I : Nat → Nat → Int32} (hR : FRc I) {x z u : Int32} (hg : 1 ≤ x.toInt ∧ x.toInt ≤ 8 ∧ 1 ≤ z.toInt ∧ z.toInt ≤ x.toInt ∧ 0 ≤ u.toInt ∧ u.toInt ≤ 3 → ∀ I', K2 (some (.int (nI 0))) I') (hb : ¬ (1 ≤ x.toInt ∧ x.toInt ≤ 8 ∧ 1 ≤ z.toInt ∧ z.toInt ≤ x.toInt ∧ 0 ≤ u.toInt ∧ u.toInt ≤ 3) → ∀ I', K2 (some (.int (-2))) I') : Ss l b 14 y_S_come KC RC [.ref 0, .int (x), .int (z), .int (u)] (I) K2 := by
  obtain ⟨hF, r6, r7, r11, t1, t2, t4, hh, tm, h7, h8, h9, q1, q10, q11, im, p0⟩ := hR
  have hF0 := hF
  obtain ⟨f0, f1, f2, f3, f4, f5, f6, f7, f8, f9, f10, f11, f12, f13, fb⟩ := hF
  have f0 : ∀ j, j < 32 → I 5 j = nI 0 := f0
  have f1 : ∀ j, j < 6 → I 9 j = nI 0 := f1
  have f2 : ∀ j, j < 6 → I 10 j = nI 9 := f2
  have f3 : I 2 0 = nI (4) := f3
  have f4 : I 2 3 = nI 0 := f4
  have f5 : I 2 5 = nI (0) := f5
  have f6 : I 11 1 = nI (0) := f6
  have f7 : I 11 0 = nI (0) := f7
  have f8 : ∀ j, j < 40 → j ≠ 0 → j ≠ 1 → j ≠ 3 → I 11 j = nI 0 := f8
  have f9 : I 16 4 = nI 0 := f9
  have f10 : I 21 4 = nI 0 := f10
  have f11 : I 26 4 = nI 0 := f11
  have f12 : I 31 4 = nI 0 := f12
  have f13 : I 36 4 = nI 0 := f13
  refine Ss.of (show As l b 14 y_S_come KC RC K2 (I) 0 [.ref 0, .int (x), .int (z), .int (u)] [] from ?_)
  refine aw_iload_n rfl rfl d_S_come_0 ?_
  refine aw_iload_n rfl rfl d_S_come_1 ?_
  refine aw_iload_n rfl rfl d_S_come_2 ?_
  refine as_callS (as := [.int (x), .int (z), .int (u)]) (d' := 1) mo_S_canBe lk_S_89 rfl ⟨by decide, by decide⟩ rfl rfl (by decide) d_S_come_3 (sp_canBe (I := I) (x := x) (z := z) (u := u) (X := (x).toInt) (Z := (z).toInt) (U := (u).toInt) rfl rfl rfl (fun c1 => ?_) (fun c2 => ?_))
  · refine (show As l b 14 y_S_come KC RC K2 (I) 6 [.ref 0, .int (x), .int (z), .int (u)] [.int (nI 1)] from ?_)
    refine aw_if_eqI (tgt := 22) (1) (by decide +kernel) (by decide) d_S_come_6 (fun q => absurd q (by decide)) (fun _ => ?_)
    refine aw_aload_n rfl rfl d_S_come_9 ?_
    refine aw_getr fl_S_12 kc_0 (by decide) rfl rc_0_0 d_S_come_10 ?_
    refine aw_iload_n rfl rfl d_S_come_13 ?_
    refine aw_iload_n rfl rfl d_S_come_14 ?_
    refine aw_iload_n rfl rfl d_S_come_15 ?_
    refine as_callV (as := [.int (x), .int (z), .int (u)]) (d' := 13) (q := ("SinglesUp$Hill", zT2, 14)) mo_H_enter lk_S_139 kc_1 rfl rfl rfl ⟨by decide, by decide⟩ rfl rfl (by decide) d_S_come_16 (Ss.of (show As l b 13 y_H_enter KC RC _ (I) 0 [.ref 1, .int (x), .int (z), .int (u), uu] [] from ?_))
    refine aw_aload_n rfl rfl d_H_enter_0 ?_
    refine aw_getr fl_H_53 kc_1 (by decide) rfl rc_1_13 d_H_enter_1 ?_
    refine aw_iconst (v := nI 0) ci_0 d_H_enter_4 ?_
    refine aw_aload_n rfl rfl d_H_enter_5 ?_
    refine aw_geti fl_H_73 kc_1 (by decide) rfl d_H_enter_6 ?_
    refine aw_top (x2 := nI 0) (r7) ?_
    refine aw_iast (j := 0) kc_15 (vp_in_nI (by decide) (by decide)) (nI_clamp (by decide)) d_H_enter_9 ?_
    refine aw_aload_n rfl rfl d_H_enter_10 ?_
    refine aw_getr fl_H_53 kc_1 (by decide) rfl rc_1_13 d_H_enter_11 ?_
    refine aw_iconst (v := nI 1) ci_1 d_H_enter_14 ?_
    refine aw_iload_n rfl rfl d_H_enter_15 ?_
    refine aw_iast (j := 1) kc_15 (vp_in_nI (by decide) (by decide)) (nI_clamp (by decide)) d_H_enter_16 ?_
    refine aw_aload_n rfl rfl d_H_enter_17 ?_
    refine aw_getr fl_H_53 kc_1 (by decide) rfl rc_1_13 d_H_enter_18 ?_
    refine aw_iconst (v := nI 2) ci_2 d_H_enter_21 ?_
    refine aw_iload_n rfl rfl d_H_enter_22 ?_
    refine aw_iast (j := 2) kc_15 (vp_in_nI (by decide) (by decide)) (nI_clamp (by decide)) d_H_enter_23 ?_
    refine aw_aload_n rfl rfl d_H_enter_24 ?_
    refine aw_getr fl_H_53 kc_1 (by decide) rfl rc_1_13 d_H_enter_25 ?_
    refine aw_iconst (v := nI 3) ci_3 d_H_enter_28 ?_
    refine aw_iload_n rfl rfl d_H_enter_29 ?_
    refine aw_iast (j := 3) kc_15 (vp_in_nI (by decide) (by decide)) (nI_clamp (by decide)) d_H_enter_30 ?_
    refine aw_aload_n rfl rfl d_H_enter_31 ?_
    refine aw_dup rfl d_H_enter_32 ?_
    refine aw_geti fl_H_73 kc_1 (by decide) rfl d_H_enter_33 ?_
    refine aw_top (x2 := nI 0) (Eq.trans (congrFun (upd2_ne (by decide)) (7)) (Eq.trans (congrFun (upd2_ne (by decide)) (7)) (Eq.trans (congrFun (upd2_ne (by decide)) (7)) (Eq.trans (congrFun (upd2_ne (by decide)) (7)) (r7))))) ?_
    refine aw_iconst (v := nI 1) ci_1 d_H_enter_36 ?_
    refine aw_iadd d_H_enter_37 ?_
    refine aw_top (x2 := nI 1) (by decide +kernel) ?_
    refine aw_puti fl_H_73 kc_1 (by decide) rfl rfl rfl rfl d_H_enter_38 ?_
    refine aw_aload_n rfl rfl d_H_enter_41 ?_
    refine aw_iload_n rfl rfl d_H_enter_42 ?_
    refine aw_iload_n rfl rfl d_H_enter_43 ?_
    refine as_callV (as := [.int (z), .int (u)]) (d' := 12) (q := ("SinglesUp$Hill", zT2, 14)) mo_H_lineFor lk_H_86 kc_1 rfl rfl rfl ⟨by decide, by decide⟩ rfl rfl (by decide) d_H_enter_44 (Ss.of (show As l b 12 y_H_lineFor KC RC _ (upd2 (upd2 (upd2 (upd2 (upd2 I 15 (0) (nI 0)) 15 (1) (x)) 15 (2) (z)) 15 (3) (u)) 1 7 (nI 1)) 0 [.ref 1, .int (z), .int (u)] [] from ?_))
    refine aw_aload_n rfl rfl d_H_lineFor_0 ?_
    refine aw_geti fl_H_46 kc_1 (by decide) rfl d_H_lineFor_1 ?_
    refine aw_top (x2 := (-1 : Int32)) (Eq.trans (upd2_nx (by omega)) (Eq.trans (congrFun (upd2_ne (by decide)) (11)) (Eq.trans (congrFun (upd2_ne (by decide)) (11)) (Eq.trans (congrFun (upd2_ne (by decide)) (11)) (Eq.trans (congrFun (upd2_ne (by decide)) (11)) (r11)))))) ?_
    refine aw_iconst (v := (-1 : Int32)) rfl d_H_lineFor_4 ?_
    refine aw_icmp_eqI (tgt := 28) (-1) (-1) (by decide +kernel) (by decide +kernel) (by decide) d_H_lineFor_5 (fun _ => ?_) (fun q => absurd q (by decide))
    refine aw_aload_n rfl rfl d_H_lineFor_28 ?_
    refine aw_getr fl_H_50 kc_1 (by decide) rfl rc_1_12 d_H_lineFor_29 ?_
    refine aw_bipush (v := nI 7) cb_7 d_H_lineFor_32 ?_
    refine aw_iload_n rfl rfl d_H_lineFor_34 ?_
    refine aw_iast (j := 7) kc_14 (vp_in_nI (by decide) (by decide)) (nI_clamp (by decide)) d_H_lineFor_35 ?_
    refine aw_aload_n rfl rfl d_H_lineFor_36 ?_
    refine aw_getr fl_H_50 kc_1 (by decide) rfl rc_1_12 d_H_lineFor_37 ?_
    refine aw_bipush (v := nI 8) cb_8 d_H_lineFor_40 ?_
    refine aw_iload_n rfl rfl d_H_lineFor_42 ?_
    refine aw_iast (j := 8) kc_14 (vp_in_nI (by decide) (by decide)) (nI_clamp (by decide)) d_H_lineFor_43 ?_
    refine aw_aload_n rfl rfl d_H_lineFor_44 ?_
    refine aw_getr fl_H_50 kc_1 (by decide) rfl rc_1_12 d_H_lineFor_45 ?_
    refine aw_iconst (v := nI 5) ci_5 d_H_lineFor_48 ?_
    refine aw_aload_n rfl rfl d_H_lineFor_49 ?_
    refine aw_getr fl_H_33 kc_1 (by decide) rfl rc_1_5 d_H_lineFor_50 ?_
    refine as_callV (as := []) (d' := 11) (q := ("SinglesUp$Lines", zT4, 3)) mo_L_shortest lk_H_94 kc_7 rfl rfl rfl ⟨by decide, by decide⟩ rfl rfl (by decide) d_H_lineFor_53 (Ss.of (show As l b 11 y_L_shortest KC RC _ (upd2 (upd2 (upd2 (upd2 (upd2 (upd2 (upd2 I 15 (0) (nI 0)) 15 (1) (x)) 15 (2) (z)) 15 (3) (u)) 1 7 (nI 1)) 14 (7) (z)) 14 (8) (u)) 0 [.ref 7, uu, uu] [] from ?_))
    refine aw_iconst (v := nI 0) ci_0 d_L_shortest_0 ?_
    refine aw_istore_n (lv2 := [.ref 7, .int (nI 0), uu]) rfl (by decide) rfl d_L_shortest_1 ?_
    refine aw_iconst (v := nI 1) ci_1 d_L_shortest_2 ?_
    refine aw_istore_n (lv2 := [.ref 7, .int (nI 0), .int (nI 1)]) rfl (by decide) rfl d_L_shortest_3 ?_
    refine aw_iload_n rfl rfl d_L_shortest_4 ?_
    refine aw_bipush (v := nI 6) cb_6 d_L_shortest_5 ?_
    refine aw_icmp_geI (tgt := 33) (1) (6) (by decide +kernel) (by decide +kernel) (by decide) d_L_shortest_7 (fun q => absurd q (by decide)) (fun _ => ?_)
    refine aw_aload_n rfl rfl d_L_shortest_10 ?_
    refine aw_getr fl_L_15 kc_7 (by decide) rfl rc_7_1 d_L_shortest_11 ?_
    refine aw_iload_n rfl rfl d_L_shortest_14 ?_
    refine aw_iald (j := 1) kc_9 (vp_in_nI (by decide) (by decide)) (nI_clamp (by decide)) d_L_shortest_15 ?_
    refine aw_top (x2 := nI 0) (Eq.trans (congrFun (upd2_ne (by decide)) (1)) (Eq.trans (congrFun (upd2_ne (by decide)) (1)) (Eq.trans (congrFun (upd2_ne (by decide)) (1)) (Eq.trans (congrFun (upd2_ne (by decide)) (1)) (Eq.trans (congrFun (upd2_ne (by decide)) (1)) (Eq.trans (congrFun (upd2_ne (by decide)) (1)) (Eq.trans (congrFun (upd2_ne (by decide)) (1)) (f1 (1) (by omega))))))))) ?_
    refine aw_aload_n rfl rfl d_L_shortest_16 ?_
    refine aw_getr fl_L_15 kc_7 (by decide) rfl rc_7_1 d_L_shortest_17 ?_
    refine aw_iload_n rfl rfl d_L_shortest_20 ?_
    refine aw_iald (j := 0) kc_9 (vp_in_nI (by decide) (by decide)) (nI_clamp (by decide)) d_L_shortest_21 ?_
    refine aw_top (x2 := nI 0) (Eq.trans (congrFun (upd2_ne (by decide)) (0)) (Eq.trans (congrFun (upd2_ne (by decide)) (0)) (Eq.trans (congrFun (upd2_ne (by decide)) (0)) (Eq.trans (congrFun (upd2_ne (by decide)) (0)) (Eq.trans (congrFun (upd2_ne (by decide)) (0)) (Eq.trans (congrFun (upd2_ne (by decide)) (0)) (Eq.trans (congrFun (upd2_ne (by decide)) (0)) (f1 (0) (by omega))))))))) ?_
    refine aw_icmp_geI (tgt := 27) (0) (0) (by decide +kernel) (by decide +kernel) (by decide) d_L_shortest_22 (fun _ => ?_) (fun q => absurd q (by decide))
    refine aw_iinc (v := nI 2) (lv2 := [.ref 7, .int (nI 0), .int (nI 2)]) rfl (by decide +kernel) (by decide) rfl d_L_shortest_27 ?_
    refine aw_goto (tgt := 4) (by decide) d_L_shortest_30 ?_
    refine aw_iload_n rfl rfl d_L_shortest_4 ?_
    refine aw_bipush (v := nI 6) cb_6 d_L_shortest_5 ?_
    refine aw_icmp_geI (tgt := 33) (2) (6) (by decide +kernel) (by decide +kernel) (by decide) d_L_shortest_7 (fun q => absurd q (by decide)) (fun _ => ?_)
    refine aw_aload_n rfl rfl d_L_shortest_10 ?_
    refine aw_getr fl_L_15 kc_7 (by decide) rfl rc_7_1 d_L_shortest_11 ?_
    refine aw_iload_n rfl rfl d_L_shortest_14 ?_
    refine aw_iald (j := 2) kc_9 (vp_in_nI (by decide) (by decide)) (nI_clamp (by decide)) d_L_shortest_15 ?_
    refine aw_top (x2 := nI 0) (Eq.trans (congrFun (upd2_ne (by decide)) (2)) (Eq.trans (congrFun (upd2_ne (by decide)) (2)) (Eq.trans (congrFun (upd2_ne (by decide)) (2)) (Eq.trans (congrFun (upd2_ne (by decide)) (2)) (Eq.trans (congrFun (upd2_ne (by decide)) (2)) (Eq.trans (congrFun (upd2_ne (by decide)) (2)) (Eq.trans (congrFun (upd2_ne (by decide)) (2)) (f1 (2) (by omega))))))))) ?_
    refine aw_aload_n rfl rfl d_L_shortest_16 ?_
    refine aw_getr fl_L_15 kc_7 (by decide) rfl rc_7_1 d_L_shortest_17 ?_
    refine aw_iload_n rfl rfl d_L_shortest_20 ?_
    refine aw_iald (j := 0) kc_9 (vp_in_nI (by decide) (by decide)) (nI_clamp (by decide)) d_L_shortest_21 ?_
    refine aw_top (x2 := nI 0) (Eq.trans (congrFun (upd2_ne (by decide)) (0)) (Eq.trans (congrFun (upd2_ne (by decide)) (0)) (Eq.trans (congrFun (upd2_ne (by decide)) (0)) (Eq.trans (congrFun (upd2_ne (by decide)) (0)) (Eq.trans (congrFun (upd2_ne (by decide)) (0)) (Eq.trans (congrFun (upd2_ne (by decide)) (0)) (Eq.trans (congrFun (upd2_ne (by decide)) (0)) (f1 (0) (by omega))))))))) ?_
    refine aw_icmp_geI (tgt := 27) (0) (0) (by decide +kernel) (by decide +kernel) (by decide) d_L_shortest_22 (fun _ => ?_) (fun q => absurd q (by decide))
    refine aw_iinc (v := nI 3) (lv2 := [.ref 7, .int (nI 0), .int (nI 3)]) rfl (by decide +kernel) (by decide) rfl d_L_shortest_27 ?_
    refine aw_goto (tgt := 4) (by decide) d_L_shortest_30 ?_
    refine aw_iload_n rfl rfl d_L_shortest_4 ?_
    refine aw_bipush (v := nI 6) cb_6 d_L_shortest_5 ?_
    refine aw_icmp_geI (tgt := 33) (3) (6) (by decide +kernel) (by decide +kernel) (by decide) d_L_shortest_7 (fun q => absurd q (by decide)) (fun _ => ?_)
    refine aw_aload_n rfl rfl d_L_shortest_10 ?_
    refine aw_getr fl_L_15 kc_7 (by decide) rfl rc_7_1 d_L_shortest_11 ?_
    refine aw_iload_n rfl rfl d_L_shortest_14 ?_
    refine aw_iald (j := 3) kc_9 (vp_in_nI (by decide) (by decide)) (nI_clamp (by decide)) d_L_shortest_15 ?_
    refine aw_top (x2 := nI 0) (Eq.trans (congrFun (upd2_ne (by decide)) (3)) (Eq.trans (congrFun (upd2_ne (by decide)) (3)) (Eq.trans (congrFun (upd2_ne (by decide)) (3)) (Eq.trans (congrFun (upd2_ne (by decide)) (3)) (Eq.trans (congrFun (upd2_ne (by decide)) (3)) (Eq.trans (congrFun (upd2_ne (by decide)) (3)) (Eq.trans (congrFun (upd2_ne (by decide)) (3)) (f1 (3) (by omega))))))))) ?_
    refine aw_aload_n rfl rfl d_L_shortest_16 ?_
    refine aw_getr fl_L_15 kc_7 (by decide) rfl rc_7_1 d_L_shortest_17 ?_
    refine aw_iload_n rfl rfl d_L_shortest_20 ?_
    refine aw_iald (j := 0) kc_9 (vp_in_nI (by decide) (by decide)) (nI_clamp (by decide)) d_L_shortest_21 ?_
    refine aw_top (x2 := nI 0) (Eq.trans (congrFun (upd2_ne (by decide)) (0)) (Eq.trans (congrFun (upd2_ne (by decide)) (0)) (Eq.trans (congrFun (upd2_ne (by decide)) (0)) (Eq.trans (congrFun (upd2_ne (by decide)) (0)) (Eq.trans (congrFun (upd2_ne (by decide)) (0)) (Eq.trans (congrFun (upd2_ne (by decide)) (0)) (Eq.trans (congrFun (upd2_ne (by decide)) (0)) (f1 (0) (by omega))))))))) ?_
    refine aw_icmp_geI (tgt := 27) (0) (0) (by decide +kernel) (by decide +kernel) (by decide) d_L_shortest_22 (fun _ => ?_) (fun q => absurd q (by decide))
    refine aw_iinc (v := nI 4) (lv2 := [.ref 7, .int (nI 0), .int (nI 4)]) rfl (by decide +kernel) (by decide) rfl d_L_shortest_27 ?_
    refine aw_goto (tgt := 4) (by decide) d_L_shortest_30 ?_
    refine aw_iload_n rfl rfl d_L_shortest_4 ?_
    refine aw_bipush (v := nI 6) cb_6 d_L_shortest_5 ?_
    refine aw_icmp_geI (tgt := 33) (4) (6) (by decide +kernel) (by decide +kernel) (by decide) d_L_shortest_7 (fun q => absurd q (by decide)) (fun _ => ?_)
    refine aw_aload_n rfl rfl d_L_shortest_10 ?_
    refine aw_getr fl_L_15 kc_7 (by decide) rfl rc_7_1 d_L_shortest_11 ?_
    refine aw_iload_n rfl rfl d_L_shortest_14 ?_
    refine aw_iald (j := 4) kc_9 (vp_in_nI (by decide) (by decide)) (nI_clamp (by decide)) d_L_shortest_15 ?_
    refine aw_top (x2 := nI 0) (Eq.trans (congrFun (upd2_ne (by decide)) (4)) (Eq.trans (congrFun (upd2_ne (by decide)) (4)) (Eq.trans (congrFun (upd2_ne (by decide)) (4)) (Eq.trans (congrFun (upd2_ne (by decide)) (4)) (Eq.trans (congrFun (upd2_ne (by decide)) (4)) (Eq.trans (congrFun (upd2_ne (by decide)) (4)) (Eq.trans (congrFun (upd2_ne (by decide)) (4)) (f1 (4) (by omega))))))))) ?_
    refine aw_aload_n rfl rfl d_L_shortest_16 ?_
    refine aw_getr fl_L_15 kc_7 (by decide) rfl rc_7_1 d_L_shortest_17 ?_
    refine aw_iload_n rfl rfl d_L_shortest_20 ?_
    refine aw_iald (j := 0) kc_9 (vp_in_nI (by decide) (by decide)) (nI_clamp (by decide)) d_L_shortest_21 ?_
    refine aw_top (x2 := nI 0) (Eq.trans (congrFun (upd2_ne (by decide)) (0)) (Eq.trans (congrFun (upd2_ne (by decide)) (0)) (Eq.trans (congrFun (upd2_ne (by decide)) (0)) (Eq.trans (congrFun (upd2_ne (by decide)) (0)) (Eq.trans (congrFun (upd2_ne (by decide)) (0)) (Eq.trans (congrFun (upd2_ne (by decide)) (0)) (Eq.trans (congrFun (upd2_ne (by decide)) (0)) (f1 (0) (by omega))))))))) ?_
    refine aw_icmp_geI (tgt := 27) (0) (0) (by decide +kernel) (by decide +kernel) (by decide) d_L_shortest_22 (fun _ => ?_) (fun q => absurd q (by decide))
    refine aw_iinc (v := nI 5) (lv2 := [.ref 7, .int (nI 0), .int (nI 5)]) rfl (by decide +kernel) (by decide) rfl d_L_shortest_27 ?_
    refine aw_goto (tgt := 4) (by decide) d_L_shortest_30 ?_
    refine aw_iload_n rfl rfl d_L_shortest_4 ?_
    refine aw_bipush (v := nI 6) cb_6 d_L_shortest_5 ?_
    refine aw_icmp_geI (tgt := 33) (5) (6) (by decide +kernel) (by decide +kernel) (by decide) d_L_shortest_7 (fun q => absurd q (by decide)) (fun _ => ?_)
    refine aw_aload_n rfl rfl d_L_shortest_10 ?_
    refine aw_getr fl_L_15 kc_7 (by decide) rfl rc_7_1 d_L_shortest_11 ?_
    refine aw_iload_n rfl rfl d_L_shortest_14 ?_
    refine aw_iald (j := 5) kc_9 (vp_in_nI (by decide) (by decide)) (nI_clamp (by decide)) d_L_shortest_15 ?_
    refine aw_top (x2 := nI 0) (Eq.trans (congrFun (upd2_ne (by decide)) (5)) (Eq.trans (congrFun (upd2_ne (by decide)) (5)) (Eq.trans (congrFun (upd2_ne (by decide)) (5)) (Eq.trans (congrFun (upd2_ne (by decide)) (5)) (Eq.trans (congrFun (upd2_ne (by decide)) (5)) (Eq.trans (congrFun (upd2_ne (by decide)) (5)) (Eq.trans (congrFun (upd2_ne (by decide)) (5)) (f1 (5) (by omega))))))))) ?_
    refine aw_aload_n rfl rfl d_L_shortest_16 ?_
    refine aw_getr fl_L_15 kc_7 (by decide) rfl rc_7_1 d_L_shortest_17 ?_
    refine aw_iload_n rfl rfl d_L_shortest_20 ?_
    refine aw_iald (j := 0) kc_9 (vp_in_nI (by decide) (by decide)) (nI_clamp (by decide)) d_L_shortest_21 ?_
    refine aw_top (x2 := nI 0) (Eq.trans (congrFun (upd2_ne (by decide)) (0)) (Eq.trans (congrFun (upd2_ne (by decide)) (0)) (Eq.trans (congrFun (upd2_ne (by decide)) (0)) (Eq.trans (congrFun (upd2_ne (by decide)) (0)) (Eq.trans (congrFun (upd2_ne (by decide)) (0)) (Eq.trans (congrFun (upd2_ne (by decide)) (0)) (Eq.trans (congrFun (upd2_ne (by decide)) (0)) (f1 (0) (by omega))))))))) ?_
    refine aw_icmp_geI (tgt := 27) (0) (0) (by decide +kernel) (by decide +kernel) (by decide) d_L_shortest_22 (fun _ => ?_) (fun q => absurd q (by decide))
    refine aw_iinc (v := nI 6) (lv2 := [.ref 7, .int (nI 0), .int (nI 6)]) rfl (by decide +kernel) (by decide) rfl d_L_shortest_27 ?_
    refine aw_goto (tgt := 4) (by decide) d_L_shortest_30 ?_
    refine aw_iload_n rfl rfl d_L_shortest_4 ?_
    refine aw_bipush (v := nI 6) cb_6 d_L_shortest_5 ?_
    refine aw_icmp_geI (tgt := 33) (6) (6) (by decide +kernel) (by decide +kernel) (by decide) d_L_shortest_7 (fun _ => ?_) (fun q => absurd q (by decide))
    refine aw_iload_n rfl rfl d_L_shortest_33 ?_
    refine as_reti rfl d_L_shortest_34 ?_
    refine (show As l b 12 y_H_lineFor KC RC _ (upd2 (upd2 (upd2 (upd2 (upd2 (upd2 (upd2 I 15 (0) (nI 0)) 15 (1) (x)) 15 (2) (z)) 15 (3) (u)) 1 7 (nI 1)) 14 (7) (z)) 14 (8) (u)) 56 [.ref 1, .int (z), .int (u)] [.int (nI 0), .int (nI 5), .ref 14] from ?_)
    refine aw_iast (j := 5) kc_14 (vp_in_nI (by decide) (by decide)) (nI_clamp (by decide)) d_H_lineFor_56 ?_
    refine aw_aload_n rfl rfl d_H_lineFor_57 ?_
    refine aw_getr fl_H_50 kc_1 (by decide) rfl rc_1_12 d_H_lineFor_58 ?_
    refine aw_bipush (v := nI 6) cb_6 d_H_lineFor_61 ?_
    refine aw_aload_n rfl rfl d_H_lineFor_63 ?_
    refine aw_getr fl_H_33 kc_1 (by decide) rfl rc_1_5 d_H_lineFor_64 ?_
    refine aw_getr fl_H_98 kc_7 (by decide) rfl rc_7_1 d_H_lineFor_67 ?_
    refine aw_iconst (v := nI 0) ci_0 d_H_lineFor_70 ?_
    refine aw_iald (j := 0) kc_9 (vp_in_nI (by decide) (by decide)) (nI_clamp (by decide)) d_H_lineFor_71 ?_
    refine aw_top (x2 := nI 0) (Eq.trans (congrFun (upd2_ne (by decide)) (0)) (Eq.trans (congrFun (upd2_ne (by decide)) (0)) (Eq.trans (congrFun (upd2_ne (by decide)) (0)) (Eq.trans (congrFun (upd2_ne (by decide)) (0)) (Eq.trans (congrFun (upd2_ne (by decide)) (0)) (Eq.trans (congrFun (upd2_ne (by decide)) (0)) (Eq.trans (congrFun (upd2_ne (by decide)) (0)) (Eq.trans (congrFun (upd2_ne (by decide)) (0)) (f1 (0) (by omega)))))))))) ?_
    refine aw_iast (j := 6) kc_14 (vp_in_nI (by decide) (by decide)) (nI_clamp (by decide)) d_H_lineFor_72 ?_
    refine aw_aload_n rfl rfl d_H_lineFor_73 ?_
    refine aw_getr fl_H_17 kc_1 (by decide) rfl rc_1_1 d_H_lineFor_74 ?_
    refine aw_iconst (v := nI 4) ci_4 d_H_lineFor_77 ?_
    refine aw_aald (j := 4) kc_3 (vp_in_nI (by decide) (by decide)) (nI_clamp (by decide)) rc_3_4 d_H_lineFor_78 ?_
    refine aw_aload_n rfl rfl d_H_lineFor_79 ?_
    refine aw_getr fl_H_50 kc_1 (by decide) rfl rc_1_12 d_H_lineFor_80 ?_
    refine as_callV (as := [.ref 14]) (d' := 11) (q := ("SinglesUp$Law", zT3, 6)) mo_W_value lk_H_101 kc_36 rfl rfl rfl ⟨by decide, by decide⟩ rfl rfl (by decide) d_H_lineFor_83 (Ss.of (show As l b 11 y_W_value KC RC _ (upd2 (upd2 (upd2 (upd2 (upd2 (upd2 (upd2 (upd2 (upd2 I 15 (0) (nI 0)) 15 (1) (x)) 15 (2) (z)) 15 (3) (u)) 1 7 (nI 1)) 14 (7) (z)) 14 (8) (u)) 14 (5) (nI 0)) 14 (6) (nI 0)) 0 [.ref 36, .ref 14, uu, uu, uu] [] from ?_))
    refine aw_iconst (v := nI 0) ci_0 d_W_value_0 ?_
    refine aw_istore_n (lv2 := [.ref 36, .ref 14, .int (nI 0), uu, uu]) rfl (by decide) rfl d_W_value_1 ?_
    refine aw_iload_n rfl rfl d_W_value_2 ?_
    refine aw_aload_n rfl rfl d_W_value_3 ?_
    refine aw_geti fl_W_26 kc_36 (by decide) rfl d_W_value_4 ?_
    refine aw_top (x2 := nI 0) (Eq.trans (congrFun (upd2_ne (by decide)) (4)) (Eq.trans (congrFun (upd2_ne (by decide)) (4)) (Eq.trans (congrFun (upd2_ne (by decide)) (4)) (Eq.trans (congrFun (upd2_ne (by decide)) (4)) (Eq.trans (congrFun (upd2_ne (by decide)) (4)) (Eq.trans (congrFun (upd2_ne (by decide)) (4)) (Eq.trans (congrFun (upd2_ne (by decide)) (4)) (Eq.trans (congrFun (upd2_ne (by decide)) (4)) (Eq.trans (congrFun (upd2_ne (by decide)) (4)) (f13)))))))))) ?_
    refine aw_icmp_geI (tgt := 69) (0) (0) (by decide +kernel) (by decide +kernel) (by decide) d_W_value_7 (fun _ => ?_) (fun q => absurd q (by decide))
    refine aw_iconst (v := nI 0) ci_0 d_W_value_69 ?_
    refine as_reti rfl d_W_value_70 ?_
    refine (show As l b 12 y_H_lineFor KC RC _ (upd2 (upd2 (upd2 (upd2 (upd2 (upd2 (upd2 (upd2 (upd2 I 15 (0) (nI 0)) 15 (1) (x)) 15 (2) (z)) 15 (3) (u)) 1 7 (nI 1)) 14 (7) (z)) 14 (8) (u)) 14 (5) (nI 0)) 14 (6) (nI 0)) 86 [.ref 1, .int (z), .int (u)] [.int (nI 0)] from ?_)
    refine as_reti rfl d_H_lineFor_86 ?_
    refine (show As l b 13 y_H_enter KC RC _ (upd2 (upd2 (upd2 (upd2 (upd2 (upd2 (upd2 (upd2 (upd2 I 15 (0) (nI 0)) 15 (1) (x)) 15 (2) (z)) 15 (3) (u)) 1 7 (nI 1)) 14 (7) (z)) 14 (8) (u)) 14 (5) (nI 0)) 14 (6) (nI 0)) 47 [.ref 1, .int (x), .int (z), .int (u), uu] [.int (nI 0)] from ?_)
    refine aw_istore (lv2 := [.ref 1, .int (x), .int (z), .int (u), .int (nI 0)]) (by decide) rfl d_H_enter_47 ?_
    refine aw_aload_n rfl rfl d_H_enter_49 ?_
    refine aw_getr fl_H_33 kc_1 (by decide) rfl rc_1_5 d_H_enter_50 ?_
    refine aw_iload rfl d_H_enter_53 ?_
    refine aw_aload_n rfl rfl d_H_enter_55 ?_
    refine aw_getr fl_H_53 kc_1 (by decide) rfl rc_1_13 d_H_enter_56 ?_
    refine aw_iconst (v := nI 0) ci_0 d_H_enter_59 ?_
    refine as_callV (as := [.int (nI 0), .ref 15, .int (nI 0)]) (d' := 12) (q := ("SinglesUp$Lines", zT4, 3)) mo_L_append lk_H_90 kc_7 rfl rfl rfl ⟨by decide, by decide⟩ rfl rfl (by decide) d_H_enter_60 (Ss.of (show As l b 12 y_L_append KC RC _ (upd2 (upd2 (upd2 (upd2 (upd2 (upd2 (upd2 (upd2 (upd2 I 15 (0) (nI 0)) 15 (1) (x)) 15 (2) (z)) 15 (3) (u)) 1 7 (nI 1)) 14 (7) (z)) 14 (8) (u)) 14 (5) (nI 0)) 14 (6) (nI 0)) 0 [.ref 7, .int (nI 0), .ref 15, .int (nI 0), uu] [] from ?_))
    refine aw_iload_n rfl rfl d_L_append_0 ?_
    refine as_callS (as := [.int (nI 0)]) (d' := 11) mo_S_isLine lk_L_33 rfl ⟨by decide, by decide⟩ rfl rfl (by decide) d_L_append_1 (Ss.of (show As l b 11 y_S_isLine KC RC _ (upd2 (upd2 (upd2 (upd2 (upd2 (upd2 (upd2 (upd2 (upd2 I 15 (0) (nI 0)) 15 (1) (x)) 15 (2) (z)) 15 (3) (u)) 1 7 (nI 1)) 14 (7) (z)) 14 (8) (u)) 14 (5) (nI 0)) 14 (6) (nI 0)) 0 [.int (nI 0)] [] from ?_))
    refine aw_iload_n rfl rfl d_S_isLine_0 ?_
    refine aw_if_ltI (tgt := 14) (0) (by decide +kernel) (by decide) d_S_isLine_1 (fun q => absurd q (by decide)) (fun _ => ?_)
    refine aw_iload_n rfl rfl d_S_isLine_4 ?_
    refine aw_bipush (v := nI 6) cb_6 d_S_isLine_5 ?_
    refine aw_icmp_geI (tgt := 14) (0) (6) (by decide +kernel) (by decide +kernel) (by decide) d_S_isLine_7 (fun q => absurd q (by decide)) (fun _ => ?_)
    refine aw_iconst (v := nI 1) ci_1 d_S_isLine_10 ?_
    refine aw_goto (tgt := 15) (by decide) d_S_isLine_11 ?_
    refine as_retz rfl (by decide +kernel) d_S_isLine_15 ?_
    refine (show As l b 12 y_L_append KC RC _ (upd2 (upd2 (upd2 (upd2 (upd2 (upd2 (upd2 (upd2 (upd2 I 15 (0) (nI 0)) 15 (1) (x)) 15 (2) (z)) 15 (3) (u)) 1 7 (nI 1)) 14 (7) (z)) 14 (8) (u)) 14 (5) (nI 0)) 14 (6) (nI 0)) 4 [.ref 7, .int (nI 0), .ref 15, .int (nI 0), uu] [.int (nI 1)] from ?_)
    refine aw_if_eqI (tgt := 31) (1) (by decide +kernel) (by decide) d_L_append_4 (fun q => absurd q (by decide)) (fun _ => ?_)
    refine aw_aload_n rfl rfl d_L_append_7 ?_
    refine aw_getr fl_L_15 kc_7 (by decide) rfl rc_7_1 d_L_append_8 ?_
    refine aw_iload_n rfl rfl d_L_append_11 ?_
    refine aw_iald (j := 0) kc_9 (vp_in_nI (by decide) (by decide)) (nI_clamp (by decide)) d_L_append_12 ?_
    refine aw_top (x2 := nI 0) (Eq.trans (congrFun (upd2_ne (by decide)) (0)) (Eq.trans (congrFun (upd2_ne (by decide)) (0)) (Eq.trans (congrFun (upd2_ne (by decide)) (0)) (Eq.trans (congrFun (upd2_ne (by decide)) (0)) (Eq.trans (congrFun (upd2_ne (by decide)) (0)) (Eq.trans (congrFun (upd2_ne (by decide)) (0)) (Eq.trans (congrFun (upd2_ne (by decide)) (0)) (Eq.trans (congrFun (upd2_ne (by decide)) (0)) (Eq.trans (congrFun (upd2_ne (by decide)) (0)) (f1 (0) (by omega))))))))))) ?_
    refine aw_bipush (v := nI 40) cb_40 d_L_append_13 ?_
    refine aw_icmp_geI (tgt := 31) (0) (40) (by decide +kernel) (by decide +kernel) (by decide) d_L_append_15 (fun q => absurd q (by decide)) (fun _ => ?_)
    refine aw_iload_n rfl rfl d_L_append_18 ?_
    refine aw_if_ltI (tgt := 31) (0) (by decide +kernel) (by decide) d_L_append_19 (fun q => absurd q (by decide)) (fun _ => ?_)
    refine aw_iload_n rfl rfl d_L_append_22 ?_
    refine aw_aload_n rfl rfl d_L_append_23 ?_
    refine aw_alen kc_15 (by decide) d_L_append_24 ?_
    refine aw_bipush (v := nI 6) cb_6 d_L_append_25 ?_
    refine aw_isub d_L_append_27 ?_
    refine aw_top (x2 := nI 0) (by decide +kernel) ?_
    refine aw_icmp_leI (tgt := 33) (0) (0) (by decide +kernel) (by decide +kernel) (by decide) d_L_append_28 (fun _ => ?_) (fun q => absurd q (by decide))
    refine aw_iload_n rfl rfl d_L_append_33 ?_
    refine aw_bipush (v := nI 40) cb_40 d_L_append_34 ?_
    refine aw_imul d_L_append_36 ?_
    refine aw_top (x2 := nI 0) (by decide +kernel) ?_
    refine aw_aload_n rfl rfl d_L_append_37 ?_
    refine aw_getr fl_L_15 kc_7 (by decide) rfl rc_7_1 d_L_append_38 ?_
    refine aw_iload_n rfl rfl d_L_append_41 ?_
    refine aw_iald (j := 0) kc_9 (vp_in_nI (by decide) (by decide)) (nI_clamp (by decide)) d_L_append_42 ?_
    refine aw_top (x2 := nI 0) (Eq.trans (congrFun (upd2_ne (by decide)) (0)) (Eq.trans (congrFun (upd2_ne (by decide)) (0)) (Eq.trans (congrFun (upd2_ne (by decide)) (0)) (Eq.trans (congrFun (upd2_ne (by decide)) (0)) (Eq.trans (congrFun (upd2_ne (by decide)) (0)) (Eq.trans (congrFun (upd2_ne (by decide)) (0)) (Eq.trans (congrFun (upd2_ne (by decide)) (0)) (Eq.trans (congrFun (upd2_ne (by decide)) (0)) (Eq.trans (congrFun (upd2_ne (by decide)) (0)) (f1 (0) (by omega))))))))))) ?_
    refine aw_iadd d_L_append_43 ?_
    refine aw_top (x2 := nI 0) (by decide +kernel) ?_
    refine aw_istore (lv2 := [.ref 7, .int (nI 0), .ref 15, .int (nI 0), .int (nI 0)]) (by decide) rfl d_L_append_44 ?_
    refine aw_aload_n rfl rfl d_L_append_46 ?_
    refine aw_iload_n rfl rfl d_L_append_47 ?_
    refine aw_aload_n rfl rfl d_L_append_48 ?_
    refine aw_getr fl_L_9 kc_7 (by decide) rfl rc_7_0 d_L_append_49 ?_
    refine aw_iload rfl d_L_append_52 ?_
    refine aw_bipush (v := nI 6) cb_6 d_L_append_54 ?_
    refine aw_imul d_L_append_56 ?_
    refine aw_top (x2 := nI 0) (by decide +kernel) ?_
    refine aw_bipush (v := nI 6) cb_6 d_L_append_57 ?_
    refine as_copy0 (n := 6) lka_L_27 ac_nat ac_sta ac_ini kc_15 kc_8 (by omega) (by omega) (by omega) (by decide) rfl d_L_append_59 (fun J3 e4 e5 e6 => ?_)
    refine aw_aload_n rfl rfl d_L_append_62 ?_
    refine aw_getr fl_L_15 kc_7 (by decide) rfl rc_7_1 d_L_append_63 ?_
    refine aw_iload_n rfl rfl d_L_append_66 ?_
    refine aw_dup2 rfl rfl d_L_append_67 ?_
    refine aw_iald (j := 0) kc_9 (vp_in_nI (by decide) (by decide)) (nI_clamp (by decide)) d_L_append_68 ?_
    refine aw_top (x2 := nI 0) (((congrFun (e4 9 (by decide)) (0)).trans (Eq.trans (congrFun (upd2_ne (by decide)) (0)) (Eq.trans (congrFun (upd2_ne (by decide)) (0)) (Eq.trans (congrFun (upd2_ne (by decide)) (0)) (Eq.trans (congrFun (upd2_ne (by decide)) (0)) (Eq.trans (congrFun (upd2_ne (by decide)) (0)) (Eq.trans (congrFun (upd2_ne (by decide)) (0)) (Eq.trans (congrFun (upd2_ne (by decide)) (0)) (Eq.trans (congrFun (upd2_ne (by decide)) (0)) (Eq.trans (congrFun (upd2_ne (by decide)) (0)) (f1 (0) (by omega))))))))))))) ?_
    refine aw_iconst (v := nI 1) ci_1 d_L_append_69 ?_
    refine aw_iadd d_L_append_70 ?_
    refine aw_top (x2 := nI 1) (by decide +kernel) ?_
    refine aw_iast (j := 0) kc_9 (vp_in_nI (by decide) (by decide)) (nI_clamp (by decide)) d_L_append_71 ?_
    refine aw_iconst (v := nI 1) ci_1 d_L_append_72 ?_
    refine as_retz rfl (by decide +kernel) d_L_append_73 ?_
    refine (show As l b 13 y_H_enter KC RC _ (upd2 J3 9 (0) (nI 1)) 63 [.ref 1, .int (x), .int (z), .int (u), .int (nI 0)] [.int (nI 1)] from ?_)
    refine aw_if_eqI (tgt := 69) (1) (by decide +kernel) (by decide) d_H_enter_63 (fun q => absurd q (by decide)) (fun _ => ?_)
    refine aw_iload rfl d_H_enter_66 ?_
    refine as_reti rfl d_H_enter_68 ?_
    refine (show As l b 14 y_S_come KC RC K2 (upd2 J3 9 (0) (nI 1)) 19 [.ref 0, .int (x), .int (z), .int (u)] [.int (nI 0)] from ?_)
    refine aw_goto (tgt := 24) (by decide) d_S_come_19 ?_
    exact as_reti rfl d_S_come_24 (hg (by omega) _)
  · refine (show As l b 14 y_S_come KC RC K2 (I) 6 [.ref 0, .int (x), .int (z), .int (u)] [.int (nI 0)] from ?_)
    refine aw_if_eqI (tgt := 22) (0) (by decide +kernel) (by decide) d_S_come_6 (fun _ => ?_) (fun q => absurd q (by decide))
    refine aw_bipush (v := (-2 : Int32)) rfl d_S_come_22 ?_
    exact as_reti rfl d_S_come_24 (hb (by omega) _)
set_option maxRecDepth 20000 in
theorem cs_group {K2 : K2T} {I : Nat → Nat → Int32} (hR : FRc I) {x z u : Int32} (hg : 0 ≤ x.toInt ∧ x.toInt < 6 ∧ 0 ≤ z.toInt ∧ z.toInt < 40 ∧ 0 ≤ u.toInt ∧ u.toInt ≤ 6 → ∀ I', K2 (some (.int (-1))) I') (hb : ¬ (0 ≤ x.toInt ∧ x.toInt < 6 ∧ 0 ≤ z.toInt ∧ z.toInt < 40 ∧ 0 ≤ u.toInt ∧ u.toInt ≤ 6) → ∀ I', K2 (some (.int (-1000000))) I') : Ss l b 14 y_S_group KC RC [.ref 0, .int (x), .int (z), .int (u)] (I) K2 := by
  obtain ⟨hF, r6, r7, r11, t1, t2, t4, hh, tm, h7, h8, h9, q1, q10, q11, im, p0⟩ := hR
  have hF0 := hF
  obtain ⟨f0, f1, f2, f3, f4, f5, f6, f7, f8, f9, f10, f11, f12, f13, fb⟩ := hF
  have f0 : ∀ j, j < 32 → I 5 j = nI 0 := f0
  have f1 : ∀ j, j < 6 → I 9 j = nI 0 := f1
  have f2 : ∀ j, j < 6 → I 10 j = nI 9 := f2
  have f3 : I 2 0 = nI (4) := f3
  have f4 : I 2 3 = nI 0 := f4
  have f5 : I 2 5 = nI (0) := f5
  have f6 : I 11 1 = nI (0) := f6
  have f7 : I 11 0 = nI (0) := f7
  have f8 : ∀ j, j < 40 → j ≠ 0 → j ≠ 1 → j ≠ 3 → I 11 j = nI 0 := f8
  have f9 : I 16 4 = nI 0 := f9
  have f10 : I 21 4 = nI 0 := f10
  have f11 : I 26 4 = nI 0 := f11
  have f12 : I 31 4 = nI 0 := f12
  have f13 : I 36 4 = nI 0 := f13
  refine Ss.of (show As l b 14 y_S_group KC RC K2 (I) 0 [.ref 0, .int (x), .int (z), .int (u), uu] [] from ?_)
  refine aw_iload_n rfl rfl d_S_group_0 ?_
  refine as_callS (as := [.int (x)]) (d' := 1) mo_S_isLine lk_S_73 rfl ⟨by decide, by decide⟩ rfl rfl (by decide) d_S_group_1 (sp_isLine (I := I) (x := x) (X := (x).toInt) rfl (fun c1 => ?_) (fun c2 => ?_))
  · refine (show As l b 14 y_S_group KC RC K2 (I) 4 [.ref 0, .int (x), .int (z), .int (u), uu] [.int (nI 1)] from ?_)
    refine aw_if_eqI (tgt := 27) (1) (by decide +kernel) (by decide) d_S_group_4 (fun q => absurd q (by decide)) (fun _ => ?_)
    refine aw_iload_n rfl rfl d_S_group_7 ?_
    refine aw_if_ltI (tgt := 27) (z).toInt rfl (by decide) d_S_group_8 (fun c3 => ?_) (fun c3 => ?_)
    · refine aw_ldc (v := -1000000) lc_S_143 d_S_group_27 ?_
      refine aw_top (x2 := (-1000000 : Int32)) (by decide +kernel) ?_
      exact as_reti rfl d_S_group_29 (hb (by omega) _)
    · refine aw_iload_n rfl rfl d_S_group_11 ?_
      refine aw_bipush (v := nI 40) cb_40 d_S_group_12 ?_
      refine aw_icmp_geI (tgt := 27) (z).toInt (40) rfl (by decide +kernel) (by decide) d_S_group_14 (fun c4 => ?_) (fun c4 => ?_)
      · refine aw_ldc (v := -1000000) lc_S_143 d_S_group_27 ?_
        refine aw_top (x2 := (-1000000 : Int32)) (by decide +kernel) ?_
        exact as_reti rfl d_S_group_29 (hb (by omega) _)
      · refine aw_iload_n rfl rfl d_S_group_17 ?_
        refine aw_if_ltI (tgt := 27) (u).toInt rfl (by decide) d_S_group_18 (fun c5 => ?_) (fun c5 => ?_)
        · refine aw_ldc (v := -1000000) lc_S_143 d_S_group_27 ?_
          refine aw_top (x2 := (-1000000 : Int32)) (by decide +kernel) ?_
          exact as_reti rfl d_S_group_29 (hb (by omega) _)
        · refine aw_iload_n rfl rfl d_S_group_21 ?_
          refine aw_bipush (v := nI 6) cb_6 d_S_group_22 ?_
          refine aw_icmp_leI (tgt := 30) (u).toInt (6) rfl (by decide +kernel) (by decide) d_S_group_24 (fun c6 => ?_) (fun c6 => ?_)
          · refine aw_aload_n rfl rfl d_S_group_30 ?_
            refine aw_getr fl_S_12 kc_0 (by decide) rfl rc_0_0 d_S_group_31 ?_
            refine aw_getr fl_S_77 kc_1 (by decide) rfl rc_1_5 d_S_group_34 ?_
            refine aw_iload_n rfl rfl d_S_group_37 ?_
            refine aw_iload_n rfl rfl d_S_group_38 ?_
            refine as_callV (as := [.int (x), .int (z)]) (d' := 13) (q := ("SinglesUp$Lines", zT4, 3)) mo_L_has lk_S_144 kc_7 rfl rfl rfl ⟨by decide, by decide⟩ rfl rfl (by decide) d_S_group_39 (Ss.of (show As l b 13 y_L_has KC RC _ (I) 0 [.ref 7, .int (x), .int (z)] [] from ?_))
            refine aw_iload_n rfl rfl d_L_has_0 ?_
            refine as_callS (as := [.int (x)]) (d' := 1) mo_S_isLine lk_L_33 rfl ⟨by decide, by decide⟩ rfl rfl (by decide) d_L_has_1 (sp_isLine (I := I) (x := x) (X := (x).toInt) rfl (fun c7 => ?_) (fun c8 => ?_))
            · refine (show As l b 13 y_L_has KC RC _ (I) 4 [.ref 7, .int (x), .int (z)] [.int (nI 1)] from ?_)
              refine aw_if_eqI (tgt := 25) (1) (by decide +kernel) (by decide) d_L_has_4 (fun q => absurd q (by decide)) (fun _ => ?_)
              refine aw_iload_n rfl rfl d_L_has_7 ?_
              refine aw_if_ltI (tgt := 25) (z).toInt rfl (by decide) d_L_has_8 (fun q => absurd q (by omega)) (fun _ => ?_)
              refine aw_iload_n rfl rfl d_L_has_11 ?_
              refine aw_aload_n rfl rfl d_L_has_12 ?_
              refine aw_getr fl_L_15 kc_7 (by decide) rfl rc_7_1 d_L_has_13 ?_
              refine aw_iload_n rfl rfl d_L_has_16 ?_
              refine aw_iald (j := (x).toInt.toNat) kc_9 (vp_in_iff.mpr ⟨by omega, by omega⟩) rfl d_L_has_17 ?_
              refine aw_top (x2 := nI 0) (f1 ((x).toInt.toNat) (by omega)) ?_
              refine aw_icmp_geI (tgt := 25) (z).toInt (0) rfl (by decide +kernel) (by decide) d_L_has_18 (fun _ => ?_) (fun q => absurd q (by omega))
              refine aw_iconst (v := nI 0) ci_0 d_L_has_25 ?_
              refine as_retz rfl (by decide +kernel) d_L_has_26 ?_
              refine (show As l b 14 y_S_group KC RC K2 (I) 42 [.ref 0, .int (x), .int (z), .int (u), uu] [.int (nI 0)] from ?_)
              refine aw_if_neI (tgt := 47) (0) (by decide +kernel) (by decide) d_S_group_42 (fun q => absurd q (by decide)) (fun _ => ?_)
              refine aw_iconst (v := (-1 : Int32)) rfl d_S_group_45 ?_
              exact as_reti rfl d_S_group_46 (hg (by omega) _)
            · refine (show As l b 13 y_L_has KC RC _ (I) 4 [.ref 7, .int (x), .int (z)] [.int (nI 0)] from ?_)
              refine aw_if_eqI (tgt := 25) (0) (by decide +kernel) (by decide) d_L_has_4 (fun _ => ?_) (fun q => absurd q (by decide))
              refine aw_iconst (v := nI 0) ci_0 d_L_has_25 ?_
              refine as_retz rfl (by decide +kernel) d_L_has_26 ?_
              refine (show As l b 14 y_S_group KC RC K2 (I) 42 [.ref 0, .int (x), .int (z), .int (u), uu] [.int (nI 0)] from ?_)
              refine aw_if_neI (tgt := 47) (0) (by decide +kernel) (by decide) d_S_group_42 (fun q => absurd q (by decide)) (fun _ => ?_)
              refine aw_iconst (v := (-1 : Int32)) rfl d_S_group_45 ?_
              exact as_reti rfl d_S_group_46 (hg (by omega) _)
          · refine aw_ldc (v := -1000000) lc_S_143 d_S_group_27 ?_
            refine aw_top (x2 := (-1000000 : Int32)) (by decide +kernel) ?_
            exact as_reti rfl d_S_group_29 (hb (by omega) _)
  · refine (show As l b 14 y_S_group KC RC K2 (I) 4 [.ref 0, .int (x), .int (z), .int (u), uu] [.int (nI 0)] from ?_)
    refine aw_if_eqI (tgt := 27) (0) (by decide +kernel) (by decide) d_S_group_4 (fun _ => ?_) (fun q => absurd q (by decide))
    refine aw_ldc (v := -1000000) lc_S_143 d_S_group_27 ?_
    refine aw_top (x2 := (-1000000 : Int32)) (by decide +kernel) ?_
    exact as_reti rfl d_S_group_29 (hb (by omega) _)
set_option maxRecDepth 20000 in
theorem cs_line {K2 : K2T} {I : Nat → Nat → Int32} (hR : FRc I) {x z : Int32} (hg : 0 ≤ x.toInt ∧ x.toInt < 6 ∧ 0 ≤ z.toInt ∧ z.toInt ≤ 1 → ∀ I', K2 (some (.int (nI 0))) I') (hb : ¬ (0 ≤ x.toInt ∧ x.toInt < 6 ∧ 0 ≤ z.toInt ∧ z.toInt ≤ 1) → ∀ I', K2 (some (.int (-1))) I') : Ss l b 14 y_S_line KC RC [.ref 0, .int (x), .int (z)] (I) K2 := by
  obtain ⟨hF, r6, r7, r11, t1, t2, t4, hh, tm, h7, h8, h9, q1, q10, q11, im, p0⟩ := hR
  have hF0 := hF
  obtain ⟨f0, f1, f2, f3, f4, f5, f6, f7, f8, f9, f10, f11, f12, f13, fb⟩ := hF
  have f0 : ∀ j, j < 32 → I 5 j = nI 0 := f0
  have f1 : ∀ j, j < 6 → I 9 j = nI 0 := f1
  have f2 : ∀ j, j < 6 → I 10 j = nI 9 := f2
  have f3 : I 2 0 = nI (4) := f3
  have f4 : I 2 3 = nI 0 := f4
  have f5 : I 2 5 = nI (0) := f5
  have f6 : I 11 1 = nI (0) := f6
  have f7 : I 11 0 = nI (0) := f7
  have f8 : ∀ j, j < 40 → j ≠ 0 → j ≠ 1 → j ≠ 3 → I 11 j = nI 0 := f8
  have f9 : I 16 4 = nI 0 := f9
  have f10 : I 21 4 = nI 0 := f10
  have f11 : I 26 4 = nI 0 := f11
  have f12 : I 31 4 = nI 0 := f12
  have f13 : I 36 4 = nI 0 := f13
  refine Ss.of (show As l b 14 y_S_line KC RC K2 (I) 0 [.ref 0, .int (x), .int (z)] [] from ?_)
  refine aw_iload_n rfl rfl d_S_line_0 ?_
  refine as_callS (as := [.int (x)]) (d' := 1) mo_S_isLine lk_S_73 rfl ⟨by decide, by decide⟩ rfl rfl (by decide) d_S_line_1 (sp_isLine (I := I) (x := x) (X := (x).toInt) rfl (fun c1 => ?_) (fun c2 => ?_))
  · refine (show As l b 14 y_S_line KC RC K2 (I) 4 [.ref 0, .int (x), .int (z)] [.int (nI 1)] from ?_)
    refine aw_if_eqI (tgt := 16) (1) (by decide +kernel) (by decide) d_S_line_4 (fun q => absurd q (by decide)) (fun _ => ?_)
    refine aw_iload_n rfl rfl d_S_line_7 ?_
    refine aw_if_ltI (tgt := 16) (z).toInt rfl (by decide) d_S_line_8 (fun c3 => ?_) (fun c3 => ?_)
    · refine aw_iconst (v := (-1 : Int32)) rfl d_S_line_16 ?_
      exact as_reti rfl d_S_line_17 (hb (by omega) _)
    · refine aw_iload_n rfl rfl d_S_line_11 ?_
      refine aw_iconst (v := nI 1) ci_1 d_S_line_12 ?_
      refine aw_icmp_leI (tgt := 18) (z).toInt (1) rfl (by decide +kernel) (by decide) d_S_line_13 (fun c4 => ?_) (fun c4 => ?_)
      · refine aw_iload_n rfl rfl d_S_line_18 ?_
        refine aw_if_neI (tgt := 37) (z).toInt rfl (by decide) d_S_line_19 (fun c5 => ?_) (fun c5 => ?_)
        · refine aw_aload_n rfl rfl d_S_line_37 ?_
          refine aw_getr fl_S_12 kc_0 (by decide) rfl rc_0_0 d_S_line_38 ?_
          refine aw_getr fl_S_77 kc_1 (by decide) rfl rc_1_5 d_S_line_41 ?_
          refine aw_iload_n rfl rfl d_S_line_44 ?_
          refine as_callV (as := [.int (x)]) (d' := 13) (q := ("SinglesUp$Lines", zT4, 3)) mo_L_people lk_S_169 kc_7 rfl rfl rfl ⟨by decide, by decide⟩ rfl rfl (by decide) d_S_line_45 (Ss.of (show As l b 13 y_L_people KC RC _ (I) 0 [.ref 7, .int (x), uu, uu, uu] [] from ?_))
          refine aw_iconst (v := nI 0) ci_0 d_L_people_0 ?_
          refine aw_istore_n (lv2 := [.ref 7, .int (x), .int (nI 0), uu, uu]) rfl (by decide) rfl d_L_people_1 ?_
          refine aw_aload_n rfl rfl d_L_people_2 ?_
          refine aw_iload_n rfl rfl d_L_people_3 ?_
          refine as_callV (as := [.int (x)]) (d' := 12) (q := ("SinglesUp$Lines", zT4, 3)) mo_L_countOf lk_L_60 kc_7 rfl rfl rfl ⟨by decide, by decide⟩ rfl rfl (by decide) d_L_people_4 (Ss.of (show As l b 12 y_L_countOf KC RC _ (I) 0 [.ref 7, .int (x)] [] from ?_))
          refine aw_iload_n rfl rfl d_L_countOf_0 ?_
          refine as_callS (as := [.int (x)]) (d' := 1) mo_S_isLine lk_L_33 rfl ⟨by decide, by decide⟩ rfl rfl (by decide) d_L_countOf_1 (sp_isLine (I := I) (x := x) (X := (x).toInt) rfl (fun c6 => ?_) (fun c7 => ?_))
          · refine (show As l b 12 y_L_countOf KC RC _ (I) 4 [.ref 7, .int (x)] [.int (nI 1)] from ?_)
            refine aw_if_eqI (tgt := 21) (1) (by decide +kernel) (by decide) d_L_countOf_4 (fun q => absurd q (by decide)) (fun _ => ?_)
            refine aw_aload_n rfl rfl d_L_countOf_7 ?_
            refine aw_getr fl_L_15 kc_7 (by decide) rfl rc_7_1 d_L_countOf_8 ?_
            refine aw_iload_n rfl rfl d_L_countOf_11 ?_
            refine aw_iald (j := (x).toInt.toNat) kc_9 (vp_in_iff.mpr ⟨by omega, by omega⟩) rfl d_L_countOf_12 ?_
            refine aw_top (x2 := nI 0) (f1 ((x).toInt.toNat) (by omega)) ?_
            refine aw_bipush (v := nI 40) cb_40 d_L_countOf_13 ?_
            refine as_callS (as := [.int (nI 0), .int (nI 40)]) (d' := 1) mo_JM_min lk_L_37 rfl ⟨by decide, by decide⟩ rfl rfl (by decide) d_L_countOf_15 (sp_min_c (I := I) (x := nI 0) (z := nI 40) (X := (0)) (Z := (40)) (by decide +kernel) (by decide +kernel) (fun _ => ?_) (fun q => absurd q (by decide)) )
            refine (show As l b 12 y_L_countOf KC RC _ (I) 18 [.ref 7, .int (x)] [.int (nI 0)] from ?_)
            refine aw_goto (tgt := 22) (by decide) d_L_countOf_18 ?_
            refine as_reti rfl d_L_countOf_22 ?_
            refine (show As l b 13 y_L_people KC RC _ (I) 7 [.ref 7, .int (x), .int (nI 0), uu, uu] [.int (nI 0)] from ?_)
            refine aw_istore_n (lv2 := [.ref 7, .int (x), .int (nI 0), .int (nI 0), uu]) rfl (by decide) rfl d_L_people_7 ?_
            refine aw_iconst (v := nI 0) ci_0 d_L_people_8 ?_
            refine aw_istore (lv2 := [.ref 7, .int (x), .int (nI 0), .int (nI 0), .int (nI 0)]) (by decide) rfl d_L_people_9 ?_
            refine aw_iload rfl d_L_people_11 ?_
            refine aw_iload_n rfl rfl d_L_people_13 ?_
            refine aw_icmp_geI (tgt := 38) (0) (0) (by decide +kernel) (by decide +kernel) (by decide) d_L_people_14 (fun _ => ?_) (fun q => absurd q (by decide))
            refine aw_iload_n rfl rfl d_L_people_38 ?_
            refine as_reti rfl d_L_people_39 ?_
            refine (show As l b 14 y_S_line KC RC K2 (I) 48 [.ref 0, .int (x), .int (z)] [.int (nI 0)] from ?_)
            exact as_reti rfl d_S_line_48 (hg (by omega) _)
          · refine (show As l b 12 y_L_countOf KC RC _ (I) 4 [.ref 7, .int (x)] [.int (nI 0)] from ?_)
            refine aw_if_eqI (tgt := 21) (0) (by decide +kernel) (by decide) d_L_countOf_4 (fun _ => ?_) (fun q => absurd q (by decide))
            refine aw_iconst (v := nI 0) ci_0 d_L_countOf_21 ?_
            refine as_reti rfl d_L_countOf_22 ?_
            refine (show As l b 13 y_L_people KC RC _ (I) 7 [.ref 7, .int (x), .int (nI 0), uu, uu] [.int (nI 0)] from ?_)
            refine aw_istore_n (lv2 := [.ref 7, .int (x), .int (nI 0), .int (nI 0), uu]) rfl (by decide) rfl d_L_people_7 ?_
            refine aw_iconst (v := nI 0) ci_0 d_L_people_8 ?_
            refine aw_istore (lv2 := [.ref 7, .int (x), .int (nI 0), .int (nI 0), .int (nI 0)]) (by decide) rfl d_L_people_9 ?_
            refine aw_iload rfl d_L_people_11 ?_
            refine aw_iload_n rfl rfl d_L_people_13 ?_
            refine aw_icmp_geI (tgt := 38) (0) (0) (by decide +kernel) (by decide +kernel) (by decide) d_L_people_14 (fun _ => ?_) (fun q => absurd q (by decide))
            refine aw_iload_n rfl rfl d_L_people_38 ?_
            refine as_reti rfl d_L_people_39 ?_
            refine (show As l b 14 y_S_line KC RC K2 (I) 48 [.ref 0, .int (x), .int (z)] [.int (nI 0)] from ?_)
            exact as_reti rfl d_S_line_48 (hg (by omega) _)
        · refine aw_aload_n rfl rfl d_S_line_22 ?_
          refine aw_getr fl_S_12 kc_0 (by decide) rfl rc_0_0 d_S_line_23 ?_
          refine aw_getr fl_S_77 kc_1 (by decide) rfl rc_1_5 d_S_line_26 ?_
          refine aw_getr fl_S_166 kc_7 (by decide) rfl rc_7_1 d_S_line_29 ?_
          refine aw_iload_n rfl rfl d_S_line_32 ?_
          refine aw_iald (j := (x).toInt.toNat) kc_9 (vp_in_iff.mpr ⟨by omega, by omega⟩) rfl d_S_line_33 ?_
          refine aw_top (x2 := nI 0) (f1 ((x).toInt.toNat) (by omega)) ?_
          refine aw_goto (tgt := 48) (by decide) d_S_line_34 ?_
          exact as_reti rfl d_S_line_48 (hg (by omega) _)
      · refine aw_iconst (v := (-1 : Int32)) rfl d_S_line_16 ?_
        exact as_reti rfl d_S_line_17 (hb (by omega) _)
  · refine (show As l b 14 y_S_line KC RC K2 (I) 4 [.ref 0, .int (x), .int (z)] [.int (nI 0)] from ?_)
    refine aw_if_eqI (tgt := 16) (0) (by decide +kernel) (by decide) d_S_line_4 (fun _ => ?_) (fun q => absurd q (by decide))
    refine aw_iconst (v := (-1 : Int32)) rfl d_S_line_16 ?_
    exact as_reti rfl d_S_line_17 (hb (by omega) _)
set_option maxRecDepth 20000 in
theorem cs_pick {K2 : K2T} {I : Nat → Nat → Int32} (hR : FRc I) {x z : Int32} (hK : ∀ I', K2 (some (.int (nI 1))) I') : Ss l b 14 y_S_pick KC RC [.ref 0, .int (x), .int (z)] (I) K2 := by
  obtain ⟨hF, r6, r7, r11, t1, t2, t4, hh, tm, h7, h8, h9, q1, q10, q11, im, p0⟩ := hR
  have hF0 := hF
  obtain ⟨f0, f1, f2, f3, f4, f5, f6, f7, f8, f9, f10, f11, f12, f13, fb⟩ := hF
  have f0 : ∀ j, j < 32 → I 5 j = nI 0 := f0
  have f1 : ∀ j, j < 6 → I 9 j = nI 0 := f1
  have f2 : ∀ j, j < 6 → I 10 j = nI 9 := f2
  have f3 : I 2 0 = nI (4) := f3
  have f4 : I 2 3 = nI 0 := f4
  have f5 : I 2 5 = nI (0) := f5
  have f6 : I 11 1 = nI (0) := f6
  have f7 : I 11 0 = nI (0) := f7
  have f8 : ∀ j, j < 40 → j ≠ 0 → j ≠ 1 → j ≠ 3 → I 11 j = nI 0 := f8
  have f9 : I 16 4 = nI 0 := f9
  have f10 : I 21 4 = nI 0 := f10
  have f11 : I 26 4 = nI 0 := f11
  have f12 : I 31 4 = nI 0 := f12
  have f13 : I 36 4 = nI 0 := f13
  refine Ss.of (show As l b 14 y_S_pick KC RC K2 (I) 0 [.ref 0, .int (x), .int (z)] [] from ?_)
  refine aw_aload_n rfl rfl d_S_pick_0 ?_
  refine aw_getr fl_S_33 kc_0 (by decide) rfl rc_0_4 d_S_pick_1 ?_
  refine aw_aload_n rfl rfl d_S_pick_4 ?_
  refine aw_getr fl_S_12 kc_0 (by decide) rfl rc_0_0 d_S_pick_5 ?_
  refine aw_iload_n rfl rfl d_S_pick_8 ?_
  refine aw_iload_n rfl rfl d_S_pick_9 ?_
  refine as_callV (as := [.ref 1, .int (x), .int (z)]) (d' := 13) (q := ("SinglesUp$Chair", zT0, 12)) mo_C_judge lk_S_173 kc_137 rfl rfl rfl ⟨by decide, by decide⟩ rfl rfl (by decide) d_S_pick_10 (Ss.of (show As l b 13 y_C_judge KC RC _ (I) 0 [.ref 137, .ref 1, .int (x), .int (z), uu, uu, uu] [] from ?_))
  refine aw_iload_n rfl rfl d_C_judge_0 ?_
  refine aw_bipush (v := nI 40) cb_40 d_C_judge_1 ?_
  refine aw_imul d_C_judge_3 ?_
  refine aw_iload_n rfl rfl d_C_judge_4 ?_
  refine aw_iadd d_C_judge_5 ?_
  refine aw_istore (lv2 := [.ref 137, .ref 1, .int (x), .int (z), .int (((x * nI 40) + z)), uu, uu]) (by decide) rfl d_C_judge_6 ?_
  refine aw_aload_n rfl rfl d_C_judge_8 ?_
  refine aw_getr fl_C_72 kc_1 (by decide) rfl rc_1_5 d_C_judge_9 ?_
  refine aw_iload_n rfl rfl d_C_judge_12 ?_
  refine aw_iload_n rfl rfl d_C_judge_13 ?_
  refine as_callV (as := [.int (x), .int (z)]) (d' := 12) (q := ("SinglesUp$Lines", zT4, 3)) mo_L_has lk_C_177 kc_7 rfl rfl rfl ⟨by decide, by decide⟩ rfl rfl (by decide) d_C_judge_14 (Ss.of (show As l b 12 y_L_has KC RC _ (I) 0 [.ref 7, .int (x), .int (z)] [] from ?_))
  refine aw_iload_n rfl rfl d_L_has_0 ?_
  refine as_callS (as := [.int (x)]) (d' := 1) mo_S_isLine lk_L_33 rfl ⟨by decide, by decide⟩ rfl rfl (by decide) d_L_has_1 (sp_isLine (I := I) (x := x) (X := (x).toInt) rfl (fun c1 => ?_) (fun c2 => ?_))
  · refine (show As l b 12 y_L_has KC RC _ (I) 4 [.ref 7, .int (x), .int (z)] [.int (nI 1)] from ?_)
    refine aw_if_eqI (tgt := 25) (1) (by decide +kernel) (by decide) d_L_has_4 (fun q => absurd q (by decide)) (fun _ => ?_)
    refine aw_iload_n rfl rfl d_L_has_7 ?_
    refine aw_if_ltI (tgt := 25) (z).toInt rfl (by decide) d_L_has_8 (fun c3 => ?_) (fun c3 => ?_)
    · refine aw_iconst (v := nI 0) ci_0 d_L_has_25 ?_
      refine as_retz rfl (by decide +kernel) d_L_has_26 ?_
      refine (show As l b 13 y_C_judge KC RC _ (I) 17 [.ref 137, .ref 1, .int (x), .int (z), .int (((x * nI 40) + z)), uu, uu] [.int (nI 0)] from ?_)
      refine aw_if_eqI (tgt := 29) (0) (by decide +kernel) (by decide) d_C_judge_17 (fun _ => ?_) (fun q => absurd q (by decide))
      refine aw_iconst (v := nI 1) ci_1 d_C_judge_29 ?_
      refine as_reti rfl d_C_judge_30 ?_
      refine (show As l b 14 y_S_pick KC RC K2 (I) 13 [.ref 0, .int (x), .int (z)] [.int (nI 1)] from ?_)
      exact as_reti rfl d_S_pick_13 (hK _)
    · refine aw_iload_n rfl rfl d_L_has_11 ?_
      refine aw_aload_n rfl rfl d_L_has_12 ?_
      refine aw_getr fl_L_15 kc_7 (by decide) rfl rc_7_1 d_L_has_13 ?_
      refine aw_iload_n rfl rfl d_L_has_16 ?_
      refine aw_iald (j := (x).toInt.toNat) kc_9 (vp_in_iff.mpr ⟨by omega, by omega⟩) rfl d_L_has_17 ?_
      refine aw_top (x2 := nI 0) (f1 ((x).toInt.toNat) (by omega)) ?_
      refine aw_icmp_geI (tgt := 25) (z).toInt (0) rfl (by decide +kernel) (by decide) d_L_has_18 (fun _ => ?_) (fun q => absurd q (by omega))
      refine aw_iconst (v := nI 0) ci_0 d_L_has_25 ?_
      refine as_retz rfl (by decide +kernel) d_L_has_26 ?_
      refine (show As l b 13 y_C_judge KC RC _ (I) 17 [.ref 137, .ref 1, .int (x), .int (z), .int (((x * nI 40) + z)), uu, uu] [.int (nI 0)] from ?_)
      refine aw_if_eqI (tgt := 29) (0) (by decide +kernel) (by decide) d_C_judge_17 (fun _ => ?_) (fun q => absurd q (by decide))
      refine aw_iconst (v := nI 1) ci_1 d_C_judge_29 ?_
      refine as_reti rfl d_C_judge_30 ?_
      refine (show As l b 14 y_S_pick KC RC K2 (I) 13 [.ref 0, .int (x), .int (z)] [.int (nI 1)] from ?_)
      exact as_reti rfl d_S_pick_13 (hK _)
  · refine (show As l b 12 y_L_has KC RC _ (I) 4 [.ref 7, .int (x), .int (z)] [.int (nI 0)] from ?_)
    refine aw_if_eqI (tgt := 25) (0) (by decide +kernel) (by decide) d_L_has_4 (fun _ => ?_) (fun q => absurd q (by decide))
    refine aw_iconst (v := nI 0) ci_0 d_L_has_25 ?_
    refine as_retz rfl (by decide +kernel) d_L_has_26 ?_
    refine (show As l b 13 y_C_judge KC RC _ (I) 17 [.ref 137, .ref 1, .int (x), .int (z), .int (((x * nI 40) + z)), uu, uu] [.int (nI 0)] from ?_)
    refine aw_if_eqI (tgt := 29) (0) (by decide +kernel) (by decide) d_C_judge_17 (fun _ => ?_) (fun q => absurd q (by decide))
    refine aw_iconst (v := nI 1) ci_1 d_C_judge_29 ?_
    refine as_reti rfl d_C_judge_30 ?_
    refine (show As l b 14 y_S_pick KC RC K2 (I) 13 [.ref 0, .int (x), .int (z)] [.int (nI 1)] from ?_)
    exact as_reti rfl d_S_pick_13 (hK _)
set_option maxRecDepth 20000 in
theorem cs_send {K2 : K2T} {I : Nat → Nat → Int32} (hR : FRc I) (hK : ∀ I', K2 (some (.int (nI 0))) I') : Ss l b 14 y_S_send KC RC [.ref 0] (I) K2 := by
  obtain ⟨hF, r6, r7, r11, t1, t2, t4, hh, tm, h7, h8, h9, q1, q10, q11, im, p0⟩ := hR
  have hF0 := hF
  obtain ⟨f0, f1, f2, f3, f4, f5, f6, f7, f8, f9, f10, f11, f12, f13, fb⟩ := hF
  have f0 : ∀ j, j < 32 → I 5 j = nI 0 := f0
  have f1 : ∀ j, j < 6 → I 9 j = nI 0 := f1
  have f2 : ∀ j, j < 6 → I 10 j = nI 9 := f2
  have f3 : I 2 0 = nI (4) := f3
  have f4 : I 2 3 = nI 0 := f4
  have f5 : I 2 5 = nI (0) := f5
  have f6 : I 11 1 = nI (0) := f6
  have f7 : I 11 0 = nI (0) := f7
  have f8 : ∀ j, j < 40 → j ≠ 0 → j ≠ 1 → j ≠ 3 → I 11 j = nI 0 := f8
  have f9 : I 16 4 = nI 0 := f9
  have f10 : I 21 4 = nI 0 := f10
  have f11 : I 26 4 = nI 0 := f11
  have f12 : I 31 4 = nI 0 := f12
  have f13 : I 36 4 = nI 0 := f13
  refine Ss.of (show As l b 14 y_S_send KC RC K2 (I) 0 [.ref 0, uu] [] from ?_)
  refine aw_aload_n rfl rfl d_S_send_0 ?_
  refine aw_getr fl_S_33 kc_0 (by decide) rfl rc_0_4 d_S_send_1 ?_
  refine aw_aload_n rfl rfl d_S_send_4 ?_
  refine aw_getr fl_S_12 kc_0 (by decide) rfl rc_0_0 d_S_send_5 ?_
  refine as_callV (as := [.ref 1]) (d' := 13) (q := ("SinglesUp$Chair", zT0, 12)) mo_C_leave lk_S_177 kc_137 rfl rfl rfl ⟨by decide, by decide⟩ rfl rfl (by decide) d_S_send_8 (Ss.of (show As l b 13 y_C_leave KC RC _ (I) 0 [.ref 137, .ref 1, uu, uu] [] from ?_))
  refine aw_aload_n rfl rfl d_C_leave_0 ?_
  refine aw_getr fl_C_141 kc_1 (by decide) rfl rc_1_8 d_C_leave_1 ?_
  refine aw_iconst (v := nI 2) ci_2 d_C_leave_4 ?_
  refine aw_iald (j := 2) kc_11 (vp_in_nI (by decide) (by decide)) (nI_clamp (by decide)) d_C_leave_5 ?_
  refine aw_top (x2 := nI 0) (f8 2 (by decide) (by decide) (by decide) (by decide)) ?_
  refine aw_istore_n (lv2 := [.ref 137, .ref 1, .int (nI 0), uu]) rfl (by decide) rfl d_C_leave_6 ?_
  refine aw_iconst (v := nI 0) ci_0 d_C_leave_7 ?_
  refine aw_istore_n (lv2 := [.ref 137, .ref 1, .int (nI 0), .int (nI 0)]) rfl (by decide) rfl d_C_leave_8 ?_
  refine aw_iload_n rfl rfl d_C_leave_9 ?_
  refine aw_aload_n rfl rfl d_C_leave_10 ?_
  refine aw_geti fl_C_40 kc_137 (by decide) rfl d_C_leave_11 ?_
  refine aw_top (x2 := nI 0) (h8) ?_
  refine aw_icmp_geI (tgt := 46) (0) (0) (by decide +kernel) (by decide +kernel) (by decide) d_C_leave_14 (fun _ => ?_) (fun q => absurd q (by decide))
  refine aw_aload_n rfl rfl d_C_leave_46 ?_
  refine aw_getr fl_C_72 kc_1 (by decide) rfl rc_1_5 d_C_leave_47 ?_
  refine aw_aload_n rfl rfl d_C_leave_50 ?_
  refine aw_getr fl_C_9 kc_137 (by decide) rfl rc_137_0 d_C_leave_51 ?_
  refine as_callV (as := [.ref 138]) (d' := 2) (q := ("SinglesUp$Lines", zT4, 3)) mo_L_depart lk_C_165 kc_7 rfl rfl rfl ⟨by decide, by decide⟩ rfl rfl (by decide) d_C_leave_54 (sp_depart_1_137 (I := I) f1 ?_)
  refine (show As l b 13 y_C_leave KC RC _ (I) 57 [.ref 137, .ref 1, .int (nI 0), .int (nI 0)] [] from ?_)
  refine aw_iconst (v := nI 0) ci_0 d_C_leave_57 ?_
  refine aw_istore_n (lv2 := [.ref 137, .ref 1, .int (nI 0), .int (nI 0)]) rfl (by decide) rfl d_C_leave_58 ?_
  refine aw_iload_n rfl rfl d_C_leave_59 ?_
  refine aw_aload_n rfl rfl d_C_leave_60 ?_
  refine aw_geti fl_C_43 kc_137 (by decide) rfl d_C_leave_61 ?_
  refine aw_top (x2 := nI 0) (h9) ?_
  refine aw_icmp_geI (tgt := 103) (0) (0) (by decide +kernel) (by decide +kernel) (by decide) d_C_leave_64 (fun _ => ?_) (fun q => absurd q (by decide))
  refine aw_aload_n rfl rfl d_C_leave_103 ?_
  refine aw_aload_n rfl rfl d_C_leave_104 ?_
  refine aw_geti fl_C_30 kc_137 (by decide) rfl d_C_leave_105 ?_
  refine aw_top (x2 := nI 4) (h7) ?_
  refine aw_aload_n rfl rfl d_C_leave_108 ?_
  refine aw_geti fl_C_40 kc_137 (by decide) rfl d_C_leave_109 ?_
  refine aw_top (x2 := nI 0) (h8) ?_
  refine as_callV (as := [.int (nI 4), .int (nI 0)]) (d' := 3) (q := ("SinglesUp$Hill", zT2, 14)) mo_H_close lk_C_173 kc_1 rfl rfl rfl ⟨by decide, by decide⟩ rfl rfl (by decide) d_C_leave_112 (sp_close_1 (I := I) (s := 4) (ru := 0) (e := 0) (k := 0) hF0 (by omega) (fun I1 hF2 fr3 => ?_))
  have hF := hF2
  obtain ⟨f0, f1, f2, f3, f4, f5, f6, f7, f8, f9, f10, f11, f12, f13, fb⟩ := hF
  have f0 : ∀ j, j < 32 → I1 5 j = nI 0 := f0
  have f1 : ∀ j, j < 6 → I1 9 j = nI 0 := f1
  have f2 : ∀ j, j < 6 → I1 10 j = nI 9 := f2
  have f3 : I1 2 0 = nI (4) := f3
  have f4 : I1 2 3 = nI 0 := f4
  have f5 : I1 2 5 = nI (0) := f5
  have f6 : I1 11 1 = nI ((0 + 4)) := f6
  have f7 : I1 11 0 = nI ((0 + 1)) := f7
  have f8 : ∀ j, j < 40 → j ≠ 0 → j ≠ 1 → j ≠ 3 → I1 11 j = nI 0 := f8
  have f9 : I1 16 4 = nI 0 := f9
  have f10 : I1 21 4 = nI 0 := f10
  have f11 : I1 26 4 = nI 0 := f11
  have f12 : I1 31 4 = nI 0 := f12
  have f13 : I1 36 4 = nI 0 := f13
  refine (show As l b 13 y_C_leave KC RC _ (I1) 115 [.ref 137, .ref 1, .int (nI 0), .int (nI 0)] [] from ?_)
  refine aw_aload_n rfl rfl d_C_leave_115 ?_
  refine aw_getr fl_C_141 kc_1 (by decide) rfl rc_1_8 d_C_leave_116 ?_
  refine aw_iconst (v := nI 2) ci_2 d_C_leave_119 ?_
  refine aw_iald (j := 2) kc_11 (vp_in_nI (by decide) (by decide)) (nI_clamp (by decide)) d_C_leave_120 ?_
  refine aw_top (x2 := nI 0) (f8 2 (by decide) (by decide) (by decide) (by decide)) ?_
  refine aw_iload_n rfl rfl d_C_leave_121 ?_
  refine aw_isub d_C_leave_122 ?_
  refine aw_top (x2 := nI 0) (by decide +kernel) ?_
  refine as_reti rfl d_C_leave_123 ?_
  refine (show As l b 14 y_S_send KC RC K2 (I1) 11 [.ref 0, uu] [.int (nI 0)] from ?_)
  refine aw_istore_n (lv2 := [.ref 0, .int (nI 0)]) rfl (by decide) rfl d_S_send_11 ?_
  refine aw_aload_n rfl rfl d_S_send_12 ?_
  refine as_callV (as := []) (d' := 13) (q := ("SinglesUp", zT8, 9)) mo_S_dropPicked lk_S_181 kc_0 rfl rfl rfl ⟨by decide, by decide⟩ rfl rfl (by decide) d_S_send_13 (Ss.of (show As l b 13 y_S_dropPicked KC RC _ (I1) 0 [.ref 0] [] from ?_))
  refine aw_aload_n rfl rfl d_S_dropPicked_0 ?_
  refine aw_getr fl_S_33 kc_0 (by decide) rfl rc_0_4 d_S_dropPicked_1 ?_
  refine aw_aload_n rfl rfl d_S_dropPicked_4 ?_
  refine aw_getr fl_S_12 kc_0 (by decide) rfl rc_0_0 d_S_dropPicked_5 ?_
  refine aw_getr fl_S_65 kc_1 (by decide) rfl rc_1_0 d_S_dropPicked_8 ?_
  refine aw_iconst (v := nI 0) ci_0 d_S_dropPicked_11 ?_
  refine aw_iald (j := 0) kc_2 (vp_in_nI (by decide) (by decide)) (nI_clamp (by decide)) d_S_dropPicked_12 ?_
  refine aw_top (x2 := nI 4) (f3) ?_
  refine as_callV (as := [.int (nI 4)]) (d' := 2) (q := ("SinglesUp$Chair", zT0, 12)) mo_C_clear lk_S_69 kc_137 rfl rfl rfl ⟨by decide, by decide⟩ rfl rfl (by decide) d_S_dropPicked_13 (sp_clear_137 (I := I1) (v := nI 4) ?_)
  refine (show As l b 13 y_S_dropPicked KC RC _ (upd2 (upd2 (upd2 (upd2 (upd2 (updA (I1) 138 (fun j => if j < 240 then nI 0 else (I1) 138 j)) 137 7 (nI 4)) 137 8 (nI 0)) 137 9 (nI 0)) 137 10 (nI 0)) 137 11 (nI 0)) 16 [.ref 0] [] from ?_)
  refine as_retv rfl d_S_dropPicked_16 ?_
  refine (show As l b 14 y_S_send KC RC K2 (upd2 (upd2 (upd2 (upd2 (upd2 (updA (I1) 138 (fun j => if j < 240 then nI 0 else (I1) 138 j)) 137 7 (nI 4)) 137 8 (nI 0)) 137 9 (nI 0)) 137 10 (nI 0)) 137 11 (nI 0)) 16 [.ref 0, .int (nI 0)] [] from ?_)
  refine aw_iload_n rfl rfl d_S_send_16 ?_
  exact as_reti rfl d_S_send_17 (hK _)
set_option maxRecDepth 20000 in
theorem cs_chair {K2 : K2T} {I : Nat → Nat → Int32} (hR : FRc I) (hK : ∀ I', K2 (some (.int (nI 0))) I') : Ss l b 14 y_S_chair KC RC [.ref 0] (I) K2 := by
  obtain ⟨hF, r6, r7, r11, t1, t2, t4, hh, tm, h7, h8, h9, q1, q10, q11, im, p0⟩ := hR
  have hF0 := hF
  obtain ⟨f0, f1, f2, f3, f4, f5, f6, f7, f8, f9, f10, f11, f12, f13, fb⟩ := hF
  have f0 : ∀ j, j < 32 → I 5 j = nI 0 := f0
  have f1 : ∀ j, j < 6 → I 9 j = nI 0 := f1
  have f2 : ∀ j, j < 6 → I 10 j = nI 9 := f2
  have f3 : I 2 0 = nI (4) := f3
  have f4 : I 2 3 = nI 0 := f4
  have f5 : I 2 5 = nI (0) := f5
  have f6 : I 11 1 = nI (0) := f6
  have f7 : I 11 0 = nI (0) := f7
  have f8 : ∀ j, j < 40 → j ≠ 0 → j ≠ 1 → j ≠ 3 → I 11 j = nI 0 := f8
  have f9 : I 16 4 = nI 0 := f9
  have f10 : I 21 4 = nI 0 := f10
  have f11 : I 26 4 = nI 0 := f11
  have f12 : I 31 4 = nI 0 := f12
  have f13 : I 36 4 = nI 0 := f13
  refine Ss.of (show As l b 14 y_S_chair KC RC K2 (I) 0 [.ref 0] [] from ?_)
  refine aw_aload_n rfl rfl d_S_chair_0 ?_
  refine as_callV (as := []) (d' := 13) (q := ("SinglesUp", zT8, 9)) mo_S_dropPicked lk_S_181 kc_0 rfl rfl rfl ⟨by decide, by decide⟩ rfl rfl (by decide) d_S_chair_1 (Ss.of (show As l b 13 y_S_dropPicked KC RC _ (I) 0 [.ref 0] [] from ?_))
  refine aw_aload_n rfl rfl d_S_dropPicked_0 ?_
  refine aw_getr fl_S_33 kc_0 (by decide) rfl rc_0_4 d_S_dropPicked_1 ?_
  refine aw_aload_n rfl rfl d_S_dropPicked_4 ?_
  refine aw_getr fl_S_12 kc_0 (by decide) rfl rc_0_0 d_S_dropPicked_5 ?_
  refine aw_getr fl_S_65 kc_1 (by decide) rfl rc_1_0 d_S_dropPicked_8 ?_
  refine aw_iconst (v := nI 0) ci_0 d_S_dropPicked_11 ?_
  refine aw_iald (j := 0) kc_2 (vp_in_nI (by decide) (by decide)) (nI_clamp (by decide)) d_S_dropPicked_12 ?_
  refine aw_top (x2 := nI 4) (f3) ?_
  refine as_callV (as := [.int (nI 4)]) (d' := 2) (q := ("SinglesUp$Chair", zT0, 12)) mo_C_clear lk_S_69 kc_137 rfl rfl rfl ⟨by decide, by decide⟩ rfl rfl (by decide) d_S_dropPicked_13 (sp_clear_137 (I := I) (v := nI 4) ?_)
  refine (show As l b 13 y_S_dropPicked KC RC _ (upd2 (upd2 (upd2 (upd2 (upd2 (updA (I) 138 (fun j => if j < 240 then nI 0 else (I) 138 j)) 137 7 (nI 4)) 137 8 (nI 0)) 137 9 (nI 0)) 137 10 (nI 0)) 137 11 (nI 0)) 16 [.ref 0] [] from ?_)
  refine as_retv rfl d_S_dropPicked_16 ?_
  refine (show As l b 14 y_S_chair KC RC K2 (upd2 (upd2 (upd2 (upd2 (upd2 (updA (I) 138 (fun j => if j < 240 then nI 0 else (I) 138 j)) 137 7 (nI 4)) 137 8 (nI 0)) 137 9 (nI 0)) 137 10 (nI 0)) 137 11 (nI 0)) 4 [.ref 0] [] from ?_)
  refine aw_aload_n rfl rfl d_S_chair_4 ?_
  refine aw_getr fl_S_29 kc_0 (by decide) rfl rc_0_3 d_S_chair_5 ?_
  refine aw_aload_n rfl rfl d_S_chair_8 ?_
  refine aw_getr fl_S_12 kc_0 (by decide) rfl rc_0_0 d_S_chair_9 ?_
  refine as_callV (as := [.ref 1]) (d' := 5) (q := ("SinglesUp$Chair", zT0, 12)) mo_C_ride lk_S_184 kc_130 rfl rfl rfl ⟨by decide, by decide⟩ rfl rfl (by decide) d_S_chair_12 (sp_ride_130 (I := upd2 (upd2 (upd2 (upd2 (upd2 (updA (I) 138 (fun j => if j < 240 then nI 0 else (I) 138 j)) 137 7 (nI 4)) 137 8 (nI 0)) 137 9 (nI 0)) 137 10 (nI 0)) 137 11 (nI 0)) (s := 4) (ru := 0) (e := 0) (k := 0) (show FH 1 (upd2 (upd2 (upd2 (upd2 (upd2 (updA (I) 138 (fun j => if j < 240 then nI 0 else (I) 138 j)) 137 7 (nI 4)) 137 8 (nI 0)) 137 9 (nI 0)) 137 10 (nI 0)) 137 11 (nI 0)) 4 0 0 0 from ⟨fun j hj => by simp [upd2, upd, updA, f0 j hj], fun j hj => by simp [upd2, upd, updA, f1 j hj], fun j hj => by simp [upd2, upd, updA, f2 j hj], by simp [upd2, upd, updA, f3], by simp [upd2, upd, updA, f4], by simp [upd2, upd, updA, f5], by simp [upd2, upd, updA, f6, nI_add], by simp [upd2, upd, updA, f7, nI_1], fun j hj a1 a2 a3 => by simp [upd2, upd, updA, f8 j hj a1 a2 a3, a1, a2, a3], by simp [upd2, upd, updA, f9], by simp [upd2, upd, updA, f10], by simp [upd2, upd, updA, f11], by simp [upd2, upd, updA, f12], by simp [upd2, upd, updA, f13], by omega⟩) (by omega) (fun I1 hF2 fr3 => ?_))
  have hF := hF2
  obtain ⟨f0, f1, f2, f3, f4, f5, f6, f7, f8, f9, f10, f11, f12, f13, fb⟩ := hF
  have f0 : ∀ j, j < 32 → I1 5 j = nI 0 := f0
  have f1 : ∀ j, j < 6 → I1 9 j = nI 0 := f1
  have f2 : ∀ j, j < 6 → I1 10 j = nI 9 := f2
  have f3 : I1 2 0 = nI (4) := f3
  have f4 : I1 2 3 = nI 0 := f4
  have f5 : I1 2 5 = nI (0) := f5
  have f6 : I1 11 1 = nI ((0 + 4)) := f6
  have f7 : I1 11 0 = nI ((0 + 1)) := f7
  have f8 : ∀ j, j < 40 → j ≠ 0 → j ≠ 1 → j ≠ 3 → I1 11 j = nI 0 := f8
  have f9 : I1 16 4 = nI 0 := f9
  have f10 : I1 21 4 = nI 0 := f10
  have f11 : I1 26 4 = nI 0 := f11
  have f12 : I1 31 4 = nI 0 := f12
  have f13 : I1 36 4 = nI 0 := f13
  refine (show As l b 14 y_S_chair KC RC K2 (I1) 15 [.ref 0] [.int (nI 0)] from ?_)
  exact as_reti rfl d_S_chair_15 (hK _)
set_option maxRecDepth 20000 in
theorem cs_run {K2 : K2T} {I : Nat → Nat → Int32} (hR : FRc I) {x : Int32} (hg : 1 ≤ x.toInt ∧ x.toInt ≤ 60 → ∀ I', K2 (some (.int (nI 0))) I') (hb : ¬ (1 ≤ x.toInt ∧ x.toInt ≤ 60) → ∀ I', K2 (some (.int (-1))) I') : Ss l b 14 y_S_run KC RC [.ref 0, .int (x)] (I) K2 := by
  obtain ⟨hF, r6, r7, r11, t1, t2, t4, hh, tm, h7, h8, h9, q1, q10, q11, im, p0⟩ := hR
  have hF0 := hF
  obtain ⟨f0, f1, f2, f3, f4, f5, f6, f7, f8, f9, f10, f11, f12, f13, fb⟩ := hF
  have f0 : ∀ j, j < 32 → I 5 j = nI 0 := f0
  have f1 : ∀ j, j < 6 → I 9 j = nI 0 := f1
  have f2 : ∀ j, j < 6 → I 10 j = nI 9 := f2
  have f3 : I 2 0 = nI (4) := f3
  have f4 : I 2 3 = nI 0 := f4
  have f5 : I 2 5 = nI (0) := f5
  have f6 : I 11 1 = nI (0) := f6
  have f7 : I 11 0 = nI (0) := f7
  have f8 : ∀ j, j < 40 → j ≠ 0 → j ≠ 1 → j ≠ 3 → I 11 j = nI 0 := f8
  have f9 : I 16 4 = nI 0 := f9
  have f10 : I 21 4 = nI 0 := f10
  have f11 : I 26 4 = nI 0 := f11
  have f12 : I 31 4 = nI 0 := f12
  have f13 : I 36 4 = nI 0 := f13
  refine Ss.of (show As l b 14 y_S_run KC RC K2 (I) 0 [.ref 0, .int (x)] [] from ?_)
  refine aw_iload_n rfl rfl d_S_run_0 ?_
  refine aw_iconst (v := nI 1) ci_1 d_S_run_1 ?_
  refine aw_icmp_ltI (tgt := 11) (x).toInt (1) rfl (by decide +kernel) (by decide) d_S_run_2 (fun c1 => ?_) (fun c1 => ?_)
  · refine aw_iconst (v := (-1 : Int32)) rfl d_S_run_11 ?_
    exact as_reti rfl d_S_run_12 (hb (by omega) _)
  · refine aw_iload_n rfl rfl d_S_run_5 ?_
    refine aw_bipush (v := nI 60) cb_60 d_S_run_6 ?_
    refine aw_icmp_leI (tgt := 13) (x).toInt (60) rfl (by decide +kernel) (by decide) d_S_run_8 (fun c2 => ?_) (fun c2 => ?_)
    · obtain ⟨w1, hw1, ew1, gw1⟩ := nI_of_range (x := x) (n := 61) (by omega) (by omega)
      subst ew1
      refine aw_aload_n rfl rfl d_S_run_13 ?_
      refine as_callV (as := []) (d' := 13) (q := ("SinglesUp", zT8, 9)) mo_S_dropPicked lk_S_181 kc_0 rfl rfl rfl ⟨by decide, by decide⟩ rfl rfl (by decide) d_S_run_14 (Ss.of (show As l b 13 y_S_dropPicked KC RC _ (I) 0 [.ref 0] [] from ?_))
      refine aw_aload_n rfl rfl d_S_dropPicked_0 ?_
      refine aw_getr fl_S_33 kc_0 (by decide) rfl rc_0_4 d_S_dropPicked_1 ?_
      refine aw_aload_n rfl rfl d_S_dropPicked_4 ?_
      refine aw_getr fl_S_12 kc_0 (by decide) rfl rc_0_0 d_S_dropPicked_5 ?_
      refine aw_getr fl_S_65 kc_1 (by decide) rfl rc_1_0 d_S_dropPicked_8 ?_
      refine aw_iconst (v := nI 0) ci_0 d_S_dropPicked_11 ?_
      refine aw_iald (j := 0) kc_2 (vp_in_nI (by decide) (by decide)) (nI_clamp (by decide)) d_S_dropPicked_12 ?_
      refine aw_top (x2 := nI 4) (f3) ?_
      refine as_callV (as := [.int (nI 4)]) (d' := 2) (q := ("SinglesUp$Chair", zT0, 12)) mo_C_clear lk_S_69 kc_137 rfl rfl rfl ⟨by decide, by decide⟩ rfl rfl (by decide) d_S_dropPicked_13 (sp_clear_137 (I := I) (v := nI 4) ?_)
      refine (show As l b 13 y_S_dropPicked KC RC _ (upd2 (upd2 (upd2 (upd2 (upd2 (updA (I) 138 (fun j => if j < 240 then nI 0 else (I) 138 j)) 137 7 (nI 4)) 137 8 (nI 0)) 137 9 (nI 0)) 137 10 (nI 0)) 137 11 (nI 0)) 16 [.ref 0] [] from ?_)
      refine as_retv rfl d_S_dropPicked_16 ?_
      refine (show As l b 14 y_S_run KC RC K2 (upd2 (upd2 (upd2 (upd2 (upd2 (updA (I) 138 (fun j => if j < 240 then nI 0 else (I) 138 j)) 137 7 (nI 4)) 137 8 (nI 0)) 137 9 (nI 0)) 137 10 (nI 0)) 137 11 (nI 0)) 17 [.ref 0, .int (nI (w1))] [] from ?_)
      refine aw_aload_n rfl rfl d_S_run_17 ?_
      refine aw_getr fl_S_29 kc_0 (by decide) rfl rc_0_3 d_S_run_18 ?_
      refine aw_aload_n rfl rfl d_S_run_21 ?_
      refine aw_getr fl_S_12 kc_0 (by decide) rfl rc_0_0 d_S_run_22 ?_
      refine aw_iload_n rfl rfl d_S_run_25 ?_
      refine as_callV (as := [.ref 1, .int (nI (w1))]) (d' := 6) (q := ("SinglesUp$Chair", zT0, 12)) mo_C_turns lk_S_187 kc_130 rfl rfl rfl ⟨by decide, by decide⟩ rfl rfl (by decide) d_S_run_26 (sp_turns_130 (I := upd2 (upd2 (upd2 (upd2 (upd2 (updA (I) 138 (fun j => if j < 240 then nI 0 else (I) 138 j)) 137 7 (nI 4)) 137 8 (nI 0)) 137 9 (nI 0)) 137 10 (nI 0)) 137 11 (nI 0)) (s := 4) (ru := 0) (e := 0) (k := 0) (n0 := w1) (show FH 1 (upd2 (upd2 (upd2 (upd2 (upd2 (updA (I) 138 (fun j => if j < 240 then nI 0 else (I) 138 j)) 137 7 (nI 4)) 137 8 (nI 0)) 137 9 (nI 0)) 137 10 (nI 0)) 137 11 (nI 0)) 4 0 0 0 from ⟨fun j hj => by simp [upd2, upd, updA, f0 j hj], fun j hj => by simp [upd2, upd, updA, f1 j hj], fun j hj => by simp [upd2, upd, updA, f2 j hj], by simp [upd2, upd, updA, f3], by simp [upd2, upd, updA, f4], by simp [upd2, upd, updA, f5], by simp [upd2, upd, updA, f6, nI_add], by simp [upd2, upd, updA, f7, nI_1], fun j hj a1 a2 a3 => by simp [upd2, upd, updA, f8 j hj a1 a2 a3, a1, a2, a3], by simp [upd2, upd, updA, f9], by simp [upd2, upd, updA, f10], by simp [upd2, upd, updA, f11], by simp [upd2, upd, updA, f12], by simp [upd2, upd, updA, f13], by omega⟩) (by omega) (by omega) (fun I3 hF4 fr5 => ?_))
      have hF := hF4
      obtain ⟨f0, f1, f2, f3, f4, f5, f6, f7, f8, f9, f10, f11, f12, f13, fb⟩ := hF
      have f0 : ∀ j, j < 32 → I3 5 j = nI 0 := f0
      have f1 : ∀ j, j < 6 → I3 9 j = nI 0 := f1
      have f2 : ∀ j, j < 6 → I3 10 j = nI 9 := f2
      have f3 : I3 2 0 = nI (4) := f3
      have f4 : I3 2 3 = nI 0 := f4
      have f5 : I3 2 5 = nI (0) := f5
      have f6 : I3 11 1 = nI ((0 + w1 * 4)) := f6
      have f7 : I3 11 0 = nI ((0 + w1)) := f7
      have f8 : ∀ j, j < 40 → j ≠ 0 → j ≠ 1 → j ≠ 3 → I3 11 j = nI 0 := f8
      have f9 : I3 16 4 = nI 0 := f9
      have f10 : I3 21 4 = nI 0 := f10
      have f11 : I3 26 4 = nI 0 := f11
      have f12 : I3 31 4 = nI 0 := f12
      have f13 : I3 36 4 = nI 0 := f13
      refine (show As l b 14 y_S_run KC RC K2 (I3) 29 [.ref 0, .int (nI (w1))] [.int (nI 0)] from ?_)
      exact as_reti rfl d_S_run_29 (hg (by omega) _)
    · refine aw_iconst (v := (-1 : Int32)) rfl d_S_run_11 ?_
      exact as_reti rfl d_S_run_12 (hb (by omega) _)
set_option maxRecDepth 20000 in
theorem cs_last {K2 : K2T} {I : Nat → Nat → Int32} (hR : FRc I) {x : Int32} (hK : ∀ I', K2 (some (.int (-1))) I') : Ss l b 14 y_S_last KC RC [.ref 0, .int (x)] (I) K2 := by
  obtain ⟨hF, r6, r7, r11, t1, t2, t4, hh, tm, h7, h8, h9, q1, q10, q11, im, p0⟩ := hR
  have hF0 := hF
  obtain ⟨f0, f1, f2, f3, f4, f5, f6, f7, f8, f9, f10, f11, f12, f13, fb⟩ := hF
  have f0 : ∀ j, j < 32 → I 5 j = nI 0 := f0
  have f1 : ∀ j, j < 6 → I 9 j = nI 0 := f1
  have f2 : ∀ j, j < 6 → I 10 j = nI 9 := f2
  have f3 : I 2 0 = nI (4) := f3
  have f4 : I 2 3 = nI 0 := f4
  have f5 : I 2 5 = nI (0) := f5
  have f6 : I 11 1 = nI (0) := f6
  have f7 : I 11 0 = nI (0) := f7
  have f8 : ∀ j, j < 40 → j ≠ 0 → j ≠ 1 → j ≠ 3 → I 11 j = nI 0 := f8
  have f9 : I 16 4 = nI 0 := f9
  have f10 : I 21 4 = nI 0 := f10
  have f11 : I 26 4 = nI 0 := f11
  have f12 : I 31 4 = nI 0 := f12
  have f13 : I 36 4 = nI 0 := f13
  refine Ss.of (show As l b 14 y_S_last KC RC K2 (I) 0 [.ref 0, .int (x), uu] [] from ?_)
  refine aw_iload_n rfl rfl d_S_last_0 ?_
  refine aw_if_ltI (tgt := 28) (x).toInt rfl (by decide) d_S_last_1 (fun c1 => ?_) (fun c1 => ?_)
  · refine aw_iconst (v := (-1 : Int32)) rfl d_S_last_28 ?_
    exact as_reti rfl d_S_last_29 (hK _)
  · refine aw_iload_n rfl rfl d_S_last_4 ?_
    refine aw_aload_n rfl rfl d_S_last_5 ?_
    refine aw_getr fl_S_12 kc_0 (by decide) rfl rc_0_0 d_S_last_6 ?_
    refine aw_getr fl_S_191 kc_1 (by decide) rfl rc_1_9 d_S_last_9 ?_
    refine aw_alen kc_12 (by decide) d_S_last_12 ?_
    refine aw_icmp_geI (tgt := 28) (x).toInt (30) rfl (by decide +kernel) (by decide) d_S_last_13 (fun c2 => ?_) (fun c2 => ?_)
    · refine aw_iconst (v := (-1 : Int32)) rfl d_S_last_28 ?_
      exact as_reti rfl d_S_last_29 (hK _)
    · refine aw_aload_n rfl rfl d_S_last_16 ?_
      refine aw_getr fl_S_12 kc_0 (by decide) rfl rc_0_0 d_S_last_17 ?_
      refine aw_getr fl_S_194 kc_1 (by decide) rfl rc_1_8 d_S_last_20 ?_
      refine aw_iconst (v := nI 0) ci_0 d_S_last_23 ?_
      refine aw_iald (j := 0) kc_11 (vp_in_nI (by decide) (by decide)) (nI_clamp (by decide)) d_S_last_24 ?_
      refine aw_top (x2 := nI 0) (f7) ?_
      refine aw_if_neI (tgt := 30) (0) (by decide +kernel) (by decide) d_S_last_25 (fun q => absurd q (by decide)) (fun _ => ?_)
      refine aw_iconst (v := (-1 : Int32)) rfl d_S_last_28 ?_
      exact as_reti rfl d_S_last_29 (hK _)
set_option maxRecDepth 20000 in
theorem cs_count {K2 : K2T} {I : Nat → Nat → Int32} (hR : FRc I) {x : Int32} (hg : (0 ≤ x.toInt ∧ x.toInt ≤ 6) ∨ (11 ≤ x.toInt ∧ x.toInt ≤ 38 ∧ 1 ≤ x.toInt % 10 ∧ x.toInt % 10 ≤ 8) → ∀ I', K2 (some (.int (nI 0))) I') (hb : ¬ ((0 ≤ x.toInt ∧ x.toInt ≤ 6) ∨ (11 ≤ x.toInt ∧ x.toInt ≤ 38 ∧ 1 ≤ x.toInt % 10 ∧ x.toInt % 10 ≤ 8)) → ∀ I', K2 (some (.int (-1))) I') : Ss l b 14 y_S_count KC RC [.ref 0, .int (x)] (I) K2 := by
  obtain ⟨hF, r6, r7, r11, t1, t2, t4, hh, tm, h7, h8, h9, q1, q10, q11, im, p0⟩ := hR
  have hF0 := hF
  obtain ⟨f0, f1, f2, f3, f4, f5, f6, f7, f8, f9, f10, f11, f12, f13, fb⟩ := hF
  have f0 : ∀ j, j < 32 → I 5 j = nI 0 := f0
  have f1 : ∀ j, j < 6 → I 9 j = nI 0 := f1
  have f2 : ∀ j, j < 6 → I 10 j = nI 9 := f2
  have f3 : I 2 0 = nI (4) := f3
  have f4 : I 2 3 = nI 0 := f4
  have f5 : I 2 5 = nI (0) := f5
  have f6 : I 11 1 = nI (0) := f6
  have f7 : I 11 0 = nI (0) := f7
  have f8 : ∀ j, j < 40 → j ≠ 0 → j ≠ 1 → j ≠ 3 → I 11 j = nI 0 := f8
  have f9 : I 16 4 = nI 0 := f9
  have f10 : I 21 4 = nI 0 := f10
  have f11 : I 26 4 = nI 0 := f11
  have f12 : I 31 4 = nI 0 := f12
  have f13 : I 36 4 = nI 0 := f13
  refine Ss.of (show As l b 14 y_S_count KC RC K2 (I) 0 [.ref 0, .int (x), uu] [] from ?_)
  refine aw_iload_n rfl rfl d_S_count_0 ?_
  refine aw_if_ltI (tgt := 20) (x).toInt rfl (by decide) d_S_count_1 (fun c1 => ?_) (fun c1 => ?_)
  · refine aw_iload_n rfl rfl d_S_count_20 ?_
    refine aw_bipush (v := nI 10) cb_10 d_S_count_21 ?_
    refine aw_irem (by decide +kernel) d_S_count_23 ?_
    have er : 0 ≤ x.toInt → (x - x / nI 10 * nI 10).toInt = x.toInt % 10 := irem10
    refine aw_istore_n (lv2 := [.ref 0, .int (x), .int ((x - x / nI 10 * nI 10))]) rfl (by decide) rfl d_S_count_24 ?_
    refine aw_iload_n rfl rfl d_S_count_25 ?_
    refine aw_bipush (v := nI 10) cb_10 d_S_count_26 ?_
    refine aw_icmp_ltI (tgt := 48) (x).toInt (10) rfl (by decide +kernel) (by decide) d_S_count_28 (fun _ => ?_) (fun q => absurd q (by omega))
    refine aw_iconst (v := (-1 : Int32)) rfl d_S_count_48 ?_
    exact as_reti rfl d_S_count_49 (hb (by omega) _)
  · refine aw_iload_n rfl rfl d_S_count_4 ?_
    refine aw_bipush (v := nI 6) cb_6 d_S_count_5 ?_
    refine aw_icmp_gtI (tgt := 20) (x).toInt (6) rfl (by decide +kernel) (by decide) d_S_count_7 (fun c2 => ?_) (fun c2 => ?_)
    · refine aw_iload_n rfl rfl d_S_count_20 ?_
      refine aw_bipush (v := nI 10) cb_10 d_S_count_21 ?_
      refine aw_irem (by decide +kernel) d_S_count_23 ?_
      have er : 0 ≤ x.toInt → (x - x / nI 10 * nI 10).toInt = x.toInt % 10 := irem10
      refine aw_istore_n (lv2 := [.ref 0, .int (x), .int ((x - x / nI 10 * nI 10))]) rfl (by decide) rfl d_S_count_24 ?_
      refine aw_iload_n rfl rfl d_S_count_25 ?_
      refine aw_bipush (v := nI 10) cb_10 d_S_count_26 ?_
      refine aw_icmp_ltI (tgt := 48) (x).toInt (10) rfl (by decide +kernel) (by decide) d_S_count_28 (fun c3 => ?_) (fun c3 => ?_)
      · refine aw_iconst (v := (-1 : Int32)) rfl d_S_count_48 ?_
        exact as_reti rfl d_S_count_49 (hb (by omega) _)
      · refine aw_iload_n rfl rfl d_S_count_31 ?_
        refine aw_bipush (v := nI 48) cb_48 d_S_count_32 ?_
        refine aw_icmp_gtI (tgt := 48) (x).toInt (48) rfl (by decide +kernel) (by decide) d_S_count_34 (fun c4 => ?_) (fun c4 => ?_)
        · refine aw_iconst (v := (-1 : Int32)) rfl d_S_count_48 ?_
          exact as_reti rfl d_S_count_49 (hb (by omega) _)
        · refine aw_iload_n rfl rfl d_S_count_37 ?_
          refine aw_iconst (v := nI 1) ci_1 d_S_count_38 ?_
          refine aw_icmp_ltI (tgt := 48) ((x - x / nI 10 * nI 10)).toInt (1) rfl (by decide +kernel) (by decide) d_S_count_39 (fun c5 => ?_) (fun c5 => ?_)
          · refine aw_iconst (v := (-1 : Int32)) rfl d_S_count_48 ?_
            exact as_reti rfl d_S_count_49 (hb (by omega) _)
          · refine aw_iload_n rfl rfl d_S_count_42 ?_
            refine aw_bipush (v := nI 8) cb_8 d_S_count_43 ?_
            refine aw_icmp_leI (tgt := 50) ((x - x / nI 10 * nI 10)).toInt (8) rfl (by decide +kernel) (by decide) d_S_count_45 (fun c6 => ?_) (fun c6 => ?_)
            · refine aw_iload_n rfl rfl d_S_count_50 ?_
              refine aw_bipush (v := nI 40) cb_40 d_S_count_51 ?_
              refine aw_icmp_geI (tgt := 68) (x).toInt (40) rfl (by decide +kernel) (by decide) d_S_count_53 (fun c7 => ?_) (fun c7 => ?_)
              · refine aw_aload_n rfl rfl d_S_count_68 ?_
                refine aw_getr fl_S_12 kc_0 (by decide) rfl rc_0_0 d_S_count_69 ?_
                refine aw_iload_n rfl rfl d_S_count_72 ?_
                refine as_callV (as := [.int ((x - x / nI 10 * nI 10))]) (d' := 13) (q := ("SinglesUp$Hill", zT2, 14)) mo_H_meanWait lk_S_197 kc_1 rfl rfl rfl ⟨by decide, by decide⟩ rfl rfl (by decide) d_S_count_73 (Ss.of (show As l b 13 y_H_meanWait KC RC _ (I) 0 [.ref 1, .int ((x - x / nI 10 * nI 10))] [] from ?_))
                refine aw_iload_n rfl rfl d_H_meanWait_0 ?_
                refine aw_iconst (v := nI 1) ci_1 d_H_meanWait_1 ?_
                refine aw_icmp_ltI (tgt := 23) ((x - x / nI 10 * nI 10)).toInt (1) rfl (by decide +kernel) (by decide) d_H_meanWait_2 (fun q => absurd q (by omega)) (fun _ => ?_)
                refine aw_iload_n rfl rfl d_H_meanWait_5 ?_
                refine aw_bipush (v := nI 8) cb_8 d_H_meanWait_6 ?_
                refine aw_icmp_gtI (tgt := 23) ((x - x / nI 10 * nI 10)).toInt (8) rfl (by decide +kernel) (by decide) d_H_meanWait_8 (fun q => absurd q (by omega)) (fun _ => ?_)
                obtain ⟨w2, hw2, ew2, gw2⟩ := nI_of_range (x := (x - x / nI 10 * nI 10)) (n := 9) (by omega) (by omega)
                have lw2 := congrArg Int32.toInt ew2
                rw [gw2] at lw2
                rw [ew2]
                refine aw_aload_n rfl rfl d_H_meanWait_11 ?_
                refine aw_getr fl_H_37 kc_1 (by decide) rfl rc_1_8 d_H_meanWait_12 ?_
                refine aw_bipush (v := nI 10) cb_10 d_H_meanWait_15 ?_
                refine aw_iload_n rfl rfl d_H_meanWait_17 ?_
                refine aw_iaddN d_H_meanWait_18 ?_
                refine aw_iald (j := (10 + w2)) kc_11 (vp_in_nI (by omega) (by decide)) (nI_clamp (by omega)) d_H_meanWait_19 ?_
                refine aw_top (x2 := nI 0) ((f8 ((10 + w2)) (by omega) (by omega) (by omega) (by omega))) ?_
                refine aw_if_gtI (tgt := 25) (0) (by decide +kernel) (by decide) d_H_meanWait_20 (fun q => absurd q (by decide)) (fun _ => ?_)
                refine aw_iconst (v := (-1 : Int32)) rfl d_H_meanWait_23 ?_
                refine as_reti rfl d_H_meanWait_24 ?_
                refine (show As l b 14 y_S_count KC RC K2 (I) 76 [.ref 0, .int (x), .int (nI (w2))] [.int ((-1 : Int32))] from ?_)
                exact as_reti rfl d_S_count_76 (hb (by omega) _)
              · refine aw_aload_n rfl rfl d_S_count_56 ?_
                refine aw_getr fl_S_12 kc_0 (by decide) rfl rc_0_0 d_S_count_57 ?_
                refine aw_getr fl_S_194 kc_1 (by decide) rfl rc_1_8 d_S_count_60 ?_
                refine aw_iload_n rfl rfl d_S_count_63 ?_
                refine aw_iald (j := (x).toInt.toNat) kc_11 (vp_in_iff.mpr ⟨by omega, by omega⟩) rfl d_S_count_64 ?_
                refine aw_top (x2 := nI 0) ((f8 ((x).toInt.toNat) (by omega) (by omega) (by omega) (by omega))) ?_
                refine aw_goto (tgt := 76) (by decide) d_S_count_65 ?_
                exact as_reti rfl d_S_count_76 (hg (by omega) _)
            · refine aw_iconst (v := (-1 : Int32)) rfl d_S_count_48 ?_
              exact as_reti rfl d_S_count_49 (hb (by omega) _)
    · obtain ⟨w1, hw1, ew1, gw1⟩ := nI_of_range (x := x) (n := 7) (by omega) (by omega)
      subst ew1
      rcases (show w1 = 0 ∨ w1 = 1 ∨ w1 = 2 ∨ w1 = 3 ∨ w1 = 4 ∨ w1 = 5 ∨ w1 = 6 by omega) with rfl | rfl | rfl | rfl | rfl | rfl | rfl
      · refine aw_aload_n rfl rfl d_S_count_10 ?_
        refine aw_getr fl_S_12 kc_0 (by decide) rfl rc_0_0 d_S_count_11 ?_
        refine aw_getr fl_S_194 kc_1 (by decide) rfl rc_1_8 d_S_count_14 ?_
        refine aw_iload_n rfl rfl d_S_count_17 ?_
        refine aw_iald (j := 0) kc_11 (vp_in_nI (by decide) (by decide)) (nI_clamp (by decide)) d_S_count_18 ?_
        refine aw_top (x2 := nI 0) (f7) ?_
        exact as_reti rfl d_S_count_19 (hg (by omega) _)
      · refine aw_aload_n rfl rfl d_S_count_10 ?_
        refine aw_getr fl_S_12 kc_0 (by decide) rfl rc_0_0 d_S_count_11 ?_
        refine aw_getr fl_S_194 kc_1 (by decide) rfl rc_1_8 d_S_count_14 ?_
        refine aw_iload_n rfl rfl d_S_count_17 ?_
        refine aw_iald (j := 1) kc_11 (vp_in_nI (by decide) (by decide)) (nI_clamp (by decide)) d_S_count_18 ?_
        refine aw_top (x2 := nI 0) (f6) ?_
        exact as_reti rfl d_S_count_19 (hg (by omega) _)
      · refine aw_aload_n rfl rfl d_S_count_10 ?_
        refine aw_getr fl_S_12 kc_0 (by decide) rfl rc_0_0 d_S_count_11 ?_
        refine aw_getr fl_S_194 kc_1 (by decide) rfl rc_1_8 d_S_count_14 ?_
        refine aw_iload_n rfl rfl d_S_count_17 ?_
        refine aw_iald (j := 2) kc_11 (vp_in_nI (by decide) (by decide)) (nI_clamp (by decide)) d_S_count_18 ?_
        refine aw_top (x2 := nI 0) (f8 2 (by decide) (by decide) (by decide) (by decide)) ?_
        exact as_reti rfl d_S_count_19 (hg (by omega) _)
      · refine aw_aload_n rfl rfl d_S_count_10 ?_
        refine aw_getr fl_S_12 kc_0 (by decide) rfl rc_0_0 d_S_count_11 ?_
        refine aw_getr fl_S_194 kc_1 (by decide) rfl rc_1_8 d_S_count_14 ?_
        refine aw_iload_n rfl rfl d_S_count_17 ?_
        refine aw_iald (j := 3) kc_11 (vp_in_nI (by decide) (by decide)) (nI_clamp (by decide)) d_S_count_18 ?_
        refine aw_top (x2 := nI 0) (tm) ?_
        exact as_reti rfl d_S_count_19 (hg (by omega) _)
      · refine aw_aload_n rfl rfl d_S_count_10 ?_
        refine aw_getr fl_S_12 kc_0 (by decide) rfl rc_0_0 d_S_count_11 ?_
        refine aw_getr fl_S_194 kc_1 (by decide) rfl rc_1_8 d_S_count_14 ?_
        refine aw_iload_n rfl rfl d_S_count_17 ?_
        refine aw_iald (j := 4) kc_11 (vp_in_nI (by decide) (by decide)) (nI_clamp (by decide)) d_S_count_18 ?_
        refine aw_top (x2 := nI 0) (f8 4 (by decide) (by decide) (by decide) (by decide)) ?_
        exact as_reti rfl d_S_count_19 (hg (by omega) _)
      · refine aw_aload_n rfl rfl d_S_count_10 ?_
        refine aw_getr fl_S_12 kc_0 (by decide) rfl rc_0_0 d_S_count_11 ?_
        refine aw_getr fl_S_194 kc_1 (by decide) rfl rc_1_8 d_S_count_14 ?_
        refine aw_iload_n rfl rfl d_S_count_17 ?_
        refine aw_iald (j := 5) kc_11 (vp_in_nI (by decide) (by decide)) (nI_clamp (by decide)) d_S_count_18 ?_
        refine aw_top (x2 := nI 0) (f8 5 (by decide) (by decide) (by decide) (by decide)) ?_
        exact as_reti rfl d_S_count_19 (hg (by omega) _)
      · refine aw_aload_n rfl rfl d_S_count_10 ?_
        refine aw_getr fl_S_12 kc_0 (by decide) rfl rc_0_0 d_S_count_11 ?_
        refine aw_getr fl_S_194 kc_1 (by decide) rfl rc_1_8 d_S_count_14 ?_
        refine aw_iload_n rfl rfl d_S_count_17 ?_
        refine aw_iald (j := 6) kc_11 (vp_in_nI (by decide) (by decide)) (nI_clamp (by decide)) d_S_count_18 ?_
        refine aw_top (x2 := nI 0) (f8 6 (by decide) (by decide) (by decide) (by decide)) ?_
        exact as_reti rfl d_S_count_19 (hg (by omega) _)
end
