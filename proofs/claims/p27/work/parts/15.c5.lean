/-! the class: shallow functions and the machine -/
abbrev y_M_tillSits : MI := (⟨"SinglesUp$Mind", "tillSits", "(LSinglesUp$Hill;I)I"⟩, prog_7_method_6_code, 3, some .int)
theorem ck_M_tillSits_0 : (y_M_tillSits.2.1.data.toList.drop 0).take 32 = [42, 180, 0, 12, 43, 182, 0, 29, 42, 43, 180, 0, 57, 28, 3, 182, 0, 61, 182, 0, 66, 172] := by decide +kernel
theorem d_M_tillSits_0 : decode y_M_tillSits.2.1 0 = .ok (.aload_n 0, 1) := op_aload_n0 (gk (k := 0) (t := 0) ck_M_tillSits_0 rfl)
theorem d_M_tillSits_1 : decode y_M_tillSits.2.1 1 = .ok (.getfield 12, 3) := op_getfield (gk (k := 0) (t := 1) ck_M_tillSits_0 rfl) (gk (k := 0) (t := 2) ck_M_tillSits_0 rfl) (gk (k := 0) (t := 3) ck_M_tillSits_0 rfl) rfl
theorem d_M_tillSits_4 : decode y_M_tillSits.2.1 4 = .ok (.aload_n 1, 1) := op_aload_n1 (gk (k := 0) (t := 4) ck_M_tillSits_0 rfl)
theorem d_M_tillSits_5 : decode y_M_tillSits.2.1 5 = .ok (.invokevirtual 29, 3) := op_invokevirtual (gk (k := 0) (t := 5) ck_M_tillSits_0 rfl) (gk (k := 0) (t := 6) ck_M_tillSits_0 rfl) (gk (k := 0) (t := 7) ck_M_tillSits_0 rfl) rfl
theorem d_M_tillSits_8 : decode y_M_tillSits.2.1 8 = .ok (.aload_n 0, 1) := op_aload_n0 (gk (k := 0) (t := 8) ck_M_tillSits_0 rfl)
theorem d_M_tillSits_9 : decode y_M_tillSits.2.1 9 = .ok (.aload_n 1, 1) := op_aload_n1 (gk (k := 0) (t := 9) ck_M_tillSits_0 rfl)
theorem d_M_tillSits_10 : decode y_M_tillSits.2.1 10 = .ok (.getfield 57, 3) := op_getfield (gk (k := 0) (t := 10) ck_M_tillSits_0 rfl) (gk (k := 0) (t := 11) ck_M_tillSits_0 rfl) (gk (k := 0) (t := 12) ck_M_tillSits_0 rfl) rfl
theorem d_M_tillSits_13 : decode y_M_tillSits.2.1 13 = .ok (.iload_n 2, 1) := op_iload_n2 (gk (k := 0) (t := 13) ck_M_tillSits_0 rfl)
theorem d_M_tillSits_14 : decode y_M_tillSits.2.1 14 = .ok (.iconst 0, 1) := op_iconst0 (gk (k := 0) (t := 14) ck_M_tillSits_0 rfl)
theorem lk_M_61 : LkV "SinglesUp$Mind" 61 y_L_get := ⟨tw_c3 197 (by decide +kernel) rfl, tw_c3 198 (by decide +kernel) rfl, Or.inl (tw_c5 7 (by decide +kernel) rfl)⟩
theorem d_M_tillSits_15 : decode y_M_tillSits.2.1 15 = .ok (.invokevirtual 61, 3) := op_invokevirtual (gk (k := 0) (t := 15) ck_M_tillSits_0 rfl) (gk (k := 0) (t := 16) ck_M_tillSits_0 rfl) (gk (k := 0) (t := 17) ck_M_tillSits_0 rfl) rfl
theorem lk_M_66 : LkV "SinglesUp$Mind" 66 y_M_countTill := ⟨tw_c5 10 (by decide +kernel) rfl, tw_in 38 (by decide +kernel) rfl, Or.inl (tw_c5 8 (by decide +kernel) rfl)⟩
set_option maxRecDepth 100000 in
theorem mo_M_countTill : MOk y_M_countTill 1 := ⟨by decide +kernel, tw_c5 11 rfl rfl, tw_c1 6 (by decide +kernel) rfl, by decide +kernel, by decide +kernel, by decide +kernel⟩
theorem d_M_tillSits_18 : decode y_M_tillSits.2.1 18 = .ok (.invokevirtual 66, 3) := op_invokevirtual (gk (k := 0) (t := 18) ck_M_tillSits_0 rfl) (gk (k := 0) (t := 19) ck_M_tillSits_0 rfl) (gk (k := 0) (t := 20) ck_M_tillSits_0 rfl) rfl
theorem d_M_tillSits_21 : decode y_M_tillSits.2.1 21 = .ok (.ireturn, 1) := op_ireturn (gk (k := 0) (t := 21) ck_M_tillSits_0 rfl)
abbrev y_S_till : MI := (⟨"SinglesUp", "till", "(II)I"⟩, prog_1_method_26_code, 3, some .int)
theorem ck_S_till_0 : (y_S_till.2.1.data.toList.drop 0).take 32 = [42, 180, 0, 12, 180, 0, 77, 27, 28, 182, 0, 144, 153, 0, 23, 42, 180, 0, 22, 42, 180, 0, 12, 27, 16, 40, 104, 28, 96, 182, 0, 226] := by decide +kernel
theorem d_S_till_0 : decode y_S_till.2.1 0 = .ok (.aload_n 0, 1) := op_aload_n0 (gk (k := 0) (t := 0) ck_S_till_0 rfl)
theorem d_S_till_1 : decode y_S_till.2.1 1 = .ok (.getfield 12, 3) := op_getfield (gk (k := 0) (t := 1) ck_S_till_0 rfl) (gk (k := 0) (t := 2) ck_S_till_0 rfl) (gk (k := 0) (t := 3) ck_S_till_0 rfl) rfl
theorem d_S_till_4 : decode y_S_till.2.1 4 = .ok (.getfield 77, 3) := op_getfield (gk (k := 0) (t := 4) ck_S_till_0 rfl) (gk (k := 0) (t := 5) ck_S_till_0 rfl) (gk (k := 0) (t := 6) ck_S_till_0 rfl) rfl
theorem d_S_till_7 : decode y_S_till.2.1 7 = .ok (.iload_n 1, 1) := op_iload_n1 (gk (k := 0) (t := 7) ck_S_till_0 rfl)
theorem d_S_till_8 : decode y_S_till.2.1 8 = .ok (.iload_n 2, 1) := op_iload_n2 (gk (k := 0) (t := 8) ck_S_till_0 rfl)
theorem d_S_till_9 : decode y_S_till.2.1 9 = .ok (.invokevirtual 144, 3) := op_invokevirtual (gk (k := 0) (t := 9) ck_S_till_0 rfl) (gk (k := 0) (t := 10) ck_S_till_0 rfl) (gk (k := 0) (t := 11) ck_S_till_0 rfl) rfl
theorem d_S_till_12 : decode y_S_till.2.1 12 = .ok (.ifCond .eq 23, 3) := op_if_eq (gk (k := 0) (t := 12) ck_S_till_0 rfl) (gk (k := 0) (t := 13) ck_S_till_0 rfl) (gk (k := 0) (t := 14) ck_S_till_0 rfl) (by decide +kernel)
theorem ck_S_till_1 : (y_S_till.2.1.data.toList.drop 32).take 32 = [167, 0, 4, 2, 172] := by decide +kernel
theorem d_S_till_35 : decode y_S_till.2.1 35 = .ok (.iconst (-1), 1) := op_iconstm1 (gk (k := 32) (t := 3) ck_S_till_1 rfl)
theorem d_S_till_36 : decode y_S_till.2.1 36 = .ok (.ireturn, 1) := op_ireturn (gk (k := 32) (t := 4) ck_S_till_1 rfl)
theorem d_S_till_15 : decode y_S_till.2.1 15 = .ok (.aload_n 0, 1) := op_aload_n0 (gk (k := 0) (t := 15) ck_S_till_0 rfl)
theorem d_S_till_16 : decode y_S_till.2.1 16 = .ok (.getfield 22, 3) := op_getfield (gk (k := 0) (t := 16) ck_S_till_0 rfl) (gk (k := 0) (t := 17) ck_S_till_0 rfl) (gk (k := 0) (t := 18) ck_S_till_0 rfl) rfl
theorem d_S_till_19 : decode y_S_till.2.1 19 = .ok (.aload_n 0, 1) := op_aload_n0 (gk (k := 0) (t := 19) ck_S_till_0 rfl)
theorem d_S_till_20 : decode y_S_till.2.1 20 = .ok (.getfield 12, 3) := op_getfield (gk (k := 0) (t := 20) ck_S_till_0 rfl) (gk (k := 0) (t := 21) ck_S_till_0 rfl) (gk (k := 0) (t := 22) ck_S_till_0 rfl) rfl
theorem d_S_till_23 : decode y_S_till.2.1 23 = .ok (.iload_n 1, 1) := op_iload_n1 (gk (k := 0) (t := 23) ck_S_till_0 rfl)
theorem d_S_till_24 : decode y_S_till.2.1 24 = .ok (.bipush 40, 2) := op_bipush (gk (k := 0) (t := 24) ck_S_till_0 rfl) (gk (k := 0) (t := 25) ck_S_till_0 rfl) rfl
theorem d_S_till_26 : decode y_S_till.2.1 26 = .ok (.imul, 1) := op_imul (gk (k := 0) (t := 26) ck_S_till_0 rfl)
theorem d_S_till_27 : decode y_S_till.2.1 27 = .ok (.iload_n 2, 1) := op_iload_n2 (gk (k := 0) (t := 27) ck_S_till_0 rfl)
theorem d_S_till_28 : decode y_S_till.2.1 28 = .ok (.iadd, 1) := op_iadd (gk (k := 0) (t := 28) ck_S_till_0 rfl)
theorem lk_S_226 : LkV "SinglesUp" 226 y_M_tillSits := ⟨tw_c5 4 (by decide +kernel) rfl, tw_c5 5 (by decide +kernel) rfl, Or.inl (tw_c5 3 (by decide +kernel) rfl)⟩
set_option maxRecDepth 100000 in
theorem mo_M_tillSits : MOk y_M_tillSits 2 := ⟨by decide +kernel, tw_c5 6 rfl rfl, tw_c1 6 (by decide +kernel) rfl, by decide +kernel, by decide +kernel, by decide +kernel⟩
theorem d_S_till_29 : decode y_S_till.2.1 29 = .ok (.invokevirtual 226, 3) := op_invokevirtual (gk (k := 0) (t := 29) ck_S_till_0 rfl) (gk (k := 0) (t := 30) ck_S_till_0 rfl) (gk (k := 0) (t := 31) ck_S_till_0 rfl) rfl
theorem d_S_till_32 : decode y_S_till.2.1 32 = .ok (.goto 4, 3) := op_goto (gk (k := 32) (t := 0) ck_S_till_1 rfl) (gk (k := 32) (t := 1) ck_S_till_1 rfl) (gk (k := 32) (t := 2) ck_S_till_1 rfl) (by decide +kernel)
abbrev y_L_canJoin : MI := (⟨"SinglesUp$Lines", "canJoin", "(II)Z"⟩, prog_6_method_16_code, 3, some .boolean)
theorem ck_L_canJoin_0 : (y_L_canJoin.2.1.data.toList.drop 0).take 32 = [27, 28, 159, 0, 41, 42, 27, 182, 0, 64, 153, 0, 33, 42, 28, 182, 0, 64, 153, 0, 25, 42, 27, 4, 182, 0, 53, 42, 28, 4, 182, 0] := by decide +kernel
theorem d_L_canJoin_0 : decode y_L_canJoin.2.1 0 = .ok (.iload_n 1, 1) := op_iload_n1 (gk (k := 0) (t := 0) ck_L_canJoin_0 rfl)
theorem d_L_canJoin_1 : decode y_L_canJoin.2.1 1 = .ok (.iload_n 2, 1) := op_iload_n2 (gk (k := 0) (t := 1) ck_L_canJoin_0 rfl)
theorem d_L_canJoin_2 : decode y_L_canJoin.2.1 2 = .ok (.if_icmp .eq 41, 3) := op_icmp_eq (gk (k := 0) (t := 2) ck_L_canJoin_0 rfl) (gk (k := 0) (t := 3) ck_L_canJoin_0 rfl) (gk (k := 0) (t := 4) ck_L_canJoin_0 rfl) (by decide +kernel)
theorem ck_L_canJoin_1 : (y_L_canJoin.2.1.data.toList.drop 32).take 32 = [53, 96, 16, 8, 163, 0, 7, 4, 167, 0, 4, 3, 172] := by decide +kernel
theorem d_L_canJoin_43 : decode y_L_canJoin.2.1 43 = .ok (.iconst 0, 1) := op_iconst0 (gk (k := 32) (t := 11) ck_L_canJoin_1 rfl)
theorem d_L_canJoin_44 : decode y_L_canJoin.2.1 44 = .ok (.ireturn, 1) := op_ireturn (gk (k := 32) (t := 12) ck_L_canJoin_1 rfl)
theorem d_L_canJoin_5 : decode y_L_canJoin.2.1 5 = .ok (.aload_n 0, 1) := op_aload_n0 (gk (k := 0) (t := 5) ck_L_canJoin_0 rfl)
theorem d_L_canJoin_6 : decode y_L_canJoin.2.1 6 = .ok (.iload_n 1, 1) := op_iload_n1 (gk (k := 0) (t := 6) ck_L_canJoin_0 rfl)
theorem lk_L_64 : LkV "SinglesUp$Lines" 64 y_L_isPlainAndTrue := ⟨tw_c4 100 (by decide +kernel) rfl, tw_c4 101 (by decide +kernel) rfl, Or.inl (tw_c5 30 (by decide +kernel) rfl)⟩
theorem d_L_canJoin_7 : decode y_L_canJoin.2.1 7 = .ok (.invokevirtual 64, 3) := op_invokevirtual (gk (k := 0) (t := 7) ck_L_canJoin_0 rfl) (gk (k := 0) (t := 8) ck_L_canJoin_0 rfl) (gk (k := 0) (t := 9) ck_L_canJoin_0 rfl) rfl
theorem d_L_canJoin_10 : decode y_L_canJoin.2.1 10 = .ok (.ifCond .eq 33, 3) := op_if_eq (gk (k := 0) (t := 10) ck_L_canJoin_0 rfl) (gk (k := 0) (t := 11) ck_L_canJoin_0 rfl) (gk (k := 0) (t := 12) ck_L_canJoin_0 rfl) (by decide +kernel)
theorem d_L_canJoin_13 : decode y_L_canJoin.2.1 13 = .ok (.aload_n 0, 1) := op_aload_n0 (gk (k := 0) (t := 13) ck_L_canJoin_0 rfl)
theorem d_L_canJoin_14 : decode y_L_canJoin.2.1 14 = .ok (.iload_n 2, 1) := op_iload_n2 (gk (k := 0) (t := 14) ck_L_canJoin_0 rfl)
theorem d_L_canJoin_15 : decode y_L_canJoin.2.1 15 = .ok (.invokevirtual 64, 3) := op_invokevirtual (gk (k := 0) (t := 15) ck_L_canJoin_0 rfl) (gk (k := 0) (t := 16) ck_L_canJoin_0 rfl) (gk (k := 0) (t := 17) ck_L_canJoin_0 rfl) rfl
theorem d_L_canJoin_18 : decode y_L_canJoin.2.1 18 = .ok (.ifCond .eq 25, 3) := op_if_eq (gk (k := 0) (t := 18) ck_L_canJoin_0 rfl) (gk (k := 0) (t := 19) ck_L_canJoin_0 rfl) (gk (k := 0) (t := 20) ck_L_canJoin_0 rfl) (by decide +kernel)
theorem d_L_canJoin_21 : decode y_L_canJoin.2.1 21 = .ok (.aload_n 0, 1) := op_aload_n0 (gk (k := 0) (t := 21) ck_L_canJoin_0 rfl)
theorem d_L_canJoin_22 : decode y_L_canJoin.2.1 22 = .ok (.iload_n 1, 1) := op_iload_n1 (gk (k := 0) (t := 22) ck_L_canJoin_0 rfl)
theorem d_L_canJoin_23 : decode y_L_canJoin.2.1 23 = .ok (.iconst 1, 1) := op_iconst1 (gk (k := 0) (t := 23) ck_L_canJoin_0 rfl)
theorem d_L_canJoin_24 : decode y_L_canJoin.2.1 24 = .ok (.invokevirtual 53, 3) := op_invokevirtual (gk (k := 0) (t := 24) ck_L_canJoin_0 rfl) (gk (k := 0) (t := 25) ck_L_canJoin_0 rfl) (gk (k := 0) (t := 26) ck_L_canJoin_0 rfl) rfl
theorem d_L_canJoin_27 : decode y_L_canJoin.2.1 27 = .ok (.aload_n 0, 1) := op_aload_n0 (gk (k := 0) (t := 27) ck_L_canJoin_0 rfl)
theorem d_L_canJoin_28 : decode y_L_canJoin.2.1 28 = .ok (.iload_n 2, 1) := op_iload_n2 (gk (k := 0) (t := 28) ck_L_canJoin_0 rfl)
theorem d_L_canJoin_29 : decode y_L_canJoin.2.1 29 = .ok (.iconst 1, 1) := op_iconst1 (gk (k := 0) (t := 29) ck_L_canJoin_0 rfl)
theorem d_L_canJoin_30 : decode y_L_canJoin.2.1 30 = .ok (.invokevirtual 53, 3) := op_invokevirtual (gk (k := 0) (t := 30) ck_L_canJoin_0 rfl) (gk (k := 0) (t := 31) ck_L_canJoin_0 rfl) (gk (k := 32) (t := 0) ck_L_canJoin_1 rfl) rfl
theorem d_L_canJoin_33 : decode y_L_canJoin.2.1 33 = .ok (.iadd, 1) := op_iadd (gk (k := 32) (t := 1) ck_L_canJoin_1 rfl)
theorem d_L_canJoin_34 : decode y_L_canJoin.2.1 34 = .ok (.bipush 8, 2) := op_bipush (gk (k := 32) (t := 2) ck_L_canJoin_1 rfl) (gk (k := 32) (t := 3) ck_L_canJoin_1 rfl) rfl
theorem d_L_canJoin_36 : decode y_L_canJoin.2.1 36 = .ok (.if_icmp .gt 7, 3) := op_icmp_gt (gk (k := 32) (t := 4) ck_L_canJoin_1 rfl) (gk (k := 32) (t := 5) ck_L_canJoin_1 rfl) (gk (k := 32) (t := 6) ck_L_canJoin_1 rfl) (by decide +kernel)
theorem d_L_canJoin_39 : decode y_L_canJoin.2.1 39 = .ok (.iconst 1, 1) := op_iconst1 (gk (k := 32) (t := 7) ck_L_canJoin_1 rfl)
theorem d_L_canJoin_40 : decode y_L_canJoin.2.1 40 = .ok (.goto 4, 3) := op_goto (gk (k := 32) (t := 8) ck_L_canJoin_1 rfl) (gk (k := 32) (t := 9) ck_L_canJoin_1 rfl) (gk (k := 32) (t := 10) ck_L_canJoin_1 rfl) (by decide +kernel)
abbrev y_L_remove : MI := (⟨"SinglesUp$Lines", "remove", "(I)V"⟩, prog_6_method_10_code, 5, none)
theorem ck_L_remove_0 : (y_L_remove.2.1.data.toList.drop 0).take 32 = [27, 16, 40, 108, 61, 27, 16, 40, 112, 62, 42, 28, 29, 182, 0, 43, 153, 0, 51, 42, 180, 0, 15, 28, 46, 29, 100, 4, 100, 54, 4, 42] := by decide +kernel
theorem d_L_remove_0 : decode y_L_remove.2.1 0 = .ok (.iload_n 1, 1) := op_iload_n1 (gk (k := 0) (t := 0) ck_L_remove_0 rfl)
theorem d_L_remove_1 : decode y_L_remove.2.1 1 = .ok (.bipush 40, 2) := op_bipush (gk (k := 0) (t := 1) ck_L_remove_0 rfl) (gk (k := 0) (t := 2) ck_L_remove_0 rfl) rfl
theorem d_L_remove_3 : decode y_L_remove.2.1 3 = .ok (.idiv, 1) := op_idiv (gk (k := 0) (t := 3) ck_L_remove_0 rfl)
theorem d_L_remove_4 : decode y_L_remove.2.1 4 = .ok (.istore_n 2, 1) := op_istore_n2 (gk (k := 0) (t := 4) ck_L_remove_0 rfl)
theorem d_L_remove_5 : decode y_L_remove.2.1 5 = .ok (.iload_n 1, 1) := op_iload_n1 (gk (k := 0) (t := 5) ck_L_remove_0 rfl)
theorem d_L_remove_6 : decode y_L_remove.2.1 6 = .ok (.bipush 40, 2) := op_bipush (gk (k := 0) (t := 6) ck_L_remove_0 rfl) (gk (k := 0) (t := 7) ck_L_remove_0 rfl) rfl
theorem d_L_remove_8 : decode y_L_remove.2.1 8 = .ok (.irem, 1) := op_irem (gk (k := 0) (t := 8) ck_L_remove_0 rfl)
theorem d_L_remove_9 : decode y_L_remove.2.1 9 = .ok (.istore_n 3, 1) := op_istore_n3 (gk (k := 0) (t := 9) ck_L_remove_0 rfl)
theorem d_L_remove_10 : decode y_L_remove.2.1 10 = .ok (.aload_n 0, 1) := op_aload_n0 (gk (k := 0) (t := 10) ck_L_remove_0 rfl)
theorem d_L_remove_11 : decode y_L_remove.2.1 11 = .ok (.iload_n 2, 1) := op_iload_n2 (gk (k := 0) (t := 11) ck_L_remove_0 rfl)
theorem d_L_remove_12 : decode y_L_remove.2.1 12 = .ok (.iload_n 3, 1) := op_iload_n3 (gk (k := 0) (t := 12) ck_L_remove_0 rfl)
theorem d_L_remove_13 : decode y_L_remove.2.1 13 = .ok (.invokevirtual 43, 3) := op_invokevirtual (gk (k := 0) (t := 13) ck_L_remove_0 rfl) (gk (k := 0) (t := 14) ck_L_remove_0 rfl) (gk (k := 0) (t := 15) ck_L_remove_0 rfl) rfl
theorem d_L_remove_16 : decode y_L_remove.2.1 16 = .ok (.ifCond .eq 51, 3) := op_if_eq (gk (k := 0) (t := 16) ck_L_remove_0 rfl) (gk (k := 0) (t := 17) ck_L_remove_0 rfl) (gk (k := 0) (t := 18) ck_L_remove_0 rfl) (by decide +kernel)
theorem ck_L_remove_2 : (y_L_remove.2.1.data.toList.drop 64).take 32 = [4, 100, 79, 177] := by decide +kernel
theorem d_L_remove_67 : decode y_L_remove.2.1 67 = .ok (.return_, 1) := op_return_ (gk (k := 64) (t := 3) ck_L_remove_2 rfl)
theorem d_L_remove_19 : decode y_L_remove.2.1 19 = .ok (.aload_n 0, 1) := op_aload_n0 (gk (k := 0) (t := 19) ck_L_remove_0 rfl)
theorem d_L_remove_20 : decode y_L_remove.2.1 20 = .ok (.getfield 15, 3) := op_getfield (gk (k := 0) (t := 20) ck_L_remove_0 rfl) (gk (k := 0) (t := 21) ck_L_remove_0 rfl) (gk (k := 0) (t := 22) ck_L_remove_0 rfl) rfl
theorem d_L_remove_23 : decode y_L_remove.2.1 23 = .ok (.iload_n 2, 1) := op_iload_n2 (gk (k := 0) (t := 23) ck_L_remove_0 rfl)
theorem d_L_remove_24 : decode y_L_remove.2.1 24 = .ok (.iaload, 1) := op_iaload (gk (k := 0) (t := 24) ck_L_remove_0 rfl)
theorem d_L_remove_25 : decode y_L_remove.2.1 25 = .ok (.iload_n 3, 1) := op_iload_n3 (gk (k := 0) (t := 25) ck_L_remove_0 rfl)
theorem d_L_remove_26 : decode y_L_remove.2.1 26 = .ok (.isub, 1) := op_isub (gk (k := 0) (t := 26) ck_L_remove_0 rfl)
theorem d_L_remove_27 : decode y_L_remove.2.1 27 = .ok (.iconst 1, 1) := op_iconst1 (gk (k := 0) (t := 27) ck_L_remove_0 rfl)
theorem d_L_remove_28 : decode y_L_remove.2.1 28 = .ok (.isub, 1) := op_isub (gk (k := 0) (t := 28) ck_L_remove_0 rfl)
theorem d_L_remove_29 : decode y_L_remove.2.1 29 = .ok (.istore 4, 2) := op_istore (gk (k := 0) (t := 29) ck_L_remove_0 rfl) (gk (k := 0) (t := 30) ck_L_remove_0 rfl) rfl
theorem d_L_remove_31 : decode y_L_remove.2.1 31 = .ok (.aload_n 0, 1) := op_aload_n0 (gk (k := 0) (t := 31) ck_L_remove_0 rfl)
theorem ck_L_remove_1 : (y_L_remove.2.1.data.toList.drop 32).take 32 = [180, 0, 9, 27, 4, 96, 16, 6, 104, 42, 180, 0, 9, 27, 16, 6, 104, 21, 4, 16, 6, 104, 184, 0, 27, 42, 180, 0, 15, 28, 92, 46] := by decide +kernel
theorem d_L_remove_32 : decode y_L_remove.2.1 32 = .ok (.getfield 9, 3) := op_getfield (gk (k := 32) (t := 0) ck_L_remove_1 rfl) (gk (k := 32) (t := 1) ck_L_remove_1 rfl) (gk (k := 32) (t := 2) ck_L_remove_1 rfl) rfl
theorem d_L_remove_35 : decode y_L_remove.2.1 35 = .ok (.iload_n 1, 1) := op_iload_n1 (gk (k := 32) (t := 3) ck_L_remove_1 rfl)
theorem d_L_remove_36 : decode y_L_remove.2.1 36 = .ok (.iconst 1, 1) := op_iconst1 (gk (k := 32) (t := 4) ck_L_remove_1 rfl)
theorem d_L_remove_37 : decode y_L_remove.2.1 37 = .ok (.iadd, 1) := op_iadd (gk (k := 32) (t := 5) ck_L_remove_1 rfl)
theorem d_L_remove_38 : decode y_L_remove.2.1 38 = .ok (.bipush 6, 2) := op_bipush (gk (k := 32) (t := 6) ck_L_remove_1 rfl) (gk (k := 32) (t := 7) ck_L_remove_1 rfl) rfl
theorem d_L_remove_40 : decode y_L_remove.2.1 40 = .ok (.imul, 1) := op_imul (gk (k := 32) (t := 8) ck_L_remove_1 rfl)
theorem d_L_remove_41 : decode y_L_remove.2.1 41 = .ok (.aload_n 0, 1) := op_aload_n0 (gk (k := 32) (t := 9) ck_L_remove_1 rfl)
theorem d_L_remove_42 : decode y_L_remove.2.1 42 = .ok (.getfield 9, 3) := op_getfield (gk (k := 32) (t := 10) ck_L_remove_1 rfl) (gk (k := 32) (t := 11) ck_L_remove_1 rfl) (gk (k := 32) (t := 12) ck_L_remove_1 rfl) rfl
theorem d_L_remove_45 : decode y_L_remove.2.1 45 = .ok (.iload_n 1, 1) := op_iload_n1 (gk (k := 32) (t := 13) ck_L_remove_1 rfl)
theorem d_L_remove_46 : decode y_L_remove.2.1 46 = .ok (.bipush 6, 2) := op_bipush (gk (k := 32) (t := 14) ck_L_remove_1 rfl) (gk (k := 32) (t := 15) ck_L_remove_1 rfl) rfl
theorem d_L_remove_48 : decode y_L_remove.2.1 48 = .ok (.imul, 1) := op_imul (gk (k := 32) (t := 16) ck_L_remove_1 rfl)
theorem d_L_remove_49 : decode y_L_remove.2.1 49 = .ok (.iload 4, 2) := op_iload (gk (k := 32) (t := 17) ck_L_remove_1 rfl) (gk (k := 32) (t := 18) ck_L_remove_1 rfl) rfl
theorem d_L_remove_51 : decode y_L_remove.2.1 51 = .ok (.bipush 6, 2) := op_bipush (gk (k := 32) (t := 19) ck_L_remove_1 rfl) (gk (k := 32) (t := 20) ck_L_remove_1 rfl) rfl
theorem d_L_remove_53 : decode y_L_remove.2.1 53 = .ok (.imul, 1) := op_imul (gk (k := 32) (t := 21) ck_L_remove_1 rfl)
theorem d_L_remove_54 : decode y_L_remove.2.1 54 = .ok (.invokestatic 27, 3) := op_invokestatic (gk (k := 32) (t := 22) ck_L_remove_1 rfl) (gk (k := 32) (t := 23) ck_L_remove_1 rfl) (gk (k := 32) (t := 24) ck_L_remove_1 rfl) rfl
theorem d_L_remove_57 : decode y_L_remove.2.1 57 = .ok (.aload_n 0, 1) := op_aload_n0 (gk (k := 32) (t := 25) ck_L_remove_1 rfl)
theorem d_L_remove_58 : decode y_L_remove.2.1 58 = .ok (.getfield 15, 3) := op_getfield (gk (k := 32) (t := 26) ck_L_remove_1 rfl) (gk (k := 32) (t := 27) ck_L_remove_1 rfl) (gk (k := 32) (t := 28) ck_L_remove_1 rfl) rfl
theorem d_L_remove_61 : decode y_L_remove.2.1 61 = .ok (.iload_n 2, 1) := op_iload_n2 (gk (k := 32) (t := 29) ck_L_remove_1 rfl)
theorem d_L_remove_62 : decode y_L_remove.2.1 62 = .ok (.dup2, 1) := op_dup2 (gk (k := 32) (t := 30) ck_L_remove_1 rfl)
theorem d_L_remove_63 : decode y_L_remove.2.1 63 = .ok (.iaload, 1) := op_iaload (gk (k := 32) (t := 31) ck_L_remove_1 rfl)
theorem d_L_remove_64 : decode y_L_remove.2.1 64 = .ok (.iconst 1, 1) := op_iconst1 (gk (k := 64) (t := 0) ck_L_remove_2 rfl)
theorem d_L_remove_65 : decode y_L_remove.2.1 65 = .ok (.isub, 1) := op_isub (gk (k := 64) (t := 1) ck_L_remove_2 rfl)
theorem d_L_remove_66 : decode y_L_remove.2.1 66 = .ok (.iastore, 1) := op_iastore (gk (k := 64) (t := 2) ck_L_remove_2 rfl)
abbrev y_L_join : MI := (⟨"SinglesUp$Lines", "join", "(II)V"⟩, prog_6_method_18_code, 4, none)
theorem ck_L_join_0 : (y_L_join.2.1.data.toList.drop 0).take 32 = [42, 27, 4, 182, 0, 53, 42, 28, 4, 182, 0, 53, 96, 62, 42, 28, 4, 29, 182, 0, 56, 42, 28, 5, 29, 182, 0, 56, 42, 27, 182, 0] := by decide +kernel
theorem d_L_join_0 : decode y_L_join.2.1 0 = .ok (.aload_n 0, 1) := op_aload_n0 (gk (k := 0) (t := 0) ck_L_join_0 rfl)
theorem d_L_join_1 : decode y_L_join.2.1 1 = .ok (.iload_n 1, 1) := op_iload_n1 (gk (k := 0) (t := 1) ck_L_join_0 rfl)
theorem d_L_join_2 : decode y_L_join.2.1 2 = .ok (.iconst 1, 1) := op_iconst1 (gk (k := 0) (t := 2) ck_L_join_0 rfl)
theorem d_L_join_3 : decode y_L_join.2.1 3 = .ok (.invokevirtual 53, 3) := op_invokevirtual (gk (k := 0) (t := 3) ck_L_join_0 rfl) (gk (k := 0) (t := 4) ck_L_join_0 rfl) (gk (k := 0) (t := 5) ck_L_join_0 rfl) rfl
theorem d_L_join_6 : decode y_L_join.2.1 6 = .ok (.aload_n 0, 1) := op_aload_n0 (gk (k := 0) (t := 6) ck_L_join_0 rfl)
theorem d_L_join_7 : decode y_L_join.2.1 7 = .ok (.iload_n 2, 1) := op_iload_n2 (gk (k := 0) (t := 7) ck_L_join_0 rfl)
theorem d_L_join_8 : decode y_L_join.2.1 8 = .ok (.iconst 1, 1) := op_iconst1 (gk (k := 0) (t := 8) ck_L_join_0 rfl)
theorem d_L_join_9 : decode y_L_join.2.1 9 = .ok (.invokevirtual 53, 3) := op_invokevirtual (gk (k := 0) (t := 9) ck_L_join_0 rfl) (gk (k := 0) (t := 10) ck_L_join_0 rfl) (gk (k := 0) (t := 11) ck_L_join_0 rfl) rfl
theorem d_L_join_12 : decode y_L_join.2.1 12 = .ok (.iadd, 1) := op_iadd (gk (k := 0) (t := 12) ck_L_join_0 rfl)
theorem d_L_join_13 : decode y_L_join.2.1 13 = .ok (.istore_n 3, 1) := op_istore_n3 (gk (k := 0) (t := 13) ck_L_join_0 rfl)
theorem d_L_join_14 : decode y_L_join.2.1 14 = .ok (.aload_n 0, 1) := op_aload_n0 (gk (k := 0) (t := 14) ck_L_join_0 rfl)
theorem d_L_join_15 : decode y_L_join.2.1 15 = .ok (.iload_n 2, 1) := op_iload_n2 (gk (k := 0) (t := 15) ck_L_join_0 rfl)
theorem d_L_join_16 : decode y_L_join.2.1 16 = .ok (.iconst 1, 1) := op_iconst1 (gk (k := 0) (t := 16) ck_L_join_0 rfl)
theorem d_L_join_17 : decode y_L_join.2.1 17 = .ok (.iload_n 3, 1) := op_iload_n3 (gk (k := 0) (t := 17) ck_L_join_0 rfl)
theorem d_L_join_18 : decode y_L_join.2.1 18 = .ok (.invokevirtual 56, 3) := op_invokevirtual (gk (k := 0) (t := 18) ck_L_join_0 rfl) (gk (k := 0) (t := 19) ck_L_join_0 rfl) (gk (k := 0) (t := 20) ck_L_join_0 rfl) rfl
theorem d_L_join_21 : decode y_L_join.2.1 21 = .ok (.aload_n 0, 1) := op_aload_n0 (gk (k := 0) (t := 21) ck_L_join_0 rfl)
theorem d_L_join_22 : decode y_L_join.2.1 22 = .ok (.iload_n 2, 1) := op_iload_n2 (gk (k := 0) (t := 22) ck_L_join_0 rfl)
theorem d_L_join_23 : decode y_L_join.2.1 23 = .ok (.iconst 2, 1) := op_iconst2 (gk (k := 0) (t := 23) ck_L_join_0 rfl)
theorem d_L_join_24 : decode y_L_join.2.1 24 = .ok (.iload_n 3, 1) := op_iload_n3 (gk (k := 0) (t := 24) ck_L_join_0 rfl)
theorem d_L_join_25 : decode y_L_join.2.1 25 = .ok (.invokevirtual 56, 3) := op_invokevirtual (gk (k := 0) (t := 25) ck_L_join_0 rfl) (gk (k := 0) (t := 26) ck_L_join_0 rfl) (gk (k := 0) (t := 27) ck_L_join_0 rfl) rfl
theorem d_L_join_28 : decode y_L_join.2.1 28 = .ok (.aload_n 0, 1) := op_aload_n0 (gk (k := 0) (t := 28) ck_L_join_0 rfl)
theorem d_L_join_29 : decode y_L_join.2.1 29 = .ok (.iload_n 1, 1) := op_iload_n1 (gk (k := 0) (t := 29) ck_L_join_0 rfl)
theorem lk_L_67 : LkV "SinglesUp$Lines" 67 y_L_remove := ⟨tw_c5 40 (by decide +kernel) rfl, tw_c5 41 (by decide +kernel) rfl, Or.inl (tw_c5 39 (by decide +kernel) rfl)⟩
set_option maxRecDepth 100000 in
theorem mo_L_remove : MOk y_L_remove 1 := ⟨by decide +kernel, tw_c5 42 rfl rfl, tw_c1 3 (by decide +kernel) rfl, by decide +kernel, by decide +kernel, by decide +kernel⟩
theorem ck_L_join_1 : (y_L_join.2.1.data.toList.drop 32).take 32 = [67, 177] := by decide +kernel
theorem d_L_join_30 : decode y_L_join.2.1 30 = .ok (.invokevirtual 67, 3) := op_invokevirtual (gk (k := 0) (t := 30) ck_L_join_0 rfl) (gk (k := 0) (t := 31) ck_L_join_0 rfl) (gk (k := 32) (t := 0) ck_L_join_1 rfl) rfl
theorem d_L_join_33 : decode y_L_join.2.1 33 = .ok (.return_, 1) := op_return_ (gk (k := 32) (t := 1) ck_L_join_1 rfl)
abbrev y_M_tillJoined : MI := (⟨"SinglesUp$Mind", "tillJoined", "(LSinglesUp$Hill;II)I"⟩, prog_7_method_7_code, 4, some .int)
theorem ck_M_tillJoined_0 : (y_M_tillJoined.2.1.data.toList.drop 0).take 32 = [42, 180, 0, 12, 43, 182, 0, 29, 42, 180, 0, 12, 180, 0, 57, 28, 29, 182, 0, 70, 42, 43, 180, 0, 57, 29, 3, 182, 0, 61, 182, 0] := by decide +kernel
theorem d_M_tillJoined_0 : decode y_M_tillJoined.2.1 0 = .ok (.aload_n 0, 1) := op_aload_n0 (gk (k := 0) (t := 0) ck_M_tillJoined_0 rfl)
theorem d_M_tillJoined_1 : decode y_M_tillJoined.2.1 1 = .ok (.getfield 12, 3) := op_getfield (gk (k := 0) (t := 1) ck_M_tillJoined_0 rfl) (gk (k := 0) (t := 2) ck_M_tillJoined_0 rfl) (gk (k := 0) (t := 3) ck_M_tillJoined_0 rfl) rfl
theorem d_M_tillJoined_4 : decode y_M_tillJoined.2.1 4 = .ok (.aload_n 1, 1) := op_aload_n1 (gk (k := 0) (t := 4) ck_M_tillJoined_0 rfl)
theorem d_M_tillJoined_5 : decode y_M_tillJoined.2.1 5 = .ok (.invokevirtual 29, 3) := op_invokevirtual (gk (k := 0) (t := 5) ck_M_tillJoined_0 rfl) (gk (k := 0) (t := 6) ck_M_tillJoined_0 rfl) (gk (k := 0) (t := 7) ck_M_tillJoined_0 rfl) rfl
theorem d_M_tillJoined_8 : decode y_M_tillJoined.2.1 8 = .ok (.aload_n 0, 1) := op_aload_n0 (gk (k := 0) (t := 8) ck_M_tillJoined_0 rfl)
theorem d_M_tillJoined_9 : decode y_M_tillJoined.2.1 9 = .ok (.getfield 12, 3) := op_getfield (gk (k := 0) (t := 9) ck_M_tillJoined_0 rfl) (gk (k := 0) (t := 10) ck_M_tillJoined_0 rfl) (gk (k := 0) (t := 11) ck_M_tillJoined_0 rfl) rfl
theorem d_M_tillJoined_12 : decode y_M_tillJoined.2.1 12 = .ok (.getfield 57, 3) := op_getfield (gk (k := 0) (t := 12) ck_M_tillJoined_0 rfl) (gk (k := 0) (t := 13) ck_M_tillJoined_0 rfl) (gk (k := 0) (t := 14) ck_M_tillJoined_0 rfl) rfl
theorem d_M_tillJoined_15 : decode y_M_tillJoined.2.1 15 = .ok (.iload_n 2, 1) := op_iload_n2 (gk (k := 0) (t := 15) ck_M_tillJoined_0 rfl)
theorem d_M_tillJoined_16 : decode y_M_tillJoined.2.1 16 = .ok (.iload_n 3, 1) := op_iload_n3 (gk (k := 0) (t := 16) ck_M_tillJoined_0 rfl)
theorem lk_M_70 : LkV "SinglesUp$Mind" 70 y_L_join := ⟨tw_c5 36 (by decide +kernel) rfl, tw_c5 37 (by decide +kernel) rfl, Or.inl (tw_c5 35 (by decide +kernel) rfl)⟩
set_option maxRecDepth 100000 in
theorem mo_L_join : MOk y_L_join 2 := ⟨by decide +kernel, tw_c5 38 rfl rfl, tw_c1 3 (by decide +kernel) rfl, by decide +kernel, by decide +kernel, by decide +kernel⟩
theorem d_M_tillJoined_17 : decode y_M_tillJoined.2.1 17 = .ok (.invokevirtual 70, 3) := op_invokevirtual (gk (k := 0) (t := 17) ck_M_tillJoined_0 rfl) (gk (k := 0) (t := 18) ck_M_tillJoined_0 rfl) (gk (k := 0) (t := 19) ck_M_tillJoined_0 rfl) rfl
theorem d_M_tillJoined_20 : decode y_M_tillJoined.2.1 20 = .ok (.aload_n 0, 1) := op_aload_n0 (gk (k := 0) (t := 20) ck_M_tillJoined_0 rfl)
theorem d_M_tillJoined_21 : decode y_M_tillJoined.2.1 21 = .ok (.aload_n 1, 1) := op_aload_n1 (gk (k := 0) (t := 21) ck_M_tillJoined_0 rfl)
theorem d_M_tillJoined_22 : decode y_M_tillJoined.2.1 22 = .ok (.getfield 57, 3) := op_getfield (gk (k := 0) (t := 22) ck_M_tillJoined_0 rfl) (gk (k := 0) (t := 23) ck_M_tillJoined_0 rfl) (gk (k := 0) (t := 24) ck_M_tillJoined_0 rfl) rfl
theorem d_M_tillJoined_25 : decode y_M_tillJoined.2.1 25 = .ok (.iload_n 3, 1) := op_iload_n3 (gk (k := 0) (t := 25) ck_M_tillJoined_0 rfl)
theorem d_M_tillJoined_26 : decode y_M_tillJoined.2.1 26 = .ok (.iconst 0, 1) := op_iconst0 (gk (k := 0) (t := 26) ck_M_tillJoined_0 rfl)
theorem d_M_tillJoined_27 : decode y_M_tillJoined.2.1 27 = .ok (.invokevirtual 61, 3) := op_invokevirtual (gk (k := 0) (t := 27) ck_M_tillJoined_0 rfl) (gk (k := 0) (t := 28) ck_M_tillJoined_0 rfl) (gk (k := 0) (t := 29) ck_M_tillJoined_0 rfl) rfl
theorem ck_M_tillJoined_1 : (y_M_tillJoined.2.1.data.toList.drop 32).take 32 = [66, 172] := by decide +kernel
theorem d_M_tillJoined_30 : decode y_M_tillJoined.2.1 30 = .ok (.invokevirtual 66, 3) := op_invokevirtual (gk (k := 0) (t := 30) ck_M_tillJoined_0 rfl) (gk (k := 0) (t := 31) ck_M_tillJoined_0 rfl) (gk (k := 32) (t := 0) ck_M_tillJoined_1 rfl) rfl
theorem d_M_tillJoined_33 : decode y_M_tillJoined.2.1 33 = .ok (.ireturn, 1) := op_ireturn (gk (k := 32) (t := 1) ck_M_tillJoined_1 rfl)
abbrev y_S_together : MI := (⟨"SinglesUp", "together", "(IIIII)I"⟩, prog_1_method_27_code, 11, some .int)
theorem ck_S_together_0 : (y_S_together.2.1.data.toList.drop 0).take 32 = [21, 5, 155, 0, 40, 21, 5, 4, 163, 0, 34, 42, 180, 0, 12, 180, 0, 77, 27, 28, 182, 0, 144, 153, 0, 19, 42, 180, 0, 12, 180, 0] := by decide +kernel
theorem d_S_together_0 : decode y_S_together.2.1 0 = .ok (.iload 5, 2) := op_iload (gk (k := 0) (t := 0) ck_S_together_0 rfl) (gk (k := 0) (t := 1) ck_S_together_0 rfl) rfl
theorem d_S_together_2 : decode y_S_together.2.1 2 = .ok (.ifCond .lt 40, 3) := op_if_lt (gk (k := 0) (t := 2) ck_S_together_0 rfl) (gk (k := 0) (t := 3) ck_S_together_0 rfl) (gk (k := 0) (t := 4) ck_S_together_0 rfl) (by decide +kernel)
theorem ck_S_together_1 : (y_S_together.2.1.data.toList.drop 32).take 32 = [77, 29, 21, 4, 182, 0, 144, 154, 0, 6, 16, 254, 172, 27, 16, 40, 104, 28, 96, 54, 6, 29, 16, 40, 104, 21, 4, 96, 54, 7, 42, 180] := by decide +kernel
theorem d_S_together_42 : decode y_S_together.2.1 42 = .ok (.bipush (-2), 2) := op_bipush (gk (k := 32) (t := 10) ck_S_together_1 rfl) (gk (k := 32) (t := 11) ck_S_together_1 rfl) rfl
theorem d_S_together_44 : decode y_S_together.2.1 44 = .ok (.ireturn, 1) := op_ireturn (gk (k := 32) (t := 12) ck_S_together_1 rfl)
theorem d_S_together_5 : decode y_S_together.2.1 5 = .ok (.iload 5, 2) := op_iload (gk (k := 0) (t := 5) ck_S_together_0 rfl) (gk (k := 0) (t := 6) ck_S_together_0 rfl) rfl
theorem d_S_together_7 : decode y_S_together.2.1 7 = .ok (.iconst 1, 1) := op_iconst1 (gk (k := 0) (t := 7) ck_S_together_0 rfl)
theorem d_S_together_8 : decode y_S_together.2.1 8 = .ok (.if_icmp .gt 34, 3) := op_icmp_gt (gk (k := 0) (t := 8) ck_S_together_0 rfl) (gk (k := 0) (t := 9) ck_S_together_0 rfl) (gk (k := 0) (t := 10) ck_S_together_0 rfl) (by decide +kernel)
theorem d_S_together_11 : decode y_S_together.2.1 11 = .ok (.aload_n 0, 1) := op_aload_n0 (gk (k := 0) (t := 11) ck_S_together_0 rfl)
theorem d_S_together_12 : decode y_S_together.2.1 12 = .ok (.getfield 12, 3) := op_getfield (gk (k := 0) (t := 12) ck_S_together_0 rfl) (gk (k := 0) (t := 13) ck_S_together_0 rfl) (gk (k := 0) (t := 14) ck_S_together_0 rfl) rfl
theorem d_S_together_15 : decode y_S_together.2.1 15 = .ok (.getfield 77, 3) := op_getfield (gk (k := 0) (t := 15) ck_S_together_0 rfl) (gk (k := 0) (t := 16) ck_S_together_0 rfl) (gk (k := 0) (t := 17) ck_S_together_0 rfl) rfl
theorem d_S_together_18 : decode y_S_together.2.1 18 = .ok (.iload_n 1, 1) := op_iload_n1 (gk (k := 0) (t := 18) ck_S_together_0 rfl)
theorem d_S_together_19 : decode y_S_together.2.1 19 = .ok (.iload_n 2, 1) := op_iload_n2 (gk (k := 0) (t := 19) ck_S_together_0 rfl)
theorem d_S_together_20 : decode y_S_together.2.1 20 = .ok (.invokevirtual 144, 3) := op_invokevirtual (gk (k := 0) (t := 20) ck_S_together_0 rfl) (gk (k := 0) (t := 21) ck_S_together_0 rfl) (gk (k := 0) (t := 22) ck_S_together_0 rfl) rfl
theorem d_S_together_23 : decode y_S_together.2.1 23 = .ok (.ifCond .eq 19, 3) := op_if_eq (gk (k := 0) (t := 23) ck_S_together_0 rfl) (gk (k := 0) (t := 24) ck_S_together_0 rfl) (gk (k := 0) (t := 25) ck_S_together_0 rfl) (by decide +kernel)
theorem d_S_together_26 : decode y_S_together.2.1 26 = .ok (.aload_n 0, 1) := op_aload_n0 (gk (k := 0) (t := 26) ck_S_together_0 rfl)
theorem d_S_together_27 : decode y_S_together.2.1 27 = .ok (.getfield 12, 3) := op_getfield (gk (k := 0) (t := 27) ck_S_together_0 rfl) (gk (k := 0) (t := 28) ck_S_together_0 rfl) (gk (k := 0) (t := 29) ck_S_together_0 rfl) rfl
theorem d_S_together_30 : decode y_S_together.2.1 30 = .ok (.getfield 77, 3) := op_getfield (gk (k := 0) (t := 30) ck_S_together_0 rfl) (gk (k := 0) (t := 31) ck_S_together_0 rfl) (gk (k := 32) (t := 0) ck_S_together_1 rfl) rfl
theorem d_S_together_33 : decode y_S_together.2.1 33 = .ok (.iload_n 3, 1) := op_iload_n3 (gk (k := 32) (t := 1) ck_S_together_1 rfl)
theorem d_S_together_34 : decode y_S_together.2.1 34 = .ok (.iload 4, 2) := op_iload (gk (k := 32) (t := 2) ck_S_together_1 rfl) (gk (k := 32) (t := 3) ck_S_together_1 rfl) rfl
theorem d_S_together_36 : decode y_S_together.2.1 36 = .ok (.invokevirtual 144, 3) := op_invokevirtual (gk (k := 32) (t := 4) ck_S_together_1 rfl) (gk (k := 32) (t := 5) ck_S_together_1 rfl) (gk (k := 32) (t := 6) ck_S_together_1 rfl) rfl
theorem d_S_together_39 : decode y_S_together.2.1 39 = .ok (.ifCond .ne 6, 3) := op_if_ne (gk (k := 32) (t := 7) ck_S_together_1 rfl) (gk (k := 32) (t := 8) ck_S_together_1 rfl) (gk (k := 32) (t := 9) ck_S_together_1 rfl) (by decide +kernel)
theorem d_S_together_45 : decode y_S_together.2.1 45 = .ok (.iload_n 1, 1) := op_iload_n1 (gk (k := 32) (t := 13) ck_S_together_1 rfl)
theorem d_S_together_46 : decode y_S_together.2.1 46 = .ok (.bipush 40, 2) := op_bipush (gk (k := 32) (t := 14) ck_S_together_1 rfl) (gk (k := 32) (t := 15) ck_S_together_1 rfl) rfl
theorem d_S_together_48 : decode y_S_together.2.1 48 = .ok (.imul, 1) := op_imul (gk (k := 32) (t := 16) ck_S_together_1 rfl)
theorem d_S_together_49 : decode y_S_together.2.1 49 = .ok (.iload_n 2, 1) := op_iload_n2 (gk (k := 32) (t := 17) ck_S_together_1 rfl)
theorem d_S_together_50 : decode y_S_together.2.1 50 = .ok (.iadd, 1) := op_iadd (gk (k := 32) (t := 18) ck_S_together_1 rfl)
theorem d_S_together_51 : decode y_S_together.2.1 51 = .ok (.istore 6, 2) := op_istore (gk (k := 32) (t := 19) ck_S_together_1 rfl) (gk (k := 32) (t := 20) ck_S_together_1 rfl) rfl
theorem d_S_together_53 : decode y_S_together.2.1 53 = .ok (.iload_n 3, 1) := op_iload_n3 (gk (k := 32) (t := 21) ck_S_together_1 rfl)
theorem d_S_together_54 : decode y_S_together.2.1 54 = .ok (.bipush 40, 2) := op_bipush (gk (k := 32) (t := 22) ck_S_together_1 rfl) (gk (k := 32) (t := 23) ck_S_together_1 rfl) rfl
theorem d_S_together_56 : decode y_S_together.2.1 56 = .ok (.imul, 1) := op_imul (gk (k := 32) (t := 24) ck_S_together_1 rfl)
theorem d_S_together_57 : decode y_S_together.2.1 57 = .ok (.iload 4, 2) := op_iload (gk (k := 32) (t := 25) ck_S_together_1 rfl) (gk (k := 32) (t := 26) ck_S_together_1 rfl) rfl
theorem d_S_together_59 : decode y_S_together.2.1 59 = .ok (.iadd, 1) := op_iadd (gk (k := 32) (t := 27) ck_S_together_1 rfl)
theorem d_S_together_60 : decode y_S_together.2.1 60 = .ok (.istore 7, 2) := op_istore (gk (k := 32) (t := 28) ck_S_together_1 rfl) (gk (k := 32) (t := 29) ck_S_together_1 rfl) rfl
theorem d_S_together_62 : decode y_S_together.2.1 62 = .ok (.aload_n 0, 1) := op_aload_n0 (gk (k := 32) (t := 30) ck_S_together_1 rfl)
theorem ck_S_together_2 : (y_S_together.2.1.data.toList.drop 64).take 32 = [0, 12, 180, 0, 77, 21, 6, 21, 7, 182, 0, 229, 154, 0, 6, 16, 254, 172, 42, 180, 0, 22, 42, 180, 0, 12, 21, 6, 21, 7, 182, 0] := by decide +kernel
theorem d_S_together_63 : decode y_S_together.2.1 63 = .ok (.getfield 12, 3) := op_getfield (gk (k := 32) (t := 31) ck_S_together_1 rfl) (gk (k := 64) (t := 0) ck_S_together_2 rfl) (gk (k := 64) (t := 1) ck_S_together_2 rfl) rfl
theorem d_S_together_66 : decode y_S_together.2.1 66 = .ok (.getfield 77, 3) := op_getfield (gk (k := 64) (t := 2) ck_S_together_2 rfl) (gk (k := 64) (t := 3) ck_S_together_2 rfl) (gk (k := 64) (t := 4) ck_S_together_2 rfl) rfl
theorem d_S_together_69 : decode y_S_together.2.1 69 = .ok (.iload 6, 2) := op_iload (gk (k := 64) (t := 5) ck_S_together_2 rfl) (gk (k := 64) (t := 6) ck_S_together_2 rfl) rfl
theorem d_S_together_71 : decode y_S_together.2.1 71 = .ok (.iload 7, 2) := op_iload (gk (k := 64) (t := 7) ck_S_together_2 rfl) (gk (k := 64) (t := 8) ck_S_together_2 rfl) rfl
theorem lk_S_229 : LkV "SinglesUp" 229 y_L_canJoin := ⟨tw_c5 27 (by decide +kernel) rfl, tw_c5 28 (by decide +kernel) rfl, Or.inl (tw_c5 26 (by decide +kernel) rfl)⟩
set_option maxRecDepth 100000 in
theorem mo_L_canJoin : MOk y_L_canJoin 2 := ⟨by decide +kernel, tw_c5 29 rfl rfl, tw_c1 3 (by decide +kernel) rfl, by decide +kernel, by decide +kernel, by decide +kernel⟩
theorem d_S_together_73 : decode y_S_together.2.1 73 = .ok (.invokevirtual 229, 3) := op_invokevirtual (gk (k := 64) (t := 9) ck_S_together_2 rfl) (gk (k := 64) (t := 10) ck_S_together_2 rfl) (gk (k := 64) (t := 11) ck_S_together_2 rfl) rfl
theorem d_S_together_76 : decode y_S_together.2.1 76 = .ok (.ifCond .ne 6, 3) := op_if_ne (gk (k := 64) (t := 12) ck_S_together_2 rfl) (gk (k := 64) (t := 13) ck_S_together_2 rfl) (gk (k := 64) (t := 14) ck_S_together_2 rfl) (by decide +kernel)
theorem d_S_together_82 : decode y_S_together.2.1 82 = .ok (.aload_n 0, 1) := op_aload_n0 (gk (k := 64) (t := 18) ck_S_together_2 rfl)
theorem d_S_together_83 : decode y_S_together.2.1 83 = .ok (.getfield 22, 3) := op_getfield (gk (k := 64) (t := 19) ck_S_together_2 rfl) (gk (k := 64) (t := 20) ck_S_together_2 rfl) (gk (k := 64) (t := 21) ck_S_together_2 rfl) rfl
theorem d_S_together_86 : decode y_S_together.2.1 86 = .ok (.aload_n 0, 1) := op_aload_n0 (gk (k := 64) (t := 22) ck_S_together_2 rfl)
theorem d_S_together_87 : decode y_S_together.2.1 87 = .ok (.getfield 12, 3) := op_getfield (gk (k := 64) (t := 23) ck_S_together_2 rfl) (gk (k := 64) (t := 24) ck_S_together_2 rfl) (gk (k := 64) (t := 25) ck_S_together_2 rfl) rfl
theorem d_S_together_90 : decode y_S_together.2.1 90 = .ok (.iload 6, 2) := op_iload (gk (k := 64) (t := 26) ck_S_together_2 rfl) (gk (k := 64) (t := 27) ck_S_together_2 rfl) rfl
theorem d_S_together_92 : decode y_S_together.2.1 92 = .ok (.iload 7, 2) := op_iload (gk (k := 64) (t := 28) ck_S_together_2 rfl) (gk (k := 64) (t := 29) ck_S_together_2 rfl) rfl
theorem lk_S_232 : LkV "SinglesUp" 232 y_M_tillJoined := ⟨tw_c5 32 (by decide +kernel) rfl, tw_c5 33 (by decide +kernel) rfl, Or.inl (tw_c5 31 (by decide +kernel) rfl)⟩
set_option maxRecDepth 100000 in
theorem mo_M_tillJoined : MOk y_M_tillJoined 3 := ⟨by decide +kernel, tw_c5 34 rfl rfl, tw_c1 6 (by decide +kernel) rfl, by decide +kernel, by decide +kernel, by decide +kernel⟩
theorem ck_S_together_3 : (y_S_together.2.1.data.toList.drop 96).take 32 = [232, 54, 8, 21, 5, 154, 0, 6, 21, 8, 172, 42, 180, 0, 22, 42, 180, 0, 12, 21, 6, 182, 0, 226, 54, 9, 42, 180, 0, 22, 42, 180] := by decide +kernel
theorem d_S_together_94 : decode y_S_together.2.1 94 = .ok (.invokevirtual 232, 3) := op_invokevirtual (gk (k := 64) (t := 30) ck_S_together_2 rfl) (gk (k := 64) (t := 31) ck_S_together_2 rfl) (gk (k := 96) (t := 0) ck_S_together_3 rfl) rfl
theorem d_S_together_97 : decode y_S_together.2.1 97 = .ok (.istore 8, 2) := op_istore (gk (k := 96) (t := 1) ck_S_together_3 rfl) (gk (k := 96) (t := 2) ck_S_together_3 rfl) rfl
theorem d_S_together_99 : decode y_S_together.2.1 99 = .ok (.iload 5, 2) := op_iload (gk (k := 96) (t := 3) ck_S_together_3 rfl) (gk (k := 96) (t := 4) ck_S_together_3 rfl) rfl
theorem d_S_together_101 : decode y_S_together.2.1 101 = .ok (.ifCond .ne 6, 3) := op_if_ne (gk (k := 96) (t := 5) ck_S_together_3 rfl) (gk (k := 96) (t := 6) ck_S_together_3 rfl) (gk (k := 96) (t := 7) ck_S_together_3 rfl) (by decide +kernel)
theorem d_S_together_107 : decode y_S_together.2.1 107 = .ok (.aload_n 0, 1) := op_aload_n0 (gk (k := 96) (t := 11) ck_S_together_3 rfl)
theorem d_S_together_108 : decode y_S_together.2.1 108 = .ok (.getfield 22, 3) := op_getfield (gk (k := 96) (t := 12) ck_S_together_3 rfl) (gk (k := 96) (t := 13) ck_S_together_3 rfl) (gk (k := 96) (t := 14) ck_S_together_3 rfl) rfl
theorem d_S_together_111 : decode y_S_together.2.1 111 = .ok (.aload_n 0, 1) := op_aload_n0 (gk (k := 96) (t := 15) ck_S_together_3 rfl)
theorem d_S_together_112 : decode y_S_together.2.1 112 = .ok (.getfield 12, 3) := op_getfield (gk (k := 96) (t := 16) ck_S_together_3 rfl) (gk (k := 96) (t := 17) ck_S_together_3 rfl) (gk (k := 96) (t := 18) ck_S_together_3 rfl) rfl
theorem d_S_together_115 : decode y_S_together.2.1 115 = .ok (.iload 6, 2) := op_iload (gk (k := 96) (t := 19) ck_S_together_3 rfl) (gk (k := 96) (t := 20) ck_S_together_3 rfl) rfl
theorem d_S_together_117 : decode y_S_together.2.1 117 = .ok (.invokevirtual 226, 3) := op_invokevirtual (gk (k := 96) (t := 21) ck_S_together_3 rfl) (gk (k := 96) (t := 22) ck_S_together_3 rfl) (gk (k := 96) (t := 23) ck_S_together_3 rfl) rfl
theorem d_S_together_120 : decode y_S_together.2.1 120 = .ok (.istore 9, 2) := op_istore (gk (k := 96) (t := 24) ck_S_together_3 rfl) (gk (k := 96) (t := 25) ck_S_together_3 rfl) rfl
theorem d_S_together_122 : decode y_S_together.2.1 122 = .ok (.aload_n 0, 1) := op_aload_n0 (gk (k := 96) (t := 26) ck_S_together_3 rfl)
theorem d_S_together_123 : decode y_S_together.2.1 123 = .ok (.getfield 22, 3) := op_getfield (gk (k := 96) (t := 27) ck_S_together_3 rfl) (gk (k := 96) (t := 28) ck_S_together_3 rfl) (gk (k := 96) (t := 29) ck_S_together_3 rfl) rfl
theorem d_S_together_126 : decode y_S_together.2.1 126 = .ok (.aload_n 0, 1) := op_aload_n0 (gk (k := 96) (t := 30) ck_S_together_3 rfl)
theorem ck_S_together_4 : (y_S_together.2.1.data.toList.drop 128).take 32 = [0, 12, 21, 7, 182, 0, 226, 54, 10, 21, 8, 2, 159, 0, 31, 21, 9, 2, 159, 0, 25, 21, 10, 2, 159, 0, 19, 21, 8, 21, 9, 21] := by decide +kernel
theorem d_S_together_127 : decode y_S_together.2.1 127 = .ok (.getfield 12, 3) := op_getfield (gk (k := 96) (t := 31) ck_S_together_3 rfl) (gk (k := 128) (t := 0) ck_S_together_4 rfl) (gk (k := 128) (t := 1) ck_S_together_4 rfl) rfl
theorem d_S_together_130 : decode y_S_together.2.1 130 = .ok (.iload 7, 2) := op_iload (gk (k := 128) (t := 2) ck_S_together_4 rfl) (gk (k := 128) (t := 3) ck_S_together_4 rfl) rfl
theorem d_S_together_132 : decode y_S_together.2.1 132 = .ok (.invokevirtual 226, 3) := op_invokevirtual (gk (k := 128) (t := 4) ck_S_together_4 rfl) (gk (k := 128) (t := 5) ck_S_together_4 rfl) (gk (k := 128) (t := 6) ck_S_together_4 rfl) rfl
theorem d_S_together_135 : decode y_S_together.2.1 135 = .ok (.istore 10, 2) := op_istore (gk (k := 128) (t := 7) ck_S_together_4 rfl) (gk (k := 128) (t := 8) ck_S_together_4 rfl) rfl
theorem d_S_together_137 : decode y_S_together.2.1 137 = .ok (.iload 8, 2) := op_iload (gk (k := 128) (t := 9) ck_S_together_4 rfl) (gk (k := 128) (t := 10) ck_S_together_4 rfl) rfl
theorem d_S_together_139 : decode y_S_together.2.1 139 = .ok (.iconst (-1), 1) := op_iconstm1 (gk (k := 128) (t := 11) ck_S_together_4 rfl)
theorem d_S_together_140 : decode y_S_together.2.1 140 = .ok (.if_icmp .eq 31, 3) := op_icmp_eq (gk (k := 128) (t := 12) ck_S_together_4 rfl) (gk (k := 128) (t := 13) ck_S_together_4 rfl) (gk (k := 128) (t := 14) ck_S_together_4 rfl) (by decide +kernel)
theorem ck_S_together_5 : (y_S_together.2.1.data.toList.drop 160).take 32 = [10, 184, 0, 235, 163, 0, 7, 4, 167, 0, 4, 3, 172] := by decide +kernel
theorem d_S_together_171 : decode y_S_together.2.1 171 = .ok (.iconst 0, 1) := op_iconst0 (gk (k := 160) (t := 11) ck_S_together_5 rfl)
theorem d_S_together_172 : decode y_S_together.2.1 172 = .ok (.ireturn, 1) := op_ireturn (gk (k := 160) (t := 12) ck_S_together_5 rfl)
theorem d_S_together_143 : decode y_S_together.2.1 143 = .ok (.iload 9, 2) := op_iload (gk (k := 128) (t := 15) ck_S_together_4 rfl) (gk (k := 128) (t := 16) ck_S_together_4 rfl) rfl
theorem d_S_together_145 : decode y_S_together.2.1 145 = .ok (.iconst (-1), 1) := op_iconstm1 (gk (k := 128) (t := 17) ck_S_together_4 rfl)
theorem d_S_together_146 : decode y_S_together.2.1 146 = .ok (.if_icmp .eq 25, 3) := op_icmp_eq (gk (k := 128) (t := 18) ck_S_together_4 rfl) (gk (k := 128) (t := 19) ck_S_together_4 rfl) (gk (k := 128) (t := 20) ck_S_together_4 rfl) (by decide +kernel)
theorem d_S_together_149 : decode y_S_together.2.1 149 = .ok (.iload 10, 2) := op_iload (gk (k := 128) (t := 21) ck_S_together_4 rfl) (gk (k := 128) (t := 22) ck_S_together_4 rfl) rfl
theorem d_S_together_151 : decode y_S_together.2.1 151 = .ok (.iconst (-1), 1) := op_iconstm1 (gk (k := 128) (t := 23) ck_S_together_4 rfl)
theorem d_S_together_152 : decode y_S_together.2.1 152 = .ok (.if_icmp .eq 19, 3) := op_icmp_eq (gk (k := 128) (t := 24) ck_S_together_4 rfl) (gk (k := 128) (t := 25) ck_S_together_4 rfl) (gk (k := 128) (t := 26) ck_S_together_4 rfl) (by decide +kernel)
theorem d_S_together_155 : decode y_S_together.2.1 155 = .ok (.iload 8, 2) := op_iload (gk (k := 128) (t := 27) ck_S_together_4 rfl) (gk (k := 128) (t := 28) ck_S_together_4 rfl) rfl
theorem d_S_together_157 : decode y_S_together.2.1 157 = .ok (.iload 9, 2) := op_iload (gk (k := 128) (t := 29) ck_S_together_4 rfl) (gk (k := 128) (t := 30) ck_S_together_4 rfl) rfl
theorem d_S_together_159 : decode y_S_together.2.1 159 = .ok (.iload 10, 2) := op_iload (gk (k := 128) (t := 31) ck_S_together_4 rfl) (gk (k := 160) (t := 0) ck_S_together_5 rfl) rfl
theorem lk_S_235 : LkS "SinglesUp" 235 y_JM_max := ⟨tw_c3 26 (by decide +kernel) rfl, Or.inl (tw_c5 43 (by decide +kernel) rfl)⟩
theorem d_S_together_161 : decode y_S_together.2.1 161 = .ok (.invokestatic 235, 3) := op_invokestatic (gk (k := 160) (t := 1) ck_S_together_5 rfl) (gk (k := 160) (t := 2) ck_S_together_5 rfl) (gk (k := 160) (t := 3) ck_S_together_5 rfl) rfl
theorem d_S_together_164 : decode y_S_together.2.1 164 = .ok (.if_icmp .gt 7, 3) := op_icmp_gt (gk (k := 160) (t := 4) ck_S_together_5 rfl) (gk (k := 160) (t := 5) ck_S_together_5 rfl) (gk (k := 160) (t := 6) ck_S_together_5 rfl) (by decide +kernel)
theorem d_S_together_167 : decode y_S_together.2.1 167 = .ok (.iconst 1, 1) := op_iconst1 (gk (k := 160) (t := 7) ck_S_together_5 rfl)
theorem d_S_together_168 : decode y_S_together.2.1 168 = .ok (.goto 4, 3) := op_goto (gk (k := 160) (t := 8) ck_S_together_5 rfl) (gk (k := 160) (t := 9) ck_S_together_5 rfl) (gk (k := 160) (t := 10) ck_S_together_5 rfl) (by decide +kernel)
theorem d_S_together_104 : decode y_S_together.2.1 104 = .ok (.iload 8, 2) := op_iload (gk (k := 96) (t := 8) ck_S_together_3 rfl) (gk (k := 96) (t := 9) ck_S_together_3 rfl) rfl
theorem d_S_together_106 : decode y_S_together.2.1 106 = .ok (.ireturn, 1) := op_ireturn (gk (k := 96) (t := 10) ck_S_together_3 rfl)
theorem d_S_together_79 : decode y_S_together.2.1 79 = .ok (.bipush (-2), 2) := op_bipush (gk (k := 64) (t := 15) ck_S_together_2 rfl) (gk (k := 64) (t := 16) ck_S_together_2 rfl) rfl
theorem d_S_together_81 : decode y_S_together.2.1 81 = .ok (.ireturn, 1) := op_ireturn (gk (k := 64) (t := 17) ck_S_together_2 rfl)
abbrev y_M_emptyNeeded : MI := (⟨"SinglesUp$Mind", "emptyNeeded", "(LSinglesUp$Hill;I)I"⟩, prog_7_method_9_code, 6, some .int)
theorem ck_M_emptyNeeded_0 : (y_M_emptyNeeded.2.1.data.toList.drop 0).take 32 = [42, 180, 0, 12, 43, 182, 0, 29, 3, 62, 3, 54, 4, 21, 4, 28, 162, 0, 49, 42, 180, 0, 12, 180, 0, 40, 4, 46, 54, 5, 42, 180] := by decide +kernel
theorem d_M_emptyNeeded_0 : decode y_M_emptyNeeded.2.1 0 = .ok (.aload_n 0, 1) := op_aload_n0 (gk (k := 0) (t := 0) ck_M_emptyNeeded_0 rfl)
theorem d_M_emptyNeeded_1 : decode y_M_emptyNeeded.2.1 1 = .ok (.getfield 12, 3) := op_getfield (gk (k := 0) (t := 1) ck_M_emptyNeeded_0 rfl) (gk (k := 0) (t := 2) ck_M_emptyNeeded_0 rfl) (gk (k := 0) (t := 3) ck_M_emptyNeeded_0 rfl) rfl
theorem d_M_emptyNeeded_4 : decode y_M_emptyNeeded.2.1 4 = .ok (.aload_n 1, 1) := op_aload_n1 (gk (k := 0) (t := 4) ck_M_emptyNeeded_0 rfl)
theorem d_M_emptyNeeded_5 : decode y_M_emptyNeeded.2.1 5 = .ok (.invokevirtual 29, 3) := op_invokevirtual (gk (k := 0) (t := 5) ck_M_emptyNeeded_0 rfl) (gk (k := 0) (t := 6) ck_M_emptyNeeded_0 rfl) (gk (k := 0) (t := 7) ck_M_emptyNeeded_0 rfl) rfl
theorem d_M_emptyNeeded_8 : decode y_M_emptyNeeded.2.1 8 = .ok (.iconst 0, 1) := op_iconst0 (gk (k := 0) (t := 8) ck_M_emptyNeeded_0 rfl)
theorem d_M_emptyNeeded_9 : decode y_M_emptyNeeded.2.1 9 = .ok (.istore_n 3, 1) := op_istore_n3 (gk (k := 0) (t := 9) ck_M_emptyNeeded_0 rfl)
theorem d_M_emptyNeeded_10 : decode y_M_emptyNeeded.2.1 10 = .ok (.iconst 0, 1) := op_iconst0 (gk (k := 0) (t := 10) ck_M_emptyNeeded_0 rfl)
theorem d_M_emptyNeeded_11 : decode y_M_emptyNeeded.2.1 11 = .ok (.istore 4, 2) := op_istore (gk (k := 0) (t := 11) ck_M_emptyNeeded_0 rfl) (gk (k := 0) (t := 12) ck_M_emptyNeeded_0 rfl) rfl
theorem d_M_emptyNeeded_13 : decode y_M_emptyNeeded.2.1 13 = .ok (.iload 4, 2) := op_iload (gk (k := 0) (t := 13) ck_M_emptyNeeded_0 rfl) (gk (k := 0) (t := 14) ck_M_emptyNeeded_0 rfl) rfl
theorem d_M_emptyNeeded_15 : decode y_M_emptyNeeded.2.1 15 = .ok (.iload_n 2, 1) := op_iload_n2 (gk (k := 0) (t := 15) ck_M_emptyNeeded_0 rfl)
theorem d_M_emptyNeeded_16 : decode y_M_emptyNeeded.2.1 16 = .ok (.if_icmp .ge 49, 3) := op_icmp_ge (gk (k := 0) (t := 16) ck_M_emptyNeeded_0 rfl) (gk (k := 0) (t := 17) ck_M_emptyNeeded_0 rfl) (gk (k := 0) (t := 18) ck_M_emptyNeeded_0 rfl) (by decide +kernel)
theorem ck_M_emptyNeeded_2 : (y_M_emptyNeeded.2.1.data.toList.drop 64).take 32 = [207, 29, 172] := by decide +kernel
theorem d_M_emptyNeeded_65 : decode y_M_emptyNeeded.2.1 65 = .ok (.iload_n 3, 1) := op_iload_n3 (gk (k := 64) (t := 1) ck_M_emptyNeeded_2 rfl)
theorem d_M_emptyNeeded_66 : decode y_M_emptyNeeded.2.1 66 = .ok (.ireturn, 1) := op_ireturn (gk (k := 64) (t := 2) ck_M_emptyNeeded_2 rfl)
theorem d_M_emptyNeeded_19 : decode y_M_emptyNeeded.2.1 19 = .ok (.aload_n 0, 1) := op_aload_n0 (gk (k := 0) (t := 19) ck_M_emptyNeeded_0 rfl)
theorem d_M_emptyNeeded_20 : decode y_M_emptyNeeded.2.1 20 = .ok (.getfield 12, 3) := op_getfield (gk (k := 0) (t := 20) ck_M_emptyNeeded_0 rfl) (gk (k := 0) (t := 21) ck_M_emptyNeeded_0 rfl) (gk (k := 0) (t := 22) ck_M_emptyNeeded_0 rfl) rfl
theorem d_M_emptyNeeded_23 : decode y_M_emptyNeeded.2.1 23 = .ok (.getfield 40, 3) := op_getfield (gk (k := 0) (t := 23) ck_M_emptyNeeded_0 rfl) (gk (k := 0) (t := 24) ck_M_emptyNeeded_0 rfl) (gk (k := 0) (t := 25) ck_M_emptyNeeded_0 rfl) rfl
theorem d_M_emptyNeeded_26 : decode y_M_emptyNeeded.2.1 26 = .ok (.iconst 1, 1) := op_iconst1 (gk (k := 0) (t := 26) ck_M_emptyNeeded_0 rfl)
theorem d_M_emptyNeeded_27 : decode y_M_emptyNeeded.2.1 27 = .ok (.iaload, 1) := op_iaload (gk (k := 0) (t := 27) ck_M_emptyNeeded_0 rfl)
theorem d_M_emptyNeeded_28 : decode y_M_emptyNeeded.2.1 28 = .ok (.istore 5, 2) := op_istore (gk (k := 0) (t := 28) ck_M_emptyNeeded_0 rfl) (gk (k := 0) (t := 29) ck_M_emptyNeeded_0 rfl) rfl
theorem d_M_emptyNeeded_30 : decode y_M_emptyNeeded.2.1 30 = .ok (.aload_n 0, 1) := op_aload_n0 (gk (k := 0) (t := 30) ck_M_emptyNeeded_0 rfl)
theorem ck_M_emptyNeeded_1 : (y_M_emptyNeeded.2.1.data.toList.drop 32).take 32 = [0, 21, 42, 180, 0, 12, 182, 0, 87, 158, 0, 18, 29, 42, 180, 0, 12, 180, 0, 40, 4, 46, 21, 5, 100, 96, 62, 132, 4, 1, 167, 255] := by decide +kernel
theorem d_M_emptyNeeded_31 : decode y_M_emptyNeeded.2.1 31 = .ok (.getfield 21, 3) := op_getfield (gk (k := 0) (t := 31) ck_M_emptyNeeded_0 rfl) (gk (k := 32) (t := 0) ck_M_emptyNeeded_1 rfl) (gk (k := 32) (t := 1) ck_M_emptyNeeded_1 rfl) rfl
theorem d_M_emptyNeeded_34 : decode y_M_emptyNeeded.2.1 34 = .ok (.aload_n 0, 1) := op_aload_n0 (gk (k := 32) (t := 2) ck_M_emptyNeeded_1 rfl)
theorem d_M_emptyNeeded_35 : decode y_M_emptyNeeded.2.1 35 = .ok (.getfield 12, 3) := op_getfield (gk (k := 32) (t := 3) ck_M_emptyNeeded_1 rfl) (gk (k := 32) (t := 4) ck_M_emptyNeeded_1 rfl) (gk (k := 32) (t := 5) ck_M_emptyNeeded_1 rfl) rfl
theorem lk_M_87 : LkV "SinglesUp$Mind" 87 y_C_ride := ⟨tw_c4 59 (by decide +kernel) rfl, tw_c4 60 (by decide +kernel) rfl, Or.inl (tw_c5 52 (by decide +kernel) rfl)⟩
theorem d_M_emptyNeeded_38 : decode y_M_emptyNeeded.2.1 38 = .ok (.invokevirtual 87, 3) := op_invokevirtual (gk (k := 32) (t := 6) ck_M_emptyNeeded_1 rfl) (gk (k := 32) (t := 7) ck_M_emptyNeeded_1 rfl) (gk (k := 32) (t := 8) ck_M_emptyNeeded_1 rfl) rfl
theorem d_M_emptyNeeded_59 : decode y_M_emptyNeeded.2.1 59 = .ok (.iinc 4 1, 3) := op_iinc (gk (k := 32) (t := 27) ck_M_emptyNeeded_1 rfl) (gk (k := 32) (t := 28) ck_M_emptyNeeded_1 rfl) (gk (k := 32) (t := 29) ck_M_emptyNeeded_1 rfl) rfl rfl
theorem d_M_emptyNeeded_62 : decode y_M_emptyNeeded.2.1 62 = .ok (.goto (-49), 3) := op_goto (gk (k := 32) (t := 30) ck_M_emptyNeeded_1 rfl) (gk (k := 32) (t := 31) ck_M_emptyNeeded_1 rfl) (gk (k := 64) (t := 0) ck_M_emptyNeeded_2 rfl) (by decide +kernel)
theorem d_M_emptyNeeded_41 : decode y_M_emptyNeeded.2.1 41 = .ok (.ifCond .le 18, 3) := op_if_le (gk (k := 32) (t := 9) ck_M_emptyNeeded_1 rfl) (gk (k := 32) (t := 10) ck_M_emptyNeeded_1 rfl) (gk (k := 32) (t := 11) ck_M_emptyNeeded_1 rfl) (by decide +kernel)
theorem d_M_emptyNeeded_44 : decode y_M_emptyNeeded.2.1 44 = .ok (.iload_n 3, 1) := op_iload_n3 (gk (k := 32) (t := 12) ck_M_emptyNeeded_1 rfl)
theorem d_M_emptyNeeded_45 : decode y_M_emptyNeeded.2.1 45 = .ok (.aload_n 0, 1) := op_aload_n0 (gk (k := 32) (t := 13) ck_M_emptyNeeded_1 rfl)
theorem d_M_emptyNeeded_46 : decode y_M_emptyNeeded.2.1 46 = .ok (.getfield 12, 3) := op_getfield (gk (k := 32) (t := 14) ck_M_emptyNeeded_1 rfl) (gk (k := 32) (t := 15) ck_M_emptyNeeded_1 rfl) (gk (k := 32) (t := 16) ck_M_emptyNeeded_1 rfl) rfl
theorem d_M_emptyNeeded_49 : decode y_M_emptyNeeded.2.1 49 = .ok (.getfield 40, 3) := op_getfield (gk (k := 32) (t := 17) ck_M_emptyNeeded_1 rfl) (gk (k := 32) (t := 18) ck_M_emptyNeeded_1 rfl) (gk (k := 32) (t := 19) ck_M_emptyNeeded_1 rfl) rfl
theorem d_M_emptyNeeded_52 : decode y_M_emptyNeeded.2.1 52 = .ok (.iconst 1, 1) := op_iconst1 (gk (k := 32) (t := 20) ck_M_emptyNeeded_1 rfl)
theorem d_M_emptyNeeded_53 : decode y_M_emptyNeeded.2.1 53 = .ok (.iaload, 1) := op_iaload (gk (k := 32) (t := 21) ck_M_emptyNeeded_1 rfl)
theorem d_M_emptyNeeded_54 : decode y_M_emptyNeeded.2.1 54 = .ok (.iload 5, 2) := op_iload (gk (k := 32) (t := 22) ck_M_emptyNeeded_1 rfl) (gk (k := 32) (t := 23) ck_M_emptyNeeded_1 rfl) rfl
theorem d_M_emptyNeeded_56 : decode y_M_emptyNeeded.2.1 56 = .ok (.isub, 1) := op_isub (gk (k := 32) (t := 24) ck_M_emptyNeeded_1 rfl)
theorem d_M_emptyNeeded_57 : decode y_M_emptyNeeded.2.1 57 = .ok (.iadd, 1) := op_iadd (gk (k := 32) (t := 25) ck_M_emptyNeeded_1 rfl)
theorem d_M_emptyNeeded_58 : decode y_M_emptyNeeded.2.1 58 = .ok (.istore_n 3, 1) := op_istore_n3 (gk (k := 32) (t := 26) ck_M_emptyNeeded_1 rfl)
abbrev y_S_needed : MI := (⟨"SinglesUp", "needed", "(I)I"⟩, prog_1_method_28_code, 2, some .int)
theorem ck_S_needed_0 : (y_S_needed.2.1.data.toList.drop 0).take 32 = [27, 4, 161, 0, 9, 27, 16, 40, 164, 0, 7, 2, 167, 0, 15, 42, 180, 0, 22, 42, 180, 0, 12, 27, 182, 0, 240, 172] := by decide +kernel
theorem d_S_needed_0 : decode y_S_needed.2.1 0 = .ok (.iload_n 1, 1) := op_iload_n1 (gk (k := 0) (t := 0) ck_S_needed_0 rfl)
theorem d_S_needed_1 : decode y_S_needed.2.1 1 = .ok (.iconst 1, 1) := op_iconst1 (gk (k := 0) (t := 1) ck_S_needed_0 rfl)
theorem d_S_needed_2 : decode y_S_needed.2.1 2 = .ok (.if_icmp .lt 9, 3) := op_icmp_lt (gk (k := 0) (t := 2) ck_S_needed_0 rfl) (gk (k := 0) (t := 3) ck_S_needed_0 rfl) (gk (k := 0) (t := 4) ck_S_needed_0 rfl) (by decide +kernel)
theorem d_S_needed_11 : decode y_S_needed.2.1 11 = .ok (.iconst (-1), 1) := op_iconstm1 (gk (k := 0) (t := 11) ck_S_needed_0 rfl)
theorem d_S_needed_12 : decode y_S_needed.2.1 12 = .ok (.goto 15, 3) := op_goto (gk (k := 0) (t := 12) ck_S_needed_0 rfl) (gk (k := 0) (t := 13) ck_S_needed_0 rfl) (gk (k := 0) (t := 14) ck_S_needed_0 rfl) (by decide +kernel)
theorem d_S_needed_27 : decode y_S_needed.2.1 27 = .ok (.ireturn, 1) := op_ireturn (gk (k := 0) (t := 27) ck_S_needed_0 rfl)
theorem d_S_needed_5 : decode y_S_needed.2.1 5 = .ok (.iload_n 1, 1) := op_iload_n1 (gk (k := 0) (t := 5) ck_S_needed_0 rfl)
theorem d_S_needed_6 : decode y_S_needed.2.1 6 = .ok (.bipush 40, 2) := op_bipush (gk (k := 0) (t := 6) ck_S_needed_0 rfl) (gk (k := 0) (t := 7) ck_S_needed_0 rfl) rfl
theorem d_S_needed_8 : decode y_S_needed.2.1 8 = .ok (.if_icmp .le 7, 3) := op_icmp_le (gk (k := 0) (t := 8) ck_S_needed_0 rfl) (gk (k := 0) (t := 9) ck_S_needed_0 rfl) (gk (k := 0) (t := 10) ck_S_needed_0 rfl) (by decide +kernel)
theorem d_S_needed_15 : decode y_S_needed.2.1 15 = .ok (.aload_n 0, 1) := op_aload_n0 (gk (k := 0) (t := 15) ck_S_needed_0 rfl)
theorem d_S_needed_16 : decode y_S_needed.2.1 16 = .ok (.getfield 22, 3) := op_getfield (gk (k := 0) (t := 16) ck_S_needed_0 rfl) (gk (k := 0) (t := 17) ck_S_needed_0 rfl) (gk (k := 0) (t := 18) ck_S_needed_0 rfl) rfl
theorem d_S_needed_19 : decode y_S_needed.2.1 19 = .ok (.aload_n 0, 1) := op_aload_n0 (gk (k := 0) (t := 19) ck_S_needed_0 rfl)
theorem d_S_needed_20 : decode y_S_needed.2.1 20 = .ok (.getfield 12, 3) := op_getfield (gk (k := 0) (t := 20) ck_S_needed_0 rfl) (gk (k := 0) (t := 21) ck_S_needed_0 rfl) (gk (k := 0) (t := 22) ck_S_needed_0 rfl) rfl
theorem d_S_needed_23 : decode y_S_needed.2.1 23 = .ok (.iload_n 1, 1) := op_iload_n1 (gk (k := 0) (t := 23) ck_S_needed_0 rfl)
theorem lk_S_240 : LkV "SinglesUp" 240 y_M_emptyNeeded := ⟨tw_c5 49 (by decide +kernel) rfl, tw_c5 50 (by decide +kernel) rfl, Or.inl (tw_c5 48 (by decide +kernel) rfl)⟩
set_option maxRecDepth 100000 in
theorem mo_M_emptyNeeded : MOk y_M_emptyNeeded 2 := ⟨by decide +kernel, tw_c5 51 rfl rfl, tw_c1 6 (by decide +kernel) rfl, by decide +kernel, by decide +kernel, by decide +kernel⟩
theorem d_S_needed_24 : decode y_S_needed.2.1 24 = .ok (.invokevirtual 240, 3) := op_invokevirtual (gk (k := 0) (t := 24) ck_S_needed_0 rfl) (gk (k := 0) (t := 25) ck_S_needed_0 rfl) (gk (k := 0) (t := 26) ck_S_needed_0 rfl) rfl
abbrev y_H_pastChair : MI := (⟨"SinglesUp$Hill", "pastChair", "(II)I"⟩, prog_4_method_13_code, 3, some .int)
theorem ck_H_pastChair_0 : (y_H_pastChair.2.1.data.toList.drop 0).take 32 = [28, 155, 0, 31, 28, 6, 162, 0, 26, 42, 180, 0, 43, 42, 180, 0, 37, 3, 46, 4, 100, 27, 100, 184, 0, 116, 28, 96, 46, 167, 0, 4] := by decide +kernel
theorem d_H_pastChair_0 : decode y_H_pastChair.2.1 0 = .ok (.iload_n 2, 1) := op_iload_n2 (gk (k := 0) (t := 0) ck_H_pastChair_0 rfl)
theorem d_H_pastChair_1 : decode y_H_pastChair.2.1 1 = .ok (.ifCond .lt 31, 3) := op_if_lt (gk (k := 0) (t := 1) ck_H_pastChair_0 rfl) (gk (k := 0) (t := 2) ck_H_pastChair_0 rfl) (gk (k := 0) (t := 3) ck_H_pastChair_0 rfl) (by decide +kernel)
theorem ck_H_pastChair_1 : (y_H_pastChair.2.1.data.toList.drop 32).take 32 = [2, 172] := by decide +kernel
theorem d_H_pastChair_32 : decode y_H_pastChair.2.1 32 = .ok (.iconst (-1), 1) := op_iconstm1 (gk (k := 32) (t := 0) ck_H_pastChair_1 rfl)
theorem d_H_pastChair_33 : decode y_H_pastChair.2.1 33 = .ok (.ireturn, 1) := op_ireturn (gk (k := 32) (t := 1) ck_H_pastChair_1 rfl)
theorem d_H_pastChair_4 : decode y_H_pastChair.2.1 4 = .ok (.iload_n 2, 1) := op_iload_n2 (gk (k := 0) (t := 4) ck_H_pastChair_0 rfl)
theorem d_H_pastChair_5 : decode y_H_pastChair.2.1 5 = .ok (.iconst 3, 1) := op_iconst3 (gk (k := 0) (t := 5) ck_H_pastChair_0 rfl)
theorem d_H_pastChair_6 : decode y_H_pastChair.2.1 6 = .ok (.if_icmp .ge 26, 3) := op_icmp_ge (gk (k := 0) (t := 6) ck_H_pastChair_0 rfl) (gk (k := 0) (t := 7) ck_H_pastChair_0 rfl) (gk (k := 0) (t := 8) ck_H_pastChair_0 rfl) (by decide +kernel)
theorem d_H_pastChair_9 : decode y_H_pastChair.2.1 9 = .ok (.aload_n 0, 1) := op_aload_n0 (gk (k := 0) (t := 9) ck_H_pastChair_0 rfl)
theorem d_H_pastChair_10 : decode y_H_pastChair.2.1 10 = .ok (.getfield 43, 3) := op_getfield (gk (k := 0) (t := 10) ck_H_pastChair_0 rfl) (gk (k := 0) (t := 11) ck_H_pastChair_0 rfl) (gk (k := 0) (t := 12) ck_H_pastChair_0 rfl) rfl
theorem d_H_pastChair_13 : decode y_H_pastChair.2.1 13 = .ok (.aload_n 0, 1) := op_aload_n0 (gk (k := 0) (t := 13) ck_H_pastChair_0 rfl)
theorem d_H_pastChair_14 : decode y_H_pastChair.2.1 14 = .ok (.getfield 37, 3) := op_getfield (gk (k := 0) (t := 14) ck_H_pastChair_0 rfl) (gk (k := 0) (t := 15) ck_H_pastChair_0 rfl) (gk (k := 0) (t := 16) ck_H_pastChair_0 rfl) rfl
theorem d_H_pastChair_17 : decode y_H_pastChair.2.1 17 = .ok (.iconst 0, 1) := op_iconst0 (gk (k := 0) (t := 17) ck_H_pastChair_0 rfl)
theorem d_H_pastChair_18 : decode y_H_pastChair.2.1 18 = .ok (.iaload, 1) := op_iaload (gk (k := 0) (t := 18) ck_H_pastChair_0 rfl)
theorem d_H_pastChair_19 : decode y_H_pastChair.2.1 19 = .ok (.iconst 1, 1) := op_iconst1 (gk (k := 0) (t := 19) ck_H_pastChair_0 rfl)
theorem d_H_pastChair_20 : decode y_H_pastChair.2.1 20 = .ok (.isub, 1) := op_isub (gk (k := 0) (t := 20) ck_H_pastChair_0 rfl)
theorem d_H_pastChair_21 : decode y_H_pastChair.2.1 21 = .ok (.iload_n 1, 1) := op_iload_n1 (gk (k := 0) (t := 21) ck_H_pastChair_0 rfl)
theorem d_H_pastChair_22 : decode y_H_pastChair.2.1 22 = .ok (.isub, 1) := op_isub (gk (k := 0) (t := 22) ck_H_pastChair_0 rfl)
theorem d_H_pastChair_23 : decode y_H_pastChair.2.1 23 = .ok (.invokestatic 116, 3) := op_invokestatic (gk (k := 0) (t := 23) ck_H_pastChair_0 rfl) (gk (k := 0) (t := 24) ck_H_pastChair_0 rfl) (gk (k := 0) (t := 25) ck_H_pastChair_0 rfl) rfl
theorem d_H_pastChair_26 : decode y_H_pastChair.2.1 26 = .ok (.iload_n 2, 1) := op_iload_n2 (gk (k := 0) (t := 26) ck_H_pastChair_0 rfl)
theorem d_H_pastChair_27 : decode y_H_pastChair.2.1 27 = .ok (.iadd, 1) := op_iadd (gk (k := 0) (t := 27) ck_H_pastChair_0 rfl)
theorem d_H_pastChair_28 : decode y_H_pastChair.2.1 28 = .ok (.iaload, 1) := op_iaload (gk (k := 0) (t := 28) ck_H_pastChair_0 rfl)
theorem d_H_pastChair_29 : decode y_H_pastChair.2.1 29 = .ok (.goto 4, 3) := op_goto (gk (k := 0) (t := 29) ck_H_pastChair_0 rfl) (gk (k := 0) (t := 30) ck_H_pastChair_0 rfl) (gk (k := 0) (t := 31) ck_H_pastChair_0 rfl) (by decide +kernel)
abbrev y_S_past : MI := (⟨"SinglesUp", "past", "(II)I"⟩, prog_1_method_29_code, 4, some .int)
theorem ck_S_past_0 : (y_S_past.2.1.data.toList.drop 0).take 32 = [27, 155, 0, 35, 27, 16, 60, 162, 0, 29, 27, 42, 180, 0, 12, 180, 0, 194, 3, 46, 162, 0, 16, 28, 155, 0, 12, 28, 5, 163, 0, 7] := by decide +kernel
theorem d_S_past_0 : decode y_S_past.2.1 0 = .ok (.iload_n 1, 1) := op_iload_n1 (gk (k := 0) (t := 0) ck_S_past_0 rfl)
theorem ck_S_past_1 : (y_S_past.2.1.data.toList.drop 32).take 32 = [4, 167, 0, 4, 3, 62, 29, 153, 0, 15, 42, 180, 0, 12, 27, 28, 182, 0, 243, 167, 0, 4, 2, 172] := by decide +kernel
theorem d_S_past_37 : decode y_S_past.2.1 37 = .ok (.istore_n 3, 1) := op_istore_n3 (gk (k := 32) (t := 5) ck_S_past_1 rfl)
theorem d_S_past_38 : decode y_S_past.2.1 38 = .ok (.iload_n 3, 1) := op_iload_n3 (gk (k := 32) (t := 6) ck_S_past_1 rfl)
theorem d_S_past_39 : decode y_S_past.2.1 39 = .ok (.ifCond .eq 15, 3) := op_if_eq (gk (k := 32) (t := 7) ck_S_past_1 rfl) (gk (k := 32) (t := 8) ck_S_past_1 rfl) (gk (k := 32) (t := 9) ck_S_past_1 rfl) (by decide +kernel)
theorem d_S_past_54 : decode y_S_past.2.1 54 = .ok (.iconst (-1), 1) := op_iconstm1 (gk (k := 32) (t := 22) ck_S_past_1 rfl)
theorem d_S_past_55 : decode y_S_past.2.1 55 = .ok (.ireturn, 1) := op_ireturn (gk (k := 32) (t := 23) ck_S_past_1 rfl)
theorem d_S_past_42 : decode y_S_past.2.1 42 = .ok (.aload_n 0, 1) := op_aload_n0 (gk (k := 32) (t := 10) ck_S_past_1 rfl)
theorem d_S_past_43 : decode y_S_past.2.1 43 = .ok (.getfield 12, 3) := op_getfield (gk (k := 32) (t := 11) ck_S_past_1 rfl) (gk (k := 32) (t := 12) ck_S_past_1 rfl) (gk (k := 32) (t := 13) ck_S_past_1 rfl) rfl
theorem d_S_past_46 : decode y_S_past.2.1 46 = .ok (.iload_n 1, 1) := op_iload_n1 (gk (k := 32) (t := 14) ck_S_past_1 rfl)
theorem d_S_past_47 : decode y_S_past.2.1 47 = .ok (.iload_n 2, 1) := op_iload_n2 (gk (k := 32) (t := 15) ck_S_past_1 rfl)
theorem lk_S_243 : LkV "SinglesUp" 243 y_H_pastChair := ⟨tw_c5 58 (by decide +kernel) rfl, tw_c5 59 (by decide +kernel) rfl, Or.inl (tw_c5 57 (by decide +kernel) rfl)⟩
set_option maxRecDepth 100000 in
theorem mo_H_pastChair : MOk y_H_pastChair 2 := ⟨by decide +kernel, tw_c5 60 rfl rfl, tw_c1 2 (by decide +kernel) rfl, by decide +kernel, by decide +kernel, by decide +kernel⟩
theorem d_S_past_48 : decode y_S_past.2.1 48 = .ok (.invokevirtual 243, 3) := op_invokevirtual (gk (k := 32) (t := 16) ck_S_past_1 rfl) (gk (k := 32) (t := 17) ck_S_past_1 rfl) (gk (k := 32) (t := 18) ck_S_past_1 rfl) rfl
theorem d_S_past_51 : decode y_S_past.2.1 51 = .ok (.goto 4, 3) := op_goto (gk (k := 32) (t := 19) ck_S_past_1 rfl) (gk (k := 32) (t := 20) ck_S_past_1 rfl) (gk (k := 32) (t := 21) ck_S_past_1 rfl) (by decide +kernel)
theorem d_S_past_1 : decode y_S_past.2.1 1 = .ok (.ifCond .lt 35, 3) := op_if_lt (gk (k := 0) (t := 1) ck_S_past_0 rfl) (gk (k := 0) (t := 2) ck_S_past_0 rfl) (gk (k := 0) (t := 3) ck_S_past_0 rfl) (by decide +kernel)
theorem d_S_past_36 : decode y_S_past.2.1 36 = .ok (.iconst 0, 1) := op_iconst0 (gk (k := 32) (t := 4) ck_S_past_1 rfl)
theorem d_S_past_4 : decode y_S_past.2.1 4 = .ok (.iload_n 1, 1) := op_iload_n1 (gk (k := 0) (t := 4) ck_S_past_0 rfl)
theorem d_S_past_5 : decode y_S_past.2.1 5 = .ok (.bipush 60, 2) := op_bipush (gk (k := 0) (t := 5) ck_S_past_0 rfl) (gk (k := 0) (t := 6) ck_S_past_0 rfl) rfl
theorem d_S_past_7 : decode y_S_past.2.1 7 = .ok (.if_icmp .ge 29, 3) := op_icmp_ge (gk (k := 0) (t := 7) ck_S_past_0 rfl) (gk (k := 0) (t := 8) ck_S_past_0 rfl) (gk (k := 0) (t := 9) ck_S_past_0 rfl) (by decide +kernel)
theorem d_S_past_10 : decode y_S_past.2.1 10 = .ok (.iload_n 1, 1) := op_iload_n1 (gk (k := 0) (t := 10) ck_S_past_0 rfl)
theorem d_S_past_11 : decode y_S_past.2.1 11 = .ok (.aload_n 0, 1) := op_aload_n0 (gk (k := 0) (t := 11) ck_S_past_0 rfl)
theorem d_S_past_12 : decode y_S_past.2.1 12 = .ok (.getfield 12, 3) := op_getfield (gk (k := 0) (t := 12) ck_S_past_0 rfl) (gk (k := 0) (t := 13) ck_S_past_0 rfl) (gk (k := 0) (t := 14) ck_S_past_0 rfl) rfl
theorem d_S_past_15 : decode y_S_past.2.1 15 = .ok (.getfield 194, 3) := op_getfield (gk (k := 0) (t := 15) ck_S_past_0 rfl) (gk (k := 0) (t := 16) ck_S_past_0 rfl) (gk (k := 0) (t := 17) ck_S_past_0 rfl) rfl
theorem d_S_past_18 : decode y_S_past.2.1 18 = .ok (.iconst 0, 1) := op_iconst0 (gk (k := 0) (t := 18) ck_S_past_0 rfl)
theorem d_S_past_19 : decode y_S_past.2.1 19 = .ok (.iaload, 1) := op_iaload (gk (k := 0) (t := 19) ck_S_past_0 rfl)
theorem d_S_past_20 : decode y_S_past.2.1 20 = .ok (.if_icmp .ge 16, 3) := op_icmp_ge (gk (k := 0) (t := 20) ck_S_past_0 rfl) (gk (k := 0) (t := 21) ck_S_past_0 rfl) (gk (k := 0) (t := 22) ck_S_past_0 rfl) (by decide +kernel)
theorem d_S_past_23 : decode y_S_past.2.1 23 = .ok (.iload_n 2, 1) := op_iload_n2 (gk (k := 0) (t := 23) ck_S_past_0 rfl)
theorem d_S_past_24 : decode y_S_past.2.1 24 = .ok (.ifCond .lt 12, 3) := op_if_lt (gk (k := 0) (t := 24) ck_S_past_0 rfl) (gk (k := 0) (t := 25) ck_S_past_0 rfl) (gk (k := 0) (t := 26) ck_S_past_0 rfl) (by decide +kernel)
theorem d_S_past_27 : decode y_S_past.2.1 27 = .ok (.iload_n 2, 1) := op_iload_n2 (gk (k := 0) (t := 27) ck_S_past_0 rfl)
theorem d_S_past_28 : decode y_S_past.2.1 28 = .ok (.iconst 2, 1) := op_iconst2 (gk (k := 0) (t := 28) ck_S_past_0 rfl)
theorem d_S_past_29 : decode y_S_past.2.1 29 = .ok (.if_icmp .gt 7, 3) := op_icmp_gt (gk (k := 0) (t := 29) ck_S_past_0 rfl) (gk (k := 0) (t := 30) ck_S_past_0 rfl) (gk (k := 0) (t := 31) ck_S_past_0 rfl) (by decide +kernel)
theorem d_S_past_32 : decode y_S_past.2.1 32 = .ok (.iconst 1, 1) := op_iconst1 (gk (k := 32) (t := 0) ck_S_past_1 rfl)
theorem d_S_past_33 : decode y_S_past.2.1 33 = .ok (.goto 4, 3) := op_goto (gk (k := 32) (t := 1) ck_S_past_1 rfl) (gk (k := 32) (t := 2) ck_S_past_1 rfl) (gk (k := 32) (t := 3) ck_S_past_1 rfl) (by decide +kernel)
abbrev y_M_bestSet : MI := (⟨"SinglesUp$Mind", "bestSet", "(LSinglesUp$Hill;II)I"⟩, prog_7_method_10_code, 7, some .int)
theorem ck_M_bestSet_0 : (y_M_bestSet.2.1.data.toList.drop 0).take 32 = [3, 54, 4, 21, 4, 16, 16, 162, 0, 117, 42, 180, 0, 12, 43, 182, 0, 29, 42, 180, 0, 12, 21, 4, 181, 0, 90, 42, 180, 0, 21, 42] := by decide +kernel
theorem d_M_bestSet_0 : decode y_M_bestSet.2.1 0 = .ok (.iconst 0, 1) := op_iconst0 (gk (k := 0) (t := 0) ck_M_bestSet_0 rfl)
theorem d_M_bestSet_1 : decode y_M_bestSet.2.1 1 = .ok (.istore 4, 2) := op_istore (gk (k := 0) (t := 1) ck_M_bestSet_0 rfl) (gk (k := 0) (t := 2) ck_M_bestSet_0 rfl) rfl
theorem d_M_bestSet_3 : decode y_M_bestSet.2.1 3 = .ok (.iload 4, 2) := op_iload (gk (k := 0) (t := 3) ck_M_bestSet_0 rfl) (gk (k := 0) (t := 4) ck_M_bestSet_0 rfl) rfl
theorem d_M_bestSet_5 : decode y_M_bestSet.2.1 5 = .ok (.bipush 16, 2) := op_bipush (gk (k := 0) (t := 5) ck_M_bestSet_0 rfl) (gk (k := 0) (t := 6) ck_M_bestSet_0 rfl) rfl
theorem d_M_bestSet_7 : decode y_M_bestSet.2.1 7 = .ok (.if_icmp .ge 117, 3) := op_icmp_ge (gk (k := 0) (t := 7) ck_M_bestSet_0 rfl) (gk (k := 0) (t := 8) ck_M_bestSet_0 rfl) (gk (k := 0) (t := 9) ck_M_bestSet_0 rfl) (by decide +kernel)
theorem d_M_bestSet_10 : decode y_M_bestSet.2.1 10 = .ok (.aload_n 0, 1) := op_aload_n0 (gk (k := 0) (t := 10) ck_M_bestSet_0 rfl)
theorem d_M_bestSet_11 : decode y_M_bestSet.2.1 11 = .ok (.getfield 12, 3) := op_getfield (gk (k := 0) (t := 11) ck_M_bestSet_0 rfl) (gk (k := 0) (t := 12) ck_M_bestSet_0 rfl) (gk (k := 0) (t := 13) ck_M_bestSet_0 rfl) rfl
theorem d_M_bestSet_14 : decode y_M_bestSet.2.1 14 = .ok (.aload_n 1, 1) := op_aload_n1 (gk (k := 0) (t := 14) ck_M_bestSet_0 rfl)
theorem d_M_bestSet_15 : decode y_M_bestSet.2.1 15 = .ok (.invokevirtual 29, 3) := op_invokevirtual (gk (k := 0) (t := 15) ck_M_bestSet_0 rfl) (gk (k := 0) (t := 16) ck_M_bestSet_0 rfl) (gk (k := 0) (t := 17) ck_M_bestSet_0 rfl) rfl
theorem d_M_bestSet_18 : decode y_M_bestSet.2.1 18 = .ok (.aload_n 0, 1) := op_aload_n0 (gk (k := 0) (t := 18) ck_M_bestSet_0 rfl)
theorem d_M_bestSet_19 : decode y_M_bestSet.2.1 19 = .ok (.getfield 12, 3) := op_getfield (gk (k := 0) (t := 19) ck_M_bestSet_0 rfl) (gk (k := 0) (t := 20) ck_M_bestSet_0 rfl) (gk (k := 0) (t := 21) ck_M_bestSet_0 rfl) rfl
theorem d_M_bestSet_22 : decode y_M_bestSet.2.1 22 = .ok (.iload 4, 2) := op_iload (gk (k := 0) (t := 22) ck_M_bestSet_0 rfl) (gk (k := 0) (t := 23) ck_M_bestSet_0 rfl) rfl
theorem fl_M_90 : FL "SinglesUp$Mind" 90 2 11 := ⟨"SinglesUp$Hill", zT2, 14, rfl, by decide, rfl, Or.inr ⟨"SinglesUp", nw_in 114 (by decide +kernel) rfl⟩⟩
theorem d_M_bestSet_24 : decode y_M_bestSet.2.1 24 = .ok (.putfield 90, 3) := op_putfield (gk (k := 0) (t := 24) ck_M_bestSet_0 rfl) (gk (k := 0) (t := 25) ck_M_bestSet_0 rfl) (gk (k := 0) (t := 26) ck_M_bestSet_0 rfl) rfl
theorem d_M_bestSet_27 : decode y_M_bestSet.2.1 27 = .ok (.aload_n 0, 1) := op_aload_n0 (gk (k := 0) (t := 27) ck_M_bestSet_0 rfl)
theorem d_M_bestSet_28 : decode y_M_bestSet.2.1 28 = .ok (.getfield 21, 3) := op_getfield (gk (k := 0) (t := 28) ck_M_bestSet_0 rfl) (gk (k := 0) (t := 29) ck_M_bestSet_0 rfl) (gk (k := 0) (t := 30) ck_M_bestSet_0 rfl) rfl
theorem d_M_bestSet_31 : decode y_M_bestSet.2.1 31 = .ok (.aload_n 0, 1) := op_aload_n0 (gk (k := 0) (t := 31) ck_M_bestSet_0 rfl)
theorem ck_M_bestSet_1 : (y_M_bestSet.2.1.data.toList.drop 32).take 32 = [180, 0, 12, 28, 182, 0, 36, 87, 42, 43, 3, 182, 0, 94, 54, 5, 42, 43, 5, 182, 0, 94, 54, 6, 21, 4, 153, 0, 36, 21, 5, 42] := by decide +kernel
theorem d_M_bestSet_32 : decode y_M_bestSet.2.1 32 = .ok (.getfield 12, 3) := op_getfield (gk (k := 32) (t := 0) ck_M_bestSet_1 rfl) (gk (k := 32) (t := 1) ck_M_bestSet_1 rfl) (gk (k := 32) (t := 2) ck_M_bestSet_1 rfl) rfl
theorem d_M_bestSet_35 : decode y_M_bestSet.2.1 35 = .ok (.iload_n 2, 1) := op_iload_n2 (gk (k := 32) (t := 3) ck_M_bestSet_1 rfl)
theorem d_M_bestSet_36 : decode y_M_bestSet.2.1 36 = .ok (.invokevirtual 36, 3) := op_invokevirtual (gk (k := 32) (t := 4) ck_M_bestSet_1 rfl) (gk (k := 32) (t := 5) ck_M_bestSet_1 rfl) (gk (k := 32) (t := 6) ck_M_bestSet_1 rfl) rfl
theorem d_M_bestSet_39 : decode y_M_bestSet.2.1 39 = .ok (.pop, 1) := op_pop (gk (k := 32) (t := 7) ck_M_bestSet_1 rfl)
theorem d_M_bestSet_40 : decode y_M_bestSet.2.1 40 = .ok (.aload_n 0, 1) := op_aload_n0 (gk (k := 32) (t := 8) ck_M_bestSet_1 rfl)
theorem d_M_bestSet_41 : decode y_M_bestSet.2.1 41 = .ok (.aload_n 1, 1) := op_aload_n1 (gk (k := 32) (t := 9) ck_M_bestSet_1 rfl)
theorem d_M_bestSet_42 : decode y_M_bestSet.2.1 42 = .ok (.iconst 0, 1) := op_iconst0 (gk (k := 32) (t := 10) ck_M_bestSet_1 rfl)
theorem lk_M_94 : LkV "SinglesUp$Mind" 94 y_M_gained := ⟨tw_c4 224 (by decide +kernel) rfl, tw_c4 225 (by decide +kernel) rfl, Or.inl (tw_c5 69 (by decide +kernel) rfl)⟩
theorem d_M_bestSet_43 : decode y_M_bestSet.2.1 43 = .ok (.invokevirtual 94, 3) := op_invokevirtual (gk (k := 32) (t := 11) ck_M_bestSet_1 rfl) (gk (k := 32) (t := 12) ck_M_bestSet_1 rfl) (gk (k := 32) (t := 13) ck_M_bestSet_1 rfl) rfl
theorem d_M_bestSet_46 : decode y_M_bestSet.2.1 46 = .ok (.istore 5, 2) := op_istore (gk (k := 32) (t := 14) ck_M_bestSet_1 rfl) (gk (k := 32) (t := 15) ck_M_bestSet_1 rfl) rfl
theorem d_M_bestSet_48 : decode y_M_bestSet.2.1 48 = .ok (.aload_n 0, 1) := op_aload_n0 (gk (k := 32) (t := 16) ck_M_bestSet_1 rfl)
theorem d_M_bestSet_49 : decode y_M_bestSet.2.1 49 = .ok (.aload_n 1, 1) := op_aload_n1 (gk (k := 32) (t := 17) ck_M_bestSet_1 rfl)
theorem d_M_bestSet_50 : decode y_M_bestSet.2.1 50 = .ok (.iconst 2, 1) := op_iconst2 (gk (k := 32) (t := 18) ck_M_bestSet_1 rfl)
theorem d_M_bestSet_51 : decode y_M_bestSet.2.1 51 = .ok (.invokevirtual 94, 3) := op_invokevirtual (gk (k := 32) (t := 19) ck_M_bestSet_1 rfl) (gk (k := 32) (t := 20) ck_M_bestSet_1 rfl) (gk (k := 32) (t := 21) ck_M_bestSet_1 rfl) rfl
theorem d_M_bestSet_54 : decode y_M_bestSet.2.1 54 = .ok (.istore 6, 2) := op_istore (gk (k := 32) (t := 22) ck_M_bestSet_1 rfl) (gk (k := 32) (t := 23) ck_M_bestSet_1 rfl) rfl
theorem d_M_bestSet_56 : decode y_M_bestSet.2.1 56 = .ok (.iload 4, 2) := op_iload (gk (k := 32) (t := 24) ck_M_bestSet_1 rfl) (gk (k := 32) (t := 25) ck_M_bestSet_1 rfl) rfl
theorem ck_M_bestSet_3 : (y_M_bestSet.2.1.data.toList.drop 96).take 32 = [0, 25, 3, 21, 4, 79, 42, 180, 0, 25, 4, 21, 5, 79, 42, 180, 0, 25, 5, 21, 6, 79, 132, 4, 1, 167, 255, 138, 29, 155, 0, 21] := by decide +kernel
theorem d_M_bestSet_118 : decode y_M_bestSet.2.1 118 = .ok (.iinc 4 1, 3) := op_iinc (gk (k := 96) (t := 22) ck_M_bestSet_3 rfl) (gk (k := 96) (t := 23) ck_M_bestSet_3 rfl) (gk (k := 96) (t := 24) ck_M_bestSet_3 rfl) rfl rfl
theorem d_M_bestSet_121 : decode y_M_bestSet.2.1 121 = .ok (.goto (-118), 3) := op_goto (gk (k := 96) (t := 25) ck_M_bestSet_3 rfl) (gk (k := 96) (t := 26) ck_M_bestSet_3 rfl) (gk (k := 96) (t := 27) ck_M_bestSet_3 rfl) (by decide +kernel)
theorem ck_M_bestSet_2 : (y_M_bestSet.2.1.data.toList.drop 64).take 32 = [180, 0, 25, 4, 46, 161, 0, 25, 21, 5, 42, 180, 0, 25, 4, 46, 160, 0, 38, 21, 6, 42, 180, 0, 25, 5, 46, 162, 0, 27, 42, 180] := by decide +kernel
theorem d_M_bestSet_94 : decode y_M_bestSet.2.1 94 = .ok (.aload_n 0, 1) := op_aload_n0 (gk (k := 64) (t := 30) ck_M_bestSet_2 rfl)
theorem fl_M_25 : FL "SinglesUp$Mind" 25 5 2 := ⟨"SinglesUp$Mind", zT5, 3, rfl, by decide, rfl, Or.inl (tw_c1 202 (by decide +kernel) rfl)⟩
theorem rc_5_2 : ∀ o, KC[o]? = some (8, 3) → RC o 2 = some (o + 48) ∧ KC[o + 48]? = some (0, 3) := by
  intro o h
  have hl : o < 166 := (List.getElem?_eq_some_iff.mp h).1
  exact (by decide +kernel : ∀ o, o < 166 → KC[o]? = some (8, 3) → RC o 2 = some (o + 48) ∧ KC[o + 48]? = some (0, 3)) o hl h
theorem d_M_bestSet_95 : decode y_M_bestSet.2.1 95 = .ok (.getfield 25, 3) := op_getfield (gk (k := 64) (t := 31) ck_M_bestSet_2 rfl) (gk (k := 96) (t := 0) ck_M_bestSet_3 rfl) (gk (k := 96) (t := 1) ck_M_bestSet_3 rfl) rfl
theorem d_M_bestSet_98 : decode y_M_bestSet.2.1 98 = .ok (.iconst 0, 1) := op_iconst0 (gk (k := 96) (t := 2) ck_M_bestSet_3 rfl)
theorem d_M_bestSet_99 : decode y_M_bestSet.2.1 99 = .ok (.iload 4, 2) := op_iload (gk (k := 96) (t := 3) ck_M_bestSet_3 rfl) (gk (k := 96) (t := 4) ck_M_bestSet_3 rfl) rfl
theorem d_M_bestSet_101 : decode y_M_bestSet.2.1 101 = .ok (.iastore, 1) := op_iastore (gk (k := 96) (t := 5) ck_M_bestSet_3 rfl)
theorem d_M_bestSet_102 : decode y_M_bestSet.2.1 102 = .ok (.aload_n 0, 1) := op_aload_n0 (gk (k := 96) (t := 6) ck_M_bestSet_3 rfl)
theorem d_M_bestSet_103 : decode y_M_bestSet.2.1 103 = .ok (.getfield 25, 3) := op_getfield (gk (k := 96) (t := 7) ck_M_bestSet_3 rfl) (gk (k := 96) (t := 8) ck_M_bestSet_3 rfl) (gk (k := 96) (t := 9) ck_M_bestSet_3 rfl) rfl
theorem d_M_bestSet_106 : decode y_M_bestSet.2.1 106 = .ok (.iconst 1, 1) := op_iconst1 (gk (k := 96) (t := 10) ck_M_bestSet_3 rfl)
theorem d_M_bestSet_107 : decode y_M_bestSet.2.1 107 = .ok (.iload 5, 2) := op_iload (gk (k := 96) (t := 11) ck_M_bestSet_3 rfl) (gk (k := 96) (t := 12) ck_M_bestSet_3 rfl) rfl
theorem d_M_bestSet_109 : decode y_M_bestSet.2.1 109 = .ok (.iastore, 1) := op_iastore (gk (k := 96) (t := 13) ck_M_bestSet_3 rfl)
theorem d_M_bestSet_110 : decode y_M_bestSet.2.1 110 = .ok (.aload_n 0, 1) := op_aload_n0 (gk (k := 96) (t := 14) ck_M_bestSet_3 rfl)
theorem d_M_bestSet_111 : decode y_M_bestSet.2.1 111 = .ok (.getfield 25, 3) := op_getfield (gk (k := 96) (t := 15) ck_M_bestSet_3 rfl) (gk (k := 96) (t := 16) ck_M_bestSet_3 rfl) (gk (k := 96) (t := 17) ck_M_bestSet_3 rfl) rfl
theorem d_M_bestSet_114 : decode y_M_bestSet.2.1 114 = .ok (.iconst 2, 1) := op_iconst2 (gk (k := 96) (t := 18) ck_M_bestSet_3 rfl)
theorem d_M_bestSet_115 : decode y_M_bestSet.2.1 115 = .ok (.iload 6, 2) := op_iload (gk (k := 96) (t := 19) ck_M_bestSet_3 rfl) (gk (k := 96) (t := 20) ck_M_bestSet_3 rfl) rfl
theorem d_M_bestSet_117 : decode y_M_bestSet.2.1 117 = .ok (.iastore, 1) := op_iastore (gk (k := 96) (t := 21) ck_M_bestSet_3 rfl)
theorem d_M_bestSet_58 : decode y_M_bestSet.2.1 58 = .ok (.ifCond .eq 36, 3) := op_if_eq (gk (k := 32) (t := 26) ck_M_bestSet_1 rfl) (gk (k := 32) (t := 27) ck_M_bestSet_1 rfl) (gk (k := 32) (t := 28) ck_M_bestSet_1 rfl) (by decide +kernel)
theorem d_M_bestSet_61 : decode y_M_bestSet.2.1 61 = .ok (.iload 5, 2) := op_iload (gk (k := 32) (t := 29) ck_M_bestSet_1 rfl) (gk (k := 32) (t := 30) ck_M_bestSet_1 rfl) rfl
theorem d_M_bestSet_63 : decode y_M_bestSet.2.1 63 = .ok (.aload_n 0, 1) := op_aload_n0 (gk (k := 32) (t := 31) ck_M_bestSet_1 rfl)
theorem d_M_bestSet_64 : decode y_M_bestSet.2.1 64 = .ok (.getfield 25, 3) := op_getfield (gk (k := 64) (t := 0) ck_M_bestSet_2 rfl) (gk (k := 64) (t := 1) ck_M_bestSet_2 rfl) (gk (k := 64) (t := 2) ck_M_bestSet_2 rfl) rfl
theorem d_M_bestSet_67 : decode y_M_bestSet.2.1 67 = .ok (.iconst 1, 1) := op_iconst1 (gk (k := 64) (t := 3) ck_M_bestSet_2 rfl)
theorem d_M_bestSet_68 : decode y_M_bestSet.2.1 68 = .ok (.iaload, 1) := op_iaload (gk (k := 64) (t := 4) ck_M_bestSet_2 rfl)
theorem d_M_bestSet_69 : decode y_M_bestSet.2.1 69 = .ok (.if_icmp .lt 25, 3) := op_icmp_lt (gk (k := 64) (t := 5) ck_M_bestSet_2 rfl) (gk (k := 64) (t := 6) ck_M_bestSet_2 rfl) (gk (k := 64) (t := 7) ck_M_bestSet_2 rfl) (by decide +kernel)
theorem d_M_bestSet_72 : decode y_M_bestSet.2.1 72 = .ok (.iload 5, 2) := op_iload (gk (k := 64) (t := 8) ck_M_bestSet_2 rfl) (gk (k := 64) (t := 9) ck_M_bestSet_2 rfl) rfl
theorem d_M_bestSet_74 : decode y_M_bestSet.2.1 74 = .ok (.aload_n 0, 1) := op_aload_n0 (gk (k := 64) (t := 10) ck_M_bestSet_2 rfl)
theorem d_M_bestSet_75 : decode y_M_bestSet.2.1 75 = .ok (.getfield 25, 3) := op_getfield (gk (k := 64) (t := 11) ck_M_bestSet_2 rfl) (gk (k := 64) (t := 12) ck_M_bestSet_2 rfl) (gk (k := 64) (t := 13) ck_M_bestSet_2 rfl) rfl
theorem d_M_bestSet_78 : decode y_M_bestSet.2.1 78 = .ok (.iconst 1, 1) := op_iconst1 (gk (k := 64) (t := 14) ck_M_bestSet_2 rfl)
theorem d_M_bestSet_79 : decode y_M_bestSet.2.1 79 = .ok (.iaload, 1) := op_iaload (gk (k := 64) (t := 15) ck_M_bestSet_2 rfl)
theorem d_M_bestSet_80 : decode y_M_bestSet.2.1 80 = .ok (.if_icmp .ne 38, 3) := op_icmp_ne (gk (k := 64) (t := 16) ck_M_bestSet_2 rfl) (gk (k := 64) (t := 17) ck_M_bestSet_2 rfl) (gk (k := 64) (t := 18) ck_M_bestSet_2 rfl) (by decide +kernel)
theorem d_M_bestSet_83 : decode y_M_bestSet.2.1 83 = .ok (.iload 6, 2) := op_iload (gk (k := 64) (t := 19) ck_M_bestSet_2 rfl) (gk (k := 64) (t := 20) ck_M_bestSet_2 rfl) rfl
theorem d_M_bestSet_85 : decode y_M_bestSet.2.1 85 = .ok (.aload_n 0, 1) := op_aload_n0 (gk (k := 64) (t := 21) ck_M_bestSet_2 rfl)
theorem d_M_bestSet_86 : decode y_M_bestSet.2.1 86 = .ok (.getfield 25, 3) := op_getfield (gk (k := 64) (t := 22) ck_M_bestSet_2 rfl) (gk (k := 64) (t := 23) ck_M_bestSet_2 rfl) (gk (k := 64) (t := 24) ck_M_bestSet_2 rfl) rfl
theorem d_M_bestSet_89 : decode y_M_bestSet.2.1 89 = .ok (.iconst 2, 1) := op_iconst2 (gk (k := 64) (t := 25) ck_M_bestSet_2 rfl)
theorem d_M_bestSet_90 : decode y_M_bestSet.2.1 90 = .ok (.iaload, 1) := op_iaload (gk (k := 64) (t := 26) ck_M_bestSet_2 rfl)
theorem d_M_bestSet_91 : decode y_M_bestSet.2.1 91 = .ok (.if_icmp .ge 27, 3) := op_icmp_ge (gk (k := 64) (t := 27) ck_M_bestSet_2 rfl) (gk (k := 64) (t := 28) ck_M_bestSet_2 rfl) (gk (k := 64) (t := 29) ck_M_bestSet_2 rfl) (by decide +kernel)
theorem d_M_bestSet_124 : decode y_M_bestSet.2.1 124 = .ok (.iload_n 3, 1) := op_iload_n3 (gk (k := 96) (t := 28) ck_M_bestSet_3 rfl)
theorem d_M_bestSet_125 : decode y_M_bestSet.2.1 125 = .ok (.ifCond .lt 21, 3) := op_if_lt (gk (k := 96) (t := 29) ck_M_bestSet_3 rfl) (gk (k := 96) (t := 30) ck_M_bestSet_3 rfl) (gk (k := 96) (t := 31) ck_M_bestSet_3 rfl) (by decide +kernel)
theorem ck_M_bestSet_4 : (y_M_bestSet.2.1.data.toList.drop 128).take 32 = [29, 42, 180, 0, 25, 190, 162, 0, 12, 42, 180, 0, 25, 29, 46, 167, 0, 4, 2, 172] := by decide +kernel
theorem d_M_bestSet_146 : decode y_M_bestSet.2.1 146 = .ok (.iconst (-1), 1) := op_iconstm1 (gk (k := 128) (t := 18) ck_M_bestSet_4 rfl)
theorem d_M_bestSet_147 : decode y_M_bestSet.2.1 147 = .ok (.ireturn, 1) := op_ireturn (gk (k := 128) (t := 19) ck_M_bestSet_4 rfl)
theorem d_M_bestSet_128 : decode y_M_bestSet.2.1 128 = .ok (.iload_n 3, 1) := op_iload_n3 (gk (k := 128) (t := 0) ck_M_bestSet_4 rfl)
theorem d_M_bestSet_129 : decode y_M_bestSet.2.1 129 = .ok (.aload_n 0, 1) := op_aload_n0 (gk (k := 128) (t := 1) ck_M_bestSet_4 rfl)
theorem d_M_bestSet_130 : decode y_M_bestSet.2.1 130 = .ok (.getfield 25, 3) := op_getfield (gk (k := 128) (t := 2) ck_M_bestSet_4 rfl) (gk (k := 128) (t := 3) ck_M_bestSet_4 rfl) (gk (k := 128) (t := 4) ck_M_bestSet_4 rfl) rfl
theorem d_M_bestSet_133 : decode y_M_bestSet.2.1 133 = .ok (.arraylength, 1) := op_arraylength (gk (k := 128) (t := 5) ck_M_bestSet_4 rfl)
theorem d_M_bestSet_134 : decode y_M_bestSet.2.1 134 = .ok (.if_icmp .ge 12, 3) := op_icmp_ge (gk (k := 128) (t := 6) ck_M_bestSet_4 rfl) (gk (k := 128) (t := 7) ck_M_bestSet_4 rfl) (gk (k := 128) (t := 8) ck_M_bestSet_4 rfl) (by decide +kernel)
theorem d_M_bestSet_137 : decode y_M_bestSet.2.1 137 = .ok (.aload_n 0, 1) := op_aload_n0 (gk (k := 128) (t := 9) ck_M_bestSet_4 rfl)
theorem d_M_bestSet_138 : decode y_M_bestSet.2.1 138 = .ok (.getfield 25, 3) := op_getfield (gk (k := 128) (t := 10) ck_M_bestSet_4 rfl) (gk (k := 128) (t := 11) ck_M_bestSet_4 rfl) (gk (k := 128) (t := 12) ck_M_bestSet_4 rfl) rfl
theorem d_M_bestSet_141 : decode y_M_bestSet.2.1 141 = .ok (.iload_n 3, 1) := op_iload_n3 (gk (k := 128) (t := 13) ck_M_bestSet_4 rfl)
theorem d_M_bestSet_142 : decode y_M_bestSet.2.1 142 = .ok (.iaload, 1) := op_iaload (gk (k := 128) (t := 14) ck_M_bestSet_4 rfl)
theorem d_M_bestSet_143 : decode y_M_bestSet.2.1 143 = .ok (.goto 4, 3) := op_goto (gk (k := 128) (t := 15) ck_M_bestSet_4 rfl) (gk (k := 128) (t := 16) ck_M_bestSet_4 rfl) (gk (k := 128) (t := 17) ck_M_bestSet_4 rfl) (by decide +kernel)
abbrev y_S_which : MI := (⟨"SinglesUp", "which", "(II)I"⟩, prog_1_method_30_code, 3, some .int)
theorem ck_S_which_0 : (y_S_which.2.1.data.toList.drop 0).take 32 = [27, 4, 161, 0, 18, 27, 16, 20, 163, 0, 12, 28, 155, 0, 8, 28, 5, 164, 0, 7, 2, 167, 0, 16, 42, 180, 0, 22, 42, 180, 0, 12] := by decide +kernel
theorem d_S_which_0 : decode y_S_which.2.1 0 = .ok (.iload_n 1, 1) := op_iload_n1 (gk (k := 0) (t := 0) ck_S_which_0 rfl)
theorem d_S_which_1 : decode y_S_which.2.1 1 = .ok (.iconst 1, 1) := op_iconst1 (gk (k := 0) (t := 1) ck_S_which_0 rfl)
theorem d_S_which_2 : decode y_S_which.2.1 2 = .ok (.if_icmp .lt 18, 3) := op_icmp_lt (gk (k := 0) (t := 2) ck_S_which_0 rfl) (gk (k := 0) (t := 3) ck_S_which_0 rfl) (gk (k := 0) (t := 4) ck_S_which_0 rfl) (by decide +kernel)
theorem d_S_which_20 : decode y_S_which.2.1 20 = .ok (.iconst (-1), 1) := op_iconstm1 (gk (k := 0) (t := 20) ck_S_which_0 rfl)
theorem d_S_which_21 : decode y_S_which.2.1 21 = .ok (.goto 16, 3) := op_goto (gk (k := 0) (t := 21) ck_S_which_0 rfl) (gk (k := 0) (t := 22) ck_S_which_0 rfl) (gk (k := 0) (t := 23) ck_S_which_0 rfl) (by decide +kernel)
theorem ck_S_which_1 : (y_S_which.2.1.data.toList.drop 32).take 32 = [27, 28, 182, 0, 246, 172] := by decide +kernel
theorem d_S_which_37 : decode y_S_which.2.1 37 = .ok (.ireturn, 1) := op_ireturn (gk (k := 32) (t := 5) ck_S_which_1 rfl)
theorem d_S_which_5 : decode y_S_which.2.1 5 = .ok (.iload_n 1, 1) := op_iload_n1 (gk (k := 0) (t := 5) ck_S_which_0 rfl)
theorem d_S_which_6 : decode y_S_which.2.1 6 = .ok (.bipush 20, 2) := op_bipush (gk (k := 0) (t := 6) ck_S_which_0 rfl) (gk (k := 0) (t := 7) ck_S_which_0 rfl) rfl
theorem in_20 : inr (20) := lit_in rfl
theorem d_S_which_8 : decode y_S_which.2.1 8 = .ok (.if_icmp .gt 12, 3) := op_icmp_gt (gk (k := 0) (t := 8) ck_S_which_0 rfl) (gk (k := 0) (t := 9) ck_S_which_0 rfl) (gk (k := 0) (t := 10) ck_S_which_0 rfl) (by decide +kernel)
theorem d_S_which_11 : decode y_S_which.2.1 11 = .ok (.iload_n 2, 1) := op_iload_n2 (gk (k := 0) (t := 11) ck_S_which_0 rfl)
theorem d_S_which_12 : decode y_S_which.2.1 12 = .ok (.ifCond .lt 8, 3) := op_if_lt (gk (k := 0) (t := 12) ck_S_which_0 rfl) (gk (k := 0) (t := 13) ck_S_which_0 rfl) (gk (k := 0) (t := 14) ck_S_which_0 rfl) (by decide +kernel)
theorem d_S_which_15 : decode y_S_which.2.1 15 = .ok (.iload_n 2, 1) := op_iload_n2 (gk (k := 0) (t := 15) ck_S_which_0 rfl)
theorem d_S_which_16 : decode y_S_which.2.1 16 = .ok (.iconst 2, 1) := op_iconst2 (gk (k := 0) (t := 16) ck_S_which_0 rfl)
theorem d_S_which_17 : decode y_S_which.2.1 17 = .ok (.if_icmp .le 7, 3) := op_icmp_le (gk (k := 0) (t := 17) ck_S_which_0 rfl) (gk (k := 0) (t := 18) ck_S_which_0 rfl) (gk (k := 0) (t := 19) ck_S_which_0 rfl) (by decide +kernel)
theorem d_S_which_24 : decode y_S_which.2.1 24 = .ok (.aload_n 0, 1) := op_aload_n0 (gk (k := 0) (t := 24) ck_S_which_0 rfl)
theorem d_S_which_25 : decode y_S_which.2.1 25 = .ok (.getfield 22, 3) := op_getfield (gk (k := 0) (t := 25) ck_S_which_0 rfl) (gk (k := 0) (t := 26) ck_S_which_0 rfl) (gk (k := 0) (t := 27) ck_S_which_0 rfl) rfl
theorem d_S_which_28 : decode y_S_which.2.1 28 = .ok (.aload_n 0, 1) := op_aload_n0 (gk (k := 0) (t := 28) ck_S_which_0 rfl)
theorem d_S_which_29 : decode y_S_which.2.1 29 = .ok (.getfield 12, 3) := op_getfield (gk (k := 0) (t := 29) ck_S_which_0 rfl) (gk (k := 0) (t := 30) ck_S_which_0 rfl) (gk (k := 0) (t := 31) ck_S_which_0 rfl) rfl
theorem d_S_which_32 : decode y_S_which.2.1 32 = .ok (.iload_n 1, 1) := op_iload_n1 (gk (k := 32) (t := 0) ck_S_which_1 rfl)
theorem d_S_which_33 : decode y_S_which.2.1 33 = .ok (.iload_n 2, 1) := op_iload_n2 (gk (k := 32) (t := 1) ck_S_which_1 rfl)
theorem lk_S_246 : LkV "SinglesUp" 246 y_M_bestSet := ⟨tw_c5 66 (by decide +kernel) rfl, tw_c5 67 (by decide +kernel) rfl, Or.inl (tw_c5 65 (by decide +kernel) rfl)⟩
set_option maxRecDepth 100000 in
theorem mo_M_bestSet : MOk y_M_bestSet 3 := ⟨by decide +kernel, tw_c5 68 rfl rfl, tw_c1 6 (by decide +kernel) rfl, by decide +kernel, by decide +kernel, by decide +kernel⟩
theorem d_S_which_34 : decode y_S_which.2.1 34 = .ok (.invokevirtual 246, 3) := op_invokevirtual (gk (k := 32) (t := 2) ck_S_which_1 rfl) (gk (k := 32) (t := 3) ck_S_which_1 rfl) (gk (k := 32) (t := 4) ck_S_which_1 rfl) rfl
abbrev y_L_rowOf : MI := (⟨"SinglesUp$Lines", "rowOf", "(III)I"⟩, prog_6_method_19_code, 10, some .int)
theorem ck_L_rowOf_0 : (y_L_rowOf.2.1.data.toList.drop 0).take 32 = [3, 54, 4, 3, 54, 5, 42, 27, 182, 0, 60, 54, 6, 3, 54, 7, 21, 7, 21, 6, 162, 0, 101, 42, 27, 16, 40, 104, 21, 7, 96, 4] := by decide +kernel
theorem d_L_rowOf_0 : decode y_L_rowOf.2.1 0 = .ok (.iconst 0, 1) := op_iconst0 (gk (k := 0) (t := 0) ck_L_rowOf_0 rfl)
theorem d_L_rowOf_1 : decode y_L_rowOf.2.1 1 = .ok (.istore 4, 2) := op_istore (gk (k := 0) (t := 1) ck_L_rowOf_0 rfl) (gk (k := 0) (t := 2) ck_L_rowOf_0 rfl) rfl
theorem d_L_rowOf_3 : decode y_L_rowOf.2.1 3 = .ok (.iconst 0, 1) := op_iconst0 (gk (k := 0) (t := 3) ck_L_rowOf_0 rfl)
theorem d_L_rowOf_4 : decode y_L_rowOf.2.1 4 = .ok (.istore 5, 2) := op_istore (gk (k := 0) (t := 4) ck_L_rowOf_0 rfl) (gk (k := 0) (t := 5) ck_L_rowOf_0 rfl) rfl
theorem d_L_rowOf_6 : decode y_L_rowOf.2.1 6 = .ok (.aload_n 0, 1) := op_aload_n0 (gk (k := 0) (t := 6) ck_L_rowOf_0 rfl)
theorem d_L_rowOf_7 : decode y_L_rowOf.2.1 7 = .ok (.iload_n 1, 1) := op_iload_n1 (gk (k := 0) (t := 7) ck_L_rowOf_0 rfl)
theorem d_L_rowOf_8 : decode y_L_rowOf.2.1 8 = .ok (.invokevirtual 60, 3) := op_invokevirtual (gk (k := 0) (t := 8) ck_L_rowOf_0 rfl) (gk (k := 0) (t := 9) ck_L_rowOf_0 rfl) (gk (k := 0) (t := 10) ck_L_rowOf_0 rfl) rfl
theorem d_L_rowOf_11 : decode y_L_rowOf.2.1 11 = .ok (.istore 6, 2) := op_istore (gk (k := 0) (t := 11) ck_L_rowOf_0 rfl) (gk (k := 0) (t := 12) ck_L_rowOf_0 rfl) rfl
theorem d_L_rowOf_13 : decode y_L_rowOf.2.1 13 = .ok (.iconst 0, 1) := op_iconst0 (gk (k := 0) (t := 13) ck_L_rowOf_0 rfl)
theorem d_L_rowOf_14 : decode y_L_rowOf.2.1 14 = .ok (.istore 7, 2) := op_istore (gk (k := 0) (t := 14) ck_L_rowOf_0 rfl) (gk (k := 0) (t := 15) ck_L_rowOf_0 rfl) rfl
theorem d_L_rowOf_16 : decode y_L_rowOf.2.1 16 = .ok (.iload 7, 2) := op_iload (gk (k := 0) (t := 16) ck_L_rowOf_0 rfl) (gk (k := 0) (t := 17) ck_L_rowOf_0 rfl) rfl
theorem d_L_rowOf_18 : decode y_L_rowOf.2.1 18 = .ok (.iload 6, 2) := op_iload (gk (k := 0) (t := 18) ck_L_rowOf_0 rfl) (gk (k := 0) (t := 19) ck_L_rowOf_0 rfl) rfl
theorem d_L_rowOf_20 : decode y_L_rowOf.2.1 20 = .ok (.if_icmp .ge 101, 3) := op_icmp_ge (gk (k := 0) (t := 20) ck_L_rowOf_0 rfl) (gk (k := 0) (t := 21) ck_L_rowOf_0 rfl) (gk (k := 0) (t := 22) ck_L_rowOf_0 rfl) (by decide +kernel)
theorem ck_L_rowOf_3 : (y_L_rowOf.2.1.data.toList.drop 96).take 32 = [167, 0, 4, 3, 96, 54, 4, 3, 54, 5, 21, 7, 29, 160, 0, 6, 21, 9, 172, 132, 7, 1, 167, 255, 154, 21, 4, 172] := by decide +kernel
theorem d_L_rowOf_121 : decode y_L_rowOf.2.1 121 = .ok (.iload 4, 2) := op_iload (gk (k := 96) (t := 25) ck_L_rowOf_3 rfl) (gk (k := 96) (t := 26) ck_L_rowOf_3 rfl) rfl
theorem d_L_rowOf_123 : decode y_L_rowOf.2.1 123 = .ok (.ireturn, 1) := op_ireturn (gk (k := 96) (t := 27) ck_L_rowOf_3 rfl)
theorem d_L_rowOf_23 : decode y_L_rowOf.2.1 23 = .ok (.aload_n 0, 1) := op_aload_n0 (gk (k := 0) (t := 23) ck_L_rowOf_0 rfl)
theorem d_L_rowOf_24 : decode y_L_rowOf.2.1 24 = .ok (.iload_n 1, 1) := op_iload_n1 (gk (k := 0) (t := 24) ck_L_rowOf_0 rfl)
theorem d_L_rowOf_25 : decode y_L_rowOf.2.1 25 = .ok (.bipush 40, 2) := op_bipush (gk (k := 0) (t := 25) ck_L_rowOf_0 rfl) (gk (k := 0) (t := 26) ck_L_rowOf_0 rfl) rfl
theorem d_L_rowOf_27 : decode y_L_rowOf.2.1 27 = .ok (.imul, 1) := op_imul (gk (k := 0) (t := 27) ck_L_rowOf_0 rfl)
theorem d_L_rowOf_28 : decode y_L_rowOf.2.1 28 = .ok (.iload 7, 2) := op_iload (gk (k := 0) (t := 28) ck_L_rowOf_0 rfl) (gk (k := 0) (t := 29) ck_L_rowOf_0 rfl) rfl
theorem d_L_rowOf_30 : decode y_L_rowOf.2.1 30 = .ok (.iadd, 1) := op_iadd (gk (k := 0) (t := 30) ck_L_rowOf_0 rfl)
theorem d_L_rowOf_31 : decode y_L_rowOf.2.1 31 = .ok (.iconst 1, 1) := op_iconst1 (gk (k := 0) (t := 31) ck_L_rowOf_0 rfl)
theorem ck_L_rowOf_1 : (y_L_rowOf.2.1.data.toList.drop 32).take 32 = [182, 0, 53, 54, 8, 21, 4, 54, 9, 21, 8, 21, 5, 163, 0, 19, 21, 4, 4, 100, 54, 9, 21, 5, 21, 8, 100, 54, 5, 167, 0, 45] := by decide +kernel
theorem d_L_rowOf_32 : decode y_L_rowOf.2.1 32 = .ok (.invokevirtual 53, 3) := op_invokevirtual (gk (k := 32) (t := 0) ck_L_rowOf_1 rfl) (gk (k := 32) (t := 1) ck_L_rowOf_1 rfl) (gk (k := 32) (t := 2) ck_L_rowOf_1 rfl) rfl
theorem d_L_rowOf_35 : decode y_L_rowOf.2.1 35 = .ok (.istore 8, 2) := op_istore (gk (k := 32) (t := 3) ck_L_rowOf_1 rfl) (gk (k := 32) (t := 4) ck_L_rowOf_1 rfl) rfl
theorem d_L_rowOf_37 : decode y_L_rowOf.2.1 37 = .ok (.iload 4, 2) := op_iload (gk (k := 32) (t := 5) ck_L_rowOf_1 rfl) (gk (k := 32) (t := 6) ck_L_rowOf_1 rfl) rfl
theorem d_L_rowOf_39 : decode y_L_rowOf.2.1 39 = .ok (.istore 9, 2) := op_istore (gk (k := 32) (t := 7) ck_L_rowOf_1 rfl) (gk (k := 32) (t := 8) ck_L_rowOf_1 rfl) rfl
theorem d_L_rowOf_41 : decode y_L_rowOf.2.1 41 = .ok (.iload 8, 2) := op_iload (gk (k := 32) (t := 9) ck_L_rowOf_1 rfl) (gk (k := 32) (t := 10) ck_L_rowOf_1 rfl) rfl
theorem d_L_rowOf_43 : decode y_L_rowOf.2.1 43 = .ok (.iload 5, 2) := op_iload (gk (k := 32) (t := 11) ck_L_rowOf_1 rfl) (gk (k := 32) (t := 12) ck_L_rowOf_1 rfl) rfl
theorem d_L_rowOf_106 : decode y_L_rowOf.2.1 106 = .ok (.iload 7, 2) := op_iload (gk (k := 96) (t := 10) ck_L_rowOf_3 rfl) (gk (k := 96) (t := 11) ck_L_rowOf_3 rfl) rfl
theorem d_L_rowOf_108 : decode y_L_rowOf.2.1 108 = .ok (.iload_n 3, 1) := op_iload_n3 (gk (k := 96) (t := 12) ck_L_rowOf_3 rfl)
theorem d_L_rowOf_109 : decode y_L_rowOf.2.1 109 = .ok (.if_icmp .ne 6, 3) := op_icmp_ne (gk (k := 96) (t := 13) ck_L_rowOf_3 rfl) (gk (k := 96) (t := 14) ck_L_rowOf_3 rfl) (gk (k := 96) (t := 15) ck_L_rowOf_3 rfl) (by decide +kernel)
theorem d_L_rowOf_115 : decode y_L_rowOf.2.1 115 = .ok (.iinc 7 1, 3) := op_iinc (gk (k := 96) (t := 19) ck_L_rowOf_3 rfl) (gk (k := 96) (t := 20) ck_L_rowOf_3 rfl) (gk (k := 96) (t := 21) ck_L_rowOf_3 rfl) rfl rfl
theorem d_L_rowOf_118 : decode y_L_rowOf.2.1 118 = .ok (.goto (-102), 3) := op_goto (gk (k := 96) (t := 22) ck_L_rowOf_3 rfl) (gk (k := 96) (t := 23) ck_L_rowOf_3 rfl) (gk (k := 96) (t := 24) ck_L_rowOf_3 rfl) (by decide +kernel)
theorem d_L_rowOf_112 : decode y_L_rowOf.2.1 112 = .ok (.iload 9, 2) := op_iload (gk (k := 96) (t := 16) ck_L_rowOf_3 rfl) (gk (k := 96) (t := 17) ck_L_rowOf_3 rfl) rfl
theorem d_L_rowOf_114 : decode y_L_rowOf.2.1 114 = .ok (.ireturn, 1) := op_ireturn (gk (k := 96) (t := 18) ck_L_rowOf_3 rfl)
theorem d_L_rowOf_45 : decode y_L_rowOf.2.1 45 = .ok (.if_icmp .gt 19, 3) := op_icmp_gt (gk (k := 32) (t := 13) ck_L_rowOf_1 rfl) (gk (k := 32) (t := 14) ck_L_rowOf_1 rfl) (gk (k := 32) (t := 15) ck_L_rowOf_1 rfl) (by decide +kernel)
theorem ck_L_rowOf_2 : (y_L_rowOf.2.1.data.toList.drop 64).take 32 = [21, 8, 28, 163, 0, 15, 132, 4, 1, 28, 21, 8, 100, 54, 5, 167, 0, 27, 21, 4, 28, 158, 0, 14, 21, 8, 28, 96, 4, 100, 28, 108] := by decide +kernel
theorem d_L_rowOf_64 : decode y_L_rowOf.2.1 64 = .ok (.iload 8, 2) := op_iload (gk (k := 64) (t := 0) ck_L_rowOf_2 rfl) (gk (k := 64) (t := 1) ck_L_rowOf_2 rfl) rfl
theorem d_L_rowOf_66 : decode y_L_rowOf.2.1 66 = .ok (.iload_n 2, 1) := op_iload_n2 (gk (k := 64) (t := 2) ck_L_rowOf_2 rfl)
theorem d_L_rowOf_67 : decode y_L_rowOf.2.1 67 = .ok (.if_icmp .gt 15, 3) := op_icmp_gt (gk (k := 64) (t := 3) ck_L_rowOf_2 rfl) (gk (k := 64) (t := 4) ck_L_rowOf_2 rfl) (gk (k := 64) (t := 5) ck_L_rowOf_2 rfl) (by decide +kernel)
theorem d_L_rowOf_82 : decode y_L_rowOf.2.1 82 = .ok (.iload 4, 2) := op_iload (gk (k := 64) (t := 18) ck_L_rowOf_2 rfl) (gk (k := 64) (t := 19) ck_L_rowOf_2 rfl) rfl
theorem d_L_rowOf_84 : decode y_L_rowOf.2.1 84 = .ok (.iload_n 2, 1) := op_iload_n2 (gk (k := 64) (t := 20) ck_L_rowOf_2 rfl)
theorem d_L_rowOf_85 : decode y_L_rowOf.2.1 85 = .ok (.ifCond .le 14, 3) := op_if_le (gk (k := 64) (t := 21) ck_L_rowOf_2 rfl) (gk (k := 64) (t := 22) ck_L_rowOf_2 rfl) (gk (k := 64) (t := 23) ck_L_rowOf_2 rfl) (by decide +kernel)
theorem d_L_rowOf_99 : decode y_L_rowOf.2.1 99 = .ok (.iconst 0, 1) := op_iconst0 (gk (k := 96) (t := 3) ck_L_rowOf_3 rfl)
theorem d_L_rowOf_100 : decode y_L_rowOf.2.1 100 = .ok (.iadd, 1) := op_iadd (gk (k := 96) (t := 4) ck_L_rowOf_3 rfl)
theorem d_L_rowOf_101 : decode y_L_rowOf.2.1 101 = .ok (.istore 4, 2) := op_istore (gk (k := 96) (t := 5) ck_L_rowOf_3 rfl) (gk (k := 96) (t := 6) ck_L_rowOf_3 rfl) rfl
theorem d_L_rowOf_103 : decode y_L_rowOf.2.1 103 = .ok (.iconst 0, 1) := op_iconst0 (gk (k := 96) (t := 7) ck_L_rowOf_3 rfl)
theorem d_L_rowOf_104 : decode y_L_rowOf.2.1 104 = .ok (.istore 5, 2) := op_istore (gk (k := 96) (t := 8) ck_L_rowOf_3 rfl) (gk (k := 96) (t := 9) ck_L_rowOf_3 rfl) rfl
theorem d_L_rowOf_88 : decode y_L_rowOf.2.1 88 = .ok (.iload 8, 2) := op_iload (gk (k := 64) (t := 24) ck_L_rowOf_2 rfl) (gk (k := 64) (t := 25) ck_L_rowOf_2 rfl) rfl
theorem d_L_rowOf_90 : decode y_L_rowOf.2.1 90 = .ok (.iload_n 2, 1) := op_iload_n2 (gk (k := 64) (t := 26) ck_L_rowOf_2 rfl)
theorem d_L_rowOf_91 : decode y_L_rowOf.2.1 91 = .ok (.iadd, 1) := op_iadd (gk (k := 64) (t := 27) ck_L_rowOf_2 rfl)
theorem d_L_rowOf_92 : decode y_L_rowOf.2.1 92 = .ok (.iconst 1, 1) := op_iconst1 (gk (k := 64) (t := 28) ck_L_rowOf_2 rfl)
theorem d_L_rowOf_93 : decode y_L_rowOf.2.1 93 = .ok (.isub, 1) := op_isub (gk (k := 64) (t := 29) ck_L_rowOf_2 rfl)
theorem d_L_rowOf_94 : decode y_L_rowOf.2.1 94 = .ok (.iload_n 2, 1) := op_iload_n2 (gk (k := 64) (t := 30) ck_L_rowOf_2 rfl)
theorem d_L_rowOf_95 : decode y_L_rowOf.2.1 95 = .ok (.idiv, 1) := op_idiv (gk (k := 64) (t := 31) ck_L_rowOf_2 rfl)
theorem d_L_rowOf_96 : decode y_L_rowOf.2.1 96 = .ok (.goto 4, 3) := op_goto (gk (k := 96) (t := 0) ck_L_rowOf_3 rfl) (gk (k := 96) (t := 1) ck_L_rowOf_3 rfl) (gk (k := 96) (t := 2) ck_L_rowOf_3 rfl) (by decide +kernel)
theorem d_L_rowOf_70 : decode y_L_rowOf.2.1 70 = .ok (.iinc 4 1, 3) := op_iinc (gk (k := 64) (t := 6) ck_L_rowOf_2 rfl) (gk (k := 64) (t := 7) ck_L_rowOf_2 rfl) (gk (k := 64) (t := 8) ck_L_rowOf_2 rfl) rfl rfl
theorem d_L_rowOf_73 : decode y_L_rowOf.2.1 73 = .ok (.iload_n 2, 1) := op_iload_n2 (gk (k := 64) (t := 9) ck_L_rowOf_2 rfl)
theorem d_L_rowOf_74 : decode y_L_rowOf.2.1 74 = .ok (.iload 8, 2) := op_iload (gk (k := 64) (t := 10) ck_L_rowOf_2 rfl) (gk (k := 64) (t := 11) ck_L_rowOf_2 rfl) rfl
theorem d_L_rowOf_76 : decode y_L_rowOf.2.1 76 = .ok (.isub, 1) := op_isub (gk (k := 64) (t := 12) ck_L_rowOf_2 rfl)
theorem d_L_rowOf_77 : decode y_L_rowOf.2.1 77 = .ok (.istore 5, 2) := op_istore (gk (k := 64) (t := 13) ck_L_rowOf_2 rfl) (gk (k := 64) (t := 14) ck_L_rowOf_2 rfl) rfl
theorem d_L_rowOf_79 : decode y_L_rowOf.2.1 79 = .ok (.goto 27, 3) := op_goto (gk (k := 64) (t := 15) ck_L_rowOf_2 rfl) (gk (k := 64) (t := 16) ck_L_rowOf_2 rfl) (gk (k := 64) (t := 17) ck_L_rowOf_2 rfl) (by decide +kernel)
theorem d_L_rowOf_48 : decode y_L_rowOf.2.1 48 = .ok (.iload 4, 2) := op_iload (gk (k := 32) (t := 16) ck_L_rowOf_1 rfl) (gk (k := 32) (t := 17) ck_L_rowOf_1 rfl) rfl
theorem d_L_rowOf_50 : decode y_L_rowOf.2.1 50 = .ok (.iconst 1, 1) := op_iconst1 (gk (k := 32) (t := 18) ck_L_rowOf_1 rfl)
theorem d_L_rowOf_51 : decode y_L_rowOf.2.1 51 = .ok (.isub, 1) := op_isub (gk (k := 32) (t := 19) ck_L_rowOf_1 rfl)
theorem d_L_rowOf_52 : decode y_L_rowOf.2.1 52 = .ok (.istore 9, 2) := op_istore (gk (k := 32) (t := 20) ck_L_rowOf_1 rfl) (gk (k := 32) (t := 21) ck_L_rowOf_1 rfl) rfl
theorem d_L_rowOf_54 : decode y_L_rowOf.2.1 54 = .ok (.iload 5, 2) := op_iload (gk (k := 32) (t := 22) ck_L_rowOf_1 rfl) (gk (k := 32) (t := 23) ck_L_rowOf_1 rfl) rfl
theorem d_L_rowOf_56 : decode y_L_rowOf.2.1 56 = .ok (.iload 8, 2) := op_iload (gk (k := 32) (t := 24) ck_L_rowOf_1 rfl) (gk (k := 32) (t := 25) ck_L_rowOf_1 rfl) rfl
theorem d_L_rowOf_58 : decode y_L_rowOf.2.1 58 = .ok (.isub, 1) := op_isub (gk (k := 32) (t := 26) ck_L_rowOf_1 rfl)
theorem d_L_rowOf_59 : decode y_L_rowOf.2.1 59 = .ok (.istore 5, 2) := op_istore (gk (k := 32) (t := 27) ck_L_rowOf_1 rfl) (gk (k := 32) (t := 28) ck_L_rowOf_1 rfl) rfl
theorem d_L_rowOf_61 : decode y_L_rowOf.2.1 61 = .ok (.goto 45, 3) := op_goto (gk (k := 32) (t := 29) ck_L_rowOf_1 rfl) (gk (k := 32) (t := 30) ck_L_rowOf_1 rfl) (gk (k := 32) (t := 31) ck_L_rowOf_1 rfl) (by decide +kernel)
abbrev y_S_folded : MI := (⟨"SinglesUp", "folded", "(III)I"⟩, prog_1_method_31_code, 4, some .int)
theorem ck_S_folded_0 : (y_S_folded.2.1.data.toList.drop 0).take 32 = [27, 184, 0, 73, 153, 0, 35, 28, 4, 161, 0, 30, 28, 16, 40, 163, 0, 24, 29, 2, 161, 0, 19, 29, 42, 180, 0, 12, 180, 0, 77, 180] := by decide +kernel
theorem d_S_folded_0 : decode y_S_folded.2.1 0 = .ok (.iload_n 1, 1) := op_iload_n1 (gk (k := 0) (t := 0) ck_S_folded_0 rfl)
theorem d_S_folded_1 : decode y_S_folded.2.1 1 = .ok (.invokestatic 73, 3) := op_invokestatic (gk (k := 0) (t := 1) ck_S_folded_0 rfl) (gk (k := 0) (t := 2) ck_S_folded_0 rfl) (gk (k := 0) (t := 3) ck_S_folded_0 rfl) rfl
theorem d_S_folded_4 : decode y_S_folded.2.1 4 = .ok (.ifCond .eq 35, 3) := op_if_eq (gk (k := 0) (t := 4) ck_S_folded_0 rfl) (gk (k := 0) (t := 5) ck_S_folded_0 rfl) (gk (k := 0) (t := 6) ck_S_folded_0 rfl) (by decide +kernel)
theorem ck_S_folded_1 : (y_S_folded.2.1.data.toList.drop 32).take 32 = [0, 166, 27, 46, 161, 0, 5, 2, 172, 42, 180, 0, 12, 180, 0, 77, 27, 28, 29, 182, 0, 249, 172] := by decide +kernel
theorem d_S_folded_39 : decode y_S_folded.2.1 39 = .ok (.iconst (-1), 1) := op_iconstm1 (gk (k := 32) (t := 7) ck_S_folded_1 rfl)
theorem d_S_folded_40 : decode y_S_folded.2.1 40 = .ok (.ireturn, 1) := op_ireturn (gk (k := 32) (t := 8) ck_S_folded_1 rfl)
theorem d_S_folded_7 : decode y_S_folded.2.1 7 = .ok (.iload_n 2, 1) := op_iload_n2 (gk (k := 0) (t := 7) ck_S_folded_0 rfl)
theorem d_S_folded_8 : decode y_S_folded.2.1 8 = .ok (.iconst 1, 1) := op_iconst1 (gk (k := 0) (t := 8) ck_S_folded_0 rfl)
theorem d_S_folded_9 : decode y_S_folded.2.1 9 = .ok (.if_icmp .lt 30, 3) := op_icmp_lt (gk (k := 0) (t := 9) ck_S_folded_0 rfl) (gk (k := 0) (t := 10) ck_S_folded_0 rfl) (gk (k := 0) (t := 11) ck_S_folded_0 rfl) (by decide +kernel)
theorem d_S_folded_12 : decode y_S_folded.2.1 12 = .ok (.iload_n 2, 1) := op_iload_n2 (gk (k := 0) (t := 12) ck_S_folded_0 rfl)
theorem d_S_folded_13 : decode y_S_folded.2.1 13 = .ok (.bipush 40, 2) := op_bipush (gk (k := 0) (t := 13) ck_S_folded_0 rfl) (gk (k := 0) (t := 14) ck_S_folded_0 rfl) rfl
theorem d_S_folded_15 : decode y_S_folded.2.1 15 = .ok (.if_icmp .gt 24, 3) := op_icmp_gt (gk (k := 0) (t := 15) ck_S_folded_0 rfl) (gk (k := 0) (t := 16) ck_S_folded_0 rfl) (gk (k := 0) (t := 17) ck_S_folded_0 rfl) (by decide +kernel)
theorem d_S_folded_18 : decode y_S_folded.2.1 18 = .ok (.iload_n 3, 1) := op_iload_n3 (gk (k := 0) (t := 18) ck_S_folded_0 rfl)
theorem d_S_folded_19 : decode y_S_folded.2.1 19 = .ok (.iconst (-1), 1) := op_iconstm1 (gk (k := 0) (t := 19) ck_S_folded_0 rfl)
theorem d_S_folded_20 : decode y_S_folded.2.1 20 = .ok (.if_icmp .lt 19, 3) := op_icmp_lt (gk (k := 0) (t := 20) ck_S_folded_0 rfl) (gk (k := 0) (t := 21) ck_S_folded_0 rfl) (gk (k := 0) (t := 22) ck_S_folded_0 rfl) (by decide +kernel)
theorem d_S_folded_23 : decode y_S_folded.2.1 23 = .ok (.iload_n 3, 1) := op_iload_n3 (gk (k := 0) (t := 23) ck_S_folded_0 rfl)
theorem d_S_folded_24 : decode y_S_folded.2.1 24 = .ok (.aload_n 0, 1) := op_aload_n0 (gk (k := 0) (t := 24) ck_S_folded_0 rfl)
theorem d_S_folded_25 : decode y_S_folded.2.1 25 = .ok (.getfield 12, 3) := op_getfield (gk (k := 0) (t := 25) ck_S_folded_0 rfl) (gk (k := 0) (t := 26) ck_S_folded_0 rfl) (gk (k := 0) (t := 27) ck_S_folded_0 rfl) rfl
theorem d_S_folded_28 : decode y_S_folded.2.1 28 = .ok (.getfield 77, 3) := op_getfield (gk (k := 0) (t := 28) ck_S_folded_0 rfl) (gk (k := 0) (t := 29) ck_S_folded_0 rfl) (gk (k := 0) (t := 30) ck_S_folded_0 rfl) rfl
theorem d_S_folded_31 : decode y_S_folded.2.1 31 = .ok (.getfield 166, 3) := op_getfield (gk (k := 0) (t := 31) ck_S_folded_0 rfl) (gk (k := 32) (t := 0) ck_S_folded_1 rfl) (gk (k := 32) (t := 1) ck_S_folded_1 rfl) rfl
theorem d_S_folded_34 : decode y_S_folded.2.1 34 = .ok (.iload_n 1, 1) := op_iload_n1 (gk (k := 32) (t := 2) ck_S_folded_1 rfl)
theorem d_S_folded_35 : decode y_S_folded.2.1 35 = .ok (.iaload, 1) := op_iaload (gk (k := 32) (t := 3) ck_S_folded_1 rfl)
theorem d_S_folded_36 : decode y_S_folded.2.1 36 = .ok (.if_icmp .lt 5, 3) := op_icmp_lt (gk (k := 32) (t := 4) ck_S_folded_1 rfl) (gk (k := 32) (t := 5) ck_S_folded_1 rfl) (gk (k := 32) (t := 6) ck_S_folded_1 rfl) (by decide +kernel)
theorem d_S_folded_41 : decode y_S_folded.2.1 41 = .ok (.aload_n 0, 1) := op_aload_n0 (gk (k := 32) (t := 9) ck_S_folded_1 rfl)
theorem d_S_folded_42 : decode y_S_folded.2.1 42 = .ok (.getfield 12, 3) := op_getfield (gk (k := 32) (t := 10) ck_S_folded_1 rfl) (gk (k := 32) (t := 11) ck_S_folded_1 rfl) (gk (k := 32) (t := 12) ck_S_folded_1 rfl) rfl
theorem d_S_folded_45 : decode y_S_folded.2.1 45 = .ok (.getfield 77, 3) := op_getfield (gk (k := 32) (t := 13) ck_S_folded_1 rfl) (gk (k := 32) (t := 14) ck_S_folded_1 rfl) (gk (k := 32) (t := 15) ck_S_folded_1 rfl) rfl
theorem d_S_folded_48 : decode y_S_folded.2.1 48 = .ok (.iload_n 1, 1) := op_iload_n1 (gk (k := 32) (t := 16) ck_S_folded_1 rfl)
theorem d_S_folded_49 : decode y_S_folded.2.1 49 = .ok (.iload_n 2, 1) := op_iload_n2 (gk (k := 32) (t := 17) ck_S_folded_1 rfl)
theorem d_S_folded_50 : decode y_S_folded.2.1 50 = .ok (.iload_n 3, 1) := op_iload_n3 (gk (k := 32) (t := 18) ck_S_folded_1 rfl)
theorem lk_S_249 : LkV "SinglesUp" 249 y_L_rowOf := ⟨tw_c5 75 (by decide +kernel) rfl, tw_c5 76 (by decide +kernel) rfl, Or.inl (tw_c5 74 (by decide +kernel) rfl)⟩
set_option maxRecDepth 100000 in
theorem mo_L_rowOf : MOk y_L_rowOf 3 := ⟨by decide +kernel, tw_c5 77 rfl rfl, tw_c1 3 (by decide +kernel) rfl, by decide +kernel, by decide +kernel, by decide +kernel⟩
theorem d_S_folded_51 : decode y_S_folded.2.1 51 = .ok (.invokevirtual 249, 3) := op_invokevirtual (gk (k := 32) (t := 19) ck_S_folded_1 rfl) (gk (k := 32) (t := 20) ck_S_folded_1 rfl) (gk (k := 32) (t := 21) ck_S_folded_1 rfl) rfl
theorem d_S_folded_54 : decode y_S_folded.2.1 54 = .ok (.ireturn, 1) := op_ireturn (gk (k := 32) (t := 22) ck_S_folded_1 rfl)
abbrev y_S_image : MI := (⟨"SinglesUp", "image", "(Z)Z"⟩, prog_1_method_32_code, 2, some .boolean)
theorem ck_S_image_0 : (y_S_image.2.1.data.toList.drop 0).take 32 = [27, 153, 0, 22, 42, 180, 0, 16, 42, 180, 0, 12, 182, 0, 252, 42, 4, 181, 0, 255, 167, 0, 25, 42, 180, 0, 255, 153, 0, 18, 42, 180] := by decide +kernel
theorem d_S_image_0 : decode y_S_image.2.1 0 = .ok (.iload_n 1, 1) := op_iload_n1 (gk (k := 0) (t := 0) ck_S_image_0 rfl)
theorem d_S_image_1 : decode y_S_image.2.1 1 = .ok (.ifCond .eq 22, 3) := op_if_eq (gk (k := 0) (t := 1) ck_S_image_0 rfl) (gk (k := 0) (t := 2) ck_S_image_0 rfl) (gk (k := 0) (t := 3) ck_S_image_0 rfl) (by decide +kernel)
theorem d_S_image_23 : decode y_S_image.2.1 23 = .ok (.aload_n 0, 1) := op_aload_n0 (gk (k := 0) (t := 23) ck_S_image_0 rfl)
theorem fl_S_255 : FL "SinglesUp" 255 8 8 := ⟨"SinglesUp", zT8, 9, rfl, by decide, rfl, Or.inl (tw_c2 100 (by decide +kernel) rfl)⟩
theorem d_S_image_24 : decode y_S_image.2.1 24 = .ok (.getfield 255, 3) := op_getfield (gk (k := 0) (t := 24) ck_S_image_0 rfl) (gk (k := 0) (t := 25) ck_S_image_0 rfl) (gk (k := 0) (t := 26) ck_S_image_0 rfl) rfl
theorem d_S_image_27 : decode y_S_image.2.1 27 = .ok (.ifCond .eq 18, 3) := op_if_eq (gk (k := 0) (t := 27) ck_S_image_0 rfl) (gk (k := 0) (t := 28) ck_S_image_0 rfl) (gk (k := 0) (t := 29) ck_S_image_0 rfl) (by decide +kernel)
theorem ck_S_image_1 : (y_S_image.2.1.data.toList.drop 32).take 32 = [0, 12, 42, 180, 0, 16, 182, 0, 252, 42, 182, 0, 181, 42, 180, 0, 255, 172] := by decide +kernel
theorem d_S_image_45 : decode y_S_image.2.1 45 = .ok (.aload_n 0, 1) := op_aload_n0 (gk (k := 32) (t := 13) ck_S_image_1 rfl)
theorem d_S_image_46 : decode y_S_image.2.1 46 = .ok (.getfield 255, 3) := op_getfield (gk (k := 32) (t := 14) ck_S_image_1 rfl) (gk (k := 32) (t := 15) ck_S_image_1 rfl) (gk (k := 32) (t := 16) ck_S_image_1 rfl) rfl
theorem d_S_image_49 : decode y_S_image.2.1 49 = .ok (.ireturn, 1) := op_ireturn (gk (k := 32) (t := 17) ck_S_image_1 rfl)
theorem d_S_image_30 : decode y_S_image.2.1 30 = .ok (.aload_n 0, 1) := op_aload_n0 (gk (k := 0) (t := 30) ck_S_image_0 rfl)
theorem d_S_image_31 : decode y_S_image.2.1 31 = .ok (.getfield 12, 3) := op_getfield (gk (k := 0) (t := 31) ck_S_image_0 rfl) (gk (k := 32) (t := 0) ck_S_image_1 rfl) (gk (k := 32) (t := 1) ck_S_image_1 rfl) rfl
theorem d_S_image_34 : decode y_S_image.2.1 34 = .ok (.aload_n 0, 1) := op_aload_n0 (gk (k := 32) (t := 2) ck_S_image_1 rfl)
theorem fl_S_16 : FL "SinglesUp" 16 8 1 := ⟨"SinglesUp", zT8, 9, rfl, by decide, rfl, Or.inl (tw_c2 93 (by decide +kernel) rfl)⟩
theorem rc_8_1 : ∀ o, KC[o]? = some (11, 9) → RC o 1 = some (o + 41) ∧ KC[o + 41]? = some (5, 14) := by
  intro o h
  have hl : o < 166 := (List.getElem?_eq_some_iff.mp h).1
  exact (by decide +kernel : ∀ o, o < 166 → KC[o]? = some (11, 9) → RC o 1 = some (o + 41) ∧ KC[o + 41]? = some (5, 14)) o hl h
theorem d_S_image_35 : decode y_S_image.2.1 35 = .ok (.getfield 16, 3) := op_getfield (gk (k := 32) (t := 3) ck_S_image_1 rfl) (gk (k := 32) (t := 4) ck_S_image_1 rfl) (gk (k := 32) (t := 5) ck_S_image_1 rfl) rfl
theorem lk_S_252 : LkV "SinglesUp" 252 y_H_copyFrom := ⟨tw_c4 213 (by decide +kernel) rfl, tw_c4 214 (by decide +kernel) rfl, Or.inl (tw_c5 82 (by decide +kernel) rfl)⟩
theorem d_S_image_38 : decode y_S_image.2.1 38 = .ok (.invokevirtual 252, 3) := op_invokevirtual (gk (k := 32) (t := 6) ck_S_image_1 rfl) (gk (k := 32) (t := 7) ck_S_image_1 rfl) (gk (k := 32) (t := 8) ck_S_image_1 rfl) rfl
theorem d_S_image_41 : decode y_S_image.2.1 41 = .ok (.aload_n 0, 1) := op_aload_n0 (gk (k := 32) (t := 9) ck_S_image_1 rfl)
theorem d_S_image_42 : decode y_S_image.2.1 42 = .ok (.invokevirtual 181, 3) := op_invokevirtual (gk (k := 32) (t := 10) ck_S_image_1 rfl) (gk (k := 32) (t := 11) ck_S_image_1 rfl) (gk (k := 32) (t := 12) ck_S_image_1 rfl) rfl
theorem d_S_image_4 : decode y_S_image.2.1 4 = .ok (.aload_n 0, 1) := op_aload_n0 (gk (k := 0) (t := 4) ck_S_image_0 rfl)
theorem d_S_image_5 : decode y_S_image.2.1 5 = .ok (.getfield 16, 3) := op_getfield (gk (k := 0) (t := 5) ck_S_image_0 rfl) (gk (k := 0) (t := 6) ck_S_image_0 rfl) (gk (k := 0) (t := 7) ck_S_image_0 rfl) rfl
theorem d_S_image_8 : decode y_S_image.2.1 8 = .ok (.aload_n 0, 1) := op_aload_n0 (gk (k := 0) (t := 8) ck_S_image_0 rfl)
theorem d_S_image_9 : decode y_S_image.2.1 9 = .ok (.getfield 12, 3) := op_getfield (gk (k := 0) (t := 9) ck_S_image_0 rfl) (gk (k := 0) (t := 10) ck_S_image_0 rfl) (gk (k := 0) (t := 11) ck_S_image_0 rfl) rfl
theorem d_S_image_12 : decode y_S_image.2.1 12 = .ok (.invokevirtual 252, 3) := op_invokevirtual (gk (k := 0) (t := 12) ck_S_image_0 rfl) (gk (k := 0) (t := 13) ck_S_image_0 rfl) (gk (k := 0) (t := 14) ck_S_image_0 rfl) rfl
theorem d_S_image_15 : decode y_S_image.2.1 15 = .ok (.aload_n 0, 1) := op_aload_n0 (gk (k := 0) (t := 15) ck_S_image_0 rfl)
theorem d_S_image_16 : decode y_S_image.2.1 16 = .ok (.iconst 1, 1) := op_iconst1 (gk (k := 0) (t := 16) ck_S_image_0 rfl)
theorem d_S_image_17 : decode y_S_image.2.1 17 = .ok (.putfield 255, 3) := op_putfield (gk (k := 0) (t := 17) ck_S_image_0 rfl) (gk (k := 0) (t := 18) ck_S_image_0 rfl) (gk (k := 0) (t := 19) ck_S_image_0 rfl) rfl
theorem d_S_image_20 : decode y_S_image.2.1 20 = .ok (.goto 25, 3) := op_goto (gk (k := 0) (t := 20) ck_S_image_0 rfl) (gk (k := 0) (t := 21) ck_S_image_0 rfl) (gk (k := 0) (t := 22) ck_S_image_0 rfl) (by decide +kernel)
abbrev y_S_told : MI := (⟨"SinglesUp", "told", "(I)I"⟩, prog_1_method_33_code, 2, some .int)
theorem ck_S_told_0 : (y_S_told.2.1.data.toList.drop 0).take 32 = [27, 155, 0, 18, 27, 8, 163, 0, 13, 42, 180, 0, 12, 180, 0, 65, 27, 46, 172, 27, 170, 0, 0, 0, 0, 0, 0, 52, 0, 0, 0, 6] := by decide +kernel
theorem d_S_told_0 : decode y_S_told.2.1 0 = .ok (.iload_n 1, 1) := op_iload_n1 (gk (k := 0) (t := 0) ck_S_told_0 rfl)
theorem d_S_told_19 : decode y_S_told.2.1 19 = .ok (.iload_n 1, 1) := op_iload_n1 (gk (k := 0) (t := 19) ck_S_told_0 rfl)
theorem d_S_told_20 : decode y_S_told.2.1 20 = .ok (.tableswitch 52 6 8 #[28, 36, 44], 28) := by decide +kernel
theorem ck_S_told_1 : (y_S_told.2.1.data.toList.drop 32).take 32 = [0, 0, 0, 8, 0, 0, 0, 28, 0, 0, 0, 36, 0, 0, 0, 44, 42, 180, 0, 33, 180, 1, 3, 172, 42, 180, 0, 12, 180, 1, 6, 172] := by decide +kernel
theorem d_S_told_48 : decode y_S_told.2.1 48 = .ok (.aload_n 0, 1) := op_aload_n0 (gk (k := 32) (t := 16) ck_S_told_1 rfl)
theorem d_S_told_49 : decode y_S_told.2.1 49 = .ok (.getfield 33, 3) := op_getfield (gk (k := 32) (t := 17) ck_S_told_1 rfl) (gk (k := 32) (t := 18) ck_S_told_1 rfl) (gk (k := 32) (t := 19) ck_S_told_1 rfl) rfl
theorem fl_S_259 : FL "SinglesUp" 259 0 8 := ⟨"SinglesUp$Chair", zT0, 12, rfl, by decide, rfl, Or.inr ⟨"SinglesUp", nw_in 171 (by decide +kernel) rfl⟩⟩
theorem d_S_told_52 : decode y_S_told.2.1 52 = .ok (.getfield 259, 3) := op_getfield (gk (k := 32) (t := 20) ck_S_told_1 rfl) (gk (k := 32) (t := 21) ck_S_told_1 rfl) (gk (k := 32) (t := 22) ck_S_told_1 rfl) rfl
theorem d_S_told_55 : decode y_S_told.2.1 55 = .ok (.ireturn, 1) := op_ireturn (gk (k := 32) (t := 23) ck_S_told_1 rfl)
theorem d_S_told_56 : decode y_S_told.2.1 56 = .ok (.aload_n 0, 1) := op_aload_n0 (gk (k := 32) (t := 24) ck_S_told_1 rfl)
theorem d_S_told_57 : decode y_S_told.2.1 57 = .ok (.getfield 12, 3) := op_getfield (gk (k := 32) (t := 25) ck_S_told_1 rfl) (gk (k := 32) (t := 26) ck_S_told_1 rfl) (gk (k := 32) (t := 27) ck_S_told_1 rfl) rfl
theorem fl_S_262 : FL "SinglesUp" 262 2 7 := ⟨"SinglesUp$Hill", zT2, 14, rfl, by decide, rfl, Or.inr ⟨"SinglesUp", nw_in 105 (by decide +kernel) rfl⟩⟩
theorem d_S_told_60 : decode y_S_told.2.1 60 = .ok (.getfield 262, 3) := op_getfield (gk (k := 32) (t := 28) ck_S_told_1 rfl) (gk (k := 32) (t := 29) ck_S_told_1 rfl) (gk (k := 32) (t := 30) ck_S_told_1 rfl) rfl
theorem d_S_told_63 : decode y_S_told.2.1 63 = .ok (.ireturn, 1) := op_ireturn (gk (k := 32) (t := 31) ck_S_told_1 rfl)
theorem ck_S_told_2 : (y_S_told.2.1.data.toList.drop 64).take 32 = [42, 180, 0, 12, 180, 0, 57, 172, 2, 172] := by decide +kernel
theorem d_S_told_64 : decode y_S_told.2.1 64 = .ok (.aload_n 0, 1) := op_aload_n0 (gk (k := 64) (t := 0) ck_S_told_2 rfl)
theorem d_S_told_65 : decode y_S_told.2.1 65 = .ok (.getfield 12, 3) := op_getfield (gk (k := 64) (t := 1) ck_S_told_2 rfl) (gk (k := 64) (t := 2) ck_S_told_2 rfl) (gk (k := 64) (t := 3) ck_S_told_2 rfl) rfl
theorem d_S_told_68 : decode y_S_told.2.1 68 = .ok (.getfield 57, 3) := op_getfield (gk (k := 64) (t := 4) ck_S_told_2 rfl) (gk (k := 64) (t := 5) ck_S_told_2 rfl) (gk (k := 64) (t := 6) ck_S_told_2 rfl) rfl
theorem d_S_told_71 : decode y_S_told.2.1 71 = .ok (.ireturn, 1) := op_ireturn (gk (k := 64) (t := 7) ck_S_told_2 rfl)
theorem d_S_told_72 : decode y_S_told.2.1 72 = .ok (.iconst (-1), 1) := op_iconstm1 (gk (k := 64) (t := 8) ck_S_told_2 rfl)
theorem d_S_told_73 : decode y_S_told.2.1 73 = .ok (.ireturn, 1) := op_ireturn (gk (k := 64) (t := 9) ck_S_told_2 rfl)
theorem d_S_told_1 : decode y_S_told.2.1 1 = .ok (.ifCond .lt 18, 3) := op_if_lt (gk (k := 0) (t := 1) ck_S_told_0 rfl) (gk (k := 0) (t := 2) ck_S_told_0 rfl) (gk (k := 0) (t := 3) ck_S_told_0 rfl) (by decide +kernel)
theorem d_S_told_4 : decode y_S_told.2.1 4 = .ok (.iload_n 1, 1) := op_iload_n1 (gk (k := 0) (t := 4) ck_S_told_0 rfl)
theorem d_S_told_5 : decode y_S_told.2.1 5 = .ok (.iconst 5, 1) := op_iconst5 (gk (k := 0) (t := 5) ck_S_told_0 rfl)
theorem d_S_told_6 : decode y_S_told.2.1 6 = .ok (.if_icmp .gt 13, 3) := op_icmp_gt (gk (k := 0) (t := 6) ck_S_told_0 rfl) (gk (k := 0) (t := 7) ck_S_told_0 rfl) (gk (k := 0) (t := 8) ck_S_told_0 rfl) (by decide +kernel)
theorem d_S_told_9 : decode y_S_told.2.1 9 = .ok (.aload_n 0, 1) := op_aload_n0 (gk (k := 0) (t := 9) ck_S_told_0 rfl)
theorem d_S_told_10 : decode y_S_told.2.1 10 = .ok (.getfield 12, 3) := op_getfield (gk (k := 0) (t := 10) ck_S_told_0 rfl) (gk (k := 0) (t := 11) ck_S_told_0 rfl) (gk (k := 0) (t := 12) ck_S_told_0 rfl) rfl
theorem d_S_told_13 : decode y_S_told.2.1 13 = .ok (.getfield 65, 3) := op_getfield (gk (k := 0) (t := 13) ck_S_told_0 rfl) (gk (k := 0) (t := 14) ck_S_told_0 rfl) (gk (k := 0) (t := 15) ck_S_told_0 rfl) rfl
theorem d_S_told_16 : decode y_S_told.2.1 16 = .ok (.iload_n 1, 1) := op_iload_n1 (gk (k := 0) (t := 16) ck_S_told_0 rfl)
theorem d_S_told_17 : decode y_S_told.2.1 17 = .ok (.iaload, 1) := op_iaload (gk (k := 0) (t := 17) ck_S_told_0 rfl)
theorem d_S_told_18 : decode y_S_told.2.1 18 = .ok (.ireturn, 1) := op_ireturn (gk (k := 0) (t := 18) ck_S_told_0 rfl)
def f_M_tillSits (fu : Nat) (o0 : Nat) (o1 : Nat) (a2 : Int) (I0 : IMem) : Res :=
  zb (f_H_copyFrom fu (o0 + 1) o1 I0) fun _ I2 =>
    zb (f_L_get fu (o1 + 6) a2 0 I2) fun y4 I5 =>
    zb (f_M_countTill fu o0 y4 I5) fun y7 I8 =>
    zr y7 I8
def f_S_till (fu : Nat) (o0 : Nat) (a1 : Int) (a2 : Int) (I0 : IMem) : Res :=
  zb (f_L_has fu (o0 + 7) a1 a2 I0) fun y1 I2 =>
    if y1 = 0 then (
      zr ((-1)) I2)
    else (
      zb (f_M_tillSits fu (o0 + 81) (o0 + 1) (wr32 ((wr32 (a1 * 40)) + a2)) I2) fun y4 I5 =>
      zr y4 I5)
def f_L_canJoin (fu : Nat) (o0 : Nat) (a1 : Int) (a2 : Int) (I0 : IMem) : Res :=
  if a1 = a2 then (
      zr 0 I0)
    else (
      zb (f_L_isPlainAndTrue fu o0 a1 I0) fun y1 I2 =>
      if y1 = 0 then (
        zr 0 I2)
      else (
        zb (f_L_isPlainAndTrue fu o0 a2 I2) fun y4 I5 =>
        if y4 = 0 then (
          zr 0 I5)
        else (
          zb (f_L_get fu o0 a1 1 I5) fun y7 I8 =>
          zb (f_L_get fu o0 a2 1 I8) fun y10 I11 =>
          if 8 < wr32 (y7 + y10) then (
            zr 0 I11)
          else (
            zr 1 I11))))
def f_L_remove (fu : Nat) (o0 : Nat) (a1 : Int) (I0 : IMem) : Res :=
  zl (wdiv a1 40) fun x1 =>
    zl (wrem a1 40) fun x2 =>
    zb (f_L_has fu o0 x1 x2 I0) fun y3 I4 =>
    if y3 = 0 then (
      zr 0 I4)
    else (
      zg (0 ≤ x1 ∧ x1 < 6) (
      zl (wr32 ((wr32 ((I4 (o0 + 2) x1.toNat) - x2)) - 1)) fun x6 =>
      zg ((0 : Int) ≤ wr32 ((wr32 (a1 + 1)) * 6) ∧ (0 : Int) ≤ wr32 (a1 * 6) ∧ (0 : Int) ≤ wr32 (x6 * 6) ∧ (wr32 ((wr32 (a1 + 1)) * 6) : Int) + wr32 (x6 * 6) ≤ 1440 ∧ (wr32 (a1 * 6) : Int) + wr32 (x6 * 6) ≤ 1440) (zc I4 (o0 + 1) (wr32 ((wr32 (a1 + 1)) * 6)) (o0 + 1) (wr32 (a1 * 6)) (wr32 (x6 * 6)) fun I7 =>
      zg (0 ≤ x1 ∧ x1 < 6) (
      zg (0 ≤ x1 ∧ x1 < 6) (zw I7 (o0 + 2) x1.toNat (wr32 ((I7 (o0 + 2) x1.toNat) - 1)) fun I8 =>
      zr 0 I8)))))
def f_L_join (fu : Nat) (o0 : Nat) (a1 : Int) (a2 : Int) (I0 : IMem) : Res :=
  zb (f_L_get fu o0 a1 1 I0) fun y1 I2 =>
    zb (f_L_get fu o0 a2 1 I2) fun y4 I5 =>
    zl (wr32 (y1 + y4)) fun x7 =>
    zb (f_L_put fu o0 a2 1 x7 I5) fun _ I9 =>
    zb (f_L_put fu o0 a2 2 x7 I9) fun _ I12 =>
    zb (f_L_remove fu o0 a1 I12) fun _ I15 =>
    zr 0 I15
def f_M_tillJoined (fu : Nat) (o0 : Nat) (o1 : Nat) (a2 : Int) (a3 : Int) (I0 : IMem) : Res :=
  zb (f_H_copyFrom fu (o0 + 1) o1 I0) fun _ I2 =>
    zb (f_L_join fu (o0 + 7) a2 a3 I2) fun _ I5 =>
    zb (f_L_get fu (o1 + 6) a3 0 I5) fun y7 I8 =>
    zb (f_M_countTill fu o0 y7 I8) fun y10 I11 =>
    zr y10 I11
def f_S_together (fu : Nat) (o0 : Nat) (a1 : Int) (a2 : Int) (a3 : Int) (a4 : Int) (a5 : Int) (I0 : IMem) : Res :=
  if a5 < 0 then (
      zr ((-2)) I0)
    else (
      if 1 < a5 then (
        zr ((-2)) I0)
      else (
        zb (f_L_has fu (o0 + 7) a1 a2 I0) fun y1 I2 =>
        if y1 = 0 then (
          zr ((-2)) I2)
        else (
          zb (f_L_has fu (o0 + 7) a3 a4 I2) fun y4 I5 =>
          if y4 = 0 then (
            zr ((-2)) I5)
          else (
            zl (wr32 ((wr32 (a1 * 40)) + a2)) fun x7 =>
            zl (wr32 ((wr32 (a3 * 40)) + a4)) fun x8 =>
            zb (f_L_canJoin fu (o0 + 7) x7 x8 I5) fun y9 I10 =>
            if y9 = 0 then (
              zr ((-2)) I10)
            else (
              zb (f_M_tillJoined fu (o0 + 81) (o0 + 1) x7 x8 I10) fun y12 I13 =>
              if a5 = 0 then (
                zr y12 I13)
              else (
                zb (f_M_tillSits fu (o0 + 81) (o0 + 1) x7 I13) fun y15 I16 =>
                zb (f_M_tillSits fu (o0 + 81) (o0 + 1) x8 I16) fun y18 I19 =>
                if y12 = (-1) then (
                  zr 0 I19)
                else (
                  if y15 = (-1) then (
                    zr 0 I19)
                  else (
                    if y18 = (-1) then (
                      zr 0 I19)
                    else (
                      zb (f_JM_max fu y15 y18 I19) fun y21 I22 =>
                      if y21 < y12 then (
                        zr 0 I22)
                      else (
                        zr 1 I22))))))))))
def fb_M_emptyNeeded_13 (fu : Nat) (o0 : Nat) (p2 : Int) (R_ : Int → Int → IMem → Res) (w3 : Int) (w4 : Int) (I0 : IMem) : Res :=
  if w4 < p2 then (
      zl (I0 (o0 + 11) 1) fun x4 =>
      zb (f_C_ride fu (o0 + 41) (o0 + 1) I0) fun y5 I6 =>
      zj (fun (x10 : Int) (I9 : IMem) =>
          zl (wr32 (w4 + 1)) fun x11 =>
          R_ x10 x11 I9) fun k8 =>
        if 0 < y5 then (
          zl (wr32 (w3 + (wr32 ((I6 (o0 + 11) 1) - x4)))) fun x12 =>
          k8 x12 I6)
        else (
          k8 w3 I6))
    else (
      zr w3 I0)
def f_M_emptyNeeded_13 (fu : Nat) (o0 : Nat) (p2 : Int) : Nat → Int → Int → IMem → Res
 | 0 => fun _ _ _ => none
 | n + 1 => fb_M_emptyNeeded_13 fu o0 p2 (f_M_emptyNeeded_13 fu o0 p2 n)
def f_M_emptyNeeded (fu : Nat) (o0 : Nat) (o1 : Nat) (a2 : Int) (I0 : IMem) : Res :=
  zb (f_H_copyFrom fu (o0 + 1) o1 I0) fun _ I2 =>
    f_M_emptyNeeded_13 fu  o0 a2 fu 0 0 I2
def f_S_needed (fu : Nat) (o0 : Nat) (a1 : Int) (I0 : IMem) : Res :=
  if a1 < 1 then (
      zr ((-1)) I0)
    else (
      if 40 < a1 then (
        zr ((-1)) I0)
      else (
        zb (f_M_emptyNeeded fu (o0 + 81) (o0 + 1) a1 I0) fun y1 I2 =>
        zr y1 I2))
def f_H_pastChair (fu : Nat) (o0 : Nat) (a1 : Int) (a2 : Int) (I0 : IMem) : Res :=
  if a2 < 0 then (
      zr ((-1)) I0)
    else (
      if a2 < 3 then (
        zb (f_H_pastAt fu (wr32 ((wr32 ((I0 (o0 + 10) 0) - 1)) - a1)) I0) fun y1 I2 =>
        zl (wr32 (y1 + a2)) fun x4 =>
        zg (0 ≤ x4 ∧ x4 < 180) (
        zr (I2 (o0 + 12) x4.toNat) I2))
      else (
        zr ((-1)) I0))
def f_S_past (fu : Nat) (o0 : Nat) (a1 : Int) (a2 : Int) (I0 : IMem) : Res :=
  zj (fun (x3 : Int) (I2 : IMem) =>
        if x3 = 0 then (
          zr ((-1)) I2)
        else (
          zb (f_H_pastChair fu (o0 + 1) a1 a2 I2) fun y4 I5 =>
          zr y4 I5)) fun k1 =>
      if a1 < 0 then (
        k1 0 I0)
      else (
        if a1 < 60 then (
          if a1 < I0 (o0 + 11) 0 then (
            if a2 < 0 then (
              k1 0 I0)
            else (
              if 2 < a2 then (
                k1 0 I0)
              else (
                k1 1 I0)))
          else (
            k1 0 I0))
        else (
          k1 0 I0))
def fb_M_bestSet_3 (fu : Nat) (k_124 : IMem → Res) (o0 : Nat) (o1 : Nat) (p2 : Int) (p3 : Int) (R_ : Int → IMem → Res) (w4 : Int) (I0 : IMem) : Res :=
  if w4 < 16 then (
      zb (f_H_copyFrom fu (o0 + 1) o1 I0) fun _ I2 =>
      zw I2 (o0 + 1) 11 w4 fun I4 =>
      zb (f_C_turns fu (o0 + 41) (o0 + 1) p2 I4) fun y5 I6 =>
      zb (f_M_gained fu o0 o1 0 I6) fun y8 I9 =>
      zb (f_M_gained fu o0 o1 2 I9) fun y11 I12 =>
      zj (fun  (I15 : IMem) =>
          zl (wr32 (w4 + 1)) fun x16 =>
          R_ x16 I15) fun k14 =>
        zj (fun  (I18 : IMem) =>
            zw I18 (o0 + 48) 0 w4 fun I19 =>
            zw I19 (o0 + 48) 1 y8 fun I20 =>
            zw I20 (o0 + 48) 2 y11 fun I21 =>
            k14 I21) fun k17 =>
          if w4 = 0 then (
            k17 I12)
          else (
            if y8 < I12 (o0 + 48) 1 then (
              k17 I12)
            else (
              if y8 = I12 (o0 + 48) 1 then (
                if y11 < I12 (o0 + 48) 2 then (
                  k17 I12)
                else (
                  k14 I12))
              else (
                k14 I12))))
    else (
      k_124 I0)
def f_M_bestSet_3 (fu : Nat) (k_124 : IMem → Res) (o0 : Nat) (o1 : Nat) (p2 : Int) (p3 : Int) : Nat → Int → IMem → Res
 | 0 => fun _ _ => none
 | n + 1 => fb_M_bestSet_3 fu k_124 o0 o1 p2 p3 (f_M_bestSet_3 fu k_124 o0 o1 p2 p3 n)
def f_M_bestSet (fu : Nat) (o0 : Nat) (o1 : Nat) (a2 : Int) (a3 : Int) (I0 : IMem) : Res :=
  f_M_bestSet_3 fu (fun  (I22 : IMem) =>
      if a3 < 0 then (
        zr ((-1)) I22)
      else (
        if a3 < 3 then (
          zg (0 ≤ a3 ∧ a3 < 3) (
          zr (I22 (o0 + 48) a3.toNat) I22))
        else (
          zr ((-1)) I22))) o0 o1 a2 a3 fu 0 I0
def f_S_which (fu : Nat) (o0 : Nat) (a1 : Int) (a2 : Int) (I0 : IMem) : Res :=
  if a1 < 1 then (
      zr ((-1)) I0)
    else (
      if 20 < a1 then (
        zr ((-1)) I0)
      else (
        if a2 < 0 then (
          zr ((-1)) I0)
        else (
          if 2 < a2 then (
            zr ((-1)) I0)
          else (
            zb (f_M_bestSet fu (o0 + 81) (o0 + 1) a1 a2 I0) fun y1 I2 =>
            zr y1 I2))))
def fb_L_rowOf_16 (fu : Nat) (o0 : Nat) (p1 : Int) (p2 : Int) (p3 : Int) (p6 : Int) (R_ : Int → Int → Int → IMem → Res) (w4 : Int) (w5 : Int) (w7 : Int) (I0 : IMem) : Res :=
  if w7 < p6 then (
      zb (f_L_get fu o0 (wr32 ((wr32 (p1 * 40)) + w7)) 1 I0) fun y4 I5 =>
      zj (fun (x9 : Int) (x10 : Int) (x11 : Int) (I8 : IMem) =>
          if w7 = p3 then (
            zr x11 I8)
          else (
            zl (wr32 (w7 + 1)) fun x12 =>
            R_ x9 x10 x12 I8)) fun k7 =>
        if w5 < y4 then (
          if p2 < y4 then (
            if 0 < p2 then (
              zg (p2 ≠ 0) (
              zl (wr32 (w4 + (wdiv (wr32 ((wr32 (y4 + p2)) - 1)) p2))) fun x14 =>
              k7 x14 0 w4 I5))
            else (
              zl (wr32 (w4 + 0)) fun x13 =>
              k7 x13 0 w4 I5))
          else (
            zl (wr32 (w4 + 1)) fun x15 =>
            zl (wr32 (p2 - y4)) fun x16 =>
            k7 x15 x16 w4 I5))
        else (
          zl (wr32 (w4 - 1)) fun x17 =>
          zl (wr32 (w5 - y4)) fun x18 =>
          k7 w4 x18 x17 I5))
    else (
      zr w4 I0)
def f_L_rowOf_16 (fu : Nat) (o0 : Nat) (p1 : Int) (p2 : Int) (p3 : Int) (p6 : Int) : Nat → Int → Int → Int → IMem → Res
 | 0 => fun _ _ _ _ => none
 | n + 1 => fb_L_rowOf_16 fu o0 p1 p2 p3 p6 (f_L_rowOf_16 fu o0 p1 p2 p3 p6 n)
def f_L_rowOf (fu : Nat) (o0 : Nat) (a1 : Int) (a2 : Int) (a3 : Int) (I0 : IMem) : Res :=
  zb (f_L_countOf fu o0 a1 I0) fun y1 I2 =>
    f_L_rowOf_16 fu  o0 a1 a2 a3 y1 fu 0 0 0 I2
def f_S_folded (fu : Nat) (o0 : Nat) (a1 : Int) (a2 : Int) (a3 : Int) (I0 : IMem) : Res :=
  zb (f_S_isLine fu a1 I0) fun y1 I2 =>
    if y1 = 0 then (
      zr ((-1)) I2)
    else (
      if a2 < 1 then (
        zr ((-1)) I2)
      else (
        if 40 < a2 then (
          zr ((-1)) I2)
        else (
          if a3 < (-1) then (
            zr ((-1)) I2)
          else (
            zg (0 ≤ a1 ∧ a1 < 6) (
            if a3 < I2 (o0 + 9) a1.toNat then (
              zb (f_L_rowOf fu (o0 + 7) a1 a2 a3 I2) fun y4 I5 =>
              zr y4 I5)
            else (
              zr ((-1)) I2))))))
def f_S_image (fu : Nat) (o0 : Nat) (a1 : Int) (I0 : IMem) : Res :=
  if a1 = 0 then (
      if I0 o0 8 = 0 then (
        zg (I0 o0 8 = 0 ∨ I0 o0 8 = 1) (zr (I0 o0 8) I0))
      else (
        zb (f_H_copyFrom fu (o0 + 1) (o0 + 41) I0) fun _ I2 =>
        zb (f_S_dropPicked fu o0 I2) fun _ I5 =>
        zg (I5 o0 8 = 0 ∨ I5 o0 8 = 1) (zr (I5 o0 8) I5)))
    else (
      zb (f_H_copyFrom fu (o0 + 41) (o0 + 1) I0) fun _ I8 =>
      zw I8 o0 8 1 fun I10 =>
      zg (I10 o0 8 = 0 ∨ I10 o0 8 = 1) (zr (I10 o0 8) I10))
def f_S_told (fu : Nat) (o0 : Nat) (a1 : Int) (I0 : IMem) : Res :=
  zj (fun  (I2 : IMem) =>
        if a1 = 6 then (
          zr (I2 (o0 + 137) 8) I2)
        else if a1 = 7 then (
          zr (I2 (o0 + 1) 7) I2)
        else if a1 = 8 then (
          zr (I2 (o0 + 1) 6) I2)
        else (
          zr ((-1)) I2)) fun k1 =>
      if a1 < 0 then (
        k1 I0)
      else (
        if 5 < a1 then (
          k1 I0)
        else (
          zg (0 ≤ a1 ∧ a1 < 6) (
          zr (I0 (o0 + 2) a1.toNat) I0)))
section
variable {l : Launch} {b : PB}
set_option maxRecDepth 20000 in
theorem t_M_tillSits (fu : Nat) (o0 : Nat) (o1 : Nat) (a2 : Int) (I0 : IMem) (hI : RG I0) (h_o0 : KC[o0]? = some (8, 3)) (h_o1 : KC[o1]? = some (5, 14)) (h_a2 : inr a2) {r : Int × IMem} (hf : f_M_tillSits fu o0 o1 a2 I0 = some r) : Ss l b 7 y_M_tillSits KC RC [.ref o0, .ref o1, .int (iv a2)] (ivm I0) (Ps r) := by
  unfold f_M_tillSits at hf
  refine Ss.of (show Ai l b 7 y_M_tillSits KC RC (Ps r) I0 0 [.ref o0, .ref o1, .int (iv a2)] [] from ?_)
  refine aw_aload_n rfl rfl d_M_tillSits_0 (aw_getr (r := o0 + 1) fl_M_12 h_o0 (by decide) rfl (rc_5_0 _ h_o0).1 d_M_tillSits_1 (aw_aload_n rfl rfl d_M_tillSits_4 ?_))
  obtain ⟨y1, I2, c3, hf⟩ := of_zb hf
  refine ai_callVv (as := [.ref o1]) (d' := 2) (q := ("SinglesUp$Hill", zT2, 14)) mo_H_copyFrom lk_M_29 (rc_5_0 _ h_o0).2 rfl rfl rfl ⟨by decide, by decide⟩ rfl rfl (by decide) d_M_tillSits_5 (t_H_copyFrom fu (o0 + 1) o1 I0 hI (rc_5_0 _ h_o0).2 h_o1 c3) (fun h_I2 => ?_)
  refine aw_aload_n rfl rfl d_M_tillSits_8 (aw_aload_n rfl rfl d_M_tillSits_9 (aw_getr (r := o1 + 6) fl_M_57 h_o1 (by decide) rfl (rc_2_5 _ h_o1).1 d_M_tillSits_10 (aw_iload_n rfl rfl d_M_tillSits_13 (aw_iconst (v := iv 0) rfl d_M_tillSits_14 ?_))))
  obtain ⟨y4, I5, c6, hf⟩ := of_zb hf
  refine ai_callV (as := [.int (iv a2), .int (iv 0)]) (d' := 1) (q := ("SinglesUp$Lines", zT4, 3)) mo_L_get lk_M_61 (rc_2_5 _ h_o1).2 rfl rfl rfl ⟨by decide, by decide⟩ rfl rfl (by decide) d_M_tillSits_15 (t_L_get fu (o1 + 6) a2 0 I2 h_I2 (rc_2_5 _ h_o1).2 h_a2 in_0 c6) (fun h_y4 h_I5 => ?_)
  obtain ⟨y7, I8, c9, hf⟩ := of_zb hf
  refine ai_callV (as := [.int (iv y4)]) (d' := 6) (q := ("SinglesUp$Mind", zT5, 3)) mo_M_countTill lk_M_66 h_o0 rfl rfl rfl ⟨by decide, by decide⟩ rfl rfl (by decide) d_M_tillSits_18 (t_M_countTill fu o0 y4 I5 h_I5 h_o0 h_y4 c9) (fun h_y7 h_I8 => ?_)
  exact ai_reti rfl d_M_tillSits_21 hf h_y7 h_I8
set_option maxRecDepth 20000 in
theorem t_S_till (fu : Nat) (o0 : Nat) (a1 : Int) (a2 : Int) (I0 : IMem) (hI : RG I0) (h_o0 : KC[o0]? = some (11, 9)) (h_a1 : inr a1) (h_a2 : inr a2) {r : Int × IMem} (hf : f_S_till fu o0 a1 a2 I0 = some r) : Ss l b 8 y_S_till KC RC [.ref o0, .int (iv a1), .int (iv a2)] (ivm I0) (Ps r) := by
  unfold f_S_till at hf
  refine Ss.of (show Ai l b 8 y_S_till KC RC (Ps r) I0 0 [.ref o0, .int (iv a1), .int (iv a2)] [] from ?_)
  refine aw_aload_n rfl rfl d_S_till_0 (aw_getr (r := o0 + 1) fl_S_12 h_o0 (by decide) rfl (rc_8_0 _ h_o0).1 d_S_till_1 (aw_getr (r := o0 + 7) fl_S_77 ((rc_8_0 _ h_o0).2) (by decide) rfl (rc_2_5 _ (rc_8_0 _ h_o0).2).1 d_S_till_4 (aw_iload_n rfl rfl d_S_till_7 (aw_iload_n rfl rfl d_S_till_8 ?_))))
  obtain ⟨y1, I2, c3, hf⟩ := of_zb hf
  refine ai_callV (as := [.int (iv a1), .int (iv a2)]) (d' := 2) (q := ("SinglesUp$Lines", zT4, 3)) mo_L_has lk_S_144 (rc_2_5 _ (rc_8_0 _ h_o0).2).2 rfl rfl rfl ⟨by decide, by decide⟩ rfl rfl (by decide) d_S_till_9 (t_L_has fu (o0 + 7) a1 a2 I0 hI (rc_2_5 _ (rc_8_0 _ h_o0).2).2 h_a1 h_a2 c3) (fun h_y1 h_I2 => ?_)
  refine ai_if_eq h_y1 hf (tgt := 35) (by decide) d_S_till_12 (fun hf => ?_) (fun hf => ?_)
  · refine aw_iconst (v := iv (-1)) rfl d_S_till_35 ?_
    exact ai_reti rfl d_S_till_36 hf in_m1 h_I2
  · refine aw_aload_n rfl rfl d_S_till_15 (aw_getr (r := o0 + 81) fl_S_22 h_o0 (by decide) rfl (rc_8_2 _ h_o0).1 d_S_till_16 (aw_aload_n rfl rfl d_S_till_19 (aw_getr (r := o0 + 1) fl_S_12 h_o0 (by decide) rfl (rc_8_0 _ h_o0).1 d_S_till_20 (aw_iload_n rfl rfl d_S_till_23 (aw_bipush (v := iv 40) cb_40 d_S_till_24 (ai_imul d_S_till_26 (aw_iload_n rfl rfl d_S_till_27 (ai_iadd d_S_till_28 ?_))))))))
    obtain ⟨y4, I5, c6, hf⟩ := of_zb hf
    refine ai_callV (as := [.ref (o0 + 1), .int (iv (wr32 ((wr32 (a1 * 40)) + a2)))]) (d' := 7) (q := ("SinglesUp$Mind", zT5, 3)) mo_M_tillSits lk_S_226 (rc_8_2 _ h_o0).2 rfl rfl rfl ⟨by decide, by decide⟩ rfl rfl (by decide) d_S_till_29 (t_M_tillSits fu (o0 + 81) (o0 + 1) (wr32 ((wr32 (a1 * 40)) + a2)) I2 h_I2 (rc_8_2 _ h_o0).2 (rc_8_0 _ h_o0).2 (wr32_in _) c6) (fun h_y4 h_I5 => ?_)
    refine aw_goto (tgt := 36) (by decide) d_S_till_32 ?_
    exact ai_reti rfl d_S_till_36 hf h_y4 h_I5
set_option maxRecDepth 20000 in
theorem t_L_canJoin (fu : Nat) (o0 : Nat) (a1 : Int) (a2 : Int) (I0 : IMem) (hI : RG I0) (h_o0 : KC[o0]? = some (7, 3)) (h_a1 : inr a1) (h_a2 : inr a2) {r : Int × IMem} (hf : f_L_canJoin fu o0 a1 a2 I0 = some r) : Ss l b 3 y_L_canJoin KC RC [.ref o0, .int (iv a1), .int (iv a2)] (ivm I0) (Ps r) := by
  unfold f_L_canJoin at hf
  refine Ss.of (show Ai l b 3 y_L_canJoin KC RC (Ps r) I0 0 [.ref o0, .int (iv a1), .int (iv a2)] [] from ?_)
  refine aw_iload_n rfl rfl d_L_canJoin_0 (aw_iload_n rfl rfl d_L_canJoin_1 ?_)
  refine ai_icmp_eq h_a1 h_a2 hf (tgt := 43) (by decide) d_L_canJoin_2 (fun hf => ?_) (fun hf => ?_)
  · refine aw_iconst (v := iv 0) rfl d_L_canJoin_43 ?_
    exact ai_retn rfl (nar_z (Or.inl rfl)) d_L_canJoin_44 hf in_0 hI
  · refine aw_aload_n rfl rfl d_L_canJoin_5 (aw_iload_n rfl rfl d_L_canJoin_6 ?_)
    obtain ⟨y1, I2, c3, hf⟩ := of_zb hf
    refine ai_callV (as := [.int (iv a1)]) (d' := 2) (q := ("SinglesUp$Lines", zT4, 3)) mo_L_isPlainAndTrue lk_L_64 h_o0 rfl rfl rfl ⟨by decide, by decide⟩ rfl rfl (by decide) d_L_canJoin_7 (t_L_isPlainAndTrue fu o0 a1 I0 hI h_o0 h_a1 c3) (fun h_y1 h_I2 => ?_)
    refine ai_if_eq h_y1 hf (tgt := 43) (by decide) d_L_canJoin_10 (fun hf => ?_) (fun hf => ?_)
    · refine aw_iconst (v := iv 0) rfl d_L_canJoin_43 ?_
      exact ai_retn rfl (nar_z (Or.inl rfl)) d_L_canJoin_44 hf in_0 h_I2
    · refine aw_aload_n rfl rfl d_L_canJoin_13 (aw_iload_n rfl rfl d_L_canJoin_14 ?_)
      obtain ⟨y4, I5, c6, hf⟩ := of_zb hf
      refine ai_callV (as := [.int (iv a2)]) (d' := 2) (q := ("SinglesUp$Lines", zT4, 3)) mo_L_isPlainAndTrue lk_L_64 h_o0 rfl rfl rfl ⟨by decide, by decide⟩ rfl rfl (by decide) d_L_canJoin_15 (t_L_isPlainAndTrue fu o0 a2 I2 h_I2 h_o0 h_a2 c6) (fun h_y4 h_I5 => ?_)
      refine ai_if_eq h_y4 hf (tgt := 43) (by decide) d_L_canJoin_18 (fun hf => ?_) (fun hf => ?_)
      · refine aw_iconst (v := iv 0) rfl d_L_canJoin_43 ?_
        exact ai_retn rfl (nar_z (Or.inl rfl)) d_L_canJoin_44 hf in_0 h_I5
      · refine aw_aload_n rfl rfl d_L_canJoin_21 (aw_iload_n rfl rfl d_L_canJoin_22 (aw_iconst (v := iv 1) rfl d_L_canJoin_23 ?_))
        obtain ⟨y7, I8, c9, hf⟩ := of_zb hf
        refine ai_callV (as := [.int (iv a1), .int (iv 1)]) (d' := 1) (q := ("SinglesUp$Lines", zT4, 3)) mo_L_get lk_L_53 h_o0 rfl rfl rfl ⟨by decide, by decide⟩ rfl rfl (by decide) d_L_canJoin_24 (t_L_get fu o0 a1 1 I5 h_I5 h_o0 h_a1 in_1 c9) (fun h_y7 h_I8 => ?_)
        refine aw_aload_n rfl rfl d_L_canJoin_27 (aw_iload_n rfl rfl d_L_canJoin_28 (aw_iconst (v := iv 1) rfl d_L_canJoin_29 ?_))
        obtain ⟨y10, I11, c12, hf⟩ := of_zb hf
        refine ai_callV (as := [.int (iv a2), .int (iv 1)]) (d' := 1) (q := ("SinglesUp$Lines", zT4, 3)) mo_L_get lk_L_53 h_o0 rfl rfl rfl ⟨by decide, by decide⟩ rfl rfl (by decide) d_L_canJoin_30 (t_L_get fu o0 a2 1 I8 h_I8 h_o0 h_a2 in_1 c12) (fun h_y10 h_I11 => ?_)
        refine ai_iadd d_L_canJoin_33 (aw_bipush (v := iv 8) cb_8 d_L_canJoin_34 ?_)
        refine ai_icmp_gt (wr32_in _) in_8 hf (tgt := 43) (by decide) d_L_canJoin_36 (fun hf => ?_) (fun hf => ?_)
        · refine aw_iconst (v := iv 0) rfl d_L_canJoin_43 ?_
          exact ai_retn rfl (nar_z (Or.inl rfl)) d_L_canJoin_44 hf in_0 h_I11
        · refine aw_iconst (v := iv 1) rfl d_L_canJoin_39 (aw_goto (tgt := 44) (by decide) d_L_canJoin_40 ?_)
          exact ai_retn rfl (nar_z (Or.inr rfl)) d_L_canJoin_44 hf in_1 h_I11
set_option maxRecDepth 20000 in
theorem t_L_remove (fu : Nat) (o0 : Nat) (a1 : Int) (I0 : IMem) (hI : RG I0) (h_o0 : KC[o0]? = some (7, 3)) (h_a1 : inr a1) {r : Int × IMem} (hf : f_L_remove fu o0 a1 I0 = some r) : Ss l b 3 y_L_remove KC RC [.ref o0, .int (iv a1)] (ivm I0) (Pv r) := by
  unfold f_L_remove at hf
  refine Ss.of (show Ai l b 3 y_L_remove KC RC (Pv r) I0 0 [.ref o0, .int (iv a1), uu, uu, uu] [] from ?_)
  refine aw_iload_n rfl rfl d_L_remove_0 (aw_bipush (v := iv 40) cb_40 d_L_remove_1 (ai_idivc in_40 (by decide) d_L_remove_3 ?_))
  refine ai_name hf (wdiv_in _ _) (fun x1 h_x1 hf => ?_)
  refine aw_istore_n (lv2 := [.ref o0, .int (iv a1), .int (iv x1), uu, uu]) rfl (Nat.le_of_ble_eq_true rfl) rfl d_L_remove_4 ?_
  refine aw_iload_n rfl rfl d_L_remove_5 (aw_bipush (v := iv 40) cb_40 d_L_remove_6 (ai_iremc in_40 (by decide) d_L_remove_8 ?_))
  refine ai_name hf (wrem_in _ _) (fun x2 h_x2 hf => ?_)
  refine aw_istore_n (lv2 := [.ref o0, .int (iv a1), .int (iv x1), .int (iv x2), uu]) rfl (Nat.le_of_ble_eq_true rfl) rfl d_L_remove_9 ?_
  refine aw_aload_n rfl rfl d_L_remove_10 (aw_iload_n rfl rfl d_L_remove_11 (aw_iload_n rfl rfl d_L_remove_12 ?_))
  obtain ⟨y3, I4, c5, hf⟩ := of_zb hf
  refine ai_callV (as := [.int (iv x1), .int (iv x2)]) (d' := 2) (q := ("SinglesUp$Lines", zT4, 3)) mo_L_has lk_L_43 h_o0 rfl rfl rfl ⟨by decide, by decide⟩ rfl rfl (by decide) d_L_remove_13 (t_L_has fu o0 x1 x2 I0 hI h_o0 h_x1 h_x2 c5) (fun h_y3 h_I4 => ?_)
  refine ai_if_eq h_y3 hf (tgt := 67) (by decide) d_L_remove_16 (fun hf => ?_) (fun hf => ?_)
  · exact ai_retv rfl d_L_remove_67 hf h_I4
  · refine aw_aload_n rfl rfl d_L_remove_19 (aw_getr (r := o0 + 2) fl_L_15 h_o0 (by decide) rfl (rc_4_1 _ h_o0).1 d_L_remove_20 (aw_iload_n rfl rfl d_L_remove_23 ?_))
    refine ai_iald (rc_4_1 _ h_o0).2 rfl h_x1 hf d_L_remove_24 (fun _ hf => ?_)
    refine aw_iload_n rfl rfl d_L_remove_25 (ai_isub d_L_remove_26 (aw_iconst (v := iv 1) rfl d_L_remove_27 (ai_isub d_L_remove_28 ?_)))
    refine ai_name hf (wr32_in _) (fun x6 h_x6 hf => ?_)
    refine aw_istore (lv2 := [.ref o0, .int (iv a1), .int (iv x1), .int (iv x2), .int (iv x6)]) (Nat.le_of_ble_eq_true rfl) rfl d_L_remove_29 ?_
    refine aw_aload_n rfl rfl d_L_remove_31 (aw_getr (r := o0 + 1) fl_L_9 h_o0 (by decide) rfl (rc_4_0 _ h_o0).1 d_L_remove_32 (aw_iload_n rfl rfl d_L_remove_35 (aw_iconst (v := iv 1) rfl d_L_remove_36 (ai_iadd d_L_remove_37 (aw_bipush (v := iv 6) cb_6 d_L_remove_38 (ai_imul d_L_remove_40 (aw_aload_n rfl rfl d_L_remove_41 (aw_getr (r := o0 + 1) fl_L_9 h_o0 (by decide) rfl (rc_4_0 _ h_o0).1 d_L_remove_42 (aw_iload_n rfl rfl d_L_remove_45 (aw_bipush (v := iv 6) cb_6 d_L_remove_46 (ai_imul d_L_remove_48 (aw_iload rfl d_L_remove_49 (aw_bipush (v := iv 6) cb_6 d_L_remove_51 (ai_imul d_L_remove_53 ?_))))))))))))))
    refine ai_copy lka_L_27 ac_nat ac_sta ac_ini (rc_4_0 _ h_o0).2 (rc_4_0 _ h_o0).2 rfl rfl (wr32_in _) (wr32_in _) (wr32_in _) h_I4 (by decide) rfl hf d_L_remove_54 (fun I7 h_I7 hf => ?_)
    refine aw_aload_n rfl rfl d_L_remove_57 (aw_getr (r := o0 + 2) fl_L_15 h_o0 (by decide) rfl (rc_4_1 _ h_o0).1 d_L_remove_58 (aw_iload_n rfl rfl d_L_remove_61 (aw_dup2 rfl rfl d_L_remove_62 ?_)))
    refine ai_iald (rc_4_1 _ h_o0).2 rfl h_x1 hf d_L_remove_63 (fun _ hf => ?_)
    refine aw_iconst (v := iv 1) rfl d_L_remove_64 (ai_isub d_L_remove_65 ?_)
    refine ai_iast (rc_4_1 _ h_o0).2 rfl h_x1 (wr32_in _) h_I7 hf d_L_remove_66 (fun _ I8 h_I8 hf => ?_)
    exact ai_retv rfl d_L_remove_67 hf h_I8
set_option maxRecDepth 20000 in
theorem t_L_join (fu : Nat) (o0 : Nat) (a1 : Int) (a2 : Int) (I0 : IMem) (hI : RG I0) (h_o0 : KC[o0]? = some (7, 3)) (h_a1 : inr a1) (h_a2 : inr a2) {r : Int × IMem} (hf : f_L_join fu o0 a1 a2 I0 = some r) : Ss l b 4 y_L_join KC RC [.ref o0, .int (iv a1), .int (iv a2)] (ivm I0) (Pv r) := by
  unfold f_L_join at hf
  refine Ss.of (show Ai l b 4 y_L_join KC RC (Pv r) I0 0 [.ref o0, .int (iv a1), .int (iv a2), uu] [] from ?_)
  refine aw_aload_n rfl rfl d_L_join_0 (aw_iload_n rfl rfl d_L_join_1 (aw_iconst (v := iv 1) rfl d_L_join_2 ?_))
  obtain ⟨y1, I2, c3, hf⟩ := of_zb hf
  refine ai_callV (as := [.int (iv a1), .int (iv 1)]) (d' := 1) (q := ("SinglesUp$Lines", zT4, 3)) mo_L_get lk_L_53 h_o0 rfl rfl rfl ⟨by decide, by decide⟩ rfl rfl (by decide) d_L_join_3 (t_L_get fu o0 a1 1 I0 hI h_o0 h_a1 in_1 c3) (fun h_y1 h_I2 => ?_)
  refine aw_aload_n rfl rfl d_L_join_6 (aw_iload_n rfl rfl d_L_join_7 (aw_iconst (v := iv 1) rfl d_L_join_8 ?_))
  obtain ⟨y4, I5, c6, hf⟩ := of_zb hf
  refine ai_callV (as := [.int (iv a2), .int (iv 1)]) (d' := 1) (q := ("SinglesUp$Lines", zT4, 3)) mo_L_get lk_L_53 h_o0 rfl rfl rfl ⟨by decide, by decide⟩ rfl rfl (by decide) d_L_join_9 (t_L_get fu o0 a2 1 I2 h_I2 h_o0 h_a2 in_1 c6) (fun h_y4 h_I5 => ?_)
  refine ai_iadd d_L_join_12 ?_
  refine ai_name hf (wr32_in _) (fun x7 h_x7 hf => ?_)
  refine aw_istore_n (lv2 := [.ref o0, .int (iv a1), .int (iv a2), .int (iv x7)]) rfl (Nat.le_of_ble_eq_true rfl) rfl d_L_join_13 ?_
  refine aw_aload_n rfl rfl d_L_join_14 (aw_iload_n rfl rfl d_L_join_15 (aw_iconst (v := iv 1) rfl d_L_join_16 (aw_iload_n rfl rfl d_L_join_17 ?_)))
  obtain ⟨y8, I9, c10, hf⟩ := of_zb hf
  refine ai_callVv (as := [.int (iv a2), .int (iv 1), .int (iv x7)]) (d' := 1) (q := ("SinglesUp$Lines", zT4, 3)) mo_L_put lk_L_56 h_o0 rfl rfl rfl ⟨by decide, by decide⟩ rfl rfl (by decide) d_L_join_18 (t_L_put fu o0 a2 1 x7 I5 h_I5 h_o0 h_a2 in_1 h_x7 c10) (fun h_I9 => ?_)
  refine aw_aload_n rfl rfl d_L_join_21 (aw_iload_n rfl rfl d_L_join_22 (aw_iconst (v := iv 2) rfl d_L_join_23 (aw_iload_n rfl rfl d_L_join_24 ?_)))
  obtain ⟨y11, I12, c13, hf⟩ := of_zb hf
  refine ai_callVv (as := [.int (iv a2), .int (iv 2), .int (iv x7)]) (d' := 1) (q := ("SinglesUp$Lines", zT4, 3)) mo_L_put lk_L_56 h_o0 rfl rfl rfl ⟨by decide, by decide⟩ rfl rfl (by decide) d_L_join_25 (t_L_put fu o0 a2 2 x7 I9 h_I9 h_o0 h_a2 in_2 h_x7 c13) (fun h_I12 => ?_)
  refine aw_aload_n rfl rfl d_L_join_28 (aw_iload_n rfl rfl d_L_join_29 ?_)
  obtain ⟨y14, I15, c16, hf⟩ := of_zb hf
  refine ai_callVv (as := [.int (iv a1)]) (d' := 3) (q := ("SinglesUp$Lines", zT4, 3)) mo_L_remove lk_L_67 h_o0 rfl rfl rfl ⟨by decide, by decide⟩ rfl rfl (by decide) d_L_join_30 (t_L_remove fu o0 a1 I12 h_I12 h_o0 h_a1 c16) (fun h_I15 => ?_)
  exact ai_retv rfl d_L_join_33 hf h_I15
set_option maxRecDepth 20000 in
theorem t_M_tillJoined (fu : Nat) (o0 : Nat) (o1 : Nat) (a2 : Int) (a3 : Int) (I0 : IMem) (hI : RG I0) (h_o0 : KC[o0]? = some (8, 3)) (h_o1 : KC[o1]? = some (5, 14)) (h_a2 : inr a2) (h_a3 : inr a3) {r : Int × IMem} (hf : f_M_tillJoined fu o0 o1 a2 a3 I0 = some r) : Ss l b 7 y_M_tillJoined KC RC [.ref o0, .ref o1, .int (iv a2), .int (iv a3)] (ivm I0) (Ps r) := by
  unfold f_M_tillJoined at hf
  refine Ss.of (show Ai l b 7 y_M_tillJoined KC RC (Ps r) I0 0 [.ref o0, .ref o1, .int (iv a2), .int (iv a3)] [] from ?_)
  refine aw_aload_n rfl rfl d_M_tillJoined_0 (aw_getr (r := o0 + 1) fl_M_12 h_o0 (by decide) rfl (rc_5_0 _ h_o0).1 d_M_tillJoined_1 (aw_aload_n rfl rfl d_M_tillJoined_4 ?_))
  obtain ⟨y1, I2, c3, hf⟩ := of_zb hf
  refine ai_callVv (as := [.ref o1]) (d' := 2) (q := ("SinglesUp$Hill", zT2, 14)) mo_H_copyFrom lk_M_29 (rc_5_0 _ h_o0).2 rfl rfl rfl ⟨by decide, by decide⟩ rfl rfl (by decide) d_M_tillJoined_5 (t_H_copyFrom fu (o0 + 1) o1 I0 hI (rc_5_0 _ h_o0).2 h_o1 c3) (fun h_I2 => ?_)
  refine aw_aload_n rfl rfl d_M_tillJoined_8 (aw_getr (r := o0 + 1) fl_M_12 h_o0 (by decide) rfl (rc_5_0 _ h_o0).1 d_M_tillJoined_9 (aw_getr (r := o0 + 7) fl_M_57 ((rc_5_0 _ h_o0).2) (by decide) rfl (rc_2_5 _ (rc_5_0 _ h_o0).2).1 d_M_tillJoined_12 (aw_iload_n rfl rfl d_M_tillJoined_15 (aw_iload_n rfl rfl d_M_tillJoined_16 ?_))))
  obtain ⟨y4, I5, c6, hf⟩ := of_zb hf
  refine ai_callVv (as := [.int (iv a2), .int (iv a3)]) (d' := 4) (q := ("SinglesUp$Lines", zT4, 3)) mo_L_join lk_M_70 (rc_2_5 _ (rc_5_0 _ h_o0).2).2 rfl rfl rfl ⟨by decide, by decide⟩ rfl rfl (by decide) d_M_tillJoined_17 (t_L_join fu (o0 + 7) a2 a3 I2 h_I2 (rc_2_5 _ (rc_5_0 _ h_o0).2).2 h_a2 h_a3 c6) (fun h_I5 => ?_)
  refine aw_aload_n rfl rfl d_M_tillJoined_20 (aw_aload_n rfl rfl d_M_tillJoined_21 (aw_getr (r := o1 + 6) fl_M_57 h_o1 (by decide) rfl (rc_2_5 _ h_o1).1 d_M_tillJoined_22 (aw_iload_n rfl rfl d_M_tillJoined_25 (aw_iconst (v := iv 0) rfl d_M_tillJoined_26 ?_))))
  obtain ⟨y7, I8, c9, hf⟩ := of_zb hf
  refine ai_callV (as := [.int (iv a3), .int (iv 0)]) (d' := 1) (q := ("SinglesUp$Lines", zT4, 3)) mo_L_get lk_M_61 (rc_2_5 _ h_o1).2 rfl rfl rfl ⟨by decide, by decide⟩ rfl rfl (by decide) d_M_tillJoined_27 (t_L_get fu (o1 + 6) a3 0 I5 h_I5 (rc_2_5 _ h_o1).2 h_a3 in_0 c9) (fun h_y7 h_I8 => ?_)
  obtain ⟨y10, I11, c12, hf⟩ := of_zb hf
  refine ai_callV (as := [.int (iv y7)]) (d' := 6) (q := ("SinglesUp$Mind", zT5, 3)) mo_M_countTill lk_M_66 h_o0 rfl rfl rfl ⟨by decide, by decide⟩ rfl rfl (by decide) d_M_tillJoined_30 (t_M_countTill fu o0 y7 I8 h_I8 h_o0 h_y7 c12) (fun h_y10 h_I11 => ?_)
  exact ai_reti rfl d_M_tillJoined_33 hf h_y10 h_I11
set_option maxRecDepth 20000 in
theorem t_S_together (fu : Nat) (o0 : Nat) (a1 : Int) (a2 : Int) (a3 : Int) (a4 : Int) (a5 : Int) (I0 : IMem) (hI : RG I0) (h_o0 : KC[o0]? = some (11, 9)) (h_a1 : inr a1) (h_a2 : inr a2) (h_a3 : inr a3) (h_a4 : inr a4) (h_a5 : inr a5) {r : Int × IMem} (hf : f_S_together fu o0 a1 a2 a3 a4 a5 I0 = some r) : Ss l b 8 y_S_together KC RC [.ref o0, .int (iv a1), .int (iv a2), .int (iv a3), .int (iv a4), .int (iv a5)] (ivm I0) (Ps r) := by
  unfold f_S_together at hf
  refine Ss.of (show Ai l b 8 y_S_together KC RC (Ps r) I0 0 [.ref o0, .int (iv a1), .int (iv a2), .int (iv a3), .int (iv a4), .int (iv a5), uu, uu, uu, uu, uu] [] from ?_)
  refine aw_iload rfl d_S_together_0 ?_
  refine ai_if_lt h_a5 hf (tgt := 42) (by decide) d_S_together_2 (fun hf => ?_) (fun hf => ?_)
  · refine aw_bipush (v := iv (-2)) cb_m2 d_S_together_42 ?_
    exact ai_reti rfl d_S_together_44 hf in_m2 hI
  · refine aw_iload rfl d_S_together_5 (aw_iconst (v := iv 1) rfl d_S_together_7 ?_)
    refine ai_icmp_gt h_a5 in_1 hf (tgt := 42) (by decide) d_S_together_8 (fun hf => ?_) (fun hf => ?_)
    · refine aw_bipush (v := iv (-2)) cb_m2 d_S_together_42 ?_
      exact ai_reti rfl d_S_together_44 hf in_m2 hI
    · refine aw_aload_n rfl rfl d_S_together_11 (aw_getr (r := o0 + 1) fl_S_12 h_o0 (by decide) rfl (rc_8_0 _ h_o0).1 d_S_together_12 (aw_getr (r := o0 + 7) fl_S_77 ((rc_8_0 _ h_o0).2) (by decide) rfl (rc_2_5 _ (rc_8_0 _ h_o0).2).1 d_S_together_15 (aw_iload_n rfl rfl d_S_together_18 (aw_iload_n rfl rfl d_S_together_19 ?_))))
      obtain ⟨y1, I2, c3, hf⟩ := of_zb hf
      refine ai_callV (as := [.int (iv a1), .int (iv a2)]) (d' := 2) (q := ("SinglesUp$Lines", zT4, 3)) mo_L_has lk_S_144 (rc_2_5 _ (rc_8_0 _ h_o0).2).2 rfl rfl rfl ⟨by decide, by decide⟩ rfl rfl (by decide) d_S_together_20 (t_L_has fu (o0 + 7) a1 a2 I0 hI (rc_2_5 _ (rc_8_0 _ h_o0).2).2 h_a1 h_a2 c3) (fun h_y1 h_I2 => ?_)
      refine ai_if_eq h_y1 hf (tgt := 42) (by decide) d_S_together_23 (fun hf => ?_) (fun hf => ?_)
      · refine aw_bipush (v := iv (-2)) cb_m2 d_S_together_42 ?_
        exact ai_reti rfl d_S_together_44 hf in_m2 h_I2
      · refine aw_aload_n rfl rfl d_S_together_26 (aw_getr (r := o0 + 1) fl_S_12 h_o0 (by decide) rfl (rc_8_0 _ h_o0).1 d_S_together_27 (aw_getr (r := o0 + 7) fl_S_77 ((rc_8_0 _ h_o0).2) (by decide) rfl (rc_2_5 _ (rc_8_0 _ h_o0).2).1 d_S_together_30 (aw_iload_n rfl rfl d_S_together_33 (aw_iload rfl d_S_together_34 ?_))))
        obtain ⟨y4, I5, c6, hf⟩ := of_zb hf
        refine ai_callV (as := [.int (iv a3), .int (iv a4)]) (d' := 2) (q := ("SinglesUp$Lines", zT4, 3)) mo_L_has lk_S_144 (rc_2_5 _ (rc_8_0 _ h_o0).2).2 rfl rfl rfl ⟨by decide, by decide⟩ rfl rfl (by decide) d_S_together_36 (t_L_has fu (o0 + 7) a3 a4 I2 h_I2 (rc_2_5 _ (rc_8_0 _ h_o0).2).2 h_a3 h_a4 c6) (fun h_y4 h_I5 => ?_)
        refine ai_if_ne h_y4 hf (tgt := 45) (by decide) d_S_together_39 (fun hf => ?_) (fun hf => ?_)
        · refine aw_iload_n rfl rfl d_S_together_45 (aw_bipush (v := iv 40) cb_40 d_S_together_46 (ai_imul d_S_together_48 (aw_iload_n rfl rfl d_S_together_49 (ai_iadd d_S_together_50 ?_))))
          refine ai_name hf (wr32_in _) (fun x7 h_x7 hf => ?_)
          refine aw_istore (lv2 := [.ref o0, .int (iv a1), .int (iv a2), .int (iv a3), .int (iv a4), .int (iv a5), .int (iv x7), uu, uu, uu, uu]) (Nat.le_of_ble_eq_true rfl) rfl d_S_together_51 ?_
          refine aw_iload_n rfl rfl d_S_together_53 (aw_bipush (v := iv 40) cb_40 d_S_together_54 (ai_imul d_S_together_56 (aw_iload rfl d_S_together_57 (ai_iadd d_S_together_59 ?_))))
          refine ai_name hf (wr32_in _) (fun x8 h_x8 hf => ?_)
          refine aw_istore (lv2 := [.ref o0, .int (iv a1), .int (iv a2), .int (iv a3), .int (iv a4), .int (iv a5), .int (iv x7), .int (iv x8), uu, uu, uu]) (Nat.le_of_ble_eq_true rfl) rfl d_S_together_60 ?_
          refine aw_aload_n rfl rfl d_S_together_62 (aw_getr (r := o0 + 1) fl_S_12 h_o0 (by decide) rfl (rc_8_0 _ h_o0).1 d_S_together_63 (aw_getr (r := o0 + 7) fl_S_77 ((rc_8_0 _ h_o0).2) (by decide) rfl (rc_2_5 _ (rc_8_0 _ h_o0).2).1 d_S_together_66 (aw_iload rfl d_S_together_69 (aw_iload rfl d_S_together_71 ?_))))
          obtain ⟨y9, I10, c11, hf⟩ := of_zb hf
          refine ai_callV (as := [.int (iv x7), .int (iv x8)]) (d' := 3) (q := ("SinglesUp$Lines", zT4, 3)) mo_L_canJoin lk_S_229 (rc_2_5 _ (rc_8_0 _ h_o0).2).2 rfl rfl rfl ⟨by decide, by decide⟩ rfl rfl (by decide) d_S_together_73 (t_L_canJoin fu (o0 + 7) x7 x8 I5 h_I5 (rc_2_5 _ (rc_8_0 _ h_o0).2).2 h_x7 h_x8 c11) (fun h_y9 h_I10 => ?_)
          refine ai_if_ne h_y9 hf (tgt := 82) (by decide) d_S_together_76 (fun hf => ?_) (fun hf => ?_)
          · refine aw_aload_n rfl rfl d_S_together_82 (aw_getr (r := o0 + 81) fl_S_22 h_o0 (by decide) rfl (rc_8_2 _ h_o0).1 d_S_together_83 (aw_aload_n rfl rfl d_S_together_86 (aw_getr (r := o0 + 1) fl_S_12 h_o0 (by decide) rfl (rc_8_0 _ h_o0).1 d_S_together_87 (aw_iload rfl d_S_together_90 (aw_iload rfl d_S_together_92 ?_)))))
            obtain ⟨y12, I13, c14, hf⟩ := of_zb hf
            refine ai_callV (as := [.ref (o0 + 1), .int (iv x7), .int (iv x8)]) (d' := 7) (q := ("SinglesUp$Mind", zT5, 3)) mo_M_tillJoined lk_S_232 (rc_8_2 _ h_o0).2 rfl rfl rfl ⟨by decide, by decide⟩ rfl rfl (by decide) d_S_together_94 (t_M_tillJoined fu (o0 + 81) (o0 + 1) x7 x8 I10 h_I10 (rc_8_2 _ h_o0).2 (rc_8_0 _ h_o0).2 h_x7 h_x8 c14) (fun h_y12 h_I13 => ?_)
            refine aw_istore (lv2 := [.ref o0, .int (iv a1), .int (iv a2), .int (iv a3), .int (iv a4), .int (iv a5), .int (iv x7), .int (iv x8), .int (iv y12), uu, uu]) (Nat.le_of_ble_eq_true rfl) rfl d_S_together_97 (aw_iload rfl d_S_together_99 ?_)
            refine ai_if_ne h_a5 hf (tgt := 107) (by decide) d_S_together_101 (fun hf => ?_) (fun hf => ?_)
            · refine aw_aload_n rfl rfl d_S_together_107 (aw_getr (r := o0 + 81) fl_S_22 h_o0 (by decide) rfl (rc_8_2 _ h_o0).1 d_S_together_108 (aw_aload_n rfl rfl d_S_together_111 (aw_getr (r := o0 + 1) fl_S_12 h_o0 (by decide) rfl (rc_8_0 _ h_o0).1 d_S_together_112 (aw_iload rfl d_S_together_115 ?_))))
              obtain ⟨y15, I16, c17, hf⟩ := of_zb hf
              refine ai_callV (as := [.ref (o0 + 1), .int (iv x7)]) (d' := 7) (q := ("SinglesUp$Mind", zT5, 3)) mo_M_tillSits lk_S_226 (rc_8_2 _ h_o0).2 rfl rfl rfl ⟨by decide, by decide⟩ rfl rfl (by decide) d_S_together_117 (t_M_tillSits fu (o0 + 81) (o0 + 1) x7 I13 h_I13 (rc_8_2 _ h_o0).2 (rc_8_0 _ h_o0).2 h_x7 c17) (fun h_y15 h_I16 => ?_)
              refine aw_istore (lv2 := [.ref o0, .int (iv a1), .int (iv a2), .int (iv a3), .int (iv a4), .int (iv a5), .int (iv x7), .int (iv x8), .int (iv y12), .int (iv y15), uu]) (Nat.le_of_ble_eq_true rfl) rfl d_S_together_120 (aw_aload_n rfl rfl d_S_together_122 (aw_getr (r := o0 + 81) fl_S_22 h_o0 (by decide) rfl (rc_8_2 _ h_o0).1 d_S_together_123 (aw_aload_n rfl rfl d_S_together_126 (aw_getr (r := o0 + 1) fl_S_12 h_o0 (by decide) rfl (rc_8_0 _ h_o0).1 d_S_together_127 (aw_iload rfl d_S_together_130 ?_)))))
              obtain ⟨y18, I19, c20, hf⟩ := of_zb hf
              refine ai_callV (as := [.ref (o0 + 1), .int (iv x8)]) (d' := 7) (q := ("SinglesUp$Mind", zT5, 3)) mo_M_tillSits lk_S_226 (rc_8_2 _ h_o0).2 rfl rfl rfl ⟨by decide, by decide⟩ rfl rfl (by decide) d_S_together_132 (t_M_tillSits fu (o0 + 81) (o0 + 1) x8 I16 h_I16 (rc_8_2 _ h_o0).2 (rc_8_0 _ h_o0).2 h_x8 c20) (fun h_y18 h_I19 => ?_)
              refine aw_istore (lv2 := [.ref o0, .int (iv a1), .int (iv a2), .int (iv a3), .int (iv a4), .int (iv a5), .int (iv x7), .int (iv x8), .int (iv y12), .int (iv y15), .int (iv y18)]) (Nat.le_of_ble_eq_true rfl) rfl d_S_together_135 (aw_iload rfl d_S_together_137 (aw_iconst (v := iv (-1)) rfl d_S_together_139 ?_))
              refine ai_icmp_eq h_y12 in_m1 hf (tgt := 171) (by decide) d_S_together_140 (fun hf => ?_) (fun hf => ?_)
              · refine aw_iconst (v := iv 0) rfl d_S_together_171 ?_
                exact ai_reti rfl d_S_together_172 hf in_0 h_I19
              · refine aw_iload rfl d_S_together_143 (aw_iconst (v := iv (-1)) rfl d_S_together_145 ?_)
                refine ai_icmp_eq h_y15 in_m1 hf (tgt := 171) (by decide) d_S_together_146 (fun hf => ?_) (fun hf => ?_)
                · refine aw_iconst (v := iv 0) rfl d_S_together_171 ?_
                  exact ai_reti rfl d_S_together_172 hf in_0 h_I19
                · refine aw_iload rfl d_S_together_149 (aw_iconst (v := iv (-1)) rfl d_S_together_151 ?_)
                  refine ai_icmp_eq h_y18 in_m1 hf (tgt := 171) (by decide) d_S_together_152 (fun hf => ?_) (fun hf => ?_)
                  · refine aw_iconst (v := iv 0) rfl d_S_together_171 ?_
                    exact ai_reti rfl d_S_together_172 hf in_0 h_I19
                  · refine aw_iload rfl d_S_together_155 (aw_iload rfl d_S_together_157 (aw_iload rfl d_S_together_159 ?_))
                    obtain ⟨y21, I22, c23, hf⟩ := of_zb hf
                    refine ai_callS (as := [.int (iv y15), .int (iv y18)]) (d' := 1) mo_JM_max lk_S_235 rfl ⟨by decide, by decide⟩ rfl rfl (by decide) d_S_together_161 (t_JM_max fu y15 y18 I19 h_I19 h_y15 h_y18 c23) (fun h_y21 h_I22 => ?_)
                    refine ai_icmp_gt h_y12 h_y21 hf (tgt := 171) (by decide) d_S_together_164 (fun hf => ?_) (fun hf => ?_)
                    · refine aw_iconst (v := iv 0) rfl d_S_together_171 ?_
                      exact ai_reti rfl d_S_together_172 hf in_0 h_I22
                    · refine aw_iconst (v := iv 1) rfl d_S_together_167 (aw_goto (tgt := 172) (by decide) d_S_together_168 ?_)
                      exact ai_reti rfl d_S_together_172 hf in_1 h_I22
            · refine aw_iload rfl d_S_together_104 ?_
              exact ai_reti rfl d_S_together_106 hf h_y12 h_I13
          · refine aw_bipush (v := iv (-2)) cb_m2 d_S_together_79 ?_
            exact ai_reti rfl d_S_together_81 hf in_m2 h_I10
        · refine aw_bipush (v := iv (-2)) cb_m2 d_S_together_42 ?_
          exact ai_reti rfl d_S_together_44 hf in_m2 h_I5
set_option maxRecDepth 20000 in
theorem t_M_emptyNeeded_13 (fu : Nat) {r : Int × IMem} (o0 : Nat) (p2 : Int) (h_o0 : KC[o0]? = some (8, 3)) (h_p2 : inr p2) : ∀ (m : Nat) (w3 : Int) (w4 : Int) (I0 : IMem), inr w3 → inr w4 → RG I0 → f_M_emptyNeeded_13 fu o0 p2 m w3 w4 I0 = some r → Ai l b 7 y_M_emptyNeeded KC RC (Ps r) I0 13 [.ref o0, uu, .int (iv p2), .int (iv w3), .int (iv w4), uu] [] := by
  intro m
  induction m with
  | zero => intro w3 w4 I0 h_w3 h_w4 h_I0 hf; cases hf
  | succ m ih =>
    intro w3 w4 I0 h_w3 h_w4 h_I0 hf
    replace hf : fb_M_emptyNeeded_13 fu o0 p2 (f_M_emptyNeeded_13 fu o0 p2 m) w3 w4 I0 = some r := hf
    unfold fb_M_emptyNeeded_13 at hf
    refine aw_iload rfl d_M_emptyNeeded_13 (aw_iload_n rfl rfl d_M_emptyNeeded_15 ?_)
    refine ai_icmp_ge h_w4 h_p2 hf (tgt := 65) (by decide) d_M_emptyNeeded_16 (fun hf => ?_) (fun hf => ?_)
    · refine aw_iload_n rfl rfl d_M_emptyNeeded_65 ?_
      exact ai_reti rfl d_M_emptyNeeded_66 hf h_w3 h_I0
    · refine aw_aload_n rfl rfl d_M_emptyNeeded_19 (aw_getr (r := o0 + 1) fl_M_12 h_o0 (by decide) rfl (rc_5_0 _ h_o0).1 d_M_emptyNeeded_20 (aw_getr (r := o0 + 11) fl_M_40 ((rc_5_0 _ h_o0).2) (by decide) rfl (rc_2_8 _ (rc_5_0 _ h_o0).2).1 d_M_emptyNeeded_23 (aw_iconst (v := iv 1) rfl d_M_emptyNeeded_26 (ai_ialdc (j := 1) (rc_2_8 _ (rc_5_0 _ h_o0).2).2 (by decide) (by decide) d_M_emptyNeeded_27 ?_))))
      refine ai_name hf (h_I0 (o0 + 11) 1) (fun x4 h_x4 hf => ?_)
      refine aw_istore (lv2 := [.ref o0, uu, .int (iv p2), .int (iv w3), .int (iv w4), .int (iv x4)]) (Nat.le_of_ble_eq_true rfl) rfl d_M_emptyNeeded_28 ?_
      refine aw_aload_n rfl rfl d_M_emptyNeeded_30 (aw_getr (r := o0 + 41) fl_M_21 h_o0 (by decide) rfl (rc_5_1 _ h_o0).1 d_M_emptyNeeded_31 (aw_aload_n rfl rfl d_M_emptyNeeded_34 (aw_getr (r := o0 + 1) fl_M_12 h_o0 (by decide) rfl (rc_5_0 _ h_o0).1 d_M_emptyNeeded_35 ?_)))
      obtain ⟨y5, I6, c7, hf⟩ := of_zb hf
      refine ai_callV (as := [.ref (o0 + 1)]) (d' := 6) (q := ("SinglesUp$Chair", zT0, 12)) mo_C_ride lk_M_87 (rc_5_1 _ h_o0).2 rfl rfl rfl ⟨by decide, by decide⟩ rfl rfl (by decide) d_M_emptyNeeded_38 (t_C_ride fu (o0 + 41) (o0 + 1) I0 h_I0 (rc_5_1 _ h_o0).2 (rc_5_0 _ h_o0).2 c7) (fun h_y5 h_I6 => ?_)
      obtain ⟨k8, ek8, hf⟩ := of_zj hf
      have hk8 : ∀ (x10 : Int) (I9 : IMem), inr x10 → RG I9 → k8 x10 I9 = some r → Ai l b 7 y_M_emptyNeeded KC RC (Ps r) I9 59 [.ref o0, uu, .int (iv p2), .int (iv x10), .int (iv w4), uu] [] := by
        intro x10 I9 h_x10 h_I9 hf
        subst ek8
        refine ai_iinc (n := 1) (lv2 := fun x11 => [.ref o0, uu, .int (iv p2), .int (iv x10), .int (iv x11), uu]) hf rfl (Nat.le_of_ble_eq_true rfl) (fun _ => rfl) d_M_emptyNeeded_59 (fun x11 h_x11 hf => ?_)
        refine aw_goto (tgt := 13) (by decide) d_M_emptyNeeded_62 ?_
        exact ih x10 x11 I9 h_x10 h_x11 h_I9 hf
      refine ai_if_le h_y5 hf (tgt := 59) (by decide) d_M_emptyNeeded_41 (fun hf => ?_) (fun hf => ?_)
      · refine aw_weakB (lv2 := [.ref o0, uu, .int (iv p2), .int (iv w3), .int (iv w4), uu]) (wk_s (wk_u (wk_s (wk_s (wk_s (wk_u wk_n)))))) ?_
        exact hk8 w3 I6 h_w3 h_I6 hf
      · refine aw_iload_n rfl rfl d_M_emptyNeeded_44 (aw_aload_n rfl rfl d_M_emptyNeeded_45 (aw_getr (r := o0 + 1) fl_M_12 h_o0 (by decide) rfl (rc_5_0 _ h_o0).1 d_M_emptyNeeded_46 (aw_getr (r := o0 + 11) fl_M_40 ((rc_5_0 _ h_o0).2) (by decide) rfl (rc_2_8 _ (rc_5_0 _ h_o0).2).1 d_M_emptyNeeded_49 (aw_iconst (v := iv 1) rfl d_M_emptyNeeded_52 (ai_ialdc (j := 1) (rc_2_8 _ (rc_5_0 _ h_o0).2).2 (by decide) (by decide) d_M_emptyNeeded_53 (aw_iload rfl d_M_emptyNeeded_54 (ai_isub d_M_emptyNeeded_56 (ai_iadd d_M_emptyNeeded_57 ?_))))))))
        refine ai_name hf (wr32_in _) (fun x12 h_x12 hf => ?_)
        refine aw_istore_n (lv2 := [.ref o0, uu, .int (iv p2), .int (iv x12), .int (iv w4), .int (iv x4)]) rfl (Nat.le_of_ble_eq_true rfl) rfl d_M_emptyNeeded_58 ?_
        refine aw_weakB (lv2 := [.ref o0, uu, .int (iv p2), .int (iv x12), .int (iv w4), uu]) (wk_s (wk_u (wk_s (wk_s (wk_s (wk_u wk_n)))))) ?_
        exact hk8 x12 I6 h_x12 h_I6 hf
set_option maxRecDepth 20000 in
theorem t_M_emptyNeeded (fu : Nat) (o0 : Nat) (o1 : Nat) (a2 : Int) (I0 : IMem) (hI : RG I0) (h_o0 : KC[o0]? = some (8, 3)) (h_o1 : KC[o1]? = some (5, 14)) (h_a2 : inr a2) {r : Int × IMem} (hf : f_M_emptyNeeded fu o0 o1 a2 I0 = some r) : Ss l b 7 y_M_emptyNeeded KC RC [.ref o0, .ref o1, .int (iv a2)] (ivm I0) (Ps r) := by
  unfold f_M_emptyNeeded at hf
  refine Ss.of (show Ai l b 7 y_M_emptyNeeded KC RC (Ps r) I0 0 [.ref o0, .ref o1, .int (iv a2), uu, uu, uu] [] from ?_)
  refine aw_aload_n rfl rfl d_M_emptyNeeded_0 (aw_getr (r := o0 + 1) fl_M_12 h_o0 (by decide) rfl (rc_5_0 _ h_o0).1 d_M_emptyNeeded_1 (aw_aload_n rfl rfl d_M_emptyNeeded_4 ?_))
  obtain ⟨y1, I2, c3, hf⟩ := of_zb hf
  refine ai_callVv (as := [.ref o1]) (d' := 2) (q := ("SinglesUp$Hill", zT2, 14)) mo_H_copyFrom lk_M_29 (rc_5_0 _ h_o0).2 rfl rfl rfl ⟨by decide, by decide⟩ rfl rfl (by decide) d_M_emptyNeeded_5 (t_H_copyFrom fu (o0 + 1) o1 I0 hI (rc_5_0 _ h_o0).2 h_o1 c3) (fun h_I2 => ?_)
  refine aw_iconst (v := iv 0) rfl d_M_emptyNeeded_8 (aw_istore_n (lv2 := [.ref o0, .ref o1, .int (iv a2), .int (iv 0), uu, uu]) rfl (Nat.le_of_ble_eq_true rfl) rfl d_M_emptyNeeded_9 (aw_iconst (v := iv 0) rfl d_M_emptyNeeded_10 (aw_istore (lv2 := [.ref o0, .ref o1, .int (iv a2), .int (iv 0), .int (iv 0), uu]) (Nat.le_of_ble_eq_true rfl) rfl d_M_emptyNeeded_11 ?_)))
  refine aw_weakB (lv2 := [.ref o0, uu, .int (iv a2), .int (iv 0), .int (iv 0), uu]) (wk_s (wk_u (wk_s (wk_s (wk_s (wk_u wk_n)))))) ?_
  refine t_M_emptyNeeded_13 fu o0 a2 h_o0 h_a2 fu 0 0 I2 in_0 in_0 h_I2 hf
set_option maxRecDepth 20000 in
theorem t_S_needed (fu : Nat) (o0 : Nat) (a1 : Int) (I0 : IMem) (hI : RG I0) (h_o0 : KC[o0]? = some (11, 9)) (h_a1 : inr a1) {r : Int × IMem} (hf : f_S_needed fu o0 a1 I0 = some r) : Ss l b 8 y_S_needed KC RC [.ref o0, .int (iv a1)] (ivm I0) (Ps r) := by
  unfold f_S_needed at hf
  refine Ss.of (show Ai l b 8 y_S_needed KC RC (Ps r) I0 0 [.ref o0, .int (iv a1)] [] from ?_)
  refine aw_iload_n rfl rfl d_S_needed_0 (aw_iconst (v := iv 1) rfl d_S_needed_1 ?_)
  refine ai_icmp_lt h_a1 in_1 hf (tgt := 11) (by decide) d_S_needed_2 (fun hf => ?_) (fun hf => ?_)
  · refine aw_iconst (v := iv (-1)) rfl d_S_needed_11 (aw_goto (tgt := 27) (by decide) d_S_needed_12 ?_)
    exact ai_reti rfl d_S_needed_27 hf in_m1 hI
  · refine aw_iload_n rfl rfl d_S_needed_5 (aw_bipush (v := iv 40) cb_40 d_S_needed_6 ?_)
    refine ai_icmp_le h_a1 in_40 hf (tgt := 15) (by decide) d_S_needed_8 (fun hf => ?_) (fun hf => ?_)
    · refine aw_aload_n rfl rfl d_S_needed_15 (aw_getr (r := o0 + 81) fl_S_22 h_o0 (by decide) rfl (rc_8_2 _ h_o0).1 d_S_needed_16 (aw_aload_n rfl rfl d_S_needed_19 (aw_getr (r := o0 + 1) fl_S_12 h_o0 (by decide) rfl (rc_8_0 _ h_o0).1 d_S_needed_20 (aw_iload_n rfl rfl d_S_needed_23 ?_))))
      obtain ⟨y1, I2, c3, hf⟩ := of_zb hf
      refine ai_callV (as := [.ref (o0 + 1), .int (iv a1)]) (d' := 7) (q := ("SinglesUp$Mind", zT5, 3)) mo_M_emptyNeeded lk_S_240 (rc_8_2 _ h_o0).2 rfl rfl rfl ⟨by decide, by decide⟩ rfl rfl (by decide) d_S_needed_24 (t_M_emptyNeeded fu (o0 + 81) (o0 + 1) a1 I0 hI (rc_8_2 _ h_o0).2 (rc_8_0 _ h_o0).2 h_a1 c3) (fun h_y1 h_I2 => ?_)
      exact ai_reti rfl d_S_needed_27 hf h_y1 h_I2
    · refine aw_iconst (v := iv (-1)) rfl d_S_needed_11 (aw_goto (tgt := 27) (by decide) d_S_needed_12 ?_)
      exact ai_reti rfl d_S_needed_27 hf in_m1 hI
set_option maxRecDepth 20000 in
theorem t_H_pastChair (fu : Nat) (o0 : Nat) (a1 : Int) (a2 : Int) (I0 : IMem) (hI : RG I0) (h_o0 : KC[o0]? = some (5, 14)) (h_a1 : inr a1) (h_a2 : inr a2) {r : Int × IMem} (hf : f_H_pastChair fu o0 a1 a2 I0 = some r) : Ss l b 3 y_H_pastChair KC RC [.ref o0, .int (iv a1), .int (iv a2)] (ivm I0) (Ps r) := by
  unfold f_H_pastChair at hf
  refine Ss.of (show Ai l b 3 y_H_pastChair KC RC (Ps r) I0 0 [.ref o0, .int (iv a1), .int (iv a2)] [] from ?_)
  refine aw_iload_n rfl rfl d_H_pastChair_0 ?_
  refine ai_if_lt h_a2 hf (tgt := 32) (by decide) d_H_pastChair_1 (fun hf => ?_) (fun hf => ?_)
  · refine aw_iconst (v := iv (-1)) rfl d_H_pastChair_32 ?_
    exact ai_reti rfl d_H_pastChair_33 hf in_m1 hI
  · refine aw_iload_n rfl rfl d_H_pastChair_4 (aw_iconst (v := iv 3) rfl d_H_pastChair_5 ?_)
    refine ai_icmp_ge h_a2 in_3 hf (tgt := 32) (by decide) d_H_pastChair_6 (fun hf => ?_) (fun hf => ?_)
    · refine aw_iconst (v := iv (-1)) rfl d_H_pastChair_32 ?_
      exact ai_reti rfl d_H_pastChair_33 hf in_m1 hI
    · refine aw_aload_n rfl rfl d_H_pastChair_9 (aw_getr (r := o0 + 12) fl_H_43 h_o0 (by decide) rfl (rc_2_10 _ h_o0).1 d_H_pastChair_10 (aw_aload_n rfl rfl d_H_pastChair_13 (aw_getr (r := o0 + 10) fl_H_37 h_o0 (by decide) rfl (rc_2_8 _ h_o0).1 d_H_pastChair_14 (aw_iconst (v := iv 0) rfl d_H_pastChair_17 (ai_ialdc (j := 0) (rc_2_8 _ h_o0).2 (by decide) (by decide) d_H_pastChair_18 (aw_iconst (v := iv 1) rfl d_H_pastChair_19 (ai_isub d_H_pastChair_20 (aw_iload_n rfl rfl d_H_pastChair_21 (ai_isub d_H_pastChair_22 ?_)))))))))
      obtain ⟨y1, I2, c3, hf⟩ := of_zb hf
      refine ai_callS (as := [.int (iv (wr32 ((wr32 ((I0 (o0 + 10) 0) - 1)) - a1)))]) (d' := 2) mo_H_pastAt lk_H_116 rfl ⟨by decide, by decide⟩ rfl rfl (by decide) d_H_pastChair_23 (t_H_pastAt fu (wr32 ((wr32 ((I0 (o0 + 10) 0) - 1)) - a1)) I0 hI (wr32_in _) c3) (fun h_y1 h_I2 => ?_)
      refine aw_iload_n rfl rfl d_H_pastChair_26 (ai_iadd d_H_pastChair_27 ?_)
      refine ai_name hf (wr32_in _) (fun x4 h_x4 hf => ?_)
      refine ai_iald (rc_2_10 _ h_o0).2 rfl h_x4 hf d_H_pastChair_28 (fun _ hf => ?_)
      refine aw_goto (tgt := 33) (by decide) d_H_pastChair_29 ?_
      exact ai_reti rfl d_H_pastChair_33 hf (h_I2 (o0 + 12) x4.toNat) h_I2
set_option maxRecDepth 20000 in
theorem t_S_past (fu : Nat) (o0 : Nat) (a1 : Int) (a2 : Int) (I0 : IMem) (hI : RG I0) (h_o0 : KC[o0]? = some (11, 9)) (h_a1 : inr a1) (h_a2 : inr a2) {r : Int × IMem} (hf : f_S_past fu o0 a1 a2 I0 = some r) : Ss l b 4 y_S_past KC RC [.ref o0, .int (iv a1), .int (iv a2)] (ivm I0) (Ps r) := by
  unfold f_S_past at hf
  refine Ss.of (show Ai l b 4 y_S_past KC RC (Ps r) I0 0 [.ref o0, .int (iv a1), .int (iv a2), uu] [] from ?_)
  refine aw_iload_n rfl rfl d_S_past_0 ?_
  obtain ⟨k1, ek1, hf⟩ := of_zj hf
  have hk1 : ∀ (x3 : Int) (I2 : IMem), inr x3 → RG I2 → k1 x3 I2 = some r → Ai l b 4 y_S_past KC RC (Ps r) I2 37 [.ref o0, .int (iv a1), .int (iv a2), uu] [.int (iv x3)] := by
    intro x3 I2 h_x3 h_I2 hf
    subst ek1
    refine aw_istore_n (lv2 := [.ref o0, .int (iv a1), .int (iv a2), .int (iv x3)]) rfl (Nat.le_of_ble_eq_true rfl) rfl d_S_past_37 (aw_iload_n rfl rfl d_S_past_38 ?_)
    refine ai_if_eq h_x3 hf (tgt := 54) (by decide) d_S_past_39 (fun hf => ?_) (fun hf => ?_)
    · refine aw_iconst (v := iv (-1)) rfl d_S_past_54 ?_
      exact ai_reti rfl d_S_past_55 hf in_m1 h_I2
    · refine aw_aload_n rfl rfl d_S_past_42 (aw_getr (r := o0 + 1) fl_S_12 h_o0 (by decide) rfl (rc_8_0 _ h_o0).1 d_S_past_43 (aw_iload_n rfl rfl d_S_past_46 (aw_iload_n rfl rfl d_S_past_47 ?_)))
      obtain ⟨y4, I5, c6, hf⟩ := of_zb hf
      refine ai_callV (as := [.int (iv a1), .int (iv a2)]) (d' := 3) (q := ("SinglesUp$Hill", zT2, 14)) mo_H_pastChair lk_S_243 (rc_8_0 _ h_o0).2 rfl rfl rfl ⟨by decide, by decide⟩ rfl rfl (by decide) d_S_past_48 (t_H_pastChair fu (o0 + 1) a1 a2 I2 h_I2 (rc_8_0 _ h_o0).2 h_a1 h_a2 c6) (fun h_y4 h_I5 => ?_)
      refine aw_goto (tgt := 55) (by decide) d_S_past_51 ?_
      exact ai_reti rfl d_S_past_55 hf h_y4 h_I5
  refine ai_if_lt h_a1 hf (tgt := 36) (by decide) d_S_past_1 (fun hf => ?_) (fun hf => ?_)
  · refine aw_iconst (v := iv 0) rfl d_S_past_36 ?_
    exact hk1 0 I0 in_0 hI hf
  · refine aw_iload_n rfl rfl d_S_past_4 (aw_bipush (v := iv 60) cb_60 d_S_past_5 ?_)
    refine ai_icmp_ge h_a1 in_60 hf (tgt := 36) (by decide) d_S_past_7 (fun hf => ?_) (fun hf => ?_)
    · refine aw_iconst (v := iv 0) rfl d_S_past_36 ?_
      exact hk1 0 I0 in_0 hI hf
    · refine aw_iload_n rfl rfl d_S_past_10 (aw_aload_n rfl rfl d_S_past_11 (aw_getr (r := o0 + 1) fl_S_12 h_o0 (by decide) rfl (rc_8_0 _ h_o0).1 d_S_past_12 (aw_getr (r := o0 + 11) fl_S_194 ((rc_8_0 _ h_o0).2) (by decide) rfl (rc_2_8 _ (rc_8_0 _ h_o0).2).1 d_S_past_15 (aw_iconst (v := iv 0) rfl d_S_past_18 (ai_ialdc (j := 0) (rc_2_8 _ (rc_8_0 _ h_o0).2).2 (by decide) (by decide) d_S_past_19 ?_)))))
      refine ai_icmp_ge h_a1 (hI (o0 + 11) 0) hf (tgt := 36) (by decide) d_S_past_20 (fun hf => ?_) (fun hf => ?_)
      · refine aw_iconst (v := iv 0) rfl d_S_past_36 ?_
        exact hk1 0 I0 in_0 hI hf
      · refine aw_iload_n rfl rfl d_S_past_23 ?_
        refine ai_if_lt h_a2 hf (tgt := 36) (by decide) d_S_past_24 (fun hf => ?_) (fun hf => ?_)
        · refine aw_iconst (v := iv 0) rfl d_S_past_36 ?_
          exact hk1 0 I0 in_0 hI hf
        · refine aw_iload_n rfl rfl d_S_past_27 (aw_iconst (v := iv 2) rfl d_S_past_28 ?_)
          refine ai_icmp_gt h_a2 in_2 hf (tgt := 36) (by decide) d_S_past_29 (fun hf => ?_) (fun hf => ?_)
          · refine aw_iconst (v := iv 0) rfl d_S_past_36 ?_
            exact hk1 0 I0 in_0 hI hf
          · refine aw_iconst (v := iv 1) rfl d_S_past_32 (aw_goto (tgt := 37) (by decide) d_S_past_33 ?_)
            exact hk1 1 I0 in_1 hI hf
set_option maxRecDepth 20000 in
theorem t_M_bestSet_3 (fu : Nat) {r : Int × IMem} (k_124 : IMem → Res) (o0 : Nat) (o1 : Nat) (p2 : Int) (p3 : Int) (h_o0 : KC[o0]? = some (8, 3)) (h_o1 : KC[o1]? = some (5, 14)) (h_p2 : inr p2) (h_p3 : inr p3) (hk_124 : ∀ (I9 : IMem), RG I9 → k_124 I9 = some r → Ai l b 7 y_M_bestSet KC RC (Ps r) I9 124 [.ref o0, uu, uu, .int (iv p3), uu, uu, uu] []) : ∀ (m : Nat) (w4 : Int) (I0 : IMem), inr w4 → RG I0 → f_M_bestSet_3 fu k_124 o0 o1 p2 p3 m w4 I0 = some r → Ai l b 7 y_M_bestSet KC RC (Ps r) I0 3 [.ref o0, .ref o1, .int (iv p2), .int (iv p3), .int (iv w4), uu, uu] [] := by
  intro m
  induction m with
  | zero => intro w4 I0 h_w4 h_I0 hf; cases hf
  | succ m ih =>
    intro w4 I0 h_w4 h_I0 hf
    replace hf : fb_M_bestSet_3 fu k_124 o0 o1 p2 p3 (f_M_bestSet_3 fu k_124 o0 o1 p2 p3 m) w4 I0 = some r := hf
    unfold fb_M_bestSet_3 at hf
    refine aw_iload rfl d_M_bestSet_3 (aw_bipush (v := iv 16) cb_16 d_M_bestSet_5 ?_)
    refine ai_icmp_ge h_w4 in_16 hf (tgt := 124) (by decide) d_M_bestSet_7 (fun hf => ?_) (fun hf => ?_)
    · refine aw_weakB (lv2 := [.ref o0, uu, uu, .int (iv p3), uu, uu, uu]) (wk_s (wk_u (wk_u (wk_s (wk_u (wk_u (wk_u wk_n))))))) ?_
      exact hk_124 I0 h_I0 hf
    · refine aw_aload_n rfl rfl d_M_bestSet_10 (aw_getr (r := o0 + 1) fl_M_12 h_o0 (by decide) rfl (rc_5_0 _ h_o0).1 d_M_bestSet_11 (aw_aload_n rfl rfl d_M_bestSet_14 ?_))
      obtain ⟨y1, I2, c3, hf⟩ := of_zb hf
      refine ai_callVv (as := [.ref o1]) (d' := 2) (q := ("SinglesUp$Hill", zT2, 14)) mo_H_copyFrom lk_M_29 (rc_5_0 _ h_o0).2 rfl rfl rfl ⟨by decide, by decide⟩ rfl rfl (by decide) d_M_bestSet_15 (t_H_copyFrom fu (o0 + 1) o1 I0 h_I0 (rc_5_0 _ h_o0).2 h_o1 c3) (fun h_I2 => ?_)
      refine aw_aload_n rfl rfl d_M_bestSet_18 (aw_getr (r := o0 + 1) fl_M_12 h_o0 (by decide) rfl (rc_5_0 _ h_o0).1 d_M_bestSet_19 (aw_iload rfl d_M_bestSet_22 ?_))
      refine ai_puti hf h_I2 h_w4 fl_M_90 (rc_5_0 _ h_o0).2 (by decide) rfl rfl rfl rfl d_M_bestSet_24 (fun I4 h_I4 hf => ?_)
      refine aw_aload_n rfl rfl d_M_bestSet_27 (aw_getr (r := o0 + 41) fl_M_21 h_o0 (by decide) rfl (rc_5_1 _ h_o0).1 d_M_bestSet_28 (aw_aload_n rfl rfl d_M_bestSet_31 (aw_getr (r := o0 + 1) fl_M_12 h_o0 (by decide) rfl (rc_5_0 _ h_o0).1 d_M_bestSet_32 (aw_iload_n rfl rfl d_M_bestSet_35 ?_))))
      obtain ⟨y5, I6, c7, hf⟩ := of_zb hf
      refine ai_callV (as := [.ref (o0 + 1), .int (iv p2)]) (d' := 6) (q := ("SinglesUp$Chair", zT0, 12)) mo_C_turns lk_M_36 (rc_5_1 _ h_o0).2 rfl rfl rfl ⟨by decide, by decide⟩ rfl rfl (by decide) d_M_bestSet_36 (t_C_turns fu (o0 + 41) (o0 + 1) p2 I4 h_I4 (rc_5_1 _ h_o0).2 (rc_5_0 _ h_o0).2 h_p2 c7) (fun h_y5 h_I6 => ?_)
      refine aw_pop rfl d_M_bestSet_39 (aw_aload_n rfl rfl d_M_bestSet_40 (aw_aload_n rfl rfl d_M_bestSet_41 (aw_iconst (v := iv 0) rfl d_M_bestSet_42 ?_)))
      obtain ⟨y8, I9, c10, hf⟩ := of_zb hf
      refine ai_callV (as := [.ref o1, .int (iv 0)]) (d' := 3) (q := ("SinglesUp$Mind", zT5, 3)) mo_M_gained lk_M_94 h_o0 rfl rfl rfl ⟨by decide, by decide⟩ rfl rfl (by decide) d_M_bestSet_43 (t_M_gained fu o0 o1 0 I6 h_I6 h_o0 h_o1 in_0 c10) (fun h_y8 h_I9 => ?_)
      refine aw_istore (lv2 := [.ref o0, .ref o1, .int (iv p2), .int (iv p3), .int (iv w4), .int (iv y8), uu]) (Nat.le_of_ble_eq_true rfl) rfl d_M_bestSet_46 (aw_aload_n rfl rfl d_M_bestSet_48 (aw_aload_n rfl rfl d_M_bestSet_49 (aw_iconst (v := iv 2) rfl d_M_bestSet_50 ?_)))
      obtain ⟨y11, I12, c13, hf⟩ := of_zb hf
      refine ai_callV (as := [.ref o1, .int (iv 2)]) (d' := 3) (q := ("SinglesUp$Mind", zT5, 3)) mo_M_gained lk_M_94 h_o0 rfl rfl rfl ⟨by decide, by decide⟩ rfl rfl (by decide) d_M_bestSet_51 (t_M_gained fu o0 o1 2 I9 h_I9 h_o0 h_o1 in_2 c13) (fun h_y11 h_I12 => ?_)
      refine aw_istore (lv2 := [.ref o0, .ref o1, .int (iv p2), .int (iv p3), .int (iv w4), .int (iv y8), .int (iv y11)]) (Nat.le_of_ble_eq_true rfl) rfl d_M_bestSet_54 (aw_iload rfl d_M_bestSet_56 ?_)
      obtain ⟨k14, ek14, hf⟩ := of_zj hf
      have hk14 : ∀  (I15 : IMem), RG I15 → k14 I15 = some r → Ai l b 7 y_M_bestSet KC RC (Ps r) I15 118 [.ref o0, .ref o1, .int (iv p2), .int (iv p3), .int (iv w4), uu, uu] [] := by
        intro I15 h_I15 hf
        subst ek14
        refine ai_iinc (n := 1) (lv2 := fun x16 => [.ref o0, .ref o1, .int (iv p2), .int (iv p3), .int (iv x16), uu, uu]) hf rfl (Nat.le_of_ble_eq_true rfl) (fun _ => rfl) d_M_bestSet_118 (fun x16 h_x16 hf => ?_)
        refine aw_goto (tgt := 3) (by decide) d_M_bestSet_121 ?_
        exact ih x16 I15 h_x16 h_I15 hf
      obtain ⟨k17, ek17, hf⟩ := of_zj hf
      have hk17 : ∀  (I18 : IMem), RG I18 → k17 I18 = some r → Ai l b 7 y_M_bestSet KC RC (Ps r) I18 94 [.ref o0, .ref o1, .int (iv p2), .int (iv p3), .int (iv w4), .int (iv y8), .int (iv y11)] [] := by
        intro I18 h_I18 hf
        subst ek17
        refine aw_aload_n rfl rfl d_M_bestSet_94 (aw_getr (r := o0 + 48) fl_M_25 h_o0 (by decide) rfl (rc_5_2 _ h_o0).1 d_M_bestSet_95 (aw_iconst (v := iv 0) rfl d_M_bestSet_98 (aw_iload rfl d_M_bestSet_99 ?_)))
        refine ai_iastc (j := 0) (rc_5_2 _ h_o0).2 (by decide) (by decide) h_w4 h_I18 hf d_M_bestSet_101 (fun I19 h_I19 hf => ?_)
        refine aw_aload_n rfl rfl d_M_bestSet_102 (aw_getr (r := o0 + 48) fl_M_25 h_o0 (by decide) rfl (rc_5_2 _ h_o0).1 d_M_bestSet_103 (aw_iconst (v := iv 1) rfl d_M_bestSet_106 (aw_iload rfl d_M_bestSet_107 ?_)))
        refine ai_iastc (j := 1) (rc_5_2 _ h_o0).2 (by decide) (by decide) h_y8 h_I19 hf d_M_bestSet_109 (fun I20 h_I20 hf => ?_)
        refine aw_aload_n rfl rfl d_M_bestSet_110 (aw_getr (r := o0 + 48) fl_M_25 h_o0 (by decide) rfl (rc_5_2 _ h_o0).1 d_M_bestSet_111 (aw_iconst (v := iv 2) rfl d_M_bestSet_114 (aw_iload rfl d_M_bestSet_115 ?_)))
        refine ai_iastc (j := 2) (rc_5_2 _ h_o0).2 (by decide) (by decide) h_y11 h_I20 hf d_M_bestSet_117 (fun I21 h_I21 hf => ?_)
        refine aw_weakB (lv2 := [.ref o0, .ref o1, .int (iv p2), .int (iv p3), .int (iv w4), uu, uu]) (wk_s (wk_s (wk_s (wk_s (wk_s (wk_u (wk_u wk_n))))))) ?_
        exact hk14 I21 h_I21 hf
      refine ai_if_eq h_w4 hf (tgt := 94) (by decide) d_M_bestSet_58 (fun hf => ?_) (fun hf => ?_)
      · exact hk17 I12 h_I12 hf
      · refine aw_iload rfl d_M_bestSet_61 (aw_aload_n rfl rfl d_M_bestSet_63 (aw_getr (r := o0 + 48) fl_M_25 h_o0 (by decide) rfl (rc_5_2 _ h_o0).1 d_M_bestSet_64 (aw_iconst (v := iv 1) rfl d_M_bestSet_67 (ai_ialdc (j := 1) (rc_5_2 _ h_o0).2 (by decide) (by decide) d_M_bestSet_68 ?_))))
        refine ai_icmp_lt h_y8 (h_I12 (o0 + 48) 1) hf (tgt := 94) (by decide) d_M_bestSet_69 (fun hf => ?_) (fun hf => ?_)
        · exact hk17 I12 h_I12 hf
        · refine aw_iload rfl d_M_bestSet_72 (aw_aload_n rfl rfl d_M_bestSet_74 (aw_getr (r := o0 + 48) fl_M_25 h_o0 (by decide) rfl (rc_5_2 _ h_o0).1 d_M_bestSet_75 (aw_iconst (v := iv 1) rfl d_M_bestSet_78 (ai_ialdc (j := 1) (rc_5_2 _ h_o0).2 (by decide) (by decide) d_M_bestSet_79 ?_))))
          refine ai_icmp_ne h_y8 (h_I12 (o0 + 48) 1) hf (tgt := 118) (by decide) d_M_bestSet_80 (fun hf => ?_) (fun hf => ?_)
          · refine aw_weakB (lv2 := [.ref o0, .ref o1, .int (iv p2), .int (iv p3), .int (iv w4), uu, uu]) (wk_s (wk_s (wk_s (wk_s (wk_s (wk_u (wk_u wk_n))))))) ?_
            exact hk14 I12 h_I12 hf
          · refine aw_iload rfl d_M_bestSet_83 (aw_aload_n rfl rfl d_M_bestSet_85 (aw_getr (r := o0 + 48) fl_M_25 h_o0 (by decide) rfl (rc_5_2 _ h_o0).1 d_M_bestSet_86 (aw_iconst (v := iv 2) rfl d_M_bestSet_89 (ai_ialdc (j := 2) (rc_5_2 _ h_o0).2 (by decide) (by decide) d_M_bestSet_90 ?_))))
            refine ai_icmp_ge h_y11 (h_I12 (o0 + 48) 2) hf (tgt := 118) (by decide) d_M_bestSet_91 (fun hf => ?_) (fun hf => ?_)
            · refine aw_weakB (lv2 := [.ref o0, .ref o1, .int (iv p2), .int (iv p3), .int (iv w4), uu, uu]) (wk_s (wk_s (wk_s (wk_s (wk_s (wk_u (wk_u wk_n))))))) ?_
              exact hk14 I12 h_I12 hf
            · exact hk17 I12 h_I12 hf
set_option maxRecDepth 20000 in
theorem t_M_bestSet (fu : Nat) (o0 : Nat) (o1 : Nat) (a2 : Int) (a3 : Int) (I0 : IMem) (hI : RG I0) (h_o0 : KC[o0]? = some (8, 3)) (h_o1 : KC[o1]? = some (5, 14)) (h_a2 : inr a2) (h_a3 : inr a3) {r : Int × IMem} (hf : f_M_bestSet fu o0 o1 a2 a3 I0 = some r) : Ss l b 7 y_M_bestSet KC RC [.ref o0, .ref o1, .int (iv a2), .int (iv a3)] (ivm I0) (Ps r) := by
  unfold f_M_bestSet at hf
  refine Ss.of (show Ai l b 7 y_M_bestSet KC RC (Ps r) I0 0 [.ref o0, .ref o1, .int (iv a2), .int (iv a3), uu, uu, uu] [] from ?_)
  refine aw_iconst (v := iv 0) rfl d_M_bestSet_0 (aw_istore (lv2 := [.ref o0, .ref o1, .int (iv a2), .int (iv a3), .int (iv 0), uu, uu]) (Nat.le_of_ble_eq_true rfl) rfl d_M_bestSet_1 ?_)
  refine t_M_bestSet_3 fu _ o0 o1 a2 a3 h_o0 h_o1 h_a2 h_a3 ?_ fu 0 I0 in_0 hI hf
  · intro I22 h_I22 hf
    refine aw_iload_n rfl rfl d_M_bestSet_124 ?_
    refine ai_if_lt h_a3 hf (tgt := 146) (by decide) d_M_bestSet_125 (fun hf => ?_) (fun hf => ?_)
    · refine aw_iconst (v := iv (-1)) rfl d_M_bestSet_146 ?_
      exact ai_reti rfl d_M_bestSet_147 hf in_m1 h_I22
    · refine aw_iload_n rfl rfl d_M_bestSet_128 (aw_aload_n rfl rfl d_M_bestSet_129 (aw_getr (r := o0 + 48) fl_M_25 h_o0 (by decide) rfl (rc_5_2 _ h_o0).1 d_M_bestSet_130 (ai_alen (N := 3) (rc_5_2 _ h_o0).2 (by decide) rfl (by decide) d_M_bestSet_133 ?_)))
      refine ai_icmp_ge h_a3 in_3 hf (tgt := 146) (by decide) d_M_bestSet_134 (fun hf => ?_) (fun hf => ?_)
      · refine aw_iconst (v := iv (-1)) rfl d_M_bestSet_146 ?_
        exact ai_reti rfl d_M_bestSet_147 hf in_m1 h_I22
      · refine aw_aload_n rfl rfl d_M_bestSet_137 (aw_getr (r := o0 + 48) fl_M_25 h_o0 (by decide) rfl (rc_5_2 _ h_o0).1 d_M_bestSet_138 (aw_iload_n rfl rfl d_M_bestSet_141 ?_))
        refine ai_iald (rc_5_2 _ h_o0).2 rfl h_a3 hf d_M_bestSet_142 (fun _ hf => ?_)
        refine aw_goto (tgt := 147) (by decide) d_M_bestSet_143 ?_
        exact ai_reti rfl d_M_bestSet_147 hf (h_I22 (o0 + 48) a3.toNat) h_I22
set_option maxRecDepth 20000 in
theorem t_S_which (fu : Nat) (o0 : Nat) (a1 : Int) (a2 : Int) (I0 : IMem) (hI : RG I0) (h_o0 : KC[o0]? = some (11, 9)) (h_a1 : inr a1) (h_a2 : inr a2) {r : Int × IMem} (hf : f_S_which fu o0 a1 a2 I0 = some r) : Ss l b 8 y_S_which KC RC [.ref o0, .int (iv a1), .int (iv a2)] (ivm I0) (Ps r) := by
  unfold f_S_which at hf
  refine Ss.of (show Ai l b 8 y_S_which KC RC (Ps r) I0 0 [.ref o0, .int (iv a1), .int (iv a2)] [] from ?_)
  refine aw_iload_n rfl rfl d_S_which_0 (aw_iconst (v := iv 1) rfl d_S_which_1 ?_)
  refine ai_icmp_lt h_a1 in_1 hf (tgt := 20) (by decide) d_S_which_2 (fun hf => ?_) (fun hf => ?_)
  · refine aw_iconst (v := iv (-1)) rfl d_S_which_20 (aw_goto (tgt := 37) (by decide) d_S_which_21 ?_)
    exact ai_reti rfl d_S_which_37 hf in_m1 hI
  · refine aw_iload_n rfl rfl d_S_which_5 (aw_bipush (v := iv 20) cb_20 d_S_which_6 ?_)
    refine ai_icmp_gt h_a1 in_20 hf (tgt := 20) (by decide) d_S_which_8 (fun hf => ?_) (fun hf => ?_)
    · refine aw_iconst (v := iv (-1)) rfl d_S_which_20 (aw_goto (tgt := 37) (by decide) d_S_which_21 ?_)
      exact ai_reti rfl d_S_which_37 hf in_m1 hI
    · refine aw_iload_n rfl rfl d_S_which_11 ?_
      refine ai_if_lt h_a2 hf (tgt := 20) (by decide) d_S_which_12 (fun hf => ?_) (fun hf => ?_)
      · refine aw_iconst (v := iv (-1)) rfl d_S_which_20 (aw_goto (tgt := 37) (by decide) d_S_which_21 ?_)
        exact ai_reti rfl d_S_which_37 hf in_m1 hI
      · refine aw_iload_n rfl rfl d_S_which_15 (aw_iconst (v := iv 2) rfl d_S_which_16 ?_)
        refine ai_icmp_le h_a2 in_2 hf (tgt := 24) (by decide) d_S_which_17 (fun hf => ?_) (fun hf => ?_)
        · refine aw_aload_n rfl rfl d_S_which_24 (aw_getr (r := o0 + 81) fl_S_22 h_o0 (by decide) rfl (rc_8_2 _ h_o0).1 d_S_which_25 (aw_aload_n rfl rfl d_S_which_28 (aw_getr (r := o0 + 1) fl_S_12 h_o0 (by decide) rfl (rc_8_0 _ h_o0).1 d_S_which_29 (aw_iload_n rfl rfl d_S_which_32 (aw_iload_n rfl rfl d_S_which_33 ?_)))))
          obtain ⟨y1, I2, c3, hf⟩ := of_zb hf
          refine ai_callV (as := [.ref (o0 + 1), .int (iv a1), .int (iv a2)]) (d' := 7) (q := ("SinglesUp$Mind", zT5, 3)) mo_M_bestSet lk_S_246 (rc_8_2 _ h_o0).2 rfl rfl rfl ⟨by decide, by decide⟩ rfl rfl (by decide) d_S_which_34 (t_M_bestSet fu (o0 + 81) (o0 + 1) a1 a2 I0 hI (rc_8_2 _ h_o0).2 (rc_8_0 _ h_o0).2 h_a1 h_a2 c3) (fun h_y1 h_I2 => ?_)
          exact ai_reti rfl d_S_which_37 hf h_y1 h_I2
        · refine aw_iconst (v := iv (-1)) rfl d_S_which_20 (aw_goto (tgt := 37) (by decide) d_S_which_21 ?_)
          exact ai_reti rfl d_S_which_37 hf in_m1 hI
set_option maxRecDepth 20000 in
theorem t_L_rowOf_16 (fu : Nat) {r : Int × IMem} (o0 : Nat) (p1 : Int) (p2 : Int) (p3 : Int) (p6 : Int) (h_o0 : KC[o0]? = some (7, 3)) (h_p1 : inr p1) (h_p2 : inr p2) (h_p3 : inr p3) (h_p6 : inr p6) : ∀ (m : Nat) (w4 : Int) (w5 : Int) (w7 : Int) (I0 : IMem), inr w4 → inr w5 → inr w7 → RG I0 → f_L_rowOf_16 fu o0 p1 p2 p3 p6 m w4 w5 w7 I0 = some r → Ai l b 3 y_L_rowOf KC RC (Ps r) I0 16 [.ref o0, .int (iv p1), .int (iv p2), .int (iv p3), .int (iv w4), .int (iv w5), .int (iv p6), .int (iv w7), uu, uu] [] := by
  intro m
  induction m with
  | zero => intro w4 w5 w7 I0 h_w4 h_w5 h_w7 h_I0 hf; cases hf
  | succ m ih =>
    intro w4 w5 w7 I0 h_w4 h_w5 h_w7 h_I0 hf
    replace hf : fb_L_rowOf_16 fu o0 p1 p2 p3 p6 (f_L_rowOf_16 fu o0 p1 p2 p3 p6 m) w4 w5 w7 I0 = some r := hf
    unfold fb_L_rowOf_16 at hf
    refine aw_iload rfl d_L_rowOf_16 (aw_iload rfl d_L_rowOf_18 ?_)
    refine ai_icmp_ge h_w7 h_p6 hf (tgt := 121) (by decide) d_L_rowOf_20 (fun hf => ?_) (fun hf => ?_)
    · refine aw_iload rfl d_L_rowOf_121 ?_
      exact ai_reti rfl d_L_rowOf_123 hf h_w4 h_I0
    · refine aw_aload_n rfl rfl d_L_rowOf_23 (aw_iload_n rfl rfl d_L_rowOf_24 (aw_bipush (v := iv 40) cb_40 d_L_rowOf_25 (ai_imul d_L_rowOf_27 (aw_iload rfl d_L_rowOf_28 (ai_iadd d_L_rowOf_30 (aw_iconst (v := iv 1) rfl d_L_rowOf_31 ?_))))))
      obtain ⟨y4, I5, c6, hf⟩ := of_zb hf
      refine ai_callV (as := [.int (iv (wr32 ((wr32 (p1 * 40)) + w7))), .int (iv 1)]) (d' := 1) (q := ("SinglesUp$Lines", zT4, 3)) mo_L_get lk_L_53 h_o0 rfl rfl rfl ⟨by decide, by decide⟩ rfl rfl (by decide) d_L_rowOf_32 (t_L_get fu o0 (wr32 ((wr32 (p1 * 40)) + w7)) 1 I0 h_I0 h_o0 (wr32_in _) in_1 c6) (fun h_y4 h_I5 => ?_)
      refine aw_istore (lv2 := [.ref o0, .int (iv p1), .int (iv p2), .int (iv p3), .int (iv w4), .int (iv w5), .int (iv p6), .int (iv w7), .int (iv y4), uu]) (Nat.le_of_ble_eq_true rfl) rfl d_L_rowOf_35 (aw_iload rfl d_L_rowOf_37 (aw_istore (lv2 := [.ref o0, .int (iv p1), .int (iv p2), .int (iv p3), .int (iv w4), .int (iv w5), .int (iv p6), .int (iv w7), .int (iv y4), .int (iv w4)]) (Nat.le_of_ble_eq_true rfl) rfl d_L_rowOf_39 (aw_iload rfl d_L_rowOf_41 (aw_iload rfl d_L_rowOf_43 ?_))))
      obtain ⟨k7, ek7, hf⟩ := of_zj hf
      have hk7 : ∀ (x9 : Int) (x10 : Int) (x11 : Int) (I8 : IMem), inr x9 → inr x10 → inr x11 → RG I8 → k7 x9 x10 x11 I8 = some r → Ai l b 3 y_L_rowOf KC RC (Ps r) I8 106 [.ref o0, .int (iv p1), .int (iv p2), .int (iv p3), .int (iv x9), .int (iv x10), .int (iv p6), .int (iv w7), uu, .int (iv x11)] [] := by
        intro x9 x10 x11 I8 h_x9 h_x10 h_x11 h_I8 hf
        subst ek7
        refine aw_iload rfl d_L_rowOf_106 (aw_iload_n rfl rfl d_L_rowOf_108 ?_)
        refine ai_icmp_ne h_w7 h_p3 hf (tgt := 115) (by decide) d_L_rowOf_109 (fun hf => ?_) (fun hf => ?_)
        · refine ai_iinc (n := 1) (lv2 := fun x12 => [.ref o0, .int (iv p1), .int (iv p2), .int (iv p3), .int (iv x9), .int (iv x10), .int (iv p6), .int (iv x12), uu, .int (iv x11)]) hf rfl (Nat.le_of_ble_eq_true rfl) (fun _ => rfl) d_L_rowOf_115 (fun x12 h_x12 hf => ?_)
          refine aw_goto (tgt := 16) (by decide) d_L_rowOf_118 ?_
          refine aw_weakB (lv2 := [.ref o0, .int (iv p1), .int (iv p2), .int (iv p3), .int (iv x9), .int (iv x10), .int (iv p6), .int (iv x12), uu, uu]) (wk_s (wk_s (wk_s (wk_s (wk_s (wk_s (wk_s (wk_s (wk_u (wk_u wk_n)))))))))) ?_
          exact ih x9 x10 x12 I8 h_x9 h_x10 h_x12 h_I8 hf
        · refine aw_iload rfl d_L_rowOf_112 ?_
          exact ai_reti rfl d_L_rowOf_114 hf h_x11 h_I8
      refine ai_icmp_gt h_y4 h_w5 hf (tgt := 64) (by decide) d_L_rowOf_45 (fun hf => ?_) (fun hf => ?_)
      · refine aw_iload rfl d_L_rowOf_64 (aw_iload_n rfl rfl d_L_rowOf_66 ?_)
        refine ai_icmp_gt h_y4 h_p2 hf (tgt := 82) (by decide) d_L_rowOf_67 (fun hf => ?_) (fun hf => ?_)
        · refine aw_iload rfl d_L_rowOf_82 (aw_iload_n rfl rfl d_L_rowOf_84 ?_)
          refine ai_if_le h_p2 hf (tgt := 99) (by decide) d_L_rowOf_85 (fun hf => ?_) (fun hf => ?_)
          · refine aw_iconst (v := iv 0) rfl d_L_rowOf_99 (ai_iadd d_L_rowOf_100 ?_)
            refine ai_name hf (wr32_in _) (fun x13 h_x13 hf => ?_)
            refine aw_istore (lv2 := [.ref o0, .int (iv p1), .int (iv p2), .int (iv p3), .int (iv x13), .int (iv w5), .int (iv p6), .int (iv w7), .int (iv y4), .int (iv w4)]) (Nat.le_of_ble_eq_true rfl) rfl d_L_rowOf_101 ?_
            refine aw_iconst (v := iv 0) rfl d_L_rowOf_103 (aw_istore (lv2 := [.ref o0, .int (iv p1), .int (iv p2), .int (iv p3), .int (iv x13), .int (iv 0), .int (iv p6), .int (iv w7), .int (iv y4), .int (iv w4)]) (Nat.le_of_ble_eq_true rfl) rfl d_L_rowOf_104 ?_)
            refine aw_weakB (lv2 := [.ref o0, .int (iv p1), .int (iv p2), .int (iv p3), .int (iv x13), .int (iv 0), .int (iv p6), .int (iv w7), uu, .int (iv w4)]) (wk_s (wk_s (wk_s (wk_s (wk_s (wk_s (wk_s (wk_s (wk_u (wk_s wk_n)))))))))) ?_
            exact hk7 x13 0 w4 I5 h_x13 in_0 h_w4 h_I5 hf
          · refine aw_iload rfl d_L_rowOf_88 (aw_iload_n rfl rfl d_L_rowOf_90 (ai_iadd d_L_rowOf_91 (aw_iconst (v := iv 1) rfl d_L_rowOf_92 (ai_isub d_L_rowOf_93 (aw_iload_n rfl rfl d_L_rowOf_94 ?_)))))
            refine ai_idiv h_p2 hf d_L_rowOf_95 (fun _ hf => ?_)
            refine aw_goto (tgt := 100) (by decide) d_L_rowOf_96 (ai_iadd d_L_rowOf_100 ?_)
            refine ai_name hf (wr32_in _) (fun x14 h_x14 hf => ?_)
            refine aw_istore (lv2 := [.ref o0, .int (iv p1), .int (iv p2), .int (iv p3), .int (iv x14), .int (iv w5), .int (iv p6), .int (iv w7), .int (iv y4), .int (iv w4)]) (Nat.le_of_ble_eq_true rfl) rfl d_L_rowOf_101 ?_
            refine aw_iconst (v := iv 0) rfl d_L_rowOf_103 (aw_istore (lv2 := [.ref o0, .int (iv p1), .int (iv p2), .int (iv p3), .int (iv x14), .int (iv 0), .int (iv p6), .int (iv w7), .int (iv y4), .int (iv w4)]) (Nat.le_of_ble_eq_true rfl) rfl d_L_rowOf_104 ?_)
            refine aw_weakB (lv2 := [.ref o0, .int (iv p1), .int (iv p2), .int (iv p3), .int (iv x14), .int (iv 0), .int (iv p6), .int (iv w7), uu, .int (iv w4)]) (wk_s (wk_s (wk_s (wk_s (wk_s (wk_s (wk_s (wk_s (wk_u (wk_s wk_n)))))))))) ?_
            exact hk7 x14 0 w4 I5 h_x14 in_0 h_w4 h_I5 hf
        · refine ai_iinc (n := 1) (lv2 := fun x15 => [.ref o0, .int (iv p1), .int (iv p2), .int (iv p3), .int (iv x15), .int (iv w5), .int (iv p6), .int (iv w7), .int (iv y4), .int (iv w4)]) hf rfl (Nat.le_of_ble_eq_true rfl) (fun _ => rfl) d_L_rowOf_70 (fun x15 h_x15 hf => ?_)
          refine aw_iload_n rfl rfl d_L_rowOf_73 (aw_iload rfl d_L_rowOf_74 (ai_isub d_L_rowOf_76 ?_))
          refine ai_name hf (wr32_in _) (fun x16 h_x16 hf => ?_)
          refine aw_istore (lv2 := [.ref o0, .int (iv p1), .int (iv p2), .int (iv p3), .int (iv x15), .int (iv x16), .int (iv p6), .int (iv w7), .int (iv y4), .int (iv w4)]) (Nat.le_of_ble_eq_true rfl) rfl d_L_rowOf_77 ?_
          refine aw_goto (tgt := 106) (by decide) d_L_rowOf_79 ?_
          refine aw_weakB (lv2 := [.ref o0, .int (iv p1), .int (iv p2), .int (iv p3), .int (iv x15), .int (iv x16), .int (iv p6), .int (iv w7), uu, .int (iv w4)]) (wk_s (wk_s (wk_s (wk_s (wk_s (wk_s (wk_s (wk_s (wk_u (wk_s wk_n)))))))))) ?_
          exact hk7 x15 x16 w4 I5 h_x15 h_x16 h_w4 h_I5 hf
      · refine aw_iload rfl d_L_rowOf_48 (aw_iconst (v := iv 1) rfl d_L_rowOf_50 (ai_isub d_L_rowOf_51 ?_))
        refine ai_name hf (wr32_in _) (fun x17 h_x17 hf => ?_)
        refine aw_istore (lv2 := [.ref o0, .int (iv p1), .int (iv p2), .int (iv p3), .int (iv w4), .int (iv w5), .int (iv p6), .int (iv w7), .int (iv y4), .int (iv x17)]) (Nat.le_of_ble_eq_true rfl) rfl d_L_rowOf_52 ?_
        refine aw_iload rfl d_L_rowOf_54 (aw_iload rfl d_L_rowOf_56 (ai_isub d_L_rowOf_58 ?_))
        refine ai_name hf (wr32_in _) (fun x18 h_x18 hf => ?_)
        refine aw_istore (lv2 := [.ref o0, .int (iv p1), .int (iv p2), .int (iv p3), .int (iv w4), .int (iv x18), .int (iv p6), .int (iv w7), .int (iv y4), .int (iv x17)]) (Nat.le_of_ble_eq_true rfl) rfl d_L_rowOf_59 ?_
        refine aw_goto (tgt := 106) (by decide) d_L_rowOf_61 ?_
        refine aw_weakB (lv2 := [.ref o0, .int (iv p1), .int (iv p2), .int (iv p3), .int (iv w4), .int (iv x18), .int (iv p6), .int (iv w7), uu, .int (iv x17)]) (wk_s (wk_s (wk_s (wk_s (wk_s (wk_s (wk_s (wk_s (wk_u (wk_s wk_n)))))))))) ?_
        exact hk7 w4 x18 x17 I5 h_w4 h_x18 h_x17 h_I5 hf
set_option maxRecDepth 20000 in
theorem t_L_rowOf (fu : Nat) (o0 : Nat) (a1 : Int) (a2 : Int) (a3 : Int) (I0 : IMem) (hI : RG I0) (h_o0 : KC[o0]? = some (7, 3)) (h_a1 : inr a1) (h_a2 : inr a2) (h_a3 : inr a3) {r : Int × IMem} (hf : f_L_rowOf fu o0 a1 a2 a3 I0 = some r) : Ss l b 3 y_L_rowOf KC RC [.ref o0, .int (iv a1), .int (iv a2), .int (iv a3)] (ivm I0) (Ps r) := by
  unfold f_L_rowOf at hf
  refine Ss.of (show Ai l b 3 y_L_rowOf KC RC (Ps r) I0 0 [.ref o0, .int (iv a1), .int (iv a2), .int (iv a3), uu, uu, uu, uu, uu, uu] [] from ?_)
  refine aw_iconst (v := iv 0) rfl d_L_rowOf_0 (aw_istore (lv2 := [.ref o0, .int (iv a1), .int (iv a2), .int (iv a3), .int (iv 0), uu, uu, uu, uu, uu]) (Nat.le_of_ble_eq_true rfl) rfl d_L_rowOf_1 (aw_iconst (v := iv 0) rfl d_L_rowOf_3 (aw_istore (lv2 := [.ref o0, .int (iv a1), .int (iv a2), .int (iv a3), .int (iv 0), .int (iv 0), uu, uu, uu, uu]) (Nat.le_of_ble_eq_true rfl) rfl d_L_rowOf_4 (aw_aload_n rfl rfl d_L_rowOf_6 (aw_iload_n rfl rfl d_L_rowOf_7 ?_)))))
  obtain ⟨y1, I2, c3, hf⟩ := of_zb hf
  refine ai_callV (as := [.int (iv a1)]) (d' := 2) (q := ("SinglesUp$Lines", zT4, 3)) mo_L_countOf lk_L_60 h_o0 rfl rfl rfl ⟨by decide, by decide⟩ rfl rfl (by decide) d_L_rowOf_8 (t_L_countOf fu o0 a1 I0 hI h_o0 h_a1 c3) (fun h_y1 h_I2 => ?_)
  refine aw_istore (lv2 := [.ref o0, .int (iv a1), .int (iv a2), .int (iv a3), .int (iv 0), .int (iv 0), .int (iv y1), uu, uu, uu]) (Nat.le_of_ble_eq_true rfl) rfl d_L_rowOf_11 (aw_iconst (v := iv 0) rfl d_L_rowOf_13 (aw_istore (lv2 := [.ref o0, .int (iv a1), .int (iv a2), .int (iv a3), .int (iv 0), .int (iv 0), .int (iv y1), .int (iv 0), uu, uu]) (Nat.le_of_ble_eq_true rfl) rfl d_L_rowOf_14 ?_))
  refine t_L_rowOf_16 fu o0 a1 a2 a3 y1 h_o0 h_a1 h_a2 h_a3 h_y1 fu 0 0 0 I2 in_0 in_0 in_0 h_I2 hf
set_option maxRecDepth 20000 in
theorem t_S_folded (fu : Nat) (o0 : Nat) (a1 : Int) (a2 : Int) (a3 : Int) (I0 : IMem) (hI : RG I0) (h_o0 : KC[o0]? = some (11, 9)) (h_a1 : inr a1) (h_a2 : inr a2) (h_a3 : inr a3) {r : Int × IMem} (hf : f_S_folded fu o0 a1 a2 a3 I0 = some r) : Ss l b 4 y_S_folded KC RC [.ref o0, .int (iv a1), .int (iv a2), .int (iv a3)] (ivm I0) (Ps r) := by
  unfold f_S_folded at hf
  refine Ss.of (show Ai l b 4 y_S_folded KC RC (Ps r) I0 0 [.ref o0, .int (iv a1), .int (iv a2), .int (iv a3)] [] from ?_)
  refine aw_iload_n rfl rfl d_S_folded_0 ?_
  obtain ⟨y1, I2, c3, hf⟩ := of_zb hf
  refine ai_callS (as := [.int (iv a1)]) (d' := 1) mo_S_isLine lk_S_73 rfl ⟨by decide, by decide⟩ rfl rfl (by decide) d_S_folded_1 (t_S_isLine fu a1 I0 hI h_a1 c3) (fun h_y1 h_I2 => ?_)
  refine ai_if_eq h_y1 hf (tgt := 39) (by decide) d_S_folded_4 (fun hf => ?_) (fun hf => ?_)
  · refine aw_iconst (v := iv (-1)) rfl d_S_folded_39 ?_
    exact ai_reti rfl d_S_folded_40 hf in_m1 h_I2
  · refine aw_iload_n rfl rfl d_S_folded_7 (aw_iconst (v := iv 1) rfl d_S_folded_8 ?_)
    refine ai_icmp_lt h_a2 in_1 hf (tgt := 39) (by decide) d_S_folded_9 (fun hf => ?_) (fun hf => ?_)
    · refine aw_iconst (v := iv (-1)) rfl d_S_folded_39 ?_
      exact ai_reti rfl d_S_folded_40 hf in_m1 h_I2
    · refine aw_iload_n rfl rfl d_S_folded_12 (aw_bipush (v := iv 40) cb_40 d_S_folded_13 ?_)
      refine ai_icmp_gt h_a2 in_40 hf (tgt := 39) (by decide) d_S_folded_15 (fun hf => ?_) (fun hf => ?_)
      · refine aw_iconst (v := iv (-1)) rfl d_S_folded_39 ?_
        exact ai_reti rfl d_S_folded_40 hf in_m1 h_I2
      · refine aw_iload_n rfl rfl d_S_folded_18 (aw_iconst (v := iv (-1)) rfl d_S_folded_19 ?_)
        refine ai_icmp_lt h_a3 in_m1 hf (tgt := 39) (by decide) d_S_folded_20 (fun hf => ?_) (fun hf => ?_)
        · refine aw_iconst (v := iv (-1)) rfl d_S_folded_39 ?_
          exact ai_reti rfl d_S_folded_40 hf in_m1 h_I2
        · refine aw_iload_n rfl rfl d_S_folded_23 (aw_aload_n rfl rfl d_S_folded_24 (aw_getr (r := o0 + 1) fl_S_12 h_o0 (by decide) rfl (rc_8_0 _ h_o0).1 d_S_folded_25 (aw_getr (r := o0 + 7) fl_S_77 ((rc_8_0 _ h_o0).2) (by decide) rfl (rc_2_5 _ (rc_8_0 _ h_o0).2).1 d_S_folded_28 (aw_getr (r := o0 + 9) fl_S_166 ((rc_2_5 _ (rc_8_0 _ h_o0).2).2) (by decide) rfl (rc_4_1 _ (rc_2_5 _ (rc_8_0 _ h_o0).2).2).1 d_S_folded_31 (aw_iload_n rfl rfl d_S_folded_34 ?_)))))
          refine ai_iald (rc_4_1 _ (rc_2_5 _ (rc_8_0 _ h_o0).2).2).2 rfl h_a1 hf d_S_folded_35 (fun _ hf => ?_)
          refine ai_icmp_lt h_a3 (h_I2 (o0 + 9) a1.toNat) hf (tgt := 41) (by decide) d_S_folded_36 (fun hf => ?_) (fun hf => ?_)
          · refine aw_aload_n rfl rfl d_S_folded_41 (aw_getr (r := o0 + 1) fl_S_12 h_o0 (by decide) rfl (rc_8_0 _ h_o0).1 d_S_folded_42 (aw_getr (r := o0 + 7) fl_S_77 ((rc_8_0 _ h_o0).2) (by decide) rfl (rc_2_5 _ (rc_8_0 _ h_o0).2).1 d_S_folded_45 (aw_iload_n rfl rfl d_S_folded_48 (aw_iload_n rfl rfl d_S_folded_49 (aw_iload_n rfl rfl d_S_folded_50 ?_)))))
            obtain ⟨y4, I5, c6, hf⟩ := of_zb hf
            refine ai_callV (as := [.int (iv a1), .int (iv a2), .int (iv a3)]) (d' := 3) (q := ("SinglesUp$Lines", zT4, 3)) mo_L_rowOf lk_S_249 (rc_2_5 _ (rc_8_0 _ h_o0).2).2 rfl rfl rfl ⟨by decide, by decide⟩ rfl rfl (by decide) d_S_folded_51 (t_L_rowOf fu (o0 + 7) a1 a2 a3 I2 h_I2 (rc_2_5 _ (rc_8_0 _ h_o0).2).2 h_a1 h_a2 h_a3 c6) (fun h_y4 h_I5 => ?_)
            exact ai_reti rfl d_S_folded_54 hf h_y4 h_I5
          · refine aw_iconst (v := iv (-1)) rfl d_S_folded_39 ?_
            exact ai_reti rfl d_S_folded_40 hf in_m1 h_I2
set_option maxRecDepth 20000 in
theorem t_S_image (fu : Nat) (o0 : Nat) (a1 : Int) (I0 : IMem) (hI : RG I0) (h_o0 : KC[o0]? = some (11, 9)) (h_a1 : inr a1) {r : Int × IMem} (hf : f_S_image fu o0 a1 I0 = some r) : Ss l b 4 y_S_image KC RC [.ref o0, .int (iv a1)] (ivm I0) (Ps r) := by
  unfold f_S_image at hf
  refine Ss.of (show Ai l b 4 y_S_image KC RC (Ps r) I0 0 [.ref o0, .int (iv a1)] [] from ?_)
  refine aw_iload_n rfl rfl d_S_image_0 ?_
  refine ai_if_eq h_a1 hf (tgt := 23) (by decide) d_S_image_1 (fun hf => ?_) (fun hf => ?_)
  · refine aw_aload_n rfl rfl d_S_image_23 (ai_geti fl_S_255 h_o0 (by decide) rfl d_S_image_24 ?_)
    refine ai_if_eq (hI o0 8) hf (tgt := 45) (by decide) d_S_image_27 (fun hf => ?_) (fun hf => ?_)
    · refine aw_aload_n rfl rfl d_S_image_45 (ai_geti fl_S_255 h_o0 (by decide) rfl d_S_image_46 ?_)
      obtain ⟨g, hf⟩ := of_zg hf
      exact ai_retn rfl (nar_z g) d_S_image_49 hf (hI o0 8) hI
    · refine aw_aload_n rfl rfl d_S_image_30 (aw_getr (r := o0 + 1) fl_S_12 h_o0 (by decide) rfl (rc_8_0 _ h_o0).1 d_S_image_31 (aw_aload_n rfl rfl d_S_image_34 (aw_getr (r := o0 + 41) fl_S_16 h_o0 (by decide) rfl (rc_8_1 _ h_o0).1 d_S_image_35 ?_)))
      obtain ⟨y1, I2, c3, hf⟩ := of_zb hf
      refine ai_callVv (as := [.ref (o0 + 41)]) (d' := 2) (q := ("SinglesUp$Hill", zT2, 14)) mo_H_copyFrom lk_S_252 (rc_8_0 _ h_o0).2 rfl rfl rfl ⟨by decide, by decide⟩ rfl rfl (by decide) d_S_image_38 (t_H_copyFrom fu (o0 + 1) (o0 + 41) I0 hI (rc_8_0 _ h_o0).2 (rc_8_1 _ h_o0).2 c3) (fun h_I2 => ?_)
      refine aw_aload_n rfl rfl d_S_image_41 ?_
      obtain ⟨y4, I5, c6, hf⟩ := of_zb hf
      refine ai_callVv (as := []) (d' := 3) (q := ("SinglesUp", zT8, 9)) mo_S_dropPicked lk_S_181 h_o0 rfl rfl rfl ⟨by decide, by decide⟩ rfl rfl (by decide) d_S_image_42 (t_S_dropPicked fu o0 I2 h_I2 h_o0 c6) (fun h_I5 => ?_)
      refine aw_aload_n rfl rfl d_S_image_45 (ai_geti fl_S_255 h_o0 (by decide) rfl d_S_image_46 ?_)
      obtain ⟨g, hf⟩ := of_zg hf
      exact ai_retn rfl (nar_z g) d_S_image_49 hf (h_I5 o0 8) h_I5
  · refine aw_aload_n rfl rfl d_S_image_4 (aw_getr (r := o0 + 41) fl_S_16 h_o0 (by decide) rfl (rc_8_1 _ h_o0).1 d_S_image_5 (aw_aload_n rfl rfl d_S_image_8 (aw_getr (r := o0 + 1) fl_S_12 h_o0 (by decide) rfl (rc_8_0 _ h_o0).1 d_S_image_9 ?_)))
    obtain ⟨y7, I8, c9, hf⟩ := of_zb hf
    refine ai_callVv (as := [.ref (o0 + 1)]) (d' := 2) (q := ("SinglesUp$Hill", zT2, 14)) mo_H_copyFrom lk_S_252 (rc_8_1 _ h_o0).2 rfl rfl rfl ⟨by decide, by decide⟩ rfl rfl (by decide) d_S_image_12 (t_H_copyFrom fu (o0 + 41) (o0 + 1) I0 hI (rc_8_1 _ h_o0).2 (rc_8_0 _ h_o0).2 c9) (fun h_I8 => ?_)
    refine aw_aload_n rfl rfl d_S_image_15 (aw_iconst (v := iv 1) rfl d_S_image_16 ?_)
    refine ai_puti hf h_I8 in_1 fl_S_255 h_o0 (by decide) rfl (nar_z (Or.inr rfl)) (fit_z (Or.inr rfl)) rfl d_S_image_17 (fun I10 h_I10 hf => ?_)
    refine aw_goto (tgt := 45) (by decide) d_S_image_20 (aw_aload_n rfl rfl d_S_image_45 (ai_geti fl_S_255 h_o0 (by decide) rfl d_S_image_46 ?_))
    obtain ⟨g, hf⟩ := of_zg hf
    exact ai_retn rfl (nar_z g) d_S_image_49 hf (h_I10 o0 8) h_I10
set_option maxRecDepth 20000 in
theorem t_S_told (fu : Nat) (o0 : Nat) (a1 : Int) (I0 : IMem) (hI : RG I0) (h_o0 : KC[o0]? = some (11, 9)) (h_a1 : inr a1) {r : Int × IMem} (hf : f_S_told fu o0 a1 I0 = some r) : Ss l b 1 y_S_told KC RC [.ref o0, .int (iv a1)] (ivm I0) (Ps r) := by
  unfold f_S_told at hf
  refine Ss.of (show Ai l b 1 y_S_told KC RC (Ps r) I0 0 [.ref o0, .int (iv a1)] [] from ?_)
  refine aw_iload_n rfl rfl d_S_told_0 ?_
  obtain ⟨k1, ek1, hf⟩ := of_zj hf
  have hk1 : ∀  (I2 : IMem), RG I2 → k1 I2 = some r → Ai l b 1 y_S_told KC RC (Ps r) I2 19 [.ref o0, .int (iv a1)] [] := by
    intro I2 h_I2 hf
    subst ek1
    refine aw_iload_n rfl rfl d_S_told_19 ?_
    rcases of_ite hf with ⟨q3, hf⟩ | ⟨q3, hf⟩
    · refine ai_tabIn 0 h_a1 q3 (by decide) rfl (tgt := 48) (by decide) d_S_told_20 ?_
      refine aw_aload_n rfl rfl d_S_told_48 (aw_getr (r := o0 + 137) fl_S_33 h_o0 (by decide) rfl (rc_8_4 _ h_o0).1 d_S_told_49 (ai_geti fl_S_259 (rc_8_4 _ h_o0).2 (by decide) rfl d_S_told_52 ?_))
      exact ai_reti rfl d_S_told_55 hf (h_I2 (o0 + 137) 8) h_I2
    rcases of_ite hf with ⟨q4, hf⟩ | ⟨q4, hf⟩
    · refine ai_tabIn 1 h_a1 q4 (by decide) rfl (tgt := 56) (by decide) d_S_told_20 ?_
      refine aw_aload_n rfl rfl d_S_told_56 (aw_getr (r := o0 + 1) fl_S_12 h_o0 (by decide) rfl (rc_8_0 _ h_o0).1 d_S_told_57 (ai_geti fl_S_262 (rc_8_0 _ h_o0).2 (by decide) rfl d_S_told_60 ?_))
      exact ai_reti rfl d_S_told_63 hf (h_I2 (o0 + 1) 7) h_I2
    rcases of_ite hf with ⟨q5, hf⟩ | ⟨q5, hf⟩
    · refine ai_tabIn 2 h_a1 q5 (by decide) rfl (tgt := 64) (by decide) d_S_told_20 ?_
      refine aw_aload_n rfl rfl d_S_told_64 (aw_getr (r := o0 + 1) fl_S_12 h_o0 (by decide) rfl (rc_8_0 _ h_o0).1 d_S_told_65 (ai_geti fl_S_57 (rc_8_0 _ h_o0).2 (by decide) rfl d_S_told_68 ?_))
      exact ai_reti rfl d_S_told_71 hf (h_I2 (o0 + 1) 6) h_I2
    by_cases qr : a1 < 6 ∨ 8 < a1
    · refine ai_tabOut h_a1 qr (tgt := 72) (by decide) d_S_told_20 ?_
      refine aw_iconst (v := iv (-1)) rfl d_S_told_72 ?_
      exact ai_reti rfl d_S_told_73 hf in_m1 h_I2
    exact absurd qr (by omega)
  refine ai_if_lt h_a1 hf (tgt := 19) (by decide) d_S_told_1 (fun hf => ?_) (fun hf => ?_)
  · exact hk1 I0 hI hf
  · refine aw_iload_n rfl rfl d_S_told_4 (aw_iconst (v := iv 5) rfl d_S_told_5 ?_)
    refine ai_icmp_gt h_a1 in_5 hf (tgt := 19) (by decide) d_S_told_6 (fun hf => ?_) (fun hf => ?_)
    · exact hk1 I0 hI hf
    · refine aw_aload_n rfl rfl d_S_told_9 (aw_getr (r := o0 + 1) fl_S_12 h_o0 (by decide) rfl (rc_8_0 _ h_o0).1 d_S_told_10 (aw_getr (r := o0 + 2) fl_S_65 ((rc_8_0 _ h_o0).2) (by decide) rfl (rc_2_0 _ (rc_8_0 _ h_o0).2).1 d_S_told_13 (aw_iload_n rfl rfl d_S_told_16 ?_)))
      refine ai_iald (rc_2_0 _ (rc_8_0 _ h_o0).2).2 rfl h_a1 hf d_S_told_17 (fun _ hf => ?_)
      exact ai_reti rfl d_S_told_18 hf (hI (o0 + 2) a1.toNat) hI
end
