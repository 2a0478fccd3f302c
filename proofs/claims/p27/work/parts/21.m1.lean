/-! the reference: shallow functions and the machine -/
abbrev y_X_any : MI := (⟨"SinglesUpModel", "any", "()Z"⟩, prog_11_method_29_code, 1, some .boolean)
abbrev y_X_every : MI := (⟨"SinglesUpModel", "every", "()Z"⟩, prog_11_method_30_code, 1, some .boolean)
abbrev y_X_one : MI := (⟨"SinglesUpModel", "one", "()Z"⟩, prog_11_method_31_code, 2, some .boolean)
theorem ck_X_any_0 : (y_X_any.2.1.data.toList.drop 0).take 32 = [42, 182, 0, 226, 154, 0, 5, 3, 172, 42, 180, 0, 178, 7, 160, 0, 26, 42, 182, 0, 202, 42, 182, 0, 226, 154, 0, 5, 3, 172, 42, 16] := by decide +kernel
theorem d_X_any_0 : decode y_X_any.2.1 0 = .ok (.aload_n 0, 1) := op_aload_n0 (gk (k := 0) (t := 0) ck_X_any_0 rfl)
theorem lk_X_226 : LkV "SinglesUpModel" 226 y_X_every := ⟨tw_c6 138 (by decide +kernel) rfl, tw_in 55 (by decide +kernel) rfl, Or.inl (tw_c6 136 (by decide +kernel) rfl)⟩
set_option maxRecDepth 100000 in
theorem mo_X_every : MOk y_X_every 0 := ⟨by decide +kernel, tw_c6 139 rfl rfl, tw_c1 12 (by decide +kernel) rfl, by decide +kernel, by decide +kernel, by decide +kernel⟩
theorem d_X_any_1 : decode y_X_any.2.1 1 = .ok (.invokevirtual 226, 3) := op_invokevirtual (gk (k := 0) (t := 1) ck_X_any_0 rfl) (gk (k := 0) (t := 2) ck_X_any_0 rfl) (gk (k := 0) (t := 3) ck_X_any_0 rfl) rfl
theorem d_X_any_4 : decode y_X_any.2.1 4 = .ok (.ifCond .ne 5, 3) := op_if_ne (gk (k := 0) (t := 4) ck_X_any_0 rfl) (gk (k := 0) (t := 5) ck_X_any_0 rfl) (gk (k := 0) (t := 6) ck_X_any_0 rfl) (by decide +kernel)
theorem d_X_any_9 : decode y_X_any.2.1 9 = .ok (.aload_n 0, 1) := op_aload_n0 (gk (k := 0) (t := 9) ck_X_any_0 rfl)
theorem d_X_any_10 : decode y_X_any.2.1 10 = .ok (.getfield 178, 3) := op_getfield (gk (k := 0) (t := 10) ck_X_any_0 rfl) (gk (k := 0) (t := 11) ck_X_any_0 rfl) (gk (k := 0) (t := 12) ck_X_any_0 rfl) rfl
theorem d_X_any_13 : decode y_X_any.2.1 13 = .ok (.iconst 4, 1) := op_iconst4 (gk (k := 0) (t := 13) ck_X_any_0 rfl)
theorem d_X_any_14 : decode y_X_any.2.1 14 = .ok (.if_icmp .ne 26, 3) := op_icmp_ne (gk (k := 0) (t := 14) ck_X_any_0 rfl) (gk (k := 0) (t := 15) ck_X_any_0 rfl) (gk (k := 0) (t := 16) ck_X_any_0 rfl) (by decide +kernel)
theorem ck_X_any_1 : (y_X_any.2.1.data.toList.drop 32).take 32 = [21, 3, 182, 0, 215, 167, 255, 228, 4, 172] := by decide +kernel
theorem d_X_any_40 : decode y_X_any.2.1 40 = .ok (.iconst 1, 1) := op_iconst1 (gk (k := 32) (t := 8) ck_X_any_1 rfl)
theorem d_X_any_41 : decode y_X_any.2.1 41 = .ok (.ireturn, 1) := op_ireturn (gk (k := 32) (t := 9) ck_X_any_1 rfl)
theorem d_X_any_17 : decode y_X_any.2.1 17 = .ok (.aload_n 0, 1) := op_aload_n0 (gk (k := 0) (t := 17) ck_X_any_0 rfl)
theorem d_X_any_18 : decode y_X_any.2.1 18 = .ok (.invokevirtual 202, 3) := op_invokevirtual (gk (k := 0) (t := 18) ck_X_any_0 rfl) (gk (k := 0) (t := 19) ck_X_any_0 rfl) (gk (k := 0) (t := 20) ck_X_any_0 rfl) rfl
theorem d_X_any_21 : decode y_X_any.2.1 21 = .ok (.aload_n 0, 1) := op_aload_n0 (gk (k := 0) (t := 21) ck_X_any_0 rfl)
theorem d_X_any_22 : decode y_X_any.2.1 22 = .ok (.invokevirtual 226, 3) := op_invokevirtual (gk (k := 0) (t := 22) ck_X_any_0 rfl) (gk (k := 0) (t := 23) ck_X_any_0 rfl) (gk (k := 0) (t := 24) ck_X_any_0 rfl) rfl
theorem d_X_any_25 : decode y_X_any.2.1 25 = .ok (.ifCond .ne 5, 3) := op_if_ne (gk (k := 0) (t := 25) ck_X_any_0 rfl) (gk (k := 0) (t := 26) ck_X_any_0 rfl) (gk (k := 0) (t := 27) ck_X_any_0 rfl) (by decide +kernel)
theorem d_X_any_30 : decode y_X_any.2.1 30 = .ok (.aload_n 0, 1) := op_aload_n0 (gk (k := 0) (t := 30) ck_X_any_0 rfl)
theorem cb_21 : (Int8.ofInt 21).toInt32 = iv 21 := by decide +kernel
theorem d_X_any_31 : decode y_X_any.2.1 31 = .ok (.bipush 21, 2) := op_bipush (gk (k := 0) (t := 31) ck_X_any_0 rfl) (gk (k := 32) (t := 0) ck_X_any_1 rfl) rfl
theorem d_X_any_33 : decode y_X_any.2.1 33 = .ok (.iconst 0, 1) := op_iconst0 (gk (k := 32) (t := 1) ck_X_any_1 rfl)
theorem in_21 : inr (21) := lit_in rfl
theorem d_X_any_34 : decode y_X_any.2.1 34 = .ok (.invokevirtual 215, 3) := op_invokevirtual (gk (k := 32) (t := 2) ck_X_any_1 rfl) (gk (k := 32) (t := 3) ck_X_any_1 rfl) (gk (k := 32) (t := 4) ck_X_any_1 rfl) rfl
theorem d_X_any_37 : decode y_X_any.2.1 37 = .ok (.goto (-28), 3) := op_goto (gk (k := 32) (t := 5) ck_X_any_1 rfl) (gk (k := 32) (t := 6) ck_X_any_1 rfl) (gk (k := 32) (t := 7) ck_X_any_1 rfl) (by decide +kernel)
theorem d_X_any_28 : decode y_X_any.2.1 28 = .ok (.iconst 0, 1) := op_iconst0 (gk (k := 0) (t := 28) ck_X_any_0 rfl)
theorem d_X_any_29 : decode y_X_any.2.1 29 = .ok (.ireturn, 1) := op_ireturn (gk (k := 0) (t := 29) ck_X_any_0 rfl)
theorem d_X_any_7 : decode y_X_any.2.1 7 = .ok (.iconst 0, 1) := op_iconst0 (gk (k := 0) (t := 7) ck_X_any_0 rfl)
theorem d_X_any_8 : decode y_X_any.2.1 8 = .ok (.ireturn, 1) := op_ireturn (gk (k := 0) (t := 8) ck_X_any_0 rfl)
theorem ck_X_every_0 : (y_X_every.2.1.data.toList.drop 0).take 32 = [42, 182, 0, 229, 154, 0, 5, 3, 172, 42, 180, 0, 178, 8, 160, 0, 26, 42, 182, 0, 202, 42, 182, 0, 229, 154, 0, 5, 3, 172, 42, 16] := by decide +kernel
theorem d_X_every_0 : decode y_X_every.2.1 0 = .ok (.aload_n 0, 1) := op_aload_n0 (gk (k := 0) (t := 0) ck_X_every_0 rfl)
theorem lk_X_229 : LkV "SinglesUpModel" 229 y_X_one := ⟨tw_c6 142 (by decide +kernel) rfl, tw_in 56 (by decide +kernel) rfl, Or.inl (tw_c6 140 (by decide +kernel) rfl)⟩
set_option maxRecDepth 100000 in
theorem mo_X_one : MOk y_X_one 0 := ⟨by decide +kernel, tw_c6 143 rfl rfl, tw_c1 12 (by decide +kernel) rfl, by decide +kernel, by decide +kernel, by decide +kernel⟩
theorem d_X_every_1 : decode y_X_every.2.1 1 = .ok (.invokevirtual 229, 3) := op_invokevirtual (gk (k := 0) (t := 1) ck_X_every_0 rfl) (gk (k := 0) (t := 2) ck_X_every_0 rfl) (gk (k := 0) (t := 3) ck_X_every_0 rfl) rfl
theorem d_X_every_4 : decode y_X_every.2.1 4 = .ok (.ifCond .ne 5, 3) := op_if_ne (gk (k := 0) (t := 4) ck_X_every_0 rfl) (gk (k := 0) (t := 5) ck_X_every_0 rfl) (gk (k := 0) (t := 6) ck_X_every_0 rfl) (by decide +kernel)
theorem d_X_every_9 : decode y_X_every.2.1 9 = .ok (.aload_n 0, 1) := op_aload_n0 (gk (k := 0) (t := 9) ck_X_every_0 rfl)
theorem d_X_every_10 : decode y_X_every.2.1 10 = .ok (.getfield 178, 3) := op_getfield (gk (k := 0) (t := 10) ck_X_every_0 rfl) (gk (k := 0) (t := 11) ck_X_every_0 rfl) (gk (k := 0) (t := 12) ck_X_every_0 rfl) rfl
theorem d_X_every_13 : decode y_X_every.2.1 13 = .ok (.iconst 5, 1) := op_iconst5 (gk (k := 0) (t := 13) ck_X_every_0 rfl)
theorem d_X_every_14 : decode y_X_every.2.1 14 = .ok (.if_icmp .ne 26, 3) := op_icmp_ne (gk (k := 0) (t := 14) ck_X_every_0 rfl) (gk (k := 0) (t := 15) ck_X_every_0 rfl) (gk (k := 0) (t := 16) ck_X_every_0 rfl) (by decide +kernel)
theorem ck_X_every_1 : (y_X_every.2.1.data.toList.drop 32).take 32 = [20, 3, 182, 0, 215, 167, 255, 228, 4, 172] := by decide +kernel
theorem d_X_every_40 : decode y_X_every.2.1 40 = .ok (.iconst 1, 1) := op_iconst1 (gk (k := 32) (t := 8) ck_X_every_1 rfl)
theorem d_X_every_41 : decode y_X_every.2.1 41 = .ok (.ireturn, 1) := op_ireturn (gk (k := 32) (t := 9) ck_X_every_1 rfl)
theorem d_X_every_17 : decode y_X_every.2.1 17 = .ok (.aload_n 0, 1) := op_aload_n0 (gk (k := 0) (t := 17) ck_X_every_0 rfl)
theorem d_X_every_18 : decode y_X_every.2.1 18 = .ok (.invokevirtual 202, 3) := op_invokevirtual (gk (k := 0) (t := 18) ck_X_every_0 rfl) (gk (k := 0) (t := 19) ck_X_every_0 rfl) (gk (k := 0) (t := 20) ck_X_every_0 rfl) rfl
theorem d_X_every_21 : decode y_X_every.2.1 21 = .ok (.aload_n 0, 1) := op_aload_n0 (gk (k := 0) (t := 21) ck_X_every_0 rfl)
theorem d_X_every_22 : decode y_X_every.2.1 22 = .ok (.invokevirtual 229, 3) := op_invokevirtual (gk (k := 0) (t := 22) ck_X_every_0 rfl) (gk (k := 0) (t := 23) ck_X_every_0 rfl) (gk (k := 0) (t := 24) ck_X_every_0 rfl) rfl
theorem d_X_every_25 : decode y_X_every.2.1 25 = .ok (.ifCond .ne 5, 3) := op_if_ne (gk (k := 0) (t := 25) ck_X_every_0 rfl) (gk (k := 0) (t := 26) ck_X_every_0 rfl) (gk (k := 0) (t := 27) ck_X_every_0 rfl) (by decide +kernel)
theorem d_X_every_30 : decode y_X_every.2.1 30 = .ok (.aload_n 0, 1) := op_aload_n0 (gk (k := 0) (t := 30) ck_X_every_0 rfl)
theorem d_X_every_31 : decode y_X_every.2.1 31 = .ok (.bipush 20, 2) := op_bipush (gk (k := 0) (t := 31) ck_X_every_0 rfl) (gk (k := 32) (t := 0) ck_X_every_1 rfl) rfl
theorem d_X_every_33 : decode y_X_every.2.1 33 = .ok (.iconst 0, 1) := op_iconst0 (gk (k := 32) (t := 1) ck_X_every_1 rfl)
theorem d_X_every_34 : decode y_X_every.2.1 34 = .ok (.invokevirtual 215, 3) := op_invokevirtual (gk (k := 32) (t := 2) ck_X_every_1 rfl) (gk (k := 32) (t := 3) ck_X_every_1 rfl) (gk (k := 32) (t := 4) ck_X_every_1 rfl) rfl
theorem d_X_every_37 : decode y_X_every.2.1 37 = .ok (.goto (-28), 3) := op_goto (gk (k := 32) (t := 5) ck_X_every_1 rfl) (gk (k := 32) (t := 6) ck_X_every_1 rfl) (gk (k := 32) (t := 7) ck_X_every_1 rfl) (by decide +kernel)
theorem d_X_every_28 : decode y_X_every.2.1 28 = .ok (.iconst 0, 1) := op_iconst0 (gk (k := 0) (t := 28) ck_X_every_0 rfl)
theorem d_X_every_29 : decode y_X_every.2.1 29 = .ok (.ireturn, 1) := op_ireturn (gk (k := 0) (t := 29) ck_X_every_0 rfl)
theorem d_X_every_7 : decode y_X_every.2.1 7 = .ok (.iconst 0, 1) := op_iconst0 (gk (k := 0) (t := 7) ck_X_every_0 rfl)
theorem d_X_every_8 : decode y_X_every.2.1 8 = .ok (.ireturn, 1) := op_ireturn (gk (k := 0) (t := 8) ck_X_every_0 rfl)
theorem ck_X_one_0 : (y_X_one.2.1.data.toList.drop 0).take 32 = [42, 180, 0, 178, 16, 6, 160, 0, 38, 42, 182, 0, 232, 153, 0, 10, 42, 182, 0, 229, 154, 0, 5, 3, 172, 42, 89, 180, 0, 208, 4, 100] := by decide +kernel
theorem d_X_one_0 : decode y_X_one.2.1 0 = .ok (.aload_n 0, 1) := op_aload_n0 (gk (k := 0) (t := 0) ck_X_one_0 rfl)
theorem d_X_one_1 : decode y_X_one.2.1 1 = .ok (.getfield 178, 3) := op_getfield (gk (k := 0) (t := 1) ck_X_one_0 rfl) (gk (k := 0) (t := 2) ck_X_one_0 rfl) (gk (k := 0) (t := 3) ck_X_one_0 rfl) rfl
theorem d_X_one_4 : decode y_X_one.2.1 4 = .ok (.bipush 6, 2) := op_bipush (gk (k := 0) (t := 4) ck_X_one_0 rfl) (gk (k := 0) (t := 5) ck_X_one_0 rfl) rfl
theorem d_X_one_6 : decode y_X_one.2.1 6 = .ok (.if_icmp .ne 38, 3) := op_icmp_ne (gk (k := 0) (t := 6) ck_X_one_0 rfl) (gk (k := 0) (t := 7) ck_X_one_0 rfl) (gk (k := 0) (t := 8) ck_X_one_0 rfl) (by decide +kernel)
theorem ck_X_one_1 : (y_X_one.2.1.data.toList.drop 32).take 32 = [181, 0, 208, 42, 16, 19, 3, 182, 0, 215, 4, 172, 42, 180, 0, 178, 17, 0, 140, 160, 0, 41, 42, 182, 0, 232, 153, 0, 20, 42, 182, 0] := by decide +kernel
theorem d_X_one_44 : decode y_X_one.2.1 44 = .ok (.aload_n 0, 1) := op_aload_n0 (gk (k := 32) (t := 12) ck_X_one_1 rfl)
theorem d_X_one_45 : decode y_X_one.2.1 45 = .ok (.getfield 178, 3) := op_getfield (gk (k := 32) (t := 13) ck_X_one_1 rfl) (gk (k := 32) (t := 14) ck_X_one_1 rfl) (gk (k := 32) (t := 15) ck_X_one_1 rfl) rfl
theorem cs_140 : (Int16.ofInt 140).toInt32 = iv 140 := by decide +kernel
theorem d_X_one_48 : decode y_X_one.2.1 48 = .ok (.sipush 140, 3) := op_sipush (gk (k := 32) (t := 16) ck_X_one_1 rfl) (gk (k := 32) (t := 17) ck_X_one_1 rfl) (gk (k := 32) (t := 18) ck_X_one_1 rfl) (by decide +kernel)
theorem in_140 : inr (140) := lit_in rfl
theorem d_X_one_51 : decode y_X_one.2.1 51 = .ok (.if_icmp .ne 41, 3) := op_icmp_ne (gk (k := 32) (t := 19) ck_X_one_1 rfl) (gk (k := 32) (t := 20) ck_X_one_1 rfl) (gk (k := 32) (t := 21) ck_X_one_1 rfl) (by decide +kernel)
theorem ck_X_one_2 : (y_X_one.2.1.data.toList.drop 64).take 32 = [235, 153, 0, 13, 42, 17, 0, 141, 182, 0, 238, 154, 0, 5, 3, 172, 42, 89, 180, 0, 208, 4, 100, 181, 0, 208, 4, 172, 42, 182, 0, 241] := by decide +kernel
theorem d_X_one_92 : decode y_X_one.2.1 92 = .ok (.aload_n 0, 1) := op_aload_n0 (gk (k := 64) (t := 28) ck_X_one_2 rfl)
theorem lk_X_241 : LkV "SinglesUpModel" 241 y_X_sumUp := ⟨tw_c6 114 (by decide +kernel) rfl, tw_in 49 (by decide +kernel) rfl, Or.inl (tw_c6 112 (by decide +kernel) rfl)⟩
set_option maxRecDepth 100000 in
theorem mo_X_sumUp : MOk y_X_sumUp 0 := ⟨by decide +kernel, tw_c6 115 rfl rfl, tw_c1 12 (by decide +kernel) rfl, by decide +kernel, by decide +kernel, by decide +kernel⟩
theorem d_X_one_93 : decode y_X_one.2.1 93 = .ok (.invokevirtual 241, 3) := op_invokevirtual (gk (k := 64) (t := 29) ck_X_one_2 rfl) (gk (k := 64) (t := 30) ck_X_one_2 rfl) (gk (k := 64) (t := 31) ck_X_one_2 rfl) rfl
theorem ck_X_one_3 : (y_X_one.2.1.data.toList.drop 96).take 32 = [154, 0, 5, 3, 172, 42, 180, 0, 178, 17, 0, 160, 160, 0, 8, 16, 16, 167, 0, 34, 42, 180, 0, 178, 17, 0, 161, 160, 0, 8, 16, 17] := by decide +kernel
theorem d_X_one_96 : decode y_X_one.2.1 96 = .ok (.ifCond .ne 5, 3) := op_if_ne (gk (k := 96) (t := 0) ck_X_one_3 rfl) (gk (k := 96) (t := 1) ck_X_one_3 rfl) (gk (k := 96) (t := 2) ck_X_one_3 rfl) (by decide +kernel)
theorem d_X_one_101 : decode y_X_one.2.1 101 = .ok (.aload_n 0, 1) := op_aload_n0 (gk (k := 96) (t := 5) ck_X_one_3 rfl)
theorem d_X_one_102 : decode y_X_one.2.1 102 = .ok (.getfield 178, 3) := op_getfield (gk (k := 96) (t := 6) ck_X_one_3 rfl) (gk (k := 96) (t := 7) ck_X_one_3 rfl) (gk (k := 96) (t := 8) ck_X_one_3 rfl) rfl
theorem cs_160 : (Int16.ofInt 160).toInt32 = iv 160 := by decide +kernel
theorem d_X_one_105 : decode y_X_one.2.1 105 = .ok (.sipush 160, 3) := op_sipush (gk (k := 96) (t := 9) ck_X_one_3 rfl) (gk (k := 96) (t := 10) ck_X_one_3 rfl) (gk (k := 96) (t := 11) ck_X_one_3 rfl) (by decide +kernel)
theorem ck_X_one_4 : (y_X_one.2.1.data.toList.drop 128).take 32 = [167, 0, 19, 42, 180, 0, 178, 17, 0, 162, 160, 0, 8, 16, 18, 167, 0, 4, 2, 60, 27, 2, 160, 0, 9, 42, 4, 182, 0, 199, 172, 42] := by decide +kernel
theorem d_X_one_147 : decode y_X_one.2.1 147 = .ok (.istore_n 1, 1) := op_istore_n1 (gk (k := 128) (t := 19) ck_X_one_4 rfl)
theorem d_X_one_148 : decode y_X_one.2.1 148 = .ok (.iload_n 1, 1) := op_iload_n1 (gk (k := 128) (t := 20) ck_X_one_4 rfl)
theorem d_X_one_149 : decode y_X_one.2.1 149 = .ok (.iconst (-1), 1) := op_iconstm1 (gk (k := 128) (t := 21) ck_X_one_4 rfl)
theorem d_X_one_150 : decode y_X_one.2.1 150 = .ok (.if_icmp .ne 9, 3) := op_icmp_ne (gk (k := 128) (t := 22) ck_X_one_4 rfl) (gk (k := 128) (t := 23) ck_X_one_4 rfl) (gk (k := 128) (t := 24) ck_X_one_4 rfl) (by decide +kernel)
theorem d_X_one_159 : decode y_X_one.2.1 159 = .ok (.aload_n 0, 1) := op_aload_n0 (gk (k := 128) (t := 31) ck_X_one_4 rfl)
theorem ck_X_one_5 : (y_X_one.2.1.data.toList.drop 160).take 32 = [182, 0, 202, 42, 182, 0, 241, 154, 0, 5, 3, 172, 42, 27, 3, 182, 0, 215, 4, 172] := by decide +kernel
theorem d_X_one_160 : decode y_X_one.2.1 160 = .ok (.invokevirtual 202, 3) := op_invokevirtual (gk (k := 160) (t := 0) ck_X_one_5 rfl) (gk (k := 160) (t := 1) ck_X_one_5 rfl) (gk (k := 160) (t := 2) ck_X_one_5 rfl) rfl
theorem d_X_one_163 : decode y_X_one.2.1 163 = .ok (.aload_n 0, 1) := op_aload_n0 (gk (k := 160) (t := 3) ck_X_one_5 rfl)
theorem d_X_one_164 : decode y_X_one.2.1 164 = .ok (.invokevirtual 241, 3) := op_invokevirtual (gk (k := 160) (t := 4) ck_X_one_5 rfl) (gk (k := 160) (t := 5) ck_X_one_5 rfl) (gk (k := 160) (t := 6) ck_X_one_5 rfl) rfl
theorem d_X_one_167 : decode y_X_one.2.1 167 = .ok (.ifCond .ne 5, 3) := op_if_ne (gk (k := 160) (t := 7) ck_X_one_5 rfl) (gk (k := 160) (t := 8) ck_X_one_5 rfl) (gk (k := 160) (t := 9) ck_X_one_5 rfl) (by decide +kernel)
theorem d_X_one_172 : decode y_X_one.2.1 172 = .ok (.aload_n 0, 1) := op_aload_n0 (gk (k := 160) (t := 12) ck_X_one_5 rfl)
theorem d_X_one_173 : decode y_X_one.2.1 173 = .ok (.iload_n 1, 1) := op_iload_n1 (gk (k := 160) (t := 13) ck_X_one_5 rfl)
theorem d_X_one_174 : decode y_X_one.2.1 174 = .ok (.iconst 0, 1) := op_iconst0 (gk (k := 160) (t := 14) ck_X_one_5 rfl)
theorem d_X_one_175 : decode y_X_one.2.1 175 = .ok (.invokevirtual 215, 3) := op_invokevirtual (gk (k := 160) (t := 15) ck_X_one_5 rfl) (gk (k := 160) (t := 16) ck_X_one_5 rfl) (gk (k := 160) (t := 17) ck_X_one_5 rfl) rfl
theorem d_X_one_178 : decode y_X_one.2.1 178 = .ok (.iconst 1, 1) := op_iconst1 (gk (k := 160) (t := 18) ck_X_one_5 rfl)
theorem d_X_one_179 : decode y_X_one.2.1 179 = .ok (.ireturn, 1) := op_ireturn (gk (k := 160) (t := 19) ck_X_one_5 rfl)
theorem d_X_one_170 : decode y_X_one.2.1 170 = .ok (.iconst 0, 1) := op_iconst0 (gk (k := 160) (t := 10) ck_X_one_5 rfl)
theorem d_X_one_171 : decode y_X_one.2.1 171 = .ok (.ireturn, 1) := op_ireturn (gk (k := 160) (t := 11) ck_X_one_5 rfl)
theorem d_X_one_153 : decode y_X_one.2.1 153 = .ok (.aload_n 0, 1) := op_aload_n0 (gk (k := 128) (t := 25) ck_X_one_4 rfl)
theorem d_X_one_154 : decode y_X_one.2.1 154 = .ok (.iconst 1, 1) := op_iconst1 (gk (k := 128) (t := 26) ck_X_one_4 rfl)
theorem d_X_one_155 : decode y_X_one.2.1 155 = .ok (.invokevirtual 199, 3) := op_invokevirtual (gk (k := 128) (t := 27) ck_X_one_4 rfl) (gk (k := 128) (t := 28) ck_X_one_4 rfl) (gk (k := 128) (t := 29) ck_X_one_4 rfl) rfl
theorem d_X_one_158 : decode y_X_one.2.1 158 = .ok (.ireturn, 1) := op_ireturn (gk (k := 128) (t := 30) ck_X_one_4 rfl)
theorem in_160 : inr (160) := lit_in rfl
theorem d_X_one_108 : decode y_X_one.2.1 108 = .ok (.if_icmp .ne 8, 3) := op_icmp_ne (gk (k := 96) (t := 12) ck_X_one_3 rfl) (gk (k := 96) (t := 13) ck_X_one_3 rfl) (gk (k := 96) (t := 14) ck_X_one_3 rfl) (by decide +kernel)
theorem d_X_one_116 : decode y_X_one.2.1 116 = .ok (.aload_n 0, 1) := op_aload_n0 (gk (k := 96) (t := 20) ck_X_one_3 rfl)
theorem d_X_one_117 : decode y_X_one.2.1 117 = .ok (.getfield 178, 3) := op_getfield (gk (k := 96) (t := 21) ck_X_one_3 rfl) (gk (k := 96) (t := 22) ck_X_one_3 rfl) (gk (k := 96) (t := 23) ck_X_one_3 rfl) rfl
theorem cs_161 : (Int16.ofInt 161).toInt32 = iv 161 := by decide +kernel
theorem d_X_one_120 : decode y_X_one.2.1 120 = .ok (.sipush 161, 3) := op_sipush (gk (k := 96) (t := 24) ck_X_one_3 rfl) (gk (k := 96) (t := 25) ck_X_one_3 rfl) (gk (k := 96) (t := 26) ck_X_one_3 rfl) (by decide +kernel)
theorem in_161 : inr (161) := lit_in rfl
theorem d_X_one_123 : decode y_X_one.2.1 123 = .ok (.if_icmp .ne 8, 3) := op_icmp_ne (gk (k := 96) (t := 27) ck_X_one_3 rfl) (gk (k := 96) (t := 28) ck_X_one_3 rfl) (gk (k := 96) (t := 29) ck_X_one_3 rfl) (by decide +kernel)
theorem d_X_one_131 : decode y_X_one.2.1 131 = .ok (.aload_n 0, 1) := op_aload_n0 (gk (k := 128) (t := 3) ck_X_one_4 rfl)
theorem d_X_one_132 : decode y_X_one.2.1 132 = .ok (.getfield 178, 3) := op_getfield (gk (k := 128) (t := 4) ck_X_one_4 rfl) (gk (k := 128) (t := 5) ck_X_one_4 rfl) (gk (k := 128) (t := 6) ck_X_one_4 rfl) rfl
theorem cs_162 : (Int16.ofInt 162).toInt32 = iv 162 := by decide +kernel
theorem d_X_one_135 : decode y_X_one.2.1 135 = .ok (.sipush 162, 3) := op_sipush (gk (k := 128) (t := 7) ck_X_one_4 rfl) (gk (k := 128) (t := 8) ck_X_one_4 rfl) (gk (k := 128) (t := 9) ck_X_one_4 rfl) (by decide +kernel)
theorem in_162 : inr (162) := lit_in rfl
theorem d_X_one_138 : decode y_X_one.2.1 138 = .ok (.if_icmp .ne 8, 3) := op_icmp_ne (gk (k := 128) (t := 10) ck_X_one_4 rfl) (gk (k := 128) (t := 11) ck_X_one_4 rfl) (gk (k := 128) (t := 12) ck_X_one_4 rfl) (by decide +kernel)
theorem d_X_one_146 : decode y_X_one.2.1 146 = .ok (.iconst (-1), 1) := op_iconstm1 (gk (k := 128) (t := 18) ck_X_one_4 rfl)
theorem d_X_one_141 : decode y_X_one.2.1 141 = .ok (.bipush 18, 2) := op_bipush (gk (k := 128) (t := 13) ck_X_one_4 rfl) (gk (k := 128) (t := 14) ck_X_one_4 rfl) rfl
theorem d_X_one_143 : decode y_X_one.2.1 143 = .ok (.goto 4, 3) := op_goto (gk (k := 128) (t := 15) ck_X_one_4 rfl) (gk (k := 128) (t := 16) ck_X_one_4 rfl) (gk (k := 128) (t := 17) ck_X_one_4 rfl) (by decide +kernel)
theorem d_X_one_126 : decode y_X_one.2.1 126 = .ok (.bipush 17, 2) := op_bipush (gk (k := 96) (t := 30) ck_X_one_3 rfl) (gk (k := 96) (t := 31) ck_X_one_3 rfl) rfl
theorem d_X_one_128 : decode y_X_one.2.1 128 = .ok (.goto 19, 3) := op_goto (gk (k := 128) (t := 0) ck_X_one_4 rfl) (gk (k := 128) (t := 1) ck_X_one_4 rfl) (gk (k := 128) (t := 2) ck_X_one_4 rfl) (by decide +kernel)
theorem d_X_one_111 : decode y_X_one.2.1 111 = .ok (.bipush 16, 2) := op_bipush (gk (k := 96) (t := 15) ck_X_one_3 rfl) (gk (k := 96) (t := 16) ck_X_one_3 rfl) rfl
theorem d_X_one_113 : decode y_X_one.2.1 113 = .ok (.goto 34, 3) := op_goto (gk (k := 96) (t := 17) ck_X_one_3 rfl) (gk (k := 96) (t := 18) ck_X_one_3 rfl) (gk (k := 96) (t := 19) ck_X_one_3 rfl) (by decide +kernel)
theorem d_X_one_99 : decode y_X_one.2.1 99 = .ok (.iconst 0, 1) := op_iconst0 (gk (k := 96) (t := 3) ck_X_one_3 rfl)
theorem d_X_one_100 : decode y_X_one.2.1 100 = .ok (.ireturn, 1) := op_ireturn (gk (k := 96) (t := 4) ck_X_one_3 rfl)
theorem d_X_one_54 : decode y_X_one.2.1 54 = .ok (.aload_n 0, 1) := op_aload_n0 (gk (k := 32) (t := 22) ck_X_one_1 rfl)
theorem lk_X_232 : LkV "SinglesUpModel" 232 y_X_opens := ⟨tw_c6 146 (by decide +kernel) rfl, tw_in 57 (by decide +kernel) rfl, Or.inl (tw_c6 144 (by decide +kernel) rfl)⟩
set_option maxRecDepth 100000 in
theorem mo_X_opens : MOk y_X_opens 0 := ⟨by decide +kernel, tw_c6 147 rfl rfl, tw_c1 12 (by decide +kernel) rfl, by decide +kernel, by decide +kernel, by decide +kernel⟩
theorem d_X_one_55 : decode y_X_one.2.1 55 = .ok (.invokevirtual 232, 3) := op_invokevirtual (gk (k := 32) (t := 23) ck_X_one_1 rfl) (gk (k := 32) (t := 24) ck_X_one_1 rfl) (gk (k := 32) (t := 25) ck_X_one_1 rfl) rfl
theorem d_X_one_58 : decode y_X_one.2.1 58 = .ok (.ifCond .eq 20, 3) := op_if_eq (gk (k := 32) (t := 26) ck_X_one_1 rfl) (gk (k := 32) (t := 27) ck_X_one_1 rfl) (gk (k := 32) (t := 28) ck_X_one_1 rfl) (by decide +kernel)
theorem d_X_one_78 : decode y_X_one.2.1 78 = .ok (.iconst 0, 1) := op_iconst0 (gk (k := 64) (t := 14) ck_X_one_2 rfl)
theorem d_X_one_79 : decode y_X_one.2.1 79 = .ok (.ireturn, 1) := op_ireturn (gk (k := 64) (t := 15) ck_X_one_2 rfl)
theorem d_X_one_61 : decode y_X_one.2.1 61 = .ok (.aload_n 0, 1) := op_aload_n0 (gk (k := 32) (t := 29) ck_X_one_1 rfl)
theorem lk_X_235 : LkV "SinglesUpModel" 235 y_X_any := ⟨tw_c6 134 (by decide +kernel) rfl, tw_in 54 (by decide +kernel) rfl, Or.inl (tw_c6 132 (by decide +kernel) rfl)⟩
set_option maxRecDepth 100000 in
theorem mo_X_any : MOk y_X_any 0 := ⟨by decide +kernel, tw_c6 135 rfl rfl, tw_c1 12 (by decide +kernel) rfl, by decide +kernel, by decide +kernel, by decide +kernel⟩
theorem d_X_one_62 : decode y_X_one.2.1 62 = .ok (.invokevirtual 235, 3) := op_invokevirtual (gk (k := 32) (t := 30) ck_X_one_1 rfl) (gk (k := 32) (t := 31) ck_X_one_1 rfl) (gk (k := 64) (t := 0) ck_X_one_2 rfl) rfl
theorem d_X_one_65 : decode y_X_one.2.1 65 = .ok (.ifCond .eq 13, 3) := op_if_eq (gk (k := 64) (t := 1) ck_X_one_2 rfl) (gk (k := 64) (t := 2) ck_X_one_2 rfl) (gk (k := 64) (t := 3) ck_X_one_2 rfl) (by decide +kernel)
theorem d_X_one_68 : decode y_X_one.2.1 68 = .ok (.aload_n 0, 1) := op_aload_n0 (gk (k := 64) (t := 4) ck_X_one_2 rfl)
theorem cs_141 : (Int16.ofInt 141).toInt32 = iv 141 := by decide +kernel
theorem d_X_one_69 : decode y_X_one.2.1 69 = .ok (.sipush 141, 3) := op_sipush (gk (k := 64) (t := 5) ck_X_one_2 rfl) (gk (k := 64) (t := 6) ck_X_one_2 rfl) (gk (k := 64) (t := 7) ck_X_one_2 rfl) (by decide +kernel)
theorem lk_X_238 : LkV "SinglesUpModel" 238 y_X_need := ⟨tw_c6 130 (by decide +kernel) rfl, tw_in 53 (by decide +kernel) rfl, Or.inl (tw_c6 128 (by decide +kernel) rfl)⟩
set_option maxRecDepth 100000 in
theorem mo_X_need : MOk y_X_need 1 := ⟨by decide +kernel, tw_c6 131 rfl rfl, tw_c1 12 (by decide +kernel) rfl, by decide +kernel, by decide +kernel, by decide +kernel⟩
theorem in_141 : inr (141) := lit_in rfl
theorem d_X_one_72 : decode y_X_one.2.1 72 = .ok (.invokevirtual 238, 3) := op_invokevirtual (gk (k := 64) (t := 8) ck_X_one_2 rfl) (gk (k := 64) (t := 9) ck_X_one_2 rfl) (gk (k := 64) (t := 10) ck_X_one_2 rfl) rfl
theorem d_X_one_75 : decode y_X_one.2.1 75 = .ok (.ifCond .ne 5, 3) := op_if_ne (gk (k := 64) (t := 11) ck_X_one_2 rfl) (gk (k := 64) (t := 12) ck_X_one_2 rfl) (gk (k := 64) (t := 13) ck_X_one_2 rfl) (by decide +kernel)
theorem d_X_one_80 : decode y_X_one.2.1 80 = .ok (.aload_n 0, 1) := op_aload_n0 (gk (k := 64) (t := 16) ck_X_one_2 rfl)
theorem d_X_one_81 : decode y_X_one.2.1 81 = .ok (.dup, 1) := op_dup (gk (k := 64) (t := 17) ck_X_one_2 rfl)
theorem d_X_one_82 : decode y_X_one.2.1 82 = .ok (.getfield 208, 3) := op_getfield (gk (k := 64) (t := 18) ck_X_one_2 rfl) (gk (k := 64) (t := 19) ck_X_one_2 rfl) (gk (k := 64) (t := 20) ck_X_one_2 rfl) rfl
theorem d_X_one_85 : decode y_X_one.2.1 85 = .ok (.iconst 1, 1) := op_iconst1 (gk (k := 64) (t := 21) ck_X_one_2 rfl)
theorem d_X_one_86 : decode y_X_one.2.1 86 = .ok (.isub, 1) := op_isub (gk (k := 64) (t := 22) ck_X_one_2 rfl)
theorem d_X_one_87 : decode y_X_one.2.1 87 = .ok (.putfield 208, 3) := op_putfield (gk (k := 64) (t := 23) ck_X_one_2 rfl) (gk (k := 64) (t := 24) ck_X_one_2 rfl) (gk (k := 64) (t := 25) ck_X_one_2 rfl) rfl
theorem d_X_one_90 : decode y_X_one.2.1 90 = .ok (.iconst 1, 1) := op_iconst1 (gk (k := 64) (t := 26) ck_X_one_2 rfl)
theorem d_X_one_91 : decode y_X_one.2.1 91 = .ok (.ireturn, 1) := op_ireturn (gk (k := 64) (t := 27) ck_X_one_2 rfl)
theorem d_X_one_9 : decode y_X_one.2.1 9 = .ok (.aload_n 0, 1) := op_aload_n0 (gk (k := 0) (t := 9) ck_X_one_0 rfl)
theorem d_X_one_10 : decode y_X_one.2.1 10 = .ok (.invokevirtual 232, 3) := op_invokevirtual (gk (k := 0) (t := 10) ck_X_one_0 rfl) (gk (k := 0) (t := 11) ck_X_one_0 rfl) (gk (k := 0) (t := 12) ck_X_one_0 rfl) rfl
theorem d_X_one_13 : decode y_X_one.2.1 13 = .ok (.ifCond .eq 10, 3) := op_if_eq (gk (k := 0) (t := 13) ck_X_one_0 rfl) (gk (k := 0) (t := 14) ck_X_one_0 rfl) (gk (k := 0) (t := 15) ck_X_one_0 rfl) (by decide +kernel)
theorem d_X_one_23 : decode y_X_one.2.1 23 = .ok (.iconst 0, 1) := op_iconst0 (gk (k := 0) (t := 23) ck_X_one_0 rfl)
theorem d_X_one_24 : decode y_X_one.2.1 24 = .ok (.ireturn, 1) := op_ireturn (gk (k := 0) (t := 24) ck_X_one_0 rfl)
theorem d_X_one_16 : decode y_X_one.2.1 16 = .ok (.aload_n 0, 1) := op_aload_n0 (gk (k := 0) (t := 16) ck_X_one_0 rfl)
theorem d_X_one_17 : decode y_X_one.2.1 17 = .ok (.invokevirtual 229, 3) := op_invokevirtual (gk (k := 0) (t := 17) ck_X_one_0 rfl) (gk (k := 0) (t := 18) ck_X_one_0 rfl) (gk (k := 0) (t := 19) ck_X_one_0 rfl) rfl
theorem d_X_one_20 : decode y_X_one.2.1 20 = .ok (.ifCond .ne 5, 3) := op_if_ne (gk (k := 0) (t := 20) ck_X_one_0 rfl) (gk (k := 0) (t := 21) ck_X_one_0 rfl) (gk (k := 0) (t := 22) ck_X_one_0 rfl) (by decide +kernel)
theorem d_X_one_25 : decode y_X_one.2.1 25 = .ok (.aload_n 0, 1) := op_aload_n0 (gk (k := 0) (t := 25) ck_X_one_0 rfl)
theorem d_X_one_26 : decode y_X_one.2.1 26 = .ok (.dup, 1) := op_dup (gk (k := 0) (t := 26) ck_X_one_0 rfl)
theorem d_X_one_27 : decode y_X_one.2.1 27 = .ok (.getfield 208, 3) := op_getfield (gk (k := 0) (t := 27) ck_X_one_0 rfl) (gk (k := 0) (t := 28) ck_X_one_0 rfl) (gk (k := 0) (t := 29) ck_X_one_0 rfl) rfl
theorem d_X_one_30 : decode y_X_one.2.1 30 = .ok (.iconst 1, 1) := op_iconst1 (gk (k := 0) (t := 30) ck_X_one_0 rfl)
theorem d_X_one_31 : decode y_X_one.2.1 31 = .ok (.isub, 1) := op_isub (gk (k := 0) (t := 31) ck_X_one_0 rfl)
theorem d_X_one_32 : decode y_X_one.2.1 32 = .ok (.putfield 208, 3) := op_putfield (gk (k := 32) (t := 0) ck_X_one_1 rfl) (gk (k := 32) (t := 1) ck_X_one_1 rfl) (gk (k := 32) (t := 2) ck_X_one_1 rfl) rfl
theorem d_X_one_35 : decode y_X_one.2.1 35 = .ok (.aload_n 0, 1) := op_aload_n0 (gk (k := 32) (t := 3) ck_X_one_1 rfl)
theorem cb_19 : (Int8.ofInt 19).toInt32 = iv 19 := by decide +kernel
theorem d_X_one_36 : decode y_X_one.2.1 36 = .ok (.bipush 19, 2) := op_bipush (gk (k := 32) (t := 4) ck_X_one_1 rfl) (gk (k := 32) (t := 5) ck_X_one_1 rfl) rfl
theorem d_X_one_38 : decode y_X_one.2.1 38 = .ok (.iconst 0, 1) := op_iconst0 (gk (k := 32) (t := 6) ck_X_one_1 rfl)
theorem in_19 : inr (19) := lit_in rfl
theorem d_X_one_39 : decode y_X_one.2.1 39 = .ok (.invokevirtual 215, 3) := op_invokevirtual (gk (k := 32) (t := 7) ck_X_one_1 rfl) (gk (k := 32) (t := 8) ck_X_one_1 rfl) (gk (k := 32) (t := 9) ck_X_one_1 rfl) rfl
theorem d_X_one_42 : decode y_X_one.2.1 42 = .ok (.iconst 1, 1) := op_iconst1 (gk (k := 32) (t := 10) ck_X_one_1 rfl)
theorem d_X_one_43 : decode y_X_one.2.1 43 = .ok (.ireturn, 1) := op_ireturn (gk (k := 32) (t := 11) ck_X_one_1 rfl)
abbrev y_X_aLine : MI := (⟨"SinglesUpModel", "aLine", "()Z"⟩, prog_11_method_32_code, 2, some .boolean)
theorem ck_X_aLine_0 : (y_X_aLine.2.1.data.toList.drop 0).take 32 = [42, 180, 0, 178, 16, 7, 159, 0, 9, 42, 4, 182, 0, 199, 172, 42, 180, 0, 244, 16, 16, 160, 0, 9, 42, 6, 182, 0, 199, 172, 42, 180] := by decide +kernel
theorem d_X_aLine_0 : decode y_X_aLine.2.1 0 = .ok (.aload_n 0, 1) := op_aload_n0 (gk (k := 0) (t := 0) ck_X_aLine_0 rfl)
theorem d_X_aLine_1 : decode y_X_aLine.2.1 1 = .ok (.getfield 178, 3) := op_getfield (gk (k := 0) (t := 1) ck_X_aLine_0 rfl) (gk (k := 0) (t := 2) ck_X_aLine_0 rfl) (gk (k := 0) (t := 3) ck_X_aLine_0 rfl) rfl
theorem d_X_aLine_4 : decode y_X_aLine.2.1 4 = .ok (.bipush 7, 2) := op_bipush (gk (k := 0) (t := 4) ck_X_aLine_0 rfl) (gk (k := 0) (t := 5) ck_X_aLine_0 rfl) rfl
theorem d_X_aLine_6 : decode y_X_aLine.2.1 6 = .ok (.if_icmp .eq 9, 3) := op_icmp_eq (gk (k := 0) (t := 6) ck_X_aLine_0 rfl) (gk (k := 0) (t := 7) ck_X_aLine_0 rfl) (gk (k := 0) (t := 8) ck_X_aLine_0 rfl) (by decide +kernel)
theorem d_X_aLine_15 : decode y_X_aLine.2.1 15 = .ok (.aload_n 0, 1) := op_aload_n0 (gk (k := 0) (t := 15) ck_X_aLine_0 rfl)
theorem fl_X_244 : FL "SinglesUpModel" 244 9 10 := ⟨"SinglesUpModel", zT9, 51, rfl, by decide, rfl, Or.inl (tw_c5 103 (by decide +kernel) rfl)⟩
theorem d_X_aLine_16 : decode y_X_aLine.2.1 16 = .ok (.getfield 244, 3) := op_getfield (gk (k := 0) (t := 16) ck_X_aLine_0 rfl) (gk (k := 0) (t := 17) ck_X_aLine_0 rfl) (gk (k := 0) (t := 18) ck_X_aLine_0 rfl) rfl
theorem d_X_aLine_19 : decode y_X_aLine.2.1 19 = .ok (.bipush 16, 2) := op_bipush (gk (k := 0) (t := 19) ck_X_aLine_0 rfl) (gk (k := 0) (t := 20) ck_X_aLine_0 rfl) rfl
theorem d_X_aLine_21 : decode y_X_aLine.2.1 21 = .ok (.if_icmp .ne 9, 3) := op_icmp_ne (gk (k := 0) (t := 21) ck_X_aLine_0 rfl) (gk (k := 0) (t := 22) ck_X_aLine_0 rfl) (gk (k := 0) (t := 23) ck_X_aLine_0 rfl) (by decide +kernel)
theorem d_X_aLine_30 : decode y_X_aLine.2.1 30 = .ok (.aload_n 0, 1) := op_aload_n0 (gk (k := 0) (t := 30) ck_X_aLine_0 rfl)
theorem ck_X_aLine_1 : (y_X_aLine.2.1.data.toList.drop 32).take 32 = [0, 166, 7, 160, 0, 7, 4, 167, 0, 4, 3, 60, 42, 3, 181, 0, 208, 42, 182, 0, 202, 42, 180, 0, 19, 7, 42, 180, 0, 244, 104, 42] := by decide +kernel
theorem d_X_aLine_31 : decode y_X_aLine.2.1 31 = .ok (.getfield 166, 3) := op_getfield (gk (k := 0) (t := 31) ck_X_aLine_0 rfl) (gk (k := 32) (t := 0) ck_X_aLine_1 rfl) (gk (k := 32) (t := 1) ck_X_aLine_1 rfl) rfl
theorem d_X_aLine_34 : decode y_X_aLine.2.1 34 = .ok (.iconst 4, 1) := op_iconst4 (gk (k := 32) (t := 2) ck_X_aLine_1 rfl)
theorem d_X_aLine_43 : decode y_X_aLine.2.1 43 = .ok (.istore_n 1, 1) := op_istore_n1 (gk (k := 32) (t := 11) ck_X_aLine_1 rfl)
theorem d_X_aLine_44 : decode y_X_aLine.2.1 44 = .ok (.aload_n 0, 1) := op_aload_n0 (gk (k := 32) (t := 12) ck_X_aLine_1 rfl)
theorem d_X_aLine_45 : decode y_X_aLine.2.1 45 = .ok (.iconst 0, 1) := op_iconst0 (gk (k := 32) (t := 13) ck_X_aLine_1 rfl)
theorem d_X_aLine_46 : decode y_X_aLine.2.1 46 = .ok (.putfield 208, 3) := op_putfield (gk (k := 32) (t := 14) ck_X_aLine_1 rfl) (gk (k := 32) (t := 15) ck_X_aLine_1 rfl) (gk (k := 32) (t := 16) ck_X_aLine_1 rfl) rfl
theorem d_X_aLine_49 : decode y_X_aLine.2.1 49 = .ok (.aload_n 0, 1) := op_aload_n0 (gk (k := 32) (t := 17) ck_X_aLine_1 rfl)
theorem d_X_aLine_50 : decode y_X_aLine.2.1 50 = .ok (.invokevirtual 202, 3) := op_invokevirtual (gk (k := 32) (t := 18) ck_X_aLine_1 rfl) (gk (k := 32) (t := 19) ck_X_aLine_1 rfl) (gk (k := 32) (t := 20) ck_X_aLine_1 rfl) rfl
theorem d_X_aLine_53 : decode y_X_aLine.2.1 53 = .ok (.aload_n 0, 1) := op_aload_n0 (gk (k := 32) (t := 21) ck_X_aLine_1 rfl)
theorem fl_X_19 : FL "SinglesUpModel" 19 9 4 := ⟨"SinglesUpModel", zT9, 51, rfl, by decide, rfl, Or.inl (tw_c5 97 (by decide +kernel) rfl)⟩
theorem rm_9_4 : ∀ o, KM[o]? = some (12, 51) → RM o 4 = some (o + 4) ∧ KM[o + 4]? = some (0, 64) := by
  intro o h
  have hl : o < 26 := (List.getElem?_eq_some_iff.mp h).1
  exact (by decide +kernel : ∀ o, o < 26 → KM[o]? = some (12, 51) → RM o 4 = some (o + 4) ∧ KM[o + 4]? = some (0, 64)) o hl h
theorem d_X_aLine_54 : decode y_X_aLine.2.1 54 = .ok (.getfield 19, 3) := op_getfield (gk (k := 32) (t := 22) ck_X_aLine_1 rfl) (gk (k := 32) (t := 23) ck_X_aLine_1 rfl) (gk (k := 32) (t := 24) ck_X_aLine_1 rfl) rfl
theorem d_X_aLine_57 : decode y_X_aLine.2.1 57 = .ok (.iconst 4, 1) := op_iconst4 (gk (k := 32) (t := 25) ck_X_aLine_1 rfl)
theorem d_X_aLine_58 : decode y_X_aLine.2.1 58 = .ok (.aload_n 0, 1) := op_aload_n0 (gk (k := 32) (t := 26) ck_X_aLine_1 rfl)
theorem d_X_aLine_59 : decode y_X_aLine.2.1 59 = .ok (.getfield 244, 3) := op_getfield (gk (k := 32) (t := 27) ck_X_aLine_1 rfl) (gk (k := 32) (t := 28) ck_X_aLine_1 rfl) (gk (k := 32) (t := 29) ck_X_aLine_1 rfl) rfl
theorem d_X_aLine_62 : decode y_X_aLine.2.1 62 = .ok (.imul, 1) := op_imul (gk (k := 32) (t := 30) ck_X_aLine_1 rfl)
theorem d_X_aLine_63 : decode y_X_aLine.2.1 63 = .ok (.aload_n 0, 1) := op_aload_n0 (gk (k := 32) (t := 31) ck_X_aLine_1 rfl)
theorem ck_X_aLine_2 : (y_X_aLine.2.1.data.toList.drop 64).take 32 = [180, 0, 190, 79, 42, 180, 0, 19, 7, 42, 180, 0, 244, 104, 4, 96, 42, 180, 0, 205, 79, 27, 153, 0, 15, 42, 3, 8, 182, 0, 222, 154] := by decide +kernel
theorem d_X_aLine_64 : decode y_X_aLine.2.1 64 = .ok (.getfield 190, 3) := op_getfield (gk (k := 64) (t := 0) ck_X_aLine_2 rfl) (gk (k := 64) (t := 1) ck_X_aLine_2 rfl) (gk (k := 64) (t := 2) ck_X_aLine_2 rfl) rfl
theorem d_X_aLine_67 : decode y_X_aLine.2.1 67 = .ok (.iastore, 1) := op_iastore (gk (k := 64) (t := 3) ck_X_aLine_2 rfl)
theorem d_X_aLine_68 : decode y_X_aLine.2.1 68 = .ok (.aload_n 0, 1) := op_aload_n0 (gk (k := 64) (t := 4) ck_X_aLine_2 rfl)
theorem d_X_aLine_69 : decode y_X_aLine.2.1 69 = .ok (.getfield 19, 3) := op_getfield (gk (k := 64) (t := 5) ck_X_aLine_2 rfl) (gk (k := 64) (t := 6) ck_X_aLine_2 rfl) (gk (k := 64) (t := 7) ck_X_aLine_2 rfl) rfl
theorem d_X_aLine_72 : decode y_X_aLine.2.1 72 = .ok (.iconst 4, 1) := op_iconst4 (gk (k := 64) (t := 8) ck_X_aLine_2 rfl)
theorem d_X_aLine_73 : decode y_X_aLine.2.1 73 = .ok (.aload_n 0, 1) := op_aload_n0 (gk (k := 64) (t := 9) ck_X_aLine_2 rfl)
theorem d_X_aLine_74 : decode y_X_aLine.2.1 74 = .ok (.getfield 244, 3) := op_getfield (gk (k := 64) (t := 10) ck_X_aLine_2 rfl) (gk (k := 64) (t := 11) ck_X_aLine_2 rfl) (gk (k := 64) (t := 12) ck_X_aLine_2 rfl) rfl
theorem d_X_aLine_77 : decode y_X_aLine.2.1 77 = .ok (.imul, 1) := op_imul (gk (k := 64) (t := 13) ck_X_aLine_2 rfl)
theorem d_X_aLine_78 : decode y_X_aLine.2.1 78 = .ok (.iconst 1, 1) := op_iconst1 (gk (k := 64) (t := 14) ck_X_aLine_2 rfl)
theorem d_X_aLine_79 : decode y_X_aLine.2.1 79 = .ok (.iadd, 1) := op_iadd (gk (k := 64) (t := 15) ck_X_aLine_2 rfl)
theorem d_X_aLine_80 : decode y_X_aLine.2.1 80 = .ok (.aload_n 0, 1) := op_aload_n0 (gk (k := 64) (t := 16) ck_X_aLine_2 rfl)
theorem d_X_aLine_81 : decode y_X_aLine.2.1 81 = .ok (.getfield 205, 3) := op_getfield (gk (k := 64) (t := 17) ck_X_aLine_2 rfl) (gk (k := 64) (t := 18) ck_X_aLine_2 rfl) (gk (k := 64) (t := 19) ck_X_aLine_2 rfl) rfl
theorem d_X_aLine_84 : decode y_X_aLine.2.1 84 = .ok (.iastore, 1) := op_iastore (gk (k := 64) (t := 20) ck_X_aLine_2 rfl)
theorem d_X_aLine_85 : decode y_X_aLine.2.1 85 = .ok (.iload_n 1, 1) := op_iload_n1 (gk (k := 64) (t := 21) ck_X_aLine_2 rfl)
theorem ck_X_aLine_3 : (y_X_aLine.2.1.data.toList.drop 96).take 32 = [0, 15, 167, 0, 10, 42, 182, 0, 241, 154, 0, 5, 3, 172, 42, 180, 0, 19, 7, 42, 180, 0, 244, 104, 5, 96, 42, 180, 0, 205, 79, 27] := by decide +kernel
theorem d_X_aLine_110 : decode y_X_aLine.2.1 110 = .ok (.aload_n 0, 1) := op_aload_n0 (gk (k := 96) (t := 14) ck_X_aLine_3 rfl)
theorem d_X_aLine_111 : decode y_X_aLine.2.1 111 = .ok (.getfield 19, 3) := op_getfield (gk (k := 96) (t := 15) ck_X_aLine_3 rfl) (gk (k := 96) (t := 16) ck_X_aLine_3 rfl) (gk (k := 96) (t := 17) ck_X_aLine_3 rfl) rfl
theorem d_X_aLine_114 : decode y_X_aLine.2.1 114 = .ok (.iconst 4, 1) := op_iconst4 (gk (k := 96) (t := 18) ck_X_aLine_3 rfl)
theorem d_X_aLine_115 : decode y_X_aLine.2.1 115 = .ok (.aload_n 0, 1) := op_aload_n0 (gk (k := 96) (t := 19) ck_X_aLine_3 rfl)
theorem d_X_aLine_116 : decode y_X_aLine.2.1 116 = .ok (.getfield 244, 3) := op_getfield (gk (k := 96) (t := 20) ck_X_aLine_3 rfl) (gk (k := 96) (t := 21) ck_X_aLine_3 rfl) (gk (k := 96) (t := 22) ck_X_aLine_3 rfl) rfl
theorem d_X_aLine_119 : decode y_X_aLine.2.1 119 = .ok (.imul, 1) := op_imul (gk (k := 96) (t := 23) ck_X_aLine_3 rfl)
theorem d_X_aLine_120 : decode y_X_aLine.2.1 120 = .ok (.iconst 2, 1) := op_iconst2 (gk (k := 96) (t := 24) ck_X_aLine_3 rfl)
theorem d_X_aLine_121 : decode y_X_aLine.2.1 121 = .ok (.iadd, 1) := op_iadd (gk (k := 96) (t := 25) ck_X_aLine_3 rfl)
theorem d_X_aLine_122 : decode y_X_aLine.2.1 122 = .ok (.aload_n 0, 1) := op_aload_n0 (gk (k := 96) (t := 26) ck_X_aLine_3 rfl)
theorem d_X_aLine_123 : decode y_X_aLine.2.1 123 = .ok (.getfield 205, 3) := op_getfield (gk (k := 96) (t := 27) ck_X_aLine_3 rfl) (gk (k := 96) (t := 28) ck_X_aLine_3 rfl) (gk (k := 96) (t := 29) ck_X_aLine_3 rfl) rfl
theorem d_X_aLine_126 : decode y_X_aLine.2.1 126 = .ok (.iastore, 1) := op_iastore (gk (k := 96) (t := 30) ck_X_aLine_3 rfl)
theorem d_X_aLine_127 : decode y_X_aLine.2.1 127 = .ok (.iload_n 1, 1) := op_iload_n1 (gk (k := 96) (t := 31) ck_X_aLine_3 rfl)
theorem ck_X_aLine_4 : (y_X_aLine.2.1.data.toList.drop 128).take 32 = [154, 0, 11, 42, 180, 0, 178, 6, 160, 0, 20, 42, 6, 182, 0, 238, 153, 0, 10, 42, 182, 0, 235, 154, 0, 5, 3, 172, 42, 180, 0, 19] := by decide +kernel
theorem d_X_aLine_156 : decode y_X_aLine.2.1 156 = .ok (.aload_n 0, 1) := op_aload_n0 (gk (k := 128) (t := 28) ck_X_aLine_4 rfl)
theorem d_X_aLine_157 : decode y_X_aLine.2.1 157 = .ok (.getfield 19, 3) := op_getfield (gk (k := 128) (t := 29) ck_X_aLine_4 rfl) (gk (k := 128) (t := 30) ck_X_aLine_4 rfl) (gk (k := 128) (t := 31) ck_X_aLine_4 rfl) rfl
theorem ck_X_aLine_5 : (y_X_aLine.2.1.data.toList.drop 160).take 32 = [7, 42, 180, 0, 244, 104, 6, 96, 42, 180, 0, 205, 79, 42, 17, 0, 159, 182, 0, 238, 172] := by decide +kernel
theorem d_X_aLine_160 : decode y_X_aLine.2.1 160 = .ok (.iconst 4, 1) := op_iconst4 (gk (k := 160) (t := 0) ck_X_aLine_5 rfl)
theorem d_X_aLine_161 : decode y_X_aLine.2.1 161 = .ok (.aload_n 0, 1) := op_aload_n0 (gk (k := 160) (t := 1) ck_X_aLine_5 rfl)
theorem d_X_aLine_162 : decode y_X_aLine.2.1 162 = .ok (.getfield 244, 3) := op_getfield (gk (k := 160) (t := 2) ck_X_aLine_5 rfl) (gk (k := 160) (t := 3) ck_X_aLine_5 rfl) (gk (k := 160) (t := 4) ck_X_aLine_5 rfl) rfl
theorem d_X_aLine_165 : decode y_X_aLine.2.1 165 = .ok (.imul, 1) := op_imul (gk (k := 160) (t := 5) ck_X_aLine_5 rfl)
theorem d_X_aLine_166 : decode y_X_aLine.2.1 166 = .ok (.iconst 3, 1) := op_iconst3 (gk (k := 160) (t := 6) ck_X_aLine_5 rfl)
theorem d_X_aLine_167 : decode y_X_aLine.2.1 167 = .ok (.iadd, 1) := op_iadd (gk (k := 160) (t := 7) ck_X_aLine_5 rfl)
theorem d_X_aLine_168 : decode y_X_aLine.2.1 168 = .ok (.aload_n 0, 1) := op_aload_n0 (gk (k := 160) (t := 8) ck_X_aLine_5 rfl)
theorem d_X_aLine_169 : decode y_X_aLine.2.1 169 = .ok (.getfield 205, 3) := op_getfield (gk (k := 160) (t := 9) ck_X_aLine_5 rfl) (gk (k := 160) (t := 10) ck_X_aLine_5 rfl) (gk (k := 160) (t := 11) ck_X_aLine_5 rfl) rfl
theorem d_X_aLine_172 : decode y_X_aLine.2.1 172 = .ok (.iastore, 1) := op_iastore (gk (k := 160) (t := 12) ck_X_aLine_5 rfl)
theorem d_X_aLine_173 : decode y_X_aLine.2.1 173 = .ok (.aload_n 0, 1) := op_aload_n0 (gk (k := 160) (t := 13) ck_X_aLine_5 rfl)
theorem cs_159 : (Int16.ofInt 159).toInt32 = iv 159 := by decide +kernel
theorem d_X_aLine_174 : decode y_X_aLine.2.1 174 = .ok (.sipush 159, 3) := op_sipush (gk (k := 160) (t := 14) ck_X_aLine_5 rfl) (gk (k := 160) (t := 15) ck_X_aLine_5 rfl) (gk (k := 160) (t := 16) ck_X_aLine_5 rfl) (by decide +kernel)
theorem in_159 : inr (159) := lit_in rfl
theorem d_X_aLine_177 : decode y_X_aLine.2.1 177 = .ok (.invokevirtual 238, 3) := op_invokevirtual (gk (k := 160) (t := 17) ck_X_aLine_5 rfl) (gk (k := 160) (t := 18) ck_X_aLine_5 rfl) (gk (k := 160) (t := 19) ck_X_aLine_5 rfl) rfl
theorem d_X_aLine_180 : decode y_X_aLine.2.1 180 = .ok (.ireturn, 1) := op_ireturn (gk (k := 160) (t := 20) ck_X_aLine_5 rfl)
theorem d_X_aLine_139 : decode y_X_aLine.2.1 139 = .ok (.aload_n 0, 1) := op_aload_n0 (gk (k := 128) (t := 11) ck_X_aLine_4 rfl)
theorem d_X_aLine_140 : decode y_X_aLine.2.1 140 = .ok (.iconst 3, 1) := op_iconst3 (gk (k := 128) (t := 12) ck_X_aLine_4 rfl)
theorem d_X_aLine_141 : decode y_X_aLine.2.1 141 = .ok (.invokevirtual 238, 3) := op_invokevirtual (gk (k := 128) (t := 13) ck_X_aLine_4 rfl) (gk (k := 128) (t := 14) ck_X_aLine_4 rfl) (gk (k := 128) (t := 15) ck_X_aLine_4 rfl) rfl
theorem d_X_aLine_144 : decode y_X_aLine.2.1 144 = .ok (.ifCond .eq 10, 3) := op_if_eq (gk (k := 128) (t := 16) ck_X_aLine_4 rfl) (gk (k := 128) (t := 17) ck_X_aLine_4 rfl) (gk (k := 128) (t := 18) ck_X_aLine_4 rfl) (by decide +kernel)
theorem d_X_aLine_154 : decode y_X_aLine.2.1 154 = .ok (.iconst 0, 1) := op_iconst0 (gk (k := 128) (t := 26) ck_X_aLine_4 rfl)
theorem d_X_aLine_155 : decode y_X_aLine.2.1 155 = .ok (.ireturn, 1) := op_ireturn (gk (k := 128) (t := 27) ck_X_aLine_4 rfl)
theorem d_X_aLine_147 : decode y_X_aLine.2.1 147 = .ok (.aload_n 0, 1) := op_aload_n0 (gk (k := 128) (t := 19) ck_X_aLine_4 rfl)
theorem d_X_aLine_148 : decode y_X_aLine.2.1 148 = .ok (.invokevirtual 235, 3) := op_invokevirtual (gk (k := 128) (t := 20) ck_X_aLine_4 rfl) (gk (k := 128) (t := 21) ck_X_aLine_4 rfl) (gk (k := 128) (t := 22) ck_X_aLine_4 rfl) rfl
theorem d_X_aLine_151 : decode y_X_aLine.2.1 151 = .ok (.ifCond .ne 5, 3) := op_if_ne (gk (k := 128) (t := 23) ck_X_aLine_4 rfl) (gk (k := 128) (t := 24) ck_X_aLine_4 rfl) (gk (k := 128) (t := 25) ck_X_aLine_4 rfl) (by decide +kernel)
theorem d_X_aLine_128 : decode y_X_aLine.2.1 128 = .ok (.ifCond .ne 11, 3) := op_if_ne (gk (k := 128) (t := 0) ck_X_aLine_4 rfl) (gk (k := 128) (t := 1) ck_X_aLine_4 rfl) (gk (k := 128) (t := 2) ck_X_aLine_4 rfl) (by decide +kernel)
theorem d_X_aLine_131 : decode y_X_aLine.2.1 131 = .ok (.aload_n 0, 1) := op_aload_n0 (gk (k := 128) (t := 3) ck_X_aLine_4 rfl)
theorem d_X_aLine_132 : decode y_X_aLine.2.1 132 = .ok (.getfield 178, 3) := op_getfield (gk (k := 128) (t := 4) ck_X_aLine_4 rfl) (gk (k := 128) (t := 5) ck_X_aLine_4 rfl) (gk (k := 128) (t := 6) ck_X_aLine_4 rfl) rfl
theorem d_X_aLine_135 : decode y_X_aLine.2.1 135 = .ok (.iconst 3, 1) := op_iconst3 (gk (k := 128) (t := 7) ck_X_aLine_4 rfl)
theorem d_X_aLine_136 : decode y_X_aLine.2.1 136 = .ok (.if_icmp .ne 20, 3) := op_icmp_ne (gk (k := 128) (t := 8) ck_X_aLine_4 rfl) (gk (k := 128) (t := 9) ck_X_aLine_4 rfl) (gk (k := 128) (t := 10) ck_X_aLine_4 rfl) (by decide +kernel)
theorem d_X_aLine_86 : decode y_X_aLine.2.1 86 = .ok (.ifCond .eq 15, 3) := op_if_eq (gk (k := 64) (t := 22) ck_X_aLine_2 rfl) (gk (k := 64) (t := 23) ck_X_aLine_2 rfl) (gk (k := 64) (t := 24) ck_X_aLine_2 rfl) (by decide +kernel)
theorem d_X_aLine_101 : decode y_X_aLine.2.1 101 = .ok (.aload_n 0, 1) := op_aload_n0 (gk (k := 96) (t := 5) ck_X_aLine_3 rfl)
theorem d_X_aLine_102 : decode y_X_aLine.2.1 102 = .ok (.invokevirtual 241, 3) := op_invokevirtual (gk (k := 96) (t := 6) ck_X_aLine_3 rfl) (gk (k := 96) (t := 7) ck_X_aLine_3 rfl) (gk (k := 96) (t := 8) ck_X_aLine_3 rfl) rfl
theorem d_X_aLine_105 : decode y_X_aLine.2.1 105 = .ok (.ifCond .ne 5, 3) := op_if_ne (gk (k := 96) (t := 9) ck_X_aLine_3 rfl) (gk (k := 96) (t := 10) ck_X_aLine_3 rfl) (gk (k := 96) (t := 11) ck_X_aLine_3 rfl) (by decide +kernel)
theorem d_X_aLine_108 : decode y_X_aLine.2.1 108 = .ok (.iconst 0, 1) := op_iconst0 (gk (k := 96) (t := 12) ck_X_aLine_3 rfl)
theorem d_X_aLine_109 : decode y_X_aLine.2.1 109 = .ok (.ireturn, 1) := op_ireturn (gk (k := 96) (t := 13) ck_X_aLine_3 rfl)
theorem d_X_aLine_89 : decode y_X_aLine.2.1 89 = .ok (.aload_n 0, 1) := op_aload_n0 (gk (k := 64) (t := 25) ck_X_aLine_2 rfl)
theorem d_X_aLine_90 : decode y_X_aLine.2.1 90 = .ok (.iconst 0, 1) := op_iconst0 (gk (k := 64) (t := 26) ck_X_aLine_2 rfl)
theorem d_X_aLine_91 : decode y_X_aLine.2.1 91 = .ok (.iconst 5, 1) := op_iconst5 (gk (k := 64) (t := 27) ck_X_aLine_2 rfl)
theorem d_X_aLine_92 : decode y_X_aLine.2.1 92 = .ok (.invokevirtual 222, 3) := op_invokevirtual (gk (k := 64) (t := 28) ck_X_aLine_2 rfl) (gk (k := 64) (t := 29) ck_X_aLine_2 rfl) (gk (k := 64) (t := 30) ck_X_aLine_2 rfl) rfl
theorem d_X_aLine_95 : decode y_X_aLine.2.1 95 = .ok (.ifCond .ne 15, 3) := op_if_ne (gk (k := 64) (t := 31) ck_X_aLine_2 rfl) (gk (k := 96) (t := 0) ck_X_aLine_3 rfl) (gk (k := 96) (t := 1) ck_X_aLine_3 rfl) (by decide +kernel)
theorem d_X_aLine_98 : decode y_X_aLine.2.1 98 = .ok (.goto 10, 3) := op_goto (gk (k := 96) (t := 2) ck_X_aLine_3 rfl) (gk (k := 96) (t := 3) ck_X_aLine_3 rfl) (gk (k := 96) (t := 4) ck_X_aLine_3 rfl) (by decide +kernel)
theorem d_X_aLine_35 : decode y_X_aLine.2.1 35 = .ok (.if_icmp .ne 7, 3) := op_icmp_ne (gk (k := 32) (t := 3) ck_X_aLine_1 rfl) (gk (k := 32) (t := 4) ck_X_aLine_1 rfl) (gk (k := 32) (t := 5) ck_X_aLine_1 rfl) (by decide +kernel)
theorem d_X_aLine_42 : decode y_X_aLine.2.1 42 = .ok (.iconst 0, 1) := op_iconst0 (gk (k := 32) (t := 10) ck_X_aLine_1 rfl)
theorem d_X_aLine_38 : decode y_X_aLine.2.1 38 = .ok (.iconst 1, 1) := op_iconst1 (gk (k := 32) (t := 6) ck_X_aLine_1 rfl)
theorem d_X_aLine_39 : decode y_X_aLine.2.1 39 = .ok (.goto 4, 3) := op_goto (gk (k := 32) (t := 7) ck_X_aLine_1 rfl) (gk (k := 32) (t := 8) ck_X_aLine_1 rfl) (gk (k := 32) (t := 9) ck_X_aLine_1 rfl) (by decide +kernel)
theorem d_X_aLine_24 : decode y_X_aLine.2.1 24 = .ok (.aload_n 0, 1) := op_aload_n0 (gk (k := 0) (t := 24) ck_X_aLine_0 rfl)
theorem d_X_aLine_25 : decode y_X_aLine.2.1 25 = .ok (.iconst 3, 1) := op_iconst3 (gk (k := 0) (t := 25) ck_X_aLine_0 rfl)
theorem d_X_aLine_26 : decode y_X_aLine.2.1 26 = .ok (.invokevirtual 199, 3) := op_invokevirtual (gk (k := 0) (t := 26) ck_X_aLine_0 rfl) (gk (k := 0) (t := 27) ck_X_aLine_0 rfl) (gk (k := 0) (t := 28) ck_X_aLine_0 rfl) rfl
theorem d_X_aLine_29 : decode y_X_aLine.2.1 29 = .ok (.ireturn, 1) := op_ireturn (gk (k := 0) (t := 29) ck_X_aLine_0 rfl)
theorem d_X_aLine_9 : decode y_X_aLine.2.1 9 = .ok (.aload_n 0, 1) := op_aload_n0 (gk (k := 0) (t := 9) ck_X_aLine_0 rfl)
theorem d_X_aLine_10 : decode y_X_aLine.2.1 10 = .ok (.iconst 1, 1) := op_iconst1 (gk (k := 0) (t := 10) ck_X_aLine_0 rfl)
theorem d_X_aLine_11 : decode y_X_aLine.2.1 11 = .ok (.invokevirtual 199, 3) := op_invokevirtual (gk (k := 0) (t := 11) ck_X_aLine_0 rfl) (gk (k := 0) (t := 12) ck_X_aLine_0 rfl) (gk (k := 0) (t := 13) ck_X_aLine_0 rfl) rfl
theorem d_X_aLine_14 : decode y_X_aLine.2.1 14 = .ok (.ireturn, 1) := op_ireturn (gk (k := 0) (t := 14) ck_X_aLine_0 rfl)
abbrev y_X_text : MI := (⟨"SinglesUpModel", "text", "(I)I"⟩, prog_11_method_33_code, 4, some .int)
theorem ck_X_text_0 : (y_X_text.2.1.data.toList.drop 0).take 32 = [42, 3, 181, 0, 193, 27, 3, 7, 184, 0, 98, 154, 0, 20, 42, 3, 181, 0, 112, 42, 3, 181, 0, 247, 42, 2, 181, 0, 34, 2, 172, 42] := by decide +kernel
theorem d_X_text_0 : decode y_X_text.2.1 0 = .ok (.aload_n 0, 1) := op_aload_n0 (gk (k := 0) (t := 0) ck_X_text_0 rfl)
theorem d_X_text_1 : decode y_X_text.2.1 1 = .ok (.iconst 0, 1) := op_iconst0 (gk (k := 0) (t := 1) ck_X_text_0 rfl)
theorem d_X_text_2 : decode y_X_text.2.1 2 = .ok (.putfield 193, 3) := op_putfield (gk (k := 0) (t := 2) ck_X_text_0 rfl) (gk (k := 0) (t := 3) ck_X_text_0 rfl) (gk (k := 0) (t := 4) ck_X_text_0 rfl) rfl
theorem d_X_text_5 : decode y_X_text.2.1 5 = .ok (.iload_n 1, 1) := op_iload_n1 (gk (k := 0) (t := 5) ck_X_text_0 rfl)
theorem d_X_text_6 : decode y_X_text.2.1 6 = .ok (.iconst 0, 1) := op_iconst0 (gk (k := 0) (t := 6) ck_X_text_0 rfl)
theorem d_X_text_7 : decode y_X_text.2.1 7 = .ok (.iconst 4, 1) := op_iconst4 (gk (k := 0) (t := 7) ck_X_text_0 rfl)
theorem d_X_text_8 : decode y_X_text.2.1 8 = .ok (.invokestatic 98, 3) := op_invokestatic (gk (k := 0) (t := 8) ck_X_text_0 rfl) (gk (k := 0) (t := 9) ck_X_text_0 rfl) (gk (k := 0) (t := 10) ck_X_text_0 rfl) rfl
theorem d_X_text_11 : decode y_X_text.2.1 11 = .ok (.ifCond .ne 20, 3) := op_if_ne (gk (k := 0) (t := 11) ck_X_text_0 rfl) (gk (k := 0) (t := 12) ck_X_text_0 rfl) (gk (k := 0) (t := 13) ck_X_text_0 rfl) (by decide +kernel)
theorem d_X_text_31 : decode y_X_text.2.1 31 = .ok (.aload_n 0, 1) := op_aload_n0 (gk (k := 0) (t := 31) ck_X_text_0 rfl)
theorem ck_X_text_1 : (y_X_text.2.1.data.toList.drop 32).take 32 = [27, 181, 0, 166, 42, 3, 181, 0, 115, 42, 3, 181, 0, 244, 42, 3, 181, 0, 205, 42, 182, 0, 202, 4, 61, 28, 153, 0, 36, 42, 180, 0] := by decide +kernel
theorem d_X_text_32 : decode y_X_text.2.1 32 = .ok (.iload_n 1, 1) := op_iload_n1 (gk (k := 32) (t := 0) ck_X_text_1 rfl)
theorem d_X_text_33 : decode y_X_text.2.1 33 = .ok (.putfield 166, 3) := op_putfield (gk (k := 32) (t := 1) ck_X_text_1 rfl) (gk (k := 32) (t := 2) ck_X_text_1 rfl) (gk (k := 32) (t := 3) ck_X_text_1 rfl) rfl
theorem d_X_text_36 : decode y_X_text.2.1 36 = .ok (.aload_n 0, 1) := op_aload_n0 (gk (k := 32) (t := 4) ck_X_text_1 rfl)
theorem d_X_text_37 : decode y_X_text.2.1 37 = .ok (.iconst 0, 1) := op_iconst0 (gk (k := 32) (t := 5) ck_X_text_1 rfl)
theorem d_X_text_38 : decode y_X_text.2.1 38 = .ok (.putfield 115, 3) := op_putfield (gk (k := 32) (t := 6) ck_X_text_1 rfl) (gk (k := 32) (t := 7) ck_X_text_1 rfl) (gk (k := 32) (t := 8) ck_X_text_1 rfl) rfl
theorem d_X_text_41 : decode y_X_text.2.1 41 = .ok (.aload_n 0, 1) := op_aload_n0 (gk (k := 32) (t := 9) ck_X_text_1 rfl)
theorem d_X_text_42 : decode y_X_text.2.1 42 = .ok (.iconst 0, 1) := op_iconst0 (gk (k := 32) (t := 10) ck_X_text_1 rfl)
theorem d_X_text_43 : decode y_X_text.2.1 43 = .ok (.putfield 244, 3) := op_putfield (gk (k := 32) (t := 11) ck_X_text_1 rfl) (gk (k := 32) (t := 12) ck_X_text_1 rfl) (gk (k := 32) (t := 13) ck_X_text_1 rfl) rfl
theorem d_X_text_46 : decode y_X_text.2.1 46 = .ok (.aload_n 0, 1) := op_aload_n0 (gk (k := 32) (t := 14) ck_X_text_1 rfl)
theorem d_X_text_47 : decode y_X_text.2.1 47 = .ok (.iconst 0, 1) := op_iconst0 (gk (k := 32) (t := 15) ck_X_text_1 rfl)
theorem d_X_text_48 : decode y_X_text.2.1 48 = .ok (.putfield 205, 3) := op_putfield (gk (k := 32) (t := 16) ck_X_text_1 rfl) (gk (k := 32) (t := 17) ck_X_text_1 rfl) (gk (k := 32) (t := 18) ck_X_text_1 rfl) rfl
theorem d_X_text_51 : decode y_X_text.2.1 51 = .ok (.aload_n 0, 1) := op_aload_n0 (gk (k := 32) (t := 19) ck_X_text_1 rfl)
theorem d_X_text_52 : decode y_X_text.2.1 52 = .ok (.invokevirtual 202, 3) := op_invokevirtual (gk (k := 32) (t := 20) ck_X_text_1 rfl) (gk (k := 32) (t := 21) ck_X_text_1 rfl) (gk (k := 32) (t := 22) ck_X_text_1 rfl) rfl
theorem d_X_text_55 : decode y_X_text.2.1 55 = .ok (.iconst 1, 1) := op_iconst1 (gk (k := 32) (t := 23) ck_X_text_1 rfl)
theorem d_X_text_56 : decode y_X_text.2.1 56 = .ok (.istore_n 2, 1) := op_istore_n2 (gk (k := 32) (t := 24) ck_X_text_1 rfl)
theorem d_X_text_57 : decode y_X_text.2.1 57 = .ok (.iload_n 2, 1) := op_iload_n2 (gk (k := 32) (t := 25) ck_X_text_1 rfl)
theorem d_X_text_58 : decode y_X_text.2.1 58 = .ok (.ifCond .eq 36, 3) := op_if_eq (gk (k := 32) (t := 26) ck_X_text_1 rfl) (gk (k := 32) (t := 27) ck_X_text_1 rfl) (gk (k := 32) (t := 28) ck_X_text_1 rfl) (by decide +kernel)
theorem d_X_text_61 : decode y_X_text.2.1 61 = .ok (.aload_n 0, 1) := op_aload_n0 (gk (k := 32) (t := 29) ck_X_text_1 rfl)
theorem ck_X_text_2 : (y_X_text.2.1.data.toList.drop 64).take 32 = [178, 153, 0, 29, 42, 182, 0, 250, 61, 42, 89, 180, 0, 244, 28, 153, 0, 7, 4, 167, 0, 4, 3, 96, 181, 0, 244, 167, 255, 222, 42, 3] := by decide +kernel
theorem d_X_text_62 : decode y_X_text.2.1 62 = .ok (.getfield 178, 3) := op_getfield (gk (k := 32) (t := 30) ck_X_text_1 rfl) (gk (k := 32) (t := 31) ck_X_text_1 rfl) (gk (k := 64) (t := 0) ck_X_text_2 rfl) rfl
theorem d_X_text_65 : decode y_X_text.2.1 65 = .ok (.ifCond .eq 29, 3) := op_if_eq (gk (k := 64) (t := 1) ck_X_text_2 rfl) (gk (k := 64) (t := 2) ck_X_text_2 rfl) (gk (k := 64) (t := 3) ck_X_text_2 rfl) (by decide +kernel)
theorem d_X_text_68 : decode y_X_text.2.1 68 = .ok (.aload_n 0, 1) := op_aload_n0 (gk (k := 64) (t := 4) ck_X_text_2 rfl)
theorem lk_X_250 : LkV "SinglesUpModel" 250 y_X_aLine := ⟨tw_c6 102 (by decide +kernel) rfl, tw_in 46 (by decide +kernel) rfl, Or.inl (tw_c6 100 (by decide +kernel) rfl)⟩
set_option maxRecDepth 100000 in
theorem mo_X_aLine : MOk y_X_aLine 0 := ⟨by decide +kernel, tw_c6 103 rfl rfl, tw_c1 12 (by decide +kernel) rfl, by decide +kernel, by decide +kernel, by decide +kernel⟩
theorem d_X_text_69 : decode y_X_text.2.1 69 = .ok (.invokevirtual 250, 3) := op_invokevirtual (gk (k := 64) (t := 5) ck_X_text_2 rfl) (gk (k := 64) (t := 6) ck_X_text_2 rfl) (gk (k := 64) (t := 7) ck_X_text_2 rfl) rfl
theorem d_X_text_72 : decode y_X_text.2.1 72 = .ok (.istore_n 2, 1) := op_istore_n2 (gk (k := 64) (t := 8) ck_X_text_2 rfl)
theorem d_X_text_73 : decode y_X_text.2.1 73 = .ok (.aload_n 0, 1) := op_aload_n0 (gk (k := 64) (t := 9) ck_X_text_2 rfl)
theorem d_X_text_74 : decode y_X_text.2.1 74 = .ok (.dup, 1) := op_dup (gk (k := 64) (t := 10) ck_X_text_2 rfl)
theorem d_X_text_75 : decode y_X_text.2.1 75 = .ok (.getfield 244, 3) := op_getfield (gk (k := 64) (t := 11) ck_X_text_2 rfl) (gk (k := 64) (t := 12) ck_X_text_2 rfl) (gk (k := 64) (t := 13) ck_X_text_2 rfl) rfl
theorem d_X_text_78 : decode y_X_text.2.1 78 = .ok (.iload_n 2, 1) := op_iload_n2 (gk (k := 64) (t := 14) ck_X_text_2 rfl)
theorem d_X_text_87 : decode y_X_text.2.1 87 = .ok (.iadd, 1) := op_iadd (gk (k := 64) (t := 23) ck_X_text_2 rfl)
theorem d_X_text_88 : decode y_X_text.2.1 88 = .ok (.putfield 244, 3) := op_putfield (gk (k := 64) (t := 24) ck_X_text_2 rfl) (gk (k := 64) (t := 25) ck_X_text_2 rfl) (gk (k := 64) (t := 26) ck_X_text_2 rfl) rfl
theorem d_X_text_91 : decode y_X_text.2.1 91 = .ok (.goto (-34), 3) := op_goto (gk (k := 64) (t := 27) ck_X_text_2 rfl) (gk (k := 64) (t := 28) ck_X_text_2 rfl) (gk (k := 64) (t := 29) ck_X_text_2 rfl) (by decide +kernel)
theorem d_X_text_79 : decode y_X_text.2.1 79 = .ok (.ifCond .eq 7, 3) := op_if_eq (gk (k := 64) (t := 15) ck_X_text_2 rfl) (gk (k := 64) (t := 16) ck_X_text_2 rfl) (gk (k := 64) (t := 17) ck_X_text_2 rfl) (by decide +kernel)
theorem d_X_text_86 : decode y_X_text.2.1 86 = .ok (.iconst 0, 1) := op_iconst0 (gk (k := 64) (t := 22) ck_X_text_2 rfl)
theorem d_X_text_82 : decode y_X_text.2.1 82 = .ok (.iconst 1, 1) := op_iconst1 (gk (k := 64) (t := 18) ck_X_text_2 rfl)
theorem d_X_text_83 : decode y_X_text.2.1 83 = .ok (.goto 4, 3) := op_goto (gk (k := 64) (t := 19) ck_X_text_2 rfl) (gk (k := 64) (t := 20) ck_X_text_2 rfl) (gk (k := 64) (t := 21) ck_X_text_2 rfl) (by decide +kernel)
theorem d_X_text_94 : decode y_X_text.2.1 94 = .ok (.aload_n 0, 1) := op_aload_n0 (gk (k := 64) (t := 30) ck_X_text_2 rfl)
theorem d_X_text_95 : decode y_X_text.2.1 95 = .ok (.iconst 0, 1) := op_iconst0 (gk (k := 64) (t := 31) ck_X_text_2 rfl)
theorem ck_X_text_3 : (y_X_text.2.1.data.toList.drop 96).take 32 = [181, 0, 112, 42, 42, 180, 0, 193, 181, 0, 247, 42, 28, 153, 0, 7, 2, 167, 0, 7, 42, 180, 0, 196, 181, 0, 34, 28, 154, 0, 5, 2] := by decide +kernel
theorem d_X_text_96 : decode y_X_text.2.1 96 = .ok (.putfield 112, 3) := op_putfield (gk (k := 96) (t := 0) ck_X_text_3 rfl) (gk (k := 96) (t := 1) ck_X_text_3 rfl) (gk (k := 96) (t := 2) ck_X_text_3 rfl) rfl
theorem d_X_text_99 : decode y_X_text.2.1 99 = .ok (.aload_n 0, 1) := op_aload_n0 (gk (k := 96) (t := 3) ck_X_text_3 rfl)
theorem d_X_text_100 : decode y_X_text.2.1 100 = .ok (.aload_n 0, 1) := op_aload_n0 (gk (k := 96) (t := 4) ck_X_text_3 rfl)
theorem d_X_text_101 : decode y_X_text.2.1 101 = .ok (.getfield 193, 3) := op_getfield (gk (k := 96) (t := 5) ck_X_text_3 rfl) (gk (k := 96) (t := 6) ck_X_text_3 rfl) (gk (k := 96) (t := 7) ck_X_text_3 rfl) rfl
theorem fl_X_247 : FL "SinglesUpModel" 247 9 19 := ⟨"SinglesUpModel", zT9, 51, rfl, by decide, rfl, Or.inl (tw_c5 112 (by decide +kernel) rfl)⟩
theorem d_X_text_104 : decode y_X_text.2.1 104 = .ok (.putfield 247, 3) := op_putfield (gk (k := 96) (t := 8) ck_X_text_3 rfl) (gk (k := 96) (t := 9) ck_X_text_3 rfl) (gk (k := 96) (t := 10) ck_X_text_3 rfl) rfl
theorem d_X_text_107 : decode y_X_text.2.1 107 = .ok (.aload_n 0, 1) := op_aload_n0 (gk (k := 96) (t := 11) ck_X_text_3 rfl)
theorem d_X_text_108 : decode y_X_text.2.1 108 = .ok (.iload_n 2, 1) := op_iload_n2 (gk (k := 96) (t := 12) ck_X_text_3 rfl)
theorem fl_X_34 : FL "SinglesUpModel" 34 9 21 := ⟨"SinglesUpModel", zT9, 51, rfl, by decide, rfl, Or.inl (tw_c5 114 (by decide +kernel) rfl)⟩
theorem d_X_text_120 : decode y_X_text.2.1 120 = .ok (.putfield 34, 3) := op_putfield (gk (k := 96) (t := 24) ck_X_text_3 rfl) (gk (k := 96) (t := 25) ck_X_text_3 rfl) (gk (k := 96) (t := 26) ck_X_text_3 rfl) rfl
theorem d_X_text_123 : decode y_X_text.2.1 123 = .ok (.iload_n 2, 1) := op_iload_n2 (gk (k := 96) (t := 27) ck_X_text_3 rfl)
theorem d_X_text_124 : decode y_X_text.2.1 124 = .ok (.ifCond .ne 5, 3) := op_if_ne (gk (k := 96) (t := 28) ck_X_text_3 rfl) (gk (k := 96) (t := 29) ck_X_text_3 rfl) (gk (k := 96) (t := 30) ck_X_text_3 rfl) (by decide +kernel)
theorem ck_X_text_4 : (y_X_text.2.1.data.toList.drop 128).take 32 = [172, 42, 180, 0, 7, 17, 6, 44, 27, 96, 42, 180, 0, 244, 79, 3, 62, 29, 42, 180, 0, 244, 162, 0, 107, 42, 180, 0, 7, 17, 6, 54] := by decide +kernel
theorem d_X_text_129 : decode y_X_text.2.1 129 = .ok (.aload_n 0, 1) := op_aload_n0 (gk (k := 128) (t := 1) ck_X_text_4 rfl)
theorem d_X_text_130 : decode y_X_text.2.1 130 = .ok (.getfield 7, 3) := op_getfield (gk (k := 128) (t := 2) ck_X_text_4 rfl) (gk (k := 128) (t := 3) ck_X_text_4 rfl) (gk (k := 128) (t := 4) ck_X_text_4 rfl) rfl
theorem cs_1580 : (Int16.ofInt 1580).toInt32 = iv 1580 := by decide +kernel
theorem d_X_text_133 : decode y_X_text.2.1 133 = .ok (.sipush 1580, 3) := op_sipush (gk (k := 128) (t := 5) ck_X_text_4 rfl) (gk (k := 128) (t := 6) ck_X_text_4 rfl) (gk (k := 128) (t := 7) ck_X_text_4 rfl) (by decide +kernel)
theorem d_X_text_136 : decode y_X_text.2.1 136 = .ok (.iload_n 1, 1) := op_iload_n1 (gk (k := 128) (t := 8) ck_X_text_4 rfl)
theorem d_X_text_137 : decode y_X_text.2.1 137 = .ok (.iadd, 1) := op_iadd (gk (k := 128) (t := 9) ck_X_text_4 rfl)
theorem d_X_text_138 : decode y_X_text.2.1 138 = .ok (.aload_n 0, 1) := op_aload_n0 (gk (k := 128) (t := 10) ck_X_text_4 rfl)
theorem d_X_text_139 : decode y_X_text.2.1 139 = .ok (.getfield 244, 3) := op_getfield (gk (k := 128) (t := 11) ck_X_text_4 rfl) (gk (k := 128) (t := 12) ck_X_text_4 rfl) (gk (k := 128) (t := 13) ck_X_text_4 rfl) rfl
theorem d_X_text_142 : decode y_X_text.2.1 142 = .ok (.iastore, 1) := op_iastore (gk (k := 128) (t := 14) ck_X_text_4 rfl)
theorem d_X_text_143 : decode y_X_text.2.1 143 = .ok (.iconst 0, 1) := op_iconst0 (gk (k := 128) (t := 15) ck_X_text_4 rfl)
theorem d_X_text_144 : decode y_X_text.2.1 144 = .ok (.istore_n 3, 1) := op_istore_n3 (gk (k := 128) (t := 16) ck_X_text_4 rfl)
theorem d_X_text_145 : decode y_X_text.2.1 145 = .ok (.iload_n 3, 1) := op_iload_n3 (gk (k := 128) (t := 17) ck_X_text_4 rfl)
theorem d_X_text_146 : decode y_X_text.2.1 146 = .ok (.aload_n 0, 1) := op_aload_n0 (gk (k := 128) (t := 18) ck_X_text_4 rfl)
theorem d_X_text_147 : decode y_X_text.2.1 147 = .ok (.getfield 244, 3) := op_getfield (gk (k := 128) (t := 19) ck_X_text_4 rfl) (gk (k := 128) (t := 20) ck_X_text_4 rfl) (gk (k := 128) (t := 21) ck_X_text_4 rfl) rfl
theorem d_X_text_150 : decode y_X_text.2.1 150 = .ok (.if_icmp .ge 107, 3) := op_icmp_ge (gk (k := 128) (t := 22) ck_X_text_4 rfl) (gk (k := 128) (t := 23) ck_X_text_4 rfl) (gk (k := 128) (t := 24) ck_X_text_4 rfl) (by decide +kernel)
theorem d_X_text_153 : decode y_X_text.2.1 153 = .ok (.aload_n 0, 1) := op_aload_n0 (gk (k := 128) (t := 25) ck_X_text_4 rfl)
theorem d_X_text_154 : decode y_X_text.2.1 154 = .ok (.getfield 7, 3) := op_getfield (gk (k := 128) (t := 26) ck_X_text_4 rfl) (gk (k := 128) (t := 27) ck_X_text_4 rfl) (gk (k := 128) (t := 28) ck_X_text_4 rfl) rfl
theorem cs_1590 : (Int16.ofInt 1590).toInt32 = iv 1590 := by decide +kernel
theorem d_X_text_157 : decode y_X_text.2.1 157 = .ok (.sipush 1590, 3) := op_sipush (gk (k := 128) (t := 29) ck_X_text_4 rfl) (gk (k := 128) (t := 30) ck_X_text_4 rfl) (gk (k := 128) (t := 31) ck_X_text_4 rfl) (by decide +kernel)
theorem ck_X_text_5 : (y_X_text.2.1.data.toList.drop 160).take 32 = [16, 16, 27, 104, 96, 29, 96, 42, 180, 0, 19, 7, 29, 104, 46, 79, 42, 180, 0, 7, 17, 6, 134, 16, 16, 27, 104, 96, 29, 96, 42, 180] := by decide +kernel
theorem d_X_text_160 : decode y_X_text.2.1 160 = .ok (.bipush 16, 2) := op_bipush (gk (k := 160) (t := 0) ck_X_text_5 rfl) (gk (k := 160) (t := 1) ck_X_text_5 rfl) rfl
theorem d_X_text_162 : decode y_X_text.2.1 162 = .ok (.iload_n 1, 1) := op_iload_n1 (gk (k := 160) (t := 2) ck_X_text_5 rfl)
theorem d_X_text_163 : decode y_X_text.2.1 163 = .ok (.imul, 1) := op_imul (gk (k := 160) (t := 3) ck_X_text_5 rfl)
theorem d_X_text_164 : decode y_X_text.2.1 164 = .ok (.iadd, 1) := op_iadd (gk (k := 160) (t := 4) ck_X_text_5 rfl)
theorem d_X_text_165 : decode y_X_text.2.1 165 = .ok (.iload_n 3, 1) := op_iload_n3 (gk (k := 160) (t := 5) ck_X_text_5 rfl)
theorem d_X_text_166 : decode y_X_text.2.1 166 = .ok (.iadd, 1) := op_iadd (gk (k := 160) (t := 6) ck_X_text_5 rfl)
theorem d_X_text_167 : decode y_X_text.2.1 167 = .ok (.aload_n 0, 1) := op_aload_n0 (gk (k := 160) (t := 7) ck_X_text_5 rfl)
theorem d_X_text_168 : decode y_X_text.2.1 168 = .ok (.getfield 19, 3) := op_getfield (gk (k := 160) (t := 8) ck_X_text_5 rfl) (gk (k := 160) (t := 9) ck_X_text_5 rfl) (gk (k := 160) (t := 10) ck_X_text_5 rfl) rfl
theorem d_X_text_171 : decode y_X_text.2.1 171 = .ok (.iconst 4, 1) := op_iconst4 (gk (k := 160) (t := 11) ck_X_text_5 rfl)
theorem d_X_text_172 : decode y_X_text.2.1 172 = .ok (.iload_n 3, 1) := op_iload_n3 (gk (k := 160) (t := 12) ck_X_text_5 rfl)
theorem d_X_text_173 : decode y_X_text.2.1 173 = .ok (.imul, 1) := op_imul (gk (k := 160) (t := 13) ck_X_text_5 rfl)
theorem d_X_text_174 : decode y_X_text.2.1 174 = .ok (.iaload, 1) := op_iaload (gk (k := 160) (t := 14) ck_X_text_5 rfl)
theorem d_X_text_175 : decode y_X_text.2.1 175 = .ok (.iastore, 1) := op_iastore (gk (k := 160) (t := 15) ck_X_text_5 rfl)
theorem d_X_text_176 : decode y_X_text.2.1 176 = .ok (.aload_n 0, 1) := op_aload_n0 (gk (k := 160) (t := 16) ck_X_text_5 rfl)
theorem d_X_text_177 : decode y_X_text.2.1 177 = .ok (.getfield 7, 3) := op_getfield (gk (k := 160) (t := 17) ck_X_text_5 rfl) (gk (k := 160) (t := 18) ck_X_text_5 rfl) (gk (k := 160) (t := 19) ck_X_text_5 rfl) rfl
theorem cs_1670 : (Int16.ofInt 1670).toInt32 = iv 1670 := by decide +kernel
theorem d_X_text_180 : decode y_X_text.2.1 180 = .ok (.sipush 1670, 3) := op_sipush (gk (k := 160) (t := 20) ck_X_text_5 rfl) (gk (k := 160) (t := 21) ck_X_text_5 rfl) (gk (k := 160) (t := 22) ck_X_text_5 rfl) (by decide +kernel)
theorem d_X_text_183 : decode y_X_text.2.1 183 = .ok (.bipush 16, 2) := op_bipush (gk (k := 160) (t := 23) ck_X_text_5 rfl) (gk (k := 160) (t := 24) ck_X_text_5 rfl) rfl
theorem d_X_text_185 : decode y_X_text.2.1 185 = .ok (.iload_n 1, 1) := op_iload_n1 (gk (k := 160) (t := 25) ck_X_text_5 rfl)
theorem d_X_text_186 : decode y_X_text.2.1 186 = .ok (.imul, 1) := op_imul (gk (k := 160) (t := 26) ck_X_text_5 rfl)
theorem d_X_text_187 : decode y_X_text.2.1 187 = .ok (.iadd, 1) := op_iadd (gk (k := 160) (t := 27) ck_X_text_5 rfl)
theorem d_X_text_188 : decode y_X_text.2.1 188 = .ok (.iload_n 3, 1) := op_iload_n3 (gk (k := 160) (t := 28) ck_X_text_5 rfl)
theorem d_X_text_189 : decode y_X_text.2.1 189 = .ok (.iadd, 1) := op_iadd (gk (k := 160) (t := 29) ck_X_text_5 rfl)
theorem d_X_text_190 : decode y_X_text.2.1 190 = .ok (.aload_n 0, 1) := op_aload_n0 (gk (k := 160) (t := 30) ck_X_text_5 rfl)
theorem ck_X_text_6 : (y_X_text.2.1.data.toList.drop 192).take 32 = [0, 19, 7, 29, 104, 4, 96, 46, 79, 42, 180, 0, 7, 17, 6, 214, 16, 16, 27, 104, 96, 29, 96, 42, 180, 0, 19, 7, 29, 104, 5, 96] := by decide +kernel
theorem d_X_text_191 : decode y_X_text.2.1 191 = .ok (.getfield 19, 3) := op_getfield (gk (k := 160) (t := 31) ck_X_text_5 rfl) (gk (k := 192) (t := 0) ck_X_text_6 rfl) (gk (k := 192) (t := 1) ck_X_text_6 rfl) rfl
theorem d_X_text_194 : decode y_X_text.2.1 194 = .ok (.iconst 4, 1) := op_iconst4 (gk (k := 192) (t := 2) ck_X_text_6 rfl)
theorem d_X_text_195 : decode y_X_text.2.1 195 = .ok (.iload_n 3, 1) := op_iload_n3 (gk (k := 192) (t := 3) ck_X_text_6 rfl)
theorem d_X_text_196 : decode y_X_text.2.1 196 = .ok (.imul, 1) := op_imul (gk (k := 192) (t := 4) ck_X_text_6 rfl)
theorem d_X_text_197 : decode y_X_text.2.1 197 = .ok (.iconst 1, 1) := op_iconst1 (gk (k := 192) (t := 5) ck_X_text_6 rfl)
theorem d_X_text_198 : decode y_X_text.2.1 198 = .ok (.iadd, 1) := op_iadd (gk (k := 192) (t := 6) ck_X_text_6 rfl)
theorem d_X_text_199 : decode y_X_text.2.1 199 = .ok (.iaload, 1) := op_iaload (gk (k := 192) (t := 7) ck_X_text_6 rfl)
theorem d_X_text_200 : decode y_X_text.2.1 200 = .ok (.iastore, 1) := op_iastore (gk (k := 192) (t := 8) ck_X_text_6 rfl)
theorem d_X_text_201 : decode y_X_text.2.1 201 = .ok (.aload_n 0, 1) := op_aload_n0 (gk (k := 192) (t := 9) ck_X_text_6 rfl)
theorem d_X_text_202 : decode y_X_text.2.1 202 = .ok (.getfield 7, 3) := op_getfield (gk (k := 192) (t := 10) ck_X_text_6 rfl) (gk (k := 192) (t := 11) ck_X_text_6 rfl) (gk (k := 192) (t := 12) ck_X_text_6 rfl) rfl
theorem cs_1750 : (Int16.ofInt 1750).toInt32 = iv 1750 := by decide +kernel
theorem d_X_text_205 : decode y_X_text.2.1 205 = .ok (.sipush 1750, 3) := op_sipush (gk (k := 192) (t := 13) ck_X_text_6 rfl) (gk (k := 192) (t := 14) ck_X_text_6 rfl) (gk (k := 192) (t := 15) ck_X_text_6 rfl) (by decide +kernel)
theorem d_X_text_208 : decode y_X_text.2.1 208 = .ok (.bipush 16, 2) := op_bipush (gk (k := 192) (t := 16) ck_X_text_6 rfl) (gk (k := 192) (t := 17) ck_X_text_6 rfl) rfl
theorem d_X_text_210 : decode y_X_text.2.1 210 = .ok (.iload_n 1, 1) := op_iload_n1 (gk (k := 192) (t := 18) ck_X_text_6 rfl)
theorem d_X_text_211 : decode y_X_text.2.1 211 = .ok (.imul, 1) := op_imul (gk (k := 192) (t := 19) ck_X_text_6 rfl)
theorem d_X_text_212 : decode y_X_text.2.1 212 = .ok (.iadd, 1) := op_iadd (gk (k := 192) (t := 20) ck_X_text_6 rfl)
theorem d_X_text_213 : decode y_X_text.2.1 213 = .ok (.iload_n 3, 1) := op_iload_n3 (gk (k := 192) (t := 21) ck_X_text_6 rfl)
theorem d_X_text_214 : decode y_X_text.2.1 214 = .ok (.iadd, 1) := op_iadd (gk (k := 192) (t := 22) ck_X_text_6 rfl)
theorem d_X_text_215 : decode y_X_text.2.1 215 = .ok (.aload_n 0, 1) := op_aload_n0 (gk (k := 192) (t := 23) ck_X_text_6 rfl)
theorem d_X_text_216 : decode y_X_text.2.1 216 = .ok (.getfield 19, 3) := op_getfield (gk (k := 192) (t := 24) ck_X_text_6 rfl) (gk (k := 192) (t := 25) ck_X_text_6 rfl) (gk (k := 192) (t := 26) ck_X_text_6 rfl) rfl
theorem d_X_text_219 : decode y_X_text.2.1 219 = .ok (.iconst 4, 1) := op_iconst4 (gk (k := 192) (t := 27) ck_X_text_6 rfl)
theorem d_X_text_220 : decode y_X_text.2.1 220 = .ok (.iload_n 3, 1) := op_iload_n3 (gk (k := 192) (t := 28) ck_X_text_6 rfl)
theorem d_X_text_221 : decode y_X_text.2.1 221 = .ok (.imul, 1) := op_imul (gk (k := 192) (t := 29) ck_X_text_6 rfl)
theorem d_X_text_222 : decode y_X_text.2.1 222 = .ok (.iconst 2, 1) := op_iconst2 (gk (k := 192) (t := 30) ck_X_text_6 rfl)
theorem d_X_text_223 : decode y_X_text.2.1 223 = .ok (.iadd, 1) := op_iadd (gk (k := 192) (t := 31) ck_X_text_6 rfl)
theorem ck_X_text_7 : (y_X_text.2.1.data.toList.drop 224).take 32 = [46, 79, 42, 180, 0, 7, 17, 7, 38, 16, 16, 27, 104, 96, 29, 96, 42, 180, 0, 19, 7, 29, 104, 6, 96, 46, 79, 132, 3, 1, 167, 255] := by decide +kernel
theorem d_X_text_224 : decode y_X_text.2.1 224 = .ok (.iaload, 1) := op_iaload (gk (k := 224) (t := 0) ck_X_text_7 rfl)
theorem d_X_text_225 : decode y_X_text.2.1 225 = .ok (.iastore, 1) := op_iastore (gk (k := 224) (t := 1) ck_X_text_7 rfl)
theorem d_X_text_226 : decode y_X_text.2.1 226 = .ok (.aload_n 0, 1) := op_aload_n0 (gk (k := 224) (t := 2) ck_X_text_7 rfl)
theorem d_X_text_227 : decode y_X_text.2.1 227 = .ok (.getfield 7, 3) := op_getfield (gk (k := 224) (t := 3) ck_X_text_7 rfl) (gk (k := 224) (t := 4) ck_X_text_7 rfl) (gk (k := 224) (t := 5) ck_X_text_7 rfl) rfl
theorem cs_1830 : (Int16.ofInt 1830).toInt32 = iv 1830 := by decide +kernel
theorem d_X_text_230 : decode y_X_text.2.1 230 = .ok (.sipush 1830, 3) := op_sipush (gk (k := 224) (t := 6) ck_X_text_7 rfl) (gk (k := 224) (t := 7) ck_X_text_7 rfl) (gk (k := 224) (t := 8) ck_X_text_7 rfl) (by decide +kernel)
theorem d_X_text_233 : decode y_X_text.2.1 233 = .ok (.bipush 16, 2) := op_bipush (gk (k := 224) (t := 9) ck_X_text_7 rfl) (gk (k := 224) (t := 10) ck_X_text_7 rfl) rfl
theorem d_X_text_235 : decode y_X_text.2.1 235 = .ok (.iload_n 1, 1) := op_iload_n1 (gk (k := 224) (t := 11) ck_X_text_7 rfl)
theorem d_X_text_236 : decode y_X_text.2.1 236 = .ok (.imul, 1) := op_imul (gk (k := 224) (t := 12) ck_X_text_7 rfl)
theorem d_X_text_237 : decode y_X_text.2.1 237 = .ok (.iadd, 1) := op_iadd (gk (k := 224) (t := 13) ck_X_text_7 rfl)
theorem d_X_text_238 : decode y_X_text.2.1 238 = .ok (.iload_n 3, 1) := op_iload_n3 (gk (k := 224) (t := 14) ck_X_text_7 rfl)
theorem d_X_text_239 : decode y_X_text.2.1 239 = .ok (.iadd, 1) := op_iadd (gk (k := 224) (t := 15) ck_X_text_7 rfl)
theorem d_X_text_240 : decode y_X_text.2.1 240 = .ok (.aload_n 0, 1) := op_aload_n0 (gk (k := 224) (t := 16) ck_X_text_7 rfl)
theorem d_X_text_241 : decode y_X_text.2.1 241 = .ok (.getfield 19, 3) := op_getfield (gk (k := 224) (t := 17) ck_X_text_7 rfl) (gk (k := 224) (t := 18) ck_X_text_7 rfl) (gk (k := 224) (t := 19) ck_X_text_7 rfl) rfl
theorem d_X_text_244 : decode y_X_text.2.1 244 = .ok (.iconst 4, 1) := op_iconst4 (gk (k := 224) (t := 20) ck_X_text_7 rfl)
theorem d_X_text_245 : decode y_X_text.2.1 245 = .ok (.iload_n 3, 1) := op_iload_n3 (gk (k := 224) (t := 21) ck_X_text_7 rfl)
theorem d_X_text_246 : decode y_X_text.2.1 246 = .ok (.imul, 1) := op_imul (gk (k := 224) (t := 22) ck_X_text_7 rfl)
theorem d_X_text_247 : decode y_X_text.2.1 247 = .ok (.iconst 3, 1) := op_iconst3 (gk (k := 224) (t := 23) ck_X_text_7 rfl)
theorem d_X_text_248 : decode y_X_text.2.1 248 = .ok (.iadd, 1) := op_iadd (gk (k := 224) (t := 24) ck_X_text_7 rfl)
theorem d_X_text_249 : decode y_X_text.2.1 249 = .ok (.iaload, 1) := op_iaload (gk (k := 224) (t := 25) ck_X_text_7 rfl)
theorem d_X_text_250 : decode y_X_text.2.1 250 = .ok (.iastore, 1) := op_iastore (gk (k := 224) (t := 26) ck_X_text_7 rfl)
theorem d_X_text_251 : decode y_X_text.2.1 251 = .ok (.iinc 3 1, 3) := op_iinc (gk (k := 224) (t := 27) ck_X_text_7 rfl) (gk (k := 224) (t := 28) ck_X_text_7 rfl) (gk (k := 224) (t := 29) ck_X_text_7 rfl) rfl rfl
theorem ck_X_text_8 : (y_X_text.2.1.data.toList.drop 256).take 32 = [147, 3, 62, 29, 5, 42, 180, 0, 205, 104, 162, 0, 31, 42, 180, 0, 7, 17, 7, 118, 17, 3, 52, 27, 104, 96, 29, 96, 42, 180, 0, 22] := by decide +kernel
theorem d_X_text_254 : decode y_X_text.2.1 254 = .ok (.goto (-109), 3) := op_goto (gk (k := 224) (t := 30) ck_X_text_7 rfl) (gk (k := 224) (t := 31) ck_X_text_7 rfl) (gk (k := 256) (t := 0) ck_X_text_8 rfl) (by decide +kernel)
theorem d_X_text_257 : decode y_X_text.2.1 257 = .ok (.iconst 0, 1) := op_iconst0 (gk (k := 256) (t := 1) ck_X_text_8 rfl)
theorem d_X_text_258 : decode y_X_text.2.1 258 = .ok (.istore_n 3, 1) := op_istore_n3 (gk (k := 256) (t := 2) ck_X_text_8 rfl)
theorem d_X_text_259 : decode y_X_text.2.1 259 = .ok (.iload_n 3, 1) := op_iload_n3 (gk (k := 256) (t := 3) ck_X_text_8 rfl)
theorem d_X_text_260 : decode y_X_text.2.1 260 = .ok (.iconst 2, 1) := op_iconst2 (gk (k := 256) (t := 4) ck_X_text_8 rfl)
theorem d_X_text_261 : decode y_X_text.2.1 261 = .ok (.aload_n 0, 1) := op_aload_n0 (gk (k := 256) (t := 5) ck_X_text_8 rfl)
theorem d_X_text_262 : decode y_X_text.2.1 262 = .ok (.getfield 205, 3) := op_getfield (gk (k := 256) (t := 6) ck_X_text_8 rfl) (gk (k := 256) (t := 7) ck_X_text_8 rfl) (gk (k := 256) (t := 8) ck_X_text_8 rfl) rfl
theorem d_X_text_265 : decode y_X_text.2.1 265 = .ok (.imul, 1) := op_imul (gk (k := 256) (t := 9) ck_X_text_8 rfl)
theorem d_X_text_266 : decode y_X_text.2.1 266 = .ok (.if_icmp .ge 31, 3) := op_icmp_ge (gk (k := 256) (t := 10) ck_X_text_8 rfl) (gk (k := 256) (t := 11) ck_X_text_8 rfl) (gk (k := 256) (t := 12) ck_X_text_8 rfl) (by decide +kernel)
theorem ck_X_text_9 : (y_X_text.2.1.data.toList.drop 288).take 32 = [29, 46, 79, 132, 3, 1, 167, 255, 221, 42, 180, 0, 244, 172] := by decide +kernel
theorem d_X_text_297 : decode y_X_text.2.1 297 = .ok (.aload_n 0, 1) := op_aload_n0 (gk (k := 288) (t := 9) ck_X_text_9 rfl)
theorem d_X_text_298 : decode y_X_text.2.1 298 = .ok (.getfield 244, 3) := op_getfield (gk (k := 288) (t := 10) ck_X_text_9 rfl) (gk (k := 288) (t := 11) ck_X_text_9 rfl) (gk (k := 288) (t := 12) ck_X_text_9 rfl) rfl
theorem d_X_text_301 : decode y_X_text.2.1 301 = .ok (.ireturn, 1) := op_ireturn (gk (k := 288) (t := 13) ck_X_text_9 rfl)
theorem d_X_text_269 : decode y_X_text.2.1 269 = .ok (.aload_n 0, 1) := op_aload_n0 (gk (k := 256) (t := 13) ck_X_text_8 rfl)
theorem d_X_text_270 : decode y_X_text.2.1 270 = .ok (.getfield 7, 3) := op_getfield (gk (k := 256) (t := 14) ck_X_text_8 rfl) (gk (k := 256) (t := 15) ck_X_text_8 rfl) (gk (k := 256) (t := 16) ck_X_text_8 rfl) rfl
theorem cs_1910 : (Int16.ofInt 1910).toInt32 = iv 1910 := by decide +kernel
theorem d_X_text_273 : decode y_X_text.2.1 273 = .ok (.sipush 1910, 3) := op_sipush (gk (k := 256) (t := 17) ck_X_text_8 rfl) (gk (k := 256) (t := 18) ck_X_text_8 rfl) (gk (k := 256) (t := 19) ck_X_text_8 rfl) (by decide +kernel)
theorem cs_820 : (Int16.ofInt 820).toInt32 = iv 820 := by decide +kernel
theorem d_X_text_276 : decode y_X_text.2.1 276 = .ok (.sipush 820, 3) := op_sipush (gk (k := 256) (t := 20) ck_X_text_8 rfl) (gk (k := 256) (t := 21) ck_X_text_8 rfl) (gk (k := 256) (t := 22) ck_X_text_8 rfl) (by decide +kernel)
theorem d_X_text_279 : decode y_X_text.2.1 279 = .ok (.iload_n 1, 1) := op_iload_n1 (gk (k := 256) (t := 23) ck_X_text_8 rfl)
theorem d_X_text_280 : decode y_X_text.2.1 280 = .ok (.imul, 1) := op_imul (gk (k := 256) (t := 24) ck_X_text_8 rfl)
theorem d_X_text_281 : decode y_X_text.2.1 281 = .ok (.iadd, 1) := op_iadd (gk (k := 256) (t := 25) ck_X_text_8 rfl)
theorem d_X_text_282 : decode y_X_text.2.1 282 = .ok (.iload_n 3, 1) := op_iload_n3 (gk (k := 256) (t := 26) ck_X_text_8 rfl)
theorem d_X_text_283 : decode y_X_text.2.1 283 = .ok (.iadd, 1) := op_iadd (gk (k := 256) (t := 27) ck_X_text_8 rfl)
theorem d_X_text_284 : decode y_X_text.2.1 284 = .ok (.aload_n 0, 1) := op_aload_n0 (gk (k := 256) (t := 28) ck_X_text_8 rfl)
theorem d_X_text_285 : decode y_X_text.2.1 285 = .ok (.getfield 22, 3) := op_getfield (gk (k := 256) (t := 29) ck_X_text_8 rfl) (gk (k := 256) (t := 30) ck_X_text_8 rfl) (gk (k := 256) (t := 31) ck_X_text_8 rfl) rfl
theorem d_X_text_288 : decode y_X_text.2.1 288 = .ok (.iload_n 3, 1) := op_iload_n3 (gk (k := 288) (t := 0) ck_X_text_9 rfl)
theorem d_X_text_289 : decode y_X_text.2.1 289 = .ok (.iaload, 1) := op_iaload (gk (k := 288) (t := 1) ck_X_text_9 rfl)
theorem d_X_text_290 : decode y_X_text.2.1 290 = .ok (.iastore, 1) := op_iastore (gk (k := 288) (t := 2) ck_X_text_9 rfl)
theorem d_X_text_291 : decode y_X_text.2.1 291 = .ok (.iinc 3 1, 3) := op_iinc (gk (k := 288) (t := 3) ck_X_text_9 rfl) (gk (k := 288) (t := 4) ck_X_text_9 rfl) (gk (k := 288) (t := 5) ck_X_text_9 rfl) rfl rfl
theorem d_X_text_294 : decode y_X_text.2.1 294 = .ok (.goto (-35), 3) := op_goto (gk (k := 288) (t := 6) ck_X_text_9 rfl) (gk (k := 288) (t := 7) ck_X_text_9 rfl) (gk (k := 288) (t := 8) ck_X_text_9 rfl) (by decide +kernel)
theorem d_X_text_127 : decode y_X_text.2.1 127 = .ok (.iconst (-1), 1) := op_iconstm1 (gk (k := 96) (t := 31) ck_X_text_3 rfl)
theorem d_X_text_128 : decode y_X_text.2.1 128 = .ok (.ireturn, 1) := op_ireturn (gk (k := 128) (t := 0) ck_X_text_4 rfl)
theorem d_X_text_109 : decode y_X_text.2.1 109 = .ok (.ifCond .eq 7, 3) := op_if_eq (gk (k := 96) (t := 13) ck_X_text_3 rfl) (gk (k := 96) (t := 14) ck_X_text_3 rfl) (gk (k := 96) (t := 15) ck_X_text_3 rfl) (by decide +kernel)
theorem d_X_text_116 : decode y_X_text.2.1 116 = .ok (.aload_n 0, 1) := op_aload_n0 (gk (k := 96) (t := 20) ck_X_text_3 rfl)
theorem d_X_text_117 : decode y_X_text.2.1 117 = .ok (.getfield 196, 3) := op_getfield (gk (k := 96) (t := 21) ck_X_text_3 rfl) (gk (k := 96) (t := 22) ck_X_text_3 rfl) (gk (k := 96) (t := 23) ck_X_text_3 rfl) rfl
theorem d_X_text_112 : decode y_X_text.2.1 112 = .ok (.iconst (-1), 1) := op_iconstm1 (gk (k := 96) (t := 16) ck_X_text_3 rfl)
theorem d_X_text_113 : decode y_X_text.2.1 113 = .ok (.goto 7, 3) := op_goto (gk (k := 96) (t := 17) ck_X_text_3 rfl) (gk (k := 96) (t := 18) ck_X_text_3 rfl) (gk (k := 96) (t := 19) ck_X_text_3 rfl) (by decide +kernel)
theorem d_X_text_14 : decode y_X_text.2.1 14 = .ok (.aload_n 0, 1) := op_aload_n0 (gk (k := 0) (t := 14) ck_X_text_0 rfl)
theorem d_X_text_15 : decode y_X_text.2.1 15 = .ok (.iconst 0, 1) := op_iconst0 (gk (k := 0) (t := 15) ck_X_text_0 rfl)
theorem d_X_text_16 : decode y_X_text.2.1 16 = .ok (.putfield 112, 3) := op_putfield (gk (k := 0) (t := 16) ck_X_text_0 rfl) (gk (k := 0) (t := 17) ck_X_text_0 rfl) (gk (k := 0) (t := 18) ck_X_text_0 rfl) rfl
theorem d_X_text_19 : decode y_X_text.2.1 19 = .ok (.aload_n 0, 1) := op_aload_n0 (gk (k := 0) (t := 19) ck_X_text_0 rfl)
theorem d_X_text_20 : decode y_X_text.2.1 20 = .ok (.iconst 0, 1) := op_iconst0 (gk (k := 0) (t := 20) ck_X_text_0 rfl)
theorem d_X_text_21 : decode y_X_text.2.1 21 = .ok (.putfield 247, 3) := op_putfield (gk (k := 0) (t := 21) ck_X_text_0 rfl) (gk (k := 0) (t := 22) ck_X_text_0 rfl) (gk (k := 0) (t := 23) ck_X_text_0 rfl) rfl
theorem d_X_text_24 : decode y_X_text.2.1 24 = .ok (.aload_n 0, 1) := op_aload_n0 (gk (k := 0) (t := 24) ck_X_text_0 rfl)
theorem d_X_text_25 : decode y_X_text.2.1 25 = .ok (.iconst (-1), 1) := op_iconstm1 (gk (k := 0) (t := 25) ck_X_text_0 rfl)
theorem d_X_text_26 : decode y_X_text.2.1 26 = .ok (.putfield 34, 3) := op_putfield (gk (k := 0) (t := 26) ck_X_text_0 rfl) (gk (k := 0) (t := 27) ck_X_text_0 rfl) (gk (k := 0) (t := 28) ck_X_text_0 rfl) rfl
theorem d_X_text_29 : decode y_X_text.2.1 29 = .ok (.iconst (-1), 1) := op_iconstm1 (gk (k := 0) (t := 29) ck_X_text_0 rfl)
theorem d_X_text_30 : decode y_X_text.2.1 30 = .ok (.ireturn, 1) := op_ireturn (gk (k := 0) (t := 30) ck_X_text_0 rfl)
abbrev y_X_fault : MI := (⟨"SinglesUpModel", "fault", "(I)I"⟩, prog_11_method_34_code, 2, some .int)
theorem ck_X_fault_0 : (y_X_fault.2.1.data.toList.drop 0).take 32 = [27, 154, 0, 10, 42, 180, 0, 247, 167, 0, 16, 27, 4, 160, 0, 10, 42, 180, 0, 34, 167, 0, 4, 2, 172] := by decide +kernel
theorem d_X_fault_0 : decode y_X_fault.2.1 0 = .ok (.iload_n 1, 1) := op_iload_n1 (gk (k := 0) (t := 0) ck_X_fault_0 rfl)
theorem d_X_fault_1 : decode y_X_fault.2.1 1 = .ok (.ifCond .ne 10, 3) := op_if_ne (gk (k := 0) (t := 1) ck_X_fault_0 rfl) (gk (k := 0) (t := 2) ck_X_fault_0 rfl) (gk (k := 0) (t := 3) ck_X_fault_0 rfl) (by decide +kernel)
theorem d_X_fault_11 : decode y_X_fault.2.1 11 = .ok (.iload_n 1, 1) := op_iload_n1 (gk (k := 0) (t := 11) ck_X_fault_0 rfl)
theorem d_X_fault_12 : decode y_X_fault.2.1 12 = .ok (.iconst 1, 1) := op_iconst1 (gk (k := 0) (t := 12) ck_X_fault_0 rfl)
theorem d_X_fault_13 : decode y_X_fault.2.1 13 = .ok (.if_icmp .ne 10, 3) := op_icmp_ne (gk (k := 0) (t := 13) ck_X_fault_0 rfl) (gk (k := 0) (t := 14) ck_X_fault_0 rfl) (gk (k := 0) (t := 15) ck_X_fault_0 rfl) (by decide +kernel)
theorem d_X_fault_23 : decode y_X_fault.2.1 23 = .ok (.iconst (-1), 1) := op_iconstm1 (gk (k := 0) (t := 23) ck_X_fault_0 rfl)
theorem d_X_fault_24 : decode y_X_fault.2.1 24 = .ok (.ireturn, 1) := op_ireturn (gk (k := 0) (t := 24) ck_X_fault_0 rfl)
theorem d_X_fault_16 : decode y_X_fault.2.1 16 = .ok (.aload_n 0, 1) := op_aload_n0 (gk (k := 0) (t := 16) ck_X_fault_0 rfl)
theorem d_X_fault_17 : decode y_X_fault.2.1 17 = .ok (.getfield 34, 3) := op_getfield (gk (k := 0) (t := 17) ck_X_fault_0 rfl) (gk (k := 0) (t := 18) ck_X_fault_0 rfl) (gk (k := 0) (t := 19) ck_X_fault_0 rfl) rfl
theorem d_X_fault_20 : decode y_X_fault.2.1 20 = .ok (.goto 4, 3) := op_goto (gk (k := 0) (t := 20) ck_X_fault_0 rfl) (gk (k := 0) (t := 21) ck_X_fault_0 rfl) (gk (k := 0) (t := 22) ck_X_fault_0 rfl) (by decide +kernel)
theorem d_X_fault_4 : decode y_X_fault.2.1 4 = .ok (.aload_n 0, 1) := op_aload_n0 (gk (k := 0) (t := 4) ck_X_fault_0 rfl)
theorem d_X_fault_5 : decode y_X_fault.2.1 5 = .ok (.getfield 247, 3) := op_getfield (gk (k := 0) (t := 5) ck_X_fault_0 rfl) (gk (k := 0) (t := 6) ck_X_fault_0 rfl) (gk (k := 0) (t := 7) ck_X_fault_0 rfl) rfl
theorem d_X_fault_8 : decode y_X_fault.2.1 8 = .ok (.goto 16, 3) := op_goto (gk (k := 0) (t := 8) ck_X_fault_0 rfl) (gk (k := 0) (t := 9) ck_X_fault_0 rfl) (gk (k := 0) (t := 10) ck_X_fault_0 rfl) (by decide +kernel)
abbrev y_X_both : MI := (⟨"SinglesUpModel", "both", "(III)I"⟩, prog_11_method_35_code, 3, some .int)
theorem ck_X_both_0 : (y_X_both.2.1.data.toList.drop 0).take 32 = [26, 170, 0, 0, 0, 0, 0, 100, 0, 0, 0, 12, 0, 0, 0, 20, 0, 0, 0, 51, 0, 0, 0, 55, 0, 0, 0, 59, 0, 0, 0, 100] := by decide +kernel
theorem d_X_both_0 : decode y_X_both.2.1 0 = .ok (.iload_n 0, 1) := op_iload_n0 (gk (k := 0) (t := 0) ck_X_both_0 rfl)
theorem d_X_both_1 : decode y_X_both.2.1 1 = .ok (.tableswitch 100 12 20 #[51, 55, 59, 100, 63, 74, 85, 100, 96], 51) := by decide +kernel
theorem ck_X_both_1 : (y_X_both.2.1.data.toList.drop 32).take 32 = [0, 0, 0, 63, 0, 0, 0, 74, 0, 0, 0, 85, 0, 0, 0, 100, 0, 0, 0, 96, 27, 28, 96, 172, 27, 28, 100, 172, 27, 28, 104, 172] := by decide +kernel
theorem d_X_both_52 : decode y_X_both.2.1 52 = .ok (.iload_n 1, 1) := op_iload_n1 (gk (k := 32) (t := 20) ck_X_both_1 rfl)
theorem d_X_both_53 : decode y_X_both.2.1 53 = .ok (.iload_n 2, 1) := op_iload_n2 (gk (k := 32) (t := 21) ck_X_both_1 rfl)
theorem d_X_both_54 : decode y_X_both.2.1 54 = .ok (.iadd, 1) := op_iadd (gk (k := 32) (t := 22) ck_X_both_1 rfl)
theorem d_X_both_55 : decode y_X_both.2.1 55 = .ok (.ireturn, 1) := op_ireturn (gk (k := 32) (t := 23) ck_X_both_1 rfl)
theorem d_X_both_56 : decode y_X_both.2.1 56 = .ok (.iload_n 1, 1) := op_iload_n1 (gk (k := 32) (t := 24) ck_X_both_1 rfl)
theorem d_X_both_57 : decode y_X_both.2.1 57 = .ok (.iload_n 2, 1) := op_iload_n2 (gk (k := 32) (t := 25) ck_X_both_1 rfl)
theorem d_X_both_58 : decode y_X_both.2.1 58 = .ok (.isub, 1) := op_isub (gk (k := 32) (t := 26) ck_X_both_1 rfl)
theorem d_X_both_59 : decode y_X_both.2.1 59 = .ok (.ireturn, 1) := op_ireturn (gk (k := 32) (t := 27) ck_X_both_1 rfl)
theorem d_X_both_60 : decode y_X_both.2.1 60 = .ok (.iload_n 1, 1) := op_iload_n1 (gk (k := 32) (t := 28) ck_X_both_1 rfl)
theorem d_X_both_61 : decode y_X_both.2.1 61 = .ok (.iload_n 2, 1) := op_iload_n2 (gk (k := 32) (t := 29) ck_X_both_1 rfl)
theorem d_X_both_62 : decode y_X_both.2.1 62 = .ok (.imul, 1) := op_imul (gk (k := 32) (t := 30) ck_X_both_1 rfl)
theorem d_X_both_63 : decode y_X_both.2.1 63 = .ok (.ireturn, 1) := op_ireturn (gk (k := 32) (t := 31) ck_X_both_1 rfl)
theorem ck_X_both_2 : (y_X_both.2.1.data.toList.drop 64).take 32 = [27, 28, 162, 0, 7, 4, 167, 0, 4, 3, 172, 27, 28, 160, 0, 7, 4, 167, 0, 4, 3, 172, 27, 28, 164, 0, 7, 4, 167, 0, 4, 3] := by decide +kernel
theorem d_X_both_64 : decode y_X_both.2.1 64 = .ok (.iload_n 1, 1) := op_iload_n1 (gk (k := 64) (t := 0) ck_X_both_2 rfl)
theorem d_X_both_65 : decode y_X_both.2.1 65 = .ok (.iload_n 2, 1) := op_iload_n2 (gk (k := 64) (t := 1) ck_X_both_2 rfl)
theorem d_X_both_66 : decode y_X_both.2.1 66 = .ok (.if_icmp .ge 7, 3) := op_icmp_ge (gk (k := 64) (t := 2) ck_X_both_2 rfl) (gk (k := 64) (t := 3) ck_X_both_2 rfl) (gk (k := 64) (t := 4) ck_X_both_2 rfl) (by decide +kernel)
theorem d_X_both_73 : decode y_X_both.2.1 73 = .ok (.iconst 0, 1) := op_iconst0 (gk (k := 64) (t := 9) ck_X_both_2 rfl)
theorem d_X_both_74 : decode y_X_both.2.1 74 = .ok (.ireturn, 1) := op_ireturn (gk (k := 64) (t := 10) ck_X_both_2 rfl)
theorem d_X_both_69 : decode y_X_both.2.1 69 = .ok (.iconst 1, 1) := op_iconst1 (gk (k := 64) (t := 5) ck_X_both_2 rfl)
theorem d_X_both_70 : decode y_X_both.2.1 70 = .ok (.goto 4, 3) := op_goto (gk (k := 64) (t := 6) ck_X_both_2 rfl) (gk (k := 64) (t := 7) ck_X_both_2 rfl) (gk (k := 64) (t := 8) ck_X_both_2 rfl) (by decide +kernel)
theorem d_X_both_75 : decode y_X_both.2.1 75 = .ok (.iload_n 1, 1) := op_iload_n1 (gk (k := 64) (t := 11) ck_X_both_2 rfl)
theorem d_X_both_76 : decode y_X_both.2.1 76 = .ok (.iload_n 2, 1) := op_iload_n2 (gk (k := 64) (t := 12) ck_X_both_2 rfl)
theorem d_X_both_77 : decode y_X_both.2.1 77 = .ok (.if_icmp .ne 7, 3) := op_icmp_ne (gk (k := 64) (t := 13) ck_X_both_2 rfl) (gk (k := 64) (t := 14) ck_X_both_2 rfl) (gk (k := 64) (t := 15) ck_X_both_2 rfl) (by decide +kernel)
theorem d_X_both_84 : decode y_X_both.2.1 84 = .ok (.iconst 0, 1) := op_iconst0 (gk (k := 64) (t := 20) ck_X_both_2 rfl)
theorem d_X_both_85 : decode y_X_both.2.1 85 = .ok (.ireturn, 1) := op_ireturn (gk (k := 64) (t := 21) ck_X_both_2 rfl)
theorem d_X_both_80 : decode y_X_both.2.1 80 = .ok (.iconst 1, 1) := op_iconst1 (gk (k := 64) (t := 16) ck_X_both_2 rfl)
theorem d_X_both_81 : decode y_X_both.2.1 81 = .ok (.goto 4, 3) := op_goto (gk (k := 64) (t := 17) ck_X_both_2 rfl) (gk (k := 64) (t := 18) ck_X_both_2 rfl) (gk (k := 64) (t := 19) ck_X_both_2 rfl) (by decide +kernel)
theorem d_X_both_86 : decode y_X_both.2.1 86 = .ok (.iload_n 1, 1) := op_iload_n1 (gk (k := 64) (t := 22) ck_X_both_2 rfl)
theorem d_X_both_87 : decode y_X_both.2.1 87 = .ok (.iload_n 2, 1) := op_iload_n2 (gk (k := 64) (t := 23) ck_X_both_2 rfl)
theorem d_X_both_88 : decode y_X_both.2.1 88 = .ok (.if_icmp .le 7, 3) := op_icmp_le (gk (k := 64) (t := 24) ck_X_both_2 rfl) (gk (k := 64) (t := 25) ck_X_both_2 rfl) (gk (k := 64) (t := 26) ck_X_both_2 rfl) (by decide +kernel)
theorem d_X_both_95 : decode y_X_both.2.1 95 = .ok (.iconst 0, 1) := op_iconst0 (gk (k := 64) (t := 31) ck_X_both_2 rfl)
theorem ck_X_both_3 : (y_X_both.2.1.data.toList.drop 96).take 32 = [172, 27, 28, 126, 172, 27, 28, 128, 172] := by decide +kernel
theorem d_X_both_96 : decode y_X_both.2.1 96 = .ok (.ireturn, 1) := op_ireturn (gk (k := 96) (t := 0) ck_X_both_3 rfl)
theorem d_X_both_91 : decode y_X_both.2.1 91 = .ok (.iconst 1, 1) := op_iconst1 (gk (k := 64) (t := 27) ck_X_both_2 rfl)
theorem d_X_both_92 : decode y_X_both.2.1 92 = .ok (.goto 4, 3) := op_goto (gk (k := 64) (t := 28) ck_X_both_2 rfl) (gk (k := 64) (t := 29) ck_X_both_2 rfl) (gk (k := 64) (t := 30) ck_X_both_2 rfl) (by decide +kernel)
theorem d_X_both_97 : decode y_X_both.2.1 97 = .ok (.iload_n 1, 1) := op_iload_n1 (gk (k := 96) (t := 1) ck_X_both_3 rfl)
theorem d_X_both_98 : decode y_X_both.2.1 98 = .ok (.iload_n 2, 1) := op_iload_n2 (gk (k := 96) (t := 2) ck_X_both_3 rfl)
theorem d_X_both_99 : decode y_X_both.2.1 99 = .ok (.iand, 1) := op_iand (gk (k := 96) (t := 3) ck_X_both_3 rfl)
theorem d_X_both_100 : decode y_X_both.2.1 100 = .ok (.ireturn, 1) := op_ireturn (gk (k := 96) (t := 4) ck_X_both_3 rfl)
theorem d_X_both_101 : decode y_X_both.2.1 101 = .ok (.iload_n 1, 1) := op_iload_n1 (gk (k := 96) (t := 5) ck_X_both_3 rfl)
theorem d_X_both_102 : decode y_X_both.2.1 102 = .ok (.iload_n 2, 1) := op_iload_n2 (gk (k := 96) (t := 6) ck_X_both_3 rfl)
theorem d_X_both_103 : decode y_X_both.2.1 103 = .ok (.ior, 1) := op_ior (gk (k := 96) (t := 7) ck_X_both_3 rfl)
theorem d_X_both_104 : decode y_X_both.2.1 104 = .ok (.ireturn, 1) := op_ireturn (gk (k := 96) (t := 8) ck_X_both_3 rfl)
abbrev y_X_comesTo : MI := (⟨"SinglesUpModel", "comesTo", "(III)I"⟩, prog_11_method_36_code, 8, some .int)
theorem ck_X_comesTo_0 : (y_X_comesTo.2.1.data.toList.drop 0).take 32 = [3, 54, 4, 28, 54, 5, 21, 5, 29, 162, 0, 177, 42, 180, 0, 7, 17, 7, 118, 17, 3, 52, 27, 104, 96, 5, 21, 5, 104, 96, 46, 54] := by decide +kernel
theorem d_X_comesTo_0 : decode y_X_comesTo.2.1 0 = .ok (.iconst 0, 1) := op_iconst0 (gk (k := 0) (t := 0) ck_X_comesTo_0 rfl)
theorem d_X_comesTo_1 : decode y_X_comesTo.2.1 1 = .ok (.istore 4, 2) := op_istore (gk (k := 0) (t := 1) ck_X_comesTo_0 rfl) (gk (k := 0) (t := 2) ck_X_comesTo_0 rfl) rfl
theorem d_X_comesTo_3 : decode y_X_comesTo.2.1 3 = .ok (.iload_n 2, 1) := op_iload_n2 (gk (k := 0) (t := 3) ck_X_comesTo_0 rfl)
theorem d_X_comesTo_4 : decode y_X_comesTo.2.1 4 = .ok (.istore 5, 2) := op_istore (gk (k := 0) (t := 4) ck_X_comesTo_0 rfl) (gk (k := 0) (t := 5) ck_X_comesTo_0 rfl) rfl
theorem d_X_comesTo_6 : decode y_X_comesTo.2.1 6 = .ok (.iload 5, 2) := op_iload (gk (k := 0) (t := 6) ck_X_comesTo_0 rfl) (gk (k := 0) (t := 7) ck_X_comesTo_0 rfl) rfl
theorem d_X_comesTo_8 : decode y_X_comesTo.2.1 8 = .ok (.iload_n 3, 1) := op_iload_n3 (gk (k := 0) (t := 8) ck_X_comesTo_0 rfl)
theorem d_X_comesTo_9 : decode y_X_comesTo.2.1 9 = .ok (.if_icmp .ge 177, 3) := op_icmp_ge (gk (k := 0) (t := 9) ck_X_comesTo_0 rfl) (gk (k := 0) (t := 10) ck_X_comesTo_0 rfl) (gk (k := 0) (t := 11) ck_X_comesTo_0 rfl) (by decide +kernel)
theorem ck_X_comesTo_5 : (y_X_comesTo.2.1.data.toList.drop 160).take 32 = [42, 180, 0, 28, 21, 4, 4, 100, 46, 42, 180, 0, 28, 21, 4, 46, 184, 0, 253, 79, 132, 5, 1, 167, 255, 79, 42, 180, 0, 28, 3, 46] := by decide +kernel
theorem d_X_comesTo_186 : decode y_X_comesTo.2.1 186 = .ok (.aload_n 0, 1) := op_aload_n0 (gk (k := 160) (t := 26) ck_X_comesTo_5 rfl)
theorem fl_X_28 : FL "SinglesUpModel" 28 9 7 := ⟨"SinglesUpModel", zT9, 51, rfl, by decide, rfl, Or.inl (tw_c5 100 (by decide +kernel) rfl)⟩
theorem rm_9_7 : ∀ o, KM[o]? = some (12, 51) → RM o 7 = some (o + 7) ∧ KM[o + 7]? = some (0, 420) := by
  intro o h
  have hl : o < 26 := (List.getElem?_eq_some_iff.mp h).1
  exact (by decide +kernel : ∀ o, o < 26 → KM[o]? = some (12, 51) → RM o 7 = some (o + 7) ∧ KM[o + 7]? = some (0, 420)) o hl h
theorem d_X_comesTo_187 : decode y_X_comesTo.2.1 187 = .ok (.getfield 28, 3) := op_getfield (gk (k := 160) (t := 27) ck_X_comesTo_5 rfl) (gk (k := 160) (t := 28) ck_X_comesTo_5 rfl) (gk (k := 160) (t := 29) ck_X_comesTo_5 rfl) rfl
theorem d_X_comesTo_190 : decode y_X_comesTo.2.1 190 = .ok (.iconst 0, 1) := op_iconst0 (gk (k := 160) (t := 30) ck_X_comesTo_5 rfl)
theorem d_X_comesTo_191 : decode y_X_comesTo.2.1 191 = .ok (.iaload, 1) := op_iaload (gk (k := 160) (t := 31) ck_X_comesTo_5 rfl)
theorem ck_X_comesTo_6 : (y_X_comesTo.2.1.data.toList.drop 192).take 32 = [172] := by decide +kernel
theorem d_X_comesTo_192 : decode y_X_comesTo.2.1 192 = .ok (.ireturn, 1) := op_ireturn (gk (k := 192) (t := 0) ck_X_comesTo_6 rfl)
theorem d_X_comesTo_12 : decode y_X_comesTo.2.1 12 = .ok (.aload_n 0, 1) := op_aload_n0 (gk (k := 0) (t := 12) ck_X_comesTo_0 rfl)
theorem d_X_comesTo_13 : decode y_X_comesTo.2.1 13 = .ok (.getfield 7, 3) := op_getfield (gk (k := 0) (t := 13) ck_X_comesTo_0 rfl) (gk (k := 0) (t := 14) ck_X_comesTo_0 rfl) (gk (k := 0) (t := 15) ck_X_comesTo_0 rfl) rfl
theorem d_X_comesTo_16 : decode y_X_comesTo.2.1 16 = .ok (.sipush 1910, 3) := op_sipush (gk (k := 0) (t := 16) ck_X_comesTo_0 rfl) (gk (k := 0) (t := 17) ck_X_comesTo_0 rfl) (gk (k := 0) (t := 18) ck_X_comesTo_0 rfl) (by decide +kernel)
theorem d_X_comesTo_19 : decode y_X_comesTo.2.1 19 = .ok (.sipush 820, 3) := op_sipush (gk (k := 0) (t := 19) ck_X_comesTo_0 rfl) (gk (k := 0) (t := 20) ck_X_comesTo_0 rfl) (gk (k := 0) (t := 21) ck_X_comesTo_0 rfl) (by decide +kernel)
theorem d_X_comesTo_22 : decode y_X_comesTo.2.1 22 = .ok (.iload_n 1, 1) := op_iload_n1 (gk (k := 0) (t := 22) ck_X_comesTo_0 rfl)
theorem d_X_comesTo_23 : decode y_X_comesTo.2.1 23 = .ok (.imul, 1) := op_imul (gk (k := 0) (t := 23) ck_X_comesTo_0 rfl)
theorem d_X_comesTo_24 : decode y_X_comesTo.2.1 24 = .ok (.iadd, 1) := op_iadd (gk (k := 0) (t := 24) ck_X_comesTo_0 rfl)
theorem d_X_comesTo_25 : decode y_X_comesTo.2.1 25 = .ok (.iconst 2, 1) := op_iconst2 (gk (k := 0) (t := 25) ck_X_comesTo_0 rfl)
theorem d_X_comesTo_26 : decode y_X_comesTo.2.1 26 = .ok (.iload 5, 2) := op_iload (gk (k := 0) (t := 26) ck_X_comesTo_0 rfl) (gk (k := 0) (t := 27) ck_X_comesTo_0 rfl) rfl
theorem d_X_comesTo_28 : decode y_X_comesTo.2.1 28 = .ok (.imul, 1) := op_imul (gk (k := 0) (t := 28) ck_X_comesTo_0 rfl)
theorem d_X_comesTo_29 : decode y_X_comesTo.2.1 29 = .ok (.iadd, 1) := op_iadd (gk (k := 0) (t := 29) ck_X_comesTo_0 rfl)
theorem d_X_comesTo_30 : decode y_X_comesTo.2.1 30 = .ok (.iaload, 1) := op_iaload (gk (k := 0) (t := 30) ck_X_comesTo_0 rfl)
theorem ck_X_comesTo_1 : (y_X_comesTo.2.1.data.toList.drop 32).take 32 = [6, 42, 180, 0, 7, 17, 7, 118, 17, 3, 52, 27, 104, 96, 5, 21, 5, 104, 96, 4, 96, 46, 54, 7, 21, 6, 16, 12, 162, 0, 33, 42] := by decide +kernel
theorem d_X_comesTo_31 : decode y_X_comesTo.2.1 31 = .ok (.istore 6, 2) := op_istore (gk (k := 0) (t := 31) ck_X_comesTo_0 rfl) (gk (k := 32) (t := 0) ck_X_comesTo_1 rfl) rfl
theorem d_X_comesTo_33 : decode y_X_comesTo.2.1 33 = .ok (.aload_n 0, 1) := op_aload_n0 (gk (k := 32) (t := 1) ck_X_comesTo_1 rfl)
theorem d_X_comesTo_34 : decode y_X_comesTo.2.1 34 = .ok (.getfield 7, 3) := op_getfield (gk (k := 32) (t := 2) ck_X_comesTo_1 rfl) (gk (k := 32) (t := 3) ck_X_comesTo_1 rfl) (gk (k := 32) (t := 4) ck_X_comesTo_1 rfl) rfl
theorem d_X_comesTo_37 : decode y_X_comesTo.2.1 37 = .ok (.sipush 1910, 3) := op_sipush (gk (k := 32) (t := 5) ck_X_comesTo_1 rfl) (gk (k := 32) (t := 6) ck_X_comesTo_1 rfl) (gk (k := 32) (t := 7) ck_X_comesTo_1 rfl) (by decide +kernel)
theorem d_X_comesTo_40 : decode y_X_comesTo.2.1 40 = .ok (.sipush 820, 3) := op_sipush (gk (k := 32) (t := 8) ck_X_comesTo_1 rfl) (gk (k := 32) (t := 9) ck_X_comesTo_1 rfl) (gk (k := 32) (t := 10) ck_X_comesTo_1 rfl) (by decide +kernel)
theorem d_X_comesTo_43 : decode y_X_comesTo.2.1 43 = .ok (.iload_n 1, 1) := op_iload_n1 (gk (k := 32) (t := 11) ck_X_comesTo_1 rfl)
theorem d_X_comesTo_44 : decode y_X_comesTo.2.1 44 = .ok (.imul, 1) := op_imul (gk (k := 32) (t := 12) ck_X_comesTo_1 rfl)
theorem d_X_comesTo_45 : decode y_X_comesTo.2.1 45 = .ok (.iadd, 1) := op_iadd (gk (k := 32) (t := 13) ck_X_comesTo_1 rfl)
theorem d_X_comesTo_46 : decode y_X_comesTo.2.1 46 = .ok (.iconst 2, 1) := op_iconst2 (gk (k := 32) (t := 14) ck_X_comesTo_1 rfl)
theorem d_X_comesTo_47 : decode y_X_comesTo.2.1 47 = .ok (.iload 5, 2) := op_iload (gk (k := 32) (t := 15) ck_X_comesTo_1 rfl) (gk (k := 32) (t := 16) ck_X_comesTo_1 rfl) rfl
theorem d_X_comesTo_49 : decode y_X_comesTo.2.1 49 = .ok (.imul, 1) := op_imul (gk (k := 32) (t := 17) ck_X_comesTo_1 rfl)
theorem d_X_comesTo_50 : decode y_X_comesTo.2.1 50 = .ok (.iadd, 1) := op_iadd (gk (k := 32) (t := 18) ck_X_comesTo_1 rfl)
theorem d_X_comesTo_51 : decode y_X_comesTo.2.1 51 = .ok (.iconst 1, 1) := op_iconst1 (gk (k := 32) (t := 19) ck_X_comesTo_1 rfl)
theorem d_X_comesTo_52 : decode y_X_comesTo.2.1 52 = .ok (.iadd, 1) := op_iadd (gk (k := 32) (t := 20) ck_X_comesTo_1 rfl)
theorem d_X_comesTo_53 : decode y_X_comesTo.2.1 53 = .ok (.iaload, 1) := op_iaload (gk (k := 32) (t := 21) ck_X_comesTo_1 rfl)
theorem d_X_comesTo_54 : decode y_X_comesTo.2.1 54 = .ok (.istore 7, 2) := op_istore (gk (k := 32) (t := 22) ck_X_comesTo_1 rfl) (gk (k := 32) (t := 23) ck_X_comesTo_1 rfl) rfl
theorem d_X_comesTo_56 : decode y_X_comesTo.2.1 56 = .ok (.iload 6, 2) := op_iload (gk (k := 32) (t := 24) ck_X_comesTo_1 rfl) (gk (k := 32) (t := 25) ck_X_comesTo_1 rfl) rfl
theorem d_X_comesTo_58 : decode y_X_comesTo.2.1 58 = .ok (.bipush 12, 2) := op_bipush (gk (k := 32) (t := 26) ck_X_comesTo_1 rfl) (gk (k := 32) (t := 27) ck_X_comesTo_1 rfl) rfl
theorem d_X_comesTo_180 : decode y_X_comesTo.2.1 180 = .ok (.iinc 5 1, 3) := op_iinc (gk (k := 160) (t := 20) ck_X_comesTo_5 rfl) (gk (k := 160) (t := 21) ck_X_comesTo_5 rfl) (gk (k := 160) (t := 22) ck_X_comesTo_5 rfl) rfl rfl
theorem d_X_comesTo_183 : decode y_X_comesTo.2.1 183 = .ok (.goto (-177), 3) := op_goto (gk (k := 160) (t := 23) ck_X_comesTo_5 rfl) (gk (k := 160) (t := 24) ck_X_comesTo_5 rfl) (gk (k := 160) (t := 25) ck_X_comesTo_5 rfl) (by decide +kernel)
theorem d_X_comesTo_60 : decode y_X_comesTo.2.1 60 = .ok (.if_icmp .ge 33, 3) := op_icmp_ge (gk (k := 32) (t := 28) ck_X_comesTo_1 rfl) (gk (k := 32) (t := 29) ck_X_comesTo_1 rfl) (gk (k := 32) (t := 30) ck_X_comesTo_1 rfl) (by decide +kernel)
theorem ck_X_comesTo_2 : (y_X_comesTo.2.1.data.toList.drop 64).take 32 = [180, 0, 28, 21, 4, 21, 6, 154, 0, 8, 21, 7, 167, 0, 10, 42, 180, 0, 31, 21, 6, 46, 79, 132, 4, 1, 167, 0, 90, 21, 6, 16] := by decide +kernel
theorem d_X_comesTo_93 : decode y_X_comesTo.2.1 93 = .ok (.iload 6, 2) := op_iload (gk (k := 64) (t := 29) ck_X_comesTo_2 rfl) (gk (k := 64) (t := 30) ck_X_comesTo_2 rfl) rfl
theorem ck_X_comesTo_3 : (y_X_comesTo.2.1.data.toList.drop 96).take 32 = [15, 160, 0, 20, 42, 180, 0, 28, 21, 4, 4, 100, 92, 46, 21, 7, 108, 79, 167, 0, 66, 21, 6, 16, 19, 160, 0, 26, 42, 180, 0, 28] := by decide +kernel
theorem d_X_comesTo_95 : decode y_X_comesTo.2.1 95 = .ok (.bipush 15, 2) := op_bipush (gk (k := 64) (t := 31) ck_X_comesTo_2 rfl) (gk (k := 96) (t := 0) ck_X_comesTo_3 rfl) rfl
theorem d_X_comesTo_97 : decode y_X_comesTo.2.1 97 = .ok (.if_icmp .ne 20, 3) := op_icmp_ne (gk (k := 96) (t := 1) ck_X_comesTo_3 rfl) (gk (k := 96) (t := 2) ck_X_comesTo_3 rfl) (gk (k := 96) (t := 3) ck_X_comesTo_3 rfl) (by decide +kernel)
theorem d_X_comesTo_117 : decode y_X_comesTo.2.1 117 = .ok (.iload 6, 2) := op_iload (gk (k := 96) (t := 21) ck_X_comesTo_3 rfl) (gk (k := 96) (t := 22) ck_X_comesTo_3 rfl) rfl
theorem d_X_comesTo_119 : decode y_X_comesTo.2.1 119 = .ok (.bipush 19, 2) := op_bipush (gk (k := 96) (t := 23) ck_X_comesTo_3 rfl) (gk (k := 96) (t := 24) ck_X_comesTo_3 rfl) rfl
theorem d_X_comesTo_121 : decode y_X_comesTo.2.1 121 = .ok (.if_icmp .ne 26, 3) := op_icmp_ne (gk (k := 96) (t := 25) ck_X_comesTo_3 rfl) (gk (k := 96) (t := 26) ck_X_comesTo_3 rfl) (gk (k := 96) (t := 27) ck_X_comesTo_3 rfl) (by decide +kernel)
theorem ck_X_comesTo_4 : (y_X_comesTo.2.1.data.toList.drop 128).take 32 = [21, 4, 4, 100, 4, 42, 180, 0, 28, 21, 4, 4, 100, 46, 100, 79, 167, 0, 36, 132, 4, 255, 42, 180, 0, 28, 21, 4, 4, 100, 21, 6] := by decide +kernel
theorem d_X_comesTo_147 : decode y_X_comesTo.2.1 147 = .ok (.iinc 4 (-1), 3) := op_iinc (gk (k := 128) (t := 19) ck_X_comesTo_4 rfl) (gk (k := 128) (t := 20) ck_X_comesTo_4 rfl) (gk (k := 128) (t := 21) ck_X_comesTo_4 rfl) rfl rfl
theorem d_X_comesTo_150 : decode y_X_comesTo.2.1 150 = .ok (.aload_n 0, 1) := op_aload_n0 (gk (k := 128) (t := 22) ck_X_comesTo_4 rfl)
theorem d_X_comesTo_151 : decode y_X_comesTo.2.1 151 = .ok (.getfield 28, 3) := op_getfield (gk (k := 128) (t := 23) ck_X_comesTo_4 rfl) (gk (k := 128) (t := 24) ck_X_comesTo_4 rfl) (gk (k := 128) (t := 25) ck_X_comesTo_4 rfl) rfl
theorem d_X_comesTo_154 : decode y_X_comesTo.2.1 154 = .ok (.iload 4, 2) := op_iload (gk (k := 128) (t := 26) ck_X_comesTo_4 rfl) (gk (k := 128) (t := 27) ck_X_comesTo_4 rfl) rfl
theorem d_X_comesTo_156 : decode y_X_comesTo.2.1 156 = .ok (.iconst 1, 1) := op_iconst1 (gk (k := 128) (t := 28) ck_X_comesTo_4 rfl)
theorem d_X_comesTo_157 : decode y_X_comesTo.2.1 157 = .ok (.isub, 1) := op_isub (gk (k := 128) (t := 29) ck_X_comesTo_4 rfl)
theorem d_X_comesTo_158 : decode y_X_comesTo.2.1 158 = .ok (.iload 6, 2) := op_iload (gk (k := 128) (t := 30) ck_X_comesTo_4 rfl) (gk (k := 128) (t := 31) ck_X_comesTo_4 rfl) rfl
theorem d_X_comesTo_160 : decode y_X_comesTo.2.1 160 = .ok (.aload_n 0, 1) := op_aload_n0 (gk (k := 160) (t := 0) ck_X_comesTo_5 rfl)
theorem d_X_comesTo_161 : decode y_X_comesTo.2.1 161 = .ok (.getfield 28, 3) := op_getfield (gk (k := 160) (t := 1) ck_X_comesTo_5 rfl) (gk (k := 160) (t := 2) ck_X_comesTo_5 rfl) (gk (k := 160) (t := 3) ck_X_comesTo_5 rfl) rfl
theorem d_X_comesTo_164 : decode y_X_comesTo.2.1 164 = .ok (.iload 4, 2) := op_iload (gk (k := 160) (t := 4) ck_X_comesTo_5 rfl) (gk (k := 160) (t := 5) ck_X_comesTo_5 rfl) rfl
theorem d_X_comesTo_166 : decode y_X_comesTo.2.1 166 = .ok (.iconst 1, 1) := op_iconst1 (gk (k := 160) (t := 6) ck_X_comesTo_5 rfl)
theorem d_X_comesTo_167 : decode y_X_comesTo.2.1 167 = .ok (.isub, 1) := op_isub (gk (k := 160) (t := 7) ck_X_comesTo_5 rfl)
theorem d_X_comesTo_168 : decode y_X_comesTo.2.1 168 = .ok (.iaload, 1) := op_iaload (gk (k := 160) (t := 8) ck_X_comesTo_5 rfl)
theorem d_X_comesTo_169 : decode y_X_comesTo.2.1 169 = .ok (.aload_n 0, 1) := op_aload_n0 (gk (k := 160) (t := 9) ck_X_comesTo_5 rfl)
theorem d_X_comesTo_170 : decode y_X_comesTo.2.1 170 = .ok (.getfield 28, 3) := op_getfield (gk (k := 160) (t := 10) ck_X_comesTo_5 rfl) (gk (k := 160) (t := 11) ck_X_comesTo_5 rfl) (gk (k := 160) (t := 12) ck_X_comesTo_5 rfl) rfl
theorem d_X_comesTo_173 : decode y_X_comesTo.2.1 173 = .ok (.iload 4, 2) := op_iload (gk (k := 160) (t := 13) ck_X_comesTo_5 rfl) (gk (k := 160) (t := 14) ck_X_comesTo_5 rfl) rfl
theorem d_X_comesTo_175 : decode y_X_comesTo.2.1 175 = .ok (.iaload, 1) := op_iaload (gk (k := 160) (t := 15) ck_X_comesTo_5 rfl)
theorem lk_X_253 : LkS "SinglesUpModel" 253 y_X_both := ⟨tw_c6 173 (by decide +kernel) rfl, Or.inl (tw_c6 172 (by decide +kernel) rfl)⟩
set_option maxRecDepth 100000 in
theorem mo_X_both : MOk y_X_both 3 := ⟨by decide +kernel, tw_c6 174 rfl rfl, tw_c1 12 (by decide +kernel) rfl, by decide +kernel, by decide +kernel, by decide +kernel⟩
theorem d_X_comesTo_176 : decode y_X_comesTo.2.1 176 = .ok (.invokestatic 253, 3) := op_invokestatic (gk (k := 160) (t := 16) ck_X_comesTo_5 rfl) (gk (k := 160) (t := 17) ck_X_comesTo_5 rfl) (gk (k := 160) (t := 18) ck_X_comesTo_5 rfl) rfl
theorem d_X_comesTo_179 : decode y_X_comesTo.2.1 179 = .ok (.iastore, 1) := op_iastore (gk (k := 160) (t := 19) ck_X_comesTo_5 rfl)
theorem d_X_comesTo_124 : decode y_X_comesTo.2.1 124 = .ok (.aload_n 0, 1) := op_aload_n0 (gk (k := 96) (t := 28) ck_X_comesTo_3 rfl)
theorem d_X_comesTo_125 : decode y_X_comesTo.2.1 125 = .ok (.getfield 28, 3) := op_getfield (gk (k := 96) (t := 29) ck_X_comesTo_3 rfl) (gk (k := 96) (t := 30) ck_X_comesTo_3 rfl) (gk (k := 96) (t := 31) ck_X_comesTo_3 rfl) rfl
theorem d_X_comesTo_128 : decode y_X_comesTo.2.1 128 = .ok (.iload 4, 2) := op_iload (gk (k := 128) (t := 0) ck_X_comesTo_4 rfl) (gk (k := 128) (t := 1) ck_X_comesTo_4 rfl) rfl
theorem d_X_comesTo_130 : decode y_X_comesTo.2.1 130 = .ok (.iconst 1, 1) := op_iconst1 (gk (k := 128) (t := 2) ck_X_comesTo_4 rfl)
theorem d_X_comesTo_131 : decode y_X_comesTo.2.1 131 = .ok (.isub, 1) := op_isub (gk (k := 128) (t := 3) ck_X_comesTo_4 rfl)
theorem d_X_comesTo_132 : decode y_X_comesTo.2.1 132 = .ok (.iconst 1, 1) := op_iconst1 (gk (k := 128) (t := 4) ck_X_comesTo_4 rfl)
theorem d_X_comesTo_133 : decode y_X_comesTo.2.1 133 = .ok (.aload_n 0, 1) := op_aload_n0 (gk (k := 128) (t := 5) ck_X_comesTo_4 rfl)
theorem d_X_comesTo_134 : decode y_X_comesTo.2.1 134 = .ok (.getfield 28, 3) := op_getfield (gk (k := 128) (t := 6) ck_X_comesTo_4 rfl) (gk (k := 128) (t := 7) ck_X_comesTo_4 rfl) (gk (k := 128) (t := 8) ck_X_comesTo_4 rfl) rfl
theorem d_X_comesTo_137 : decode y_X_comesTo.2.1 137 = .ok (.iload 4, 2) := op_iload (gk (k := 128) (t := 9) ck_X_comesTo_4 rfl) (gk (k := 128) (t := 10) ck_X_comesTo_4 rfl) rfl
theorem d_X_comesTo_139 : decode y_X_comesTo.2.1 139 = .ok (.iconst 1, 1) := op_iconst1 (gk (k := 128) (t := 11) ck_X_comesTo_4 rfl)
theorem d_X_comesTo_140 : decode y_X_comesTo.2.1 140 = .ok (.isub, 1) := op_isub (gk (k := 128) (t := 12) ck_X_comesTo_4 rfl)
theorem d_X_comesTo_141 : decode y_X_comesTo.2.1 141 = .ok (.iaload, 1) := op_iaload (gk (k := 128) (t := 13) ck_X_comesTo_4 rfl)
theorem d_X_comesTo_142 : decode y_X_comesTo.2.1 142 = .ok (.isub, 1) := op_isub (gk (k := 128) (t := 14) ck_X_comesTo_4 rfl)
theorem d_X_comesTo_143 : decode y_X_comesTo.2.1 143 = .ok (.iastore, 1) := op_iastore (gk (k := 128) (t := 15) ck_X_comesTo_4 rfl)
theorem d_X_comesTo_144 : decode y_X_comesTo.2.1 144 = .ok (.goto 36, 3) := op_goto (gk (k := 128) (t := 16) ck_X_comesTo_4 rfl) (gk (k := 128) (t := 17) ck_X_comesTo_4 rfl) (gk (k := 128) (t := 18) ck_X_comesTo_4 rfl) (by decide +kernel)
theorem d_X_comesTo_100 : decode y_X_comesTo.2.1 100 = .ok (.aload_n 0, 1) := op_aload_n0 (gk (k := 96) (t := 4) ck_X_comesTo_3 rfl)
theorem d_X_comesTo_101 : decode y_X_comesTo.2.1 101 = .ok (.getfield 28, 3) := op_getfield (gk (k := 96) (t := 5) ck_X_comesTo_3 rfl) (gk (k := 96) (t := 6) ck_X_comesTo_3 rfl) (gk (k := 96) (t := 7) ck_X_comesTo_3 rfl) rfl
theorem d_X_comesTo_104 : decode y_X_comesTo.2.1 104 = .ok (.iload 4, 2) := op_iload (gk (k := 96) (t := 8) ck_X_comesTo_3 rfl) (gk (k := 96) (t := 9) ck_X_comesTo_3 rfl) rfl
theorem d_X_comesTo_106 : decode y_X_comesTo.2.1 106 = .ok (.iconst 1, 1) := op_iconst1 (gk (k := 96) (t := 10) ck_X_comesTo_3 rfl)
theorem d_X_comesTo_107 : decode y_X_comesTo.2.1 107 = .ok (.isub, 1) := op_isub (gk (k := 96) (t := 11) ck_X_comesTo_3 rfl)
theorem d_X_comesTo_108 : decode y_X_comesTo.2.1 108 = .ok (.dup2, 1) := op_dup2 (gk (k := 96) (t := 12) ck_X_comesTo_3 rfl)
theorem d_X_comesTo_109 : decode y_X_comesTo.2.1 109 = .ok (.iaload, 1) := op_iaload (gk (k := 96) (t := 13) ck_X_comesTo_3 rfl)
theorem d_X_comesTo_110 : decode y_X_comesTo.2.1 110 = .ok (.iload 7, 2) := op_iload (gk (k := 96) (t := 14) ck_X_comesTo_3 rfl) (gk (k := 96) (t := 15) ck_X_comesTo_3 rfl) rfl
theorem d_X_comesTo_112 : decode y_X_comesTo.2.1 112 = .ok (.idiv, 1) := op_idiv (gk (k := 96) (t := 16) ck_X_comesTo_3 rfl)
theorem d_X_comesTo_113 : decode y_X_comesTo.2.1 113 = .ok (.iastore, 1) := op_iastore (gk (k := 96) (t := 17) ck_X_comesTo_3 rfl)
theorem d_X_comesTo_114 : decode y_X_comesTo.2.1 114 = .ok (.goto 66, 3) := op_goto (gk (k := 96) (t := 18) ck_X_comesTo_3 rfl) (gk (k := 96) (t := 19) ck_X_comesTo_3 rfl) (gk (k := 96) (t := 20) ck_X_comesTo_3 rfl) (by decide +kernel)
theorem d_X_comesTo_63 : decode y_X_comesTo.2.1 63 = .ok (.aload_n 0, 1) := op_aload_n0 (gk (k := 32) (t := 31) ck_X_comesTo_1 rfl)
theorem d_X_comesTo_64 : decode y_X_comesTo.2.1 64 = .ok (.getfield 28, 3) := op_getfield (gk (k := 64) (t := 0) ck_X_comesTo_2 rfl) (gk (k := 64) (t := 1) ck_X_comesTo_2 rfl) (gk (k := 64) (t := 2) ck_X_comesTo_2 rfl) rfl
theorem d_X_comesTo_67 : decode y_X_comesTo.2.1 67 = .ok (.iload 4, 2) := op_iload (gk (k := 64) (t := 3) ck_X_comesTo_2 rfl) (gk (k := 64) (t := 4) ck_X_comesTo_2 rfl) rfl
theorem d_X_comesTo_69 : decode y_X_comesTo.2.1 69 = .ok (.iload 6, 2) := op_iload (gk (k := 64) (t := 5) ck_X_comesTo_2 rfl) (gk (k := 64) (t := 6) ck_X_comesTo_2 rfl) rfl
theorem d_X_comesTo_86 : decode y_X_comesTo.2.1 86 = .ok (.iastore, 1) := op_iastore (gk (k := 64) (t := 22) ck_X_comesTo_2 rfl)
theorem d_X_comesTo_87 : decode y_X_comesTo.2.1 87 = .ok (.iinc 4 1, 3) := op_iinc (gk (k := 64) (t := 23) ck_X_comesTo_2 rfl) (gk (k := 64) (t := 24) ck_X_comesTo_2 rfl) (gk (k := 64) (t := 25) ck_X_comesTo_2 rfl) rfl rfl
theorem d_X_comesTo_90 : decode y_X_comesTo.2.1 90 = .ok (.goto 90, 3) := op_goto (gk (k := 64) (t := 26) ck_X_comesTo_2 rfl) (gk (k := 64) (t := 27) ck_X_comesTo_2 rfl) (gk (k := 64) (t := 28) ck_X_comesTo_2 rfl) (by decide +kernel)
theorem d_X_comesTo_71 : decode y_X_comesTo.2.1 71 = .ok (.ifCond .ne 8, 3) := op_if_ne (gk (k := 64) (t := 7) ck_X_comesTo_2 rfl) (gk (k := 64) (t := 8) ck_X_comesTo_2 rfl) (gk (k := 64) (t := 9) ck_X_comesTo_2 rfl) (by decide +kernel)
theorem d_X_comesTo_79 : decode y_X_comesTo.2.1 79 = .ok (.aload_n 0, 1) := op_aload_n0 (gk (k := 64) (t := 15) ck_X_comesTo_2 rfl)
theorem fl_X_31 : FL "SinglesUpModel" 31 9 8 := ⟨"SinglesUpModel", zT9, 51, rfl, by decide, rfl, Or.inl (tw_c5 101 (by decide +kernel) rfl)⟩
theorem rm_9_8 : ∀ o, KM[o]? = some (12, 51) → RM o 8 = some (o + 8) ∧ KM[o + 8]? = some (0, 12) := by
  intro o h
  have hl : o < 26 := (List.getElem?_eq_some_iff.mp h).1
  exact (by decide +kernel : ∀ o, o < 26 → KM[o]? = some (12, 51) → RM o 8 = some (o + 8) ∧ KM[o + 8]? = some (0, 12)) o hl h
theorem d_X_comesTo_80 : decode y_X_comesTo.2.1 80 = .ok (.getfield 31, 3) := op_getfield (gk (k := 64) (t := 16) ck_X_comesTo_2 rfl) (gk (k := 64) (t := 17) ck_X_comesTo_2 rfl) (gk (k := 64) (t := 18) ck_X_comesTo_2 rfl) rfl
theorem d_X_comesTo_83 : decode y_X_comesTo.2.1 83 = .ok (.iload 6, 2) := op_iload (gk (k := 64) (t := 19) ck_X_comesTo_2 rfl) (gk (k := 64) (t := 20) ck_X_comesTo_2 rfl) rfl
theorem d_X_comesTo_85 : decode y_X_comesTo.2.1 85 = .ok (.iaload, 1) := op_iaload (gk (k := 64) (t := 21) ck_X_comesTo_2 rfl)
theorem d_X_comesTo_74 : decode y_X_comesTo.2.1 74 = .ok (.iload 7, 2) := op_iload (gk (k := 64) (t := 10) ck_X_comesTo_2 rfl) (gk (k := 64) (t := 11) ck_X_comesTo_2 rfl) rfl
theorem d_X_comesTo_76 : decode y_X_comesTo.2.1 76 = .ok (.goto 10, 3) := op_goto (gk (k := 64) (t := 12) ck_X_comesTo_2 rfl) (gk (k := 64) (t := 13) ck_X_comesTo_2 rfl) (gk (k := 64) (t := 14) ck_X_comesTo_2 rfl) (by decide +kernel)
abbrev y_X_firstLine : MI := (⟨"SinglesUpModel", "firstLine", "(I)I"⟩, prog_11_method_37_code, 4, some .int)
theorem ck_X_firstLine_0 : (y_X_firstLine.2.1.data.toList.drop 0).take 32 = [3, 61, 28, 42, 180, 0, 7, 17, 6, 44, 27, 96, 46, 162, 0, 70, 16, 16, 27, 104, 28, 96, 62, 42, 180, 0, 7, 17, 7, 38, 29, 96] := by decide +kernel
theorem d_X_firstLine_0 : decode y_X_firstLine.2.1 0 = .ok (.iconst 0, 1) := op_iconst0 (gk (k := 0) (t := 0) ck_X_firstLine_0 rfl)
theorem d_X_firstLine_1 : decode y_X_firstLine.2.1 1 = .ok (.istore_n 2, 1) := op_istore_n2 (gk (k := 0) (t := 1) ck_X_firstLine_0 rfl)
theorem d_X_firstLine_2 : decode y_X_firstLine.2.1 2 = .ok (.iload_n 2, 1) := op_iload_n2 (gk (k := 0) (t := 2) ck_X_firstLine_0 rfl)
theorem d_X_firstLine_3 : decode y_X_firstLine.2.1 3 = .ok (.aload_n 0, 1) := op_aload_n0 (gk (k := 0) (t := 3) ck_X_firstLine_0 rfl)
theorem d_X_firstLine_4 : decode y_X_firstLine.2.1 4 = .ok (.getfield 7, 3) := op_getfield (gk (k := 0) (t := 4) ck_X_firstLine_0 rfl) (gk (k := 0) (t := 5) ck_X_firstLine_0 rfl) (gk (k := 0) (t := 6) ck_X_firstLine_0 rfl) rfl
theorem d_X_firstLine_7 : decode y_X_firstLine.2.1 7 = .ok (.sipush 1580, 3) := op_sipush (gk (k := 0) (t := 7) ck_X_firstLine_0 rfl) (gk (k := 0) (t := 8) ck_X_firstLine_0 rfl) (gk (k := 0) (t := 9) ck_X_firstLine_0 rfl) (by decide +kernel)
theorem d_X_firstLine_10 : decode y_X_firstLine.2.1 10 = .ok (.iload_n 1, 1) := op_iload_n1 (gk (k := 0) (t := 10) ck_X_firstLine_0 rfl)
theorem d_X_firstLine_11 : decode y_X_firstLine.2.1 11 = .ok (.iadd, 1) := op_iadd (gk (k := 0) (t := 11) ck_X_firstLine_0 rfl)
theorem d_X_firstLine_12 : decode y_X_firstLine.2.1 12 = .ok (.iaload, 1) := op_iaload (gk (k := 0) (t := 12) ck_X_firstLine_0 rfl)
theorem d_X_firstLine_13 : decode y_X_firstLine.2.1 13 = .ok (.if_icmp .ge 70, 3) := op_icmp_ge (gk (k := 0) (t := 13) ck_X_firstLine_0 rfl) (gk (k := 0) (t := 14) ck_X_firstLine_0 rfl) (gk (k := 0) (t := 15) ck_X_firstLine_0 rfl) (by decide +kernel)
theorem ck_X_firstLine_2 : (y_X_firstLine.2.1.data.toList.drop 64).take 32 = [38, 29, 96, 46, 182, 1, 1, 4, 160, 0, 5, 29, 172, 132, 2, 1, 167, 255, 178, 2, 172] := by decide +kernel
theorem d_X_firstLine_83 : decode y_X_firstLine.2.1 83 = .ok (.iconst (-1), 1) := op_iconstm1 (gk (k := 64) (t := 19) ck_X_firstLine_2 rfl)
theorem d_X_firstLine_84 : decode y_X_firstLine.2.1 84 = .ok (.ireturn, 1) := op_ireturn (gk (k := 64) (t := 20) ck_X_firstLine_2 rfl)
theorem d_X_firstLine_16 : decode y_X_firstLine.2.1 16 = .ok (.bipush 16, 2) := op_bipush (gk (k := 0) (t := 16) ck_X_firstLine_0 rfl) (gk (k := 0) (t := 17) ck_X_firstLine_0 rfl) rfl
theorem d_X_firstLine_18 : decode y_X_firstLine.2.1 18 = .ok (.iload_n 1, 1) := op_iload_n1 (gk (k := 0) (t := 18) ck_X_firstLine_0 rfl)
theorem d_X_firstLine_19 : decode y_X_firstLine.2.1 19 = .ok (.imul, 1) := op_imul (gk (k := 0) (t := 19) ck_X_firstLine_0 rfl)
theorem d_X_firstLine_20 : decode y_X_firstLine.2.1 20 = .ok (.iload_n 2, 1) := op_iload_n2 (gk (k := 0) (t := 20) ck_X_firstLine_0 rfl)
theorem d_X_firstLine_21 : decode y_X_firstLine.2.1 21 = .ok (.iadd, 1) := op_iadd (gk (k := 0) (t := 21) ck_X_firstLine_0 rfl)
theorem d_X_firstLine_22 : decode y_X_firstLine.2.1 22 = .ok (.istore_n 3, 1) := op_istore_n3 (gk (k := 0) (t := 22) ck_X_firstLine_0 rfl)
theorem d_X_firstLine_23 : decode y_X_firstLine.2.1 23 = .ok (.aload_n 0, 1) := op_aload_n0 (gk (k := 0) (t := 23) ck_X_firstLine_0 rfl)
theorem d_X_firstLine_24 : decode y_X_firstLine.2.1 24 = .ok (.getfield 7, 3) := op_getfield (gk (k := 0) (t := 24) ck_X_firstLine_0 rfl) (gk (k := 0) (t := 25) ck_X_firstLine_0 rfl) (gk (k := 0) (t := 26) ck_X_firstLine_0 rfl) rfl
theorem d_X_firstLine_27 : decode y_X_firstLine.2.1 27 = .ok (.sipush 1830, 3) := op_sipush (gk (k := 0) (t := 27) ck_X_firstLine_0 rfl) (gk (k := 0) (t := 28) ck_X_firstLine_0 rfl) (gk (k := 0) (t := 29) ck_X_firstLine_0 rfl) (by decide +kernel)
theorem d_X_firstLine_30 : decode y_X_firstLine.2.1 30 = .ok (.iload_n 3, 1) := op_iload_n3 (gk (k := 0) (t := 30) ck_X_firstLine_0 rfl)
theorem d_X_firstLine_31 : decode y_X_firstLine.2.1 31 = .ok (.iadd, 1) := op_iadd (gk (k := 0) (t := 31) ck_X_firstLine_0 rfl)
theorem ck_X_firstLine_1 : (y_X_firstLine.2.1.data.toList.drop 32).take 32 = [46, 42, 180, 0, 7, 17, 6, 214, 29, 96, 46, 159, 0, 32, 42, 27, 42, 180, 0, 7, 17, 6, 214, 29, 96, 46, 42, 180, 0, 7, 17, 7] := by decide +kernel
theorem d_X_firstLine_32 : decode y_X_firstLine.2.1 32 = .ok (.iaload, 1) := op_iaload (gk (k := 32) (t := 0) ck_X_firstLine_1 rfl)
theorem d_X_firstLine_33 : decode y_X_firstLine.2.1 33 = .ok (.aload_n 0, 1) := op_aload_n0 (gk (k := 32) (t := 1) ck_X_firstLine_1 rfl)
theorem d_X_firstLine_34 : decode y_X_firstLine.2.1 34 = .ok (.getfield 7, 3) := op_getfield (gk (k := 32) (t := 2) ck_X_firstLine_1 rfl) (gk (k := 32) (t := 3) ck_X_firstLine_1 rfl) (gk (k := 32) (t := 4) ck_X_firstLine_1 rfl) rfl
theorem d_X_firstLine_37 : decode y_X_firstLine.2.1 37 = .ok (.sipush 1750, 3) := op_sipush (gk (k := 32) (t := 5) ck_X_firstLine_1 rfl) (gk (k := 32) (t := 6) ck_X_firstLine_1 rfl) (gk (k := 32) (t := 7) ck_X_firstLine_1 rfl) (by decide +kernel)
theorem d_X_firstLine_40 : decode y_X_firstLine.2.1 40 = .ok (.iload_n 3, 1) := op_iload_n3 (gk (k := 32) (t := 8) ck_X_firstLine_1 rfl)
theorem d_X_firstLine_41 : decode y_X_firstLine.2.1 41 = .ok (.iadd, 1) := op_iadd (gk (k := 32) (t := 9) ck_X_firstLine_1 rfl)
theorem d_X_firstLine_42 : decode y_X_firstLine.2.1 42 = .ok (.iaload, 1) := op_iaload (gk (k := 32) (t := 10) ck_X_firstLine_1 rfl)
theorem d_X_firstLine_43 : decode y_X_firstLine.2.1 43 = .ok (.if_icmp .eq 32, 3) := op_icmp_eq (gk (k := 32) (t := 11) ck_X_firstLine_1 rfl) (gk (k := 32) (t := 12) ck_X_firstLine_1 rfl) (gk (k := 32) (t := 13) ck_X_firstLine_1 rfl) (by decide +kernel)
theorem d_X_firstLine_75 : decode y_X_firstLine.2.1 75 = .ok (.iload_n 3, 1) := op_iload_n3 (gk (k := 64) (t := 11) ck_X_firstLine_2 rfl)
theorem d_X_firstLine_76 : decode y_X_firstLine.2.1 76 = .ok (.ireturn, 1) := op_ireturn (gk (k := 64) (t := 12) ck_X_firstLine_2 rfl)
theorem d_X_firstLine_46 : decode y_X_firstLine.2.1 46 = .ok (.aload_n 0, 1) := op_aload_n0 (gk (k := 32) (t := 14) ck_X_firstLine_1 rfl)
theorem d_X_firstLine_47 : decode y_X_firstLine.2.1 47 = .ok (.iload_n 1, 1) := op_iload_n1 (gk (k := 32) (t := 15) ck_X_firstLine_1 rfl)
theorem d_X_firstLine_48 : decode y_X_firstLine.2.1 48 = .ok (.aload_n 0, 1) := op_aload_n0 (gk (k := 32) (t := 16) ck_X_firstLine_1 rfl)
theorem d_X_firstLine_49 : decode y_X_firstLine.2.1 49 = .ok (.getfield 7, 3) := op_getfield (gk (k := 32) (t := 17) ck_X_firstLine_1 rfl) (gk (k := 32) (t := 18) ck_X_firstLine_1 rfl) (gk (k := 32) (t := 19) ck_X_firstLine_1 rfl) rfl
theorem d_X_firstLine_52 : decode y_X_firstLine.2.1 52 = .ok (.sipush 1750, 3) := op_sipush (gk (k := 32) (t := 20) ck_X_firstLine_1 rfl) (gk (k := 32) (t := 21) ck_X_firstLine_1 rfl) (gk (k := 32) (t := 22) ck_X_firstLine_1 rfl) (by decide +kernel)
theorem d_X_firstLine_55 : decode y_X_firstLine.2.1 55 = .ok (.iload_n 3, 1) := op_iload_n3 (gk (k := 32) (t := 23) ck_X_firstLine_1 rfl)
theorem d_X_firstLine_56 : decode y_X_firstLine.2.1 56 = .ok (.iadd, 1) := op_iadd (gk (k := 32) (t := 24) ck_X_firstLine_1 rfl)
theorem d_X_firstLine_57 : decode y_X_firstLine.2.1 57 = .ok (.iaload, 1) := op_iaload (gk (k := 32) (t := 25) ck_X_firstLine_1 rfl)
theorem d_X_firstLine_58 : decode y_X_firstLine.2.1 58 = .ok (.aload_n 0, 1) := op_aload_n0 (gk (k := 32) (t := 26) ck_X_firstLine_1 rfl)
theorem d_X_firstLine_59 : decode y_X_firstLine.2.1 59 = .ok (.getfield 7, 3) := op_getfield (gk (k := 32) (t := 27) ck_X_firstLine_1 rfl) (gk (k := 32) (t := 28) ck_X_firstLine_1 rfl) (gk (k := 32) (t := 29) ck_X_firstLine_1 rfl) rfl
theorem d_X_firstLine_62 : decode y_X_firstLine.2.1 62 = .ok (.sipush 1830, 3) := op_sipush (gk (k := 32) (t := 30) ck_X_firstLine_1 rfl) (gk (k := 32) (t := 31) ck_X_firstLine_1 rfl) (gk (k := 64) (t := 0) ck_X_firstLine_2 rfl) (by decide +kernel)
theorem d_X_firstLine_65 : decode y_X_firstLine.2.1 65 = .ok (.iload_n 3, 1) := op_iload_n3 (gk (k := 64) (t := 1) ck_X_firstLine_2 rfl)
theorem d_X_firstLine_66 : decode y_X_firstLine.2.1 66 = .ok (.iadd, 1) := op_iadd (gk (k := 64) (t := 2) ck_X_firstLine_2 rfl)
theorem d_X_firstLine_67 : decode y_X_firstLine.2.1 67 = .ok (.iaload, 1) := op_iaload (gk (k := 64) (t := 3) ck_X_firstLine_2 rfl)
theorem lk_X_257 : LkV "SinglesUpModel" 257 y_X_comesTo := ⟨tw_c6 170 (by decide +kernel) rfl, tw_in 61 (by decide +kernel) rfl, Or.inl (tw_c6 168 (by decide +kernel) rfl)⟩
set_option maxRecDepth 100000 in
theorem mo_X_comesTo : MOk y_X_comesTo 3 := ⟨by decide +kernel, tw_c6 171 rfl rfl, tw_c1 12 (by decide +kernel) rfl, by decide +kernel, by decide +kernel, by decide +kernel⟩
theorem d_X_firstLine_68 : decode y_X_firstLine.2.1 68 = .ok (.invokevirtual 257, 3) := op_invokevirtual (gk (k := 64) (t := 4) ck_X_firstLine_2 rfl) (gk (k := 64) (t := 5) ck_X_firstLine_2 rfl) (gk (k := 64) (t := 6) ck_X_firstLine_2 rfl) rfl
theorem d_X_firstLine_71 : decode y_X_firstLine.2.1 71 = .ok (.iconst 1, 1) := op_iconst1 (gk (k := 64) (t := 7) ck_X_firstLine_2 rfl)
theorem d_X_firstLine_72 : decode y_X_firstLine.2.1 72 = .ok (.if_icmp .ne 5, 3) := op_icmp_ne (gk (k := 64) (t := 8) ck_X_firstLine_2 rfl) (gk (k := 64) (t := 9) ck_X_firstLine_2 rfl) (gk (k := 64) (t := 10) ck_X_firstLine_2 rfl) (by decide +kernel)
theorem d_X_firstLine_77 : decode y_X_firstLine.2.1 77 = .ok (.iinc 2 1, 3) := op_iinc (gk (k := 64) (t := 13) ck_X_firstLine_2 rfl) (gk (k := 64) (t := 14) ck_X_firstLine_2 rfl) (gk (k := 64) (t := 15) ck_X_firstLine_2 rfl) rfl rfl
theorem d_X_firstLine_80 : decode y_X_firstLine.2.1 80 = .ok (.goto (-78), 3) := op_goto (gk (k := 64) (t := 16) ck_X_firstLine_2 rfl) (gk (k := 64) (t := 17) ck_X_firstLine_2 rfl) (gk (k := 64) (t := 18) ck_X_firstLine_2 rfl) (by decide +kernel)
abbrev y_X_lineFor : MI := (⟨"SinglesUpModel", "lineFor", "(II)I"⟩, prog_11_method_41_code, 5, some .int)
theorem ck_X_lineFor_0 : (y_X_lineFor.2.1.data.toList.drop 0).take 32 = [42, 180, 0, 38, 2, 159, 0, 28, 27, 8, 162, 0, 21, 42, 180, 0, 38, 27, 4, 100, 122, 4, 126, 4, 160, 0, 7, 4, 167, 0, 4, 3] := by decide +kernel
theorem d_X_lineFor_0 : decode y_X_lineFor.2.1 0 = .ok (.aload_n 0, 1) := op_aload_n0 (gk (k := 0) (t := 0) ck_X_lineFor_0 rfl)
theorem fl_X_38 : FL "SinglesUpModel" 38 9 22 := ⟨"SinglesUpModel", zT9, 51, rfl, by decide, rfl, Or.inl (tw_c5 115 (by decide +kernel) rfl)⟩
theorem d_X_lineFor_1 : decode y_X_lineFor.2.1 1 = .ok (.getfield 38, 3) := op_getfield (gk (k := 0) (t := 1) ck_X_lineFor_0 rfl) (gk (k := 0) (t := 2) ck_X_lineFor_0 rfl) (gk (k := 0) (t := 3) ck_X_lineFor_0 rfl) rfl
theorem d_X_lineFor_4 : decode y_X_lineFor.2.1 4 = .ok (.iconst (-1), 1) := op_iconstm1 (gk (k := 0) (t := 4) ck_X_lineFor_0 rfl)
theorem d_X_lineFor_5 : decode y_X_lineFor.2.1 5 = .ok (.if_icmp .eq 28, 3) := op_icmp_eq (gk (k := 0) (t := 5) ck_X_lineFor_0 rfl) (gk (k := 0) (t := 6) ck_X_lineFor_0 rfl) (gk (k := 0) (t := 7) ck_X_lineFor_0 rfl) (by decide +kernel)
theorem ck_X_lineFor_1 : (y_X_lineFor.2.1.data.toList.drop 32).take 32 = [172, 3, 62, 4, 54, 4, 21, 4, 16, 6, 162, 0, 40, 42, 180, 0, 7, 17, 0, 130, 21, 4, 96, 46, 42, 180, 0, 7, 17, 0, 130, 29] := by decide +kernel
theorem d_X_lineFor_33 : decode y_X_lineFor.2.1 33 = .ok (.iconst 0, 1) := op_iconst0 (gk (k := 32) (t := 1) ck_X_lineFor_1 rfl)
theorem d_X_lineFor_34 : decode y_X_lineFor.2.1 34 = .ok (.istore_n 3, 1) := op_istore_n3 (gk (k := 32) (t := 2) ck_X_lineFor_1 rfl)
theorem d_X_lineFor_35 : decode y_X_lineFor.2.1 35 = .ok (.iconst 1, 1) := op_iconst1 (gk (k := 32) (t := 3) ck_X_lineFor_1 rfl)
theorem d_X_lineFor_36 : decode y_X_lineFor.2.1 36 = .ok (.istore 4, 2) := op_istore (gk (k := 32) (t := 4) ck_X_lineFor_1 rfl) (gk (k := 32) (t := 5) ck_X_lineFor_1 rfl) rfl
theorem d_X_lineFor_38 : decode y_X_lineFor.2.1 38 = .ok (.iload 4, 2) := op_iload (gk (k := 32) (t := 6) ck_X_lineFor_1 rfl) (gk (k := 32) (t := 7) ck_X_lineFor_1 rfl) rfl
theorem d_X_lineFor_40 : decode y_X_lineFor.2.1 40 = .ok (.bipush 6, 2) := op_bipush (gk (k := 32) (t := 8) ck_X_lineFor_1 rfl) (gk (k := 32) (t := 9) ck_X_lineFor_1 rfl) rfl
theorem d_X_lineFor_42 : decode y_X_lineFor.2.1 42 = .ok (.if_icmp .ge 40, 3) := op_icmp_ge (gk (k := 32) (t := 10) ck_X_lineFor_1 rfl) (gk (k := 32) (t := 11) ck_X_lineFor_1 rfl) (gk (k := 32) (t := 12) ck_X_lineFor_1 rfl) (by decide +kernel)
theorem d_X_lineFor_45 : decode y_X_lineFor.2.1 45 = .ok (.aload_n 0, 1) := op_aload_n0 (gk (k := 32) (t := 13) ck_X_lineFor_1 rfl)
theorem d_X_lineFor_46 : decode y_X_lineFor.2.1 46 = .ok (.getfield 7, 3) := op_getfield (gk (k := 32) (t := 14) ck_X_lineFor_1 rfl) (gk (k := 32) (t := 15) ck_X_lineFor_1 rfl) (gk (k := 32) (t := 16) ck_X_lineFor_1 rfl) rfl
theorem cs_130 : (Int16.ofInt 130).toInt32 = iv 130 := by decide +kernel
theorem d_X_lineFor_49 : decode y_X_lineFor.2.1 49 = .ok (.sipush 130, 3) := op_sipush (gk (k := 32) (t := 17) ck_X_lineFor_1 rfl) (gk (k := 32) (t := 18) ck_X_lineFor_1 rfl) (gk (k := 32) (t := 19) ck_X_lineFor_1 rfl) (by decide +kernel)
theorem d_X_lineFor_52 : decode y_X_lineFor.2.1 52 = .ok (.iload 4, 2) := op_iload (gk (k := 32) (t := 20) ck_X_lineFor_1 rfl) (gk (k := 32) (t := 21) ck_X_lineFor_1 rfl) rfl
theorem d_X_lineFor_54 : decode y_X_lineFor.2.1 54 = .ok (.iadd, 1) := op_iadd (gk (k := 32) (t := 22) ck_X_lineFor_1 rfl)
theorem d_X_lineFor_55 : decode y_X_lineFor.2.1 55 = .ok (.iaload, 1) := op_iaload (gk (k := 32) (t := 23) ck_X_lineFor_1 rfl)
theorem d_X_lineFor_56 : decode y_X_lineFor.2.1 56 = .ok (.aload_n 0, 1) := op_aload_n0 (gk (k := 32) (t := 24) ck_X_lineFor_1 rfl)
theorem d_X_lineFor_57 : decode y_X_lineFor.2.1 57 = .ok (.getfield 7, 3) := op_getfield (gk (k := 32) (t := 25) ck_X_lineFor_1 rfl) (gk (k := 32) (t := 26) ck_X_lineFor_1 rfl) (gk (k := 32) (t := 27) ck_X_lineFor_1 rfl) rfl
theorem d_X_lineFor_60 : decode y_X_lineFor.2.1 60 = .ok (.sipush 130, 3) := op_sipush (gk (k := 32) (t := 28) ck_X_lineFor_1 rfl) (gk (k := 32) (t := 29) ck_X_lineFor_1 rfl) (gk (k := 32) (t := 30) ck_X_lineFor_1 rfl) (by decide +kernel)
theorem d_X_lineFor_63 : decode y_X_lineFor.2.1 63 = .ok (.iload_n 3, 1) := op_iload_n3 (gk (k := 32) (t := 31) ck_X_lineFor_1 rfl)
theorem ck_X_lineFor_2 : (y_X_lineFor.2.1.data.toList.drop 64).take 32 = [96, 46, 162, 0, 8, 21, 4, 167, 0, 4, 29, 62, 132, 4, 1, 167, 255, 215, 42, 180, 0, 31, 4, 27, 79, 42, 180, 0, 31, 16, 7, 28] := by decide +kernel
theorem d_X_lineFor_64 : decode y_X_lineFor.2.1 64 = .ok (.iadd, 1) := op_iadd (gk (k := 64) (t := 0) ck_X_lineFor_2 rfl)
theorem d_X_lineFor_65 : decode y_X_lineFor.2.1 65 = .ok (.iaload, 1) := op_iaload (gk (k := 64) (t := 1) ck_X_lineFor_2 rfl)
theorem d_X_lineFor_75 : decode y_X_lineFor.2.1 75 = .ok (.istore_n 3, 1) := op_istore_n3 (gk (k := 64) (t := 11) ck_X_lineFor_2 rfl)
theorem d_X_lineFor_76 : decode y_X_lineFor.2.1 76 = .ok (.iinc 4 1, 3) := op_iinc (gk (k := 64) (t := 12) ck_X_lineFor_2 rfl) (gk (k := 64) (t := 13) ck_X_lineFor_2 rfl) (gk (k := 64) (t := 14) ck_X_lineFor_2 rfl) rfl rfl
theorem d_X_lineFor_79 : decode y_X_lineFor.2.1 79 = .ok (.goto (-41), 3) := op_goto (gk (k := 64) (t := 15) ck_X_lineFor_2 rfl) (gk (k := 64) (t := 16) ck_X_lineFor_2 rfl) (gk (k := 64) (t := 17) ck_X_lineFor_2 rfl) (by decide +kernel)
theorem d_X_lineFor_66 : decode y_X_lineFor.2.1 66 = .ok (.if_icmp .ge 8, 3) := op_icmp_ge (gk (k := 64) (t := 2) ck_X_lineFor_2 rfl) (gk (k := 64) (t := 3) ck_X_lineFor_2 rfl) (gk (k := 64) (t := 4) ck_X_lineFor_2 rfl) (by decide +kernel)
theorem d_X_lineFor_74 : decode y_X_lineFor.2.1 74 = .ok (.iload_n 3, 1) := op_iload_n3 (gk (k := 64) (t := 10) ck_X_lineFor_2 rfl)
theorem d_X_lineFor_69 : decode y_X_lineFor.2.1 69 = .ok (.iload 4, 2) := op_iload (gk (k := 64) (t := 5) ck_X_lineFor_2 rfl) (gk (k := 64) (t := 6) ck_X_lineFor_2 rfl) rfl
theorem d_X_lineFor_71 : decode y_X_lineFor.2.1 71 = .ok (.goto 4, 3) := op_goto (gk (k := 64) (t := 7) ck_X_lineFor_2 rfl) (gk (k := 64) (t := 8) ck_X_lineFor_2 rfl) (gk (k := 64) (t := 9) ck_X_lineFor_2 rfl) (by decide +kernel)
theorem d_X_lineFor_82 : decode y_X_lineFor.2.1 82 = .ok (.aload_n 0, 1) := op_aload_n0 (gk (k := 64) (t := 18) ck_X_lineFor_2 rfl)
theorem d_X_lineFor_83 : decode y_X_lineFor.2.1 83 = .ok (.getfield 31, 3) := op_getfield (gk (k := 64) (t := 19) ck_X_lineFor_2 rfl) (gk (k := 64) (t := 20) ck_X_lineFor_2 rfl) (gk (k := 64) (t := 21) ck_X_lineFor_2 rfl) rfl
theorem d_X_lineFor_86 : decode y_X_lineFor.2.1 86 = .ok (.iconst 1, 1) := op_iconst1 (gk (k := 64) (t := 22) ck_X_lineFor_2 rfl)
theorem d_X_lineFor_87 : decode y_X_lineFor.2.1 87 = .ok (.iload_n 1, 1) := op_iload_n1 (gk (k := 64) (t := 23) ck_X_lineFor_2 rfl)
theorem d_X_lineFor_88 : decode y_X_lineFor.2.1 88 = .ok (.iastore, 1) := op_iastore (gk (k := 64) (t := 24) ck_X_lineFor_2 rfl)
theorem d_X_lineFor_89 : decode y_X_lineFor.2.1 89 = .ok (.aload_n 0, 1) := op_aload_n0 (gk (k := 64) (t := 25) ck_X_lineFor_2 rfl)
theorem d_X_lineFor_90 : decode y_X_lineFor.2.1 90 = .ok (.getfield 31, 3) := op_getfield (gk (k := 64) (t := 26) ck_X_lineFor_2 rfl) (gk (k := 64) (t := 27) ck_X_lineFor_2 rfl) (gk (k := 64) (t := 28) ck_X_lineFor_2 rfl) rfl
theorem d_X_lineFor_93 : decode y_X_lineFor.2.1 93 = .ok (.bipush 7, 2) := op_bipush (gk (k := 64) (t := 29) ck_X_lineFor_2 rfl) (gk (k := 64) (t := 30) ck_X_lineFor_2 rfl) rfl
theorem d_X_lineFor_95 : decode y_X_lineFor.2.1 95 = .ok (.iload_n 2, 1) := op_iload_n2 (gk (k := 64) (t := 31) ck_X_lineFor_2 rfl)
theorem ck_X_lineFor_3 : (y_X_lineFor.2.1.data.toList.drop 96).take 32 = [79, 42, 180, 0, 31, 16, 10, 29, 79, 42, 180, 0, 31, 16, 11, 42, 180, 0, 7, 17, 0, 130, 46, 79, 42, 7, 182, 1, 11, 54, 4, 21] := by decide +kernel
theorem d_X_lineFor_96 : decode y_X_lineFor.2.1 96 = .ok (.iastore, 1) := op_iastore (gk (k := 96) (t := 0) ck_X_lineFor_3 rfl)
theorem d_X_lineFor_97 : decode y_X_lineFor.2.1 97 = .ok (.aload_n 0, 1) := op_aload_n0 (gk (k := 96) (t := 1) ck_X_lineFor_3 rfl)
theorem d_X_lineFor_98 : decode y_X_lineFor.2.1 98 = .ok (.getfield 31, 3) := op_getfield (gk (k := 96) (t := 2) ck_X_lineFor_3 rfl) (gk (k := 96) (t := 3) ck_X_lineFor_3 rfl) (gk (k := 96) (t := 4) ck_X_lineFor_3 rfl) rfl
theorem d_X_lineFor_101 : decode y_X_lineFor.2.1 101 = .ok (.bipush 10, 2) := op_bipush (gk (k := 96) (t := 5) ck_X_lineFor_3 rfl) (gk (k := 96) (t := 6) ck_X_lineFor_3 rfl) rfl
theorem d_X_lineFor_103 : decode y_X_lineFor.2.1 103 = .ok (.iload_n 3, 1) := op_iload_n3 (gk (k := 96) (t := 7) ck_X_lineFor_3 rfl)
theorem d_X_lineFor_104 : decode y_X_lineFor.2.1 104 = .ok (.iastore, 1) := op_iastore (gk (k := 96) (t := 8) ck_X_lineFor_3 rfl)
theorem d_X_lineFor_105 : decode y_X_lineFor.2.1 105 = .ok (.aload_n 0, 1) := op_aload_n0 (gk (k := 96) (t := 9) ck_X_lineFor_3 rfl)
theorem d_X_lineFor_106 : decode y_X_lineFor.2.1 106 = .ok (.getfield 31, 3) := op_getfield (gk (k := 96) (t := 10) ck_X_lineFor_3 rfl) (gk (k := 96) (t := 11) ck_X_lineFor_3 rfl) (gk (k := 96) (t := 12) ck_X_lineFor_3 rfl) rfl
theorem d_X_lineFor_109 : decode y_X_lineFor.2.1 109 = .ok (.bipush 11, 2) := op_bipush (gk (k := 96) (t := 13) ck_X_lineFor_3 rfl) (gk (k := 96) (t := 14) ck_X_lineFor_3 rfl) rfl
theorem d_X_lineFor_111 : decode y_X_lineFor.2.1 111 = .ok (.aload_n 0, 1) := op_aload_n0 (gk (k := 96) (t := 15) ck_X_lineFor_3 rfl)
theorem d_X_lineFor_112 : decode y_X_lineFor.2.1 112 = .ok (.getfield 7, 3) := op_getfield (gk (k := 96) (t := 16) ck_X_lineFor_3 rfl) (gk (k := 96) (t := 17) ck_X_lineFor_3 rfl) (gk (k := 96) (t := 18) ck_X_lineFor_3 rfl) rfl
theorem d_X_lineFor_115 : decode y_X_lineFor.2.1 115 = .ok (.sipush 130, 3) := op_sipush (gk (k := 96) (t := 19) ck_X_lineFor_3 rfl) (gk (k := 96) (t := 20) ck_X_lineFor_3 rfl) (gk (k := 96) (t := 21) ck_X_lineFor_3 rfl) (by decide +kernel)
theorem d_X_lineFor_118 : decode y_X_lineFor.2.1 118 = .ok (.iaload, 1) := op_iaload (gk (k := 96) (t := 22) ck_X_lineFor_3 rfl)
theorem d_X_lineFor_119 : decode y_X_lineFor.2.1 119 = .ok (.iastore, 1) := op_iastore (gk (k := 96) (t := 23) ck_X_lineFor_3 rfl)
theorem d_X_lineFor_120 : decode y_X_lineFor.2.1 120 = .ok (.aload_n 0, 1) := op_aload_n0 (gk (k := 96) (t := 24) ck_X_lineFor_3 rfl)
theorem d_X_lineFor_121 : decode y_X_lineFor.2.1 121 = .ok (.iconst 4, 1) := op_iconst4 (gk (k := 96) (t := 25) ck_X_lineFor_3 rfl)
theorem lk_X_267 : LkV "SinglesUpModel" 267 y_X_firstLine := ⟨tw_c6 166 (by decide +kernel) rfl, tw_in 60 (by decide +kernel) rfl, Or.inl (tw_c6 164 (by decide +kernel) rfl)⟩
set_option maxRecDepth 100000 in
theorem mo_X_firstLine : MOk y_X_firstLine 1 := ⟨by decide +kernel, tw_c6 167 rfl rfl, tw_c1 12 (by decide +kernel) rfl, by decide +kernel, by decide +kernel, by decide +kernel⟩
theorem d_X_lineFor_122 : decode y_X_lineFor.2.1 122 = .ok (.invokevirtual 267, 3) := op_invokevirtual (gk (k := 96) (t := 26) ck_X_lineFor_3 rfl) (gk (k := 96) (t := 27) ck_X_lineFor_3 rfl) (gk (k := 96) (t := 28) ck_X_lineFor_3 rfl) rfl
theorem d_X_lineFor_125 : decode y_X_lineFor.2.1 125 = .ok (.istore 4, 2) := op_istore (gk (k := 96) (t := 29) ck_X_lineFor_3 rfl) (gk (k := 96) (t := 30) ck_X_lineFor_3 rfl) rfl
theorem ck_X_lineFor_4 : (y_X_lineFor.2.1.data.toList.drop 128).take 32 = [4, 2, 160, 0, 7, 3, 167, 0, 14, 42, 180, 0, 7, 17, 6, 54, 21, 4, 96, 46, 172] := by decide +kernel
theorem d_X_lineFor_127 : decode y_X_lineFor.2.1 127 = .ok (.iload 4, 2) := op_iload (gk (k := 96) (t := 31) ck_X_lineFor_3 rfl) (gk (k := 128) (t := 0) ck_X_lineFor_4 rfl) rfl
theorem d_X_lineFor_129 : decode y_X_lineFor.2.1 129 = .ok (.iconst (-1), 1) := op_iconstm1 (gk (k := 128) (t := 1) ck_X_lineFor_4 rfl)
theorem d_X_lineFor_130 : decode y_X_lineFor.2.1 130 = .ok (.if_icmp .ne 7, 3) := op_icmp_ne (gk (k := 128) (t := 2) ck_X_lineFor_4 rfl) (gk (k := 128) (t := 3) ck_X_lineFor_4 rfl) (gk (k := 128) (t := 4) ck_X_lineFor_4 rfl) (by decide +kernel)
theorem d_X_lineFor_137 : decode y_X_lineFor.2.1 137 = .ok (.aload_n 0, 1) := op_aload_n0 (gk (k := 128) (t := 9) ck_X_lineFor_4 rfl)
theorem d_X_lineFor_138 : decode y_X_lineFor.2.1 138 = .ok (.getfield 7, 3) := op_getfield (gk (k := 128) (t := 10) ck_X_lineFor_4 rfl) (gk (k := 128) (t := 11) ck_X_lineFor_4 rfl) (gk (k := 128) (t := 12) ck_X_lineFor_4 rfl) rfl
theorem d_X_lineFor_141 : decode y_X_lineFor.2.1 141 = .ok (.sipush 1590, 3) := op_sipush (gk (k := 128) (t := 13) ck_X_lineFor_4 rfl) (gk (k := 128) (t := 14) ck_X_lineFor_4 rfl) (gk (k := 128) (t := 15) ck_X_lineFor_4 rfl) (by decide +kernel)
theorem d_X_lineFor_144 : decode y_X_lineFor.2.1 144 = .ok (.iload 4, 2) := op_iload (gk (k := 128) (t := 16) ck_X_lineFor_4 rfl) (gk (k := 128) (t := 17) ck_X_lineFor_4 rfl) rfl
theorem d_X_lineFor_146 : decode y_X_lineFor.2.1 146 = .ok (.iadd, 1) := op_iadd (gk (k := 128) (t := 18) ck_X_lineFor_4 rfl)
theorem d_X_lineFor_147 : decode y_X_lineFor.2.1 147 = .ok (.iaload, 1) := op_iaload (gk (k := 128) (t := 19) ck_X_lineFor_4 rfl)
theorem d_X_lineFor_148 : decode y_X_lineFor.2.1 148 = .ok (.ireturn, 1) := op_ireturn (gk (k := 128) (t := 20) ck_X_lineFor_4 rfl)
theorem d_X_lineFor_133 : decode y_X_lineFor.2.1 133 = .ok (.iconst 0, 1) := op_iconst0 (gk (k := 128) (t := 5) ck_X_lineFor_4 rfl)
theorem d_X_lineFor_134 : decode y_X_lineFor.2.1 134 = .ok (.goto 14, 3) := op_goto (gk (k := 128) (t := 6) ck_X_lineFor_4 rfl) (gk (k := 128) (t := 7) ck_X_lineFor_4 rfl) (gk (k := 128) (t := 8) ck_X_lineFor_4 rfl) (by decide +kernel)
theorem d_X_lineFor_8 : decode y_X_lineFor.2.1 8 = .ok (.iload_n 1, 1) := op_iload_n1 (gk (k := 0) (t := 8) ck_X_lineFor_0 rfl)
theorem d_X_lineFor_9 : decode y_X_lineFor.2.1 9 = .ok (.iconst 5, 1) := op_iconst5 (gk (k := 0) (t := 9) ck_X_lineFor_0 rfl)
theorem d_X_lineFor_10 : decode y_X_lineFor.2.1 10 = .ok (.if_icmp .ge 21, 3) := op_icmp_ge (gk (k := 0) (t := 10) ck_X_lineFor_0 rfl) (gk (k := 0) (t := 11) ck_X_lineFor_0 rfl) (gk (k := 0) (t := 12) ck_X_lineFor_0 rfl) (by decide +kernel)
theorem d_X_lineFor_31 : decode y_X_lineFor.2.1 31 = .ok (.iconst 0, 1) := op_iconst0 (gk (k := 0) (t := 31) ck_X_lineFor_0 rfl)
theorem d_X_lineFor_32 : decode y_X_lineFor.2.1 32 = .ok (.ireturn, 1) := op_ireturn (gk (k := 32) (t := 0) ck_X_lineFor_1 rfl)
theorem d_X_lineFor_13 : decode y_X_lineFor.2.1 13 = .ok (.aload_n 0, 1) := op_aload_n0 (gk (k := 0) (t := 13) ck_X_lineFor_0 rfl)
theorem d_X_lineFor_14 : decode y_X_lineFor.2.1 14 = .ok (.getfield 38, 3) := op_getfield (gk (k := 0) (t := 14) ck_X_lineFor_0 rfl) (gk (k := 0) (t := 15) ck_X_lineFor_0 rfl) (gk (k := 0) (t := 16) ck_X_lineFor_0 rfl) rfl
theorem d_X_lineFor_17 : decode y_X_lineFor.2.1 17 = .ok (.iload_n 1, 1) := op_iload_n1 (gk (k := 0) (t := 17) ck_X_lineFor_0 rfl)
theorem d_X_lineFor_18 : decode y_X_lineFor.2.1 18 = .ok (.iconst 1, 1) := op_iconst1 (gk (k := 0) (t := 18) ck_X_lineFor_0 rfl)
theorem d_X_lineFor_19 : decode y_X_lineFor.2.1 19 = .ok (.isub, 1) := op_isub (gk (k := 0) (t := 19) ck_X_lineFor_0 rfl)
theorem d_X_lineFor_20 : decode y_X_lineFor.2.1 20 = .ok (.ishr, 1) := op_ishr (gk (k := 0) (t := 20) ck_X_lineFor_0 rfl)
theorem d_X_lineFor_21 : decode y_X_lineFor.2.1 21 = .ok (.iconst 1, 1) := op_iconst1 (gk (k := 0) (t := 21) ck_X_lineFor_0 rfl)
theorem d_X_lineFor_22 : decode y_X_lineFor.2.1 22 = .ok (.iand, 1) := op_iand (gk (k := 0) (t := 22) ck_X_lineFor_0 rfl)
theorem d_X_lineFor_23 : decode y_X_lineFor.2.1 23 = .ok (.iconst 1, 1) := op_iconst1 (gk (k := 0) (t := 23) ck_X_lineFor_0 rfl)
theorem d_X_lineFor_24 : decode y_X_lineFor.2.1 24 = .ok (.if_icmp .ne 7, 3) := op_icmp_ne (gk (k := 0) (t := 24) ck_X_lineFor_0 rfl) (gk (k := 0) (t := 25) ck_X_lineFor_0 rfl) (gk (k := 0) (t := 26) ck_X_lineFor_0 rfl) (by decide +kernel)
theorem d_X_lineFor_27 : decode y_X_lineFor.2.1 27 = .ok (.iconst 1, 1) := op_iconst1 (gk (k := 0) (t := 27) ck_X_lineFor_0 rfl)
theorem d_X_lineFor_28 : decode y_X_lineFor.2.1 28 = .ok (.goto 4, 3) := op_goto (gk (k := 0) (t := 28) ck_X_lineFor_0 rfl) (gk (k := 0) (t := 29) ck_X_lineFor_0 rfl) (gk (k := 0) (t := 30) ck_X_lineFor_0 rfl) (by decide +kernel)
abbrev y_X_cell : MI := (⟨"SinglesUpModel", "cell", "(II)I"⟩, prog_11_method_38_code, 2, some .int)
theorem ck_X_cell_0 : (y_X_cell.2.1.data.toList.drop 0).take 32 = [17, 0, 140, 16, 6, 16, 40, 26, 104, 27, 96, 104, 96, 172] := by decide +kernel
theorem d_X_cell_0 : decode y_X_cell.2.1 0 = .ok (.sipush 140, 3) := op_sipush (gk (k := 0) (t := 0) ck_X_cell_0 rfl) (gk (k := 0) (t := 1) ck_X_cell_0 rfl) (gk (k := 0) (t := 2) ck_X_cell_0 rfl) (by decide +kernel)
theorem d_X_cell_3 : decode y_X_cell.2.1 3 = .ok (.bipush 6, 2) := op_bipush (gk (k := 0) (t := 3) ck_X_cell_0 rfl) (gk (k := 0) (t := 4) ck_X_cell_0 rfl) rfl
theorem d_X_cell_5 : decode y_X_cell.2.1 5 = .ok (.bipush 40, 2) := op_bipush (gk (k := 0) (t := 5) ck_X_cell_0 rfl) (gk (k := 0) (t := 6) ck_X_cell_0 rfl) rfl
theorem d_X_cell_7 : decode y_X_cell.2.1 7 = .ok (.iload_n 0, 1) := op_iload_n0 (gk (k := 0) (t := 7) ck_X_cell_0 rfl)
theorem d_X_cell_8 : decode y_X_cell.2.1 8 = .ok (.imul, 1) := op_imul (gk (k := 0) (t := 8) ck_X_cell_0 rfl)
theorem d_X_cell_9 : decode y_X_cell.2.1 9 = .ok (.iload_n 1, 1) := op_iload_n1 (gk (k := 0) (t := 9) ck_X_cell_0 rfl)
theorem d_X_cell_10 : decode y_X_cell.2.1 10 = .ok (.iadd, 1) := op_iadd (gk (k := 0) (t := 10) ck_X_cell_0 rfl)
theorem d_X_cell_11 : decode y_X_cell.2.1 11 = .ok (.imul, 1) := op_imul (gk (k := 0) (t := 11) ck_X_cell_0 rfl)
theorem d_X_cell_12 : decode y_X_cell.2.1 12 = .ok (.iadd, 1) := op_iadd (gk (k := 0) (t := 12) ck_X_cell_0 rfl)
theorem d_X_cell_13 : decode y_X_cell.2.1 13 = .ok (.ireturn, 1) := op_ireturn (gk (k := 0) (t := 13) ck_X_cell_0 rfl)
abbrev y_X_stands : MI := (⟨"SinglesUpModel", "stands", "(IIIIIII)Z"⟩, prog_11_method_42_code, 9, some .boolean)
theorem ck_X_stands_0 : (y_X_stands.2.1.data.toList.drop 0).take 32 = [42, 180, 0, 7, 17, 0, 130, 27, 96, 46, 16, 40, 160, 0, 40, 42, 180, 0, 7, 16, 76, 92, 46, 4, 96, 79, 42, 42, 180, 1, 14, 154] := by decide +kernel
theorem d_X_stands_0 : decode y_X_stands.2.1 0 = .ok (.aload_n 0, 1) := op_aload_n0 (gk (k := 0) (t := 0) ck_X_stands_0 rfl)
theorem d_X_stands_1 : decode y_X_stands.2.1 1 = .ok (.getfield 7, 3) := op_getfield (gk (k := 0) (t := 1) ck_X_stands_0 rfl) (gk (k := 0) (t := 2) ck_X_stands_0 rfl) (gk (k := 0) (t := 3) ck_X_stands_0 rfl) rfl
theorem d_X_stands_4 : decode y_X_stands.2.1 4 = .ok (.sipush 130, 3) := op_sipush (gk (k := 0) (t := 4) ck_X_stands_0 rfl) (gk (k := 0) (t := 5) ck_X_stands_0 rfl) (gk (k := 0) (t := 6) ck_X_stands_0 rfl) (by decide +kernel)
theorem d_X_stands_7 : decode y_X_stands.2.1 7 = .ok (.iload_n 1, 1) := op_iload_n1 (gk (k := 0) (t := 7) ck_X_stands_0 rfl)
theorem d_X_stands_8 : decode y_X_stands.2.1 8 = .ok (.iadd, 1) := op_iadd (gk (k := 0) (t := 8) ck_X_stands_0 rfl)
theorem d_X_stands_9 : decode y_X_stands.2.1 9 = .ok (.iaload, 1) := op_iaload (gk (k := 0) (t := 9) ck_X_stands_0 rfl)
theorem d_X_stands_10 : decode y_X_stands.2.1 10 = .ok (.bipush 40, 2) := op_bipush (gk (k := 0) (t := 10) ck_X_stands_0 rfl) (gk (k := 0) (t := 11) ck_X_stands_0 rfl) rfl
theorem d_X_stands_12 : decode y_X_stands.2.1 12 = .ok (.if_icmp .ne 40, 3) := op_icmp_ne (gk (k := 0) (t := 12) ck_X_stands_0 rfl) (gk (k := 0) (t := 13) ck_X_stands_0 rfl) (gk (k := 0) (t := 14) ck_X_stands_0 rfl) (by decide +kernel)
theorem ck_X_stands_1 : (y_X_stands.2.1.data.toList.drop 32).take 32 = [0, 11, 28, 42, 180, 0, 41, 160, 0, 7, 4, 167, 0, 4, 3, 181, 1, 14, 3, 172, 27, 42, 180, 0, 7, 17, 0, 130, 27, 96, 46, 184] := by decide +kernel
theorem d_X_stands_52 : decode y_X_stands.2.1 52 = .ok (.iload_n 1, 1) := op_iload_n1 (gk (k := 32) (t := 20) ck_X_stands_1 rfl)
theorem d_X_stands_53 : decode y_X_stands.2.1 53 = .ok (.aload_n 0, 1) := op_aload_n0 (gk (k := 32) (t := 21) ck_X_stands_1 rfl)
theorem d_X_stands_54 : decode y_X_stands.2.1 54 = .ok (.getfield 7, 3) := op_getfield (gk (k := 32) (t := 22) ck_X_stands_1 rfl) (gk (k := 32) (t := 23) ck_X_stands_1 rfl) (gk (k := 32) (t := 24) ck_X_stands_1 rfl) rfl
theorem d_X_stands_57 : decode y_X_stands.2.1 57 = .ok (.sipush 130, 3) := op_sipush (gk (k := 32) (t := 25) ck_X_stands_1 rfl) (gk (k := 32) (t := 26) ck_X_stands_1 rfl) (gk (k := 32) (t := 27) ck_X_stands_1 rfl) (by decide +kernel)
theorem d_X_stands_60 : decode y_X_stands.2.1 60 = .ok (.iload_n 1, 1) := op_iload_n1 (gk (k := 32) (t := 28) ck_X_stands_1 rfl)
theorem d_X_stands_61 : decode y_X_stands.2.1 61 = .ok (.iadd, 1) := op_iadd (gk (k := 32) (t := 29) ck_X_stands_1 rfl)
theorem d_X_stands_62 : decode y_X_stands.2.1 62 = .ok (.iaload, 1) := op_iaload (gk (k := 32) (t := 30) ck_X_stands_1 rfl)
theorem lk_X_260 : LkS "SinglesUpModel" 260 y_X_cell := ⟨tw_c6 180 (by decide +kernel) rfl, Or.inl (tw_c6 179 (by decide +kernel) rfl)⟩
set_option maxRecDepth 100000 in
theorem mo_X_cell : MOk y_X_cell 2 := ⟨by decide +kernel, tw_c6 181 rfl rfl, tw_c1 12 (by decide +kernel) rfl, by decide +kernel, by decide +kernel, by decide +kernel⟩
theorem ck_X_stands_2 : (y_X_stands.2.1.data.toList.drop 64).take 32 = [1, 4, 54, 8, 42, 180, 0, 7, 21, 8, 3, 96, 28, 79, 42, 180, 0, 7, 21, 8, 4, 96, 29, 79, 42, 180, 0, 7, 21, 8, 5, 96] := by decide +kernel
theorem d_X_stands_63 : decode y_X_stands.2.1 63 = .ok (.invokestatic 260, 3) := op_invokestatic (gk (k := 32) (t := 31) ck_X_stands_1 rfl) (gk (k := 64) (t := 0) ck_X_stands_2 rfl) (gk (k := 64) (t := 1) ck_X_stands_2 rfl) rfl
theorem d_X_stands_66 : decode y_X_stands.2.1 66 = .ok (.istore 8, 2) := op_istore (gk (k := 64) (t := 2) ck_X_stands_2 rfl) (gk (k := 64) (t := 3) ck_X_stands_2 rfl) rfl
theorem d_X_stands_68 : decode y_X_stands.2.1 68 = .ok (.aload_n 0, 1) := op_aload_n0 (gk (k := 64) (t := 4) ck_X_stands_2 rfl)
theorem d_X_stands_69 : decode y_X_stands.2.1 69 = .ok (.getfield 7, 3) := op_getfield (gk (k := 64) (t := 5) ck_X_stands_2 rfl) (gk (k := 64) (t := 6) ck_X_stands_2 rfl) (gk (k := 64) (t := 7) ck_X_stands_2 rfl) rfl
theorem d_X_stands_72 : decode y_X_stands.2.1 72 = .ok (.iload 8, 2) := op_iload (gk (k := 64) (t := 8) ck_X_stands_2 rfl) (gk (k := 64) (t := 9) ck_X_stands_2 rfl) rfl
theorem d_X_stands_74 : decode y_X_stands.2.1 74 = .ok (.iconst 0, 1) := op_iconst0 (gk (k := 64) (t := 10) ck_X_stands_2 rfl)
theorem d_X_stands_75 : decode y_X_stands.2.1 75 = .ok (.iadd, 1) := op_iadd (gk (k := 64) (t := 11) ck_X_stands_2 rfl)
theorem d_X_stands_76 : decode y_X_stands.2.1 76 = .ok (.iload_n 2, 1) := op_iload_n2 (gk (k := 64) (t := 12) ck_X_stands_2 rfl)
theorem d_X_stands_77 : decode y_X_stands.2.1 77 = .ok (.iastore, 1) := op_iastore (gk (k := 64) (t := 13) ck_X_stands_2 rfl)
theorem d_X_stands_78 : decode y_X_stands.2.1 78 = .ok (.aload_n 0, 1) := op_aload_n0 (gk (k := 64) (t := 14) ck_X_stands_2 rfl)
theorem d_X_stands_79 : decode y_X_stands.2.1 79 = .ok (.getfield 7, 3) := op_getfield (gk (k := 64) (t := 15) ck_X_stands_2 rfl) (gk (k := 64) (t := 16) ck_X_stands_2 rfl) (gk (k := 64) (t := 17) ck_X_stands_2 rfl) rfl
theorem d_X_stands_82 : decode y_X_stands.2.1 82 = .ok (.iload 8, 2) := op_iload (gk (k := 64) (t := 18) ck_X_stands_2 rfl) (gk (k := 64) (t := 19) ck_X_stands_2 rfl) rfl
theorem d_X_stands_84 : decode y_X_stands.2.1 84 = .ok (.iconst 1, 1) := op_iconst1 (gk (k := 64) (t := 20) ck_X_stands_2 rfl)
theorem d_X_stands_85 : decode y_X_stands.2.1 85 = .ok (.iadd, 1) := op_iadd (gk (k := 64) (t := 21) ck_X_stands_2 rfl)
theorem d_X_stands_86 : decode y_X_stands.2.1 86 = .ok (.iload_n 3, 1) := op_iload_n3 (gk (k := 64) (t := 22) ck_X_stands_2 rfl)
theorem d_X_stands_87 : decode y_X_stands.2.1 87 = .ok (.iastore, 1) := op_iastore (gk (k := 64) (t := 23) ck_X_stands_2 rfl)
theorem d_X_stands_88 : decode y_X_stands.2.1 88 = .ok (.aload_n 0, 1) := op_aload_n0 (gk (k := 64) (t := 24) ck_X_stands_2 rfl)
theorem d_X_stands_89 : decode y_X_stands.2.1 89 = .ok (.getfield 7, 3) := op_getfield (gk (k := 64) (t := 25) ck_X_stands_2 rfl) (gk (k := 64) (t := 26) ck_X_stands_2 rfl) (gk (k := 64) (t := 27) ck_X_stands_2 rfl) rfl
theorem d_X_stands_92 : decode y_X_stands.2.1 92 = .ok (.iload 8, 2) := op_iload (gk (k := 64) (t := 28) ck_X_stands_2 rfl) (gk (k := 64) (t := 29) ck_X_stands_2 rfl) rfl
theorem d_X_stands_94 : decode y_X_stands.2.1 94 = .ok (.iconst 2, 1) := op_iconst2 (gk (k := 64) (t := 30) ck_X_stands_2 rfl)
theorem d_X_stands_95 : decode y_X_stands.2.1 95 = .ok (.iadd, 1) := op_iadd (gk (k := 64) (t := 31) ck_X_stands_2 rfl)
theorem ck_X_stands_3 : (y_X_stands.2.1.data.toList.drop 96).take 32 = [21, 4, 79, 42, 180, 0, 7, 21, 8, 6, 96, 21, 5, 79, 42, 180, 0, 7, 21, 8, 7, 96, 21, 6, 79, 42, 180, 0, 7, 21, 8, 8] := by decide +kernel
theorem d_X_stands_96 : decode y_X_stands.2.1 96 = .ok (.iload 4, 2) := op_iload (gk (k := 96) (t := 0) ck_X_stands_3 rfl) (gk (k := 96) (t := 1) ck_X_stands_3 rfl) rfl
theorem d_X_stands_98 : decode y_X_stands.2.1 98 = .ok (.iastore, 1) := op_iastore (gk (k := 96) (t := 2) ck_X_stands_3 rfl)
theorem d_X_stands_99 : decode y_X_stands.2.1 99 = .ok (.aload_n 0, 1) := op_aload_n0 (gk (k := 96) (t := 3) ck_X_stands_3 rfl)
theorem d_X_stands_100 : decode y_X_stands.2.1 100 = .ok (.getfield 7, 3) := op_getfield (gk (k := 96) (t := 4) ck_X_stands_3 rfl) (gk (k := 96) (t := 5) ck_X_stands_3 rfl) (gk (k := 96) (t := 6) ck_X_stands_3 rfl) rfl
theorem d_X_stands_103 : decode y_X_stands.2.1 103 = .ok (.iload 8, 2) := op_iload (gk (k := 96) (t := 7) ck_X_stands_3 rfl) (gk (k := 96) (t := 8) ck_X_stands_3 rfl) rfl
theorem d_X_stands_105 : decode y_X_stands.2.1 105 = .ok (.iconst 3, 1) := op_iconst3 (gk (k := 96) (t := 9) ck_X_stands_3 rfl)
theorem d_X_stands_106 : decode y_X_stands.2.1 106 = .ok (.iadd, 1) := op_iadd (gk (k := 96) (t := 10) ck_X_stands_3 rfl)
theorem d_X_stands_107 : decode y_X_stands.2.1 107 = .ok (.iload 5, 2) := op_iload (gk (k := 96) (t := 11) ck_X_stands_3 rfl) (gk (k := 96) (t := 12) ck_X_stands_3 rfl) rfl
theorem d_X_stands_109 : decode y_X_stands.2.1 109 = .ok (.iastore, 1) := op_iastore (gk (k := 96) (t := 13) ck_X_stands_3 rfl)
theorem d_X_stands_110 : decode y_X_stands.2.1 110 = .ok (.aload_n 0, 1) := op_aload_n0 (gk (k := 96) (t := 14) ck_X_stands_3 rfl)
theorem d_X_stands_111 : decode y_X_stands.2.1 111 = .ok (.getfield 7, 3) := op_getfield (gk (k := 96) (t := 15) ck_X_stands_3 rfl) (gk (k := 96) (t := 16) ck_X_stands_3 rfl) (gk (k := 96) (t := 17) ck_X_stands_3 rfl) rfl
theorem d_X_stands_114 : decode y_X_stands.2.1 114 = .ok (.iload 8, 2) := op_iload (gk (k := 96) (t := 18) ck_X_stands_3 rfl) (gk (k := 96) (t := 19) ck_X_stands_3 rfl) rfl
theorem d_X_stands_116 : decode y_X_stands.2.1 116 = .ok (.iconst 4, 1) := op_iconst4 (gk (k := 96) (t := 20) ck_X_stands_3 rfl)
theorem d_X_stands_117 : decode y_X_stands.2.1 117 = .ok (.iadd, 1) := op_iadd (gk (k := 96) (t := 21) ck_X_stands_3 rfl)
theorem d_X_stands_118 : decode y_X_stands.2.1 118 = .ok (.iload 6, 2) := op_iload (gk (k := 96) (t := 22) ck_X_stands_3 rfl) (gk (k := 96) (t := 23) ck_X_stands_3 rfl) rfl
theorem d_X_stands_120 : decode y_X_stands.2.1 120 = .ok (.iastore, 1) := op_iastore (gk (k := 96) (t := 24) ck_X_stands_3 rfl)
theorem d_X_stands_121 : decode y_X_stands.2.1 121 = .ok (.aload_n 0, 1) := op_aload_n0 (gk (k := 96) (t := 25) ck_X_stands_3 rfl)
theorem d_X_stands_122 : decode y_X_stands.2.1 122 = .ok (.getfield 7, 3) := op_getfield (gk (k := 96) (t := 26) ck_X_stands_3 rfl) (gk (k := 96) (t := 27) ck_X_stands_3 rfl) (gk (k := 96) (t := 28) ck_X_stands_3 rfl) rfl
theorem d_X_stands_125 : decode y_X_stands.2.1 125 = .ok (.iload 8, 2) := op_iload (gk (k := 96) (t := 29) ck_X_stands_3 rfl) (gk (k := 96) (t := 30) ck_X_stands_3 rfl) rfl
theorem d_X_stands_127 : decode y_X_stands.2.1 127 = .ok (.iconst 5, 1) := op_iconst5 (gk (k := 96) (t := 31) ck_X_stands_3 rfl)
theorem ck_X_stands_4 : (y_X_stands.2.1.data.toList.drop 128).take 32 = [96, 21, 7, 79, 42, 180, 0, 7, 17, 0, 130, 27, 96, 92, 46, 4, 96, 79, 4, 172] := by decide +kernel
theorem d_X_stands_128 : decode y_X_stands.2.1 128 = .ok (.iadd, 1) := op_iadd (gk (k := 128) (t := 0) ck_X_stands_4 rfl)
theorem d_X_stands_129 : decode y_X_stands.2.1 129 = .ok (.iload 7, 2) := op_iload (gk (k := 128) (t := 1) ck_X_stands_4 rfl) (gk (k := 128) (t := 2) ck_X_stands_4 rfl) rfl
theorem d_X_stands_131 : decode y_X_stands.2.1 131 = .ok (.iastore, 1) := op_iastore (gk (k := 128) (t := 3) ck_X_stands_4 rfl)
theorem d_X_stands_132 : decode y_X_stands.2.1 132 = .ok (.aload_n 0, 1) := op_aload_n0 (gk (k := 128) (t := 4) ck_X_stands_4 rfl)
theorem d_X_stands_133 : decode y_X_stands.2.1 133 = .ok (.getfield 7, 3) := op_getfield (gk (k := 128) (t := 5) ck_X_stands_4 rfl) (gk (k := 128) (t := 6) ck_X_stands_4 rfl) (gk (k := 128) (t := 7) ck_X_stands_4 rfl) rfl
theorem d_X_stands_136 : decode y_X_stands.2.1 136 = .ok (.sipush 130, 3) := op_sipush (gk (k := 128) (t := 8) ck_X_stands_4 rfl) (gk (k := 128) (t := 9) ck_X_stands_4 rfl) (gk (k := 128) (t := 10) ck_X_stands_4 rfl) (by decide +kernel)
theorem d_X_stands_139 : decode y_X_stands.2.1 139 = .ok (.iload_n 1, 1) := op_iload_n1 (gk (k := 128) (t := 11) ck_X_stands_4 rfl)
theorem d_X_stands_140 : decode y_X_stands.2.1 140 = .ok (.iadd, 1) := op_iadd (gk (k := 128) (t := 12) ck_X_stands_4 rfl)
theorem d_X_stands_141 : decode y_X_stands.2.1 141 = .ok (.dup2, 1) := op_dup2 (gk (k := 128) (t := 13) ck_X_stands_4 rfl)
theorem d_X_stands_142 : decode y_X_stands.2.1 142 = .ok (.iaload, 1) := op_iaload (gk (k := 128) (t := 14) ck_X_stands_4 rfl)
theorem d_X_stands_143 : decode y_X_stands.2.1 143 = .ok (.iconst 1, 1) := op_iconst1 (gk (k := 128) (t := 15) ck_X_stands_4 rfl)
theorem d_X_stands_144 : decode y_X_stands.2.1 144 = .ok (.iadd, 1) := op_iadd (gk (k := 128) (t := 16) ck_X_stands_4 rfl)
theorem d_X_stands_145 : decode y_X_stands.2.1 145 = .ok (.iastore, 1) := op_iastore (gk (k := 128) (t := 17) ck_X_stands_4 rfl)
theorem d_X_stands_146 : decode y_X_stands.2.1 146 = .ok (.iconst 1, 1) := op_iconst1 (gk (k := 128) (t := 18) ck_X_stands_4 rfl)
theorem d_X_stands_147 : decode y_X_stands.2.1 147 = .ok (.ireturn, 1) := op_ireturn (gk (k := 128) (t := 19) ck_X_stands_4 rfl)
theorem d_X_stands_15 : decode y_X_stands.2.1 15 = .ok (.aload_n 0, 1) := op_aload_n0 (gk (k := 0) (t := 15) ck_X_stands_0 rfl)
theorem d_X_stands_16 : decode y_X_stands.2.1 16 = .ok (.getfield 7, 3) := op_getfield (gk (k := 0) (t := 16) ck_X_stands_0 rfl) (gk (k := 0) (t := 17) ck_X_stands_0 rfl) (gk (k := 0) (t := 18) ck_X_stands_0 rfl) rfl
theorem cb_76 : (Int8.ofInt 76).toInt32 = iv 76 := by decide +kernel
theorem d_X_stands_19 : decode y_X_stands.2.1 19 = .ok (.bipush 76, 2) := op_bipush (gk (k := 0) (t := 19) ck_X_stands_0 rfl) (gk (k := 0) (t := 20) ck_X_stands_0 rfl) rfl
theorem d_X_stands_21 : decode y_X_stands.2.1 21 = .ok (.dup2, 1) := op_dup2 (gk (k := 0) (t := 21) ck_X_stands_0 rfl)
theorem d_X_stands_22 : decode y_X_stands.2.1 22 = .ok (.iaload, 1) := op_iaload (gk (k := 0) (t := 22) ck_X_stands_0 rfl)
theorem d_X_stands_23 : decode y_X_stands.2.1 23 = .ok (.iconst 1, 1) := op_iconst1 (gk (k := 0) (t := 23) ck_X_stands_0 rfl)
theorem d_X_stands_24 : decode y_X_stands.2.1 24 = .ok (.iadd, 1) := op_iadd (gk (k := 0) (t := 24) ck_X_stands_0 rfl)
theorem d_X_stands_25 : decode y_X_stands.2.1 25 = .ok (.iastore, 1) := op_iastore (gk (k := 0) (t := 25) ck_X_stands_0 rfl)
theorem d_X_stands_26 : decode y_X_stands.2.1 26 = .ok (.aload_n 0, 1) := op_aload_n0 (gk (k := 0) (t := 26) ck_X_stands_0 rfl)
theorem d_X_stands_27 : decode y_X_stands.2.1 27 = .ok (.aload_n 0, 1) := op_aload_n0 (gk (k := 0) (t := 27) ck_X_stands_0 rfl)
theorem fl_X_270 : FL "SinglesUpModel" 270 9 24 := ⟨"SinglesUpModel", zT9, 51, rfl, by decide, rfl, Or.inl (tw_c5 117 (by decide +kernel) rfl)⟩
theorem d_X_stands_28 : decode y_X_stands.2.1 28 = .ok (.getfield 270, 3) := op_getfield (gk (k := 0) (t := 28) ck_X_stands_0 rfl) (gk (k := 0) (t := 29) ck_X_stands_0 rfl) (gk (k := 0) (t := 30) ck_X_stands_0 rfl) rfl
theorem d_X_stands_47 : decode y_X_stands.2.1 47 = .ok (.putfield 270, 3) := op_putfield (gk (k := 32) (t := 15) ck_X_stands_1 rfl) (gk (k := 32) (t := 16) ck_X_stands_1 rfl) (gk (k := 32) (t := 17) ck_X_stands_1 rfl) rfl
theorem d_X_stands_50 : decode y_X_stands.2.1 50 = .ok (.iconst 0, 1) := op_iconst0 (gk (k := 32) (t := 18) ck_X_stands_1 rfl)
theorem d_X_stands_51 : decode y_X_stands.2.1 51 = .ok (.ireturn, 1) := op_ireturn (gk (k := 32) (t := 19) ck_X_stands_1 rfl)
theorem d_X_stands_31 : decode y_X_stands.2.1 31 = .ok (.ifCond .ne 11, 3) := op_if_ne (gk (k := 0) (t := 31) ck_X_stands_0 rfl) (gk (k := 32) (t := 0) ck_X_stands_1 rfl) (gk (k := 32) (t := 1) ck_X_stands_1 rfl) (by decide +kernel)
theorem d_X_stands_42 : decode y_X_stands.2.1 42 = .ok (.iconst 1, 1) := op_iconst1 (gk (k := 32) (t := 10) ck_X_stands_1 rfl)
theorem d_X_stands_43 : decode y_X_stands.2.1 43 = .ok (.goto 4, 3) := op_goto (gk (k := 32) (t := 11) ck_X_stands_1 rfl) (gk (k := 32) (t := 12) ck_X_stands_1 rfl) (gk (k := 32) (t := 13) ck_X_stands_1 rfl) (by decide +kernel)
theorem d_X_stands_34 : decode y_X_stands.2.1 34 = .ok (.iload_n 2, 1) := op_iload_n2 (gk (k := 32) (t := 2) ck_X_stands_1 rfl)
theorem d_X_stands_35 : decode y_X_stands.2.1 35 = .ok (.aload_n 0, 1) := op_aload_n0 (gk (k := 32) (t := 3) ck_X_stands_1 rfl)
theorem fl_X_41 : FL "SinglesUpModel" 41 9 23 := ⟨"SinglesUpModel", zT9, 51, rfl, by decide, rfl, Or.inl (tw_c5 116 (by decide +kernel) rfl)⟩
theorem d_X_stands_36 : decode y_X_stands.2.1 36 = .ok (.getfield 41, 3) := op_getfield (gk (k := 32) (t := 4) ck_X_stands_1 rfl) (gk (k := 32) (t := 5) ck_X_stands_1 rfl) (gk (k := 32) (t := 6) ck_X_stands_1 rfl) rfl
theorem d_X_stands_39 : decode y_X_stands.2.1 39 = .ok (.if_icmp .ne 7, 3) := op_icmp_ne (gk (k := 32) (t := 7) ck_X_stands_1 rfl) (gk (k := 32) (t := 8) ck_X_stands_1 rfl) (gk (k := 32) (t := 9) ck_X_stands_1 rfl) (by decide +kernel)
theorem d_X_stands_46 : decode y_X_stands.2.1 46 = .ok (.iconst 0, 1) := op_iconst0 (gk (k := 32) (t := 14) ck_X_stands_1 rfl)
abbrev y_X_comes : MI := (⟨"SinglesUpModel", "comes", "(III)I"⟩, prog_11_method_43_code, 5, some .int)
theorem ck_X_comes_0 : (y_X_comes.2.1.data.toList.drop 0).take 32 = [42, 28, 29, 182, 1, 18, 54, 4, 42, 180, 0, 7, 16, 7, 92, 46, 4, 96, 79, 42, 21, 4, 42, 180, 0, 7, 16, 7, 46, 4, 100, 27] := by decide +kernel
theorem d_X_comes_0 : decode y_X_comes.2.1 0 = .ok (.aload_n 0, 1) := op_aload_n0 (gk (k := 0) (t := 0) ck_X_comes_0 rfl)
theorem d_X_comes_1 : decode y_X_comes.2.1 1 = .ok (.iload_n 2, 1) := op_iload_n2 (gk (k := 0) (t := 1) ck_X_comes_0 rfl)
theorem d_X_comes_2 : decode y_X_comes.2.1 2 = .ok (.iload_n 3, 1) := op_iload_n3 (gk (k := 0) (t := 2) ck_X_comes_0 rfl)
theorem lk_X_274 : LkV "SinglesUpModel" 274 y_X_lineFor := ⟨tw_c6 162 (by decide +kernel) rfl, tw_in 59 (by decide +kernel) rfl, Or.inl (tw_c6 160 (by decide +kernel) rfl)⟩
set_option maxRecDepth 100000 in
theorem mo_X_lineFor : MOk y_X_lineFor 2 := ⟨by decide +kernel, tw_c6 163 rfl rfl, tw_c1 12 (by decide +kernel) rfl, by decide +kernel, by decide +kernel, by decide +kernel⟩
theorem d_X_comes_3 : decode y_X_comes.2.1 3 = .ok (.invokevirtual 274, 3) := op_invokevirtual (gk (k := 0) (t := 3) ck_X_comes_0 rfl) (gk (k := 0) (t := 4) ck_X_comes_0 rfl) (gk (k := 0) (t := 5) ck_X_comes_0 rfl) rfl
theorem d_X_comes_6 : decode y_X_comes.2.1 6 = .ok (.istore 4, 2) := op_istore (gk (k := 0) (t := 6) ck_X_comes_0 rfl) (gk (k := 0) (t := 7) ck_X_comes_0 rfl) rfl
theorem d_X_comes_8 : decode y_X_comes.2.1 8 = .ok (.aload_n 0, 1) := op_aload_n0 (gk (k := 0) (t := 8) ck_X_comes_0 rfl)
theorem d_X_comes_9 : decode y_X_comes.2.1 9 = .ok (.getfield 7, 3) := op_getfield (gk (k := 0) (t := 9) ck_X_comes_0 rfl) (gk (k := 0) (t := 10) ck_X_comes_0 rfl) (gk (k := 0) (t := 11) ck_X_comes_0 rfl) rfl
theorem d_X_comes_12 : decode y_X_comes.2.1 12 = .ok (.bipush 7, 2) := op_bipush (gk (k := 0) (t := 12) ck_X_comes_0 rfl) (gk (k := 0) (t := 13) ck_X_comes_0 rfl) rfl
theorem d_X_comes_14 : decode y_X_comes.2.1 14 = .ok (.dup2, 1) := op_dup2 (gk (k := 0) (t := 14) ck_X_comes_0 rfl)
theorem d_X_comes_15 : decode y_X_comes.2.1 15 = .ok (.iaload, 1) := op_iaload (gk (k := 0) (t := 15) ck_X_comes_0 rfl)
theorem d_X_comes_16 : decode y_X_comes.2.1 16 = .ok (.iconst 1, 1) := op_iconst1 (gk (k := 0) (t := 16) ck_X_comes_0 rfl)
theorem d_X_comes_17 : decode y_X_comes.2.1 17 = .ok (.iadd, 1) := op_iadd (gk (k := 0) (t := 17) ck_X_comes_0 rfl)
theorem d_X_comes_18 : decode y_X_comes.2.1 18 = .ok (.iastore, 1) := op_iastore (gk (k := 0) (t := 18) ck_X_comes_0 rfl)
theorem d_X_comes_19 : decode y_X_comes.2.1 19 = .ok (.aload_n 0, 1) := op_aload_n0 (gk (k := 0) (t := 19) ck_X_comes_0 rfl)
theorem d_X_comes_20 : decode y_X_comes.2.1 20 = .ok (.iload 4, 2) := op_iload (gk (k := 0) (t := 20) ck_X_comes_0 rfl) (gk (k := 0) (t := 21) ck_X_comes_0 rfl) rfl
theorem d_X_comes_22 : decode y_X_comes.2.1 22 = .ok (.aload_n 0, 1) := op_aload_n0 (gk (k := 0) (t := 22) ck_X_comes_0 rfl)
theorem d_X_comes_23 : decode y_X_comes.2.1 23 = .ok (.getfield 7, 3) := op_getfield (gk (k := 0) (t := 23) ck_X_comes_0 rfl) (gk (k := 0) (t := 24) ck_X_comes_0 rfl) (gk (k := 0) (t := 25) ck_X_comes_0 rfl) rfl
theorem d_X_comes_26 : decode y_X_comes.2.1 26 = .ok (.bipush 7, 2) := op_bipush (gk (k := 0) (t := 26) ck_X_comes_0 rfl) (gk (k := 0) (t := 27) ck_X_comes_0 rfl) rfl
theorem d_X_comes_28 : decode y_X_comes.2.1 28 = .ok (.iaload, 1) := op_iaload (gk (k := 0) (t := 28) ck_X_comes_0 rfl)
theorem d_X_comes_29 : decode y_X_comes.2.1 29 = .ok (.iconst 1, 1) := op_iconst1 (gk (k := 0) (t := 29) ck_X_comes_0 rfl)
theorem d_X_comes_30 : decode y_X_comes.2.1 30 = .ok (.isub, 1) := op_isub (gk (k := 0) (t := 30) ck_X_comes_0 rfl)
theorem d_X_comes_31 : decode y_X_comes.2.1 31 = .ok (.iload_n 1, 1) := op_iload_n1 (gk (k := 0) (t := 31) ck_X_comes_0 rfl)
theorem ck_X_comes_1 : (y_X_comes.2.1.data.toList.drop 32).take 32 = [28, 29, 3, 3, 182, 1, 21, 153, 0, 8, 21, 4, 167, 0, 4, 2, 172] := by decide +kernel
theorem d_X_comes_32 : decode y_X_comes.2.1 32 = .ok (.iload_n 2, 1) := op_iload_n2 (gk (k := 32) (t := 0) ck_X_comes_1 rfl)
theorem d_X_comes_33 : decode y_X_comes.2.1 33 = .ok (.iload_n 3, 1) := op_iload_n3 (gk (k := 32) (t := 1) ck_X_comes_1 rfl)
theorem d_X_comes_34 : decode y_X_comes.2.1 34 = .ok (.iconst 0, 1) := op_iconst0 (gk (k := 32) (t := 2) ck_X_comes_1 rfl)
theorem d_X_comes_35 : decode y_X_comes.2.1 35 = .ok (.iconst 0, 1) := op_iconst0 (gk (k := 32) (t := 3) ck_X_comes_1 rfl)
theorem lk_X_277 : LkV "SinglesUpModel" 277 y_X_stands := ⟨tw_c6 177 (by decide +kernel) rfl, tw_in 62 (by decide +kernel) rfl, Or.inl (tw_c6 175 (by decide +kernel) rfl)⟩
set_option maxRecDepth 100000 in
theorem mo_X_stands : MOk y_X_stands 7 := ⟨by decide +kernel, tw_c6 178 rfl rfl, tw_c1 12 (by decide +kernel) rfl, by decide +kernel, by decide +kernel, by decide +kernel⟩
theorem d_X_comes_36 : decode y_X_comes.2.1 36 = .ok (.invokevirtual 277, 3) := op_invokevirtual (gk (k := 32) (t := 4) ck_X_comes_1 rfl) (gk (k := 32) (t := 5) ck_X_comes_1 rfl) (gk (k := 32) (t := 6) ck_X_comes_1 rfl) rfl
theorem d_X_comes_39 : decode y_X_comes.2.1 39 = .ok (.ifCond .eq 8, 3) := op_if_eq (gk (k := 32) (t := 7) ck_X_comes_1 rfl) (gk (k := 32) (t := 8) ck_X_comes_1 rfl) (gk (k := 32) (t := 9) ck_X_comes_1 rfl) (by decide +kernel)
theorem d_X_comes_47 : decode y_X_comes.2.1 47 = .ok (.iconst (-1), 1) := op_iconstm1 (gk (k := 32) (t := 15) ck_X_comes_1 rfl)
theorem d_X_comes_48 : decode y_X_comes.2.1 48 = .ok (.ireturn, 1) := op_ireturn (gk (k := 32) (t := 16) ck_X_comes_1 rfl)
theorem d_X_comes_42 : decode y_X_comes.2.1 42 = .ok (.iload 4, 2) := op_iload (gk (k := 32) (t := 10) ck_X_comes_1 rfl) (gk (k := 32) (t := 11) ck_X_comes_1 rfl) rfl
theorem d_X_comes_44 : decode y_X_comes.2.1 44 = .ok (.goto 4, 3) := op_goto (gk (k := 32) (t := 12) ck_X_comes_1 rfl) (gk (k := 32) (t := 13) ck_X_comes_1 rfl) (gk (k := 32) (t := 14) ck_X_comes_1 rfl) (by decide +kernel)
abbrev y_X_come : MI := (⟨"SinglesUpModel", "come", "(III)I"⟩, prog_11_method_44_code, 4, some .int)
theorem ck_X_come_0 : (y_X_come.2.1.data.toList.drop 0).take 32 = [27, 28, 29, 184, 0, 109, 153, 0, 13, 42, 27, 28, 29, 182, 1, 25, 167, 0, 5, 16, 254, 172] := by decide +kernel
theorem d_X_come_0 : decode y_X_come.2.1 0 = .ok (.iload_n 1, 1) := op_iload_n1 (gk (k := 0) (t := 0) ck_X_come_0 rfl)
theorem d_X_come_1 : decode y_X_come.2.1 1 = .ok (.iload_n 2, 1) := op_iload_n2 (gk (k := 0) (t := 1) ck_X_come_0 rfl)
theorem d_X_come_2 : decode y_X_come.2.1 2 = .ok (.iload_n 3, 1) := op_iload_n3 (gk (k := 0) (t := 2) ck_X_come_0 rfl)
theorem d_X_come_3 : decode y_X_come.2.1 3 = .ok (.invokestatic 109, 3) := op_invokestatic (gk (k := 0) (t := 3) ck_X_come_0 rfl) (gk (k := 0) (t := 4) ck_X_come_0 rfl) (gk (k := 0) (t := 5) ck_X_come_0 rfl) rfl
theorem d_X_come_6 : decode y_X_come.2.1 6 = .ok (.ifCond .eq 13, 3) := op_if_eq (gk (k := 0) (t := 6) ck_X_come_0 rfl) (gk (k := 0) (t := 7) ck_X_come_0 rfl) (gk (k := 0) (t := 8) ck_X_come_0 rfl) (by decide +kernel)
theorem d_X_come_19 : decode y_X_come.2.1 19 = .ok (.bipush (-2), 2) := op_bipush (gk (k := 0) (t := 19) ck_X_come_0 rfl) (gk (k := 0) (t := 20) ck_X_come_0 rfl) rfl
theorem d_X_come_21 : decode y_X_come.2.1 21 = .ok (.ireturn, 1) := op_ireturn (gk (k := 0) (t := 21) ck_X_come_0 rfl)
theorem d_X_come_9 : decode y_X_come.2.1 9 = .ok (.aload_n 0, 1) := op_aload_n0 (gk (k := 0) (t := 9) ck_X_come_0 rfl)
theorem d_X_come_10 : decode y_X_come.2.1 10 = .ok (.iload_n 1, 1) := op_iload_n1 (gk (k := 0) (t := 10) ck_X_come_0 rfl)
theorem d_X_come_11 : decode y_X_come.2.1 11 = .ok (.iload_n 2, 1) := op_iload_n2 (gk (k := 0) (t := 11) ck_X_come_0 rfl)
theorem d_X_come_12 : decode y_X_come.2.1 12 = .ok (.iload_n 3, 1) := op_iload_n3 (gk (k := 0) (t := 12) ck_X_come_0 rfl)
theorem lk_X_281 : LkV "SinglesUpModel" 281 y_X_comes := ⟨tw_c6 158 (by decide +kernel) rfl, tw_in 58 (by decide +kernel) rfl, Or.inl (tw_c6 156 (by decide +kernel) rfl)⟩
set_option maxRecDepth 100000 in
theorem mo_X_comes : MOk y_X_comes 3 := ⟨by decide +kernel, tw_c6 159 rfl rfl, tw_c1 12 (by decide +kernel) rfl, by decide +kernel, by decide +kernel, by decide +kernel⟩
theorem d_X_come_13 : decode y_X_come.2.1 13 = .ok (.invokevirtual 281, 3) := op_invokevirtual (gk (k := 0) (t := 13) ck_X_come_0 rfl) (gk (k := 0) (t := 14) ck_X_come_0 rfl) (gk (k := 0) (t := 15) ck_X_come_0 rfl) rfl
theorem d_X_come_16 : decode y_X_come.2.1 16 = .ok (.goto 5, 3) := op_goto (gk (k := 0) (t := 16) ck_X_come_0 rfl) (gk (k := 0) (t := 17) ck_X_come_0 rfl) (gk (k := 0) (t := 18) ck_X_come_0 rfl) (by decide +kernel)
abbrev y_X_of : MI := (⟨"SinglesUpModel", "of", "(III)I"⟩, prog_11_method_39_code, 4, some .int)
theorem ck_X_of_0 : (y_X_of.2.1.data.toList.drop 0).take 32 = [42, 180, 0, 7, 27, 28, 184, 1, 4, 29, 96, 46, 172] := by decide +kernel
theorem d_X_of_0 : decode y_X_of.2.1 0 = .ok (.aload_n 0, 1) := op_aload_n0 (gk (k := 0) (t := 0) ck_X_of_0 rfl)
theorem d_X_of_1 : decode y_X_of.2.1 1 = .ok (.getfield 7, 3) := op_getfield (gk (k := 0) (t := 1) ck_X_of_0 rfl) (gk (k := 0) (t := 2) ck_X_of_0 rfl) (gk (k := 0) (t := 3) ck_X_of_0 rfl) rfl
theorem d_X_of_4 : decode y_X_of.2.1 4 = .ok (.iload_n 1, 1) := op_iload_n1 (gk (k := 0) (t := 4) ck_X_of_0 rfl)
theorem d_X_of_5 : decode y_X_of.2.1 5 = .ok (.iload_n 2, 1) := op_iload_n2 (gk (k := 0) (t := 5) ck_X_of_0 rfl)
theorem d_X_of_6 : decode y_X_of.2.1 6 = .ok (.invokestatic 260, 3) := op_invokestatic (gk (k := 0) (t := 6) ck_X_of_0 rfl) (gk (k := 0) (t := 7) ck_X_of_0 rfl) (gk (k := 0) (t := 8) ck_X_of_0 rfl) rfl
theorem d_X_of_9 : decode y_X_of.2.1 9 = .ok (.iload_n 3, 1) := op_iload_n3 (gk (k := 0) (t := 9) ck_X_of_0 rfl)
theorem d_X_of_10 : decode y_X_of.2.1 10 = .ok (.iadd, 1) := op_iadd (gk (k := 0) (t := 10) ck_X_of_0 rfl)
theorem d_X_of_11 : decode y_X_of.2.1 11 = .ok (.iaload, 1) := op_iaload (gk (k := 0) (t := 11) ck_X_of_0 rfl)
theorem d_X_of_12 : decode y_X_of.2.1 12 = .ok (.ireturn, 1) := op_ireturn (gk (k := 0) (t := 12) ck_X_of_0 rfl)
def fb_X_any_9 (fu : Nat) (R : (Nat → IMem → Res) × (Nat → IMem → Res) × (Nat → IMem → Res)) (o0 : Nat) (R_ : IMem → Res) (I0 : IMem) : Res :=
  if I0 o0 14 = 4 then (
      zb (f_X_next0 fu o0 I0) fun _ I5 =>
      zb (R.2.1 o0 I5) fun y7 I8 =>
      if y7 = 0 then (
        zr 0 I8)
      else (
        zb (f_X_lay fu o0 21 0 I8) fun _ I11 =>
        R_ I11))
    else (
      zr 1 I0)
def f_X_any_9 (fu : Nat) (R : (Nat → IMem → Res) × (Nat → IMem → Res) × (Nat → IMem → Res)) (o0 : Nat) : Nat → IMem → Res
 | 0 => fun _ => none
 | n + 1 => fb_X_any_9 fu R o0 (f_X_any_9 fu R o0 n)
def fb_X_any (fu : Nat) (R : (Nat → IMem → Res) × (Nat → IMem → Res) × (Nat → IMem → Res)) (o0 : Nat) (I0 : IMem) : Res :=
  zb (R.2.1 o0 I0) fun y1 I2 =>
    if y1 = 0 then (
      zr 0 I2)
    else (
      f_X_any_9 fu R  o0 fu I2)
def fb_X_every_9 (fu : Nat) (R : (Nat → IMem → Res) × (Nat → IMem → Res) × (Nat → IMem → Res)) (o0 : Nat) (R_ : IMem → Res) (I0 : IMem) : Res :=
  if I0 o0 14 = 5 then (
      zb (f_X_next0 fu o0 I0) fun _ I5 =>
      zb (R.2.2 o0 I5) fun y7 I8 =>
      if y7 = 0 then (
        zr 0 I8)
      else (
        zb (f_X_lay fu o0 20 0 I8) fun _ I11 =>
        R_ I11))
    else (
      zr 1 I0)
def f_X_every_9 (fu : Nat) (R : (Nat → IMem → Res) × (Nat → IMem → Res) × (Nat → IMem → Res)) (o0 : Nat) : Nat → IMem → Res
 | 0 => fun _ => none
 | n + 1 => fb_X_every_9 fu R o0 (f_X_every_9 fu R o0 n)
def fb_X_every (fu : Nat) (R : (Nat → IMem → Res) × (Nat → IMem → Res) × (Nat → IMem → Res)) (o0 : Nat) (I0 : IMem) : Res :=
  zb (R.2.2 o0 I0) fun y1 I2 =>
    if y1 = 0 then (
      zr 0 I2)
    else (
      f_X_every_9 fu R  o0 fu I2)
def fb_X_one (fu : Nat) (R : (Nat → IMem → Res) × (Nat → IMem → Res) × (Nat → IMem → Res)) (o0 : Nat) (I0 : IMem) : Res :=
  if I0 o0 14 = 6 then (
      zb (f_X_opens fu o0 I0) fun y29 I30 =>
      if y29 = 0 then (
        zr 0 I30)
      else (
        zb (R.2.2 o0 I30) fun y32 I33 =>
        if y32 = 0 then (
          zr 0 I33)
        else (
          zw I33 o0 20 (wr32 ((I33 o0 20) - 1)) fun I35 =>
          zb (f_X_lay fu o0 19 0 I35) fun _ I37 =>
          zr 1 I37)))
    else (
      if I0 o0 14 = 140 then (
        zb (f_X_opens fu o0 I0) fun y19 I20 =>
        if y19 = 0 then (
          zr 0 I20)
        else (
          zb (R.1 o0 I20) fun y22 I23 =>
          if y22 = 0 then (
            zr 0 I23)
          else (
            zb (f_X_need fu o0 141 I23) fun y25 I26 =>
            if y25 = 0 then (
              zr 0 I26)
            else (
              zw I26 o0 20 (wr32 ((I26 o0 20) - 1)) fun I28 =>
              zr 1 I28))))
      else (
        zb (f_X_sumUp fu o0 I0) fun y1 I2 =>
        if y1 = 0 then (
          zr 0 I2)
        else (
          zj (fun (x6 : Int) (I5 : IMem) =>
              if x6 = (-1) then (
                zb (f_X_bad fu o0 1 I5) fun y16 I17 =>
                zg (y16 = 0 ∨ y16 = 1) (zr y16 I17))
              else (
                zb (f_X_next0 fu o0 I5) fun _ I8 =>
                zb (f_X_sumUp fu o0 I8) fun y10 I11 =>
                if y10 = 0 then (
                  zr 0 I11)
                else (
                  zb (f_X_lay fu o0 x6 0 I11) fun _ I14 =>
                  zr 1 I14))) fun k4 =>
            if I2 o0 14 = 160 then (
              k4 16 I2)
            else (
              if I2 o0 14 = 161 then (
                k4 17 I2)
              else (
                if I2 o0 14 = 162 then (
                  k4 18 I2)
                else (
                  k4 ((-1)) I2))))))
def gXA (fu : Nat) : Nat → (Nat → IMem → Res) × (Nat → IMem → Res) × (Nat → IMem → Res)
  | 0 => (fun _ _ => none, fun _ _ => none, fun _ _ => none)
  | n + 1 => (fb_X_any fu (gXA fu n), fb_X_every fu (gXA fu n), fb_X_one fu (gXA fu n))
def f_X_any (fu : Nat) (o0 : Nat) (I0 : IMem) : Res := (gXA fu 60).1 o0 I0
def f_X_every (fu : Nat) (o0 : Nat) (I0 : IMem) : Res := (gXA fu 60).2.1 o0 I0
def f_X_one (fu : Nat) (o0 : Nat) (I0 : IMem) : Res := (gXA fu 60).2.2 o0 I0
def f_X_aLine (fu : Nat) (o0 : Nat) (I0 : IMem) : Res :=
  if I0 o0 14 = 7 then (
      if I0 o0 10 = 16 then (
        zb (f_X_bad fu o0 3 I0) fun y37 I38 =>
        zg (y37 = 0 ∨ y37 = 1) (zr y37 I38))
      else (
        zj (fun (x3 : Int) (I2 : IMem) =>
            zw I2 o0 20 0 fun I4 =>
            zb (f_X_next0 fu o0 I4) fun _ I6 =>
            zl (wr32 (4 * (I6 o0 10))) fun x9 =>
            zg (0 ≤ x9 ∧ x9 < 64) (zw I6 (o0 + 4) x9.toNat (I6 o0 16) fun I8 =>
            zl (wr32 ((wr32 (4 * (I8 o0 10))) + 1)) fun x11 =>
            zg (0 ≤ x11 ∧ x11 < 64) (zw I8 (o0 + 4) x11.toNat (I8 o0 11) fun I10 =>
            zj (fun  (I13 : IMem) =>
                zl (wr32 ((wr32 (4 * (I13 o0 10))) + 2)) fun x15 =>
                zg (0 ≤ x15 ∧ x15 < 64) (zw I13 (o0 + 4) x15.toNat (I13 o0 11) fun I14 =>
                zj (fun  (I17 : IMem) =>
                    zl (wr32 ((wr32 (4 * (I17 o0 10))) + 3)) fun x19 =>
                    zg (0 ≤ x19 ∧ x19 < 64) (zw I17 (o0 + 4) x19.toNat (I17 o0 11) fun I18 =>
                    zb (f_X_need fu o0 159 I18) fun y20 I21 =>
                    zg (y20 = 0 ∨ y20 = 1) (zr y20 I21))) fun k16 =>
                  zj (fun  (I24 : IMem) =>
                      zb (f_X_need fu o0 3 I24) fun y25 I26 =>
                      if y25 = 0 then (
                        zr 0 I26)
                      else (
                        zb (f_X_any fu o0 I26) fun y28 I29 =>
                        if y28 = 0 then (
                          zr 0 I29)
                        else (
                          k16 I29))) fun k23 =>
                    if x3 = 0 then (
                      if I14 o0 14 = 3 then (
                        k23 I14)
                      else (
                        k16 I14))
                    else (
                      k23 I14))) fun k12 =>
              if x3 = 0 then (
                zb (f_X_sumUp fu o0 I10) fun y31 I32 =>
                if y31 = 0 then (
                  zr 0 I32)
                else (
                  k12 I32))
              else (
                zb (f_X_number fu o0 0 5 I10) fun y34 I35 =>
                if y34 = 0 then (
                  zr 0 I35)
                else (
                  k12 I35))))) fun k1 =>
          if I0 o0 9 = 4 then (
            k1 1 I0)
          else (
            k1 0 I0)))
    else (
      zb (f_X_bad fu o0 1 I0) fun y40 I41 =>
      zg (y40 = 0 ∨ y40 = 1) (zr y40 I41))
def fb_X_text_57 (fu : Nat) (k_94 : Int → IMem → Res) (o0 : Nat) (p1 : Int) (R_ : Int → IMem → Res) (w2 : Int) (I0 : IMem) : Res :=
  if w2 = 0 then (
      k_94 w2 I0)
    else (
      if I0 o0 14 = 0 then (
        k_94 w2 I0)
      else (
        zb (f_X_aLine fu o0 I0) fun y12 I13 =>
        zj (fun (x17 : Int) (I16 : IMem) =>
            zw I16 o0 10 (wr32 ((I13 o0 10) + x17)) fun I18 =>
            R_ y12 I18) fun k15 =>
          if y12 = 0 then (
            k15 0 I13)
          else (
            k15 1 I13)))
def f_X_text_57 (fu : Nat) (k_94 : Int → IMem → Res) (o0 : Nat) (p1 : Int) : Nat → Int → IMem → Res
 | 0 => fun _ _ => none
 | n + 1 => fb_X_text_57 fu k_94 o0 p1 (f_X_text_57 fu k_94 o0 p1 n)
def fb_X_text_145 (fu : Nat) (k_257 : IMem → Res) (o0 : Nat) (p1 : Int) (R_ : Int → IMem → Res) (w3 : Int) (I0 : IMem) : Res :=
  if w3 < I0 o0 10 then (
      zl (wr32 (4 * w3)) fun x29 =>
      zg (0 ≤ x29 ∧ x29 < 64) (
      zl (wr32 ((wr32 (1590 + (wr32 (16 * p1)))) + w3)) fun x31 =>
      zg (0 ≤ x31 ∧ x31 < 6190) (zw I0 (o0 + 1) x31.toNat (I0 (o0 + 4) x29.toNat) fun I30 =>
      zl (wr32 ((wr32 (4 * w3)) + 1)) fun x32 =>
      zg (0 ≤ x32 ∧ x32 < 64) (
      zl (wr32 ((wr32 (1670 + (wr32 (16 * p1)))) + w3)) fun x34 =>
      zg (0 ≤ x34 ∧ x34 < 6190) (zw I30 (o0 + 1) x34.toNat (I30 (o0 + 4) x32.toNat) fun I33 =>
      zl (wr32 ((wr32 (4 * w3)) + 2)) fun x35 =>
      zg (0 ≤ x35 ∧ x35 < 64) (
      zl (wr32 ((wr32 (1750 + (wr32 (16 * p1)))) + w3)) fun x37 =>
      zg (0 ≤ x37 ∧ x37 < 6190) (zw I33 (o0 + 1) x37.toNat (I33 (o0 + 4) x35.toNat) fun I36 =>
      zl (wr32 ((wr32 (4 * w3)) + 3)) fun x38 =>
      zg (0 ≤ x38 ∧ x38 < 64) (
      zl (wr32 ((wr32 (1830 + (wr32 (16 * p1)))) + w3)) fun x40 =>
      zg (0 ≤ x40 ∧ x40 < 6190) (zw I36 (o0 + 1) x40.toNat (I36 (o0 + 4) x38.toNat) fun I39 =>
      zl (wr32 (w3 + 1)) fun x41 =>
      R_ x41 I39)))))))))
    else (
      k_257 I0)
def f_X_text_145 (fu : Nat) (k_257 : IMem → Res) (o0 : Nat) (p1 : Int) : Nat → Int → IMem → Res
 | 0 => fun _ _ => none
 | n + 1 => fb_X_text_145 fu k_257 o0 p1 (f_X_text_145 fu k_257 o0 p1 n)
def fb_X_text_259 (fu : Nat) (o0 : Nat) (p1 : Int) (R_ : Int → IMem → Res) (w3 : Int) (I0 : IMem) : Res :=
  if w3 < wr32 (2 * (I0 o0 11)) then (
      zg (0 ≤ w3 ∧ w3 < 820) (
      zl (wr32 ((wr32 (1910 + (wr32 (820 * p1)))) + w3)) fun x44 =>
      zg (0 ≤ x44 ∧ x44 < 6190) (zw I0 (o0 + 1) x44.toNat (I0 (o0 + 5) w3.toNat) fun I43 =>
      zl (wr32 (w3 + 1)) fun x45 =>
      R_ x45 I43)))
    else (
      zr (I0 o0 10) I0)
def f_X_text_259 (fu : Nat) (o0 : Nat) (p1 : Int) : Nat → Int → IMem → Res
 | 0 => fun _ _ => none
 | n + 1 => fb_X_text_259 fu o0 p1 (f_X_text_259 fu o0 p1 n)
def f_X_text (fu : Nat) (o0 : Nat) (a1 : Int) (I0 : IMem) : Res :=
  zw I0 o0 17 0 fun I1 =>
    zb (f_X_isIn fu a1 0 4 I1) fun y2 I3 =>
    if y2 = 0 then (
      zw I3 o0 12 0 fun I46 =>
      zw I46 o0 19 0 fun I47 =>
      zw I47 o0 21 ((-1)) fun I48 =>
      zr ((-1)) I48)
    else (
      zw I3 o0 9 a1 fun I5 =>
      zw I5 o0 13 0 fun I6 =>
      zw I6 o0 10 0 fun I7 =>
      zw I7 o0 11 0 fun I8 =>
      zb (f_X_next0 fu o0 I8) fun _ I10 =>
      f_X_text_57 fu (fun (x20 : Int) (I19 : IMem) =>
        zw I19 o0 12 0 fun I21 =>
        zw I21 o0 19 (I21 o0 17) fun I22 =>
        zj (fun (x25 : Int) (I24 : IMem) =>
            zw I24 o0 21 x25 fun I26 =>
            if x20 = 0 then (
              zr ((-1)) I26)
            else (
              zl (wr32 (1580 + a1)) fun x28 =>
              zg (0 ≤ x28 ∧ x28 < 6190) (zw I26 (o0 + 1) x28.toNat (I26 o0 10) fun I27 =>
              f_X_text_145 fu (fun  (I42 : IMem) =>
                f_X_text_259 fu  o0 a1 fu 0 I42) o0 a1 fu 0 I27))) fun k23 =>
          if x20 = 0 then (
            k23 (I22 o0 18) I22)
          else (
            k23 ((-1)) I22)) o0 a1 fu 1 I10)
def f_X_fault (fu : Nat) (o0 : Nat) (a1 : Int) (I0 : IMem) : Res :=
  if a1 = 0 then (
      zr (I0 o0 19) I0)
    else (
      if a1 = 1 then (
        zr (I0 o0 21) I0)
      else (
        zr ((-1)) I0))
def f_X_both (fu : Nat) (a0 : Int) (a1 : Int) (a2 : Int) (I0 : IMem) : Res :=
  if a0 = 12 then (
      zr (wr32 (a1 + a2)) I0)
    else if a0 = 13 then (
      zr (wr32 (a1 - a2)) I0)
    else if a0 = 14 then (
      zr (wr32 (a1 * a2)) I0)
    else if a0 = 16 then (
      if a1 < a2 then (
        zr 1 I0)
      else (
        zr 0 I0))
    else if a0 = 17 then (
      if a1 = a2 then (
        zr 1 I0)
      else (
        zr 0 I0))
    else if a0 = 18 then (
      if a2 < a1 then (
        zr 1 I0)
      else (
        zr 0 I0))
    else if a0 = 20 then (
      zr (wand a1 a2) I0)
    else (
      zr (wor a1 a2) I0)
def fb_X_comesTo_6 (fu : Nat) (o0 : Nat) (p1 : Int) (p3 : Int) (R_ : Int → Int → IMem → Res) (w4 : Int) (w5 : Int) (I0 : IMem) : Res :=
  if w5 < p3 then (
      zl (wr32 ((wr32 (1910 + (wr32 (820 * p1)))) + (wr32 (2 * w5)))) fun x1 =>
      zg (0 ≤ x1 ∧ x1 < 6190) (
      zl (I0 (o0 + 1) x1.toNat) fun x2 =>
      zl (wr32 ((wr32 ((wr32 (1910 + (wr32 (820 * p1)))) + (wr32 (2 * w5)))) + 1)) fun x3 =>
      zg (0 ≤ x3 ∧ x3 < 6190) (
      zl (I0 (o0 + 1) x3.toNat) fun x4 =>
      zj (fun (x7 : Int) (I6 : IMem) =>
          zl (wr32 (w5 + 1)) fun x8 =>
          R_ x7 x8 I6) fun k5 =>
        if x2 < 12 then (
          zj (fun (x23 : Int) (I22 : IMem) =>
              zg (0 ≤ w4 ∧ w4 < 420) (zw I22 (o0 + 7) w4.toNat x23 fun I24 =>
              zl (wr32 (w4 + 1)) fun x25 =>
              k5 x25 I24)) fun k21 =>
            if x2 = 0 then (
              k21 x4 I0)
            else (
              zg (0 ≤ x2 ∧ x2 < 12) (
              k21 (I0 (o0 + 8) x2.toNat) I0)))
        else (
          if x2 = 15 then (
            zl (wr32 (w4 - 1)) fun x19 =>
            zg (0 ≤ x19 ∧ x19 < 420) (
            zg (x4 ≠ 0) (
            zg (0 ≤ x19 ∧ x19 < 420) (zw I0 (o0 + 7) x19.toNat (wdiv (I0 (o0 + 7) x19.toNat) x4) fun I20 =>
            k5 w4 I20))))
          else (
            if x2 = 19 then (
              zl (wr32 (w4 - 1)) fun x16 =>
              zg (0 ≤ x16 ∧ x16 < 420) (
              zl (wr32 (w4 - 1)) fun x18 =>
              zg (0 ≤ x18 ∧ x18 < 420) (zw I0 (o0 + 7) x18.toNat (wr32 (1 - (I0 (o0 + 7) x16.toNat))) fun I17 =>
              k5 w4 I17)))
            else (
              zl (wr32 (w4 + (-1))) fun x9 =>
              zl (wr32 (x9 - 1)) fun x10 =>
              zg (0 ≤ x10 ∧ x10 < 420) (
              zg (0 ≤ x9 ∧ x9 < 420) (
              zb (f_X_both fu x2 (I0 (o0 + 7) x10.toNat) (I0 (o0 + 7) x9.toNat) I0) fun y11 I12 =>
              zl (wr32 (x9 - 1)) fun x15 =>
              zg (0 ≤ x15 ∧ x15 < 420) (zw I12 (o0 + 7) x15.toNat y11 fun I14 =>
              k5 x9 I14)))))))))
    else (
      zr (I0 (o0 + 7) 0) I0)
def f_X_comesTo_6 (fu : Nat) (o0 : Nat) (p1 : Int) (p3 : Int) : Nat → Int → Int → IMem → Res
 | 0 => fun _ _ _ => none
 | n + 1 => fb_X_comesTo_6 fu o0 p1 p3 (f_X_comesTo_6 fu o0 p1 p3 n)
def f_X_comesTo (fu : Nat) (o0 : Nat) (a1 : Int) (a2 : Int) (a3 : Int) (I0 : IMem) : Res :=
  f_X_comesTo_6 fu  o0 a1 a3 fu 0 a2 I0
def fb_X_firstLine_2 (fu : Nat) (o0 : Nat) (p1 : Int) (R_ : Int → IMem → Res) (w2 : Int) (I0 : IMem) : Res :=
  zl (wr32 (1580 + p1)) fun x1 =>
    zg (0 ≤ x1 ∧ x1 < 6190) (
    if w2 < I0 (o0 + 1) x1.toNat then (
      zl (wr32 ((wr32 (16 * p1)) + w2)) fun x2 =>
      zl (wr32 (1830 + x2)) fun x3 =>
      zg (0 ≤ x3 ∧ x3 < 6190) (
      zl (wr32 (1750 + x2)) fun x4 =>
      zg (0 ≤ x4 ∧ x4 < 6190) (
      if I0 (o0 + 1) x3.toNat = I0 (o0 + 1) x4.toNat then (
        zr x2 I0)
      else (
        zl (wr32 (1750 + x2)) fun x5 =>
        zg (0 ≤ x5 ∧ x5 < 6190) (
        zl (wr32 (1830 + x2)) fun x6 =>
        zg (0 ≤ x6 ∧ x6 < 6190) (
        zb (f_X_comesTo fu o0 p1 (I0 (o0 + 1) x5.toNat) (I0 (o0 + 1) x6.toNat) I0) fun y7 I8 =>
        if y7 = 1 then (
          zr x2 I8)
        else (
          zl (wr32 (w2 + 1)) fun x10 =>
          R_ x10 I8)))))))
    else (
      zr ((-1)) I0))
def f_X_firstLine_2 (fu : Nat) (o0 : Nat) (p1 : Int) : Nat → Int → IMem → Res
 | 0 => fun _ _ => none
 | n + 1 => fb_X_firstLine_2 fu o0 p1 (f_X_firstLine_2 fu o0 p1 n)
def f_X_firstLine (fu : Nat) (o0 : Nat) (a1 : Int) (I0 : IMem) : Res :=
  f_X_firstLine_2 fu  o0 a1 fu 0 I0
def fb_X_lineFor_38 (fu : Nat) (k_82 : Int → IMem → Res) (o0 : Nat) (p1 : Int) (p2 : Int) (R_ : Int → Int → IMem → Res) (w3 : Int) (w4 : Int) (I0 : IMem) : Res :=
  if w4 < 6 then (
      zl (wr32 (130 + w4)) fun x1 =>
      zg (0 ≤ x1 ∧ x1 < 6190) (
      zl (wr32 (130 + w3)) fun x2 =>
      zg (0 ≤ x2 ∧ x2 < 6190) (
      zj (fun (x5 : Int) (I4 : IMem) =>
          zl (wr32 (w4 + 1)) fun x6 =>
          R_ x5 x6 I4) fun k3 =>
        if I0 (o0 + 1) x1.toNat < I0 (o0 + 1) x2.toNat then (
          k3 w4 I0)
        else (
          k3 w3 I0))))
    else (
      k_82 w3 I0)
def f_X_lineFor_38 (fu : Nat) (k_82 : Int → IMem → Res) (o0 : Nat) (p1 : Int) (p2 : Int) : Nat → Int → Int → IMem → Res
 | 0 => fun _ _ _ => none
 | n + 1 => fb_X_lineFor_38 fu k_82 o0 p1 p2 (f_X_lineFor_38 fu k_82 o0 p1 p2 n)
def f_X_lineFor (fu : Nat) (o0 : Nat) (a1 : Int) (a2 : Int) (I0 : IMem) : Res :=
  if I0 o0 22 = (-1) then (
      f_X_lineFor_38 fu (fun (x8 : Int) (I7 : IMem) =>
        zw I7 (o0 + 8) 1 a1 fun I9 =>
        zw I9 (o0 + 8) 7 a2 fun I10 =>
        zw I10 (o0 + 8) 10 x8 fun I11 =>
        zw I11 (o0 + 8) 11 (I11 (o0 + 1) 130) fun I12 =>
        zb (f_X_firstLine fu o0 4 I12) fun y13 I14 =>
        if y13 = (-1) then (
          zr 0 I14)
        else (
          zl (wr32 (1590 + y13)) fun x16 =>
          zg (0 ≤ x16 ∧ x16 < 6190) (
          zr (I14 (o0 + 1) x16.toNat) I14))) o0 a1 a2 fu 0 1 I0)
    else (
      if a1 < 5 then (
        if wand (wshr (I0 o0 22) (wr32 (a1 - 1))) 1 = 1 then (
          zr 1 I0)
        else (
          zr 0 I0))
      else (
        zr 0 I0))
def f_X_cell (fu : Nat) (a0 : Int) (a1 : Int) (I0 : IMem) : Res :=
  zr (wr32 (140 + (wr32 (6 * (wr32 ((wr32 (40 * a0)) + a1)))))) I0
def f_X_stands (fu : Nat) (o0 : Nat) (a1 : Int) (a2 : Int) (a3 : Int) (a4 : Int) (a5 : Int) (a6 : Int) (a7 : Int) (I0 : IMem) : Res :=
  zl (wr32 (130 + a1)) fun x1 =>
    zg (0 ≤ x1 ∧ x1 < 6190) (
    if I0 (o0 + 1) x1.toNat = 40 then (
      zw I0 (o0 + 1) 76 (wr32 ((I0 (o0 + 1) 76) + 1)) fun I20 =>
      zj (fun (x23 : Int) (I22 : IMem) =>
          zg (x23 = 0 ∨ x23 = 1) (
          zw I22 o0 24 x23 fun I24 =>
          zr 0 I24)) fun k21 =>
        if I20 o0 24 = 0 then (
          if a2 = I20 o0 23 then (
            k21 1 I20)
          else (
            k21 0 I20))
        else (
          k21 1 I20))
    else (
      zl (wr32 (130 + a1)) fun x2 =>
      zg (0 ≤ x2 ∧ x2 < 6190) (
      zb (f_X_cell fu a1 (I0 (o0 + 1) x2.toNat) I0) fun y3 I4 =>
      zl (wr32 (y3 + 0)) fun x7 =>
      zg (0 ≤ x7 ∧ x7 < 6190) (zw I4 (o0 + 1) x7.toNat a2 fun I6 =>
      zl (wr32 (y3 + 1)) fun x9 =>
      zg (0 ≤ x9 ∧ x9 < 6190) (zw I6 (o0 + 1) x9.toNat a3 fun I8 =>
      zl (wr32 (y3 + 2)) fun x11 =>
      zg (0 ≤ x11 ∧ x11 < 6190) (zw I8 (o0 + 1) x11.toNat a4 fun I10 =>
      zl (wr32 (y3 + 3)) fun x13 =>
      zg (0 ≤ x13 ∧ x13 < 6190) (zw I10 (o0 + 1) x13.toNat a5 fun I12 =>
      zl (wr32 (y3 + 4)) fun x15 =>
      zg (0 ≤ x15 ∧ x15 < 6190) (zw I12 (o0 + 1) x15.toNat a6 fun I14 =>
      zl (wr32 (y3 + 5)) fun x17 =>
      zg (0 ≤ x17 ∧ x17 < 6190) (zw I14 (o0 + 1) x17.toNat a7 fun I16 =>
      zl (wr32 (130 + a1)) fun x18 =>
      zg (0 ≤ x18 ∧ x18 < 6190) (
      zg (0 ≤ x18 ∧ x18 < 6190) (zw I16 (o0 + 1) x18.toNat (wr32 ((I16 (o0 + 1) x18.toNat) + 1)) fun I19 =>
      zr 1 I19)))))))))))
def f_X_comes (fu : Nat) (o0 : Nat) (a1 : Int) (a2 : Int) (a3 : Int) (I0 : IMem) : Res :=
  zb (f_X_lineFor fu o0 a2 a3 I0) fun y1 I2 =>
    zw I2 (o0 + 1) 7 (wr32 ((I2 (o0 + 1) 7) + 1)) fun I4 =>
    zb (f_X_stands fu o0 y1 (wr32 ((I4 (o0 + 1) 7) - 1)) a1 a2 a3 0 0 I4) fun y5 I6 =>
    if y5 = 0 then (
      zr ((-1)) I6)
    else (
      zr y1 I6)
def f_X_come (fu : Nat) (o0 : Nat) (a1 : Int) (a2 : Int) (a3 : Int) (I0 : IMem) : Res :=
  zb (f_X_isGroup fu a1 a2 a3 I0) fun y1 I2 =>
    if y1 = 0 then (
      zr ((-2)) I2)
    else (
      zb (f_X_comes fu o0 a1 a2 a3 I2) fun y4 I5 =>
      zr y4 I5)
def f_X_of (fu : Nat) (o0 : Nat) (a1 : Int) (a2 : Int) (a3 : Int) (I0 : IMem) : Res :=
  zb (f_X_cell fu a1 a2 I0) fun y1 I2 =>
    zl (wr32 (y1 + a3)) fun x4 =>
    zg (0 ≤ x4 ∧ x4 < 6190) (
    zr (I2 (o0 + 1) x4.toNat) I2)
section
variable {l : Launch} {b : PB}
set_option maxRecDepth 20000 in
theorem t_X_any_9 (fu : Nat) (n : Nat) {R : (Nat → IMem → Res) × (Nat → IMem → Res) × (Nat → IMem → Res)} (ihg : (∀ (o0 : Nat) (I0 : IMem), RG I0 → KM[o0]? = some (12, 51) → ∀ (r : Int × IMem), R.1 o0 I0 = some r → Ss l b (12 + n) y_X_any KM RM [.ref o0] (ivm I0) (Ps r)) ∧ (∀ (o0 : Nat) (I0 : IMem), RG I0 → KM[o0]? = some (12, 51) → ∀ (r : Int × IMem), R.2.1 o0 I0 = some r → Ss l b (12 + n) y_X_every KM RM [.ref o0] (ivm I0) (Ps r)) ∧ (∀ (o0 : Nat) (I0 : IMem), RG I0 → KM[o0]? = some (12, 51) → ∀ (r : Int × IMem), R.2.2 o0 I0 = some r → Ss l b (12 + n) y_X_one KM RM [.ref o0] (ivm I0) (Ps r))) {r : Int × IMem} (o0 : Nat) (h_o0 : KM[o0]? = some (12, 51)) : ∀ (m : Nat) (I0 : IMem), RG I0 → f_X_any_9 fu R o0 m I0 = some r → Ai l b (12 + (n + 1)) y_X_any KM RM (Ps r) I0 9 [.ref o0] [] := by
  intro m
  induction m with
  | zero => intro  I0  h_I0 hf; cases hf
  | succ m ih =>
    intro  I0  h_I0 hf
    replace hf : fb_X_any_9 fu R o0 (f_X_any_9 fu R o0 m) I0 = some r := hf
    unfold fb_X_any_9 at hf
    refine aw_aload_n rfl rfl d_X_any_9 (ai_geti fl_X_178 h_o0 (by decide) rfl d_X_any_10 (aw_iconst (v := iv 4) rfl d_X_any_13 ?_))
    refine ai_icmp_ne (h_I0 o0 14) in_4 hf (tgt := 40) (by decide) d_X_any_14 (fun hf => ?_) (fun hf => ?_)
    · refine aw_iconst (v := iv 1) rfl d_X_any_40 ?_
      exact ai_retn rfl (nar_z (Or.inr rfl)) d_X_any_41 hf in_1 h_I0
    · refine aw_aload_n rfl rfl d_X_any_17 ?_
      obtain ⟨y4, I5, c6, hf⟩ := of_zb hf
      refine ai_callVv (as := []) (d' := 8) (q := ("SinglesUpModel", zT9, 51)) mo_X_next0 lk_X_202 h_o0 rfl rfl rfl ⟨by show 8 + 1 ≤ 12 + (n + 1); omega, by show 8 + (3 + 11) + 40 * 8 ≤ 40 * (12 + (n + 1)); omega⟩ rfl rfl (by decide) d_X_any_18 (t_X_next0 fu o0 I0 h_I0 h_o0 c6) (fun h_I5 => ?_)
      refine aw_aload_n rfl rfl d_X_any_21 ?_
      obtain ⟨y7, I8, c9, hf⟩ := of_zb hf
      refine ai_callV (as := []) (d' := (12 + n)) (q := ("SinglesUpModel", zT9, 51)) mo_X_every lk_X_226 h_o0 rfl rfl rfl ⟨by show 12 + n + 1 ≤ 12 + (n + 1); omega, by show 8 + (1 + 11) + 40 * (12 + n) ≤ 40 * (12 + (n + 1)); omega⟩ rfl rfl (by decide) d_X_any_22 (ihg.2.1 o0 I5 h_I5 h_o0 _ c9) (fun h_y7 h_I8 => ?_)
      refine ai_if_ne h_y7 hf (tgt := 30) (by decide) d_X_any_25 (fun hf => ?_) (fun hf => ?_)
      · refine aw_aload_n rfl rfl d_X_any_30 (aw_bipush (v := iv 21) cb_21 d_X_any_31 (aw_iconst (v := iv 0) rfl d_X_any_33 ?_))
        obtain ⟨y10, I11, c12, hf⟩ := of_zb hf
        refine ai_callVv (as := [.int (iv 21), .int (iv 0)]) (d' := 1) (q := ("SinglesUpModel", zT9, 51)) mo_X_lay lk_X_215 h_o0 rfl rfl rfl ⟨by show 1 + 1 ≤ 12 + (n + 1); omega, by show 8 + (3 + 11) + 40 * 1 ≤ 40 * (12 + (n + 1)); omega⟩ rfl rfl (by decide) d_X_any_34 (t_X_lay fu o0 21 0 I8 h_I8 h_o0 in_21 in_0 c12) (fun h_I11 => ?_)
        refine aw_goto (tgt := 9) (by decide) d_X_any_37 ?_
        exact ih I11 h_I11 hf
      · refine aw_iconst (v := iv 0) rfl d_X_any_28 ?_
        exact ai_retn rfl (nar_z (Or.inl rfl)) d_X_any_29 hf in_0 h_I8
set_option maxRecDepth 20000 in
theorem t_X_every_9 (fu : Nat) (n : Nat) {R : (Nat → IMem → Res) × (Nat → IMem → Res) × (Nat → IMem → Res)} (ihg : (∀ (o0 : Nat) (I0 : IMem), RG I0 → KM[o0]? = some (12, 51) → ∀ (r : Int × IMem), R.1 o0 I0 = some r → Ss l b (12 + n) y_X_any KM RM [.ref o0] (ivm I0) (Ps r)) ∧ (∀ (o0 : Nat) (I0 : IMem), RG I0 → KM[o0]? = some (12, 51) → ∀ (r : Int × IMem), R.2.1 o0 I0 = some r → Ss l b (12 + n) y_X_every KM RM [.ref o0] (ivm I0) (Ps r)) ∧ (∀ (o0 : Nat) (I0 : IMem), RG I0 → KM[o0]? = some (12, 51) → ∀ (r : Int × IMem), R.2.2 o0 I0 = some r → Ss l b (12 + n) y_X_one KM RM [.ref o0] (ivm I0) (Ps r))) {r : Int × IMem} (o0 : Nat) (h_o0 : KM[o0]? = some (12, 51)) : ∀ (m : Nat) (I0 : IMem), RG I0 → f_X_every_9 fu R o0 m I0 = some r → Ai l b (12 + (n + 1)) y_X_every KM RM (Ps r) I0 9 [.ref o0] [] := by
  intro m
  induction m with
  | zero => intro  I0  h_I0 hf; cases hf
  | succ m ih =>
    intro  I0  h_I0 hf
    replace hf : fb_X_every_9 fu R o0 (f_X_every_9 fu R o0 m) I0 = some r := hf
    unfold fb_X_every_9 at hf
    refine aw_aload_n rfl rfl d_X_every_9 (ai_geti fl_X_178 h_o0 (by decide) rfl d_X_every_10 (aw_iconst (v := iv 5) rfl d_X_every_13 ?_))
    refine ai_icmp_ne (h_I0 o0 14) in_5 hf (tgt := 40) (by decide) d_X_every_14 (fun hf => ?_) (fun hf => ?_)
    · refine aw_iconst (v := iv 1) rfl d_X_every_40 ?_
      exact ai_retn rfl (nar_z (Or.inr rfl)) d_X_every_41 hf in_1 h_I0
    · refine aw_aload_n rfl rfl d_X_every_17 ?_
      obtain ⟨y4, I5, c6, hf⟩ := of_zb hf
      refine ai_callVv (as := []) (d' := 8) (q := ("SinglesUpModel", zT9, 51)) mo_X_next0 lk_X_202 h_o0 rfl rfl rfl ⟨by show 8 + 1 ≤ 12 + (n + 1); omega, by show 8 + (3 + 11) + 40 * 8 ≤ 40 * (12 + (n + 1)); omega⟩ rfl rfl (by decide) d_X_every_18 (t_X_next0 fu o0 I0 h_I0 h_o0 c6) (fun h_I5 => ?_)
      refine aw_aload_n rfl rfl d_X_every_21 ?_
      obtain ⟨y7, I8, c9, hf⟩ := of_zb hf
      refine ai_callV (as := []) (d' := (12 + n)) (q := ("SinglesUpModel", zT9, 51)) mo_X_one lk_X_229 h_o0 rfl rfl rfl ⟨by show 12 + n + 1 ≤ 12 + (n + 1); omega, by show 8 + (2 + 11) + 40 * (12 + n) ≤ 40 * (12 + (n + 1)); omega⟩ rfl rfl (by decide) d_X_every_22 (ihg.2.2 o0 I5 h_I5 h_o0 _ c9) (fun h_y7 h_I8 => ?_)
      refine ai_if_ne h_y7 hf (tgt := 30) (by decide) d_X_every_25 (fun hf => ?_) (fun hf => ?_)
      · refine aw_aload_n rfl rfl d_X_every_30 (aw_bipush (v := iv 20) cb_20 d_X_every_31 (aw_iconst (v := iv 0) rfl d_X_every_33 ?_))
        obtain ⟨y10, I11, c12, hf⟩ := of_zb hf
        refine ai_callVv (as := [.int (iv 20), .int (iv 0)]) (d' := 1) (q := ("SinglesUpModel", zT9, 51)) mo_X_lay lk_X_215 h_o0 rfl rfl rfl ⟨by show 1 + 1 ≤ 12 + (n + 1); omega, by show 8 + (3 + 11) + 40 * 1 ≤ 40 * (12 + (n + 1)); omega⟩ rfl rfl (by decide) d_X_every_34 (t_X_lay fu o0 20 0 I8 h_I8 h_o0 in_20 in_0 c12) (fun h_I11 => ?_)
        refine aw_goto (tgt := 9) (by decide) d_X_every_37 ?_
        exact ih I11 h_I11 hf
      · refine aw_iconst (v := iv 0) rfl d_X_every_28 ?_
        exact ai_retn rfl (nar_z (Or.inl rfl)) d_X_every_29 hf in_0 h_I8
set_option maxRecDepth 20000 in
theorem t_gXA (fu : Nat) : ∀ n : Nat, (∀ (o0 : Nat) (I0 : IMem), RG I0 → KM[o0]? = some (12, 51) → ∀ (r : Int × IMem), (gXA fu n).1 o0 I0 = some r → Ss l b (12 + n) y_X_any KM RM [.ref o0] (ivm I0) (Ps r)) ∧ (∀ (o0 : Nat) (I0 : IMem), RG I0 → KM[o0]? = some (12, 51) → ∀ (r : Int × IMem), (gXA fu n).2.1 o0 I0 = some r → Ss l b (12 + n) y_X_every KM RM [.ref o0] (ivm I0) (Ps r)) ∧ (∀ (o0 : Nat) (I0 : IMem), RG I0 → KM[o0]? = some (12, 51) → ∀ (r : Int × IMem), (gXA fu n).2.2 o0 I0 = some r → Ss l b (12 + n) y_X_one KM RM [.ref o0] (ivm I0) (Ps r)) := by
  intro n
  induction n with
  | zero => exact ⟨(fun o0 I0 _ _ r hf => by cases hf), (fun o0 I0 _ _ r hf => by cases hf), (fun o0 I0 _ _ r hf => by cases hf)⟩
  | succ n ihg =>
    refine ⟨?_, ?_, ?_⟩
    · intro o0 I0 hI h_o0 r hf
      replace hf : fb_X_any fu (gXA fu n) o0 I0 = some r := hf
      unfold fb_X_any at hf
      refine Ss.of (show Ai l b (12 + (n + 1)) y_X_any KM RM (Ps r) I0 0 [.ref o0] [] from ?_)
      refine aw_aload_n rfl rfl d_X_any_0 ?_
      obtain ⟨y1, I2, c3, hf⟩ := of_zb hf
      refine ai_callV (as := []) (d' := (12 + n)) (q := ("SinglesUpModel", zT9, 51)) mo_X_every lk_X_226 h_o0 rfl rfl rfl ⟨by show 12 + n + 1 ≤ 12 + (n + 1); omega, by show 8 + (1 + 11) + 40 * (12 + n) ≤ 40 * (12 + (n + 1)); omega⟩ rfl rfl (by decide) d_X_any_1 (ihg.2.1 o0 I0 hI h_o0 _ c3) (fun h_y1 h_I2 => ?_)
      refine ai_if_ne h_y1 hf (tgt := 9) (by decide) d_X_any_4 (fun hf => ?_) (fun hf => ?_)
      · refine t_X_any_9 fu n ihg o0 h_o0 fu I2 h_I2 hf
      · refine aw_iconst (v := iv 0) rfl d_X_any_7 ?_
        exact ai_retn rfl (nar_z (Or.inl rfl)) d_X_any_8 hf in_0 h_I2
    · intro o0 I0 hI h_o0 r hf
      replace hf : fb_X_every fu (gXA fu n) o0 I0 = some r := hf
      unfold fb_X_every at hf
      refine Ss.of (show Ai l b (12 + (n + 1)) y_X_every KM RM (Ps r) I0 0 [.ref o0] [] from ?_)
      refine aw_aload_n rfl rfl d_X_every_0 ?_
      obtain ⟨y1, I2, c3, hf⟩ := of_zb hf
      refine ai_callV (as := []) (d' := (12 + n)) (q := ("SinglesUpModel", zT9, 51)) mo_X_one lk_X_229 h_o0 rfl rfl rfl ⟨by show 12 + n + 1 ≤ 12 + (n + 1); omega, by show 8 + (2 + 11) + 40 * (12 + n) ≤ 40 * (12 + (n + 1)); omega⟩ rfl rfl (by decide) d_X_every_1 (ihg.2.2 o0 I0 hI h_o0 _ c3) (fun h_y1 h_I2 => ?_)
      refine ai_if_ne h_y1 hf (tgt := 9) (by decide) d_X_every_4 (fun hf => ?_) (fun hf => ?_)
      · refine t_X_every_9 fu n ihg o0 h_o0 fu I2 h_I2 hf
      · refine aw_iconst (v := iv 0) rfl d_X_every_7 ?_
        exact ai_retn rfl (nar_z (Or.inl rfl)) d_X_every_8 hf in_0 h_I2
    · intro o0 I0 hI h_o0 r hf
      replace hf : fb_X_one fu (gXA fu n) o0 I0 = some r := hf
      unfold fb_X_one at hf
      refine Ss.of (show Ai l b (12 + (n + 1)) y_X_one KM RM (Ps r) I0 0 [.ref o0, uu] [] from ?_)
      refine aw_aload_n rfl rfl d_X_one_0 (ai_geti fl_X_178 h_o0 (by decide) rfl d_X_one_1 (aw_bipush (v := iv 6) cb_6 d_X_one_4 ?_))
      refine ai_icmp_ne (hI o0 14) in_6 hf (tgt := 44) (by decide) d_X_one_6 (fun hf => ?_) (fun hf => ?_)
      · refine aw_aload_n rfl rfl d_X_one_44 (ai_geti fl_X_178 h_o0 (by decide) rfl d_X_one_45 (aw_sipush (v := iv 140) cs_140 d_X_one_48 ?_))
        refine ai_icmp_ne (hI o0 14) in_140 hf (tgt := 92) (by decide) d_X_one_51 (fun hf => ?_) (fun hf => ?_)
        · refine aw_aload_n rfl rfl d_X_one_92 ?_
          obtain ⟨y1, I2, c3, hf⟩ := of_zb hf
          refine ai_callV (as := []) (d' := 11) (q := ("SinglesUpModel", zT9, 51)) mo_X_sumUp lk_X_241 h_o0 rfl rfl rfl ⟨by show 11 + 1 ≤ 12 + (n + 1); omega, by show 8 + (2 + 11) + 40 * 11 ≤ 40 * (12 + (n + 1)); omega⟩ rfl rfl (by decide) d_X_one_93 (t_X_sumUp fu o0 I0 hI h_o0 c3) (fun h_y1 h_I2 => ?_)
          refine ai_if_ne h_y1 hf (tgt := 101) (by decide) d_X_one_96 (fun hf => ?_) (fun hf => ?_)
          · refine aw_aload_n rfl rfl d_X_one_101 (ai_geti fl_X_178 h_o0 (by decide) rfl d_X_one_102 (aw_sipush (v := iv 160) cs_160 d_X_one_105 ?_))
            obtain ⟨k4, ek4, hf⟩ := of_zj hf
            have hk4 : ∀ (x6 : Int) (I5 : IMem), inr x6 → RG I5 → k4 x6 I5 = some r → Ai l b (12 + (n + 1)) y_X_one KM RM (Ps r) I5 147 [.ref o0, uu] [.int (iv x6)] := by
              intro x6 I5 h_x6 h_I5 hf
              subst ek4
              refine aw_istore_n (lv2 := [.ref o0, .int (iv x6)]) rfl (Nat.le_of_ble_eq_true rfl) rfl d_X_one_147 (aw_iload_n rfl rfl d_X_one_148 (aw_iconst (v := iv (-1)) rfl d_X_one_149 ?_))
              refine ai_icmp_ne h_x6 in_m1 hf (tgt := 159) (by decide) d_X_one_150 (fun hf => ?_) (fun hf => ?_)
              · refine aw_aload_n rfl rfl d_X_one_159 ?_
                obtain ⟨y7, I8, c9, hf⟩ := of_zb hf
                refine ai_callVv (as := []) (d' := 8) (q := ("SinglesUpModel", zT9, 51)) mo_X_next0 lk_X_202 h_o0 rfl rfl rfl ⟨by show 8 + 1 ≤ 12 + (n + 1); omega, by show 8 + (3 + 11) + 40 * 8 ≤ 40 * (12 + (n + 1)); omega⟩ rfl rfl (by decide) d_X_one_160 (t_X_next0 fu o0 I5 h_I5 h_o0 c9) (fun h_I8 => ?_)
                refine aw_aload_n rfl rfl d_X_one_163 ?_
                obtain ⟨y10, I11, c12, hf⟩ := of_zb hf
                refine ai_callV (as := []) (d' := 11) (q := ("SinglesUpModel", zT9, 51)) mo_X_sumUp lk_X_241 h_o0 rfl rfl rfl ⟨by show 11 + 1 ≤ 12 + (n + 1); omega, by show 8 + (2 + 11) + 40 * 11 ≤ 40 * (12 + (n + 1)); omega⟩ rfl rfl (by decide) d_X_one_164 (t_X_sumUp fu o0 I8 h_I8 h_o0 c12) (fun h_y10 h_I11 => ?_)
                refine ai_if_ne h_y10 hf (tgt := 172) (by decide) d_X_one_167 (fun hf => ?_) (fun hf => ?_)
                · refine aw_aload_n rfl rfl d_X_one_172 (aw_iload_n rfl rfl d_X_one_173 (aw_iconst (v := iv 0) rfl d_X_one_174 ?_))
                  obtain ⟨y13, I14, c15, hf⟩ := of_zb hf
                  refine ai_callVv (as := [.int (iv x6), .int (iv 0)]) (d' := 1) (q := ("SinglesUpModel", zT9, 51)) mo_X_lay lk_X_215 h_o0 rfl rfl rfl ⟨by show 1 + 1 ≤ 12 + (n + 1); omega, by show 8 + (3 + 11) + 40 * 1 ≤ 40 * (12 + (n + 1)); omega⟩ rfl rfl (by decide) d_X_one_175 (t_X_lay fu o0 x6 0 I11 h_I11 h_o0 h_x6 in_0 c15) (fun h_I14 => ?_)
                  refine aw_iconst (v := iv 1) rfl d_X_one_178 ?_
                  exact ai_retn rfl (nar_z (Or.inr rfl)) d_X_one_179 hf in_1 h_I14
                · refine aw_iconst (v := iv 0) rfl d_X_one_170 ?_
                  exact ai_retn rfl (nar_z (Or.inl rfl)) d_X_one_171 hf in_0 h_I11
              · refine aw_aload_n rfl rfl d_X_one_153 (aw_iconst (v := iv 1) rfl d_X_one_154 ?_)
                obtain ⟨y16, I17, c18, hf⟩ := of_zb hf
                refine ai_callV (as := [.int (iv 1)]) (d' := 1) (q := ("SinglesUpModel", zT9, 51)) mo_X_bad lk_X_199 h_o0 rfl rfl rfl ⟨by show 1 + 1 ≤ 12 + (n + 1); omega, by show 8 + (2 + 11) + 40 * 1 ≤ 40 * (12 + (n + 1)); omega⟩ rfl rfl (by decide) d_X_one_155 (t_X_bad fu o0 1 I5 h_I5 h_o0 in_1 c18) (fun h_y16 h_I17 => ?_)
                obtain ⟨g, hf⟩ := of_zg hf
                exact ai_retn rfl (nar_z g) d_X_one_158 hf h_y16 h_I17
            refine ai_icmp_ne (h_I2 o0 14) in_160 hf (tgt := 116) (by decide) d_X_one_108 (fun hf => ?_) (fun hf => ?_)
            · refine aw_aload_n rfl rfl d_X_one_116 (ai_geti fl_X_178 h_o0 (by decide) rfl d_X_one_117 (aw_sipush (v := iv 161) cs_161 d_X_one_120 ?_))
              refine ai_icmp_ne (h_I2 o0 14) in_161 hf (tgt := 131) (by decide) d_X_one_123 (fun hf => ?_) (fun hf => ?_)
              · refine aw_aload_n rfl rfl d_X_one_131 (ai_geti fl_X_178 h_o0 (by decide) rfl d_X_one_132 (aw_sipush (v := iv 162) cs_162 d_X_one_135 ?_))
                refine ai_icmp_ne (h_I2 o0 14) in_162 hf (tgt := 146) (by decide) d_X_one_138 (fun hf => ?_) (fun hf => ?_)
                · refine aw_iconst (v := iv (-1)) rfl d_X_one_146 ?_
                  exact hk4 ((-1)) I2 in_m1 h_I2 hf
                · refine aw_bipush (v := iv 18) cb_18 d_X_one_141 (aw_goto (tgt := 147) (by decide) d_X_one_143 ?_)
                  exact hk4 18 I2 in_18 h_I2 hf
              · refine aw_bipush (v := iv 17) cb_17 d_X_one_126 (aw_goto (tgt := 147) (by decide) d_X_one_128 ?_)
                exact hk4 17 I2 in_17 h_I2 hf
            · refine aw_bipush (v := iv 16) cb_16 d_X_one_111 (aw_goto (tgt := 147) (by decide) d_X_one_113 ?_)
              exact hk4 16 I2 in_16 h_I2 hf
          · refine aw_iconst (v := iv 0) rfl d_X_one_99 ?_
            exact ai_retn rfl (nar_z (Or.inl rfl)) d_X_one_100 hf in_0 h_I2
        · refine aw_aload_n rfl rfl d_X_one_54 ?_
          obtain ⟨y19, I20, c21, hf⟩ := of_zb hf
          refine ai_callV (as := []) (d' := 9) (q := ("SinglesUpModel", zT9, 51)) mo_X_opens lk_X_232 h_o0 rfl rfl rfl ⟨by show 9 + 1 ≤ 12 + (n + 1); omega, by show 8 + (1 + 11) + 40 * 9 ≤ 40 * (12 + (n + 1)); omega⟩ rfl rfl (by decide) d_X_one_55 (t_X_opens fu o0 I0 hI h_o0 c21) (fun h_y19 h_I20 => ?_)
          refine ai_if_eq h_y19 hf (tgt := 78) (by decide) d_X_one_58 (fun hf => ?_) (fun hf => ?_)
          · refine aw_iconst (v := iv 0) rfl d_X_one_78 ?_
            exact ai_retn rfl (nar_z (Or.inl rfl)) d_X_one_79 hf in_0 h_I20
          · refine aw_aload_n rfl rfl d_X_one_61 ?_
            obtain ⟨y22, I23, c24, hf⟩ := of_zb hf
            refine ai_callV (as := []) (d' := (12 + n)) (q := ("SinglesUpModel", zT9, 51)) mo_X_any lk_X_235 h_o0 rfl rfl rfl ⟨by show 12 + n + 1 ≤ 12 + (n + 1); omega, by show 8 + (1 + 11) + 40 * (12 + n) ≤ 40 * (12 + (n + 1)); omega⟩ rfl rfl (by decide) d_X_one_62 (ihg.1 o0 I20 h_I20 h_o0 _ c24) (fun h_y22 h_I23 => ?_)
            refine ai_if_eq h_y22 hf (tgt := 78) (by decide) d_X_one_65 (fun hf => ?_) (fun hf => ?_)
            · refine aw_iconst (v := iv 0) rfl d_X_one_78 ?_
              exact ai_retn rfl (nar_z (Or.inl rfl)) d_X_one_79 hf in_0 h_I23
            · refine aw_aload_n rfl rfl d_X_one_68 (aw_sipush (v := iv 141) cs_141 d_X_one_69 ?_)
              obtain ⟨y25, I26, c27, hf⟩ := of_zb hf
              refine ai_callV (as := [.int (iv 141)]) (d' := 9) (q := ("SinglesUpModel", zT9, 51)) mo_X_need lk_X_238 h_o0 rfl rfl rfl ⟨by show 9 + 1 ≤ 12 + (n + 1); omega, by show 8 + (2 + 11) + 40 * 9 ≤ 40 * (12 + (n + 1)); omega⟩ rfl rfl (by decide) d_X_one_72 (t_X_need fu o0 141 I23 h_I23 h_o0 in_141 c27) (fun h_y25 h_I26 => ?_)
              refine ai_if_ne h_y25 hf (tgt := 80) (by decide) d_X_one_75 (fun hf => ?_) (fun hf => ?_)
              · refine aw_aload_n rfl rfl d_X_one_80 (aw_dup rfl d_X_one_81 (ai_geti fl_X_208 h_o0 (by decide) rfl d_X_one_82 (aw_iconst (v := iv 1) rfl d_X_one_85 (ai_isub d_X_one_86 ?_))))
                refine ai_puti hf h_I26 (wr32_in _) fl_X_208 h_o0 (by decide) rfl rfl rfl rfl d_X_one_87 (fun I28 h_I28 hf => ?_)
                refine aw_iconst (v := iv 1) rfl d_X_one_90 ?_
                exact ai_retn rfl (nar_z (Or.inr rfl)) d_X_one_91 hf in_1 h_I28
              · refine aw_iconst (v := iv 0) rfl d_X_one_78 ?_
                exact ai_retn rfl (nar_z (Or.inl rfl)) d_X_one_79 hf in_0 h_I26
      · refine aw_aload_n rfl rfl d_X_one_9 ?_
        obtain ⟨y29, I30, c31, hf⟩ := of_zb hf
        refine ai_callV (as := []) (d' := 9) (q := ("SinglesUpModel", zT9, 51)) mo_X_opens lk_X_232 h_o0 rfl rfl rfl ⟨by show 9 + 1 ≤ 12 + (n + 1); omega, by show 8 + (1 + 11) + 40 * 9 ≤ 40 * (12 + (n + 1)); omega⟩ rfl rfl (by decide) d_X_one_10 (t_X_opens fu o0 I0 hI h_o0 c31) (fun h_y29 h_I30 => ?_)
        refine ai_if_eq h_y29 hf (tgt := 23) (by decide) d_X_one_13 (fun hf => ?_) (fun hf => ?_)
        · refine aw_iconst (v := iv 0) rfl d_X_one_23 ?_
          exact ai_retn rfl (nar_z (Or.inl rfl)) d_X_one_24 hf in_0 h_I30
        · refine aw_aload_n rfl rfl d_X_one_16 ?_
          obtain ⟨y32, I33, c34, hf⟩ := of_zb hf
          refine ai_callV (as := []) (d' := (12 + n)) (q := ("SinglesUpModel", zT9, 51)) mo_X_one lk_X_229 h_o0 rfl rfl rfl ⟨by show 12 + n + 1 ≤ 12 + (n + 1); omega, by show 8 + (2 + 11) + 40 * (12 + n) ≤ 40 * (12 + (n + 1)); omega⟩ rfl rfl (by decide) d_X_one_17 (ihg.2.2 o0 I30 h_I30 h_o0 _ c34) (fun h_y32 h_I33 => ?_)
          refine ai_if_ne h_y32 hf (tgt := 25) (by decide) d_X_one_20 (fun hf => ?_) (fun hf => ?_)
          · refine aw_aload_n rfl rfl d_X_one_25 (aw_dup rfl d_X_one_26 (ai_geti fl_X_208 h_o0 (by decide) rfl d_X_one_27 (aw_iconst (v := iv 1) rfl d_X_one_30 (ai_isub d_X_one_31 ?_))))
            refine ai_puti hf h_I33 (wr32_in _) fl_X_208 h_o0 (by decide) rfl rfl rfl rfl d_X_one_32 (fun I35 h_I35 hf => ?_)
            refine aw_aload_n rfl rfl d_X_one_35 (aw_bipush (v := iv 19) cb_19 d_X_one_36 (aw_iconst (v := iv 0) rfl d_X_one_38 ?_))
            obtain ⟨y36, I37, c38, hf⟩ := of_zb hf
            refine ai_callVv (as := [.int (iv 19), .int (iv 0)]) (d' := 1) (q := ("SinglesUpModel", zT9, 51)) mo_X_lay lk_X_215 h_o0 rfl rfl rfl ⟨by show 1 + 1 ≤ 12 + (n + 1); omega, by show 8 + (3 + 11) + 40 * 1 ≤ 40 * (12 + (n + 1)); omega⟩ rfl rfl (by decide) d_X_one_39 (t_X_lay fu o0 19 0 I35 h_I35 h_o0 in_19 in_0 c38) (fun h_I37 => ?_)
            refine aw_iconst (v := iv 1) rfl d_X_one_42 ?_
            exact ai_retn rfl (nar_z (Or.inr rfl)) d_X_one_43 hf in_1 h_I37
          · refine aw_iconst (v := iv 0) rfl d_X_one_23 ?_
            exact ai_retn rfl (nar_z (Or.inl rfl)) d_X_one_24 hf in_0 h_I33
set_option maxRecDepth 20000 in
theorem t_X_any (fu : Nat) (o0 : Nat) (I0 : IMem) (hI : RG I0) (h_o0 : KM[o0]? = some (12, 51)) {r : Int × IMem} (hf : f_X_any fu o0 I0 = some r) : Ss l b 72 y_X_any KM RM [.ref o0] (ivm I0) (Ps r) := (t_gXA fu 60).1 o0 I0 hI h_o0 r hf
set_option maxRecDepth 20000 in
theorem t_X_every (fu : Nat) (o0 : Nat) (I0 : IMem) (hI : RG I0) (h_o0 : KM[o0]? = some (12, 51)) {r : Int × IMem} (hf : f_X_every fu o0 I0 = some r) : Ss l b 72 y_X_every KM RM [.ref o0] (ivm I0) (Ps r) := (t_gXA fu 60).2.1 o0 I0 hI h_o0 r hf
set_option maxRecDepth 20000 in
theorem t_X_one (fu : Nat) (o0 : Nat) (I0 : IMem) (hI : RG I0) (h_o0 : KM[o0]? = some (12, 51)) {r : Int × IMem} (hf : f_X_one fu o0 I0 = some r) : Ss l b 72 y_X_one KM RM [.ref o0] (ivm I0) (Ps r) := (t_gXA fu 60).2.2 o0 I0 hI h_o0 r hf
set_option maxRecDepth 20000 in
theorem t_X_aLine (fu : Nat) (o0 : Nat) (I0 : IMem) (hI : RG I0) (h_o0 : KM[o0]? = some (12, 51)) {r : Int × IMem} (hf : f_X_aLine fu o0 I0 = some r) : Ss l b 73 y_X_aLine KM RM [.ref o0] (ivm I0) (Ps r) := by
  unfold f_X_aLine at hf
  refine Ss.of (show Ai l b 73 y_X_aLine KM RM (Ps r) I0 0 [.ref o0, uu] [] from ?_)
  refine aw_aload_n rfl rfl d_X_aLine_0 (ai_geti fl_X_178 h_o0 (by decide) rfl d_X_aLine_1 (aw_bipush (v := iv 7) cb_7 d_X_aLine_4 ?_))
  refine ai_icmp_eq (hI o0 14) in_7 hf (tgt := 15) (by decide) d_X_aLine_6 (fun hf => ?_) (fun hf => ?_)
  · refine aw_aload_n rfl rfl d_X_aLine_15 (ai_geti fl_X_244 h_o0 (by decide) rfl d_X_aLine_16 (aw_bipush (v := iv 16) cb_16 d_X_aLine_19 ?_))
    refine ai_icmp_ne (hI o0 10) in_16 hf (tgt := 30) (by decide) d_X_aLine_21 (fun hf => ?_) (fun hf => ?_)
    · refine aw_aload_n rfl rfl d_X_aLine_30 (ai_geti fl_X_166 h_o0 (by decide) rfl d_X_aLine_31 (aw_iconst (v := iv 4) rfl d_X_aLine_34 ?_))
      obtain ⟨k1, ek1, hf⟩ := of_zj hf
      have hk1 : ∀ (x3 : Int) (I2 : IMem), inr x3 → RG I2 → k1 x3 I2 = some r → Ai l b 73 y_X_aLine KM RM (Ps r) I2 43 [.ref o0, uu] [.int (iv x3)] := by
        intro x3 I2 h_x3 h_I2 hf
        subst ek1
        refine aw_istore_n (lv2 := [.ref o0, .int (iv x3)]) rfl (Nat.le_of_ble_eq_true rfl) rfl d_X_aLine_43 (aw_aload_n rfl rfl d_X_aLine_44 (aw_iconst (v := iv 0) rfl d_X_aLine_45 ?_))
        refine ai_puti hf h_I2 in_0 fl_X_208 h_o0 (by decide) rfl rfl rfl rfl d_X_aLine_46 (fun I4 h_I4 hf => ?_)
        refine aw_aload_n rfl rfl d_X_aLine_49 ?_
        obtain ⟨y5, I6, c7, hf⟩ := of_zb hf
        refine ai_callVv (as := []) (d' := 8) (q := ("SinglesUpModel", zT9, 51)) mo_X_next0 lk_X_202 h_o0 rfl rfl rfl ⟨by decide, by decide⟩ rfl rfl (by decide) d_X_aLine_50 (t_X_next0 fu o0 I4 h_I4 h_o0 c7) (fun h_I6 => ?_)
        refine aw_aload_n rfl rfl d_X_aLine_53 (aw_getr (r := o0 + 4) fl_X_19 h_o0 (by decide) rfl (rm_9_4 _ h_o0).1 d_X_aLine_54 (aw_iconst (v := iv 4) rfl d_X_aLine_57 (aw_aload_n rfl rfl d_X_aLine_58 (ai_geti fl_X_244 h_o0 (by decide) rfl d_X_aLine_59 (ai_imul d_X_aLine_62 (aw_aload_n rfl rfl d_X_aLine_63 (ai_geti fl_X_190 h_o0 (by decide) rfl d_X_aLine_64 ?_)))))))
        refine ai_nameU hf (wr32_in _) (fun x9 h_x9 hf => ?_)
        refine ai_iast (rm_9_4 _ h_o0).2 rfl h_x9 (h_I6 o0 16) h_I6 hf d_X_aLine_67 (fun _ I8 h_I8 hf => ?_)
        refine aw_aload_n rfl rfl d_X_aLine_68 (aw_getr (r := o0 + 4) fl_X_19 h_o0 (by decide) rfl (rm_9_4 _ h_o0).1 d_X_aLine_69 (aw_iconst (v := iv 4) rfl d_X_aLine_72 (aw_aload_n rfl rfl d_X_aLine_73 (ai_geti fl_X_244 h_o0 (by decide) rfl d_X_aLine_74 (ai_imul d_X_aLine_77 (aw_iconst (v := iv 1) rfl d_X_aLine_78 (ai_iadd d_X_aLine_79 (aw_aload_n rfl rfl d_X_aLine_80 (ai_geti fl_X_205 h_o0 (by decide) rfl d_X_aLine_81 ?_)))))))))
        refine ai_nameU hf (wr32_in _) (fun x11 h_x11 hf => ?_)
        refine ai_iast (rm_9_4 _ h_o0).2 rfl h_x11 (h_I8 o0 11) h_I8 hf d_X_aLine_84 (fun _ I10 h_I10 hf => ?_)
        refine aw_iload_n rfl rfl d_X_aLine_85 ?_
        obtain ⟨k12, ek12, hf⟩ := of_zj hf
        have hk12 : ∀  (I13 : IMem), RG I13 → k12 I13 = some r → Ai l b 73 y_X_aLine KM RM (Ps r) I13 110 [.ref o0, .int (iv x3)] [] := by
          intro I13 h_I13 hf
          subst ek12
          refine aw_aload_n rfl rfl d_X_aLine_110 (aw_getr (r := o0 + 4) fl_X_19 h_o0 (by decide) rfl (rm_9_4 _ h_o0).1 d_X_aLine_111 (aw_iconst (v := iv 4) rfl d_X_aLine_114 (aw_aload_n rfl rfl d_X_aLine_115 (ai_geti fl_X_244 h_o0 (by decide) rfl d_X_aLine_116 (ai_imul d_X_aLine_119 (aw_iconst (v := iv 2) rfl d_X_aLine_120 (ai_iadd d_X_aLine_121 (aw_aload_n rfl rfl d_X_aLine_122 (ai_geti fl_X_205 h_o0 (by decide) rfl d_X_aLine_123 ?_)))))))))
          refine ai_nameU hf (wr32_in _) (fun x15 h_x15 hf => ?_)
          refine ai_iast (rm_9_4 _ h_o0).2 rfl h_x15 (h_I13 o0 11) h_I13 hf d_X_aLine_126 (fun _ I14 h_I14 hf => ?_)
          refine aw_iload_n rfl rfl d_X_aLine_127 ?_
          obtain ⟨k16, ek16, hf⟩ := of_zj hf
          have hk16 : ∀  (I17 : IMem), RG I17 → k16 I17 = some r → Ai l b 73 y_X_aLine KM RM (Ps r) I17 156 [.ref o0, uu] [] := by
            intro I17 h_I17 hf
            subst ek16
            refine aw_aload_n rfl rfl d_X_aLine_156 (aw_getr (r := o0 + 4) fl_X_19 h_o0 (by decide) rfl (rm_9_4 _ h_o0).1 d_X_aLine_157 (aw_iconst (v := iv 4) rfl d_X_aLine_160 (aw_aload_n rfl rfl d_X_aLine_161 (ai_geti fl_X_244 h_o0 (by decide) rfl d_X_aLine_162 (ai_imul d_X_aLine_165 (aw_iconst (v := iv 3) rfl d_X_aLine_166 (ai_iadd d_X_aLine_167 (aw_aload_n rfl rfl d_X_aLine_168 (ai_geti fl_X_205 h_o0 (by decide) rfl d_X_aLine_169 ?_)))))))))
            refine ai_nameU hf (wr32_in _) (fun x19 h_x19 hf => ?_)
            refine ai_iast (rm_9_4 _ h_o0).2 rfl h_x19 (h_I17 o0 11) h_I17 hf d_X_aLine_172 (fun _ I18 h_I18 hf => ?_)
            refine aw_aload_n rfl rfl d_X_aLine_173 (aw_sipush (v := iv 159) cs_159 d_X_aLine_174 ?_)
            obtain ⟨y20, I21, c22, hf⟩ := of_zb hf
            refine ai_callV (as := [.int (iv 159)]) (d' := 9) (q := ("SinglesUpModel", zT9, 51)) mo_X_need lk_X_238 h_o0 rfl rfl rfl ⟨by decide, by decide⟩ rfl rfl (by decide) d_X_aLine_177 (t_X_need fu o0 159 I18 h_I18 h_o0 in_159 c22) (fun h_y20 h_I21 => ?_)
            obtain ⟨g, hf⟩ := of_zg hf
            exact ai_retn rfl (nar_z g) d_X_aLine_180 hf h_y20 h_I21
          obtain ⟨k23, ek23, hf⟩ := of_zj hf
          have hk23 : ∀  (I24 : IMem), RG I24 → k23 I24 = some r → Ai l b 73 y_X_aLine KM RM (Ps r) I24 139 [.ref o0, uu] [] := by
            intro I24 h_I24 hf
            subst ek23
            refine aw_aload_n rfl rfl d_X_aLine_139 (aw_iconst (v := iv 3) rfl d_X_aLine_140 ?_)
            obtain ⟨y25, I26, c27, hf⟩ := of_zb hf
            refine ai_callV (as := [.int (iv 3)]) (d' := 9) (q := ("SinglesUpModel", zT9, 51)) mo_X_need lk_X_238 h_o0 rfl rfl rfl ⟨by decide, by decide⟩ rfl rfl (by decide) d_X_aLine_141 (t_X_need fu o0 3 I24 h_I24 h_o0 in_3 c27) (fun h_y25 h_I26 => ?_)
            refine ai_if_eq h_y25 hf (tgt := 154) (by decide) d_X_aLine_144 (fun hf => ?_) (fun hf => ?_)
            · refine aw_iconst (v := iv 0) rfl d_X_aLine_154 ?_
              exact ai_retn rfl (nar_z (Or.inl rfl)) d_X_aLine_155 hf in_0 h_I26
            · refine aw_aload_n rfl rfl d_X_aLine_147 ?_
              obtain ⟨y28, I29, c30, hf⟩ := of_zb hf
              refine ai_callV (as := []) (d' := 72) (q := ("SinglesUpModel", zT9, 51)) mo_X_any lk_X_235 h_o0 rfl rfl rfl ⟨by decide, by decide⟩ rfl rfl (by decide) d_X_aLine_148 (t_X_any fu o0 I26 h_I26 h_o0 c30) (fun h_y28 h_I29 => ?_)
              refine ai_if_ne h_y28 hf (tgt := 156) (by decide) d_X_aLine_151 (fun hf => ?_) (fun hf => ?_)
              · exact hk16 I29 h_I29 hf
              · refine aw_iconst (v := iv 0) rfl d_X_aLine_154 ?_
                exact ai_retn rfl (nar_z (Or.inl rfl)) d_X_aLine_155 hf in_0 h_I29
          refine ai_if_ne h_x3 hf (tgt := 139) (by decide) d_X_aLine_128 (fun hf => ?_) (fun hf => ?_)
          · refine aw_weakB (lv2 := [.ref o0, uu]) (wk_s (wk_u wk_n)) ?_
            exact hk23 I14 h_I14 hf
          · refine aw_aload_n rfl rfl d_X_aLine_131 (ai_geti fl_X_178 h_o0 (by decide) rfl d_X_aLine_132 (aw_iconst (v := iv 3) rfl d_X_aLine_135 ?_))
            refine ai_icmp_ne (h_I14 o0 14) in_3 hf (tgt := 156) (by decide) d_X_aLine_136 (fun hf => ?_) (fun hf => ?_)
            · refine aw_weakB (lv2 := [.ref o0, uu]) (wk_s (wk_u wk_n)) ?_
              exact hk16 I14 h_I14 hf
            · refine aw_weakB (lv2 := [.ref o0, uu]) (wk_s (wk_u wk_n)) ?_
              exact hk23 I14 h_I14 hf
        refine ai_if_eq h_x3 hf (tgt := 101) (by decide) d_X_aLine_86 (fun hf => ?_) (fun hf => ?_)
        · refine aw_aload_n rfl rfl d_X_aLine_101 ?_
          obtain ⟨y31, I32, c33, hf⟩ := of_zb hf
          refine ai_callV (as := []) (d' := 11) (q := ("SinglesUpModel", zT9, 51)) mo_X_sumUp lk_X_241 h_o0 rfl rfl rfl ⟨by decide, by decide⟩ rfl rfl (by decide) d_X_aLine_102 (t_X_sumUp fu o0 I10 h_I10 h_o0 c33) (fun h_y31 h_I32 => ?_)
          refine ai_if_ne h_y31 hf (tgt := 110) (by decide) d_X_aLine_105 (fun hf => ?_) (fun hf => ?_)
          · exact hk12 I32 h_I32 hf
          · refine aw_iconst (v := iv 0) rfl d_X_aLine_108 ?_
            exact ai_retn rfl (nar_z (Or.inl rfl)) d_X_aLine_109 hf in_0 h_I32
        · refine aw_aload_n rfl rfl d_X_aLine_89 (aw_iconst (v := iv 0) rfl d_X_aLine_90 (aw_iconst (v := iv 5) rfl d_X_aLine_91 ?_))
          obtain ⟨y34, I35, c36, hf⟩ := of_zb hf
          refine ai_callV (as := [.int (iv 0), .int (iv 5)]) (d' := 9) (q := ("SinglesUpModel", zT9, 51)) mo_X_number lk_X_222 h_o0 rfl rfl rfl ⟨by decide, by decide⟩ rfl rfl (by decide) d_X_aLine_92 (t_X_number fu o0 0 5 I10 h_I10 h_o0 in_0 in_5 c36) (fun h_y34 h_I35 => ?_)
          refine ai_if_ne h_y34 hf (tgt := 110) (by decide) d_X_aLine_95 (fun hf => ?_) (fun hf => ?_)
          · exact hk12 I35 h_I35 hf
          · refine aw_goto (tgt := 108) (by decide) d_X_aLine_98 (aw_iconst (v := iv 0) rfl d_X_aLine_108 ?_)
            exact ai_retn rfl (nar_z (Or.inl rfl)) d_X_aLine_109 hf in_0 h_I35
      refine ai_icmp_ne (hI o0 9) in_4 hf (tgt := 42) (by decide) d_X_aLine_35 (fun hf => ?_) (fun hf => ?_)
      · refine aw_iconst (v := iv 0) rfl d_X_aLine_42 ?_
        exact hk1 0 I0 in_0 hI hf
      · refine aw_iconst (v := iv 1) rfl d_X_aLine_38 (aw_goto (tgt := 43) (by decide) d_X_aLine_39 ?_)
        exact hk1 1 I0 in_1 hI hf
    · refine aw_aload_n rfl rfl d_X_aLine_24 (aw_iconst (v := iv 3) rfl d_X_aLine_25 ?_)
      obtain ⟨y37, I38, c39, hf⟩ := of_zb hf
      refine ai_callV (as := [.int (iv 3)]) (d' := 1) (q := ("SinglesUpModel", zT9, 51)) mo_X_bad lk_X_199 h_o0 rfl rfl rfl ⟨by decide, by decide⟩ rfl rfl (by decide) d_X_aLine_26 (t_X_bad fu o0 3 I0 hI h_o0 in_3 c39) (fun h_y37 h_I38 => ?_)
      obtain ⟨g, hf⟩ := of_zg hf
      exact ai_retn rfl (nar_z g) d_X_aLine_29 hf h_y37 h_I38
  · refine aw_aload_n rfl rfl d_X_aLine_9 (aw_iconst (v := iv 1) rfl d_X_aLine_10 ?_)
    obtain ⟨y40, I41, c42, hf⟩ := of_zb hf
    refine ai_callV (as := [.int (iv 1)]) (d' := 1) (q := ("SinglesUpModel", zT9, 51)) mo_X_bad lk_X_199 h_o0 rfl rfl rfl ⟨by decide, by decide⟩ rfl rfl (by decide) d_X_aLine_11 (t_X_bad fu o0 1 I0 hI h_o0 in_1 c42) (fun h_y40 h_I41 => ?_)
    obtain ⟨g, hf⟩ := of_zg hf
    exact ai_retn rfl (nar_z g) d_X_aLine_14 hf h_y40 h_I41
set_option maxRecDepth 20000 in
theorem t_X_text_57 (fu : Nat) {r : Int × IMem} (k_94 : Int → IMem → Res) (o0 : Nat) (p1 : Int) (h_o0 : KM[o0]? = some (12, 51)) (h_p1 : inr p1) (hk_94 : ∀ (z2 : Int) (I9 : IMem), inr z2 → RG I9 → k_94 z2 I9 = some r → Ai l b 74 y_X_text KM RM (Ps r) I9 94 [.ref o0, .int (iv p1), .int (iv z2), uu] []) : ∀ (m : Nat) (w2 : Int) (I0 : IMem), inr w2 → RG I0 → f_X_text_57 fu k_94 o0 p1 m w2 I0 = some r → Ai l b 74 y_X_text KM RM (Ps r) I0 57 [.ref o0, .int (iv p1), .int (iv w2), uu] [] := by
  intro m
  induction m with
  | zero => intro w2 I0 h_w2 h_I0 hf; cases hf
  | succ m ih =>
    intro w2 I0 h_w2 h_I0 hf
    replace hf : fb_X_text_57 fu k_94 o0 p1 (f_X_text_57 fu k_94 o0 p1 m) w2 I0 = some r := hf
    unfold fb_X_text_57 at hf
    refine aw_iload_n rfl rfl d_X_text_57 ?_
    refine ai_if_eq h_w2 hf (tgt := 94) (by decide) d_X_text_58 (fun hf => ?_) (fun hf => ?_)
    · exact hk_94 w2 I0 h_w2 h_I0 hf
    · refine aw_aload_n rfl rfl d_X_text_61 (ai_geti fl_X_178 h_o0 (by decide) rfl d_X_text_62 ?_)
      refine ai_if_eq (h_I0 o0 14) hf (tgt := 94) (by decide) d_X_text_65 (fun hf => ?_) (fun hf => ?_)
      · exact hk_94 w2 I0 h_w2 h_I0 hf
      · refine aw_aload_n rfl rfl d_X_text_68 ?_
        obtain ⟨y12, I13, c14, hf⟩ := of_zb hf
        refine ai_callV (as := []) (d' := 73) (q := ("SinglesUpModel", zT9, 51)) mo_X_aLine lk_X_250 h_o0 rfl rfl rfl ⟨by decide, by decide⟩ rfl rfl (by decide) d_X_text_69 (t_X_aLine fu o0 I0 h_I0 h_o0 c14) (fun h_y12 h_I13 => ?_)
        refine aw_istore_n (lv2 := [.ref o0, .int (iv p1), .int (iv y12), uu]) rfl (Nat.le_of_ble_eq_true rfl) rfl d_X_text_72 (aw_aload_n rfl rfl d_X_text_73 (aw_dup rfl d_X_text_74 (ai_geti fl_X_244 h_o0 (by decide) rfl d_X_text_75 (aw_iload_n rfl rfl d_X_text_78 ?_))))
        obtain ⟨k15, ek15, hf⟩ := of_zj hf
        have hk15 : ∀ (x17 : Int) (I16 : IMem), inr x17 → RG I16 → k15 x17 I16 = some r → Ai l b 74 y_X_text KM RM (Ps r) I16 87 [.ref o0, .int (iv p1), .int (iv y12), uu] [.int (iv x17), .int (iv (I13 o0 10)), .ref o0] := by
          intro x17 I16 h_x17 h_I16 hf
          subst ek15
          refine ai_iadd d_X_text_87 ?_
          refine ai_puti hf h_I16 (wr32_in _) fl_X_244 h_o0 (by decide) rfl rfl rfl rfl d_X_text_88 (fun I18 h_I18 hf => ?_)
          refine aw_goto (tgt := 57) (by decide) d_X_text_91 ?_
          exact ih y12 I18 h_y12 h_I18 hf
        refine ai_if_eq h_y12 hf (tgt := 86) (by decide) d_X_text_79 (fun hf => ?_) (fun hf => ?_)
        · refine aw_iconst (v := iv 0) rfl d_X_text_86 ?_
          exact hk15 0 I13 in_0 h_I13 hf
        · refine aw_iconst (v := iv 1) rfl d_X_text_82 (aw_goto (tgt := 87) (by decide) d_X_text_83 ?_)
          exact hk15 1 I13 in_1 h_I13 hf
set_option maxRecDepth 20000 in
theorem t_X_text_145 (fu : Nat) {r : Int × IMem} (k_257 : IMem → Res) (o0 : Nat) (p1 : Int) (h_o0 : KM[o0]? = some (12, 51)) (h_p1 : inr p1) (hk_257 : ∀ (I9 : IMem), RG I9 → k_257 I9 = some r → Ai l b 74 y_X_text KM RM (Ps r) I9 257 [.ref o0, .int (iv p1), uu, uu] []) : ∀ (m : Nat) (w3 : Int) (I0 : IMem), inr w3 → RG I0 → f_X_text_145 fu k_257 o0 p1 m w3 I0 = some r → Ai l b 74 y_X_text KM RM (Ps r) I0 145 [.ref o0, .int (iv p1), uu, .int (iv w3)] [] := by
  intro m
  induction m with
  | zero => intro w3 I0 h_w3 h_I0 hf; cases hf
  | succ m ih =>
    intro w3 I0 h_w3 h_I0 hf
    replace hf : fb_X_text_145 fu k_257 o0 p1 (f_X_text_145 fu k_257 o0 p1 m) w3 I0 = some r := hf
    unfold fb_X_text_145 at hf
    refine aw_iload_n rfl rfl d_X_text_145 (aw_aload_n rfl rfl d_X_text_146 (ai_geti fl_X_244 h_o0 (by decide) rfl d_X_text_147 ?_))
    refine ai_icmp_ge h_w3 (h_I0 o0 10) hf (tgt := 257) (by decide) d_X_text_150 (fun hf => ?_) (fun hf => ?_)
    · refine aw_weakB (lv2 := [.ref o0, .int (iv p1), uu, uu]) (wk_s (wk_s (wk_u (wk_u wk_n)))) ?_
      exact hk_257 I0 h_I0 hf
    · refine aw_aload_n rfl rfl d_X_text_153 (aw_getr (r := o0 + 1) fl_X_7 h_o0 (by decide) rfl (rm_9_0 _ h_o0).1 d_X_text_154 (aw_sipush (v := iv 1590) cs_1590 d_X_text_157 (aw_bipush (v := iv 16) cb_16 d_X_text_160 (aw_iload_n rfl rfl d_X_text_162 (ai_imul d_X_text_163 (ai_iadd d_X_text_164 (aw_iload_n rfl rfl d_X_text_165 (ai_iadd d_X_text_166 (aw_aload_n rfl rfl d_X_text_167 (aw_getr (r := o0 + 4) fl_X_19 h_o0 (by decide) rfl (rm_9_4 _ h_o0).1 d_X_text_168 (aw_iconst (v := iv 4) rfl d_X_text_171 (aw_iload_n rfl rfl d_X_text_172 (ai_imul d_X_text_173 ?_)))))))))))))
      refine ai_name hf (wr32_in _) (fun x29 h_x29 hf => ?_)
      refine ai_iald (rm_9_4 _ h_o0).2 rfl h_x29 hf d_X_text_174 (fun _ hf => ?_)
      refine ai_nameU hf (wr32_in _) (fun x31 h_x31 hf => ?_)
      refine ai_iast (rm_9_0 _ h_o0).2 rfl h_x31 (h_I0 (o0 + 4) x29.toNat) h_I0 hf d_X_text_175 (fun _ I30 h_I30 hf => ?_)
      refine aw_aload_n rfl rfl d_X_text_176 (aw_getr (r := o0 + 1) fl_X_7 h_o0 (by decide) rfl (rm_9_0 _ h_o0).1 d_X_text_177 (aw_sipush (v := iv 1670) cs_1670 d_X_text_180 (aw_bipush (v := iv 16) cb_16 d_X_text_183 (aw_iload_n rfl rfl d_X_text_185 (ai_imul d_X_text_186 (ai_iadd d_X_text_187 (aw_iload_n rfl rfl d_X_text_188 (ai_iadd d_X_text_189 (aw_aload_n rfl rfl d_X_text_190 (aw_getr (r := o0 + 4) fl_X_19 h_o0 (by decide) rfl (rm_9_4 _ h_o0).1 d_X_text_191 (aw_iconst (v := iv 4) rfl d_X_text_194 (aw_iload_n rfl rfl d_X_text_195 (ai_imul d_X_text_196 (aw_iconst (v := iv 1) rfl d_X_text_197 (ai_iadd d_X_text_198 ?_)))))))))))))))
      refine ai_name hf (wr32_in _) (fun x32 h_x32 hf => ?_)
      refine ai_iald (rm_9_4 _ h_o0).2 rfl h_x32 hf d_X_text_199 (fun _ hf => ?_)
      refine ai_nameU hf (wr32_in _) (fun x34 h_x34 hf => ?_)
      refine ai_iast (rm_9_0 _ h_o0).2 rfl h_x34 (h_I30 (o0 + 4) x32.toNat) h_I30 hf d_X_text_200 (fun _ I33 h_I33 hf => ?_)
      refine aw_aload_n rfl rfl d_X_text_201 (aw_getr (r := o0 + 1) fl_X_7 h_o0 (by decide) rfl (rm_9_0 _ h_o0).1 d_X_text_202 (aw_sipush (v := iv 1750) cs_1750 d_X_text_205 (aw_bipush (v := iv 16) cb_16 d_X_text_208 (aw_iload_n rfl rfl d_X_text_210 (ai_imul d_X_text_211 (ai_iadd d_X_text_212 (aw_iload_n rfl rfl d_X_text_213 (ai_iadd d_X_text_214 (aw_aload_n rfl rfl d_X_text_215 (aw_getr (r := o0 + 4) fl_X_19 h_o0 (by decide) rfl (rm_9_4 _ h_o0).1 d_X_text_216 (aw_iconst (v := iv 4) rfl d_X_text_219 (aw_iload_n rfl rfl d_X_text_220 (ai_imul d_X_text_221 (aw_iconst (v := iv 2) rfl d_X_text_222 (ai_iadd d_X_text_223 ?_)))))))))))))))
      refine ai_name hf (wr32_in _) (fun x35 h_x35 hf => ?_)
      refine ai_iald (rm_9_4 _ h_o0).2 rfl h_x35 hf d_X_text_224 (fun _ hf => ?_)
      refine ai_nameU hf (wr32_in _) (fun x37 h_x37 hf => ?_)
      refine ai_iast (rm_9_0 _ h_o0).2 rfl h_x37 (h_I33 (o0 + 4) x35.toNat) h_I33 hf d_X_text_225 (fun _ I36 h_I36 hf => ?_)
      refine aw_aload_n rfl rfl d_X_text_226 (aw_getr (r := o0 + 1) fl_X_7 h_o0 (by decide) rfl (rm_9_0 _ h_o0).1 d_X_text_227 (aw_sipush (v := iv 1830) cs_1830 d_X_text_230 (aw_bipush (v := iv 16) cb_16 d_X_text_233 (aw_iload_n rfl rfl d_X_text_235 (ai_imul d_X_text_236 (ai_iadd d_X_text_237 (aw_iload_n rfl rfl d_X_text_238 (ai_iadd d_X_text_239 (aw_aload_n rfl rfl d_X_text_240 (aw_getr (r := o0 + 4) fl_X_19 h_o0 (by decide) rfl (rm_9_4 _ h_o0).1 d_X_text_241 (aw_iconst (v := iv 4) rfl d_X_text_244 (aw_iload_n rfl rfl d_X_text_245 (ai_imul d_X_text_246 (aw_iconst (v := iv 3) rfl d_X_text_247 (ai_iadd d_X_text_248 ?_)))))))))))))))
      refine ai_name hf (wr32_in _) (fun x38 h_x38 hf => ?_)
      refine ai_iald (rm_9_4 _ h_o0).2 rfl h_x38 hf d_X_text_249 (fun _ hf => ?_)
      refine ai_nameU hf (wr32_in _) (fun x40 h_x40 hf => ?_)
      refine ai_iast (rm_9_0 _ h_o0).2 rfl h_x40 (h_I36 (o0 + 4) x38.toNat) h_I36 hf d_X_text_250 (fun _ I39 h_I39 hf => ?_)
      refine ai_iinc (n := 1) (lv2 := fun x41 => [.ref o0, .int (iv p1), uu, .int (iv x41)]) hf rfl (Nat.le_of_ble_eq_true rfl) (fun _ => rfl) d_X_text_251 (fun x41 h_x41 hf => ?_)
      refine aw_goto (tgt := 145) (by decide) d_X_text_254 ?_
      exact ih x41 I39 h_x41 h_I39 hf
set_option maxRecDepth 20000 in
theorem t_X_text_259 (fu : Nat) {r : Int × IMem} (o0 : Nat) (p1 : Int) (h_o0 : KM[o0]? = some (12, 51)) (h_p1 : inr p1) : ∀ (m : Nat) (w3 : Int) (I0 : IMem), inr w3 → RG I0 → f_X_text_259 fu o0 p1 m w3 I0 = some r → Ai l b 74 y_X_text KM RM (Ps r) I0 259 [.ref o0, .int (iv p1), uu, .int (iv w3)] [] := by
  intro m
  induction m with
  | zero => intro w3 I0 h_w3 h_I0 hf; cases hf
  | succ m ih =>
    intro w3 I0 h_w3 h_I0 hf
    replace hf : fb_X_text_259 fu o0 p1 (f_X_text_259 fu o0 p1 m) w3 I0 = some r := hf
    unfold fb_X_text_259 at hf
    refine aw_iload_n rfl rfl d_X_text_259 (aw_iconst (v := iv 2) rfl d_X_text_260 (aw_aload_n rfl rfl d_X_text_261 (ai_geti fl_X_205 h_o0 (by decide) rfl d_X_text_262 (ai_imul d_X_text_265 ?_))))
    refine ai_icmp_ge h_w3 (wr32_in _) hf (tgt := 297) (by decide) d_X_text_266 (fun hf => ?_) (fun hf => ?_)
    · refine aw_aload_n rfl rfl d_X_text_297 (ai_geti fl_X_244 h_o0 (by decide) rfl d_X_text_298 ?_)
      exact ai_reti rfl d_X_text_301 hf (h_I0 o0 10) h_I0
    · refine aw_aload_n rfl rfl d_X_text_269 (aw_getr (r := o0 + 1) fl_X_7 h_o0 (by decide) rfl (rm_9_0 _ h_o0).1 d_X_text_270 (aw_sipush (v := iv 1910) cs_1910 d_X_text_273 (aw_sipush (v := iv 820) cs_820 d_X_text_276 (aw_iload_n rfl rfl d_X_text_279 (ai_imul d_X_text_280 (ai_iadd d_X_text_281 (aw_iload_n rfl rfl d_X_text_282 (ai_iadd d_X_text_283 (aw_aload_n rfl rfl d_X_text_284 (aw_getr (r := o0 + 5) fl_X_22 h_o0 (by decide) rfl (rm_9_5 _ h_o0).1 d_X_text_285 (aw_iload_n rfl rfl d_X_text_288 ?_)))))))))))
      refine ai_iald (rm_9_5 _ h_o0).2 rfl h_w3 hf d_X_text_289 (fun _ hf => ?_)
      refine ai_nameU hf (wr32_in _) (fun x44 h_x44 hf => ?_)
      refine ai_iast (rm_9_0 _ h_o0).2 rfl h_x44 (h_I0 (o0 + 5) w3.toNat) h_I0 hf d_X_text_290 (fun _ I43 h_I43 hf => ?_)
      refine ai_iinc (n := 1) (lv2 := fun x45 => [.ref o0, .int (iv p1), uu, .int (iv x45)]) hf rfl (Nat.le_of_ble_eq_true rfl) (fun _ => rfl) d_X_text_291 (fun x45 h_x45 hf => ?_)
      refine aw_goto (tgt := 259) (by decide) d_X_text_294 ?_
      exact ih x45 I43 h_x45 h_I43 hf
set_option maxRecDepth 20000 in
theorem t_X_text (fu : Nat) (o0 : Nat) (a1 : Int) (I0 : IMem) (hI : RG I0) (h_o0 : KM[o0]? = some (12, 51)) (h_a1 : inr a1) {r : Int × IMem} (hf : f_X_text fu o0 a1 I0 = some r) : Ss l b 74 y_X_text KM RM [.ref o0, .int (iv a1)] (ivm I0) (Ps r) := by
  unfold f_X_text at hf
  refine Ss.of (show Ai l b 74 y_X_text KM RM (Ps r) I0 0 [.ref o0, .int (iv a1), uu, uu] [] from ?_)
  refine aw_aload_n rfl rfl d_X_text_0 (aw_iconst (v := iv 0) rfl d_X_text_1 ?_)
  refine ai_puti hf hI in_0 fl_X_193 h_o0 (by decide) rfl rfl rfl rfl d_X_text_2 (fun I1 h_I1 hf => ?_)
  refine aw_iload_n rfl rfl d_X_text_5 (aw_iconst (v := iv 0) rfl d_X_text_6 (aw_iconst (v := iv 4) rfl d_X_text_7 ?_))
  obtain ⟨y2, I3, c4, hf⟩ := of_zb hf
  refine ai_callS (as := [.int (iv a1), .int (iv 0), .int (iv 4)]) (d' := 1) mo_X_isIn lk_X_98 rfl ⟨by decide, by decide⟩ rfl rfl (by decide) d_X_text_8 (t_X_isIn fu a1 0 4 I1 h_I1 h_a1 in_0 in_4 c4) (fun h_y2 h_I3 => ?_)
  refine ai_if_ne h_y2 hf (tgt := 31) (by decide) d_X_text_11 (fun hf => ?_) (fun hf => ?_)
  · refine aw_aload_n rfl rfl d_X_text_31 (aw_iload_n rfl rfl d_X_text_32 ?_)
    refine ai_puti hf h_I3 h_a1 fl_X_166 h_o0 (by decide) rfl rfl rfl rfl d_X_text_33 (fun I5 h_I5 hf => ?_)
    refine aw_aload_n rfl rfl d_X_text_36 (aw_iconst (v := iv 0) rfl d_X_text_37 ?_)
    refine ai_puti hf h_I5 in_0 fl_X_115 h_o0 (by decide) rfl rfl rfl rfl d_X_text_38 (fun I6 h_I6 hf => ?_)
    refine aw_aload_n rfl rfl d_X_text_41 (aw_iconst (v := iv 0) rfl d_X_text_42 ?_)
    refine ai_puti hf h_I6 in_0 fl_X_244 h_o0 (by decide) rfl rfl rfl rfl d_X_text_43 (fun I7 h_I7 hf => ?_)
    refine aw_aload_n rfl rfl d_X_text_46 (aw_iconst (v := iv 0) rfl d_X_text_47 ?_)
    refine ai_puti hf h_I7 in_0 fl_X_205 h_o0 (by decide) rfl rfl rfl rfl d_X_text_48 (fun I8 h_I8 hf => ?_)
    refine aw_aload_n rfl rfl d_X_text_51 ?_
    obtain ⟨y9, I10, c11, hf⟩ := of_zb hf
    refine ai_callVv (as := []) (d' := 8) (q := ("SinglesUpModel", zT9, 51)) mo_X_next0 lk_X_202 h_o0 rfl rfl rfl ⟨by decide, by decide⟩ rfl rfl (by decide) d_X_text_52 (t_X_next0 fu o0 I8 h_I8 h_o0 c11) (fun h_I10 => ?_)
    refine aw_iconst (v := iv 1) rfl d_X_text_55 (aw_istore_n (lv2 := [.ref o0, .int (iv a1), .int (iv 1), uu]) rfl (Nat.le_of_ble_eq_true rfl) rfl d_X_text_56 ?_)
    refine t_X_text_57 fu _ o0 a1 h_o0 h_a1 ?_ fu 1 I10 in_1 h_I10 hf
    · intro x20 I19 h_x20 h_I19 hf
      refine aw_aload_n rfl rfl d_X_text_94 (aw_iconst (v := iv 0) rfl d_X_text_95 ?_)
      refine ai_puti hf h_I19 in_0 fl_X_112 h_o0 (by decide) rfl rfl rfl rfl d_X_text_96 (fun I21 h_I21 hf => ?_)
      refine aw_aload_n rfl rfl d_X_text_99 (aw_aload_n rfl rfl d_X_text_100 (ai_geti fl_X_193 h_o0 (by decide) rfl d_X_text_101 ?_))
      refine ai_puti hf h_I21 (h_I21 o0 17) fl_X_247 h_o0 (by decide) rfl rfl rfl rfl d_X_text_104 (fun I22 h_I22 hf => ?_)
      refine aw_aload_n rfl rfl d_X_text_107 (aw_iload_n rfl rfl d_X_text_108 ?_)
      obtain ⟨k23, ek23, hf⟩ := of_zj hf
      have hk23 : ∀ (x25 : Int) (I24 : IMem), inr x25 → RG I24 → k23 x25 I24 = some r → Ai l b 74 y_X_text KM RM (Ps r) I24 120 [.ref o0, .int (iv a1), .int (iv x20), uu] [.int (iv x25), .ref o0] := by
        intro x25 I24 h_x25 h_I24 hf
        subst ek23
        refine ai_puti hf h_I24 h_x25 fl_X_34 h_o0 (by decide) rfl rfl rfl rfl d_X_text_120 (fun I26 h_I26 hf => ?_)
        refine aw_iload_n rfl rfl d_X_text_123 ?_
        refine ai_if_ne h_x20 hf (tgt := 129) (by decide) d_X_text_124 (fun hf => ?_) (fun hf => ?_)
        · refine aw_aload_n rfl rfl d_X_text_129 (aw_getr (r := o0 + 1) fl_X_7 h_o0 (by decide) rfl (rm_9_0 _ h_o0).1 d_X_text_130 (aw_sipush (v := iv 1580) cs_1580 d_X_text_133 (aw_iload_n rfl rfl d_X_text_136 (ai_iadd d_X_text_137 (aw_aload_n rfl rfl d_X_text_138 (ai_geti fl_X_244 h_o0 (by decide) rfl d_X_text_139 ?_))))))
          refine ai_nameU hf (wr32_in _) (fun x28 h_x28 hf => ?_)
          refine ai_iast (rm_9_0 _ h_o0).2 rfl h_x28 (h_I26 o0 10) h_I26 hf d_X_text_142 (fun _ I27 h_I27 hf => ?_)
          refine aw_iconst (v := iv 0) rfl d_X_text_143 (aw_istore_n (lv2 := [.ref o0, .int (iv a1), .int (iv x20), .int (iv 0)]) rfl (Nat.le_of_ble_eq_true rfl) rfl d_X_text_144 ?_)
          refine aw_weakB (lv2 := [.ref o0, .int (iv a1), uu, .int (iv 0)]) (wk_s (wk_s (wk_u (wk_s wk_n)))) ?_
          refine t_X_text_145 fu _ o0 a1 h_o0 h_a1 ?_ fu 0 I27 in_0 h_I27 hf
          · intro I42 h_I42 hf
            refine aw_iconst (v := iv 0) rfl d_X_text_257 (aw_istore_n (lv2 := [.ref o0, .int (iv a1), uu, .int (iv 0)]) rfl (Nat.le_of_ble_eq_true rfl) rfl d_X_text_258 ?_)
            refine t_X_text_259 fu o0 a1 h_o0 h_a1 fu 0 I42 in_0 h_I42 hf
        · refine aw_iconst (v := iv (-1)) rfl d_X_text_127 ?_
          exact ai_reti rfl d_X_text_128 hf in_m1 h_I26
      refine ai_if_eq h_x20 hf (tgt := 116) (by decide) d_X_text_109 (fun hf => ?_) (fun hf => ?_)
      · refine aw_aload_n rfl rfl d_X_text_116 (ai_geti fl_X_196 h_o0 (by decide) rfl d_X_text_117 ?_)
        exact hk23 (I22 o0 18) I22 (h_I22 o0 18) h_I22 hf
      · refine aw_iconst (v := iv (-1)) rfl d_X_text_112 (aw_goto (tgt := 120) (by decide) d_X_text_113 ?_)
        exact hk23 ((-1)) I22 in_m1 h_I22 hf
  · refine aw_aload_n rfl rfl d_X_text_14 (aw_iconst (v := iv 0) rfl d_X_text_15 ?_)
    refine ai_puti hf h_I3 in_0 fl_X_112 h_o0 (by decide) rfl rfl rfl rfl d_X_text_16 (fun I46 h_I46 hf => ?_)
    refine aw_aload_n rfl rfl d_X_text_19 (aw_iconst (v := iv 0) rfl d_X_text_20 ?_)
    refine ai_puti hf h_I46 in_0 fl_X_247 h_o0 (by decide) rfl rfl rfl rfl d_X_text_21 (fun I47 h_I47 hf => ?_)
    refine aw_aload_n rfl rfl d_X_text_24 (aw_iconst (v := iv (-1)) rfl d_X_text_25 ?_)
    refine ai_puti hf h_I47 in_m1 fl_X_34 h_o0 (by decide) rfl rfl rfl rfl d_X_text_26 (fun I48 h_I48 hf => ?_)
    refine aw_iconst (v := iv (-1)) rfl d_X_text_29 ?_
    exact ai_reti rfl d_X_text_30 hf in_m1 h_I48
set_option maxRecDepth 20000 in
theorem t_X_fault (fu : Nat) (o0 : Nat) (a1 : Int) (I0 : IMem) (hI : RG I0) (h_o0 : KM[o0]? = some (12, 51)) (h_a1 : inr a1) {r : Int × IMem} (hf : f_X_fault fu o0 a1 I0 = some r) : Ss l b 1 y_X_fault KM RM [.ref o0, .int (iv a1)] (ivm I0) (Ps r) := by
  unfold f_X_fault at hf
  refine Ss.of (show Ai l b 1 y_X_fault KM RM (Ps r) I0 0 [.ref o0, .int (iv a1)] [] from ?_)
  refine aw_iload_n rfl rfl d_X_fault_0 ?_
  refine ai_if_ne h_a1 hf (tgt := 11) (by decide) d_X_fault_1 (fun hf => ?_) (fun hf => ?_)
  · refine aw_iload_n rfl rfl d_X_fault_11 (aw_iconst (v := iv 1) rfl d_X_fault_12 ?_)
    refine ai_icmp_ne h_a1 in_1 hf (tgt := 23) (by decide) d_X_fault_13 (fun hf => ?_) (fun hf => ?_)
    · refine aw_iconst (v := iv (-1)) rfl d_X_fault_23 ?_
      exact ai_reti rfl d_X_fault_24 hf in_m1 hI
    · refine aw_aload_n rfl rfl d_X_fault_16 (ai_geti fl_X_34 h_o0 (by decide) rfl d_X_fault_17 (aw_goto (tgt := 24) (by decide) d_X_fault_20 ?_))
      exact ai_reti rfl d_X_fault_24 hf (hI o0 21) hI
  · refine aw_aload_n rfl rfl d_X_fault_4 (ai_geti fl_X_247 h_o0 (by decide) rfl d_X_fault_5 (aw_goto (tgt := 24) (by decide) d_X_fault_8 ?_))
    exact ai_reti rfl d_X_fault_24 hf (hI o0 19) hI
set_option maxRecDepth 20000 in
theorem t_X_both (fu : Nat) (a0 : Int) (a1 : Int) (a2 : Int) (I0 : IMem) (hI : RG I0) (h_a0 : inr a0) (h_a1 : inr a1) (h_a2 : inr a2) {r : Int × IMem} (hf : f_X_both fu a0 a1 a2 I0 = some r) : Ss l b 1 y_X_both KM RM [.int (iv a0), .int (iv a1), .int (iv a2)] (ivm I0) (Ps r) := by
  unfold f_X_both at hf
  refine Ss.of (show Ai l b 1 y_X_both KM RM (Ps r) I0 0 [.int (iv a0), .int (iv a1), .int (iv a2)] [] from ?_)
  refine aw_iload_n rfl rfl d_X_both_0 ?_
  rcases of_ite hf with ⟨q1, hf⟩ | ⟨q1, hf⟩
  · refine ai_tabIn 0 h_a0 q1 (by decide) rfl (tgt := 52) (by decide) d_X_both_1 ?_
    refine aw_iload_n rfl rfl d_X_both_52 (aw_iload_n rfl rfl d_X_both_53 (ai_iadd d_X_both_54 ?_))
    exact ai_reti rfl d_X_both_55 hf (wr32_in _) hI
  rcases of_ite hf with ⟨q2, hf⟩ | ⟨q2, hf⟩
  · refine ai_tabIn 1 h_a0 q2 (by decide) rfl (tgt := 56) (by decide) d_X_both_1 ?_
    refine aw_iload_n rfl rfl d_X_both_56 (aw_iload_n rfl rfl d_X_both_57 (ai_isub d_X_both_58 ?_))
    exact ai_reti rfl d_X_both_59 hf (wr32_in _) hI
  rcases of_ite hf with ⟨q3, hf⟩ | ⟨q3, hf⟩
  · refine ai_tabIn 2 h_a0 q3 (by decide) rfl (tgt := 60) (by decide) d_X_both_1 ?_
    refine aw_iload_n rfl rfl d_X_both_60 (aw_iload_n rfl rfl d_X_both_61 (ai_imul d_X_both_62 ?_))
    exact ai_reti rfl d_X_both_63 hf (wr32_in _) hI
  rcases of_ite hf with ⟨q4, hf⟩ | ⟨q4, hf⟩
  · refine ai_tabIn 4 h_a0 q4 (by decide) rfl (tgt := 64) (by decide) d_X_both_1 ?_
    refine aw_iload_n rfl rfl d_X_both_64 (aw_iload_n rfl rfl d_X_both_65 ?_)
    refine ai_icmp_ge h_a1 h_a2 hf (tgt := 73) (by decide) d_X_both_66 (fun hf => ?_) (fun hf => ?_)
    · refine aw_iconst (v := iv 0) rfl d_X_both_73 ?_
      exact ai_reti rfl d_X_both_74 hf in_0 hI
    · refine aw_iconst (v := iv 1) rfl d_X_both_69 (aw_goto (tgt := 74) (by decide) d_X_both_70 ?_)
      exact ai_reti rfl d_X_both_74 hf in_1 hI
  rcases of_ite hf with ⟨q5, hf⟩ | ⟨q5, hf⟩
  · refine ai_tabIn 5 h_a0 q5 (by decide) rfl (tgt := 75) (by decide) d_X_both_1 ?_
    refine aw_iload_n rfl rfl d_X_both_75 (aw_iload_n rfl rfl d_X_both_76 ?_)
    refine ai_icmp_ne h_a1 h_a2 hf (tgt := 84) (by decide) d_X_both_77 (fun hf => ?_) (fun hf => ?_)
    · refine aw_iconst (v := iv 0) rfl d_X_both_84 ?_
      exact ai_reti rfl d_X_both_85 hf in_0 hI
    · refine aw_iconst (v := iv 1) rfl d_X_both_80 (aw_goto (tgt := 85) (by decide) d_X_both_81 ?_)
      exact ai_reti rfl d_X_both_85 hf in_1 hI
  rcases of_ite hf with ⟨q6, hf⟩ | ⟨q6, hf⟩
  · refine ai_tabIn 6 h_a0 q6 (by decide) rfl (tgt := 86) (by decide) d_X_both_1 ?_
    refine aw_iload_n rfl rfl d_X_both_86 (aw_iload_n rfl rfl d_X_both_87 ?_)
    refine ai_icmp_le h_a1 h_a2 hf (tgt := 95) (by decide) d_X_both_88 (fun hf => ?_) (fun hf => ?_)
    · refine aw_iconst (v := iv 0) rfl d_X_both_95 ?_
      exact ai_reti rfl d_X_both_96 hf in_0 hI
    · refine aw_iconst (v := iv 1) rfl d_X_both_91 (aw_goto (tgt := 96) (by decide) d_X_both_92 ?_)
      exact ai_reti rfl d_X_both_96 hf in_1 hI
  rcases of_ite hf with ⟨q7, hf⟩ | ⟨q7, hf⟩
  · refine ai_tabIn 8 h_a0 q7 (by decide) rfl (tgt := 97) (by decide) d_X_both_1 ?_
    refine aw_iload_n rfl rfl d_X_both_97 (aw_iload_n rfl rfl d_X_both_98 (ai_iand d_X_both_99 ?_))
    exact ai_reti rfl d_X_both_100 hf (wand_in _ _) hI
  by_cases qr : a0 < 12 ∨ 20 < a0
  · refine ai_tabOut h_a0 qr (tgt := 101) (by decide) d_X_both_1 ?_
    refine aw_iload_n rfl rfl d_X_both_101 (aw_iload_n rfl rfl d_X_both_102 (ai_ior d_X_both_103 ?_))
    exact ai_reti rfl d_X_both_104 hf (wor_in _ _) hI
  by_cases qg3 : a0 = 15
  · refine ai_tabIn 3 h_a0 qg3 (by decide) rfl (tgt := 101) (by decide) d_X_both_1 ?_
    refine aw_iload_n rfl rfl d_X_both_101 (aw_iload_n rfl rfl d_X_both_102 (ai_ior d_X_both_103 ?_))
    exact ai_reti rfl d_X_both_104 hf (wor_in _ _) hI
  by_cases qg7 : a0 = 19
  · refine ai_tabIn 7 h_a0 qg7 (by decide) rfl (tgt := 101) (by decide) d_X_both_1 ?_
    refine aw_iload_n rfl rfl d_X_both_101 (aw_iload_n rfl rfl d_X_both_102 (ai_ior d_X_both_103 ?_))
    exact ai_reti rfl d_X_both_104 hf (wor_in _ _) hI
  exact absurd qr (by omega)
set_option maxRecDepth 20000 in
theorem t_X_comesTo_6 (fu : Nat) {r : Int × IMem} (o0 : Nat) (p1 : Int) (p3 : Int) (h_o0 : KM[o0]? = some (12, 51)) (h_p1 : inr p1) (h_p3 : inr p3) : ∀ (m : Nat) (w4 : Int) (w5 : Int) (I0 : IMem), inr w4 → inr w5 → RG I0 → f_X_comesTo_6 fu o0 p1 p3 m w4 w5 I0 = some r → Ai l b 2 y_X_comesTo KM RM (Ps r) I0 6 [.ref o0, .int (iv p1), uu, .int (iv p3), .int (iv w4), .int (iv w5), uu, uu] [] := by
  intro m
  induction m with
  | zero => intro w4 w5 I0 h_w4 h_w5 h_I0 hf; cases hf
  | succ m ih =>
    intro w4 w5 I0 h_w4 h_w5 h_I0 hf
    replace hf : fb_X_comesTo_6 fu o0 p1 p3 (f_X_comesTo_6 fu o0 p1 p3 m) w4 w5 I0 = some r := hf
    unfold fb_X_comesTo_6 at hf
    refine aw_iload rfl d_X_comesTo_6 (aw_iload_n rfl rfl d_X_comesTo_8 ?_)
    refine ai_icmp_ge h_w5 h_p3 hf (tgt := 186) (by decide) d_X_comesTo_9 (fun hf => ?_) (fun hf => ?_)
    · refine aw_aload_n rfl rfl d_X_comesTo_186 (aw_getr (r := o0 + 7) fl_X_28 h_o0 (by decide) rfl (rm_9_7 _ h_o0).1 d_X_comesTo_187 (aw_iconst (v := iv 0) rfl d_X_comesTo_190 (ai_ialdc (j := 0) (rm_9_7 _ h_o0).2 (by decide) (by decide) d_X_comesTo_191 ?_)))
      exact ai_reti rfl d_X_comesTo_192 hf (h_I0 (o0 + 7) 0) h_I0
    · refine aw_aload_n rfl rfl d_X_comesTo_12 (aw_getr (r := o0 + 1) fl_X_7 h_o0 (by decide) rfl (rm_9_0 _ h_o0).1 d_X_comesTo_13 (aw_sipush (v := iv 1910) cs_1910 d_X_comesTo_16 (aw_sipush (v := iv 820) cs_820 d_X_comesTo_19 (aw_iload_n rfl rfl d_X_comesTo_22 (ai_imul d_X_comesTo_23 (ai_iadd d_X_comesTo_24 (aw_iconst (v := iv 2) rfl d_X_comesTo_25 (aw_iload rfl d_X_comesTo_26 (ai_imul d_X_comesTo_28 (ai_iadd d_X_comesTo_29 ?_))))))))))
      refine ai_name hf (wr32_in _) (fun x1 h_x1 hf => ?_)
      refine ai_iald (rm_9_0 _ h_o0).2 rfl h_x1 hf d_X_comesTo_30 (fun _ hf => ?_)
      refine ai_name hf (h_I0 (o0 + 1) x1.toNat) (fun x2 h_x2 hf => ?_)
      refine aw_istore (lv2 := [.ref o0, .int (iv p1), uu, .int (iv p3), .int (iv w4), .int (iv w5), .int (iv x2), uu]) (Nat.le_of_ble_eq_true rfl) rfl d_X_comesTo_31 ?_
      refine aw_aload_n rfl rfl d_X_comesTo_33 (aw_getr (r := o0 + 1) fl_X_7 h_o0 (by decide) rfl (rm_9_0 _ h_o0).1 d_X_comesTo_34 (aw_sipush (v := iv 1910) cs_1910 d_X_comesTo_37 (aw_sipush (v := iv 820) cs_820 d_X_comesTo_40 (aw_iload_n rfl rfl d_X_comesTo_43 (ai_imul d_X_comesTo_44 (ai_iadd d_X_comesTo_45 (aw_iconst (v := iv 2) rfl d_X_comesTo_46 (aw_iload rfl d_X_comesTo_47 (ai_imul d_X_comesTo_49 (ai_iadd d_X_comesTo_50 (aw_iconst (v := iv 1) rfl d_X_comesTo_51 (ai_iadd d_X_comesTo_52 ?_))))))))))))
      refine ai_name hf (wr32_in _) (fun x3 h_x3 hf => ?_)
      refine ai_iald (rm_9_0 _ h_o0).2 rfl h_x3 hf d_X_comesTo_53 (fun _ hf => ?_)
      refine ai_name hf (h_I0 (o0 + 1) x3.toNat) (fun x4 h_x4 hf => ?_)
      refine aw_istore (lv2 := [.ref o0, .int (iv p1), uu, .int (iv p3), .int (iv w4), .int (iv w5), .int (iv x2), .int (iv x4)]) (Nat.le_of_ble_eq_true rfl) rfl d_X_comesTo_54 ?_
      refine aw_iload rfl d_X_comesTo_56 (aw_bipush (v := iv 12) cb_12 d_X_comesTo_58 ?_)
      obtain ⟨k5, ek5, hf⟩ := of_zj hf
      have hk5 : ∀ (x7 : Int) (I6 : IMem), inr x7 → RG I6 → k5 x7 I6 = some r → Ai l b 2 y_X_comesTo KM RM (Ps r) I6 180 [.ref o0, .int (iv p1), uu, .int (iv p3), .int (iv x7), .int (iv w5), uu, uu] [] := by
        intro x7 I6 h_x7 h_I6 hf
        subst ek5
        refine ai_iinc (n := 1) (lv2 := fun x8 => [.ref o0, .int (iv p1), uu, .int (iv p3), .int (iv x7), .int (iv x8), uu, uu]) hf rfl (Nat.le_of_ble_eq_true rfl) (fun _ => rfl) d_X_comesTo_180 (fun x8 h_x8 hf => ?_)
        refine aw_goto (tgt := 6) (by decide) d_X_comesTo_183 ?_
        exact ih x7 x8 I6 h_x7 h_x8 h_I6 hf
      refine ai_icmp_ge h_x2 in_12 hf (tgt := 93) (by decide) d_X_comesTo_60 (fun hf => ?_) (fun hf => ?_)
      · refine aw_iload rfl d_X_comesTo_93 (aw_bipush (v := iv 15) cb_15 d_X_comesTo_95 ?_)
        refine ai_icmp_ne h_x2 in_15 hf (tgt := 117) (by decide) d_X_comesTo_97 (fun hf => ?_) (fun hf => ?_)
        · refine aw_iload rfl d_X_comesTo_117 (aw_bipush (v := iv 19) cb_19 d_X_comesTo_119 ?_)
          refine ai_icmp_ne h_x2 in_19 hf (tgt := 147) (by decide) d_X_comesTo_121 (fun hf => ?_) (fun hf => ?_)
          · refine ai_iinc (n := (-1)) (lv2 := fun x9 => [.ref o0, .int (iv p1), uu, .int (iv p3), .int (iv x9), .int (iv w5), .int (iv x2), .int (iv x4)]) hf rfl (Nat.le_of_ble_eq_true rfl) (fun _ => rfl) d_X_comesTo_147 (fun x9 h_x9 hf => ?_)
            refine aw_aload_n rfl rfl d_X_comesTo_150 (aw_getr (r := o0 + 7) fl_X_28 h_o0 (by decide) rfl (rm_9_7 _ h_o0).1 d_X_comesTo_151 (aw_iload rfl d_X_comesTo_154 (aw_iconst (v := iv 1) rfl d_X_comesTo_156 (ai_isub d_X_comesTo_157 (aw_iload rfl d_X_comesTo_158 (aw_aload_n rfl rfl d_X_comesTo_160 (aw_getr (r := o0 + 7) fl_X_28 h_o0 (by decide) rfl (rm_9_7 _ h_o0).1 d_X_comesTo_161 (aw_iload rfl d_X_comesTo_164 (aw_iconst (v := iv 1) rfl d_X_comesTo_166 (ai_isub d_X_comesTo_167 ?_))))))))))
            refine ai_name hf (wr32_in _) (fun x10 h_x10 hf => ?_)
            refine ai_iald (rm_9_7 _ h_o0).2 rfl h_x10 hf d_X_comesTo_168 (fun _ hf => ?_)
            refine aw_aload_n rfl rfl d_X_comesTo_169 (aw_getr (r := o0 + 7) fl_X_28 h_o0 (by decide) rfl (rm_9_7 _ h_o0).1 d_X_comesTo_170 (aw_iload rfl d_X_comesTo_173 ?_))
            refine ai_iald (rm_9_7 _ h_o0).2 rfl h_x9 hf d_X_comesTo_175 (fun _ hf => ?_)
            obtain ⟨y11, I12, c13, hf⟩ := of_zb hf
            refine ai_callS (as := [.int (iv x2), .int (iv (I0 (o0 + 7) x10.toNat)), .int (iv (I0 (o0 + 7) x9.toNat))]) (d' := 1) mo_X_both lk_X_253 rfl ⟨by decide, by decide⟩ rfl rfl (by decide) d_X_comesTo_176 (t_X_both fu x2 (I0 (o0 + 7) x10.toNat) (I0 (o0 + 7) x9.toNat) I0 h_I0 h_x2 (h_I0 (o0 + 7) x10.toNat) (h_I0 (o0 + 7) x9.toNat) c13) (fun h_y11 h_I12 => ?_)
            refine ai_nameU hf (wr32_in _) (fun x15 h_x15 hf => ?_)
            refine ai_iast (rm_9_7 _ h_o0).2 rfl h_x15 h_y11 h_I12 hf d_X_comesTo_179 (fun _ I14 h_I14 hf => ?_)
            refine aw_weakB (lv2 := [.ref o0, .int (iv p1), uu, .int (iv p3), .int (iv x9), .int (iv w5), uu, uu]) (wk_s (wk_s (wk_u (wk_s (wk_s (wk_s (wk_u (wk_u wk_n)))))))) ?_
            exact hk5 x9 I14 h_x9 h_I14 hf
          · refine aw_aload_n rfl rfl d_X_comesTo_124 (aw_getr (r := o0 + 7) fl_X_28 h_o0 (by decide) rfl (rm_9_7 _ h_o0).1 d_X_comesTo_125 (aw_iload rfl d_X_comesTo_128 (aw_iconst (v := iv 1) rfl d_X_comesTo_130 (ai_isub d_X_comesTo_131 (aw_iconst (v := iv 1) rfl d_X_comesTo_132 (aw_aload_n rfl rfl d_X_comesTo_133 (aw_getr (r := o0 + 7) fl_X_28 h_o0 (by decide) rfl (rm_9_7 _ h_o0).1 d_X_comesTo_134 (aw_iload rfl d_X_comesTo_137 (aw_iconst (v := iv 1) rfl d_X_comesTo_139 (ai_isub d_X_comesTo_140 ?_))))))))))
            refine ai_name hf (wr32_in _) (fun x16 h_x16 hf => ?_)
            refine ai_iald (rm_9_7 _ h_o0).2 rfl h_x16 hf d_X_comesTo_141 (fun _ hf => ?_)
            refine ai_isub d_X_comesTo_142 ?_
            refine ai_nameU hf (wr32_in _) (fun x18 h_x18 hf => ?_)
            refine ai_iast (rm_9_7 _ h_o0).2 rfl h_x18 (wr32_in _) h_I0 hf d_X_comesTo_143 (fun _ I17 h_I17 hf => ?_)
            refine aw_goto (tgt := 180) (by decide) d_X_comesTo_144 ?_
            refine aw_weakB (lv2 := [.ref o0, .int (iv p1), uu, .int (iv p3), .int (iv w4), .int (iv w5), uu, uu]) (wk_s (wk_s (wk_u (wk_s (wk_s (wk_s (wk_u (wk_u wk_n)))))))) ?_
            exact hk5 w4 I17 h_w4 h_I17 hf
        · refine aw_aload_n rfl rfl d_X_comesTo_100 (aw_getr (r := o0 + 7) fl_X_28 h_o0 (by decide) rfl (rm_9_7 _ h_o0).1 d_X_comesTo_101 (aw_iload rfl d_X_comesTo_104 (aw_iconst (v := iv 1) rfl d_X_comesTo_106 (ai_isub d_X_comesTo_107 ?_))))
          refine ai_name hf (wr32_in _) (fun x19 h_x19 hf => ?_)
          refine aw_dup2 rfl rfl d_X_comesTo_108 ?_
          refine ai_iald (rm_9_7 _ h_o0).2 rfl h_x19 hf d_X_comesTo_109 (fun _ hf => ?_)
          refine aw_iload rfl d_X_comesTo_110 ?_
          refine ai_idiv h_x4 hf d_X_comesTo_112 (fun _ hf => ?_)
          refine ai_iast (rm_9_7 _ h_o0).2 rfl h_x19 (wdiv_in _ _) h_I0 hf d_X_comesTo_113 (fun _ I20 h_I20 hf => ?_)
          refine aw_goto (tgt := 180) (by decide) d_X_comesTo_114 ?_
          refine aw_weakB (lv2 := [.ref o0, .int (iv p1), uu, .int (iv p3), .int (iv w4), .int (iv w5), uu, uu]) (wk_s (wk_s (wk_u (wk_s (wk_s (wk_s (wk_u (wk_u wk_n)))))))) ?_
          exact hk5 w4 I20 h_w4 h_I20 hf
      · refine aw_aload_n rfl rfl d_X_comesTo_63 (aw_getr (r := o0 + 7) fl_X_28 h_o0 (by decide) rfl (rm_9_7 _ h_o0).1 d_X_comesTo_64 (aw_iload rfl d_X_comesTo_67 (aw_iload rfl d_X_comesTo_69 ?_)))
        obtain ⟨k21, ek21, hf⟩ := of_zj hf
        have hk21 : ∀ (x23 : Int) (I22 : IMem), inr x23 → RG I22 → k21 x23 I22 = some r → Ai l b 2 y_X_comesTo KM RM (Ps r) I22 86 [.ref o0, .int (iv p1), uu, .int (iv p3), .int (iv w4), .int (iv w5), uu, uu] [.int (iv x23), .int (iv w4), .ref (o0 + 7)] := by
          intro x23 I22 h_x23 h_I22 hf
          subst ek21
          refine ai_iast (rm_9_7 _ h_o0).2 rfl h_w4 h_x23 h_I22 hf d_X_comesTo_86 (fun _ I24 h_I24 hf => ?_)
          refine ai_iinc (n := 1) (lv2 := fun x25 => [.ref o0, .int (iv p1), uu, .int (iv p3), .int (iv x25), .int (iv w5), uu, uu]) hf rfl (Nat.le_of_ble_eq_true rfl) (fun _ => rfl) d_X_comesTo_87 (fun x25 h_x25 hf => ?_)
          refine aw_goto (tgt := 180) (by decide) d_X_comesTo_90 ?_
          exact hk5 x25 I24 h_x25 h_I24 hf
        refine ai_if_ne h_x2 hf (tgt := 79) (by decide) d_X_comesTo_71 (fun hf => ?_) (fun hf => ?_)
        · refine aw_aload_n rfl rfl d_X_comesTo_79 (aw_getr (r := o0 + 8) fl_X_31 h_o0 (by decide) rfl (rm_9_8 _ h_o0).1 d_X_comesTo_80 (aw_iload rfl d_X_comesTo_83 ?_))
          refine ai_iald (rm_9_8 _ h_o0).2 rfl h_x2 hf d_X_comesTo_85 (fun _ hf => ?_)
          refine aw_weakB (lv2 := [.ref o0, .int (iv p1), uu, .int (iv p3), .int (iv w4), .int (iv w5), uu, uu]) (wk_s (wk_s (wk_u (wk_s (wk_s (wk_s (wk_u (wk_u wk_n)))))))) ?_
          exact hk21 (I0 (o0 + 8) x2.toNat) I0 (h_I0 (o0 + 8) x2.toNat) h_I0 hf
        · refine aw_iload rfl d_X_comesTo_74 (aw_goto (tgt := 86) (by decide) d_X_comesTo_76 ?_)
          refine aw_weakB (lv2 := [.ref o0, .int (iv p1), uu, .int (iv p3), .int (iv w4), .int (iv w5), uu, uu]) (wk_s (wk_s (wk_u (wk_s (wk_s (wk_s (wk_u (wk_u wk_n)))))))) ?_
          exact hk21 x4 I0 h_x4 h_I0 hf
set_option maxRecDepth 20000 in
theorem t_X_comesTo (fu : Nat) (o0 : Nat) (a1 : Int) (a2 : Int) (a3 : Int) (I0 : IMem) (hI : RG I0) (h_o0 : KM[o0]? = some (12, 51)) (h_a1 : inr a1) (h_a2 : inr a2) (h_a3 : inr a3) {r : Int × IMem} (hf : f_X_comesTo fu o0 a1 a2 a3 I0 = some r) : Ss l b 2 y_X_comesTo KM RM [.ref o0, .int (iv a1), .int (iv a2), .int (iv a3)] (ivm I0) (Ps r) := by
  unfold f_X_comesTo at hf
  refine Ss.of (show Ai l b 2 y_X_comesTo KM RM (Ps r) I0 0 [.ref o0, .int (iv a1), .int (iv a2), .int (iv a3), uu, uu, uu, uu] [] from ?_)
  refine aw_iconst (v := iv 0) rfl d_X_comesTo_0 (aw_istore (lv2 := [.ref o0, .int (iv a1), .int (iv a2), .int (iv a3), .int (iv 0), uu, uu, uu]) (Nat.le_of_ble_eq_true rfl) rfl d_X_comesTo_1 (aw_iload_n rfl rfl d_X_comesTo_3 (aw_istore (lv2 := [.ref o0, .int (iv a1), .int (iv a2), .int (iv a3), .int (iv 0), .int (iv a2), uu, uu]) (Nat.le_of_ble_eq_true rfl) rfl d_X_comesTo_4 ?_)))
  refine aw_weakB (lv2 := [.ref o0, .int (iv a1), uu, .int (iv a3), .int (iv 0), .int (iv a2), uu, uu]) (wk_s (wk_s (wk_u (wk_s (wk_s (wk_s (wk_u (wk_u wk_n)))))))) ?_
  refine t_X_comesTo_6 fu o0 a1 a3 h_o0 h_a1 h_a3 fu 0 a2 I0 in_0 h_a2 hI hf
set_option maxRecDepth 20000 in
theorem t_X_firstLine_2 (fu : Nat) {r : Int × IMem} (o0 : Nat) (p1 : Int) (h_o0 : KM[o0]? = some (12, 51)) (h_p1 : inr p1) : ∀ (m : Nat) (w2 : Int) (I0 : IMem), inr w2 → RG I0 → f_X_firstLine_2 fu o0 p1 m w2 I0 = some r → Ai l b 3 y_X_firstLine KM RM (Ps r) I0 2 [.ref o0, .int (iv p1), .int (iv w2), uu] [] := by
  intro m
  induction m with
  | zero => intro w2 I0 h_w2 h_I0 hf; cases hf
  | succ m ih =>
    intro w2 I0 h_w2 h_I0 hf
    replace hf : fb_X_firstLine_2 fu o0 p1 (f_X_firstLine_2 fu o0 p1 m) w2 I0 = some r := hf
    unfold fb_X_firstLine_2 at hf
    refine aw_iload_n rfl rfl d_X_firstLine_2 (aw_aload_n rfl rfl d_X_firstLine_3 (aw_getr (r := o0 + 1) fl_X_7 h_o0 (by decide) rfl (rm_9_0 _ h_o0).1 d_X_firstLine_4 (aw_sipush (v := iv 1580) cs_1580 d_X_firstLine_7 (aw_iload_n rfl rfl d_X_firstLine_10 (ai_iadd d_X_firstLine_11 ?_)))))
    refine ai_name hf (wr32_in _) (fun x1 h_x1 hf => ?_)
    refine ai_iald (rm_9_0 _ h_o0).2 rfl h_x1 hf d_X_firstLine_12 (fun _ hf => ?_)
    refine ai_icmp_ge h_w2 (h_I0 (o0 + 1) x1.toNat) hf (tgt := 83) (by decide) d_X_firstLine_13 (fun hf => ?_) (fun hf => ?_)
    · refine aw_iconst (v := iv (-1)) rfl d_X_firstLine_83 ?_
      exact ai_reti rfl d_X_firstLine_84 hf in_m1 h_I0
    · refine aw_bipush (v := iv 16) cb_16 d_X_firstLine_16 (aw_iload_n rfl rfl d_X_firstLine_18 (ai_imul d_X_firstLine_19 (aw_iload_n rfl rfl d_X_firstLine_20 (ai_iadd d_X_firstLine_21 ?_))))
      refine ai_name hf (wr32_in _) (fun x2 h_x2 hf => ?_)
      refine aw_istore_n (lv2 := [.ref o0, .int (iv p1), .int (iv w2), .int (iv x2)]) rfl (Nat.le_of_ble_eq_true rfl) rfl d_X_firstLine_22 ?_
      refine aw_aload_n rfl rfl d_X_firstLine_23 (aw_getr (r := o0 + 1) fl_X_7 h_o0 (by decide) rfl (rm_9_0 _ h_o0).1 d_X_firstLine_24 (aw_sipush (v := iv 1830) cs_1830 d_X_firstLine_27 (aw_iload_n rfl rfl d_X_firstLine_30 (ai_iadd d_X_firstLine_31 ?_))))
      refine ai_name hf (wr32_in _) (fun x3 h_x3 hf => ?_)
      refine ai_iald (rm_9_0 _ h_o0).2 rfl h_x3 hf d_X_firstLine_32 (fun _ hf => ?_)
      refine aw_aload_n rfl rfl d_X_firstLine_33 (aw_getr (r := o0 + 1) fl_X_7 h_o0 (by decide) rfl (rm_9_0 _ h_o0).1 d_X_firstLine_34 (aw_sipush (v := iv 1750) cs_1750 d_X_firstLine_37 (aw_iload_n rfl rfl d_X_firstLine_40 (ai_iadd d_X_firstLine_41 ?_))))
      refine ai_name hf (wr32_in _) (fun x4 h_x4 hf => ?_)
      refine ai_iald (rm_9_0 _ h_o0).2 rfl h_x4 hf d_X_firstLine_42 (fun _ hf => ?_)
      refine ai_icmp_eq (h_I0 (o0 + 1) x3.toNat) (h_I0 (o0 + 1) x4.toNat) hf (tgt := 75) (by decide) d_X_firstLine_43 (fun hf => ?_) (fun hf => ?_)
      · refine aw_iload_n rfl rfl d_X_firstLine_75 ?_
        exact ai_reti rfl d_X_firstLine_76 hf h_x2 h_I0
      · refine aw_aload_n rfl rfl d_X_firstLine_46 (aw_iload_n rfl rfl d_X_firstLine_47 (aw_aload_n rfl rfl d_X_firstLine_48 (aw_getr (r := o0 + 1) fl_X_7 h_o0 (by decide) rfl (rm_9_0 _ h_o0).1 d_X_firstLine_49 (aw_sipush (v := iv 1750) cs_1750 d_X_firstLine_52 (aw_iload_n rfl rfl d_X_firstLine_55 (ai_iadd d_X_firstLine_56 ?_))))))
        refine ai_name hf (wr32_in _) (fun x5 h_x5 hf => ?_)
        refine ai_iald (rm_9_0 _ h_o0).2 rfl h_x5 hf d_X_firstLine_57 (fun _ hf => ?_)
        refine aw_aload_n rfl rfl d_X_firstLine_58 (aw_getr (r := o0 + 1) fl_X_7 h_o0 (by decide) rfl (rm_9_0 _ h_o0).1 d_X_firstLine_59 (aw_sipush (v := iv 1830) cs_1830 d_X_firstLine_62 (aw_iload_n rfl rfl d_X_firstLine_65 (ai_iadd d_X_firstLine_66 ?_))))
        refine ai_name hf (wr32_in _) (fun x6 h_x6 hf => ?_)
        refine ai_iald (rm_9_0 _ h_o0).2 rfl h_x6 hf d_X_firstLine_67 (fun _ hf => ?_)
        obtain ⟨y7, I8, c9, hf⟩ := of_zb hf
        refine ai_callV (as := [.int (iv p1), .int (iv (I0 (o0 + 1) x5.toNat)), .int (iv (I0 (o0 + 1) x6.toNat))]) (d' := 2) (q := ("SinglesUpModel", zT9, 51)) mo_X_comesTo lk_X_257 h_o0 rfl rfl rfl ⟨by decide, by decide⟩ rfl rfl (by decide) d_X_firstLine_68 (t_X_comesTo fu o0 p1 (I0 (o0 + 1) x5.toNat) (I0 (o0 + 1) x6.toNat) I0 h_I0 h_o0 h_p1 (h_I0 (o0 + 1) x5.toNat) (h_I0 (o0 + 1) x6.toNat) c9) (fun h_y7 h_I8 => ?_)
        refine aw_iconst (v := iv 1) rfl d_X_firstLine_71 ?_
        refine ai_icmp_ne h_y7 in_1 hf (tgt := 77) (by decide) d_X_firstLine_72 (fun hf => ?_) (fun hf => ?_)
        · refine ai_iinc (n := 1) (lv2 := fun x10 => [.ref o0, .int (iv p1), .int (iv x10), .int (iv x2)]) hf rfl (Nat.le_of_ble_eq_true rfl) (fun _ => rfl) d_X_firstLine_77 (fun x10 h_x10 hf => ?_)
          refine aw_goto (tgt := 2) (by decide) d_X_firstLine_80 ?_
          refine aw_weakB (lv2 := [.ref o0, .int (iv p1), .int (iv x10), uu]) (wk_s (wk_s (wk_s (wk_u wk_n)))) ?_
          exact ih x10 I8 h_x10 h_I8 hf
        · refine aw_iload_n rfl rfl d_X_firstLine_75 ?_
          exact ai_reti rfl d_X_firstLine_76 hf h_x2 h_I8
set_option maxRecDepth 20000 in
theorem t_X_firstLine (fu : Nat) (o0 : Nat) (a1 : Int) (I0 : IMem) (hI : RG I0) (h_o0 : KM[o0]? = some (12, 51)) (h_a1 : inr a1) {r : Int × IMem} (hf : f_X_firstLine fu o0 a1 I0 = some r) : Ss l b 3 y_X_firstLine KM RM [.ref o0, .int (iv a1)] (ivm I0) (Ps r) := by
  unfold f_X_firstLine at hf
  refine Ss.of (show Ai l b 3 y_X_firstLine KM RM (Ps r) I0 0 [.ref o0, .int (iv a1), uu, uu] [] from ?_)
  refine aw_iconst (v := iv 0) rfl d_X_firstLine_0 (aw_istore_n (lv2 := [.ref o0, .int (iv a1), .int (iv 0), uu]) rfl (Nat.le_of_ble_eq_true rfl) rfl d_X_firstLine_1 ?_)
  refine t_X_firstLine_2 fu o0 a1 h_o0 h_a1 fu 0 I0 in_0 hI hf
set_option maxRecDepth 20000 in
theorem t_X_lineFor_38 (fu : Nat) {r : Int × IMem} (k_82 : Int → IMem → Res) (o0 : Nat) (p1 : Int) (p2 : Int) (h_o0 : KM[o0]? = some (12, 51)) (h_p1 : inr p1) (h_p2 : inr p2) (hk_82 : ∀ (z3 : Int) (I9 : IMem), inr z3 → RG I9 → k_82 z3 I9 = some r → Ai l b 4 y_X_lineFor KM RM (Ps r) I9 82 [.ref o0, .int (iv p1), .int (iv p2), .int (iv z3), uu] []) : ∀ (m : Nat) (w3 : Int) (w4 : Int) (I0 : IMem), inr w3 → inr w4 → RG I0 → f_X_lineFor_38 fu k_82 o0 p1 p2 m w3 w4 I0 = some r → Ai l b 4 y_X_lineFor KM RM (Ps r) I0 38 [.ref o0, .int (iv p1), .int (iv p2), .int (iv w3), .int (iv w4)] [] := by
  intro m
  induction m with
  | zero => intro w3 w4 I0 h_w3 h_w4 h_I0 hf; cases hf
  | succ m ih =>
    intro w3 w4 I0 h_w3 h_w4 h_I0 hf
    replace hf : fb_X_lineFor_38 fu k_82 o0 p1 p2 (f_X_lineFor_38 fu k_82 o0 p1 p2 m) w3 w4 I0 = some r := hf
    unfold fb_X_lineFor_38 at hf
    refine aw_iload rfl d_X_lineFor_38 (aw_bipush (v := iv 6) cb_6 d_X_lineFor_40 ?_)
    refine ai_icmp_ge h_w4 in_6 hf (tgt := 82) (by decide) d_X_lineFor_42 (fun hf => ?_) (fun hf => ?_)
    · refine aw_weakB (lv2 := [.ref o0, .int (iv p1), .int (iv p2), .int (iv w3), uu]) (wk_s (wk_s (wk_s (wk_s (wk_u wk_n))))) ?_
      exact hk_82 w3 I0 h_w3 h_I0 hf
    · refine aw_aload_n rfl rfl d_X_lineFor_45 (aw_getr (r := o0 + 1) fl_X_7 h_o0 (by decide) rfl (rm_9_0 _ h_o0).1 d_X_lineFor_46 (aw_sipush (v := iv 130) cs_130 d_X_lineFor_49 (aw_iload rfl d_X_lineFor_52 (ai_iadd d_X_lineFor_54 ?_))))
      refine ai_name hf (wr32_in _) (fun x1 h_x1 hf => ?_)
      refine ai_iald (rm_9_0 _ h_o0).2 rfl h_x1 hf d_X_lineFor_55 (fun _ hf => ?_)
      refine aw_aload_n rfl rfl d_X_lineFor_56 (aw_getr (r := o0 + 1) fl_X_7 h_o0 (by decide) rfl (rm_9_0 _ h_o0).1 d_X_lineFor_57 (aw_sipush (v := iv 130) cs_130 d_X_lineFor_60 (aw_iload_n rfl rfl d_X_lineFor_63 (ai_iadd d_X_lineFor_64 ?_))))
      refine ai_name hf (wr32_in _) (fun x2 h_x2 hf => ?_)
      refine ai_iald (rm_9_0 _ h_o0).2 rfl h_x2 hf d_X_lineFor_65 (fun _ hf => ?_)
      obtain ⟨k3, ek3, hf⟩ := of_zj hf
      have hk3 : ∀ (x5 : Int) (I4 : IMem), inr x5 → RG I4 → k3 x5 I4 = some r → Ai l b 4 y_X_lineFor KM RM (Ps r) I4 75 [.ref o0, .int (iv p1), .int (iv p2), uu, .int (iv w4)] [.int (iv x5)] := by
        intro x5 I4 h_x5 h_I4 hf
        subst ek3
        refine aw_istore_n (lv2 := [.ref o0, .int (iv p1), .int (iv p2), .int (iv x5), .int (iv w4)]) rfl (Nat.le_of_ble_eq_true rfl) rfl d_X_lineFor_75 ?_
        refine ai_iinc (n := 1) (lv2 := fun x6 => [.ref o0, .int (iv p1), .int (iv p2), .int (iv x5), .int (iv x6)]) hf rfl (Nat.le_of_ble_eq_true rfl) (fun _ => rfl) d_X_lineFor_76 (fun x6 h_x6 hf => ?_)
        refine aw_goto (tgt := 38) (by decide) d_X_lineFor_79 ?_
        exact ih x5 x6 I4 h_x5 h_x6 h_I4 hf
      refine ai_icmp_ge (h_I0 (o0 + 1) x1.toNat) (h_I0 (o0 + 1) x2.toNat) hf (tgt := 74) (by decide) d_X_lineFor_66 (fun hf => ?_) (fun hf => ?_)
      · refine aw_iload_n rfl rfl d_X_lineFor_74 ?_
        refine aw_weakB (lv2 := [.ref o0, .int (iv p1), .int (iv p2), uu, .int (iv w4)]) (wk_s (wk_s (wk_s (wk_u (wk_s wk_n))))) ?_
        exact hk3 w3 I0 h_w3 h_I0 hf
      · refine aw_iload rfl d_X_lineFor_69 (aw_goto (tgt := 75) (by decide) d_X_lineFor_71 ?_)
        refine aw_weakB (lv2 := [.ref o0, .int (iv p1), .int (iv p2), uu, .int (iv w4)]) (wk_s (wk_s (wk_s (wk_u (wk_s wk_n))))) ?_
        exact hk3 w4 I0 h_w4 h_I0 hf
set_option maxRecDepth 20000 in
theorem t_X_lineFor (fu : Nat) (o0 : Nat) (a1 : Int) (a2 : Int) (I0 : IMem) (hI : RG I0) (h_o0 : KM[o0]? = some (12, 51)) (h_a1 : inr a1) (h_a2 : inr a2) {r : Int × IMem} (hf : f_X_lineFor fu o0 a1 a2 I0 = some r) : Ss l b 4 y_X_lineFor KM RM [.ref o0, .int (iv a1), .int (iv a2)] (ivm I0) (Ps r) := by
  unfold f_X_lineFor at hf
  refine Ss.of (show Ai l b 4 y_X_lineFor KM RM (Ps r) I0 0 [.ref o0, .int (iv a1), .int (iv a2), uu, uu] [] from ?_)
  refine aw_aload_n rfl rfl d_X_lineFor_0 (ai_geti fl_X_38 h_o0 (by decide) rfl d_X_lineFor_1 (aw_iconst (v := iv (-1)) rfl d_X_lineFor_4 ?_))
  refine ai_icmp_eq (hI o0 22) in_m1 hf (tgt := 33) (by decide) d_X_lineFor_5 (fun hf => ?_) (fun hf => ?_)
  · refine aw_iconst (v := iv 0) rfl d_X_lineFor_33 (aw_istore_n (lv2 := [.ref o0, .int (iv a1), .int (iv a2), .int (iv 0), uu]) rfl (Nat.le_of_ble_eq_true rfl) rfl d_X_lineFor_34 (aw_iconst (v := iv 1) rfl d_X_lineFor_35 (aw_istore (lv2 := [.ref o0, .int (iv a1), .int (iv a2), .int (iv 0), .int (iv 1)]) (Nat.le_of_ble_eq_true rfl) rfl d_X_lineFor_36 ?_)))
    refine t_X_lineFor_38 fu _ o0 a1 a2 h_o0 h_a1 h_a2 ?_ fu 0 1 I0 in_0 in_1 hI hf
    · intro x8 I7 h_x8 h_I7 hf
      refine aw_aload_n rfl rfl d_X_lineFor_82 (aw_getr (r := o0 + 8) fl_X_31 h_o0 (by decide) rfl (rm_9_8 _ h_o0).1 d_X_lineFor_83 (aw_iconst (v := iv 1) rfl d_X_lineFor_86 (aw_iload_n rfl rfl d_X_lineFor_87 ?_)))
      refine ai_iastc (j := 1) (rm_9_8 _ h_o0).2 (by decide) (by decide) h_a1 h_I7 hf d_X_lineFor_88 (fun I9 h_I9 hf => ?_)
      refine aw_aload_n rfl rfl d_X_lineFor_89 (aw_getr (r := o0 + 8) fl_X_31 h_o0 (by decide) rfl (rm_9_8 _ h_o0).1 d_X_lineFor_90 (aw_bipush (v := iv 7) cb_7 d_X_lineFor_93 (aw_iload_n rfl rfl d_X_lineFor_95 ?_)))
      refine ai_iastc (j := 7) (rm_9_8 _ h_o0).2 (by decide) (by decide) h_a2 h_I9 hf d_X_lineFor_96 (fun I10 h_I10 hf => ?_)
      refine aw_aload_n rfl rfl d_X_lineFor_97 (aw_getr (r := o0 + 8) fl_X_31 h_o0 (by decide) rfl (rm_9_8 _ h_o0).1 d_X_lineFor_98 (aw_bipush (v := iv 10) cb_10 d_X_lineFor_101 (aw_iload_n rfl rfl d_X_lineFor_103 ?_)))
      refine ai_iastc (j := 10) (rm_9_8 _ h_o0).2 (by decide) (by decide) h_x8 h_I10 hf d_X_lineFor_104 (fun I11 h_I11 hf => ?_)
      refine aw_aload_n rfl rfl d_X_lineFor_105 (aw_getr (r := o0 + 8) fl_X_31 h_o0 (by decide) rfl (rm_9_8 _ h_o0).1 d_X_lineFor_106 (aw_bipush (v := iv 11) cb_11 d_X_lineFor_109 (aw_aload_n rfl rfl d_X_lineFor_111 (aw_getr (r := o0 + 1) fl_X_7 h_o0 (by decide) rfl (rm_9_0 _ h_o0).1 d_X_lineFor_112 (aw_sipush (v := iv 130) cs_130 d_X_lineFor_115 (ai_ialdc (j := 130) (rm_9_0 _ h_o0).2 (by decide) (by decide) d_X_lineFor_118 ?_))))))
      refine ai_iastc (j := 11) (rm_9_8 _ h_o0).2 (by decide) (by decide) (h_I11 (o0 + 1) 130) h_I11 hf d_X_lineFor_119 (fun I12 h_I12 hf => ?_)
      refine aw_aload_n rfl rfl d_X_lineFor_120 (aw_iconst (v := iv 4) rfl d_X_lineFor_121 ?_)
      obtain ⟨y13, I14, c15, hf⟩ := of_zb hf
      refine ai_callV (as := [.int (iv 4)]) (d' := 3) (q := ("SinglesUpModel", zT9, 51)) mo_X_firstLine lk_X_267 h_o0 rfl rfl rfl ⟨by decide, by decide⟩ rfl rfl (by decide) d_X_lineFor_122 (t_X_firstLine fu o0 4 I12 h_I12 h_o0 in_4 c15) (fun h_y13 h_I14 => ?_)
      refine aw_istore (lv2 := [.ref o0, .int (iv a1), .int (iv a2), .int (iv x8), .int (iv y13)]) (Nat.le_of_ble_eq_true rfl) rfl d_X_lineFor_125 (aw_iload rfl d_X_lineFor_127 (aw_iconst (v := iv (-1)) rfl d_X_lineFor_129 ?_))
      refine ai_icmp_ne h_y13 in_m1 hf (tgt := 137) (by decide) d_X_lineFor_130 (fun hf => ?_) (fun hf => ?_)
      · refine aw_aload_n rfl rfl d_X_lineFor_137 (aw_getr (r := o0 + 1) fl_X_7 h_o0 (by decide) rfl (rm_9_0 _ h_o0).1 d_X_lineFor_138 (aw_sipush (v := iv 1590) cs_1590 d_X_lineFor_141 (aw_iload rfl d_X_lineFor_144 (ai_iadd d_X_lineFor_146 ?_))))
        refine ai_name hf (wr32_in _) (fun x16 h_x16 hf => ?_)
        refine ai_iald (rm_9_0 _ h_o0).2 rfl h_x16 hf d_X_lineFor_147 (fun _ hf => ?_)
        exact ai_reti rfl d_X_lineFor_148 hf (h_I14 (o0 + 1) x16.toNat) h_I14
      · refine aw_iconst (v := iv 0) rfl d_X_lineFor_133 (aw_goto (tgt := 148) (by decide) d_X_lineFor_134 ?_)
        exact ai_reti rfl d_X_lineFor_148 hf in_0 h_I14
  · refine aw_iload_n rfl rfl d_X_lineFor_8 (aw_iconst (v := iv 5) rfl d_X_lineFor_9 ?_)
    refine ai_icmp_ge h_a1 in_5 hf (tgt := 31) (by decide) d_X_lineFor_10 (fun hf => ?_) (fun hf => ?_)
    · refine aw_iconst (v := iv 0) rfl d_X_lineFor_31 ?_
      exact ai_reti rfl d_X_lineFor_32 hf in_0 hI
    · refine aw_aload_n rfl rfl d_X_lineFor_13 (ai_geti fl_X_38 h_o0 (by decide) rfl d_X_lineFor_14 (aw_iload_n rfl rfl d_X_lineFor_17 (aw_iconst (v := iv 1) rfl d_X_lineFor_18 (ai_isub d_X_lineFor_19 (ai_ishr d_X_lineFor_20 (aw_iconst (v := iv 1) rfl d_X_lineFor_21 (ai_iand d_X_lineFor_22 (aw_iconst (v := iv 1) rfl d_X_lineFor_23 ?_))))))))
      refine ai_icmp_ne (wand_in _ _) in_1 hf (tgt := 31) (by decide) d_X_lineFor_24 (fun hf => ?_) (fun hf => ?_)
      · refine aw_iconst (v := iv 0) rfl d_X_lineFor_31 ?_
        exact ai_reti rfl d_X_lineFor_32 hf in_0 hI
      · refine aw_iconst (v := iv 1) rfl d_X_lineFor_27 (aw_goto (tgt := 32) (by decide) d_X_lineFor_28 ?_)
        exact ai_reti rfl d_X_lineFor_32 hf in_1 hI
set_option maxRecDepth 20000 in
theorem t_X_cell (fu : Nat) (a0 : Int) (a1 : Int) (I0 : IMem) (hI : RG I0) (h_a0 : inr a0) (h_a1 : inr a1) {r : Int × IMem} (hf : f_X_cell fu a0 a1 I0 = some r) : Ss l b 1 y_X_cell KM RM [.int (iv a0), .int (iv a1)] (ivm I0) (Ps r) := by
  unfold f_X_cell at hf
  refine Ss.of (show Ai l b 1 y_X_cell KM RM (Ps r) I0 0 [.int (iv a0), .int (iv a1)] [] from ?_)
  refine aw_sipush (v := iv 140) cs_140 d_X_cell_0 (aw_bipush (v := iv 6) cb_6 d_X_cell_3 (aw_bipush (v := iv 40) cb_40 d_X_cell_5 (aw_iload_n rfl rfl d_X_cell_7 (ai_imul d_X_cell_8 (aw_iload_n rfl rfl d_X_cell_9 (ai_iadd d_X_cell_10 (ai_imul d_X_cell_11 (ai_iadd d_X_cell_12 ?_))))))))
  exact ai_reti rfl d_X_cell_13 hf (wr32_in _) hI
set_option maxRecDepth 20000 in
theorem t_X_stands (fu : Nat) (o0 : Nat) (a1 : Int) (a2 : Int) (a3 : Int) (a4 : Int) (a5 : Int) (a6 : Int) (a7 : Int) (I0 : IMem) (hI : RG I0) (h_o0 : KM[o0]? = some (12, 51)) (h_a1 : inr a1) (h_a2 : inr a2) (h_a3 : inr a3) (h_a4 : inr a4) (h_a5 : inr a5) (h_a6 : inr a6) (h_a7 : inr a7) {r : Int × IMem} (hf : f_X_stands fu o0 a1 a2 a3 a4 a5 a6 a7 I0 = some r) : Ss l b 2 y_X_stands KM RM [.ref o0, .int (iv a1), .int (iv a2), .int (iv a3), .int (iv a4), .int (iv a5), .int (iv a6), .int (iv a7)] (ivm I0) (Ps r) := by
  unfold f_X_stands at hf
  refine Ss.of (show Ai l b 2 y_X_stands KM RM (Ps r) I0 0 [.ref o0, .int (iv a1), .int (iv a2), .int (iv a3), .int (iv a4), .int (iv a5), .int (iv a6), .int (iv a7), uu] [] from ?_)
  refine aw_aload_n rfl rfl d_X_stands_0 (aw_getr (r := o0 + 1) fl_X_7 h_o0 (by decide) rfl (rm_9_0 _ h_o0).1 d_X_stands_1 (aw_sipush (v := iv 130) cs_130 d_X_stands_4 (aw_iload_n rfl rfl d_X_stands_7 (ai_iadd d_X_stands_8 ?_))))
  refine ai_name hf (wr32_in _) (fun x1 h_x1 hf => ?_)
  refine ai_iald (rm_9_0 _ h_o0).2 rfl h_x1 hf d_X_stands_9 (fun _ hf => ?_)
  refine aw_bipush (v := iv 40) cb_40 d_X_stands_10 ?_
  refine ai_icmp_ne (hI (o0 + 1) x1.toNat) in_40 hf (tgt := 52) (by decide) d_X_stands_12 (fun hf => ?_) (fun hf => ?_)
  · refine aw_iload_n rfl rfl d_X_stands_52 (aw_aload_n rfl rfl d_X_stands_53 (aw_getr (r := o0 + 1) fl_X_7 h_o0 (by decide) rfl (rm_9_0 _ h_o0).1 d_X_stands_54 (aw_sipush (v := iv 130) cs_130 d_X_stands_57 (aw_iload_n rfl rfl d_X_stands_60 (ai_iadd d_X_stands_61 ?_)))))
    refine ai_name hf (wr32_in _) (fun x2 h_x2 hf => ?_)
    refine ai_iald (rm_9_0 _ h_o0).2 rfl h_x2 hf d_X_stands_62 (fun _ hf => ?_)
    obtain ⟨y3, I4, c5, hf⟩ := of_zb hf
    refine ai_callS (as := [.int (iv a1), .int (iv (I0 (o0 + 1) x2.toNat))]) (d' := 1) mo_X_cell lk_X_260 rfl ⟨by decide, by decide⟩ rfl rfl (by decide) d_X_stands_63 (t_X_cell fu a1 (I0 (o0 + 1) x2.toNat) I0 hI h_a1 (hI (o0 + 1) x2.toNat) c5) (fun h_y3 h_I4 => ?_)
    refine aw_istore (lv2 := [.ref o0, .int (iv a1), .int (iv a2), .int (iv a3), .int (iv a4), .int (iv a5), .int (iv a6), .int (iv a7), .int (iv y3)]) (Nat.le_of_ble_eq_true rfl) rfl d_X_stands_66 (aw_aload_n rfl rfl d_X_stands_68 (aw_getr (r := o0 + 1) fl_X_7 h_o0 (by decide) rfl (rm_9_0 _ h_o0).1 d_X_stands_69 (aw_iload rfl d_X_stands_72 (aw_iconst (v := iv 0) rfl d_X_stands_74 (ai_iadd d_X_stands_75 (aw_iload_n rfl rfl d_X_stands_76 ?_))))))
    refine ai_nameU hf (wr32_in _) (fun x7 h_x7 hf => ?_)
    refine ai_iast (rm_9_0 _ h_o0).2 rfl h_x7 h_a2 h_I4 hf d_X_stands_77 (fun _ I6 h_I6 hf => ?_)
    refine aw_aload_n rfl rfl d_X_stands_78 (aw_getr (r := o0 + 1) fl_X_7 h_o0 (by decide) rfl (rm_9_0 _ h_o0).1 d_X_stands_79 (aw_iload rfl d_X_stands_82 (aw_iconst (v := iv 1) rfl d_X_stands_84 (ai_iadd d_X_stands_85 (aw_iload_n rfl rfl d_X_stands_86 ?_)))))
    refine ai_nameU hf (wr32_in _) (fun x9 h_x9 hf => ?_)
    refine ai_iast (rm_9_0 _ h_o0).2 rfl h_x9 h_a3 h_I6 hf d_X_stands_87 (fun _ I8 h_I8 hf => ?_)
    refine aw_aload_n rfl rfl d_X_stands_88 (aw_getr (r := o0 + 1) fl_X_7 h_o0 (by decide) rfl (rm_9_0 _ h_o0).1 d_X_stands_89 (aw_iload rfl d_X_stands_92 (aw_iconst (v := iv 2) rfl d_X_stands_94 (ai_iadd d_X_stands_95 (aw_iload rfl d_X_stands_96 ?_)))))
    refine ai_nameU hf (wr32_in _) (fun x11 h_x11 hf => ?_)
    refine ai_iast (rm_9_0 _ h_o0).2 rfl h_x11 h_a4 h_I8 hf d_X_stands_98 (fun _ I10 h_I10 hf => ?_)
    refine aw_aload_n rfl rfl d_X_stands_99 (aw_getr (r := o0 + 1) fl_X_7 h_o0 (by decide) rfl (rm_9_0 _ h_o0).1 d_X_stands_100 (aw_iload rfl d_X_stands_103 (aw_iconst (v := iv 3) rfl d_X_stands_105 (ai_iadd d_X_stands_106 (aw_iload rfl d_X_stands_107 ?_)))))
    refine ai_nameU hf (wr32_in _) (fun x13 h_x13 hf => ?_)
    refine ai_iast (rm_9_0 _ h_o0).2 rfl h_x13 h_a5 h_I10 hf d_X_stands_109 (fun _ I12 h_I12 hf => ?_)
    refine aw_aload_n rfl rfl d_X_stands_110 (aw_getr (r := o0 + 1) fl_X_7 h_o0 (by decide) rfl (rm_9_0 _ h_o0).1 d_X_stands_111 (aw_iload rfl d_X_stands_114 (aw_iconst (v := iv 4) rfl d_X_stands_116 (ai_iadd d_X_stands_117 (aw_iload rfl d_X_stands_118 ?_)))))
    refine ai_nameU hf (wr32_in _) (fun x15 h_x15 hf => ?_)
    refine ai_iast (rm_9_0 _ h_o0).2 rfl h_x15 h_a6 h_I12 hf d_X_stands_120 (fun _ I14 h_I14 hf => ?_)
    refine aw_aload_n rfl rfl d_X_stands_121 (aw_getr (r := o0 + 1) fl_X_7 h_o0 (by decide) rfl (rm_9_0 _ h_o0).1 d_X_stands_122 (aw_iload rfl d_X_stands_125 (aw_iconst (v := iv 5) rfl d_X_stands_127 (ai_iadd d_X_stands_128 (aw_iload rfl d_X_stands_129 ?_)))))
    refine ai_nameU hf (wr32_in _) (fun x17 h_x17 hf => ?_)
    refine ai_iast (rm_9_0 _ h_o0).2 rfl h_x17 h_a7 h_I14 hf d_X_stands_131 (fun _ I16 h_I16 hf => ?_)
    refine aw_aload_n rfl rfl d_X_stands_132 (aw_getr (r := o0 + 1) fl_X_7 h_o0 (by decide) rfl (rm_9_0 _ h_o0).1 d_X_stands_133 (aw_sipush (v := iv 130) cs_130 d_X_stands_136 (aw_iload_n rfl rfl d_X_stands_139 (ai_iadd d_X_stands_140 ?_))))
    refine ai_name hf (wr32_in _) (fun x18 h_x18 hf => ?_)
    refine aw_dup2 rfl rfl d_X_stands_141 ?_
    refine ai_iald (rm_9_0 _ h_o0).2 rfl h_x18 hf d_X_stands_142 (fun _ hf => ?_)
    refine aw_iconst (v := iv 1) rfl d_X_stands_143 (ai_iadd d_X_stands_144 ?_)
    refine ai_iast (rm_9_0 _ h_o0).2 rfl h_x18 (wr32_in _) h_I16 hf d_X_stands_145 (fun _ I19 h_I19 hf => ?_)
    refine aw_iconst (v := iv 1) rfl d_X_stands_146 ?_
    exact ai_retn rfl (nar_z (Or.inr rfl)) d_X_stands_147 hf in_1 h_I19
  · refine aw_aload_n rfl rfl d_X_stands_15 (aw_getr (r := o0 + 1) fl_X_7 h_o0 (by decide) rfl (rm_9_0 _ h_o0).1 d_X_stands_16 (aw_bipush (v := iv 76) cb_76 d_X_stands_19 (aw_dup2 rfl rfl d_X_stands_21 (ai_ialdc (j := 76) (rm_9_0 _ h_o0).2 (by decide) (by decide) d_X_stands_22 (aw_iconst (v := iv 1) rfl d_X_stands_23 (ai_iadd d_X_stands_24 ?_))))))
    refine ai_iastc (j := 76) (rm_9_0 _ h_o0).2 (by decide) (by decide) (wr32_in _) hI hf d_X_stands_25 (fun I20 h_I20 hf => ?_)
    refine aw_aload_n rfl rfl d_X_stands_26 (aw_aload_n rfl rfl d_X_stands_27 (ai_geti fl_X_270 h_o0 (by decide) rfl d_X_stands_28 ?_))
    obtain ⟨k21, ek21, hf⟩ := of_zj hf
    have hk21 : ∀ (x23 : Int) (I22 : IMem), inr x23 → RG I22 → k21 x23 I22 = some r → Ai l b 2 y_X_stands KM RM (Ps r) I22 47 [uu, uu, uu, uu, uu, uu, uu, uu, uu] [.int (iv x23), .ref o0] := by
      intro x23 I22 h_x23 h_I22 hf
      subst ek21
      obtain ⟨g25, hf⟩ := of_zg hf
      refine ai_puti hf h_I22 h_x23 fl_X_270 h_o0 (by decide) rfl (nar_z g25) (fit_z g25) rfl d_X_stands_47 (fun I24 h_I24 hf => ?_)
      refine aw_iconst (v := iv 0) rfl d_X_stands_50 ?_
      exact ai_retn rfl (nar_z (Or.inl rfl)) d_X_stands_51 hf in_0 h_I24
    refine ai_if_ne (h_I20 o0 24) hf (tgt := 42) (by decide) d_X_stands_31 (fun hf => ?_) (fun hf => ?_)
    · refine aw_iconst (v := iv 1) rfl d_X_stands_42 (aw_goto (tgt := 47) (by decide) d_X_stands_43 ?_)
      refine aw_weakB (lv2 := [uu, uu, uu, uu, uu, uu, uu, uu, uu]) (wk_u (wk_u (wk_u (wk_u (wk_u (wk_u (wk_u (wk_u (wk_u wk_n))))))))) ?_
      exact hk21 1 I20 in_1 h_I20 hf
    · refine aw_iload_n rfl rfl d_X_stands_34 (aw_aload_n rfl rfl d_X_stands_35 (ai_geti fl_X_41 h_o0 (by decide) rfl d_X_stands_36 ?_))
      refine ai_icmp_ne h_a2 (h_I20 o0 23) hf (tgt := 46) (by decide) d_X_stands_39 (fun hf => ?_) (fun hf => ?_)
      · refine aw_iconst (v := iv 0) rfl d_X_stands_46 ?_
        refine aw_weakB (lv2 := [uu, uu, uu, uu, uu, uu, uu, uu, uu]) (wk_u (wk_u (wk_u (wk_u (wk_u (wk_u (wk_u (wk_u (wk_u wk_n))))))))) ?_
        exact hk21 0 I20 in_0 h_I20 hf
      · refine aw_iconst (v := iv 1) rfl d_X_stands_42 (aw_goto (tgt := 47) (by decide) d_X_stands_43 ?_)
        refine aw_weakB (lv2 := [uu, uu, uu, uu, uu, uu, uu, uu, uu]) (wk_u (wk_u (wk_u (wk_u (wk_u (wk_u (wk_u (wk_u (wk_u wk_n))))))))) ?_
        exact hk21 1 I20 in_1 h_I20 hf
set_option maxRecDepth 20000 in
theorem t_X_comes (fu : Nat) (o0 : Nat) (a1 : Int) (a2 : Int) (a3 : Int) (I0 : IMem) (hI : RG I0) (h_o0 : KM[o0]? = some (12, 51)) (h_a1 : inr a1) (h_a2 : inr a2) (h_a3 : inr a3) {r : Int × IMem} (hf : f_X_comes fu o0 a1 a2 a3 I0 = some r) : Ss l b 5 y_X_comes KM RM [.ref o0, .int (iv a1), .int (iv a2), .int (iv a3)] (ivm I0) (Ps r) := by
  unfold f_X_comes at hf
  refine Ss.of (show Ai l b 5 y_X_comes KM RM (Ps r) I0 0 [.ref o0, .int (iv a1), .int (iv a2), .int (iv a3), uu] [] from ?_)
  refine aw_aload_n rfl rfl d_X_comes_0 (aw_iload_n rfl rfl d_X_comes_1 (aw_iload_n rfl rfl d_X_comes_2 ?_))
  obtain ⟨y1, I2, c3, hf⟩ := of_zb hf
  refine ai_callV (as := [.int (iv a2), .int (iv a3)]) (d' := 4) (q := ("SinglesUpModel", zT9, 51)) mo_X_lineFor lk_X_274 h_o0 rfl rfl rfl ⟨by decide, by decide⟩ rfl rfl (by decide) d_X_comes_3 (t_X_lineFor fu o0 a2 a3 I0 hI h_o0 h_a2 h_a3 c3) (fun h_y1 h_I2 => ?_)
  refine aw_istore (lv2 := [.ref o0, .int (iv a1), .int (iv a2), .int (iv a3), .int (iv y1)]) (Nat.le_of_ble_eq_true rfl) rfl d_X_comes_6 (aw_aload_n rfl rfl d_X_comes_8 (aw_getr (r := o0 + 1) fl_X_7 h_o0 (by decide) rfl (rm_9_0 _ h_o0).1 d_X_comes_9 (aw_bipush (v := iv 7) cb_7 d_X_comes_12 (aw_dup2 rfl rfl d_X_comes_14 (ai_ialdc (j := 7) (rm_9_0 _ h_o0).2 (by decide) (by decide) d_X_comes_15 (aw_iconst (v := iv 1) rfl d_X_comes_16 (ai_iadd d_X_comes_17 ?_)))))))
  refine ai_iastc (j := 7) (rm_9_0 _ h_o0).2 (by decide) (by decide) (wr32_in _) h_I2 hf d_X_comes_18 (fun I4 h_I4 hf => ?_)
  refine aw_aload_n rfl rfl d_X_comes_19 (aw_iload rfl d_X_comes_20 (aw_aload_n rfl rfl d_X_comes_22 (aw_getr (r := o0 + 1) fl_X_7 h_o0 (by decide) rfl (rm_9_0 _ h_o0).1 d_X_comes_23 (aw_bipush (v := iv 7) cb_7 d_X_comes_26 (ai_ialdc (j := 7) (rm_9_0 _ h_o0).2 (by decide) (by decide) d_X_comes_28 (aw_iconst (v := iv 1) rfl d_X_comes_29 (ai_isub d_X_comes_30 (aw_iload_n rfl rfl d_X_comes_31 (aw_iload_n rfl rfl d_X_comes_32 (aw_iload_n rfl rfl d_X_comes_33 (aw_iconst (v := iv 0) rfl d_X_comes_34 (aw_iconst (v := iv 0) rfl d_X_comes_35 ?_))))))))))))
  obtain ⟨y5, I6, c7, hf⟩ := of_zb hf
  refine ai_callV (as := [.int (iv y1), .int (iv (wr32 ((I4 (o0 + 1) 7) - 1))), .int (iv a1), .int (iv a2), .int (iv a3), .int (iv 0), .int (iv 0)]) (d' := 2) (q := ("SinglesUpModel", zT9, 51)) mo_X_stands lk_X_277 h_o0 rfl rfl rfl ⟨by decide, by decide⟩ rfl rfl (by decide) d_X_comes_36 (t_X_stands fu o0 y1 (wr32 ((I4 (o0 + 1) 7) - 1)) a1 a2 a3 0 0 I4 h_I4 h_o0 h_y1 (wr32_in _) h_a1 h_a2 h_a3 in_0 in_0 c7) (fun h_y5 h_I6 => ?_)
  refine ai_if_eq h_y5 hf (tgt := 47) (by decide) d_X_comes_39 (fun hf => ?_) (fun hf => ?_)
  · refine aw_iconst (v := iv (-1)) rfl d_X_comes_47 ?_
    exact ai_reti rfl d_X_comes_48 hf in_m1 h_I6
  · refine aw_iload rfl d_X_comes_42 (aw_goto (tgt := 48) (by decide) d_X_comes_44 ?_)
    exact ai_reti rfl d_X_comes_48 hf h_y1 h_I6
set_option maxRecDepth 20000 in
theorem t_X_come (fu : Nat) (o0 : Nat) (a1 : Int) (a2 : Int) (a3 : Int) (I0 : IMem) (hI : RG I0) (h_o0 : KM[o0]? = some (12, 51)) (h_a1 : inr a1) (h_a2 : inr a2) (h_a3 : inr a3) {r : Int × IMem} (hf : f_X_come fu o0 a1 a2 a3 I0 = some r) : Ss l b 6 y_X_come KM RM [.ref o0, .int (iv a1), .int (iv a2), .int (iv a3)] (ivm I0) (Ps r) := by
  unfold f_X_come at hf
  refine Ss.of (show Ai l b 6 y_X_come KM RM (Ps r) I0 0 [.ref o0, .int (iv a1), .int (iv a2), .int (iv a3)] [] from ?_)
  refine aw_iload_n rfl rfl d_X_come_0 (aw_iload_n rfl rfl d_X_come_1 (aw_iload_n rfl rfl d_X_come_2 ?_))
  obtain ⟨y1, I2, c3, hf⟩ := of_zb hf
  refine ai_callS (as := [.int (iv a1), .int (iv a2), .int (iv a3)]) (d' := 2) mo_X_isGroup lk_X_109 rfl ⟨by decide, by decide⟩ rfl rfl (by decide) d_X_come_3 (t_X_isGroup fu a1 a2 a3 I0 hI h_a1 h_a2 h_a3 c3) (fun h_y1 h_I2 => ?_)
  refine ai_if_eq h_y1 hf (tgt := 19) (by decide) d_X_come_6 (fun hf => ?_) (fun hf => ?_)
  · refine aw_bipush (v := iv (-2)) cb_m2 d_X_come_19 ?_
    exact ai_reti rfl d_X_come_21 hf in_m2 h_I2
  · refine aw_aload_n rfl rfl d_X_come_9 (aw_iload_n rfl rfl d_X_come_10 (aw_iload_n rfl rfl d_X_come_11 (aw_iload_n rfl rfl d_X_come_12 ?_)))
    obtain ⟨y4, I5, c6, hf⟩ := of_zb hf
    refine ai_callV (as := [.int (iv a1), .int (iv a2), .int (iv a3)]) (d' := 5) (q := ("SinglesUpModel", zT9, 51)) mo_X_comes lk_X_281 h_o0 rfl rfl rfl ⟨by decide, by decide⟩ rfl rfl (by decide) d_X_come_13 (t_X_comes fu o0 a1 a2 a3 I2 h_I2 h_o0 h_a1 h_a2 h_a3 c6) (fun h_y4 h_I5 => ?_)
    refine aw_goto (tgt := 21) (by decide) d_X_come_16 ?_
    exact ai_reti rfl d_X_come_21 hf h_y4 h_I5
set_option maxRecDepth 20000 in
theorem t_X_of (fu : Nat) (o0 : Nat) (a1 : Int) (a2 : Int) (a3 : Int) (I0 : IMem) (hI : RG I0) (h_o0 : KM[o0]? = some (12, 51)) (h_a1 : inr a1) (h_a2 : inr a2) (h_a3 : inr a3) {r : Int × IMem} (hf : f_X_of fu o0 a1 a2 a3 I0 = some r) : Ss l b 2 y_X_of KM RM [.ref o0, .int (iv a1), .int (iv a2), .int (iv a3)] (ivm I0) (Ps r) := by
  unfold f_X_of at hf
  refine Ss.of (show Ai l b 2 y_X_of KM RM (Ps r) I0 0 [.ref o0, .int (iv a1), .int (iv a2), .int (iv a3)] [] from ?_)
  refine aw_aload_n rfl rfl d_X_of_0 (aw_getr (r := o0 + 1) fl_X_7 h_o0 (by decide) rfl (rm_9_0 _ h_o0).1 d_X_of_1 (aw_iload_n rfl rfl d_X_of_4 (aw_iload_n rfl rfl d_X_of_5 ?_)))
  obtain ⟨y1, I2, c3, hf⟩ := of_zb hf
  refine ai_callS (as := [.int (iv a1), .int (iv a2)]) (d' := 1) mo_X_cell lk_X_260 rfl ⟨by decide, by decide⟩ rfl rfl (by decide) d_X_of_6 (t_X_cell fu a1 a2 I0 hI h_a1 h_a2 c3) (fun h_y1 h_I2 => ?_)
  refine aw_iload_n rfl rfl d_X_of_9 (ai_iadd d_X_of_10 ?_)
  refine ai_name hf (wr32_in _) (fun x4 h_x4 hf => ?_)
  refine ai_iald (rm_9_0 _ h_o0).2 rfl h_x4 hf d_X_of_11 (fun _ hf => ?_)
  exact ai_reti rfl d_X_of_12 hf (h_I2 (o0 + 1) x4.toNat) h_I2
end
