/-! the reference: shallow functions and the machine -/
abbrev y_X_stillStands : MI := (⟨"SinglesUpModel", "stillStands", "(I)Z"⟩, prog_11_method_84_code, 4, some .boolean)
theorem ck_X_stillStands_0 : (y_X_stillStands.2.1.data.toList.drop 0).take 32 = [3, 61, 28, 16, 6, 162, 0, 44, 3, 62, 29, 42, 180, 0, 7, 17, 0, 130, 28, 96, 46, 162, 0, 22, 42, 28, 29, 3, 182, 1, 8, 27] := by decide +kernel
theorem d_X_stillStands_0 : decode y_X_stillStands.2.1 0 = .ok (.iconst 0, 1) := op_iconst0 (gk (k := 0) (t := 0) ck_X_stillStands_0 rfl)
theorem d_X_stillStands_1 : decode y_X_stillStands.2.1 1 = .ok (.istore_n 2, 1) := op_istore_n2 (gk (k := 0) (t := 1) ck_X_stillStands_0 rfl)
theorem d_X_stillStands_2 : decode y_X_stillStands.2.1 2 = .ok (.iload_n 2, 1) := op_iload_n2 (gk (k := 0) (t := 2) ck_X_stillStands_0 rfl)
theorem d_X_stillStands_3 : decode y_X_stillStands.2.1 3 = .ok (.bipush 6, 2) := op_bipush (gk (k := 0) (t := 3) ck_X_stillStands_0 rfl) (gk (k := 0) (t := 4) ck_X_stillStands_0 rfl) rfl
theorem d_X_stillStands_5 : decode y_X_stillStands.2.1 5 = .ok (.if_icmp .ge 44, 3) := op_icmp_ge (gk (k := 0) (t := 5) ck_X_stillStands_0 rfl) (gk (k := 0) (t := 6) ck_X_stillStands_0 rfl) (gk (k := 0) (t := 7) ck_X_stillStands_0 rfl) (by decide +kernel)
theorem ck_X_stillStands_1 : (y_X_stillStands.2.1.data.toList.drop 32).take 32 = [160, 0, 5, 4, 172, 132, 3, 1, 167, 255, 226, 132, 2, 1, 167, 255, 212, 3, 172] := by decide +kernel
theorem d_X_stillStands_49 : decode y_X_stillStands.2.1 49 = .ok (.iconst 0, 1) := op_iconst0 (gk (k := 32) (t := 17) ck_X_stillStands_1 rfl)
theorem d_X_stillStands_50 : decode y_X_stillStands.2.1 50 = .ok (.ireturn, 1) := op_ireturn (gk (k := 32) (t := 18) ck_X_stillStands_1 rfl)
theorem d_X_stillStands_8 : decode y_X_stillStands.2.1 8 = .ok (.iconst 0, 1) := op_iconst0 (gk (k := 0) (t := 8) ck_X_stillStands_0 rfl)
theorem d_X_stillStands_9 : decode y_X_stillStands.2.1 9 = .ok (.istore_n 3, 1) := op_istore_n3 (gk (k := 0) (t := 9) ck_X_stillStands_0 rfl)
theorem d_X_stillStands_10 : decode y_X_stillStands.2.1 10 = .ok (.iload_n 3, 1) := op_iload_n3 (gk (k := 0) (t := 10) ck_X_stillStands_0 rfl)
theorem d_X_stillStands_11 : decode y_X_stillStands.2.1 11 = .ok (.aload_n 0, 1) := op_aload_n0 (gk (k := 0) (t := 11) ck_X_stillStands_0 rfl)
theorem d_X_stillStands_12 : decode y_X_stillStands.2.1 12 = .ok (.getfield 7, 3) := op_getfield (gk (k := 0) (t := 12) ck_X_stillStands_0 rfl) (gk (k := 0) (t := 13) ck_X_stillStands_0 rfl) (gk (k := 0) (t := 14) ck_X_stillStands_0 rfl) rfl
theorem d_X_stillStands_15 : decode y_X_stillStands.2.1 15 = .ok (.sipush 130, 3) := op_sipush (gk (k := 0) (t := 15) ck_X_stillStands_0 rfl) (gk (k := 0) (t := 16) ck_X_stillStands_0 rfl) (gk (k := 0) (t := 17) ck_X_stillStands_0 rfl) (by decide +kernel)
theorem d_X_stillStands_18 : decode y_X_stillStands.2.1 18 = .ok (.iload_n 2, 1) := op_iload_n2 (gk (k := 0) (t := 18) ck_X_stillStands_0 rfl)
theorem d_X_stillStands_19 : decode y_X_stillStands.2.1 19 = .ok (.iadd, 1) := op_iadd (gk (k := 0) (t := 19) ck_X_stillStands_0 rfl)
theorem d_X_stillStands_20 : decode y_X_stillStands.2.1 20 = .ok (.iaload, 1) := op_iaload (gk (k := 0) (t := 20) ck_X_stillStands_0 rfl)
theorem d_X_stillStands_21 : decode y_X_stillStands.2.1 21 = .ok (.if_icmp .ge 22, 3) := op_icmp_ge (gk (k := 0) (t := 21) ck_X_stillStands_0 rfl) (gk (k := 0) (t := 22) ck_X_stillStands_0 rfl) (gk (k := 0) (t := 23) ck_X_stillStands_0 rfl) (by decide +kernel)
theorem d_X_stillStands_24 : decode y_X_stillStands.2.1 24 = .ok (.aload_n 0, 1) := op_aload_n0 (gk (k := 0) (t := 24) ck_X_stillStands_0 rfl)
theorem d_X_stillStands_25 : decode y_X_stillStands.2.1 25 = .ok (.iload_n 2, 1) := op_iload_n2 (gk (k := 0) (t := 25) ck_X_stillStands_0 rfl)
theorem d_X_stillStands_26 : decode y_X_stillStands.2.1 26 = .ok (.iload_n 3, 1) := op_iload_n3 (gk (k := 0) (t := 26) ck_X_stillStands_0 rfl)
theorem d_X_stillStands_27 : decode y_X_stillStands.2.1 27 = .ok (.iconst 0, 1) := op_iconst0 (gk (k := 0) (t := 27) ck_X_stillStands_0 rfl)
theorem d_X_stillStands_28 : decode y_X_stillStands.2.1 28 = .ok (.invokevirtual 264, 3) := op_invokevirtual (gk (k := 0) (t := 28) ck_X_stillStands_0 rfl) (gk (k := 0) (t := 29) ck_X_stillStands_0 rfl) (gk (k := 0) (t := 30) ck_X_stillStands_0 rfl) rfl
theorem d_X_stillStands_31 : decode y_X_stillStands.2.1 31 = .ok (.iload_n 1, 1) := op_iload_n1 (gk (k := 0) (t := 31) ck_X_stillStands_0 rfl)
theorem d_X_stillStands_32 : decode y_X_stillStands.2.1 32 = .ok (.if_icmp .ne 5, 3) := op_icmp_ne (gk (k := 32) (t := 0) ck_X_stillStands_1 rfl) (gk (k := 32) (t := 1) ck_X_stillStands_1 rfl) (gk (k := 32) (t := 2) ck_X_stillStands_1 rfl) (by decide +kernel)
theorem d_X_stillStands_37 : decode y_X_stillStands.2.1 37 = .ok (.iinc 3 1, 3) := op_iinc (gk (k := 32) (t := 5) ck_X_stillStands_1 rfl) (gk (k := 32) (t := 6) ck_X_stillStands_1 rfl) (gk (k := 32) (t := 7) ck_X_stillStands_1 rfl) rfl rfl
theorem d_X_stillStands_40 : decode y_X_stillStands.2.1 40 = .ok (.goto (-30), 3) := op_goto (gk (k := 32) (t := 8) ck_X_stillStands_1 rfl) (gk (k := 32) (t := 9) ck_X_stillStands_1 rfl) (gk (k := 32) (t := 10) ck_X_stillStands_1 rfl) (by decide +kernel)
theorem d_X_stillStands_35 : decode y_X_stillStands.2.1 35 = .ok (.iconst 1, 1) := op_iconst1 (gk (k := 32) (t := 3) ck_X_stillStands_1 rfl)
theorem d_X_stillStands_36 : decode y_X_stillStands.2.1 36 = .ok (.ireturn, 1) := op_ireturn (gk (k := 32) (t := 4) ck_X_stillStands_1 rfl)
theorem d_X_stillStands_43 : decode y_X_stillStands.2.1 43 = .ok (.iinc 2 1, 3) := op_iinc (gk (k := 32) (t := 11) ck_X_stillStands_1 rfl) (gk (k := 32) (t := 12) ck_X_stillStands_1 rfl) (gk (k := 32) (t := 13) ck_X_stillStands_1 rfl) rfl rfl
theorem d_X_stillStands_46 : decode y_X_stillStands.2.1 46 = .ok (.goto (-44), 3) := op_goto (gk (k := 32) (t := 14) ck_X_stillStands_1 rfl) (gk (k := 32) (t := 15) ck_X_stillStands_1 rfl) (gk (k := 32) (t := 16) ck_X_stillStands_1 rfl) (by decide +kernel)
abbrev y_X_sitsAfter : MI := (⟨"SinglesUpModel", "sitsAfter", "(I)I"⟩, prog_11_method_85_code, 4, some .int)
theorem ck_X_sitsAfter_0 : (y_X_sitsAfter.2.1.data.toList.drop 0).take 32 = [42, 27, 181, 0, 41, 42, 3, 181, 1, 14, 3, 61, 28, 16, 40, 162, 0, 22, 42, 27, 182, 1, 130, 153, 0, 14, 42, 182, 1, 82, 62, 132] := by decide +kernel
theorem d_X_sitsAfter_0 : decode y_X_sitsAfter.2.1 0 = .ok (.aload_n 0, 1) := op_aload_n0 (gk (k := 0) (t := 0) ck_X_sitsAfter_0 rfl)
theorem d_X_sitsAfter_1 : decode y_X_sitsAfter.2.1 1 = .ok (.iload_n 1, 1) := op_iload_n1 (gk (k := 0) (t := 1) ck_X_sitsAfter_0 rfl)
theorem d_X_sitsAfter_2 : decode y_X_sitsAfter.2.1 2 = .ok (.putfield 41, 3) := op_putfield (gk (k := 0) (t := 2) ck_X_sitsAfter_0 rfl) (gk (k := 0) (t := 3) ck_X_sitsAfter_0 rfl) (gk (k := 0) (t := 4) ck_X_sitsAfter_0 rfl) rfl
theorem d_X_sitsAfter_5 : decode y_X_sitsAfter.2.1 5 = .ok (.aload_n 0, 1) := op_aload_n0 (gk (k := 0) (t := 5) ck_X_sitsAfter_0 rfl)
theorem d_X_sitsAfter_6 : decode y_X_sitsAfter.2.1 6 = .ok (.iconst 0, 1) := op_iconst0 (gk (k := 0) (t := 6) ck_X_sitsAfter_0 rfl)
theorem d_X_sitsAfter_7 : decode y_X_sitsAfter.2.1 7 = .ok (.putfield 270, 3) := op_putfield (gk (k := 0) (t := 7) ck_X_sitsAfter_0 rfl) (gk (k := 0) (t := 8) ck_X_sitsAfter_0 rfl) (gk (k := 0) (t := 9) ck_X_sitsAfter_0 rfl) rfl
theorem d_X_sitsAfter_10 : decode y_X_sitsAfter.2.1 10 = .ok (.iconst 0, 1) := op_iconst0 (gk (k := 0) (t := 10) ck_X_sitsAfter_0 rfl)
theorem d_X_sitsAfter_11 : decode y_X_sitsAfter.2.1 11 = .ok (.istore_n 2, 1) := op_istore_n2 (gk (k := 0) (t := 11) ck_X_sitsAfter_0 rfl)
theorem d_X_sitsAfter_12 : decode y_X_sitsAfter.2.1 12 = .ok (.iload_n 2, 1) := op_iload_n2 (gk (k := 0) (t := 12) ck_X_sitsAfter_0 rfl)
theorem d_X_sitsAfter_13 : decode y_X_sitsAfter.2.1 13 = .ok (.bipush 40, 2) := op_bipush (gk (k := 0) (t := 13) ck_X_sitsAfter_0 rfl) (gk (k := 0) (t := 14) ck_X_sitsAfter_0 rfl) rfl
theorem d_X_sitsAfter_15 : decode y_X_sitsAfter.2.1 15 = .ok (.if_icmp .ge 22, 3) := op_icmp_ge (gk (k := 0) (t := 15) ck_X_sitsAfter_0 rfl) (gk (k := 0) (t := 16) ck_X_sitsAfter_0 rfl) (gk (k := 0) (t := 17) ck_X_sitsAfter_0 rfl) (by decide +kernel)
theorem d_X_sitsAfter_18 : decode y_X_sitsAfter.2.1 18 = .ok (.aload_n 0, 1) := op_aload_n0 (gk (k := 0) (t := 18) ck_X_sitsAfter_0 rfl)
theorem d_X_sitsAfter_19 : decode y_X_sitsAfter.2.1 19 = .ok (.iload_n 1, 1) := op_iload_n1 (gk (k := 0) (t := 19) ck_X_sitsAfter_0 rfl)
theorem lk_X_386 : LkV "SinglesUpModel" 386 y_X_stillStands := ⟨tw_c7 112 (by decide +kernel) rfl, tw_in 89 (by decide +kernel) rfl, Or.inl (tw_c7 110 (by decide +kernel) rfl)⟩
set_option maxRecDepth 100000 in
theorem mo_X_stillStands : MOk y_X_stillStands 1 := ⟨by decide +kernel, tw_c7 113 rfl rfl, tw_c1 12 (by decide +kernel) rfl, by decide +kernel, by decide +kernel, by decide +kernel⟩
theorem d_X_sitsAfter_20 : decode y_X_sitsAfter.2.1 20 = .ok (.invokevirtual 386, 3) := op_invokevirtual (gk (k := 0) (t := 20) ck_X_sitsAfter_0 rfl) (gk (k := 0) (t := 21) ck_X_sitsAfter_0 rfl) (gk (k := 0) (t := 22) ck_X_sitsAfter_0 rfl) rfl
theorem d_X_sitsAfter_23 : decode y_X_sitsAfter.2.1 23 = .ok (.ifCond .eq 14, 3) := op_if_eq (gk (k := 0) (t := 23) ck_X_sitsAfter_0 rfl) (gk (k := 0) (t := 24) ck_X_sitsAfter_0 rfl) (gk (k := 0) (t := 25) ck_X_sitsAfter_0 rfl) (by decide +kernel)
theorem d_X_sitsAfter_26 : decode y_X_sitsAfter.2.1 26 = .ok (.aload_n 0, 1) := op_aload_n0 (gk (k := 0) (t := 26) ck_X_sitsAfter_0 rfl)
theorem d_X_sitsAfter_27 : decode y_X_sitsAfter.2.1 27 = .ok (.invokevirtual 338, 3) := op_invokevirtual (gk (k := 0) (t := 27) ck_X_sitsAfter_0 rfl) (gk (k := 0) (t := 28) ck_X_sitsAfter_0 rfl) (gk (k := 0) (t := 29) ck_X_sitsAfter_0 rfl) rfl
theorem d_X_sitsAfter_30 : decode y_X_sitsAfter.2.1 30 = .ok (.istore_n 3, 1) := op_istore_n3 (gk (k := 0) (t := 30) ck_X_sitsAfter_0 rfl)
theorem ck_X_sitsAfter_1 : (y_X_sitsAfter.2.1.data.toList.drop 32).take 32 = [2, 1, 167, 255, 234, 42, 180, 1, 14, 154, 0, 11, 42, 27, 182, 1, 130, 153, 0, 7, 4, 167, 0, 4, 3, 62, 42, 2, 181, 0, 41, 29] := by decide +kernel
theorem d_X_sitsAfter_31 : decode y_X_sitsAfter.2.1 31 = .ok (.iinc 2 1, 3) := op_iinc (gk (k := 0) (t := 31) ck_X_sitsAfter_0 rfl) (gk (k := 32) (t := 0) ck_X_sitsAfter_1 rfl) (gk (k := 32) (t := 1) ck_X_sitsAfter_1 rfl) rfl rfl
theorem d_X_sitsAfter_34 : decode y_X_sitsAfter.2.1 34 = .ok (.goto (-22), 3) := op_goto (gk (k := 32) (t := 2) ck_X_sitsAfter_1 rfl) (gk (k := 32) (t := 3) ck_X_sitsAfter_1 rfl) (gk (k := 32) (t := 4) ck_X_sitsAfter_1 rfl) (by decide +kernel)
theorem d_X_sitsAfter_37 : decode y_X_sitsAfter.2.1 37 = .ok (.aload_n 0, 1) := op_aload_n0 (gk (k := 32) (t := 5) ck_X_sitsAfter_1 rfl)
theorem d_X_sitsAfter_38 : decode y_X_sitsAfter.2.1 38 = .ok (.getfield 270, 3) := op_getfield (gk (k := 32) (t := 6) ck_X_sitsAfter_1 rfl) (gk (k := 32) (t := 7) ck_X_sitsAfter_1 rfl) (gk (k := 32) (t := 8) ck_X_sitsAfter_1 rfl) rfl
theorem d_X_sitsAfter_57 : decode y_X_sitsAfter.2.1 57 = .ok (.istore_n 3, 1) := op_istore_n3 (gk (k := 32) (t := 25) ck_X_sitsAfter_1 rfl)
theorem d_X_sitsAfter_58 : decode y_X_sitsAfter.2.1 58 = .ok (.aload_n 0, 1) := op_aload_n0 (gk (k := 32) (t := 26) ck_X_sitsAfter_1 rfl)
theorem d_X_sitsAfter_59 : decode y_X_sitsAfter.2.1 59 = .ok (.iconst (-1), 1) := op_iconstm1 (gk (k := 32) (t := 27) ck_X_sitsAfter_1 rfl)
theorem d_X_sitsAfter_60 : decode y_X_sitsAfter.2.1 60 = .ok (.putfield 41, 3) := op_putfield (gk (k := 32) (t := 28) ck_X_sitsAfter_1 rfl) (gk (k := 32) (t := 29) ck_X_sitsAfter_1 rfl) (gk (k := 32) (t := 30) ck_X_sitsAfter_1 rfl) rfl
theorem d_X_sitsAfter_63 : decode y_X_sitsAfter.2.1 63 = .ok (.iload_n 3, 1) := op_iload_n3 (gk (k := 32) (t := 31) ck_X_sitsAfter_1 rfl)
theorem ck_X_sitsAfter_2 : (y_X_sitsAfter.2.1.data.toList.drop 64).take 32 = [153, 0, 7, 2, 167, 0, 4, 28, 172] := by decide +kernel
theorem d_X_sitsAfter_64 : decode y_X_sitsAfter.2.1 64 = .ok (.ifCond .eq 7, 3) := op_if_eq (gk (k := 64) (t := 0) ck_X_sitsAfter_2 rfl) (gk (k := 64) (t := 1) ck_X_sitsAfter_2 rfl) (gk (k := 64) (t := 2) ck_X_sitsAfter_2 rfl) (by decide +kernel)
theorem d_X_sitsAfter_71 : decode y_X_sitsAfter.2.1 71 = .ok (.iload_n 2, 1) := op_iload_n2 (gk (k := 64) (t := 7) ck_X_sitsAfter_2 rfl)
theorem d_X_sitsAfter_72 : decode y_X_sitsAfter.2.1 72 = .ok (.ireturn, 1) := op_ireturn (gk (k := 64) (t := 8) ck_X_sitsAfter_2 rfl)
theorem d_X_sitsAfter_67 : decode y_X_sitsAfter.2.1 67 = .ok (.iconst (-1), 1) := op_iconstm1 (gk (k := 64) (t := 3) ck_X_sitsAfter_2 rfl)
theorem d_X_sitsAfter_68 : decode y_X_sitsAfter.2.1 68 = .ok (.goto 4, 3) := op_goto (gk (k := 64) (t := 4) ck_X_sitsAfter_2 rfl) (gk (k := 64) (t := 5) ck_X_sitsAfter_2 rfl) (gk (k := 64) (t := 6) ck_X_sitsAfter_2 rfl) (by decide +kernel)
theorem d_X_sitsAfter_41 : decode y_X_sitsAfter.2.1 41 = .ok (.ifCond .ne 11, 3) := op_if_ne (gk (k := 32) (t := 9) ck_X_sitsAfter_1 rfl) (gk (k := 32) (t := 10) ck_X_sitsAfter_1 rfl) (gk (k := 32) (t := 11) ck_X_sitsAfter_1 rfl) (by decide +kernel)
theorem d_X_sitsAfter_52 : decode y_X_sitsAfter.2.1 52 = .ok (.iconst 1, 1) := op_iconst1 (gk (k := 32) (t := 20) ck_X_sitsAfter_1 rfl)
theorem d_X_sitsAfter_53 : decode y_X_sitsAfter.2.1 53 = .ok (.goto 4, 3) := op_goto (gk (k := 32) (t := 21) ck_X_sitsAfter_1 rfl) (gk (k := 32) (t := 22) ck_X_sitsAfter_1 rfl) (gk (k := 32) (t := 23) ck_X_sitsAfter_1 rfl) (by decide +kernel)
theorem d_X_sitsAfter_44 : decode y_X_sitsAfter.2.1 44 = .ok (.aload_n 0, 1) := op_aload_n0 (gk (k := 32) (t := 12) ck_X_sitsAfter_1 rfl)
theorem d_X_sitsAfter_45 : decode y_X_sitsAfter.2.1 45 = .ok (.iload_n 1, 1) := op_iload_n1 (gk (k := 32) (t := 13) ck_X_sitsAfter_1 rfl)
theorem d_X_sitsAfter_46 : decode y_X_sitsAfter.2.1 46 = .ok (.invokevirtual 386, 3) := op_invokevirtual (gk (k := 32) (t := 14) ck_X_sitsAfter_1 rfl) (gk (k := 32) (t := 15) ck_X_sitsAfter_1 rfl) (gk (k := 32) (t := 16) ck_X_sitsAfter_1 rfl) rfl
theorem d_X_sitsAfter_49 : decode y_X_sitsAfter.2.1 49 = .ok (.ifCond .eq 7, 3) := op_if_eq (gk (k := 32) (t := 17) ck_X_sitsAfter_1 rfl) (gk (k := 32) (t := 18) ck_X_sitsAfter_1 rfl) (gk (k := 32) (t := 19) ck_X_sitsAfter_1 rfl) (by decide +kernel)
theorem d_X_sitsAfter_56 : decode y_X_sitsAfter.2.1 56 = .ok (.iconst 0, 1) := op_iconst0 (gk (k := 32) (t := 24) ck_X_sitsAfter_1 rfl)
abbrev y_X_till : MI := (⟨"SinglesUpModel", "till", "(II)I"⟩, prog_11_method_87_code, 5, some .int)
theorem ck_X_till_0 : (y_X_till.2.1.data.toList.drop 0).take 32 = [42, 27, 28, 182, 1, 133, 154, 0, 5, 2, 172, 42, 27, 28, 3, 182, 1, 8, 62, 42, 182, 1, 136, 42, 29, 182, 1, 139, 54, 4, 42, 182] := by decide +kernel
theorem d_X_till_0 : decode y_X_till.2.1 0 = .ok (.aload_n 0, 1) := op_aload_n0 (gk (k := 0) (t := 0) ck_X_till_0 rfl)
theorem d_X_till_1 : decode y_X_till.2.1 1 = .ok (.iload_n 1, 1) := op_iload_n1 (gk (k := 0) (t := 1) ck_X_till_0 rfl)
theorem d_X_till_2 : decode y_X_till.2.1 2 = .ok (.iload_n 2, 1) := op_iload_n2 (gk (k := 0) (t := 2) ck_X_till_0 rfl)
theorem lk_X_389 : LkV "SinglesUpModel" 389 y_X_isThere := ⟨tw_c7 100 (by decide +kernel) rfl, tw_in 86 (by decide +kernel) rfl, Or.inl (tw_c7 98 (by decide +kernel) rfl)⟩
set_option maxRecDepth 100000 in
theorem mo_X_isThere : MOk y_X_isThere 2 := ⟨by decide +kernel, tw_c7 101 rfl rfl, tw_c1 12 (by decide +kernel) rfl, by decide +kernel, by decide +kernel, by decide +kernel⟩
theorem d_X_till_3 : decode y_X_till.2.1 3 = .ok (.invokevirtual 389, 3) := op_invokevirtual (gk (k := 0) (t := 3) ck_X_till_0 rfl) (gk (k := 0) (t := 4) ck_X_till_0 rfl) (gk (k := 0) (t := 5) ck_X_till_0 rfl) rfl
theorem d_X_till_6 : decode y_X_till.2.1 6 = .ok (.ifCond .ne 5, 3) := op_if_ne (gk (k := 0) (t := 6) ck_X_till_0 rfl) (gk (k := 0) (t := 7) ck_X_till_0 rfl) (gk (k := 0) (t := 8) ck_X_till_0 rfl) (by decide +kernel)
theorem d_X_till_11 : decode y_X_till.2.1 11 = .ok (.aload_n 0, 1) := op_aload_n0 (gk (k := 0) (t := 11) ck_X_till_0 rfl)
theorem d_X_till_12 : decode y_X_till.2.1 12 = .ok (.iload_n 1, 1) := op_iload_n1 (gk (k := 0) (t := 12) ck_X_till_0 rfl)
theorem d_X_till_13 : decode y_X_till.2.1 13 = .ok (.iload_n 2, 1) := op_iload_n2 (gk (k := 0) (t := 13) ck_X_till_0 rfl)
theorem d_X_till_14 : decode y_X_till.2.1 14 = .ok (.iconst 0, 1) := op_iconst0 (gk (k := 0) (t := 14) ck_X_till_0 rfl)
theorem d_X_till_15 : decode y_X_till.2.1 15 = .ok (.invokevirtual 264, 3) := op_invokevirtual (gk (k := 0) (t := 15) ck_X_till_0 rfl) (gk (k := 0) (t := 16) ck_X_till_0 rfl) (gk (k := 0) (t := 17) ck_X_till_0 rfl) rfl
theorem d_X_till_18 : decode y_X_till.2.1 18 = .ok (.istore_n 3, 1) := op_istore_n3 (gk (k := 0) (t := 18) ck_X_till_0 rfl)
theorem d_X_till_19 : decode y_X_till.2.1 19 = .ok (.aload_n 0, 1) := op_aload_n0 (gk (k := 0) (t := 19) ck_X_till_0 rfl)
theorem d_X_till_20 : decode y_X_till.2.1 20 = .ok (.invokevirtual 392, 3) := op_invokevirtual (gk (k := 0) (t := 20) ck_X_till_0 rfl) (gk (k := 0) (t := 21) ck_X_till_0 rfl) (gk (k := 0) (t := 22) ck_X_till_0 rfl) rfl
theorem d_X_till_23 : decode y_X_till.2.1 23 = .ok (.aload_n 0, 1) := op_aload_n0 (gk (k := 0) (t := 23) ck_X_till_0 rfl)
theorem d_X_till_24 : decode y_X_till.2.1 24 = .ok (.iload_n 3, 1) := op_iload_n3 (gk (k := 0) (t := 24) ck_X_till_0 rfl)
theorem lk_X_395 : LkV "SinglesUpModel" 395 y_X_sitsAfter := ⟨tw_c7 108 (by decide +kernel) rfl, tw_in 88 (by decide +kernel) rfl, Or.inl (tw_c7 106 (by decide +kernel) rfl)⟩
set_option maxRecDepth 100000 in
theorem mo_X_sitsAfter : MOk y_X_sitsAfter 1 := ⟨by decide +kernel, tw_c7 109 rfl rfl, tw_c1 12 (by decide +kernel) rfl, by decide +kernel, by decide +kernel, by decide +kernel⟩
theorem d_X_till_25 : decode y_X_till.2.1 25 = .ok (.invokevirtual 395, 3) := op_invokevirtual (gk (k := 0) (t := 25) ck_X_till_0 rfl) (gk (k := 0) (t := 26) ck_X_till_0 rfl) (gk (k := 0) (t := 27) ck_X_till_0 rfl) rfl
theorem d_X_till_28 : decode y_X_till.2.1 28 = .ok (.istore 4, 2) := op_istore (gk (k := 0) (t := 28) ck_X_till_0 rfl) (gk (k := 0) (t := 29) ck_X_till_0 rfl) rfl
theorem d_X_till_30 : decode y_X_till.2.1 30 = .ok (.aload_n 0, 1) := op_aload_n0 (gk (k := 0) (t := 30) ck_X_till_0 rfl)
theorem ck_X_till_1 : (y_X_till.2.1.data.toList.drop 32).take 32 = [1, 142, 21, 4, 172] := by decide +kernel
theorem d_X_till_31 : decode y_X_till.2.1 31 = .ok (.invokevirtual 398, 3) := op_invokevirtual (gk (k := 0) (t := 31) ck_X_till_0 rfl) (gk (k := 32) (t := 0) ck_X_till_1 rfl) (gk (k := 32) (t := 1) ck_X_till_1 rfl) rfl
theorem d_X_till_34 : decode y_X_till.2.1 34 = .ok (.iload 4, 2) := op_iload (gk (k := 32) (t := 2) ck_X_till_1 rfl) (gk (k := 32) (t := 3) ck_X_till_1 rfl) rfl
theorem d_X_till_36 : decode y_X_till.2.1 36 = .ok (.ireturn, 1) := op_ireturn (gk (k := 32) (t := 4) ck_X_till_1 rfl)
theorem d_X_till_9 : decode y_X_till.2.1 9 = .ok (.iconst (-1), 1) := op_iconstm1 (gk (k := 0) (t := 9) ck_X_till_0 rfl)
theorem d_X_till_10 : decode y_X_till.2.1 10 = .ok (.ireturn, 1) := op_ireturn (gk (k := 0) (t := 10) ck_X_till_0 rfl)
abbrev y_X_isPlain : MI := (⟨"SinglesUpModel", "isPlain", "(II)Z"⟩, prog_11_method_88_code, 3, some .boolean)
theorem ck_X_isPlain_0 : (y_X_isPlain.2.1.data.toList.drop 0).take 32 = [42, 27, 28, 182, 1, 133, 153, 0, 34, 42, 27, 28, 6, 182, 1, 8, 154, 0, 24, 42, 27, 28, 5, 182, 1, 8, 42, 27, 28, 4, 182, 1] := by decide +kernel
theorem d_X_isPlain_0 : decode y_X_isPlain.2.1 0 = .ok (.aload_n 0, 1) := op_aload_n0 (gk (k := 0) (t := 0) ck_X_isPlain_0 rfl)
theorem d_X_isPlain_1 : decode y_X_isPlain.2.1 1 = .ok (.iload_n 1, 1) := op_iload_n1 (gk (k := 0) (t := 1) ck_X_isPlain_0 rfl)
theorem d_X_isPlain_2 : decode y_X_isPlain.2.1 2 = .ok (.iload_n 2, 1) := op_iload_n2 (gk (k := 0) (t := 2) ck_X_isPlain_0 rfl)
theorem d_X_isPlain_3 : decode y_X_isPlain.2.1 3 = .ok (.invokevirtual 389, 3) := op_invokevirtual (gk (k := 0) (t := 3) ck_X_isPlain_0 rfl) (gk (k := 0) (t := 4) ck_X_isPlain_0 rfl) (gk (k := 0) (t := 5) ck_X_isPlain_0 rfl) rfl
theorem d_X_isPlain_6 : decode y_X_isPlain.2.1 6 = .ok (.ifCond .eq 34, 3) := op_if_eq (gk (k := 0) (t := 6) ck_X_isPlain_0 rfl) (gk (k := 0) (t := 7) ck_X_isPlain_0 rfl) (gk (k := 0) (t := 8) ck_X_isPlain_0 rfl) (by decide +kernel)
theorem ck_X_isPlain_1 : (y_X_isPlain.2.1.data.toList.drop 32).take 32 = [8, 160, 0, 7, 4, 167, 0, 4, 3, 172] := by decide +kernel
theorem d_X_isPlain_40 : decode y_X_isPlain.2.1 40 = .ok (.iconst 0, 1) := op_iconst0 (gk (k := 32) (t := 8) ck_X_isPlain_1 rfl)
theorem d_X_isPlain_41 : decode y_X_isPlain.2.1 41 = .ok (.ireturn, 1) := op_ireturn (gk (k := 32) (t := 9) ck_X_isPlain_1 rfl)
theorem d_X_isPlain_9 : decode y_X_isPlain.2.1 9 = .ok (.aload_n 0, 1) := op_aload_n0 (gk (k := 0) (t := 9) ck_X_isPlain_0 rfl)
theorem d_X_isPlain_10 : decode y_X_isPlain.2.1 10 = .ok (.iload_n 1, 1) := op_iload_n1 (gk (k := 0) (t := 10) ck_X_isPlain_0 rfl)
theorem d_X_isPlain_11 : decode y_X_isPlain.2.1 11 = .ok (.iload_n 2, 1) := op_iload_n2 (gk (k := 0) (t := 11) ck_X_isPlain_0 rfl)
theorem d_X_isPlain_12 : decode y_X_isPlain.2.1 12 = .ok (.iconst 3, 1) := op_iconst3 (gk (k := 0) (t := 12) ck_X_isPlain_0 rfl)
theorem d_X_isPlain_13 : decode y_X_isPlain.2.1 13 = .ok (.invokevirtual 264, 3) := op_invokevirtual (gk (k := 0) (t := 13) ck_X_isPlain_0 rfl) (gk (k := 0) (t := 14) ck_X_isPlain_0 rfl) (gk (k := 0) (t := 15) ck_X_isPlain_0 rfl) rfl
theorem d_X_isPlain_16 : decode y_X_isPlain.2.1 16 = .ok (.ifCond .ne 24, 3) := op_if_ne (gk (k := 0) (t := 16) ck_X_isPlain_0 rfl) (gk (k := 0) (t := 17) ck_X_isPlain_0 rfl) (gk (k := 0) (t := 18) ck_X_isPlain_0 rfl) (by decide +kernel)
theorem d_X_isPlain_19 : decode y_X_isPlain.2.1 19 = .ok (.aload_n 0, 1) := op_aload_n0 (gk (k := 0) (t := 19) ck_X_isPlain_0 rfl)
theorem d_X_isPlain_20 : decode y_X_isPlain.2.1 20 = .ok (.iload_n 1, 1) := op_iload_n1 (gk (k := 0) (t := 20) ck_X_isPlain_0 rfl)
theorem d_X_isPlain_21 : decode y_X_isPlain.2.1 21 = .ok (.iload_n 2, 1) := op_iload_n2 (gk (k := 0) (t := 21) ck_X_isPlain_0 rfl)
theorem d_X_isPlain_22 : decode y_X_isPlain.2.1 22 = .ok (.iconst 2, 1) := op_iconst2 (gk (k := 0) (t := 22) ck_X_isPlain_0 rfl)
theorem d_X_isPlain_23 : decode y_X_isPlain.2.1 23 = .ok (.invokevirtual 264, 3) := op_invokevirtual (gk (k := 0) (t := 23) ck_X_isPlain_0 rfl) (gk (k := 0) (t := 24) ck_X_isPlain_0 rfl) (gk (k := 0) (t := 25) ck_X_isPlain_0 rfl) rfl
theorem d_X_isPlain_26 : decode y_X_isPlain.2.1 26 = .ok (.aload_n 0, 1) := op_aload_n0 (gk (k := 0) (t := 26) ck_X_isPlain_0 rfl)
theorem d_X_isPlain_27 : decode y_X_isPlain.2.1 27 = .ok (.iload_n 1, 1) := op_iload_n1 (gk (k := 0) (t := 27) ck_X_isPlain_0 rfl)
theorem d_X_isPlain_28 : decode y_X_isPlain.2.1 28 = .ok (.iload_n 2, 1) := op_iload_n2 (gk (k := 0) (t := 28) ck_X_isPlain_0 rfl)
theorem d_X_isPlain_29 : decode y_X_isPlain.2.1 29 = .ok (.iconst 1, 1) := op_iconst1 (gk (k := 0) (t := 29) ck_X_isPlain_0 rfl)
theorem d_X_isPlain_30 : decode y_X_isPlain.2.1 30 = .ok (.invokevirtual 264, 3) := op_invokevirtual (gk (k := 0) (t := 30) ck_X_isPlain_0 rfl) (gk (k := 0) (t := 31) ck_X_isPlain_0 rfl) (gk (k := 32) (t := 0) ck_X_isPlain_1 rfl) rfl
theorem d_X_isPlain_33 : decode y_X_isPlain.2.1 33 = .ok (.if_icmp .ne 7, 3) := op_icmp_ne (gk (k := 32) (t := 1) ck_X_isPlain_1 rfl) (gk (k := 32) (t := 2) ck_X_isPlain_1 rfl) (gk (k := 32) (t := 3) ck_X_isPlain_1 rfl) (by decide +kernel)
theorem d_X_isPlain_36 : decode y_X_isPlain.2.1 36 = .ok (.iconst 1, 1) := op_iconst1 (gk (k := 32) (t := 4) ck_X_isPlain_1 rfl)
theorem d_X_isPlain_37 : decode y_X_isPlain.2.1 37 = .ok (.goto 4, 3) := op_goto (gk (k := 32) (t := 5) ck_X_isPlain_1 rfl) (gk (k := 32) (t := 6) ck_X_isPlain_1 rfl) (gk (k := 32) (t := 7) ck_X_isPlain_1 rfl) (by decide +kernel)
abbrev y_X_joined : MI := (⟨"SinglesUpModel", "joined", "(IIII)I"⟩, prog_11_method_89_code, 9, some .int)
theorem ck_X_joined_0 : (y_X_joined.2.1.data.toList.drop 0).take 32 = [42, 29, 21, 4, 3, 182, 1, 8, 54, 5, 42, 27, 28, 4, 182, 1, 8, 42, 29, 21, 4, 4, 182, 1, 8, 96, 54, 6, 42, 182, 1, 136] := by decide +kernel
theorem d_X_joined_0 : decode y_X_joined.2.1 0 = .ok (.aload_n 0, 1) := op_aload_n0 (gk (k := 0) (t := 0) ck_X_joined_0 rfl)
theorem d_X_joined_1 : decode y_X_joined.2.1 1 = .ok (.iload_n 3, 1) := op_iload_n3 (gk (k := 0) (t := 1) ck_X_joined_0 rfl)
theorem d_X_joined_2 : decode y_X_joined.2.1 2 = .ok (.iload 4, 2) := op_iload (gk (k := 0) (t := 2) ck_X_joined_0 rfl) (gk (k := 0) (t := 3) ck_X_joined_0 rfl) rfl
theorem d_X_joined_4 : decode y_X_joined.2.1 4 = .ok (.iconst 0, 1) := op_iconst0 (gk (k := 0) (t := 4) ck_X_joined_0 rfl)
theorem d_X_joined_5 : decode y_X_joined.2.1 5 = .ok (.invokevirtual 264, 3) := op_invokevirtual (gk (k := 0) (t := 5) ck_X_joined_0 rfl) (gk (k := 0) (t := 6) ck_X_joined_0 rfl) (gk (k := 0) (t := 7) ck_X_joined_0 rfl) rfl
theorem d_X_joined_8 : decode y_X_joined.2.1 8 = .ok (.istore 5, 2) := op_istore (gk (k := 0) (t := 8) ck_X_joined_0 rfl) (gk (k := 0) (t := 9) ck_X_joined_0 rfl) rfl
theorem d_X_joined_10 : decode y_X_joined.2.1 10 = .ok (.aload_n 0, 1) := op_aload_n0 (gk (k := 0) (t := 10) ck_X_joined_0 rfl)
theorem d_X_joined_11 : decode y_X_joined.2.1 11 = .ok (.iload_n 1, 1) := op_iload_n1 (gk (k := 0) (t := 11) ck_X_joined_0 rfl)
theorem d_X_joined_12 : decode y_X_joined.2.1 12 = .ok (.iload_n 2, 1) := op_iload_n2 (gk (k := 0) (t := 12) ck_X_joined_0 rfl)
theorem d_X_joined_13 : decode y_X_joined.2.1 13 = .ok (.iconst 1, 1) := op_iconst1 (gk (k := 0) (t := 13) ck_X_joined_0 rfl)
theorem d_X_joined_14 : decode y_X_joined.2.1 14 = .ok (.invokevirtual 264, 3) := op_invokevirtual (gk (k := 0) (t := 14) ck_X_joined_0 rfl) (gk (k := 0) (t := 15) ck_X_joined_0 rfl) (gk (k := 0) (t := 16) ck_X_joined_0 rfl) rfl
theorem d_X_joined_17 : decode y_X_joined.2.1 17 = .ok (.aload_n 0, 1) := op_aload_n0 (gk (k := 0) (t := 17) ck_X_joined_0 rfl)
theorem d_X_joined_18 : decode y_X_joined.2.1 18 = .ok (.iload_n 3, 1) := op_iload_n3 (gk (k := 0) (t := 18) ck_X_joined_0 rfl)
theorem d_X_joined_19 : decode y_X_joined.2.1 19 = .ok (.iload 4, 2) := op_iload (gk (k := 0) (t := 19) ck_X_joined_0 rfl) (gk (k := 0) (t := 20) ck_X_joined_0 rfl) rfl
theorem d_X_joined_21 : decode y_X_joined.2.1 21 = .ok (.iconst 1, 1) := op_iconst1 (gk (k := 0) (t := 21) ck_X_joined_0 rfl)
theorem d_X_joined_22 : decode y_X_joined.2.1 22 = .ok (.invokevirtual 264, 3) := op_invokevirtual (gk (k := 0) (t := 22) ck_X_joined_0 rfl) (gk (k := 0) (t := 23) ck_X_joined_0 rfl) (gk (k := 0) (t := 24) ck_X_joined_0 rfl) rfl
theorem d_X_joined_25 : decode y_X_joined.2.1 25 = .ok (.iadd, 1) := op_iadd (gk (k := 0) (t := 25) ck_X_joined_0 rfl)
theorem d_X_joined_26 : decode y_X_joined.2.1 26 = .ok (.istore 6, 2) := op_istore (gk (k := 0) (t := 26) ck_X_joined_0 rfl) (gk (k := 0) (t := 27) ck_X_joined_0 rfl) rfl
theorem d_X_joined_28 : decode y_X_joined.2.1 28 = .ok (.aload_n 0, 1) := op_aload_n0 (gk (k := 0) (t := 28) ck_X_joined_0 rfl)
theorem d_X_joined_29 : decode y_X_joined.2.1 29 = .ok (.invokevirtual 392, 3) := op_invokevirtual (gk (k := 0) (t := 29) ck_X_joined_0 rfl) (gk (k := 0) (t := 30) ck_X_joined_0 rfl) (gk (k := 0) (t := 31) ck_X_joined_0 rfl) rfl
theorem ck_X_joined_1 : (y_X_joined.2.1.data.toList.drop 32).take 32 = [42, 180, 0, 7, 29, 21, 4, 184, 1, 4, 4, 96, 21, 6, 79, 42, 180, 0, 7, 29, 21, 4, 184, 1, 4, 5, 96, 21, 6, 79, 28, 54] := by decide +kernel
theorem d_X_joined_32 : decode y_X_joined.2.1 32 = .ok (.aload_n 0, 1) := op_aload_n0 (gk (k := 32) (t := 0) ck_X_joined_1 rfl)
theorem d_X_joined_33 : decode y_X_joined.2.1 33 = .ok (.getfield 7, 3) := op_getfield (gk (k := 32) (t := 1) ck_X_joined_1 rfl) (gk (k := 32) (t := 2) ck_X_joined_1 rfl) (gk (k := 32) (t := 3) ck_X_joined_1 rfl) rfl
theorem d_X_joined_36 : decode y_X_joined.2.1 36 = .ok (.iload_n 3, 1) := op_iload_n3 (gk (k := 32) (t := 4) ck_X_joined_1 rfl)
theorem d_X_joined_37 : decode y_X_joined.2.1 37 = .ok (.iload 4, 2) := op_iload (gk (k := 32) (t := 5) ck_X_joined_1 rfl) (gk (k := 32) (t := 6) ck_X_joined_1 rfl) rfl
theorem d_X_joined_39 : decode y_X_joined.2.1 39 = .ok (.invokestatic 260, 3) := op_invokestatic (gk (k := 32) (t := 7) ck_X_joined_1 rfl) (gk (k := 32) (t := 8) ck_X_joined_1 rfl) (gk (k := 32) (t := 9) ck_X_joined_1 rfl) rfl
theorem d_X_joined_42 : decode y_X_joined.2.1 42 = .ok (.iconst 1, 1) := op_iconst1 (gk (k := 32) (t := 10) ck_X_joined_1 rfl)
theorem d_X_joined_43 : decode y_X_joined.2.1 43 = .ok (.iadd, 1) := op_iadd (gk (k := 32) (t := 11) ck_X_joined_1 rfl)
theorem d_X_joined_44 : decode y_X_joined.2.1 44 = .ok (.iload 6, 2) := op_iload (gk (k := 32) (t := 12) ck_X_joined_1 rfl) (gk (k := 32) (t := 13) ck_X_joined_1 rfl) rfl
theorem d_X_joined_46 : decode y_X_joined.2.1 46 = .ok (.iastore, 1) := op_iastore (gk (k := 32) (t := 14) ck_X_joined_1 rfl)
theorem d_X_joined_47 : decode y_X_joined.2.1 47 = .ok (.aload_n 0, 1) := op_aload_n0 (gk (k := 32) (t := 15) ck_X_joined_1 rfl)
theorem d_X_joined_48 : decode y_X_joined.2.1 48 = .ok (.getfield 7, 3) := op_getfield (gk (k := 32) (t := 16) ck_X_joined_1 rfl) (gk (k := 32) (t := 17) ck_X_joined_1 rfl) (gk (k := 32) (t := 18) ck_X_joined_1 rfl) rfl
theorem d_X_joined_51 : decode y_X_joined.2.1 51 = .ok (.iload_n 3, 1) := op_iload_n3 (gk (k := 32) (t := 19) ck_X_joined_1 rfl)
theorem d_X_joined_52 : decode y_X_joined.2.1 52 = .ok (.iload 4, 2) := op_iload (gk (k := 32) (t := 20) ck_X_joined_1 rfl) (gk (k := 32) (t := 21) ck_X_joined_1 rfl) rfl
theorem d_X_joined_54 : decode y_X_joined.2.1 54 = .ok (.invokestatic 260, 3) := op_invokestatic (gk (k := 32) (t := 22) ck_X_joined_1 rfl) (gk (k := 32) (t := 23) ck_X_joined_1 rfl) (gk (k := 32) (t := 24) ck_X_joined_1 rfl) rfl
theorem d_X_joined_57 : decode y_X_joined.2.1 57 = .ok (.iconst 2, 1) := op_iconst2 (gk (k := 32) (t := 25) ck_X_joined_1 rfl)
theorem d_X_joined_58 : decode y_X_joined.2.1 58 = .ok (.iadd, 1) := op_iadd (gk (k := 32) (t := 26) ck_X_joined_1 rfl)
theorem d_X_joined_59 : decode y_X_joined.2.1 59 = .ok (.iload 6, 2) := op_iload (gk (k := 32) (t := 27) ck_X_joined_1 rfl) (gk (k := 32) (t := 28) ck_X_joined_1 rfl) rfl
theorem d_X_joined_61 : decode y_X_joined.2.1 61 = .ok (.iastore, 1) := op_iastore (gk (k := 32) (t := 29) ck_X_joined_1 rfl)
theorem d_X_joined_62 : decode y_X_joined.2.1 62 = .ok (.iload_n 2, 1) := op_iload_n2 (gk (k := 32) (t := 30) ck_X_joined_1 rfl)
theorem ck_X_joined_2 : (y_X_joined.2.1.data.toList.drop 64).take 32 = [7, 21, 7, 4, 96, 42, 180, 0, 7, 17, 0, 130, 27, 96, 46, 162, 0, 50, 3, 54, 8, 21, 8, 16, 6, 162, 0, 34, 42, 180, 0, 7] := by decide +kernel
theorem d_X_joined_63 : decode y_X_joined.2.1 63 = .ok (.istore 7, 2) := op_istore (gk (k := 32) (t := 31) ck_X_joined_1 rfl) (gk (k := 64) (t := 0) ck_X_joined_2 rfl) rfl
theorem d_X_joined_65 : decode y_X_joined.2.1 65 = .ok (.iload 7, 2) := op_iload (gk (k := 64) (t := 1) ck_X_joined_2 rfl) (gk (k := 64) (t := 2) ck_X_joined_2 rfl) rfl
theorem d_X_joined_67 : decode y_X_joined.2.1 67 = .ok (.iconst 1, 1) := op_iconst1 (gk (k := 64) (t := 3) ck_X_joined_2 rfl)
theorem d_X_joined_68 : decode y_X_joined.2.1 68 = .ok (.iadd, 1) := op_iadd (gk (k := 64) (t := 4) ck_X_joined_2 rfl)
theorem d_X_joined_69 : decode y_X_joined.2.1 69 = .ok (.aload_n 0, 1) := op_aload_n0 (gk (k := 64) (t := 5) ck_X_joined_2 rfl)
theorem d_X_joined_70 : decode y_X_joined.2.1 70 = .ok (.getfield 7, 3) := op_getfield (gk (k := 64) (t := 6) ck_X_joined_2 rfl) (gk (k := 64) (t := 7) ck_X_joined_2 rfl) (gk (k := 64) (t := 8) ck_X_joined_2 rfl) rfl
theorem d_X_joined_73 : decode y_X_joined.2.1 73 = .ok (.sipush 130, 3) := op_sipush (gk (k := 64) (t := 9) ck_X_joined_2 rfl) (gk (k := 64) (t := 10) ck_X_joined_2 rfl) (gk (k := 64) (t := 11) ck_X_joined_2 rfl) (by decide +kernel)
theorem d_X_joined_76 : decode y_X_joined.2.1 76 = .ok (.iload_n 1, 1) := op_iload_n1 (gk (k := 64) (t := 12) ck_X_joined_2 rfl)
theorem d_X_joined_77 : decode y_X_joined.2.1 77 = .ok (.iadd, 1) := op_iadd (gk (k := 64) (t := 13) ck_X_joined_2 rfl)
theorem d_X_joined_78 : decode y_X_joined.2.1 78 = .ok (.iaload, 1) := op_iaload (gk (k := 64) (t := 14) ck_X_joined_2 rfl)
theorem d_X_joined_79 : decode y_X_joined.2.1 79 = .ok (.if_icmp .ge 50, 3) := op_icmp_ge (gk (k := 64) (t := 15) ck_X_joined_2 rfl) (gk (k := 64) (t := 16) ck_X_joined_2 rfl) (gk (k := 64) (t := 17) ck_X_joined_2 rfl) (by decide +kernel)
theorem d_X_joined_82 : decode y_X_joined.2.1 82 = .ok (.iconst 0, 1) := op_iconst0 (gk (k := 64) (t := 18) ck_X_joined_2 rfl)
theorem d_X_joined_83 : decode y_X_joined.2.1 83 = .ok (.istore 8, 2) := op_istore (gk (k := 64) (t := 19) ck_X_joined_2 rfl) (gk (k := 64) (t := 20) ck_X_joined_2 rfl) rfl
theorem d_X_joined_85 : decode y_X_joined.2.1 85 = .ok (.iload 8, 2) := op_iload (gk (k := 64) (t := 21) ck_X_joined_2 rfl) (gk (k := 64) (t := 22) ck_X_joined_2 rfl) rfl
theorem d_X_joined_87 : decode y_X_joined.2.1 87 = .ok (.bipush 6, 2) := op_bipush (gk (k := 64) (t := 23) ck_X_joined_2 rfl) (gk (k := 64) (t := 24) ck_X_joined_2 rfl) rfl
theorem d_X_joined_89 : decode y_X_joined.2.1 89 = .ok (.if_icmp .ge 34, 3) := op_icmp_ge (gk (k := 64) (t := 25) ck_X_joined_2 rfl) (gk (k := 64) (t := 26) ck_X_joined_2 rfl) (gk (k := 64) (t := 27) ck_X_joined_2 rfl) (by decide +kernel)
theorem d_X_joined_92 : decode y_X_joined.2.1 92 = .ok (.aload_n 0, 1) := op_aload_n0 (gk (k := 64) (t := 28) ck_X_joined_2 rfl)
theorem d_X_joined_93 : decode y_X_joined.2.1 93 = .ok (.getfield 7, 3) := op_getfield (gk (k := 64) (t := 29) ck_X_joined_2 rfl) (gk (k := 64) (t := 30) ck_X_joined_2 rfl) (gk (k := 64) (t := 31) ck_X_joined_2 rfl) rfl
theorem ck_X_joined_3 : (y_X_joined.2.1.data.toList.drop 96).take 32 = [27, 21, 7, 184, 1, 4, 21, 8, 96, 42, 27, 21, 7, 4, 96, 21, 8, 182, 1, 8, 79, 132, 8, 1, 167, 255, 221, 132, 7, 1, 167, 255] := by decide +kernel
theorem d_X_joined_96 : decode y_X_joined.2.1 96 = .ok (.iload_n 1, 1) := op_iload_n1 (gk (k := 96) (t := 0) ck_X_joined_3 rfl)
theorem d_X_joined_97 : decode y_X_joined.2.1 97 = .ok (.iload 7, 2) := op_iload (gk (k := 96) (t := 1) ck_X_joined_3 rfl) (gk (k := 96) (t := 2) ck_X_joined_3 rfl) rfl
theorem d_X_joined_99 : decode y_X_joined.2.1 99 = .ok (.invokestatic 260, 3) := op_invokestatic (gk (k := 96) (t := 3) ck_X_joined_3 rfl) (gk (k := 96) (t := 4) ck_X_joined_3 rfl) (gk (k := 96) (t := 5) ck_X_joined_3 rfl) rfl
theorem d_X_joined_102 : decode y_X_joined.2.1 102 = .ok (.iload 8, 2) := op_iload (gk (k := 96) (t := 6) ck_X_joined_3 rfl) (gk (k := 96) (t := 7) ck_X_joined_3 rfl) rfl
theorem d_X_joined_104 : decode y_X_joined.2.1 104 = .ok (.iadd, 1) := op_iadd (gk (k := 96) (t := 8) ck_X_joined_3 rfl)
theorem d_X_joined_105 : decode y_X_joined.2.1 105 = .ok (.aload_n 0, 1) := op_aload_n0 (gk (k := 96) (t := 9) ck_X_joined_3 rfl)
theorem d_X_joined_106 : decode y_X_joined.2.1 106 = .ok (.iload_n 1, 1) := op_iload_n1 (gk (k := 96) (t := 10) ck_X_joined_3 rfl)
theorem d_X_joined_107 : decode y_X_joined.2.1 107 = .ok (.iload 7, 2) := op_iload (gk (k := 96) (t := 11) ck_X_joined_3 rfl) (gk (k := 96) (t := 12) ck_X_joined_3 rfl) rfl
theorem d_X_joined_109 : decode y_X_joined.2.1 109 = .ok (.iconst 1, 1) := op_iconst1 (gk (k := 96) (t := 13) ck_X_joined_3 rfl)
theorem d_X_joined_110 : decode y_X_joined.2.1 110 = .ok (.iadd, 1) := op_iadd (gk (k := 96) (t := 14) ck_X_joined_3 rfl)
theorem d_X_joined_111 : decode y_X_joined.2.1 111 = .ok (.iload 8, 2) := op_iload (gk (k := 96) (t := 15) ck_X_joined_3 rfl) (gk (k := 96) (t := 16) ck_X_joined_3 rfl) rfl
theorem d_X_joined_113 : decode y_X_joined.2.1 113 = .ok (.invokevirtual 264, 3) := op_invokevirtual (gk (k := 96) (t := 17) ck_X_joined_3 rfl) (gk (k := 96) (t := 18) ck_X_joined_3 rfl) (gk (k := 96) (t := 19) ck_X_joined_3 rfl) rfl
theorem d_X_joined_116 : decode y_X_joined.2.1 116 = .ok (.iastore, 1) := op_iastore (gk (k := 96) (t := 20) ck_X_joined_3 rfl)
theorem d_X_joined_117 : decode y_X_joined.2.1 117 = .ok (.iinc 8 1, 3) := op_iinc (gk (k := 96) (t := 21) ck_X_joined_3 rfl) (gk (k := 96) (t := 22) ck_X_joined_3 rfl) (gk (k := 96) (t := 23) ck_X_joined_3 rfl) rfl rfl
theorem d_X_joined_120 : decode y_X_joined.2.1 120 = .ok (.goto (-35), 3) := op_goto (gk (k := 96) (t := 24) ck_X_joined_3 rfl) (gk (k := 96) (t := 25) ck_X_joined_3 rfl) (gk (k := 96) (t := 26) ck_X_joined_3 rfl) (by decide +kernel)
theorem d_X_joined_123 : decode y_X_joined.2.1 123 = .ok (.iinc 7 1, 3) := op_iinc (gk (k := 96) (t := 27) ck_X_joined_3 rfl) (gk (k := 96) (t := 28) ck_X_joined_3 rfl) (gk (k := 96) (t := 29) ck_X_joined_3 rfl) rfl rfl
theorem ck_X_joined_4 : (y_X_joined.2.1.data.toList.drop 128).take 32 = [195, 42, 180, 0, 7, 17, 0, 130, 27, 96, 92, 46, 4, 100, 79, 42, 21, 5, 182, 1, 139, 54, 7, 42, 182, 1, 142, 21, 7, 172] := by decide +kernel
theorem d_X_joined_126 : decode y_X_joined.2.1 126 = .ok (.goto (-61), 3) := op_goto (gk (k := 96) (t := 30) ck_X_joined_3 rfl) (gk (k := 96) (t := 31) ck_X_joined_3 rfl) (gk (k := 128) (t := 0) ck_X_joined_4 rfl) (by decide +kernel)
theorem d_X_joined_129 : decode y_X_joined.2.1 129 = .ok (.aload_n 0, 1) := op_aload_n0 (gk (k := 128) (t := 1) ck_X_joined_4 rfl)
theorem d_X_joined_130 : decode y_X_joined.2.1 130 = .ok (.getfield 7, 3) := op_getfield (gk (k := 128) (t := 2) ck_X_joined_4 rfl) (gk (k := 128) (t := 3) ck_X_joined_4 rfl) (gk (k := 128) (t := 4) ck_X_joined_4 rfl) rfl
theorem d_X_joined_133 : decode y_X_joined.2.1 133 = .ok (.sipush 130, 3) := op_sipush (gk (k := 128) (t := 5) ck_X_joined_4 rfl) (gk (k := 128) (t := 6) ck_X_joined_4 rfl) (gk (k := 128) (t := 7) ck_X_joined_4 rfl) (by decide +kernel)
theorem d_X_joined_136 : decode y_X_joined.2.1 136 = .ok (.iload_n 1, 1) := op_iload_n1 (gk (k := 128) (t := 8) ck_X_joined_4 rfl)
theorem d_X_joined_137 : decode y_X_joined.2.1 137 = .ok (.iadd, 1) := op_iadd (gk (k := 128) (t := 9) ck_X_joined_4 rfl)
theorem d_X_joined_138 : decode y_X_joined.2.1 138 = .ok (.dup2, 1) := op_dup2 (gk (k := 128) (t := 10) ck_X_joined_4 rfl)
theorem d_X_joined_139 : decode y_X_joined.2.1 139 = .ok (.iaload, 1) := op_iaload (gk (k := 128) (t := 11) ck_X_joined_4 rfl)
theorem d_X_joined_140 : decode y_X_joined.2.1 140 = .ok (.iconst 1, 1) := op_iconst1 (gk (k := 128) (t := 12) ck_X_joined_4 rfl)
theorem d_X_joined_141 : decode y_X_joined.2.1 141 = .ok (.isub, 1) := op_isub (gk (k := 128) (t := 13) ck_X_joined_4 rfl)
theorem d_X_joined_142 : decode y_X_joined.2.1 142 = .ok (.iastore, 1) := op_iastore (gk (k := 128) (t := 14) ck_X_joined_4 rfl)
theorem d_X_joined_143 : decode y_X_joined.2.1 143 = .ok (.aload_n 0, 1) := op_aload_n0 (gk (k := 128) (t := 15) ck_X_joined_4 rfl)
theorem d_X_joined_144 : decode y_X_joined.2.1 144 = .ok (.iload 5, 2) := op_iload (gk (k := 128) (t := 16) ck_X_joined_4 rfl) (gk (k := 128) (t := 17) ck_X_joined_4 rfl) rfl
theorem d_X_joined_146 : decode y_X_joined.2.1 146 = .ok (.invokevirtual 395, 3) := op_invokevirtual (gk (k := 128) (t := 18) ck_X_joined_4 rfl) (gk (k := 128) (t := 19) ck_X_joined_4 rfl) (gk (k := 128) (t := 20) ck_X_joined_4 rfl) rfl
theorem d_X_joined_149 : decode y_X_joined.2.1 149 = .ok (.istore 7, 2) := op_istore (gk (k := 128) (t := 21) ck_X_joined_4 rfl) (gk (k := 128) (t := 22) ck_X_joined_4 rfl) rfl
theorem d_X_joined_151 : decode y_X_joined.2.1 151 = .ok (.aload_n 0, 1) := op_aload_n0 (gk (k := 128) (t := 23) ck_X_joined_4 rfl)
theorem d_X_joined_152 : decode y_X_joined.2.1 152 = .ok (.invokevirtual 398, 3) := op_invokevirtual (gk (k := 128) (t := 24) ck_X_joined_4 rfl) (gk (k := 128) (t := 25) ck_X_joined_4 rfl) (gk (k := 128) (t := 26) ck_X_joined_4 rfl) rfl
theorem d_X_joined_155 : decode y_X_joined.2.1 155 = .ok (.iload 7, 2) := op_iload (gk (k := 128) (t := 27) ck_X_joined_4 rfl) (gk (k := 128) (t := 28) ck_X_joined_4 rfl) rfl
theorem d_X_joined_157 : decode y_X_joined.2.1 157 = .ok (.ireturn, 1) := op_ireturn (gk (k := 128) (t := 29) ck_X_joined_4 rfl)
abbrev y_X_together : MI := (⟨"SinglesUpModel", "together", "(IIIII)I"⟩, prog_11_method_90_code, 9, some .int)
theorem ck_X_together_0 : (y_X_together.2.1.data.toList.drop 0).take 32 = [42, 27, 28, 182, 1, 145, 153, 0, 55, 42, 29, 21, 4, 182, 1, 145, 153, 0, 45, 27, 29, 160, 0, 9, 28, 21, 4, 159, 0, 34, 42, 27] := by decide +kernel
theorem d_X_together_0 : decode y_X_together.2.1 0 = .ok (.aload_n 0, 1) := op_aload_n0 (gk (k := 0) (t := 0) ck_X_together_0 rfl)
theorem d_X_together_1 : decode y_X_together.2.1 1 = .ok (.iload_n 1, 1) := op_iload_n1 (gk (k := 0) (t := 1) ck_X_together_0 rfl)
theorem d_X_together_2 : decode y_X_together.2.1 2 = .ok (.iload_n 2, 1) := op_iload_n2 (gk (k := 0) (t := 2) ck_X_together_0 rfl)
theorem lk_X_401 : LkV "SinglesUpModel" 401 y_X_isPlain := ⟨tw_c7 124 (by decide +kernel) rfl, tw_in 91 (by decide +kernel) rfl, Or.inl (tw_c7 122 (by decide +kernel) rfl)⟩
set_option maxRecDepth 100000 in
theorem mo_X_isPlain : MOk y_X_isPlain 2 := ⟨by decide +kernel, tw_c7 125 rfl rfl, tw_c1 12 (by decide +kernel) rfl, by decide +kernel, by decide +kernel, by decide +kernel⟩
theorem d_X_together_3 : decode y_X_together.2.1 3 = .ok (.invokevirtual 401, 3) := op_invokevirtual (gk (k := 0) (t := 3) ck_X_together_0 rfl) (gk (k := 0) (t := 4) ck_X_together_0 rfl) (gk (k := 0) (t := 5) ck_X_together_0 rfl) rfl
theorem d_X_together_6 : decode y_X_together.2.1 6 = .ok (.ifCond .eq 55, 3) := op_if_eq (gk (k := 0) (t := 6) ck_X_together_0 rfl) (gk (k := 0) (t := 7) ck_X_together_0 rfl) (gk (k := 0) (t := 8) ck_X_together_0 rfl) (by decide +kernel)
theorem ck_X_together_1 : (y_X_together.2.1.data.toList.drop 32).take 32 = [28, 4, 182, 1, 8, 42, 29, 21, 4, 4, 182, 1, 8, 96, 16, 8, 163, 0, 13, 21, 5, 3, 4, 184, 0, 98, 154, 0, 6, 16, 254, 172] := by decide +kernel
theorem d_X_together_61 : decode y_X_together.2.1 61 = .ok (.bipush (-2), 2) := op_bipush (gk (k := 32) (t := 29) ck_X_together_1 rfl) (gk (k := 32) (t := 30) ck_X_together_1 rfl) rfl
theorem d_X_together_63 : decode y_X_together.2.1 63 = .ok (.ireturn, 1) := op_ireturn (gk (k := 32) (t := 31) ck_X_together_1 rfl)
theorem d_X_together_9 : decode y_X_together.2.1 9 = .ok (.aload_n 0, 1) := op_aload_n0 (gk (k := 0) (t := 9) ck_X_together_0 rfl)
theorem d_X_together_10 : decode y_X_together.2.1 10 = .ok (.iload_n 3, 1) := op_iload_n3 (gk (k := 0) (t := 10) ck_X_together_0 rfl)
theorem d_X_together_11 : decode y_X_together.2.1 11 = .ok (.iload 4, 2) := op_iload (gk (k := 0) (t := 11) ck_X_together_0 rfl) (gk (k := 0) (t := 12) ck_X_together_0 rfl) rfl
theorem d_X_together_13 : decode y_X_together.2.1 13 = .ok (.invokevirtual 401, 3) := op_invokevirtual (gk (k := 0) (t := 13) ck_X_together_0 rfl) (gk (k := 0) (t := 14) ck_X_together_0 rfl) (gk (k := 0) (t := 15) ck_X_together_0 rfl) rfl
theorem d_X_together_16 : decode y_X_together.2.1 16 = .ok (.ifCond .eq 45, 3) := op_if_eq (gk (k := 0) (t := 16) ck_X_together_0 rfl) (gk (k := 0) (t := 17) ck_X_together_0 rfl) (gk (k := 0) (t := 18) ck_X_together_0 rfl) (by decide +kernel)
theorem d_X_together_19 : decode y_X_together.2.1 19 = .ok (.iload_n 1, 1) := op_iload_n1 (gk (k := 0) (t := 19) ck_X_together_0 rfl)
theorem d_X_together_20 : decode y_X_together.2.1 20 = .ok (.iload_n 3, 1) := op_iload_n3 (gk (k := 0) (t := 20) ck_X_together_0 rfl)
theorem d_X_together_30 : decode y_X_together.2.1 30 = .ok (.aload_n 0, 1) := op_aload_n0 (gk (k := 0) (t := 30) ck_X_together_0 rfl)
theorem d_X_together_31 : decode y_X_together.2.1 31 = .ok (.iload_n 1, 1) := op_iload_n1 (gk (k := 0) (t := 31) ck_X_together_0 rfl)
theorem d_X_together_32 : decode y_X_together.2.1 32 = .ok (.iload_n 2, 1) := op_iload_n2 (gk (k := 32) (t := 0) ck_X_together_1 rfl)
theorem d_X_together_33 : decode y_X_together.2.1 33 = .ok (.iconst 1, 1) := op_iconst1 (gk (k := 32) (t := 1) ck_X_together_1 rfl)
theorem d_X_together_34 : decode y_X_together.2.1 34 = .ok (.invokevirtual 264, 3) := op_invokevirtual (gk (k := 32) (t := 2) ck_X_together_1 rfl) (gk (k := 32) (t := 3) ck_X_together_1 rfl) (gk (k := 32) (t := 4) ck_X_together_1 rfl) rfl
theorem d_X_together_37 : decode y_X_together.2.1 37 = .ok (.aload_n 0, 1) := op_aload_n0 (gk (k := 32) (t := 5) ck_X_together_1 rfl)
theorem d_X_together_38 : decode y_X_together.2.1 38 = .ok (.iload_n 3, 1) := op_iload_n3 (gk (k := 32) (t := 6) ck_X_together_1 rfl)
theorem d_X_together_39 : decode y_X_together.2.1 39 = .ok (.iload 4, 2) := op_iload (gk (k := 32) (t := 7) ck_X_together_1 rfl) (gk (k := 32) (t := 8) ck_X_together_1 rfl) rfl
theorem d_X_together_41 : decode y_X_together.2.1 41 = .ok (.iconst 1, 1) := op_iconst1 (gk (k := 32) (t := 9) ck_X_together_1 rfl)
theorem d_X_together_42 : decode y_X_together.2.1 42 = .ok (.invokevirtual 264, 3) := op_invokevirtual (gk (k := 32) (t := 10) ck_X_together_1 rfl) (gk (k := 32) (t := 11) ck_X_together_1 rfl) (gk (k := 32) (t := 12) ck_X_together_1 rfl) rfl
theorem d_X_together_45 : decode y_X_together.2.1 45 = .ok (.iadd, 1) := op_iadd (gk (k := 32) (t := 13) ck_X_together_1 rfl)
theorem d_X_together_46 : decode y_X_together.2.1 46 = .ok (.bipush 8, 2) := op_bipush (gk (k := 32) (t := 14) ck_X_together_1 rfl) (gk (k := 32) (t := 15) ck_X_together_1 rfl) rfl
theorem d_X_together_48 : decode y_X_together.2.1 48 = .ok (.if_icmp .gt 13, 3) := op_icmp_gt (gk (k := 32) (t := 16) ck_X_together_1 rfl) (gk (k := 32) (t := 17) ck_X_together_1 rfl) (gk (k := 32) (t := 18) ck_X_together_1 rfl) (by decide +kernel)
theorem d_X_together_51 : decode y_X_together.2.1 51 = .ok (.iload 5, 2) := op_iload (gk (k := 32) (t := 19) ck_X_together_1 rfl) (gk (k := 32) (t := 20) ck_X_together_1 rfl) rfl
theorem d_X_together_53 : decode y_X_together.2.1 53 = .ok (.iconst 0, 1) := op_iconst0 (gk (k := 32) (t := 21) ck_X_together_1 rfl)
theorem d_X_together_54 : decode y_X_together.2.1 54 = .ok (.iconst 1, 1) := op_iconst1 (gk (k := 32) (t := 22) ck_X_together_1 rfl)
theorem d_X_together_55 : decode y_X_together.2.1 55 = .ok (.invokestatic 98, 3) := op_invokestatic (gk (k := 32) (t := 23) ck_X_together_1 rfl) (gk (k := 32) (t := 24) ck_X_together_1 rfl) (gk (k := 32) (t := 25) ck_X_together_1 rfl) rfl
theorem d_X_together_58 : decode y_X_together.2.1 58 = .ok (.ifCond .ne 6, 3) := op_if_ne (gk (k := 32) (t := 26) ck_X_together_1 rfl) (gk (k := 32) (t := 27) ck_X_together_1 rfl) (gk (k := 32) (t := 28) ck_X_together_1 rfl) (by decide +kernel)
theorem ck_X_together_2 : (y_X_together.2.1.data.toList.drop 64).take 32 = [42, 27, 28, 29, 21, 4, 182, 1, 148, 54, 6, 21, 5, 154, 0, 6, 21, 6, 172, 42, 27, 28, 182, 1, 151, 54, 7, 42, 29, 21, 4, 182] := by decide +kernel
theorem d_X_together_64 : decode y_X_together.2.1 64 = .ok (.aload_n 0, 1) := op_aload_n0 (gk (k := 64) (t := 0) ck_X_together_2 rfl)
theorem d_X_together_65 : decode y_X_together.2.1 65 = .ok (.iload_n 1, 1) := op_iload_n1 (gk (k := 64) (t := 1) ck_X_together_2 rfl)
theorem d_X_together_66 : decode y_X_together.2.1 66 = .ok (.iload_n 2, 1) := op_iload_n2 (gk (k := 64) (t := 2) ck_X_together_2 rfl)
theorem d_X_together_67 : decode y_X_together.2.1 67 = .ok (.iload_n 3, 1) := op_iload_n3 (gk (k := 64) (t := 3) ck_X_together_2 rfl)
theorem d_X_together_68 : decode y_X_together.2.1 68 = .ok (.iload 4, 2) := op_iload (gk (k := 64) (t := 4) ck_X_together_2 rfl) (gk (k := 64) (t := 5) ck_X_together_2 rfl) rfl
theorem lk_X_404 : LkV "SinglesUpModel" 404 y_X_joined := ⟨tw_c7 128 (by decide +kernel) rfl, tw_in 92 (by decide +kernel) rfl, Or.inl (tw_c7 126 (by decide +kernel) rfl)⟩
set_option maxRecDepth 100000 in
theorem mo_X_joined : MOk y_X_joined 4 := ⟨by decide +kernel, tw_c7 129 rfl rfl, tw_c1 12 (by decide +kernel) rfl, by decide +kernel, by decide +kernel, by decide +kernel⟩
theorem d_X_together_70 : decode y_X_together.2.1 70 = .ok (.invokevirtual 404, 3) := op_invokevirtual (gk (k := 64) (t := 6) ck_X_together_2 rfl) (gk (k := 64) (t := 7) ck_X_together_2 rfl) (gk (k := 64) (t := 8) ck_X_together_2 rfl) rfl
theorem d_X_together_73 : decode y_X_together.2.1 73 = .ok (.istore 6, 2) := op_istore (gk (k := 64) (t := 9) ck_X_together_2 rfl) (gk (k := 64) (t := 10) ck_X_together_2 rfl) rfl
theorem d_X_together_75 : decode y_X_together.2.1 75 = .ok (.iload 5, 2) := op_iload (gk (k := 64) (t := 11) ck_X_together_2 rfl) (gk (k := 64) (t := 12) ck_X_together_2 rfl) rfl
theorem d_X_together_77 : decode y_X_together.2.1 77 = .ok (.ifCond .ne 6, 3) := op_if_ne (gk (k := 64) (t := 13) ck_X_together_2 rfl) (gk (k := 64) (t := 14) ck_X_together_2 rfl) (gk (k := 64) (t := 15) ck_X_together_2 rfl) (by decide +kernel)
theorem d_X_together_83 : decode y_X_together.2.1 83 = .ok (.aload_n 0, 1) := op_aload_n0 (gk (k := 64) (t := 19) ck_X_together_2 rfl)
theorem d_X_together_84 : decode y_X_together.2.1 84 = .ok (.iload_n 1, 1) := op_iload_n1 (gk (k := 64) (t := 20) ck_X_together_2 rfl)
theorem d_X_together_85 : decode y_X_together.2.1 85 = .ok (.iload_n 2, 1) := op_iload_n2 (gk (k := 64) (t := 21) ck_X_together_2 rfl)
theorem lk_X_407 : LkV "SinglesUpModel" 407 y_X_till := ⟨tw_c7 95 (by decide +kernel) rfl, tw_c7 96 (by decide +kernel) rfl, Or.inl (tw_c7 130 (by decide +kernel) rfl)⟩
set_option maxRecDepth 100000 in
theorem mo_X_till : MOk y_X_till 2 := ⟨by decide +kernel, tw_c7 97 rfl rfl, tw_c1 12 (by decide +kernel) rfl, by decide +kernel, by decide +kernel, by decide +kernel⟩
theorem d_X_together_86 : decode y_X_together.2.1 86 = .ok (.invokevirtual 407, 3) := op_invokevirtual (gk (k := 64) (t := 22) ck_X_together_2 rfl) (gk (k := 64) (t := 23) ck_X_together_2 rfl) (gk (k := 64) (t := 24) ck_X_together_2 rfl) rfl
theorem d_X_together_89 : decode y_X_together.2.1 89 = .ok (.istore 7, 2) := op_istore (gk (k := 64) (t := 25) ck_X_together_2 rfl) (gk (k := 64) (t := 26) ck_X_together_2 rfl) rfl
theorem d_X_together_91 : decode y_X_together.2.1 91 = .ok (.aload_n 0, 1) := op_aload_n0 (gk (k := 64) (t := 27) ck_X_together_2 rfl)
theorem d_X_together_92 : decode y_X_together.2.1 92 = .ok (.iload_n 3, 1) := op_iload_n3 (gk (k := 64) (t := 28) ck_X_together_2 rfl)
theorem d_X_together_93 : decode y_X_together.2.1 93 = .ok (.iload 4, 2) := op_iload (gk (k := 64) (t := 29) ck_X_together_2 rfl) (gk (k := 64) (t := 30) ck_X_together_2 rfl) rfl
theorem ck_X_together_3 : (y_X_together.2.1.data.toList.drop 96).take 32 = [1, 151, 54, 8, 21, 6, 2, 159, 0, 38, 21, 7, 2, 159, 0, 32, 21, 8, 2, 159, 0, 26, 21, 6, 21, 7, 21, 8, 164, 0, 8, 21] := by decide +kernel
theorem d_X_together_95 : decode y_X_together.2.1 95 = .ok (.invokevirtual 407, 3) := op_invokevirtual (gk (k := 64) (t := 31) ck_X_together_2 rfl) (gk (k := 96) (t := 0) ck_X_together_3 rfl) (gk (k := 96) (t := 1) ck_X_together_3 rfl) rfl
theorem d_X_together_98 : decode y_X_together.2.1 98 = .ok (.istore 8, 2) := op_istore (gk (k := 96) (t := 2) ck_X_together_3 rfl) (gk (k := 96) (t := 3) ck_X_together_3 rfl) rfl
theorem d_X_together_100 : decode y_X_together.2.1 100 = .ok (.iload 6, 2) := op_iload (gk (k := 96) (t := 4) ck_X_together_3 rfl) (gk (k := 96) (t := 5) ck_X_together_3 rfl) rfl
theorem d_X_together_102 : decode y_X_together.2.1 102 = .ok (.iconst (-1), 1) := op_iconstm1 (gk (k := 96) (t := 6) ck_X_together_3 rfl)
theorem d_X_together_103 : decode y_X_together.2.1 103 = .ok (.if_icmp .eq 38, 3) := op_icmp_eq (gk (k := 96) (t := 7) ck_X_together_3 rfl) (gk (k := 96) (t := 8) ck_X_together_3 rfl) (gk (k := 96) (t := 9) ck_X_together_3 rfl) (by decide +kernel)
theorem ck_X_together_4 : (y_X_together.2.1.data.toList.drop 128).take 32 = [7, 167, 0, 5, 21, 8, 163, 0, 7, 4, 167, 0, 4, 3, 172] := by decide +kernel
theorem d_X_together_141 : decode y_X_together.2.1 141 = .ok (.iconst 0, 1) := op_iconst0 (gk (k := 128) (t := 13) ck_X_together_4 rfl)
theorem d_X_together_142 : decode y_X_together.2.1 142 = .ok (.ireturn, 1) := op_ireturn (gk (k := 128) (t := 14) ck_X_together_4 rfl)
theorem d_X_together_106 : decode y_X_together.2.1 106 = .ok (.iload 7, 2) := op_iload (gk (k := 96) (t := 10) ck_X_together_3 rfl) (gk (k := 96) (t := 11) ck_X_together_3 rfl) rfl
theorem d_X_together_108 : decode y_X_together.2.1 108 = .ok (.iconst (-1), 1) := op_iconstm1 (gk (k := 96) (t := 12) ck_X_together_3 rfl)
theorem d_X_together_109 : decode y_X_together.2.1 109 = .ok (.if_icmp .eq 32, 3) := op_icmp_eq (gk (k := 96) (t := 13) ck_X_together_3 rfl) (gk (k := 96) (t := 14) ck_X_together_3 rfl) (gk (k := 96) (t := 15) ck_X_together_3 rfl) (by decide +kernel)
theorem d_X_together_112 : decode y_X_together.2.1 112 = .ok (.iload 8, 2) := op_iload (gk (k := 96) (t := 16) ck_X_together_3 rfl) (gk (k := 96) (t := 17) ck_X_together_3 rfl) rfl
theorem d_X_together_114 : decode y_X_together.2.1 114 = .ok (.iconst (-1), 1) := op_iconstm1 (gk (k := 96) (t := 18) ck_X_together_3 rfl)
theorem d_X_together_115 : decode y_X_together.2.1 115 = .ok (.if_icmp .eq 26, 3) := op_icmp_eq (gk (k := 96) (t := 19) ck_X_together_3 rfl) (gk (k := 96) (t := 20) ck_X_together_3 rfl) (gk (k := 96) (t := 21) ck_X_together_3 rfl) (by decide +kernel)
theorem d_X_together_118 : decode y_X_together.2.1 118 = .ok (.iload 6, 2) := op_iload (gk (k := 96) (t := 22) ck_X_together_3 rfl) (gk (k := 96) (t := 23) ck_X_together_3 rfl) rfl
theorem d_X_together_120 : decode y_X_together.2.1 120 = .ok (.iload 7, 2) := op_iload (gk (k := 96) (t := 24) ck_X_together_3 rfl) (gk (k := 96) (t := 25) ck_X_together_3 rfl) rfl
theorem d_X_together_122 : decode y_X_together.2.1 122 = .ok (.iload 8, 2) := op_iload (gk (k := 96) (t := 26) ck_X_together_3 rfl) (gk (k := 96) (t := 27) ck_X_together_3 rfl) rfl
theorem d_X_together_134 : decode y_X_together.2.1 134 = .ok (.if_icmp .gt 7, 3) := op_icmp_gt (gk (k := 128) (t := 6) ck_X_together_4 rfl) (gk (k := 128) (t := 7) ck_X_together_4 rfl) (gk (k := 128) (t := 8) ck_X_together_4 rfl) (by decide +kernel)
theorem d_X_together_137 : decode y_X_together.2.1 137 = .ok (.iconst 1, 1) := op_iconst1 (gk (k := 128) (t := 9) ck_X_together_4 rfl)
theorem d_X_together_138 : decode y_X_together.2.1 138 = .ok (.goto 4, 3) := op_goto (gk (k := 128) (t := 10) ck_X_together_4 rfl) (gk (k := 128) (t := 11) ck_X_together_4 rfl) (gk (k := 128) (t := 12) ck_X_together_4 rfl) (by decide +kernel)
theorem d_X_together_124 : decode y_X_together.2.1 124 = .ok (.if_icmp .le 8, 3) := op_icmp_le (gk (k := 96) (t := 28) ck_X_together_3 rfl) (gk (k := 96) (t := 29) ck_X_together_3 rfl) (gk (k := 96) (t := 30) ck_X_together_3 rfl) (by decide +kernel)
theorem d_X_together_132 : decode y_X_together.2.1 132 = .ok (.iload 8, 2) := op_iload (gk (k := 128) (t := 4) ck_X_together_4 rfl) (gk (k := 128) (t := 5) ck_X_together_4 rfl) rfl
theorem d_X_together_127 : decode y_X_together.2.1 127 = .ok (.iload 7, 2) := op_iload (gk (k := 96) (t := 31) ck_X_together_3 rfl) (gk (k := 128) (t := 0) ck_X_together_4 rfl) rfl
theorem d_X_together_129 : decode y_X_together.2.1 129 = .ok (.goto 5, 3) := op_goto (gk (k := 128) (t := 1) ck_X_together_4 rfl) (gk (k := 128) (t := 2) ck_X_together_4 rfl) (gk (k := 128) (t := 3) ck_X_together_4 rfl) (by decide +kernel)
theorem d_X_together_80 : decode y_X_together.2.1 80 = .ok (.iload 6, 2) := op_iload (gk (k := 64) (t := 16) ck_X_together_2 rfl) (gk (k := 64) (t := 17) ck_X_together_2 rfl) rfl
theorem d_X_together_82 : decode y_X_together.2.1 82 = .ok (.ireturn, 1) := op_ireturn (gk (k := 64) (t := 18) ck_X_together_2 rfl)
theorem d_X_together_21 : decode y_X_together.2.1 21 = .ok (.if_icmp .ne 9, 3) := op_icmp_ne (gk (k := 0) (t := 21) ck_X_together_0 rfl) (gk (k := 0) (t := 22) ck_X_together_0 rfl) (gk (k := 0) (t := 23) ck_X_together_0 rfl) (by decide +kernel)
theorem d_X_together_24 : decode y_X_together.2.1 24 = .ok (.iload_n 2, 1) := op_iload_n2 (gk (k := 0) (t := 24) ck_X_together_0 rfl)
theorem d_X_together_25 : decode y_X_together.2.1 25 = .ok (.iload 4, 2) := op_iload (gk (k := 0) (t := 25) ck_X_together_0 rfl) (gk (k := 0) (t := 26) ck_X_together_0 rfl) rfl
theorem d_X_together_27 : decode y_X_together.2.1 27 = .ok (.if_icmp .eq 34, 3) := op_icmp_eq (gk (k := 0) (t := 27) ck_X_together_0 rfl) (gk (k := 0) (t := 28) ck_X_together_0 rfl) (gk (k := 0) (t := 29) ck_X_together_0 rfl) (by decide +kernel)
abbrev y_X_needed : MI := (⟨"SinglesUpModel", "needed", "(I)I"⟩, prog_11_method_91_code, 5, some .int)
theorem ck_X_needed_0 : (y_X_needed.2.1.data.toList.drop 0).take 32 = [27, 4, 16, 40, 184, 0, 98, 154, 0, 5, 2, 172, 42, 182, 1, 136, 3, 61, 3, 62, 29, 27, 162, 0, 34, 42, 182, 1, 82, 54, 4, 28] := by decide +kernel
theorem d_X_needed_0 : decode y_X_needed.2.1 0 = .ok (.iload_n 1, 1) := op_iload_n1 (gk (k := 0) (t := 0) ck_X_needed_0 rfl)
theorem d_X_needed_1 : decode y_X_needed.2.1 1 = .ok (.iconst 1, 1) := op_iconst1 (gk (k := 0) (t := 1) ck_X_needed_0 rfl)
theorem d_X_needed_2 : decode y_X_needed.2.1 2 = .ok (.bipush 40, 2) := op_bipush (gk (k := 0) (t := 2) ck_X_needed_0 rfl) (gk (k := 0) (t := 3) ck_X_needed_0 rfl) rfl
theorem d_X_needed_4 : decode y_X_needed.2.1 4 = .ok (.invokestatic 98, 3) := op_invokestatic (gk (k := 0) (t := 4) ck_X_needed_0 rfl) (gk (k := 0) (t := 5) ck_X_needed_0 rfl) (gk (k := 0) (t := 6) ck_X_needed_0 rfl) rfl
theorem d_X_needed_7 : decode y_X_needed.2.1 7 = .ok (.ifCond .ne 5, 3) := op_if_ne (gk (k := 0) (t := 7) ck_X_needed_0 rfl) (gk (k := 0) (t := 8) ck_X_needed_0 rfl) (gk (k := 0) (t := 9) ck_X_needed_0 rfl) (by decide +kernel)
theorem d_X_needed_12 : decode y_X_needed.2.1 12 = .ok (.aload_n 0, 1) := op_aload_n0 (gk (k := 0) (t := 12) ck_X_needed_0 rfl)
theorem d_X_needed_13 : decode y_X_needed.2.1 13 = .ok (.invokevirtual 392, 3) := op_invokevirtual (gk (k := 0) (t := 13) ck_X_needed_0 rfl) (gk (k := 0) (t := 14) ck_X_needed_0 rfl) (gk (k := 0) (t := 15) ck_X_needed_0 rfl) rfl
theorem d_X_needed_16 : decode y_X_needed.2.1 16 = .ok (.iconst 0, 1) := op_iconst0 (gk (k := 0) (t := 16) ck_X_needed_0 rfl)
theorem d_X_needed_17 : decode y_X_needed.2.1 17 = .ok (.istore_n 2, 1) := op_istore_n2 (gk (k := 0) (t := 17) ck_X_needed_0 rfl)
theorem d_X_needed_18 : decode y_X_needed.2.1 18 = .ok (.iconst 0, 1) := op_iconst0 (gk (k := 0) (t := 18) ck_X_needed_0 rfl)
theorem d_X_needed_19 : decode y_X_needed.2.1 19 = .ok (.istore_n 3, 1) := op_istore_n3 (gk (k := 0) (t := 19) ck_X_needed_0 rfl)
theorem d_X_needed_20 : decode y_X_needed.2.1 20 = .ok (.iload_n 3, 1) := op_iload_n3 (gk (k := 0) (t := 20) ck_X_needed_0 rfl)
theorem d_X_needed_21 : decode y_X_needed.2.1 21 = .ok (.iload_n 1, 1) := op_iload_n1 (gk (k := 0) (t := 21) ck_X_needed_0 rfl)
theorem d_X_needed_22 : decode y_X_needed.2.1 22 = .ok (.if_icmp .ge 34, 3) := op_icmp_ge (gk (k := 0) (t := 22) ck_X_needed_0 rfl) (gk (k := 0) (t := 23) ck_X_needed_0 rfl) (gk (k := 0) (t := 24) ck_X_needed_0 rfl) (by decide +kernel)
theorem d_X_needed_25 : decode y_X_needed.2.1 25 = .ok (.aload_n 0, 1) := op_aload_n0 (gk (k := 0) (t := 25) ck_X_needed_0 rfl)
theorem d_X_needed_26 : decode y_X_needed.2.1 26 = .ok (.invokevirtual 338, 3) := op_invokevirtual (gk (k := 0) (t := 26) ck_X_needed_0 rfl) (gk (k := 0) (t := 27) ck_X_needed_0 rfl) (gk (k := 0) (t := 28) ck_X_needed_0 rfl) rfl
theorem d_X_needed_29 : decode y_X_needed.2.1 29 = .ok (.istore 4, 2) := op_istore (gk (k := 0) (t := 29) ck_X_needed_0 rfl) (gk (k := 0) (t := 30) ck_X_needed_0 rfl) rfl
theorem d_X_needed_31 : decode y_X_needed.2.1 31 = .ok (.iload_n 2, 1) := op_iload_n2 (gk (k := 0) (t := 31) ck_X_needed_0 rfl)
theorem ck_X_needed_1 : (y_X_needed.2.1.data.toList.drop 32).take 32 = [21, 4, 158, 0, 13, 42, 180, 0, 7, 16, 111, 46, 167, 0, 4, 3, 96, 61, 132, 3, 1, 167, 255, 223, 42, 182, 1, 142, 28, 172] := by decide +kernel
theorem d_X_needed_32 : decode y_X_needed.2.1 32 = .ok (.iload 4, 2) := op_iload (gk (k := 32) (t := 0) ck_X_needed_1 rfl) (gk (k := 32) (t := 1) ck_X_needed_1 rfl) rfl
theorem d_X_needed_48 : decode y_X_needed.2.1 48 = .ok (.iadd, 1) := op_iadd (gk (k := 32) (t := 16) ck_X_needed_1 rfl)
theorem d_X_needed_49 : decode y_X_needed.2.1 49 = .ok (.istore_n 2, 1) := op_istore_n2 (gk (k := 32) (t := 17) ck_X_needed_1 rfl)
theorem d_X_needed_50 : decode y_X_needed.2.1 50 = .ok (.iinc 3 1, 3) := op_iinc (gk (k := 32) (t := 18) ck_X_needed_1 rfl) (gk (k := 32) (t := 19) ck_X_needed_1 rfl) (gk (k := 32) (t := 20) ck_X_needed_1 rfl) rfl rfl
theorem d_X_needed_53 : decode y_X_needed.2.1 53 = .ok (.goto (-33), 3) := op_goto (gk (k := 32) (t := 21) ck_X_needed_1 rfl) (gk (k := 32) (t := 22) ck_X_needed_1 rfl) (gk (k := 32) (t := 23) ck_X_needed_1 rfl) (by decide +kernel)
theorem d_X_needed_34 : decode y_X_needed.2.1 34 = .ok (.ifCond .le 13, 3) := op_if_le (gk (k := 32) (t := 2) ck_X_needed_1 rfl) (gk (k := 32) (t := 3) ck_X_needed_1 rfl) (gk (k := 32) (t := 4) ck_X_needed_1 rfl) (by decide +kernel)
theorem d_X_needed_47 : decode y_X_needed.2.1 47 = .ok (.iconst 0, 1) := op_iconst0 (gk (k := 32) (t := 15) ck_X_needed_1 rfl)
theorem d_X_needed_37 : decode y_X_needed.2.1 37 = .ok (.aload_n 0, 1) := op_aload_n0 (gk (k := 32) (t := 5) ck_X_needed_1 rfl)
theorem d_X_needed_38 : decode y_X_needed.2.1 38 = .ok (.getfield 7, 3) := op_getfield (gk (k := 32) (t := 6) ck_X_needed_1 rfl) (gk (k := 32) (t := 7) ck_X_needed_1 rfl) (gk (k := 32) (t := 8) ck_X_needed_1 rfl) rfl
theorem d_X_needed_41 : decode y_X_needed.2.1 41 = .ok (.bipush 111, 2) := op_bipush (gk (k := 32) (t := 9) ck_X_needed_1 rfl) (gk (k := 32) (t := 10) ck_X_needed_1 rfl) rfl
theorem d_X_needed_43 : decode y_X_needed.2.1 43 = .ok (.iaload, 1) := op_iaload (gk (k := 32) (t := 11) ck_X_needed_1 rfl)
theorem d_X_needed_44 : decode y_X_needed.2.1 44 = .ok (.goto 4, 3) := op_goto (gk (k := 32) (t := 12) ck_X_needed_1 rfl) (gk (k := 32) (t := 13) ck_X_needed_1 rfl) (gk (k := 32) (t := 14) ck_X_needed_1 rfl) (by decide +kernel)
theorem d_X_needed_56 : decode y_X_needed.2.1 56 = .ok (.aload_n 0, 1) := op_aload_n0 (gk (k := 32) (t := 24) ck_X_needed_1 rfl)
theorem d_X_needed_57 : decode y_X_needed.2.1 57 = .ok (.invokevirtual 398, 3) := op_invokevirtual (gk (k := 32) (t := 25) ck_X_needed_1 rfl) (gk (k := 32) (t := 26) ck_X_needed_1 rfl) (gk (k := 32) (t := 27) ck_X_needed_1 rfl) rfl
theorem d_X_needed_60 : decode y_X_needed.2.1 60 = .ok (.iload_n 2, 1) := op_iload_n2 (gk (k := 32) (t := 28) ck_X_needed_1 rfl)
theorem d_X_needed_61 : decode y_X_needed.2.1 61 = .ok (.ireturn, 1) := op_ireturn (gk (k := 32) (t := 29) ck_X_needed_1 rfl)
theorem d_X_needed_10 : decode y_X_needed.2.1 10 = .ok (.iconst (-1), 1) := op_iconstm1 (gk (k := 0) (t := 10) ck_X_needed_0 rfl)
theorem d_X_needed_11 : decode y_X_needed.2.1 11 = .ok (.ireturn, 1) := op_ireturn (gk (k := 0) (t := 11) ck_X_needed_0 rfl)
abbrev y_X_past : MI := (⟨"SinglesUpModel", "past", "(II)I"⟩, prog_11_method_62_code, 3, some .int)
theorem ck_X_past_0 : (y_X_past.2.1.data.toList.drop 0).take 32 = [27, 3, 16, 59, 184, 0, 98, 153, 0, 53, 27, 42, 180, 0, 7, 16, 70, 46, 162, 0, 42, 28, 3, 5, 184, 0, 98, 153, 0, 33, 42, 180] := by decide +kernel
theorem d_X_past_0 : decode y_X_past.2.1 0 = .ok (.iload_n 1, 1) := op_iload_n1 (gk (k := 0) (t := 0) ck_X_past_0 rfl)
theorem d_X_past_1 : decode y_X_past.2.1 1 = .ok (.iconst 0, 1) := op_iconst0 (gk (k := 0) (t := 1) ck_X_past_0 rfl)
theorem d_X_past_2 : decode y_X_past.2.1 2 = .ok (.bipush 59, 2) := op_bipush (gk (k := 0) (t := 2) ck_X_past_0 rfl) (gk (k := 0) (t := 3) ck_X_past_0 rfl) rfl
theorem d_X_past_4 : decode y_X_past.2.1 4 = .ok (.invokestatic 98, 3) := op_invokestatic (gk (k := 0) (t := 4) ck_X_past_0 rfl) (gk (k := 0) (t := 5) ck_X_past_0 rfl) (gk (k := 0) (t := 6) ck_X_past_0 rfl) rfl
theorem d_X_past_7 : decode y_X_past.2.1 7 = .ok (.ifCond .eq 53, 3) := op_if_eq (gk (k := 0) (t := 7) ck_X_past_0 rfl) (gk (k := 0) (t := 8) ck_X_past_0 rfl) (gk (k := 0) (t := 9) ck_X_past_0 rfl) (by decide +kernel)
theorem ck_X_past_1 : (y_X_past.2.1.data.toList.drop 32).take 32 = [0, 7, 17, 23, 122, 6, 42, 180, 0, 7, 16, 70, 46, 4, 100, 27, 100, 16, 60, 112, 104, 96, 28, 96, 46, 167, 0, 4, 2, 172] := by decide +kernel
theorem d_X_past_60 : decode y_X_past.2.1 60 = .ok (.iconst (-1), 1) := op_iconstm1 (gk (k := 32) (t := 28) ck_X_past_1 rfl)
theorem d_X_past_61 : decode y_X_past.2.1 61 = .ok (.ireturn, 1) := op_ireturn (gk (k := 32) (t := 29) ck_X_past_1 rfl)
theorem d_X_past_10 : decode y_X_past.2.1 10 = .ok (.iload_n 1, 1) := op_iload_n1 (gk (k := 0) (t := 10) ck_X_past_0 rfl)
theorem d_X_past_11 : decode y_X_past.2.1 11 = .ok (.aload_n 0, 1) := op_aload_n0 (gk (k := 0) (t := 11) ck_X_past_0 rfl)
theorem d_X_past_12 : decode y_X_past.2.1 12 = .ok (.getfield 7, 3) := op_getfield (gk (k := 0) (t := 12) ck_X_past_0 rfl) (gk (k := 0) (t := 13) ck_X_past_0 rfl) (gk (k := 0) (t := 14) ck_X_past_0 rfl) rfl
theorem d_X_past_15 : decode y_X_past.2.1 15 = .ok (.bipush 70, 2) := op_bipush (gk (k := 0) (t := 15) ck_X_past_0 rfl) (gk (k := 0) (t := 16) ck_X_past_0 rfl) rfl
theorem d_X_past_17 : decode y_X_past.2.1 17 = .ok (.iaload, 1) := op_iaload (gk (k := 0) (t := 17) ck_X_past_0 rfl)
theorem d_X_past_18 : decode y_X_past.2.1 18 = .ok (.if_icmp .ge 42, 3) := op_icmp_ge (gk (k := 0) (t := 18) ck_X_past_0 rfl) (gk (k := 0) (t := 19) ck_X_past_0 rfl) (gk (k := 0) (t := 20) ck_X_past_0 rfl) (by decide +kernel)
theorem d_X_past_21 : decode y_X_past.2.1 21 = .ok (.iload_n 2, 1) := op_iload_n2 (gk (k := 0) (t := 21) ck_X_past_0 rfl)
theorem d_X_past_22 : decode y_X_past.2.1 22 = .ok (.iconst 0, 1) := op_iconst0 (gk (k := 0) (t := 22) ck_X_past_0 rfl)
theorem d_X_past_23 : decode y_X_past.2.1 23 = .ok (.iconst 2, 1) := op_iconst2 (gk (k := 0) (t := 23) ck_X_past_0 rfl)
theorem d_X_past_24 : decode y_X_past.2.1 24 = .ok (.invokestatic 98, 3) := op_invokestatic (gk (k := 0) (t := 24) ck_X_past_0 rfl) (gk (k := 0) (t := 25) ck_X_past_0 rfl) (gk (k := 0) (t := 26) ck_X_past_0 rfl) rfl
theorem d_X_past_27 : decode y_X_past.2.1 27 = .ok (.ifCond .eq 33, 3) := op_if_eq (gk (k := 0) (t := 27) ck_X_past_0 rfl) (gk (k := 0) (t := 28) ck_X_past_0 rfl) (gk (k := 0) (t := 29) ck_X_past_0 rfl) (by decide +kernel)
theorem d_X_past_30 : decode y_X_past.2.1 30 = .ok (.aload_n 0, 1) := op_aload_n0 (gk (k := 0) (t := 30) ck_X_past_0 rfl)
theorem d_X_past_31 : decode y_X_past.2.1 31 = .ok (.getfield 7, 3) := op_getfield (gk (k := 0) (t := 31) ck_X_past_0 rfl) (gk (k := 32) (t := 0) ck_X_past_1 rfl) (gk (k := 32) (t := 1) ck_X_past_1 rfl) rfl
theorem d_X_past_34 : decode y_X_past.2.1 34 = .ok (.sipush 6010, 3) := op_sipush (gk (k := 32) (t := 2) ck_X_past_1 rfl) (gk (k := 32) (t := 3) ck_X_past_1 rfl) (gk (k := 32) (t := 4) ck_X_past_1 rfl) (by decide +kernel)
theorem d_X_past_37 : decode y_X_past.2.1 37 = .ok (.iconst 3, 1) := op_iconst3 (gk (k := 32) (t := 5) ck_X_past_1 rfl)
theorem d_X_past_38 : decode y_X_past.2.1 38 = .ok (.aload_n 0, 1) := op_aload_n0 (gk (k := 32) (t := 6) ck_X_past_1 rfl)
theorem d_X_past_39 : decode y_X_past.2.1 39 = .ok (.getfield 7, 3) := op_getfield (gk (k := 32) (t := 7) ck_X_past_1 rfl) (gk (k := 32) (t := 8) ck_X_past_1 rfl) (gk (k := 32) (t := 9) ck_X_past_1 rfl) rfl
theorem d_X_past_42 : decode y_X_past.2.1 42 = .ok (.bipush 70, 2) := op_bipush (gk (k := 32) (t := 10) ck_X_past_1 rfl) (gk (k := 32) (t := 11) ck_X_past_1 rfl) rfl
theorem d_X_past_44 : decode y_X_past.2.1 44 = .ok (.iaload, 1) := op_iaload (gk (k := 32) (t := 12) ck_X_past_1 rfl)
theorem d_X_past_45 : decode y_X_past.2.1 45 = .ok (.iconst 1, 1) := op_iconst1 (gk (k := 32) (t := 13) ck_X_past_1 rfl)
theorem d_X_past_46 : decode y_X_past.2.1 46 = .ok (.isub, 1) := op_isub (gk (k := 32) (t := 14) ck_X_past_1 rfl)
theorem d_X_past_47 : decode y_X_past.2.1 47 = .ok (.iload_n 1, 1) := op_iload_n1 (gk (k := 32) (t := 15) ck_X_past_1 rfl)
theorem d_X_past_48 : decode y_X_past.2.1 48 = .ok (.isub, 1) := op_isub (gk (k := 32) (t := 16) ck_X_past_1 rfl)
theorem d_X_past_49 : decode y_X_past.2.1 49 = .ok (.bipush 60, 2) := op_bipush (gk (k := 32) (t := 17) ck_X_past_1 rfl) (gk (k := 32) (t := 18) ck_X_past_1 rfl) rfl
theorem d_X_past_51 : decode y_X_past.2.1 51 = .ok (.irem, 1) := op_irem (gk (k := 32) (t := 19) ck_X_past_1 rfl)
theorem d_X_past_52 : decode y_X_past.2.1 52 = .ok (.imul, 1) := op_imul (gk (k := 32) (t := 20) ck_X_past_1 rfl)
theorem d_X_past_53 : decode y_X_past.2.1 53 = .ok (.iadd, 1) := op_iadd (gk (k := 32) (t := 21) ck_X_past_1 rfl)
theorem d_X_past_54 : decode y_X_past.2.1 54 = .ok (.iload_n 2, 1) := op_iload_n2 (gk (k := 32) (t := 22) ck_X_past_1 rfl)
theorem d_X_past_55 : decode y_X_past.2.1 55 = .ok (.iadd, 1) := op_iadd (gk (k := 32) (t := 23) ck_X_past_1 rfl)
theorem d_X_past_56 : decode y_X_past.2.1 56 = .ok (.iaload, 1) := op_iaload (gk (k := 32) (t := 24) ck_X_past_1 rfl)
theorem d_X_past_57 : decode y_X_past.2.1 57 = .ok (.goto 4, 3) := op_goto (gk (k := 32) (t := 25) ck_X_past_1 rfl) (gk (k := 32) (t := 26) ck_X_past_1 rfl) (gk (k := 32) (t := 27) ck_X_past_1 rfl) (by decide +kernel)
abbrev y_X_which : MI := (⟨"SinglesUpModel", "which", "(II)I"⟩, prog_11_method_95_code, 7, some .int)
theorem ck_X_which_0 : (y_X_which.2.1.data.toList.drop 0).take 32 = [27, 4, 16, 20, 184, 0, 98, 153, 0, 12, 28, 3, 5, 184, 0, 98, 154, 0, 5, 2, 172, 2, 62, 3, 54, 4, 3, 54, 5, 3, 54, 6] := by decide +kernel
theorem d_X_which_0 : decode y_X_which.2.1 0 = .ok (.iload_n 1, 1) := op_iload_n1 (gk (k := 0) (t := 0) ck_X_which_0 rfl)
theorem d_X_which_1 : decode y_X_which.2.1 1 = .ok (.iconst 1, 1) := op_iconst1 (gk (k := 0) (t := 1) ck_X_which_0 rfl)
theorem d_X_which_2 : decode y_X_which.2.1 2 = .ok (.bipush 20, 2) := op_bipush (gk (k := 0) (t := 2) ck_X_which_0 rfl) (gk (k := 0) (t := 3) ck_X_which_0 rfl) rfl
theorem d_X_which_4 : decode y_X_which.2.1 4 = .ok (.invokestatic 98, 3) := op_invokestatic (gk (k := 0) (t := 4) ck_X_which_0 rfl) (gk (k := 0) (t := 5) ck_X_which_0 rfl) (gk (k := 0) (t := 6) ck_X_which_0 rfl) rfl
theorem d_X_which_7 : decode y_X_which.2.1 7 = .ok (.ifCond .eq 12, 3) := op_if_eq (gk (k := 0) (t := 7) ck_X_which_0 rfl) (gk (k := 0) (t := 8) ck_X_which_0 rfl) (gk (k := 0) (t := 9) ck_X_which_0 rfl) (by decide +kernel)
theorem d_X_which_19 : decode y_X_which.2.1 19 = .ok (.iconst (-1), 1) := op_iconstm1 (gk (k := 0) (t := 19) ck_X_which_0 rfl)
theorem d_X_which_20 : decode y_X_which.2.1 20 = .ok (.ireturn, 1) := op_ireturn (gk (k := 0) (t := 20) ck_X_which_0 rfl)
theorem d_X_which_10 : decode y_X_which.2.1 10 = .ok (.iload_n 2, 1) := op_iload_n2 (gk (k := 0) (t := 10) ck_X_which_0 rfl)
theorem d_X_which_11 : decode y_X_which.2.1 11 = .ok (.iconst 0, 1) := op_iconst0 (gk (k := 0) (t := 11) ck_X_which_0 rfl)
theorem d_X_which_12 : decode y_X_which.2.1 12 = .ok (.iconst 2, 1) := op_iconst2 (gk (k := 0) (t := 12) ck_X_which_0 rfl)
theorem d_X_which_13 : decode y_X_which.2.1 13 = .ok (.invokestatic 98, 3) := op_invokestatic (gk (k := 0) (t := 13) ck_X_which_0 rfl) (gk (k := 0) (t := 14) ck_X_which_0 rfl) (gk (k := 0) (t := 15) ck_X_which_0 rfl) rfl
theorem d_X_which_16 : decode y_X_which.2.1 16 = .ok (.ifCond .ne 5, 3) := op_if_ne (gk (k := 0) (t := 16) ck_X_which_0 rfl) (gk (k := 0) (t := 17) ck_X_which_0 rfl) (gk (k := 0) (t := 18) ck_X_which_0 rfl) (by decide +kernel)
theorem d_X_which_21 : decode y_X_which.2.1 21 = .ok (.iconst (-1), 1) := op_iconstm1 (gk (k := 0) (t := 21) ck_X_which_0 rfl)
theorem d_X_which_22 : decode y_X_which.2.1 22 = .ok (.istore_n 3, 1) := op_istore_n3 (gk (k := 0) (t := 22) ck_X_which_0 rfl)
theorem d_X_which_23 : decode y_X_which.2.1 23 = .ok (.iconst 0, 1) := op_iconst0 (gk (k := 0) (t := 23) ck_X_which_0 rfl)
theorem d_X_which_24 : decode y_X_which.2.1 24 = .ok (.istore 4, 2) := op_istore (gk (k := 0) (t := 24) ck_X_which_0 rfl) (gk (k := 0) (t := 25) ck_X_which_0 rfl) rfl
theorem d_X_which_26 : decode y_X_which.2.1 26 = .ok (.iconst 0, 1) := op_iconst0 (gk (k := 0) (t := 26) ck_X_which_0 rfl)
theorem d_X_which_27 : decode y_X_which.2.1 27 = .ok (.istore 5, 2) := op_istore (gk (k := 0) (t := 27) ck_X_which_0 rfl) (gk (k := 0) (t := 28) ck_X_which_0 rfl) rfl
theorem d_X_which_29 : decode y_X_which.2.1 29 = .ok (.iconst 0, 1) := op_iconst0 (gk (k := 0) (t := 29) ck_X_which_0 rfl)
theorem d_X_which_30 : decode y_X_which.2.1 30 = .ok (.istore 6, 2) := op_istore (gk (k := 0) (t := 30) ck_X_which_0 rfl) (gk (k := 0) (t := 31) ck_X_which_0 rfl) rfl
theorem ck_X_which_1 : (y_X_which.2.1.data.toList.drop 32).take 32 = [21, 6, 16, 16, 162, 0, 99, 42, 21, 6, 181, 0, 38, 42, 42, 180, 0, 7, 16, 6, 46, 42, 180, 0, 7, 8, 46, 42, 180, 0, 7, 4] := by decide +kernel
theorem d_X_which_32 : decode y_X_which.2.1 32 = .ok (.iload 6, 2) := op_iload (gk (k := 32) (t := 0) ck_X_which_1 rfl) (gk (k := 32) (t := 1) ck_X_which_1 rfl) rfl
theorem d_X_which_34 : decode y_X_which.2.1 34 = .ok (.bipush 16, 2) := op_bipush (gk (k := 32) (t := 2) ck_X_which_1 rfl) (gk (k := 32) (t := 3) ck_X_which_1 rfl) rfl
theorem d_X_which_36 : decode y_X_which.2.1 36 = .ok (.if_icmp .ge 99, 3) := op_icmp_ge (gk (k := 32) (t := 4) ck_X_which_1 rfl) (gk (k := 32) (t := 5) ck_X_which_1 rfl) (gk (k := 32) (t := 6) ck_X_which_1 rfl) (by decide +kernel)
theorem d_X_which_39 : decode y_X_which.2.1 39 = .ok (.aload_n 0, 1) := op_aload_n0 (gk (k := 32) (t := 7) ck_X_which_1 rfl)
theorem d_X_which_40 : decode y_X_which.2.1 40 = .ok (.iload 6, 2) := op_iload (gk (k := 32) (t := 8) ck_X_which_1 rfl) (gk (k := 32) (t := 9) ck_X_which_1 rfl) rfl
theorem d_X_which_42 : decode y_X_which.2.1 42 = .ok (.putfield 38, 3) := op_putfield (gk (k := 32) (t := 10) ck_X_which_1 rfl) (gk (k := 32) (t := 11) ck_X_which_1 rfl) (gk (k := 32) (t := 12) ck_X_which_1 rfl) rfl
theorem d_X_which_45 : decode y_X_which.2.1 45 = .ok (.aload_n 0, 1) := op_aload_n0 (gk (k := 32) (t := 13) ck_X_which_1 rfl)
theorem d_X_which_46 : decode y_X_which.2.1 46 = .ok (.aload_n 0, 1) := op_aload_n0 (gk (k := 32) (t := 14) ck_X_which_1 rfl)
theorem d_X_which_47 : decode y_X_which.2.1 47 = .ok (.getfield 7, 3) := op_getfield (gk (k := 32) (t := 15) ck_X_which_1 rfl) (gk (k := 32) (t := 16) ck_X_which_1 rfl) (gk (k := 32) (t := 17) ck_X_which_1 rfl) rfl
theorem d_X_which_50 : decode y_X_which.2.1 50 = .ok (.bipush 6, 2) := op_bipush (gk (k := 32) (t := 18) ck_X_which_1 rfl) (gk (k := 32) (t := 19) ck_X_which_1 rfl) rfl
theorem d_X_which_52 : decode y_X_which.2.1 52 = .ok (.iaload, 1) := op_iaload (gk (k := 32) (t := 20) ck_X_which_1 rfl)
theorem d_X_which_53 : decode y_X_which.2.1 53 = .ok (.aload_n 0, 1) := op_aload_n0 (gk (k := 32) (t := 21) ck_X_which_1 rfl)
theorem d_X_which_54 : decode y_X_which.2.1 54 = .ok (.getfield 7, 3) := op_getfield (gk (k := 32) (t := 22) ck_X_which_1 rfl) (gk (k := 32) (t := 23) ck_X_which_1 rfl) (gk (k := 32) (t := 24) ck_X_which_1 rfl) rfl
theorem d_X_which_57 : decode y_X_which.2.1 57 = .ok (.iconst 5, 1) := op_iconst5 (gk (k := 32) (t := 25) ck_X_which_1 rfl)
theorem d_X_which_58 : decode y_X_which.2.1 58 = .ok (.iaload, 1) := op_iaload (gk (k := 32) (t := 26) ck_X_which_1 rfl)
theorem d_X_which_59 : decode y_X_which.2.1 59 = .ok (.aload_n 0, 1) := op_aload_n0 (gk (k := 32) (t := 27) ck_X_which_1 rfl)
theorem d_X_which_60 : decode y_X_which.2.1 60 = .ok (.getfield 7, 3) := op_getfield (gk (k := 32) (t := 28) ck_X_which_1 rfl) (gk (k := 32) (t := 29) ck_X_which_1 rfl) (gk (k := 32) (t := 30) ck_X_which_1 rfl) rfl
theorem d_X_which_63 : decode y_X_which.2.1 63 = .ok (.iconst 1, 1) := op_iconst1 (gk (k := 32) (t := 31) ck_X_which_1 rfl)
theorem ck_X_which_2 : (y_X_which.2.1.data.toList.drop 64).take 32 = [46, 27, 182, 1, 160, 29, 2, 159, 0, 39, 42, 180, 0, 93, 3, 46, 21, 4, 163, 0, 47, 42, 180, 0, 93, 3, 46, 21, 4, 160, 0, 17] := by decide +kernel
theorem d_X_which_64 : decode y_X_which.2.1 64 = .ok (.iaload, 1) := op_iaload (gk (k := 64) (t := 0) ck_X_which_2 rfl)
theorem d_X_which_65 : decode y_X_which.2.1 65 = .ok (.iload_n 1, 1) := op_iload_n1 (gk (k := 64) (t := 1) ck_X_which_2 rfl)
theorem d_X_which_66 : decode y_X_which.2.1 66 = .ok (.invokevirtual 416, 3) := op_invokevirtual (gk (k := 64) (t := 2) ck_X_which_2 rfl) (gk (k := 64) (t := 3) ck_X_which_2 rfl) (gk (k := 64) (t := 4) ck_X_which_2 rfl) rfl
theorem d_X_which_69 : decode y_X_which.2.1 69 = .ok (.iload_n 3, 1) := op_iload_n3 (gk (k := 64) (t := 5) ck_X_which_2 rfl)
theorem d_X_which_70 : decode y_X_which.2.1 70 = .ok (.iconst (-1), 1) := op_iconstm1 (gk (k := 64) (t := 6) ck_X_which_2 rfl)
theorem ck_X_which_4 : (y_X_which.2.1.data.toList.drop 128).take 32 = [5, 132, 6, 1, 167, 255, 156, 42, 2, 181, 0, 38, 28, 154, 0, 7, 29, 167, 0, 15, 28, 4, 160, 0, 8, 21, 4, 167, 0, 5, 21, 5] := by decide +kernel
theorem d_X_which_129 : decode y_X_which.2.1 129 = .ok (.iinc 6 1, 3) := op_iinc (gk (k := 128) (t := 1) ck_X_which_4 rfl) (gk (k := 128) (t := 2) ck_X_which_4 rfl) (gk (k := 128) (t := 3) ck_X_which_4 rfl) rfl rfl
theorem d_X_which_132 : decode y_X_which.2.1 132 = .ok (.goto (-100), 3) := op_goto (gk (k := 128) (t := 4) ck_X_which_4 rfl) (gk (k := 128) (t := 5) ck_X_which_4 rfl) (gk (k := 128) (t := 6) ck_X_which_4 rfl) (by decide +kernel)
theorem ck_X_which_3 : (y_X_which.2.1.data.toList.drop 96).take 32 = [42, 180, 0, 93, 5, 46, 21, 5, 161, 0, 6, 167, 0, 22, 21, 6, 62, 42, 180, 0, 93, 3, 46, 54, 4, 42, 180, 0, 93, 5, 46, 54] := by decide +kernel
theorem d_X_which_110 : decode y_X_which.2.1 110 = .ok (.iload 6, 2) := op_iload (gk (k := 96) (t := 14) ck_X_which_3 rfl) (gk (k := 96) (t := 15) ck_X_which_3 rfl) rfl
theorem d_X_which_112 : decode y_X_which.2.1 112 = .ok (.istore_n 3, 1) := op_istore_n3 (gk (k := 96) (t := 16) ck_X_which_3 rfl)
theorem d_X_which_113 : decode y_X_which.2.1 113 = .ok (.aload_n 0, 1) := op_aload_n0 (gk (k := 96) (t := 17) ck_X_which_3 rfl)
theorem d_X_which_114 : decode y_X_which.2.1 114 = .ok (.getfield 93, 3) := op_getfield (gk (k := 96) (t := 18) ck_X_which_3 rfl) (gk (k := 96) (t := 19) ck_X_which_3 rfl) (gk (k := 96) (t := 20) ck_X_which_3 rfl) rfl
theorem d_X_which_117 : decode y_X_which.2.1 117 = .ok (.iconst 0, 1) := op_iconst0 (gk (k := 96) (t := 21) ck_X_which_3 rfl)
theorem d_X_which_118 : decode y_X_which.2.1 118 = .ok (.iaload, 1) := op_iaload (gk (k := 96) (t := 22) ck_X_which_3 rfl)
theorem d_X_which_119 : decode y_X_which.2.1 119 = .ok (.istore 4, 2) := op_istore (gk (k := 96) (t := 23) ck_X_which_3 rfl) (gk (k := 96) (t := 24) ck_X_which_3 rfl) rfl
theorem d_X_which_121 : decode y_X_which.2.1 121 = .ok (.aload_n 0, 1) := op_aload_n0 (gk (k := 96) (t := 25) ck_X_which_3 rfl)
theorem d_X_which_122 : decode y_X_which.2.1 122 = .ok (.getfield 93, 3) := op_getfield (gk (k := 96) (t := 26) ck_X_which_3 rfl) (gk (k := 96) (t := 27) ck_X_which_3 rfl) (gk (k := 96) (t := 28) ck_X_which_3 rfl) rfl
theorem d_X_which_125 : decode y_X_which.2.1 125 = .ok (.iconst 2, 1) := op_iconst2 (gk (k := 96) (t := 29) ck_X_which_3 rfl)
theorem d_X_which_126 : decode y_X_which.2.1 126 = .ok (.iaload, 1) := op_iaload (gk (k := 96) (t := 30) ck_X_which_3 rfl)
theorem d_X_which_127 : decode y_X_which.2.1 127 = .ok (.istore 5, 2) := op_istore (gk (k := 96) (t := 31) ck_X_which_3 rfl) (gk (k := 128) (t := 0) ck_X_which_4 rfl) rfl
theorem d_X_which_71 : decode y_X_which.2.1 71 = .ok (.if_icmp .eq 39, 3) := op_icmp_eq (gk (k := 64) (t := 7) ck_X_which_2 rfl) (gk (k := 64) (t := 8) ck_X_which_2 rfl) (gk (k := 64) (t := 9) ck_X_which_2 rfl) (by decide +kernel)
theorem d_X_which_74 : decode y_X_which.2.1 74 = .ok (.aload_n 0, 1) := op_aload_n0 (gk (k := 64) (t := 10) ck_X_which_2 rfl)
theorem d_X_which_75 : decode y_X_which.2.1 75 = .ok (.getfield 93, 3) := op_getfield (gk (k := 64) (t := 11) ck_X_which_2 rfl) (gk (k := 64) (t := 12) ck_X_which_2 rfl) (gk (k := 64) (t := 13) ck_X_which_2 rfl) rfl
theorem d_X_which_78 : decode y_X_which.2.1 78 = .ok (.iconst 0, 1) := op_iconst0 (gk (k := 64) (t := 14) ck_X_which_2 rfl)
theorem d_X_which_79 : decode y_X_which.2.1 79 = .ok (.iaload, 1) := op_iaload (gk (k := 64) (t := 15) ck_X_which_2 rfl)
theorem d_X_which_80 : decode y_X_which.2.1 80 = .ok (.iload 4, 2) := op_iload (gk (k := 64) (t := 16) ck_X_which_2 rfl) (gk (k := 64) (t := 17) ck_X_which_2 rfl) rfl
theorem d_X_which_82 : decode y_X_which.2.1 82 = .ok (.if_icmp .gt 47, 3) := op_icmp_gt (gk (k := 64) (t := 18) ck_X_which_2 rfl) (gk (k := 64) (t := 19) ck_X_which_2 rfl) (gk (k := 64) (t := 20) ck_X_which_2 rfl) (by decide +kernel)
theorem d_X_which_85 : decode y_X_which.2.1 85 = .ok (.aload_n 0, 1) := op_aload_n0 (gk (k := 64) (t := 21) ck_X_which_2 rfl)
theorem d_X_which_86 : decode y_X_which.2.1 86 = .ok (.getfield 93, 3) := op_getfield (gk (k := 64) (t := 22) ck_X_which_2 rfl) (gk (k := 64) (t := 23) ck_X_which_2 rfl) (gk (k := 64) (t := 24) ck_X_which_2 rfl) rfl
theorem d_X_which_89 : decode y_X_which.2.1 89 = .ok (.iconst 0, 1) := op_iconst0 (gk (k := 64) (t := 25) ck_X_which_2 rfl)
theorem d_X_which_90 : decode y_X_which.2.1 90 = .ok (.iaload, 1) := op_iaload (gk (k := 64) (t := 26) ck_X_which_2 rfl)
theorem d_X_which_91 : decode y_X_which.2.1 91 = .ok (.iload 4, 2) := op_iload (gk (k := 64) (t := 27) ck_X_which_2 rfl) (gk (k := 64) (t := 28) ck_X_which_2 rfl) rfl
theorem d_X_which_93 : decode y_X_which.2.1 93 = .ok (.if_icmp .ne 17, 3) := op_icmp_ne (gk (k := 64) (t := 29) ck_X_which_2 rfl) (gk (k := 64) (t := 30) ck_X_which_2 rfl) (gk (k := 64) (t := 31) ck_X_which_2 rfl) (by decide +kernel)
theorem d_X_which_96 : decode y_X_which.2.1 96 = .ok (.aload_n 0, 1) := op_aload_n0 (gk (k := 96) (t := 0) ck_X_which_3 rfl)
theorem d_X_which_97 : decode y_X_which.2.1 97 = .ok (.getfield 93, 3) := op_getfield (gk (k := 96) (t := 1) ck_X_which_3 rfl) (gk (k := 96) (t := 2) ck_X_which_3 rfl) (gk (k := 96) (t := 3) ck_X_which_3 rfl) rfl
theorem d_X_which_100 : decode y_X_which.2.1 100 = .ok (.iconst 2, 1) := op_iconst2 (gk (k := 96) (t := 4) ck_X_which_3 rfl)
theorem d_X_which_101 : decode y_X_which.2.1 101 = .ok (.iaload, 1) := op_iaload (gk (k := 96) (t := 5) ck_X_which_3 rfl)
theorem d_X_which_102 : decode y_X_which.2.1 102 = .ok (.iload 5, 2) := op_iload (gk (k := 96) (t := 6) ck_X_which_3 rfl) (gk (k := 96) (t := 7) ck_X_which_3 rfl) rfl
theorem d_X_which_104 : decode y_X_which.2.1 104 = .ok (.if_icmp .lt 6, 3) := op_icmp_lt (gk (k := 96) (t := 8) ck_X_which_3 rfl) (gk (k := 96) (t := 9) ck_X_which_3 rfl) (gk (k := 96) (t := 10) ck_X_which_3 rfl) (by decide +kernel)
theorem d_X_which_107 : decode y_X_which.2.1 107 = .ok (.goto 22, 3) := op_goto (gk (k := 96) (t := 11) ck_X_which_3 rfl) (gk (k := 96) (t := 12) ck_X_which_3 rfl) (gk (k := 96) (t := 13) ck_X_which_3 rfl) (by decide +kernel)
theorem d_X_which_135 : decode y_X_which.2.1 135 = .ok (.aload_n 0, 1) := op_aload_n0 (gk (k := 128) (t := 7) ck_X_which_4 rfl)
theorem d_X_which_136 : decode y_X_which.2.1 136 = .ok (.iconst (-1), 1) := op_iconstm1 (gk (k := 128) (t := 8) ck_X_which_4 rfl)
theorem d_X_which_137 : decode y_X_which.2.1 137 = .ok (.putfield 38, 3) := op_putfield (gk (k := 128) (t := 9) ck_X_which_4 rfl) (gk (k := 128) (t := 10) ck_X_which_4 rfl) (gk (k := 128) (t := 11) ck_X_which_4 rfl) rfl
theorem d_X_which_140 : decode y_X_which.2.1 140 = .ok (.iload_n 2, 1) := op_iload_n2 (gk (k := 128) (t := 12) ck_X_which_4 rfl)
theorem d_X_which_141 : decode y_X_which.2.1 141 = .ok (.ifCond .ne 7, 3) := op_if_ne (gk (k := 128) (t := 13) ck_X_which_4 rfl) (gk (k := 128) (t := 14) ck_X_which_4 rfl) (gk (k := 128) (t := 15) ck_X_which_4 rfl) (by decide +kernel)
theorem d_X_which_148 : decode y_X_which.2.1 148 = .ok (.iload_n 2, 1) := op_iload_n2 (gk (k := 128) (t := 20) ck_X_which_4 rfl)
theorem d_X_which_149 : decode y_X_which.2.1 149 = .ok (.iconst 1, 1) := op_iconst1 (gk (k := 128) (t := 21) ck_X_which_4 rfl)
theorem d_X_which_150 : decode y_X_which.2.1 150 = .ok (.if_icmp .ne 8, 3) := op_icmp_ne (gk (k := 128) (t := 22) ck_X_which_4 rfl) (gk (k := 128) (t := 23) ck_X_which_4 rfl) (gk (k := 128) (t := 24) ck_X_which_4 rfl) (by decide +kernel)
theorem d_X_which_158 : decode y_X_which.2.1 158 = .ok (.iload 5, 2) := op_iload (gk (k := 128) (t := 30) ck_X_which_4 rfl) (gk (k := 128) (t := 31) ck_X_which_4 rfl) rfl
theorem ck_X_which_5 : (y_X_which.2.1.data.toList.drop 160).take 32 = [172] := by decide +kernel
theorem d_X_which_160 : decode y_X_which.2.1 160 = .ok (.ireturn, 1) := op_ireturn (gk (k := 160) (t := 0) ck_X_which_5 rfl)
theorem d_X_which_153 : decode y_X_which.2.1 153 = .ok (.iload 4, 2) := op_iload (gk (k := 128) (t := 25) ck_X_which_4 rfl) (gk (k := 128) (t := 26) ck_X_which_4 rfl) rfl
theorem d_X_which_155 : decode y_X_which.2.1 155 = .ok (.goto 5, 3) := op_goto (gk (k := 128) (t := 27) ck_X_which_4 rfl) (gk (k := 128) (t := 28) ck_X_which_4 rfl) (gk (k := 128) (t := 29) ck_X_which_4 rfl) (by decide +kernel)
theorem d_X_which_144 : decode y_X_which.2.1 144 = .ok (.iload_n 3, 1) := op_iload_n3 (gk (k := 128) (t := 16) ck_X_which_4 rfl)
theorem d_X_which_145 : decode y_X_which.2.1 145 = .ok (.goto 15, 3) := op_goto (gk (k := 128) (t := 17) ck_X_which_4 rfl) (gk (k := 128) (t := 18) ck_X_which_4 rfl) (gk (k := 128) (t := 19) ck_X_which_4 rfl) (by decide +kernel)
abbrev y_X_folded : MI := (⟨"SinglesUpModel", "folded", "(III)I"⟩, prog_11_method_96_code, 9, some .int)
theorem ck_X_folded_0 : (y_X_folded.2.1.data.toList.drop 0).take 32 = [27, 184, 0, 105, 153, 0, 33, 28, 4, 16, 40, 184, 0, 98, 153, 0, 23, 29, 2, 42, 180, 0, 7, 17, 0, 130, 27, 96, 46, 4, 100, 184] := by decide +kernel
theorem d_X_folded_0 : decode y_X_folded.2.1 0 = .ok (.iload_n 1, 1) := op_iload_n1 (gk (k := 0) (t := 0) ck_X_folded_0 rfl)
theorem d_X_folded_1 : decode y_X_folded.2.1 1 = .ok (.invokestatic 105, 3) := op_invokestatic (gk (k := 0) (t := 1) ck_X_folded_0 rfl) (gk (k := 0) (t := 2) ck_X_folded_0 rfl) (gk (k := 0) (t := 3) ck_X_folded_0 rfl) rfl
theorem d_X_folded_4 : decode y_X_folded.2.1 4 = .ok (.ifCond .eq 33, 3) := op_if_eq (gk (k := 0) (t := 4) ck_X_folded_0 rfl) (gk (k := 0) (t := 5) ck_X_folded_0 rfl) (gk (k := 0) (t := 6) ck_X_folded_0 rfl) (by decide +kernel)
theorem ck_X_folded_1 : (y_X_folded.2.1.data.toList.drop 32).take 32 = [0, 98, 154, 0, 5, 2, 172, 3, 54, 4, 28, 54, 5, 3, 54, 6, 21, 6, 42, 180, 0, 7, 17, 0, 130, 27, 96, 46, 162, 0, 89, 42] := by decide +kernel
theorem d_X_folded_37 : decode y_X_folded.2.1 37 = .ok (.iconst (-1), 1) := op_iconstm1 (gk (k := 32) (t := 5) ck_X_folded_1 rfl)
theorem d_X_folded_38 : decode y_X_folded.2.1 38 = .ok (.ireturn, 1) := op_ireturn (gk (k := 32) (t := 6) ck_X_folded_1 rfl)
theorem d_X_folded_7 : decode y_X_folded.2.1 7 = .ok (.iload_n 2, 1) := op_iload_n2 (gk (k := 0) (t := 7) ck_X_folded_0 rfl)
theorem d_X_folded_8 : decode y_X_folded.2.1 8 = .ok (.iconst 1, 1) := op_iconst1 (gk (k := 0) (t := 8) ck_X_folded_0 rfl)
theorem d_X_folded_9 : decode y_X_folded.2.1 9 = .ok (.bipush 40, 2) := op_bipush (gk (k := 0) (t := 9) ck_X_folded_0 rfl) (gk (k := 0) (t := 10) ck_X_folded_0 rfl) rfl
theorem d_X_folded_11 : decode y_X_folded.2.1 11 = .ok (.invokestatic 98, 3) := op_invokestatic (gk (k := 0) (t := 11) ck_X_folded_0 rfl) (gk (k := 0) (t := 12) ck_X_folded_0 rfl) (gk (k := 0) (t := 13) ck_X_folded_0 rfl) rfl
theorem d_X_folded_14 : decode y_X_folded.2.1 14 = .ok (.ifCond .eq 23, 3) := op_if_eq (gk (k := 0) (t := 14) ck_X_folded_0 rfl) (gk (k := 0) (t := 15) ck_X_folded_0 rfl) (gk (k := 0) (t := 16) ck_X_folded_0 rfl) (by decide +kernel)
theorem d_X_folded_17 : decode y_X_folded.2.1 17 = .ok (.iload_n 3, 1) := op_iload_n3 (gk (k := 0) (t := 17) ck_X_folded_0 rfl)
theorem d_X_folded_18 : decode y_X_folded.2.1 18 = .ok (.iconst (-1), 1) := op_iconstm1 (gk (k := 0) (t := 18) ck_X_folded_0 rfl)
theorem d_X_folded_19 : decode y_X_folded.2.1 19 = .ok (.aload_n 0, 1) := op_aload_n0 (gk (k := 0) (t := 19) ck_X_folded_0 rfl)
theorem d_X_folded_20 : decode y_X_folded.2.1 20 = .ok (.getfield 7, 3) := op_getfield (gk (k := 0) (t := 20) ck_X_folded_0 rfl) (gk (k := 0) (t := 21) ck_X_folded_0 rfl) (gk (k := 0) (t := 22) ck_X_folded_0 rfl) rfl
theorem d_X_folded_23 : decode y_X_folded.2.1 23 = .ok (.sipush 130, 3) := op_sipush (gk (k := 0) (t := 23) ck_X_folded_0 rfl) (gk (k := 0) (t := 24) ck_X_folded_0 rfl) (gk (k := 0) (t := 25) ck_X_folded_0 rfl) (by decide +kernel)
theorem d_X_folded_26 : decode y_X_folded.2.1 26 = .ok (.iload_n 1, 1) := op_iload_n1 (gk (k := 0) (t := 26) ck_X_folded_0 rfl)
theorem d_X_folded_27 : decode y_X_folded.2.1 27 = .ok (.iadd, 1) := op_iadd (gk (k := 0) (t := 27) ck_X_folded_0 rfl)
theorem d_X_folded_28 : decode y_X_folded.2.1 28 = .ok (.iaload, 1) := op_iaload (gk (k := 0) (t := 28) ck_X_folded_0 rfl)
theorem d_X_folded_29 : decode y_X_folded.2.1 29 = .ok (.iconst 1, 1) := op_iconst1 (gk (k := 0) (t := 29) ck_X_folded_0 rfl)
theorem d_X_folded_30 : decode y_X_folded.2.1 30 = .ok (.isub, 1) := op_isub (gk (k := 0) (t := 30) ck_X_folded_0 rfl)
theorem d_X_folded_31 : decode y_X_folded.2.1 31 = .ok (.invokestatic 98, 3) := op_invokestatic (gk (k := 0) (t := 31) ck_X_folded_0 rfl) (gk (k := 32) (t := 0) ck_X_folded_1 rfl) (gk (k := 32) (t := 1) ck_X_folded_1 rfl) rfl
theorem d_X_folded_34 : decode y_X_folded.2.1 34 = .ok (.ifCond .ne 5, 3) := op_if_ne (gk (k := 32) (t := 2) ck_X_folded_1 rfl) (gk (k := 32) (t := 3) ck_X_folded_1 rfl) (gk (k := 32) (t := 4) ck_X_folded_1 rfl) (by decide +kernel)
theorem d_X_folded_39 : decode y_X_folded.2.1 39 = .ok (.iconst 0, 1) := op_iconst0 (gk (k := 32) (t := 7) ck_X_folded_1 rfl)
theorem d_X_folded_40 : decode y_X_folded.2.1 40 = .ok (.istore 4, 2) := op_istore (gk (k := 32) (t := 8) ck_X_folded_1 rfl) (gk (k := 32) (t := 9) ck_X_folded_1 rfl) rfl
theorem d_X_folded_42 : decode y_X_folded.2.1 42 = .ok (.iload_n 2, 1) := op_iload_n2 (gk (k := 32) (t := 10) ck_X_folded_1 rfl)
theorem d_X_folded_43 : decode y_X_folded.2.1 43 = .ok (.istore 5, 2) := op_istore (gk (k := 32) (t := 11) ck_X_folded_1 rfl) (gk (k := 32) (t := 12) ck_X_folded_1 rfl) rfl
theorem d_X_folded_45 : decode y_X_folded.2.1 45 = .ok (.iconst 0, 1) := op_iconst0 (gk (k := 32) (t := 13) ck_X_folded_1 rfl)
theorem d_X_folded_46 : decode y_X_folded.2.1 46 = .ok (.istore 6, 2) := op_istore (gk (k := 32) (t := 14) ck_X_folded_1 rfl) (gk (k := 32) (t := 15) ck_X_folded_1 rfl) rfl
theorem d_X_folded_48 : decode y_X_folded.2.1 48 = .ok (.iload 6, 2) := op_iload (gk (k := 32) (t := 16) ck_X_folded_1 rfl) (gk (k := 32) (t := 17) ck_X_folded_1 rfl) rfl
theorem d_X_folded_50 : decode y_X_folded.2.1 50 = .ok (.aload_n 0, 1) := op_aload_n0 (gk (k := 32) (t := 18) ck_X_folded_1 rfl)
theorem d_X_folded_51 : decode y_X_folded.2.1 51 = .ok (.getfield 7, 3) := op_getfield (gk (k := 32) (t := 19) ck_X_folded_1 rfl) (gk (k := 32) (t := 20) ck_X_folded_1 rfl) (gk (k := 32) (t := 21) ck_X_folded_1 rfl) rfl
theorem d_X_folded_54 : decode y_X_folded.2.1 54 = .ok (.sipush 130, 3) := op_sipush (gk (k := 32) (t := 22) ck_X_folded_1 rfl) (gk (k := 32) (t := 23) ck_X_folded_1 rfl) (gk (k := 32) (t := 24) ck_X_folded_1 rfl) (by decide +kernel)
theorem d_X_folded_57 : decode y_X_folded.2.1 57 = .ok (.iload_n 1, 1) := op_iload_n1 (gk (k := 32) (t := 25) ck_X_folded_1 rfl)
theorem d_X_folded_58 : decode y_X_folded.2.1 58 = .ok (.iadd, 1) := op_iadd (gk (k := 32) (t := 26) ck_X_folded_1 rfl)
theorem d_X_folded_59 : decode y_X_folded.2.1 59 = .ok (.iaload, 1) := op_iaload (gk (k := 32) (t := 27) ck_X_folded_1 rfl)
theorem d_X_folded_60 : decode y_X_folded.2.1 60 = .ok (.if_icmp .ge 89, 3) := op_icmp_ge (gk (k := 32) (t := 28) ck_X_folded_1 rfl) (gk (k := 32) (t := 29) ck_X_folded_1 rfl) (gk (k := 32) (t := 30) ck_X_folded_1 rfl) (by decide +kernel)
theorem ck_X_folded_4 : (y_X_folded.2.1.data.toList.drop 128).take 32 = [4, 1, 21, 7, 54, 5, 21, 6, 29, 160, 0, 6, 21, 8, 172, 132, 6, 1, 167, 255, 158, 21, 4, 172] := by decide +kernel
theorem d_X_folded_149 : decode y_X_folded.2.1 149 = .ok (.iload 4, 2) := op_iload (gk (k := 128) (t := 21) ck_X_folded_4 rfl) (gk (k := 128) (t := 22) ck_X_folded_4 rfl) rfl
theorem d_X_folded_151 : decode y_X_folded.2.1 151 = .ok (.ireturn, 1) := op_ireturn (gk (k := 128) (t := 23) ck_X_folded_4 rfl)
theorem d_X_folded_63 : decode y_X_folded.2.1 63 = .ok (.aload_n 0, 1) := op_aload_n0 (gk (k := 32) (t := 31) ck_X_folded_1 rfl)
theorem ck_X_folded_2 : (y_X_folded.2.1.data.toList.drop 64).take 32 = [27, 21, 6, 4, 182, 1, 8, 54, 7, 21, 4, 54, 8, 21, 7, 28, 164, 0, 22, 21, 4, 21, 7, 28, 96, 4, 100, 28, 108, 96, 54, 4] := by decide +kernel
theorem d_X_folded_64 : decode y_X_folded.2.1 64 = .ok (.iload_n 1, 1) := op_iload_n1 (gk (k := 64) (t := 0) ck_X_folded_2 rfl)
theorem d_X_folded_65 : decode y_X_folded.2.1 65 = .ok (.iload 6, 2) := op_iload (gk (k := 64) (t := 1) ck_X_folded_2 rfl) (gk (k := 64) (t := 2) ck_X_folded_2 rfl) rfl
theorem d_X_folded_67 : decode y_X_folded.2.1 67 = .ok (.iconst 1, 1) := op_iconst1 (gk (k := 64) (t := 3) ck_X_folded_2 rfl)
theorem d_X_folded_68 : decode y_X_folded.2.1 68 = .ok (.invokevirtual 264, 3) := op_invokevirtual (gk (k := 64) (t := 4) ck_X_folded_2 rfl) (gk (k := 64) (t := 5) ck_X_folded_2 rfl) (gk (k := 64) (t := 6) ck_X_folded_2 rfl) rfl
theorem d_X_folded_71 : decode y_X_folded.2.1 71 = .ok (.istore 7, 2) := op_istore (gk (k := 64) (t := 7) ck_X_folded_2 rfl) (gk (k := 64) (t := 8) ck_X_folded_2 rfl) rfl
theorem d_X_folded_73 : decode y_X_folded.2.1 73 = .ok (.iload 4, 2) := op_iload (gk (k := 64) (t := 9) ck_X_folded_2 rfl) (gk (k := 64) (t := 10) ck_X_folded_2 rfl) rfl
theorem d_X_folded_75 : decode y_X_folded.2.1 75 = .ok (.istore 8, 2) := op_istore (gk (k := 64) (t := 11) ck_X_folded_2 rfl) (gk (k := 64) (t := 12) ck_X_folded_2 rfl) rfl
theorem d_X_folded_77 : decode y_X_folded.2.1 77 = .ok (.iload 7, 2) := op_iload (gk (k := 64) (t := 13) ck_X_folded_2 rfl) (gk (k := 64) (t := 14) ck_X_folded_2 rfl) rfl
theorem d_X_folded_79 : decode y_X_folded.2.1 79 = .ok (.iload_n 2, 1) := op_iload_n2 (gk (k := 64) (t := 15) ck_X_folded_2 rfl)
theorem d_X_folded_134 : decode y_X_folded.2.1 134 = .ok (.iload 6, 2) := op_iload (gk (k := 128) (t := 6) ck_X_folded_4 rfl) (gk (k := 128) (t := 7) ck_X_folded_4 rfl) rfl
theorem d_X_folded_136 : decode y_X_folded.2.1 136 = .ok (.iload_n 3, 1) := op_iload_n3 (gk (k := 128) (t := 8) ck_X_folded_4 rfl)
theorem d_X_folded_137 : decode y_X_folded.2.1 137 = .ok (.if_icmp .ne 6, 3) := op_icmp_ne (gk (k := 128) (t := 9) ck_X_folded_4 rfl) (gk (k := 128) (t := 10) ck_X_folded_4 rfl) (gk (k := 128) (t := 11) ck_X_folded_4 rfl) (by decide +kernel)
theorem d_X_folded_143 : decode y_X_folded.2.1 143 = .ok (.iinc 6 1, 3) := op_iinc (gk (k := 128) (t := 15) ck_X_folded_4 rfl) (gk (k := 128) (t := 16) ck_X_folded_4 rfl) (gk (k := 128) (t := 17) ck_X_folded_4 rfl) rfl rfl
theorem d_X_folded_146 : decode y_X_folded.2.1 146 = .ok (.goto (-98), 3) := op_goto (gk (k := 128) (t := 18) ck_X_folded_4 rfl) (gk (k := 128) (t := 19) ck_X_folded_4 rfl) (gk (k := 128) (t := 20) ck_X_folded_4 rfl) (by decide +kernel)
theorem d_X_folded_140 : decode y_X_folded.2.1 140 = .ok (.iload 8, 2) := op_iload (gk (k := 128) (t := 12) ck_X_folded_4 rfl) (gk (k := 128) (t := 13) ck_X_folded_4 rfl) rfl
theorem d_X_folded_142 : decode y_X_folded.2.1 142 = .ok (.ireturn, 1) := op_ireturn (gk (k := 128) (t := 14) ck_X_folded_4 rfl)
theorem d_X_folded_80 : decode y_X_folded.2.1 80 = .ok (.if_icmp .le 22, 3) := op_icmp_le (gk (k := 64) (t := 16) ck_X_folded_2 rfl) (gk (k := 64) (t := 17) ck_X_folded_2 rfl) (gk (k := 64) (t := 18) ck_X_folded_2 rfl) (by decide +kernel)
theorem ck_X_folded_3 : (y_X_folded.2.1.data.toList.drop 96).take 32 = [28, 54, 5, 167, 0, 35, 21, 5, 21, 7, 96, 28, 163, 0, 19, 21, 4, 4, 100, 54, 8, 21, 5, 21, 7, 96, 54, 5, 167, 0, 10, 132] := by decide +kernel
theorem d_X_folded_102 : decode y_X_folded.2.1 102 = .ok (.iload 5, 2) := op_iload (gk (k := 96) (t := 6) ck_X_folded_3 rfl) (gk (k := 96) (t := 7) ck_X_folded_3 rfl) rfl
theorem d_X_folded_104 : decode y_X_folded.2.1 104 = .ok (.iload 7, 2) := op_iload (gk (k := 96) (t := 8) ck_X_folded_3 rfl) (gk (k := 96) (t := 9) ck_X_folded_3 rfl) rfl
theorem d_X_folded_106 : decode y_X_folded.2.1 106 = .ok (.iadd, 1) := op_iadd (gk (k := 96) (t := 10) ck_X_folded_3 rfl)
theorem d_X_folded_107 : decode y_X_folded.2.1 107 = .ok (.iload_n 2, 1) := op_iload_n2 (gk (k := 96) (t := 11) ck_X_folded_3 rfl)
theorem d_X_folded_108 : decode y_X_folded.2.1 108 = .ok (.if_icmp .gt 19, 3) := op_icmp_gt (gk (k := 96) (t := 12) ck_X_folded_3 rfl) (gk (k := 96) (t := 13) ck_X_folded_3 rfl) (gk (k := 96) (t := 14) ck_X_folded_3 rfl) (by decide +kernel)
theorem d_X_folded_127 : decode y_X_folded.2.1 127 = .ok (.iinc 4 1, 3) := op_iinc (gk (k := 96) (t := 31) ck_X_folded_3 rfl) (gk (k := 128) (t := 0) ck_X_folded_4 rfl) (gk (k := 128) (t := 1) ck_X_folded_4 rfl) rfl rfl
theorem d_X_folded_130 : decode y_X_folded.2.1 130 = .ok (.iload 7, 2) := op_iload (gk (k := 128) (t := 2) ck_X_folded_4 rfl) (gk (k := 128) (t := 3) ck_X_folded_4 rfl) rfl
theorem d_X_folded_132 : decode y_X_folded.2.1 132 = .ok (.istore 5, 2) := op_istore (gk (k := 128) (t := 4) ck_X_folded_4 rfl) (gk (k := 128) (t := 5) ck_X_folded_4 rfl) rfl
theorem d_X_folded_111 : decode y_X_folded.2.1 111 = .ok (.iload 4, 2) := op_iload (gk (k := 96) (t := 15) ck_X_folded_3 rfl) (gk (k := 96) (t := 16) ck_X_folded_3 rfl) rfl
theorem d_X_folded_113 : decode y_X_folded.2.1 113 = .ok (.iconst 1, 1) := op_iconst1 (gk (k := 96) (t := 17) ck_X_folded_3 rfl)
theorem d_X_folded_114 : decode y_X_folded.2.1 114 = .ok (.isub, 1) := op_isub (gk (k := 96) (t := 18) ck_X_folded_3 rfl)
theorem d_X_folded_115 : decode y_X_folded.2.1 115 = .ok (.istore 8, 2) := op_istore (gk (k := 96) (t := 19) ck_X_folded_3 rfl) (gk (k := 96) (t := 20) ck_X_folded_3 rfl) rfl
theorem d_X_folded_117 : decode y_X_folded.2.1 117 = .ok (.iload 5, 2) := op_iload (gk (k := 96) (t := 21) ck_X_folded_3 rfl) (gk (k := 96) (t := 22) ck_X_folded_3 rfl) rfl
theorem d_X_folded_119 : decode y_X_folded.2.1 119 = .ok (.iload 7, 2) := op_iload (gk (k := 96) (t := 23) ck_X_folded_3 rfl) (gk (k := 96) (t := 24) ck_X_folded_3 rfl) rfl
theorem d_X_folded_121 : decode y_X_folded.2.1 121 = .ok (.iadd, 1) := op_iadd (gk (k := 96) (t := 25) ck_X_folded_3 rfl)
theorem d_X_folded_122 : decode y_X_folded.2.1 122 = .ok (.istore 5, 2) := op_istore (gk (k := 96) (t := 26) ck_X_folded_3 rfl) (gk (k := 96) (t := 27) ck_X_folded_3 rfl) rfl
theorem d_X_folded_124 : decode y_X_folded.2.1 124 = .ok (.goto 10, 3) := op_goto (gk (k := 96) (t := 28) ck_X_folded_3 rfl) (gk (k := 96) (t := 29) ck_X_folded_3 rfl) (gk (k := 96) (t := 30) ck_X_folded_3 rfl) (by decide +kernel)
theorem d_X_folded_83 : decode y_X_folded.2.1 83 = .ok (.iload 4, 2) := op_iload (gk (k := 64) (t := 19) ck_X_folded_2 rfl) (gk (k := 64) (t := 20) ck_X_folded_2 rfl) rfl
theorem d_X_folded_85 : decode y_X_folded.2.1 85 = .ok (.iload 7, 2) := op_iload (gk (k := 64) (t := 21) ck_X_folded_2 rfl) (gk (k := 64) (t := 22) ck_X_folded_2 rfl) rfl
theorem d_X_folded_87 : decode y_X_folded.2.1 87 = .ok (.iload_n 2, 1) := op_iload_n2 (gk (k := 64) (t := 23) ck_X_folded_2 rfl)
theorem d_X_folded_88 : decode y_X_folded.2.1 88 = .ok (.iadd, 1) := op_iadd (gk (k := 64) (t := 24) ck_X_folded_2 rfl)
theorem d_X_folded_89 : decode y_X_folded.2.1 89 = .ok (.iconst 1, 1) := op_iconst1 (gk (k := 64) (t := 25) ck_X_folded_2 rfl)
theorem d_X_folded_90 : decode y_X_folded.2.1 90 = .ok (.isub, 1) := op_isub (gk (k := 64) (t := 26) ck_X_folded_2 rfl)
theorem d_X_folded_91 : decode y_X_folded.2.1 91 = .ok (.iload_n 2, 1) := op_iload_n2 (gk (k := 64) (t := 27) ck_X_folded_2 rfl)
theorem d_X_folded_92 : decode y_X_folded.2.1 92 = .ok (.idiv, 1) := op_idiv (gk (k := 64) (t := 28) ck_X_folded_2 rfl)
theorem d_X_folded_93 : decode y_X_folded.2.1 93 = .ok (.iadd, 1) := op_iadd (gk (k := 64) (t := 29) ck_X_folded_2 rfl)
theorem d_X_folded_94 : decode y_X_folded.2.1 94 = .ok (.istore 4, 2) := op_istore (gk (k := 64) (t := 30) ck_X_folded_2 rfl) (gk (k := 64) (t := 31) ck_X_folded_2 rfl) rfl
theorem d_X_folded_96 : decode y_X_folded.2.1 96 = .ok (.iload_n 2, 1) := op_iload_n2 (gk (k := 96) (t := 0) ck_X_folded_3 rfl)
theorem d_X_folded_97 : decode y_X_folded.2.1 97 = .ok (.istore 5, 2) := op_istore (gk (k := 96) (t := 1) ck_X_folded_3 rfl) (gk (k := 96) (t := 2) ck_X_folded_3 rfl) rfl
theorem d_X_folded_99 : decode y_X_folded.2.1 99 = .ok (.goto 35, 3) := op_goto (gk (k := 96) (t := 3) ck_X_folded_3 rfl) (gk (k := 96) (t := 4) ck_X_folded_3 rfl) (gk (k := 96) (t := 5) ck_X_folded_3 rfl) (by decide +kernel)
abbrev y_X_image : MI := (⟨"SinglesUpModel", "image", "(Z)Z"⟩, prog_11_method_97_code, 3, some .boolean)
theorem ck_X_image_0 : (y_X_image.2.1.data.toList.drop 0).take 32 = [27, 154, 0, 12, 42, 180, 1, 164, 154, 0, 5, 3, 172, 3, 61, 28, 17, 24, 46, 162, 0, 40, 27, 153, 0, 18, 42, 180, 0, 13, 28, 42] := by decide +kernel
theorem d_X_image_0 : decode y_X_image.2.1 0 = .ok (.iload_n 1, 1) := op_iload_n1 (gk (k := 0) (t := 0) ck_X_image_0 rfl)
theorem d_X_image_13 : decode y_X_image.2.1 13 = .ok (.iconst 0, 1) := op_iconst0 (gk (k := 0) (t := 13) ck_X_image_0 rfl)
theorem d_X_image_14 : decode y_X_image.2.1 14 = .ok (.istore_n 2, 1) := op_istore_n2 (gk (k := 0) (t := 14) ck_X_image_0 rfl)
theorem d_X_image_15 : decode y_X_image.2.1 15 = .ok (.iload_n 2, 1) := op_iload_n2 (gk (k := 0) (t := 15) ck_X_image_0 rfl)
theorem d_X_image_16 : decode y_X_image.2.1 16 = .ok (.sipush 6190, 3) := op_sipush (gk (k := 0) (t := 16) ck_X_image_0 rfl) (gk (k := 0) (t := 17) ck_X_image_0 rfl) (gk (k := 0) (t := 18) ck_X_image_0 rfl) (by decide +kernel)
theorem d_X_image_19 : decode y_X_image.2.1 19 = .ok (.if_icmp .ge 40, 3) := op_icmp_ge (gk (k := 0) (t := 19) ck_X_image_0 rfl) (gk (k := 0) (t := 20) ck_X_image_0 rfl) (gk (k := 0) (t := 21) ck_X_image_0 rfl) (by decide +kernel)
theorem d_X_image_22 : decode y_X_image.2.1 22 = .ok (.iload_n 1, 1) := op_iload_n1 (gk (k := 0) (t := 22) ck_X_image_0 rfl)
theorem ck_X_image_1 : (y_X_image.2.1.data.toList.drop 32).take 32 = [180, 0, 7, 28, 46, 79, 167, 0, 15, 42, 180, 0, 7, 28, 42, 180, 0, 13, 28, 46, 79, 132, 2, 1, 167, 255, 215, 27, 154, 0, 7, 42] := by decide +kernel
theorem d_X_image_53 : decode y_X_image.2.1 53 = .ok (.iinc 2 1, 3) := op_iinc (gk (k := 32) (t := 21) ck_X_image_1 rfl) (gk (k := 32) (t := 22) ck_X_image_1 rfl) (gk (k := 32) (t := 23) ck_X_image_1 rfl) rfl rfl
theorem d_X_image_56 : decode y_X_image.2.1 56 = .ok (.goto (-41), 3) := op_goto (gk (k := 32) (t := 24) ck_X_image_1 rfl) (gk (k := 32) (t := 25) ck_X_image_1 rfl) (gk (k := 32) (t := 26) ck_X_image_1 rfl) (by decide +kernel)
theorem d_X_image_23 : decode y_X_image.2.1 23 = .ok (.ifCond .eq 18, 3) := op_if_eq (gk (k := 0) (t := 23) ck_X_image_0 rfl) (gk (k := 0) (t := 24) ck_X_image_0 rfl) (gk (k := 0) (t := 25) ck_X_image_0 rfl) (by decide +kernel)
theorem d_X_image_41 : decode y_X_image.2.1 41 = .ok (.aload_n 0, 1) := op_aload_n0 (gk (k := 32) (t := 9) ck_X_image_1 rfl)
theorem d_X_image_42 : decode y_X_image.2.1 42 = .ok (.getfield 7, 3) := op_getfield (gk (k := 32) (t := 10) ck_X_image_1 rfl) (gk (k := 32) (t := 11) ck_X_image_1 rfl) (gk (k := 32) (t := 12) ck_X_image_1 rfl) rfl
theorem d_X_image_45 : decode y_X_image.2.1 45 = .ok (.iload_n 2, 1) := op_iload_n2 (gk (k := 32) (t := 13) ck_X_image_1 rfl)
theorem d_X_image_46 : decode y_X_image.2.1 46 = .ok (.aload_n 0, 1) := op_aload_n0 (gk (k := 32) (t := 14) ck_X_image_1 rfl)
theorem fl_X_13 : FL "SinglesUpModel" 13 9 1 := ⟨"SinglesUpModel", zT9, 51, rfl, by decide, rfl, Or.inl (tw_c5 94 (by decide +kernel) rfl)⟩
theorem rm_9_1 : ∀ o, KM[o]? = some (12, 51) → RM o 1 = some (o + 2) ∧ KM[o + 2]? = some (0, 6190) := by
  intro o h
  have hl : o < 26 := (List.getElem?_eq_some_iff.mp h).1
  exact (by decide +kernel : ∀ o, o < 26 → KM[o]? = some (12, 51) → RM o 1 = some (o + 2) ∧ KM[o + 2]? = some (0, 6190)) o hl h
theorem d_X_image_47 : decode y_X_image.2.1 47 = .ok (.getfield 13, 3) := op_getfield (gk (k := 32) (t := 15) ck_X_image_1 rfl) (gk (k := 32) (t := 16) ck_X_image_1 rfl) (gk (k := 32) (t := 17) ck_X_image_1 rfl) rfl
theorem d_X_image_50 : decode y_X_image.2.1 50 = .ok (.iload_n 2, 1) := op_iload_n2 (gk (k := 32) (t := 18) ck_X_image_1 rfl)
theorem d_X_image_51 : decode y_X_image.2.1 51 = .ok (.iaload, 1) := op_iaload (gk (k := 32) (t := 19) ck_X_image_1 rfl)
theorem d_X_image_52 : decode y_X_image.2.1 52 = .ok (.iastore, 1) := op_iastore (gk (k := 32) (t := 20) ck_X_image_1 rfl)
theorem d_X_image_26 : decode y_X_image.2.1 26 = .ok (.aload_n 0, 1) := op_aload_n0 (gk (k := 0) (t := 26) ck_X_image_0 rfl)
theorem d_X_image_27 : decode y_X_image.2.1 27 = .ok (.getfield 13, 3) := op_getfield (gk (k := 0) (t := 27) ck_X_image_0 rfl) (gk (k := 0) (t := 28) ck_X_image_0 rfl) (gk (k := 0) (t := 29) ck_X_image_0 rfl) rfl
theorem d_X_image_30 : decode y_X_image.2.1 30 = .ok (.iload_n 2, 1) := op_iload_n2 (gk (k := 0) (t := 30) ck_X_image_0 rfl)
theorem d_X_image_31 : decode y_X_image.2.1 31 = .ok (.aload_n 0, 1) := op_aload_n0 (gk (k := 0) (t := 31) ck_X_image_0 rfl)
theorem d_X_image_32 : decode y_X_image.2.1 32 = .ok (.getfield 7, 3) := op_getfield (gk (k := 32) (t := 0) ck_X_image_1 rfl) (gk (k := 32) (t := 1) ck_X_image_1 rfl) (gk (k := 32) (t := 2) ck_X_image_1 rfl) rfl
theorem d_X_image_35 : decode y_X_image.2.1 35 = .ok (.iload_n 2, 1) := op_iload_n2 (gk (k := 32) (t := 3) ck_X_image_1 rfl)
theorem d_X_image_36 : decode y_X_image.2.1 36 = .ok (.iaload, 1) := op_iaload (gk (k := 32) (t := 4) ck_X_image_1 rfl)
theorem d_X_image_37 : decode y_X_image.2.1 37 = .ok (.iastore, 1) := op_iastore (gk (k := 32) (t := 5) ck_X_image_1 rfl)
theorem d_X_image_38 : decode y_X_image.2.1 38 = .ok (.goto 15, 3) := op_goto (gk (k := 32) (t := 6) ck_X_image_1 rfl) (gk (k := 32) (t := 7) ck_X_image_1 rfl) (gk (k := 32) (t := 8) ck_X_image_1 rfl) (by decide +kernel)
theorem d_X_image_59 : decode y_X_image.2.1 59 = .ok (.iload_n 1, 1) := op_iload_n1 (gk (k := 32) (t := 27) ck_X_image_1 rfl)
theorem ck_X_image_2 : (y_X_image.2.1.data.toList.drop 64).take 32 = [182, 0, 102, 42, 4, 181, 1, 164, 4, 172] := by decide +kernel
theorem d_X_image_67 : decode y_X_image.2.1 67 = .ok (.aload_n 0, 1) := op_aload_n0 (gk (k := 64) (t := 3) ck_X_image_2 rfl)
theorem d_X_image_68 : decode y_X_image.2.1 68 = .ok (.iconst 1, 1) := op_iconst1 (gk (k := 64) (t := 4) ck_X_image_2 rfl)
theorem fl_X_420 : FL "SinglesUpModel" 420 9 3 := ⟨"SinglesUpModel", zT9, 51, rfl, by decide, rfl, Or.inl (tw_c5 96 (by decide +kernel) rfl)⟩
theorem d_X_image_69 : decode y_X_image.2.1 69 = .ok (.putfield 420, 3) := op_putfield (gk (k := 64) (t := 5) ck_X_image_2 rfl) (gk (k := 64) (t := 6) ck_X_image_2 rfl) (gk (k := 64) (t := 7) ck_X_image_2 rfl) rfl
theorem d_X_image_72 : decode y_X_image.2.1 72 = .ok (.iconst 1, 1) := op_iconst1 (gk (k := 64) (t := 8) ck_X_image_2 rfl)
theorem d_X_image_73 : decode y_X_image.2.1 73 = .ok (.ireturn, 1) := op_ireturn (gk (k := 64) (t := 9) ck_X_image_2 rfl)
theorem d_X_image_60 : decode y_X_image.2.1 60 = .ok (.ifCond .ne 7, 3) := op_if_ne (gk (k := 32) (t := 28) ck_X_image_1 rfl) (gk (k := 32) (t := 29) ck_X_image_1 rfl) (gk (k := 32) (t := 30) ck_X_image_1 rfl) (by decide +kernel)
theorem d_X_image_63 : decode y_X_image.2.1 63 = .ok (.aload_n 0, 1) := op_aload_n0 (gk (k := 32) (t := 31) ck_X_image_1 rfl)
theorem d_X_image_64 : decode y_X_image.2.1 64 = .ok (.invokevirtual 102, 3) := op_invokevirtual (gk (k := 64) (t := 0) ck_X_image_2 rfl) (gk (k := 64) (t := 1) ck_X_image_2 rfl) (gk (k := 64) (t := 2) ck_X_image_2 rfl) rfl
theorem d_X_image_1 : decode y_X_image.2.1 1 = .ok (.ifCond .ne 12, 3) := op_if_ne (gk (k := 0) (t := 1) ck_X_image_0 rfl) (gk (k := 0) (t := 2) ck_X_image_0 rfl) (gk (k := 0) (t := 3) ck_X_image_0 rfl) (by decide +kernel)
theorem d_X_image_4 : decode y_X_image.2.1 4 = .ok (.aload_n 0, 1) := op_aload_n0 (gk (k := 0) (t := 4) ck_X_image_0 rfl)
theorem d_X_image_5 : decode y_X_image.2.1 5 = .ok (.getfield 420, 3) := op_getfield (gk (k := 0) (t := 5) ck_X_image_0 rfl) (gk (k := 0) (t := 6) ck_X_image_0 rfl) (gk (k := 0) (t := 7) ck_X_image_0 rfl) rfl
theorem d_X_image_8 : decode y_X_image.2.1 8 = .ok (.ifCond .ne 5, 3) := op_if_ne (gk (k := 0) (t := 8) ck_X_image_0 rfl) (gk (k := 0) (t := 9) ck_X_image_0 rfl) (gk (k := 0) (t := 10) ck_X_image_0 rfl) (by decide +kernel)
theorem d_X_image_11 : decode y_X_image.2.1 11 = .ok (.iconst 0, 1) := op_iconst0 (gk (k := 0) (t := 11) ck_X_image_0 rfl)
theorem d_X_image_12 : decode y_X_image.2.1 12 = .ok (.ireturn, 1) := op_ireturn (gk (k := 0) (t := 12) ck_X_image_0 rfl)
abbrev y_X_told : MI := (⟨"SinglesUpModel", "told", "(I)I"⟩, prog_11_method_98_code, 2, some .int)
theorem ck_X_told_0 : (y_X_told.2.1.data.toList.drop 0).take 32 = [27, 3, 8, 184, 0, 98, 153, 0, 14, 42, 180, 0, 7, 4, 27, 96, 46, 167, 0, 48, 27, 16, 6, 160, 0, 10, 42, 180, 1, 88, 167, 0] := by decide +kernel
theorem d_X_told_0 : decode y_X_told.2.1 0 = .ok (.iload_n 1, 1) := op_iload_n1 (gk (k := 0) (t := 0) ck_X_told_0 rfl)
theorem d_X_told_1 : decode y_X_told.2.1 1 = .ok (.iconst 0, 1) := op_iconst0 (gk (k := 0) (t := 1) ck_X_told_0 rfl)
theorem d_X_told_2 : decode y_X_told.2.1 2 = .ok (.iconst 5, 1) := op_iconst5 (gk (k := 0) (t := 2) ck_X_told_0 rfl)
theorem d_X_told_3 : decode y_X_told.2.1 3 = .ok (.invokestatic 98, 3) := op_invokestatic (gk (k := 0) (t := 3) ck_X_told_0 rfl) (gk (k := 0) (t := 4) ck_X_told_0 rfl) (gk (k := 0) (t := 5) ck_X_told_0 rfl) rfl
theorem d_X_told_6 : decode y_X_told.2.1 6 = .ok (.ifCond .eq 14, 3) := op_if_eq (gk (k := 0) (t := 6) ck_X_told_0 rfl) (gk (k := 0) (t := 7) ck_X_told_0 rfl) (gk (k := 0) (t := 8) ck_X_told_0 rfl) (by decide +kernel)
theorem d_X_told_20 : decode y_X_told.2.1 20 = .ok (.iload_n 1, 1) := op_iload_n1 (gk (k := 0) (t := 20) ck_X_told_0 rfl)
theorem d_X_told_21 : decode y_X_told.2.1 21 = .ok (.bipush 6, 2) := op_bipush (gk (k := 0) (t := 21) ck_X_told_0 rfl) (gk (k := 0) (t := 22) ck_X_told_0 rfl) rfl
theorem d_X_told_23 : decode y_X_told.2.1 23 = .ok (.if_icmp .ne 10, 3) := op_icmp_ne (gk (k := 0) (t := 23) ck_X_told_0 rfl) (gk (k := 0) (t := 24) ck_X_told_0 rfl) (gk (k := 0) (t := 25) ck_X_told_0 rfl) (by decide +kernel)
theorem ck_X_told_1 : (y_X_told.2.1.data.toList.drop 32).take 32 = [35, 27, 16, 7, 160, 0, 13, 42, 180, 0, 7, 16, 7, 46, 167, 0, 19, 27, 16, 8, 160, 0, 12, 42, 180, 0, 7, 3, 46, 167, 0, 4] := by decide +kernel
theorem d_X_told_33 : decode y_X_told.2.1 33 = .ok (.iload_n 1, 1) := op_iload_n1 (gk (k := 32) (t := 1) ck_X_told_1 rfl)
theorem d_X_told_34 : decode y_X_told.2.1 34 = .ok (.bipush 7, 2) := op_bipush (gk (k := 32) (t := 2) ck_X_told_1 rfl) (gk (k := 32) (t := 3) ck_X_told_1 rfl) rfl
theorem d_X_told_36 : decode y_X_told.2.1 36 = .ok (.if_icmp .ne 13, 3) := op_icmp_ne (gk (k := 32) (t := 4) ck_X_told_1 rfl) (gk (k := 32) (t := 5) ck_X_told_1 rfl) (gk (k := 32) (t := 6) ck_X_told_1 rfl) (by decide +kernel)
theorem d_X_told_49 : decode y_X_told.2.1 49 = .ok (.iload_n 1, 1) := op_iload_n1 (gk (k := 32) (t := 17) ck_X_told_1 rfl)
theorem d_X_told_50 : decode y_X_told.2.1 50 = .ok (.bipush 8, 2) := op_bipush (gk (k := 32) (t := 18) ck_X_told_1 rfl) (gk (k := 32) (t := 19) ck_X_told_1 rfl) rfl
theorem d_X_told_52 : decode y_X_told.2.1 52 = .ok (.if_icmp .ne 12, 3) := op_icmp_ne (gk (k := 32) (t := 20) ck_X_told_1 rfl) (gk (k := 32) (t := 21) ck_X_told_1 rfl) (gk (k := 32) (t := 22) ck_X_told_1 rfl) (by decide +kernel)
theorem ck_X_told_2 : (y_X_told.2.1.data.toList.drop 64).take 32 = [2, 172] := by decide +kernel
theorem d_X_told_64 : decode y_X_told.2.1 64 = .ok (.iconst (-1), 1) := op_iconstm1 (gk (k := 64) (t := 0) ck_X_told_2 rfl)
theorem d_X_told_65 : decode y_X_told.2.1 65 = .ok (.ireturn, 1) := op_ireturn (gk (k := 64) (t := 1) ck_X_told_2 rfl)
theorem d_X_told_55 : decode y_X_told.2.1 55 = .ok (.aload_n 0, 1) := op_aload_n0 (gk (k := 32) (t := 23) ck_X_told_1 rfl)
theorem d_X_told_56 : decode y_X_told.2.1 56 = .ok (.getfield 7, 3) := op_getfield (gk (k := 32) (t := 24) ck_X_told_1 rfl) (gk (k := 32) (t := 25) ck_X_told_1 rfl) (gk (k := 32) (t := 26) ck_X_told_1 rfl) rfl
theorem d_X_told_59 : decode y_X_told.2.1 59 = .ok (.iconst 0, 1) := op_iconst0 (gk (k := 32) (t := 27) ck_X_told_1 rfl)
theorem d_X_told_60 : decode y_X_told.2.1 60 = .ok (.iaload, 1) := op_iaload (gk (k := 32) (t := 28) ck_X_told_1 rfl)
theorem d_X_told_61 : decode y_X_told.2.1 61 = .ok (.goto 4, 3) := op_goto (gk (k := 32) (t := 29) ck_X_told_1 rfl) (gk (k := 32) (t := 30) ck_X_told_1 rfl) (gk (k := 32) (t := 31) ck_X_told_1 rfl) (by decide +kernel)
theorem d_X_told_39 : decode y_X_told.2.1 39 = .ok (.aload_n 0, 1) := op_aload_n0 (gk (k := 32) (t := 7) ck_X_told_1 rfl)
theorem d_X_told_40 : decode y_X_told.2.1 40 = .ok (.getfield 7, 3) := op_getfield (gk (k := 32) (t := 8) ck_X_told_1 rfl) (gk (k := 32) (t := 9) ck_X_told_1 rfl) (gk (k := 32) (t := 10) ck_X_told_1 rfl) rfl
theorem d_X_told_43 : decode y_X_told.2.1 43 = .ok (.bipush 7, 2) := op_bipush (gk (k := 32) (t := 11) ck_X_told_1 rfl) (gk (k := 32) (t := 12) ck_X_told_1 rfl) rfl
theorem d_X_told_45 : decode y_X_told.2.1 45 = .ok (.iaload, 1) := op_iaload (gk (k := 32) (t := 13) ck_X_told_1 rfl)
theorem d_X_told_46 : decode y_X_told.2.1 46 = .ok (.goto 19, 3) := op_goto (gk (k := 32) (t := 14) ck_X_told_1 rfl) (gk (k := 32) (t := 15) ck_X_told_1 rfl) (gk (k := 32) (t := 16) ck_X_told_1 rfl) (by decide +kernel)
theorem d_X_told_26 : decode y_X_told.2.1 26 = .ok (.aload_n 0, 1) := op_aload_n0 (gk (k := 0) (t := 26) ck_X_told_0 rfl)
theorem d_X_told_27 : decode y_X_told.2.1 27 = .ok (.getfield 344, 3) := op_getfield (gk (k := 0) (t := 27) ck_X_told_0 rfl) (gk (k := 0) (t := 28) ck_X_told_0 rfl) (gk (k := 0) (t := 29) ck_X_told_0 rfl) rfl
theorem d_X_told_30 : decode y_X_told.2.1 30 = .ok (.goto 35, 3) := op_goto (gk (k := 0) (t := 30) ck_X_told_0 rfl) (gk (k := 0) (t := 31) ck_X_told_0 rfl) (gk (k := 32) (t := 0) ck_X_told_1 rfl) (by decide +kernel)
theorem d_X_told_9 : decode y_X_told.2.1 9 = .ok (.aload_n 0, 1) := op_aload_n0 (gk (k := 0) (t := 9) ck_X_told_0 rfl)
theorem d_X_told_10 : decode y_X_told.2.1 10 = .ok (.getfield 7, 3) := op_getfield (gk (k := 0) (t := 10) ck_X_told_0 rfl) (gk (k := 0) (t := 11) ck_X_told_0 rfl) (gk (k := 0) (t := 12) ck_X_told_0 rfl) rfl
theorem d_X_told_13 : decode y_X_told.2.1 13 = .ok (.iconst 1, 1) := op_iconst1 (gk (k := 0) (t := 13) ck_X_told_0 rfl)
theorem d_X_told_14 : decode y_X_told.2.1 14 = .ok (.iload_n 1, 1) := op_iload_n1 (gk (k := 0) (t := 14) ck_X_told_0 rfl)
theorem d_X_told_15 : decode y_X_told.2.1 15 = .ok (.iadd, 1) := op_iadd (gk (k := 0) (t := 15) ck_X_told_0 rfl)
theorem d_X_told_16 : decode y_X_told.2.1 16 = .ok (.iaload, 1) := op_iaload (gk (k := 0) (t := 16) ck_X_told_0 rfl)
theorem d_X_told_17 : decode y_X_told.2.1 17 = .ok (.goto 48, 3) := op_goto (gk (k := 0) (t := 17) ck_X_told_0 rfl) (gk (k := 0) (t := 18) ck_X_told_0 rfl) (gk (k := 0) (t := 19) ck_X_told_0 rfl) (by decide +kernel)
def fb_X_stillStands_10 (fu : Nat) (k_43 : IMem → Res) (o0 : Nat) (p1 : Int) (p2 : Int) (R_ : Int → IMem → Res) (w3 : Int) (I0 : IMem) : Res :=
  zl (wr32 (130 + p2)) fun x1 =>
    zg (0 ≤ x1 ∧ x1 < 6190) (
    if w3 < I0 (o0 + 1) x1.toNat then (
      zb (f_X_of fu o0 p2 w3 0 I0) fun y2 I3 =>
      if y2 = p1 then (
        zr 1 I3)
      else (
        zl (wr32 (w3 + 1)) fun x5 =>
        R_ x5 I3))
    else (
      k_43 I0))
def f_X_stillStands_10 (fu : Nat) (k_43 : IMem → Res) (o0 : Nat) (p1 : Int) (p2 : Int) : Nat → Int → IMem → Res
 | 0 => fun _ _ => none
 | n + 1 => fb_X_stillStands_10 fu k_43 o0 p1 p2 (f_X_stillStands_10 fu k_43 o0 p1 p2 n)
def fb_X_stillStands_2 (fu : Nat) (o0 : Nat) (p1 : Int) (R_ : Int → IMem → Res) (w2 : Int) (I0 : IMem) : Res :=
  if w2 < 6 then (
      f_X_stillStands_10 fu (fun  (I6 : IMem) =>
        zl (wr32 (w2 + 1)) fun x7 =>
        R_ x7 I6) o0 p1 w2 fu 0 I0)
    else (
      zr 0 I0)
def f_X_stillStands_2 (fu : Nat) (o0 : Nat) (p1 : Int) : Nat → Int → IMem → Res
 | 0 => fun _ _ => none
 | n + 1 => fb_X_stillStands_2 fu o0 p1 (f_X_stillStands_2 fu o0 p1 n)
def f_X_stillStands (fu : Nat) (o0 : Nat) (a1 : Int) (I0 : IMem) : Res :=
  f_X_stillStands_2 fu  o0 a1 fu 0 I0
def fb_X_sitsAfter_12 (fu : Nat) (k_37 : Int → IMem → Res) (o0 : Nat) (p1 : Int) (R_ : Int → IMem → Res) (w2 : Int) (I0 : IMem) : Res :=
  if w2 < 40 then (
      zb (f_X_stillStands fu o0 p1 I0) fun y3 I4 =>
      if y3 = 0 then (
        k_37 w2 I4)
      else (
        zb (f_X_chair fu o0 I4) fun y6 I7 =>
        zl (wr32 (w2 + 1)) fun x9 =>
        R_ x9 I7))
    else (
      k_37 w2 I0)
def f_X_sitsAfter_12 (fu : Nat) (k_37 : Int → IMem → Res) (o0 : Nat) (p1 : Int) : Nat → Int → IMem → Res
 | 0 => fun _ _ => none
 | n + 1 => fb_X_sitsAfter_12 fu k_37 o0 p1 (f_X_sitsAfter_12 fu k_37 o0 p1 n)
def f_X_sitsAfter (fu : Nat) (o0 : Nat) (a1 : Int) (I0 : IMem) : Res :=
  zw I0 o0 23 a1 fun I1 =>
    zw I1 o0 24 0 fun I2 =>
    f_X_sitsAfter_12 fu (fun (x11 : Int) (I10 : IMem) =>
      zj (fun (x14 : Int) (I13 : IMem) =>
          zw I13 o0 23 ((-1)) fun I15 =>
          if x14 = 0 then (
            zr x11 I15)
          else (
            zr ((-1)) I15)) fun k12 =>
        if I10 o0 24 = 0 then (
          zb (f_X_stillStands fu o0 a1 I10) fun y16 I17 =>
          if y16 = 0 then (
            k12 0 I17)
          else (
            k12 1 I17))
        else (
          k12 1 I10)) o0 a1 fu 0 I2
def f_X_till (fu : Nat) (o0 : Nat) (a1 : Int) (a2 : Int) (I0 : IMem) : Res :=
  zb (f_X_isThere fu o0 a1 a2 I0) fun y1 I2 =>
    if y1 = 0 then (
      zr ((-1)) I2)
    else (
      zb (f_X_of fu o0 a1 a2 0 I2) fun y4 I5 =>
      zb (f_X_setsOut fu o0 I5) fun _ I8 =>
      zb (f_X_sitsAfter fu o0 y4 I8) fun y10 I11 =>
      zb (f_X_comesBack fu o0 I11) fun _ I14 =>
      zr y10 I14)
def f_X_isPlain (fu : Nat) (o0 : Nat) (a1 : Int) (a2 : Int) (I0 : IMem) : Res :=
  zb (f_X_isThere fu o0 a1 a2 I0) fun y1 I2 =>
    if y1 = 0 then (
      zr 0 I2)
    else (
      zb (f_X_of fu o0 a1 a2 3 I2) fun y4 I5 =>
      if y4 = 0 then (
        zb (f_X_of fu o0 a1 a2 2 I5) fun y7 I8 =>
        zb (f_X_of fu o0 a1 a2 1 I8) fun y10 I11 =>
        if y7 = y10 then (
          zr 1 I11)
        else (
          zr 0 I11))
      else (
        zr 0 I5))
def fb_X_joined_85 (fu : Nat) (k_123 : IMem → Res) (o0 : Nat) (p1 : Int) (p5 : Int) (p7 : Int) (R_ : Int → IMem → Res) (w8 : Int) (I0 : IMem) : Res :=
  if w8 < 6 then (
      zb (f_X_cell fu p1 p7 I0) fun y25 I26 =>
      zb (f_X_of fu o0 p1 (wr32 (p7 + 1)) w8 I26) fun y28 I29 =>
      zl (wr32 (y25 + w8)) fun x32 =>
      zg (0 ≤ x32 ∧ x32 < 6190) (zw I29 (o0 + 1) x32.toNat y28 fun I31 =>
      zl (wr32 (w8 + 1)) fun x33 =>
      R_ x33 I31))
    else (
      k_123 I0)
def f_X_joined_85 (fu : Nat) (k_123 : IMem → Res) (o0 : Nat) (p1 : Int) (p5 : Int) (p7 : Int) : Nat → Int → IMem → Res
 | 0 => fun _ _ => none
 | n + 1 => fb_X_joined_85 fu k_123 o0 p1 p5 p7 (f_X_joined_85 fu k_123 o0 p1 p5 p7 n)
def fb_X_joined_65 (fu : Nat) (k_129 : IMem → Res) (o0 : Nat) (p1 : Int) (p5 : Int) (R_ : Int → IMem → Res) (w7 : Int) (I0 : IMem) : Res :=
  zl (wr32 (130 + p1)) fun x24 =>
    zg (0 ≤ x24 ∧ x24 < 6190) (
    if wr32 (w7 + 1) < I0 (o0 + 1) x24.toNat then (
      f_X_joined_85 fu (fun  (I34 : IMem) =>
        zl (wr32 (w7 + 1)) fun x35 =>
        R_ x35 I34) o0 p1 p5 w7 fu 0 I0)
    else (
      k_129 I0))
def f_X_joined_65 (fu : Nat) (k_129 : IMem → Res) (o0 : Nat) (p1 : Int) (p5 : Int) : Nat → Int → IMem → Res
 | 0 => fun _ _ => none
 | n + 1 => fb_X_joined_65 fu k_129 o0 p1 p5 (f_X_joined_65 fu k_129 o0 p1 p5 n)
def f_X_joined (fu : Nat) (o0 : Nat) (a1 : Int) (a2 : Int) (a3 : Int) (a4 : Int) (I0 : IMem) : Res :=
  zb (f_X_of fu o0 a3 a4 0 I0) fun y1 I2 =>
    zb (f_X_of fu o0 a1 a2 1 I2) fun y4 I5 =>
    zb (f_X_of fu o0 a3 a4 1 I5) fun y7 I8 =>
    zl (wr32 (y4 + y7)) fun x10 =>
    zb (f_X_setsOut fu o0 I8) fun _ I12 =>
    zb (f_X_cell fu a3 a4 I12) fun y14 I15 =>
    zl (wr32 (y14 + 1)) fun x18 =>
    zg (0 ≤ x18 ∧ x18 < 6190) (zw I15 (o0 + 1) x18.toNat x10 fun I17 =>
    zb (f_X_cell fu a3 a4 I17) fun y19 I20 =>
    zl (wr32 (y19 + 2)) fun x23 =>
    zg (0 ≤ x23 ∧ x23 < 6190) (zw I20 (o0 + 1) x23.toNat x10 fun I22 =>
    f_X_joined_65 fu (fun  (I36 : IMem) =>
      zl (wr32 (130 + a1)) fun x37 =>
      zg (0 ≤ x37 ∧ x37 < 6190) (
      zg (0 ≤ x37 ∧ x37 < 6190) (zw I36 (o0 + 1) x37.toNat (wr32 ((I36 (o0 + 1) x37.toNat) - 1)) fun I38 =>
      zb (f_X_sitsAfter fu o0 y1 I38) fun y39 I40 =>
      zb (f_X_comesBack fu o0 I40) fun _ I43 =>
      zr y39 I43))) o0 a1 y1 fu a2 I22))
def f_X_together (fu : Nat) (o0 : Nat) (a1 : Int) (a2 : Int) (a3 : Int) (a4 : Int) (a5 : Int) (I0 : IMem) : Res :=
  zb (f_X_isPlain fu o0 a1 a2 I0) fun y1 I2 =>
    if y1 = 0 then (
      zr ((-2)) I2)
    else (
      zb (f_X_isPlain fu o0 a3 a4 I2) fun y4 I5 =>
      if y4 = 0 then (
        zr ((-2)) I5)
      else (
        zj (fun  (I8 : IMem) =>
            zb (f_X_of fu o0 a1 a2 1 I8) fun y9 I10 =>
            zb (f_X_of fu o0 a3 a4 1 I10) fun y12 I13 =>
            if 8 < wr32 (y9 + y12) then (
              zr ((-2)) I13)
            else (
              zb (f_X_isIn fu a5 0 1 I13) fun y15 I16 =>
              if y15 = 0 then (
                zr ((-2)) I16)
              else (
                zb (f_X_joined fu o0 a1 a2 a3 a4 I16) fun y18 I19 =>
                if a5 = 0 then (
                  zr y18 I19)
                else (
                  zb (f_X_till fu o0 a1 a2 I19) fun y21 I22 =>
                  zb (f_X_till fu o0 a3 a4 I22) fun y24 I25 =>
                  if y18 = (-1) then (
                    zr 0 I25)
                  else (
                    if y21 = (-1) then (
                      zr 0 I25)
                    else (
                      if y24 = (-1) then (
                        zr 0 I25)
                      else (
                        zj (fun (x29 : Int) (I28 : IMem) =>
                            if x29 < y18 then (
                              zr 0 I28)
                            else (
                              zr 1 I28)) fun k27 =>
                          if y24 < y21 then (
                            k27 y21 I25)
                          else (
                            k27 y24 I25)))))))) fun k7 =>
          if a1 = a3 then (
            if a2 = a4 then (
              zr ((-2)) I5)
            else (
              k7 I5))
          else (
            k7 I5)))
def fb_X_needed_20 (fu : Nat) (k_56 : Int → IMem → Res) (o0 : Nat) (p1 : Int) (R_ : Int → Int → IMem → Res) (w2 : Int) (w3 : Int) (I0 : IMem) : Res :=
  if w3 < p1 then (
      zb (f_X_chair fu o0 I0) fun y7 I8 =>
      zj (fun (x12 : Int) (I11 : IMem) =>
          zl (wr32 (w2 + x12)) fun x13 =>
          zl (wr32 (w3 + 1)) fun x14 =>
          R_ x13 x14 I11) fun k10 =>
        if 0 < y7 then (
          k10 (I8 (o0 + 1) 111) I8)
        else (
          k10 0 I8))
    else (
      k_56 w2 I0)
def f_X_needed_20 (fu : Nat) (k_56 : Int → IMem → Res) (o0 : Nat) (p1 : Int) : Nat → Int → Int → IMem → Res
 | 0 => fun _ _ _ => none
 | n + 1 => fb_X_needed_20 fu k_56 o0 p1 (f_X_needed_20 fu k_56 o0 p1 n)
def f_X_needed (fu : Nat) (o0 : Nat) (a1 : Int) (I0 : IMem) : Res :=
  zb (f_X_isIn fu a1 1 40 I0) fun y1 I2 =>
    if y1 = 0 then (
      zr ((-1)) I2)
    else (
      zb (f_X_setsOut fu o0 I2) fun _ I5 =>
      f_X_needed_20 fu (fun (x16 : Int) (I15 : IMem) =>
        zb (f_X_comesBack fu o0 I15) fun _ I18 =>
        zr x16 I18) o0 a1 fu 0 0 I5)
def f_X_past (fu : Nat) (o0 : Nat) (a1 : Int) (a2 : Int) (I0 : IMem) : Res :=
  zb (f_X_isIn fu a1 0 59 I0) fun y1 I2 =>
    if y1 = 0 then (
      zr ((-1)) I2)
    else (
      if a1 < I2 (o0 + 1) 70 then (
        zb (f_X_isIn fu a2 0 2 I2) fun y4 I5 =>
        if y4 = 0 then (
          zr ((-1)) I5)
        else (
          zl (wr32 ((wr32 (6010 + (wr32 (3 * (wrem (wr32 ((wr32 ((I5 (o0 + 1) 70) - 1)) - a1)) 60))))) + a2)) fun x7 =>
          zg (0 ≤ x7 ∧ x7 < 6190) (
          zr (I5 (o0 + 1) x7.toNat) I5)))
      else (
        zr ((-1)) I2))
def fb_X_which_32 (fu : Nat) (k_135 : Int → Int → Int → IMem → Res) (o0 : Nat) (p1 : Int) (p2 : Int) (R_ : Int → Int → Int → Int → IMem → Res) (w3 : Int) (w4 : Int) (w5 : Int) (w6 : Int) (I0 : IMem) : Res :=
  if w6 < 16 then (
      zw I0 o0 22 w6 fun I7 =>
      zb (f_X_leads fu o0 (I7 (o0 + 1) 6) (I7 (o0 + 1) 5) (I7 (o0 + 1) 1) p1 I7) fun _ I9 =>
      zj (fun (x13 : Int) (x14 : Int) (x15 : Int) (I12 : IMem) =>
          zl (wr32 (w6 + 1)) fun x16 =>
          R_ x13 x14 x15 x16 I12) fun k11 =>
        zj (fun  (I18 : IMem) =>
            zl (I18 (o0 + 25) 0) fun x19 =>
            zl (I18 (o0 + 25) 2) fun x20 =>
            k11 w6 x19 x20 I18) fun k17 =>
          if w3 = (-1) then (
            k17 I9)
          else (
            if w4 < I9 (o0 + 25) 0 then (
              k11 w3 w4 w5 I9)
            else (
              if I9 (o0 + 25) 0 = w4 then (
                if I9 (o0 + 25) 2 < w5 then (
                  k17 I9)
                else (
                  k11 w3 w4 w5 I9))
              else (
                k17 I9))))
    else (
      k_135 w3 w4 w5 I0)
def f_X_which_32 (fu : Nat) (k_135 : Int → Int → Int → IMem → Res) (o0 : Nat) (p1 : Int) (p2 : Int) : Nat → Int → Int → Int → Int → IMem → Res
 | 0 => fun _ _ _ _ _ => none
 | n + 1 => fb_X_which_32 fu k_135 o0 p1 p2 (f_X_which_32 fu k_135 o0 p1 p2 n)
def f_X_which (fu : Nat) (o0 : Nat) (a1 : Int) (a2 : Int) (I0 : IMem) : Res :=
  zb (f_X_isIn fu a1 1 20 I0) fun y1 I2 =>
    if y1 = 0 then (
      zr ((-1)) I2)
    else (
      zb (f_X_isIn fu a2 0 2 I2) fun y4 I5 =>
      if y4 = 0 then (
        zr ((-1)) I5)
      else (
        f_X_which_32 fu (fun (x22 : Int) (x23 : Int) (x24 : Int) (I21 : IMem) =>
          zw I21 o0 22 ((-1)) fun I25 =>
          if a2 = 0 then (
            zr x22 I25)
          else (
            if a2 = 1 then (
              zr x23 I25)
            else (
              zr x24 I25))) o0 a1 a2 fu ((-1)) 0 0 0 I5))
def fb_X_folded_48 (fu : Nat) (o0 : Nat) (p1 : Int) (p2 : Int) (p3 : Int) (R_ : Int → Int → Int → IMem → Res) (w4 : Int) (w5 : Int) (w6 : Int) (I0 : IMem) : Res :=
  zl (wr32 (130 + p1)) fun x11 =>
    zg (0 ≤ x11 ∧ x11 < 6190) (
    if w6 < I0 (o0 + 1) x11.toNat then (
      zb (f_X_of fu o0 p1 w6 1 I0) fun y12 I13 =>
      zj (fun (x17 : Int) (x18 : Int) (x19 : Int) (I16 : IMem) =>
          if w6 = p3 then (
            zr x19 I16)
          else (
            zl (wr32 (w6 + 1)) fun x20 =>
            R_ x17 x18 x20 I16)) fun k15 =>
        if p2 < y12 then (
          zg (p2 ≠ 0) (
          zl (wr32 (w4 + (wdiv (wr32 ((wr32 (y12 + p2)) - 1)) p2))) fun x24 =>
          k15 x24 p2 w4 I13))
        else (
          if p2 < wr32 (w5 + y12) then (
            zl (wr32 (w4 + 1)) fun x21 =>
            k15 x21 y12 w4 I13)
          else (
            zl (wr32 (w4 - 1)) fun x22 =>
            zl (wr32 (w5 + y12)) fun x23 =>
            k15 w4 x23 x22 I13)))
    else (
      zr w4 I0))
def f_X_folded_48 (fu : Nat) (o0 : Nat) (p1 : Int) (p2 : Int) (p3 : Int) : Nat → Int → Int → Int → IMem → Res
 | 0 => fun _ _ _ _ => none
 | n + 1 => fb_X_folded_48 fu o0 p1 p2 p3 (f_X_folded_48 fu o0 p1 p2 p3 n)
def f_X_folded (fu : Nat) (o0 : Nat) (a1 : Int) (a2 : Int) (a3 : Int) (I0 : IMem) : Res :=
  zb (f_X_isLine fu a1 I0) fun y1 I2 =>
    if y1 = 0 then (
      zr ((-1)) I2)
    else (
      zb (f_X_isIn fu a2 1 40 I2) fun y4 I5 =>
      if y4 = 0 then (
        zr ((-1)) I5)
      else (
        zl (wr32 (130 + a1)) fun x7 =>
        zg (0 ≤ x7 ∧ x7 < 6190) (
        zb (f_X_isIn fu a3 ((-1)) (wr32 ((I5 (o0 + 1) x7.toNat) - 1)) I5) fun y8 I9 =>
        if y8 = 0 then (
          zr ((-1)) I9)
        else (
          f_X_folded_48 fu  o0 a1 a2 a3 fu 0 a2 0 I9))))
def fb_X_image_15 (fu : Nat) (k_59 : IMem → Res) (o0 : Nat) (p1 : Int) (R_ : Int → IMem → Res) (w2 : Int) (I0 : IMem) : Res :=
  if w2 < 6190 then (
      zj (fun  (I4 : IMem) =>
          zl (wr32 (w2 + 1)) fun x5 =>
          R_ x5 I4) fun k3 =>
        if p1 = 0 then (
          zg (0 ≤ w2 ∧ w2 < 6190) (
          zg (0 ≤ w2 ∧ w2 < 6190) (zw I0 (o0 + 1) w2.toNat (I0 (o0 + 2) w2.toNat) fun I6 =>
          k3 I6)))
        else (
          zg (0 ≤ w2 ∧ w2 < 6190) (
          zg (0 ≤ w2 ∧ w2 < 6190) (zw I0 (o0 + 2) w2.toNat (I0 (o0 + 1) w2.toNat) fun I7 =>
          k3 I7))))
    else (
      k_59 I0)
def f_X_image_15 (fu : Nat) (k_59 : IMem → Res) (o0 : Nat) (p1 : Int) : Nat → Int → IMem → Res
 | 0 => fun _ _ => none
 | n + 1 => fb_X_image_15 fu k_59 o0 p1 (f_X_image_15 fu k_59 o0 p1 n)
def f_X_image (fu : Nat) (o0 : Nat) (a1 : Int) (I0 : IMem) : Res :=
  zj (fun  (I2 : IMem) =>
        f_X_image_15 fu (fun  (I8 : IMem) =>
          zj (fun  (I10 : IMem) =>
              zw I10 o0 3 1 fun I11 =>
              zr 1 I11) fun k9 =>
            if a1 = 0 then (
              zb (f_X_forgets fu o0 I8) fun _ I13 =>
              k9 I13)
            else (
              k9 I8)) o0 a1 fu 0 I2) fun k1 =>
      if a1 = 0 then (
        if I0 o0 3 = 0 then (
          zr 0 I0)
        else (
          k1 I0))
      else (
        k1 I0)
def f_X_told (fu : Nat) (o0 : Nat) (a1 : Int) (I0 : IMem) : Res :=
  zb (f_X_isIn fu a1 0 5 I0) fun y1 I2 =>
    if y1 = 0 then (
      if a1 = 6 then (
        zr (I2 o0 35) I2)
      else (
        if a1 = 7 then (
          zr (I2 (o0 + 1) 7) I2)
        else (
          if a1 = 8 then (
            zr (I2 (o0 + 1) 0) I2)
          else (
            zr ((-1)) I2))))
    else (
      zl (wr32 (1 + a1)) fun x4 =>
      zg (0 ≤ x4 ∧ x4 < 6190) (
      zr (I2 (o0 + 1) x4.toNat) I2))
section
variable {l : Launch} {b : PB}
set_option maxRecDepth 20000 in
theorem t_X_stillStands_10 (fu : Nat) {r : Int × IMem} (k_43 : IMem → Res) (o0 : Nat) (p1 : Int) (p2 : Int) (h_o0 : KM[o0]? = some (12, 51)) (h_p1 : inr p1) (h_p2 : inr p2) (hk_43 : ∀ (I9 : IMem), RG I9 → k_43 I9 = some r → Ai l b 3 y_X_stillStands KM RM (Ps r) I9 43 [.ref o0, .int (iv p1), .int (iv p2), uu] []) : ∀ (m : Nat) (w3 : Int) (I0 : IMem), inr w3 → RG I0 → f_X_stillStands_10 fu k_43 o0 p1 p2 m w3 I0 = some r → Ai l b 3 y_X_stillStands KM RM (Ps r) I0 10 [.ref o0, .int (iv p1), .int (iv p2), .int (iv w3)] [] := by
  intro m
  induction m with
  | zero => intro w3 I0 h_w3 h_I0 hf; cases hf
  | succ m ih =>
    intro w3 I0 h_w3 h_I0 hf
    replace hf : fb_X_stillStands_10 fu k_43 o0 p1 p2 (f_X_stillStands_10 fu k_43 o0 p1 p2 m) w3 I0 = some r := hf
    unfold fb_X_stillStands_10 at hf
    refine aw_iload_n rfl rfl d_X_stillStands_10 (aw_aload_n rfl rfl d_X_stillStands_11 (aw_getr (r := o0 + 1) fl_X_7 h_o0 (by decide) rfl (rm_9_0 _ h_o0).1 d_X_stillStands_12 (aw_sipush (v := iv 130) cs_130 d_X_stillStands_15 (aw_iload_n rfl rfl d_X_stillStands_18 (ai_iadd d_X_stillStands_19 ?_)))))
    refine ai_name hf (wr32_in _) (fun x1 h_x1 hf => ?_)
    refine ai_iald (rm_9_0 _ h_o0).2 rfl h_x1 hf d_X_stillStands_20 (fun _ hf => ?_)
    refine ai_icmp_ge h_w3 (h_I0 (o0 + 1) x1.toNat) hf (tgt := 43) (by decide) d_X_stillStands_21 (fun hf => ?_) (fun hf => ?_)
    · refine aw_weakB (lv2 := [.ref o0, .int (iv p1), .int (iv p2), uu]) (wk_s (wk_s (wk_s (wk_u wk_n)))) ?_
      exact hk_43 I0 h_I0 hf
    · refine aw_aload_n rfl rfl d_X_stillStands_24 (aw_iload_n rfl rfl d_X_stillStands_25 (aw_iload_n rfl rfl d_X_stillStands_26 (aw_iconst (v := iv 0) rfl d_X_stillStands_27 ?_)))
      obtain ⟨y2, I3, c4, hf⟩ := of_zb hf
      refine ai_callV (as := [.int (iv p2), .int (iv w3), .int (iv 0)]) (d' := 2) (q := ("SinglesUpModel", zT9, 51)) mo_X_of lk_X_264 h_o0 rfl rfl rfl ⟨by decide, by decide⟩ rfl rfl (by decide) d_X_stillStands_28 (t_X_of fu o0 p2 w3 0 I0 h_I0 h_o0 h_p2 h_w3 in_0 c4) (fun h_y2 h_I3 => ?_)
      refine aw_iload_n rfl rfl d_X_stillStands_31 ?_
      refine ai_icmp_ne h_y2 h_p1 hf (tgt := 37) (by decide) d_X_stillStands_32 (fun hf => ?_) (fun hf => ?_)
      · refine ai_iinc (n := 1) (lv2 := fun x5 => [.ref o0, .int (iv p1), .int (iv p2), .int (iv x5)]) hf rfl (Nat.le_of_ble_eq_true rfl) (fun _ => rfl) d_X_stillStands_37 (fun x5 h_x5 hf => ?_)
        refine aw_goto (tgt := 10) (by decide) d_X_stillStands_40 ?_
        exact ih x5 I3 h_x5 h_I3 hf
      · refine aw_iconst (v := iv 1) rfl d_X_stillStands_35 ?_
        exact ai_retn rfl (nar_z (Or.inr rfl)) d_X_stillStands_36 hf in_1 h_I3
set_option maxRecDepth 20000 in
theorem t_X_stillStands_2 (fu : Nat) {r : Int × IMem} (o0 : Nat) (p1 : Int) (h_o0 : KM[o0]? = some (12, 51)) (h_p1 : inr p1) : ∀ (m : Nat) (w2 : Int) (I0 : IMem), inr w2 → RG I0 → f_X_stillStands_2 fu o0 p1 m w2 I0 = some r → Ai l b 3 y_X_stillStands KM RM (Ps r) I0 2 [.ref o0, .int (iv p1), .int (iv w2), uu] [] := by
  intro m
  induction m with
  | zero => intro w2 I0 h_w2 h_I0 hf; cases hf
  | succ m ih =>
    intro w2 I0 h_w2 h_I0 hf
    replace hf : fb_X_stillStands_2 fu o0 p1 (f_X_stillStands_2 fu o0 p1 m) w2 I0 = some r := hf
    unfold fb_X_stillStands_2 at hf
    refine aw_iload_n rfl rfl d_X_stillStands_2 (aw_bipush (v := iv 6) cb_6 d_X_stillStands_3 ?_)
    refine ai_icmp_ge h_w2 in_6 hf (tgt := 49) (by decide) d_X_stillStands_5 (fun hf => ?_) (fun hf => ?_)
    · refine aw_iconst (v := iv 0) rfl d_X_stillStands_49 ?_
      exact ai_retn rfl (nar_z (Or.inl rfl)) d_X_stillStands_50 hf in_0 h_I0
    · refine aw_iconst (v := iv 0) rfl d_X_stillStands_8 (aw_istore_n (lv2 := [.ref o0, .int (iv p1), .int (iv w2), .int (iv 0)]) rfl (Nat.le_of_ble_eq_true rfl) rfl d_X_stillStands_9 ?_)
      refine t_X_stillStands_10 fu _ o0 p1 w2 h_o0 h_p1 h_w2 ?_ fu 0 I0 in_0 h_I0 hf
      · intro I6 h_I6 hf
        refine ai_iinc (n := 1) (lv2 := fun x7 => [.ref o0, .int (iv p1), .int (iv x7), uu]) hf rfl (Nat.le_of_ble_eq_true rfl) (fun _ => rfl) d_X_stillStands_43 (fun x7 h_x7 hf => ?_)
        refine aw_goto (tgt := 2) (by decide) d_X_stillStands_46 ?_
        exact ih x7 I6 h_x7 h_I6 hf
set_option maxRecDepth 20000 in
theorem t_X_stillStands (fu : Nat) (o0 : Nat) (a1 : Int) (I0 : IMem) (hI : RG I0) (h_o0 : KM[o0]? = some (12, 51)) (h_a1 : inr a1) {r : Int × IMem} (hf : f_X_stillStands fu o0 a1 I0 = some r) : Ss l b 3 y_X_stillStands KM RM [.ref o0, .int (iv a1)] (ivm I0) (Ps r) := by
  unfold f_X_stillStands at hf
  refine Ss.of (show Ai l b 3 y_X_stillStands KM RM (Ps r) I0 0 [.ref o0, .int (iv a1), uu, uu] [] from ?_)
  refine aw_iconst (v := iv 0) rfl d_X_stillStands_0 (aw_istore_n (lv2 := [.ref o0, .int (iv a1), .int (iv 0), uu]) rfl (Nat.le_of_ble_eq_true rfl) rfl d_X_stillStands_1 ?_)
  refine t_X_stillStands_2 fu o0 a1 h_o0 h_a1 fu 0 I0 in_0 hI hf
set_option maxRecDepth 20000 in
theorem t_X_sitsAfter_12 (fu : Nat) {r : Int × IMem} (k_37 : Int → IMem → Res) (o0 : Nat) (p1 : Int) (h_o0 : KM[o0]? = some (12, 51)) (h_p1 : inr p1) (hk_37 : ∀ (z2 : Int) (I9 : IMem), inr z2 → RG I9 → k_37 z2 I9 = some r → Ai l b 8 y_X_sitsAfter KM RM (Ps r) I9 37 [.ref o0, .int (iv p1), .int (iv z2), uu] []) : ∀ (m : Nat) (w2 : Int) (I0 : IMem), inr w2 → RG I0 → f_X_sitsAfter_12 fu k_37 o0 p1 m w2 I0 = some r → Ai l b 8 y_X_sitsAfter KM RM (Ps r) I0 12 [.ref o0, .int (iv p1), .int (iv w2), uu] [] := by
  intro m
  induction m with
  | zero => intro w2 I0 h_w2 h_I0 hf; cases hf
  | succ m ih =>
    intro w2 I0 h_w2 h_I0 hf
    replace hf : fb_X_sitsAfter_12 fu k_37 o0 p1 (f_X_sitsAfter_12 fu k_37 o0 p1 m) w2 I0 = some r := hf
    unfold fb_X_sitsAfter_12 at hf
    refine aw_iload_n rfl rfl d_X_sitsAfter_12 (aw_bipush (v := iv 40) cb_40 d_X_sitsAfter_13 ?_)
    refine ai_icmp_ge h_w2 in_40 hf (tgt := 37) (by decide) d_X_sitsAfter_15 (fun hf => ?_) (fun hf => ?_)
    · exact hk_37 w2 I0 h_w2 h_I0 hf
    · refine aw_aload_n rfl rfl d_X_sitsAfter_18 (aw_iload_n rfl rfl d_X_sitsAfter_19 ?_)
      obtain ⟨y3, I4, c5, hf⟩ := of_zb hf
      refine ai_callV (as := [.int (iv p1)]) (d' := 3) (q := ("SinglesUpModel", zT9, 51)) mo_X_stillStands lk_X_386 h_o0 rfl rfl rfl ⟨by decide, by decide⟩ rfl rfl (by decide) d_X_sitsAfter_20 (t_X_stillStands fu o0 p1 I0 h_I0 h_o0 h_p1 c5) (fun h_y3 h_I4 => ?_)
      refine ai_if_eq h_y3 hf (tgt := 37) (by decide) d_X_sitsAfter_23 (fun hf => ?_) (fun hf => ?_)
      · exact hk_37 w2 I4 h_w2 h_I4 hf
      · refine aw_aload_n rfl rfl d_X_sitsAfter_26 ?_
        obtain ⟨y6, I7, c8, hf⟩ := of_zb hf
        refine ai_callV (as := []) (d' := 7) (q := ("SinglesUpModel", zT9, 51)) mo_X_chair lk_X_338 h_o0 rfl rfl rfl ⟨by decide, by decide⟩ rfl rfl (by decide) d_X_sitsAfter_27 (t_X_chair fu o0 I4 h_I4 h_o0 c8) (fun h_y6 h_I7 => ?_)
        refine aw_istore_n (lv2 := [.ref o0, .int (iv p1), .int (iv w2), .int (iv y6)]) rfl (Nat.le_of_ble_eq_true rfl) rfl d_X_sitsAfter_30 ?_
        refine ai_iinc (n := 1) (lv2 := fun x9 => [.ref o0, .int (iv p1), .int (iv x9), .int (iv y6)]) hf rfl (Nat.le_of_ble_eq_true rfl) (fun _ => rfl) d_X_sitsAfter_31 (fun x9 h_x9 hf => ?_)
        refine aw_goto (tgt := 12) (by decide) d_X_sitsAfter_34 ?_
        refine aw_weakB (lv2 := [.ref o0, .int (iv p1), .int (iv x9), uu]) (wk_s (wk_s (wk_s (wk_u wk_n)))) ?_
        exact ih x9 I7 h_x9 h_I7 hf
set_option maxRecDepth 20000 in
theorem t_X_sitsAfter (fu : Nat) (o0 : Nat) (a1 : Int) (I0 : IMem) (hI : RG I0) (h_o0 : KM[o0]? = some (12, 51)) (h_a1 : inr a1) {r : Int × IMem} (hf : f_X_sitsAfter fu o0 a1 I0 = some r) : Ss l b 8 y_X_sitsAfter KM RM [.ref o0, .int (iv a1)] (ivm I0) (Ps r) := by
  unfold f_X_sitsAfter at hf
  refine Ss.of (show Ai l b 8 y_X_sitsAfter KM RM (Ps r) I0 0 [.ref o0, .int (iv a1), uu, uu] [] from ?_)
  refine aw_aload_n rfl rfl d_X_sitsAfter_0 (aw_iload_n rfl rfl d_X_sitsAfter_1 ?_)
  refine ai_puti hf hI h_a1 fl_X_41 h_o0 (by decide) rfl rfl rfl rfl d_X_sitsAfter_2 (fun I1 h_I1 hf => ?_)
  refine aw_aload_n rfl rfl d_X_sitsAfter_5 (aw_iconst (v := iv 0) rfl d_X_sitsAfter_6 ?_)
  refine ai_puti hf h_I1 in_0 fl_X_270 h_o0 (by decide) rfl (nar_z (Or.inl rfl)) (fit_z (Or.inl rfl)) rfl d_X_sitsAfter_7 (fun I2 h_I2 hf => ?_)
  refine aw_iconst (v := iv 0) rfl d_X_sitsAfter_10 (aw_istore_n (lv2 := [.ref o0, .int (iv a1), .int (iv 0), uu]) rfl (Nat.le_of_ble_eq_true rfl) rfl d_X_sitsAfter_11 ?_)
  refine t_X_sitsAfter_12 fu _ o0 a1 h_o0 h_a1 ?_ fu 0 I2 in_0 h_I2 hf
  · intro x11 I10 h_x11 h_I10 hf
    refine aw_aload_n rfl rfl d_X_sitsAfter_37 (ai_geti fl_X_270 h_o0 (by decide) rfl d_X_sitsAfter_38 ?_)
    obtain ⟨k12, ek12, hf⟩ := of_zj hf
    have hk12 : ∀ (x14 : Int) (I13 : IMem), inr x14 → RG I13 → k12 x14 I13 = some r → Ai l b 8 y_X_sitsAfter KM RM (Ps r) I13 57 [.ref o0, uu, .int (iv x11), uu] [.int (iv x14)] := by
      intro x14 I13 h_x14 h_I13 hf
      subst ek12
      refine aw_istore_n (lv2 := [.ref o0, uu, .int (iv x11), .int (iv x14)]) rfl (Nat.le_of_ble_eq_true rfl) rfl d_X_sitsAfter_57 (aw_aload_n rfl rfl d_X_sitsAfter_58 (aw_iconst (v := iv (-1)) rfl d_X_sitsAfter_59 ?_))
      refine ai_puti hf h_I13 in_m1 fl_X_41 h_o0 (by decide) rfl rfl rfl rfl d_X_sitsAfter_60 (fun I15 h_I15 hf => ?_)
      refine aw_iload_n rfl rfl d_X_sitsAfter_63 ?_
      refine ai_if_eq h_x14 hf (tgt := 71) (by decide) d_X_sitsAfter_64 (fun hf => ?_) (fun hf => ?_)
      · refine aw_iload_n rfl rfl d_X_sitsAfter_71 ?_
        exact ai_reti rfl d_X_sitsAfter_72 hf h_x11 h_I15
      · refine aw_iconst (v := iv (-1)) rfl d_X_sitsAfter_67 (aw_goto (tgt := 72) (by decide) d_X_sitsAfter_68 ?_)
        exact ai_reti rfl d_X_sitsAfter_72 hf in_m1 h_I15
    refine ai_if_ne (h_I10 o0 24) hf (tgt := 52) (by decide) d_X_sitsAfter_41 (fun hf => ?_) (fun hf => ?_)
    · refine aw_iconst (v := iv 1) rfl d_X_sitsAfter_52 (aw_goto (tgt := 57) (by decide) d_X_sitsAfter_53 ?_)
      refine aw_weakB (lv2 := [.ref o0, uu, .int (iv x11), uu]) (wk_s (wk_u (wk_s (wk_u wk_n)))) ?_
      exact hk12 1 I10 in_1 h_I10 hf
    · refine aw_aload_n rfl rfl d_X_sitsAfter_44 (aw_iload_n rfl rfl d_X_sitsAfter_45 ?_)
      obtain ⟨y16, I17, c18, hf⟩ := of_zb hf
      refine ai_callV (as := [.int (iv a1)]) (d' := 3) (q := ("SinglesUpModel", zT9, 51)) mo_X_stillStands lk_X_386 h_o0 rfl rfl rfl ⟨by decide, by decide⟩ rfl rfl (by decide) d_X_sitsAfter_46 (t_X_stillStands fu o0 a1 I10 h_I10 h_o0 h_a1 c18) (fun h_y16 h_I17 => ?_)
      refine ai_if_eq h_y16 hf (tgt := 56) (by decide) d_X_sitsAfter_49 (fun hf => ?_) (fun hf => ?_)
      · refine aw_iconst (v := iv 0) rfl d_X_sitsAfter_56 ?_
        refine aw_weakB (lv2 := [.ref o0, uu, .int (iv x11), uu]) (wk_s (wk_u (wk_s (wk_u wk_n)))) ?_
        exact hk12 0 I17 in_0 h_I17 hf
      · refine aw_iconst (v := iv 1) rfl d_X_sitsAfter_52 (aw_goto (tgt := 57) (by decide) d_X_sitsAfter_53 ?_)
        refine aw_weakB (lv2 := [.ref o0, uu, .int (iv x11), uu]) (wk_s (wk_u (wk_s (wk_u wk_n)))) ?_
        exact hk12 1 I17 in_1 h_I17 hf
set_option maxRecDepth 20000 in
theorem t_X_till (fu : Nat) (o0 : Nat) (a1 : Int) (a2 : Int) (I0 : IMem) (hI : RG I0) (h_o0 : KM[o0]? = some (12, 51)) (h_a1 : inr a1) (h_a2 : inr a2) {r : Int × IMem} (hf : f_X_till fu o0 a1 a2 I0 = some r) : Ss l b 9 y_X_till KM RM [.ref o0, .int (iv a1), .int (iv a2)] (ivm I0) (Ps r) := by
  unfold f_X_till at hf
  refine Ss.of (show Ai l b 9 y_X_till KM RM (Ps r) I0 0 [.ref o0, .int (iv a1), .int (iv a2), uu, uu] [] from ?_)
  refine aw_aload_n rfl rfl d_X_till_0 (aw_iload_n rfl rfl d_X_till_1 (aw_iload_n rfl rfl d_X_till_2 ?_))
  obtain ⟨y1, I2, c3, hf⟩ := of_zb hf
  refine ai_callV (as := [.int (iv a1), .int (iv a2)]) (d' := 3) (q := ("SinglesUpModel", zT9, 51)) mo_X_isThere lk_X_389 h_o0 rfl rfl rfl ⟨by decide, by decide⟩ rfl rfl (by decide) d_X_till_3 (t_X_isThere fu o0 a1 a2 I0 hI h_o0 h_a1 h_a2 c3) (fun h_y1 h_I2 => ?_)
  refine ai_if_ne h_y1 hf (tgt := 11) (by decide) d_X_till_6 (fun hf => ?_) (fun hf => ?_)
  · refine aw_aload_n rfl rfl d_X_till_11 (aw_iload_n rfl rfl d_X_till_12 (aw_iload_n rfl rfl d_X_till_13 (aw_iconst (v := iv 0) rfl d_X_till_14 ?_)))
    obtain ⟨y4, I5, c6, hf⟩ := of_zb hf
    refine ai_callV (as := [.int (iv a1), .int (iv a2), .int (iv 0)]) (d' := 2) (q := ("SinglesUpModel", zT9, 51)) mo_X_of lk_X_264 h_o0 rfl rfl rfl ⟨by decide, by decide⟩ rfl rfl (by decide) d_X_till_15 (t_X_of fu o0 a1 a2 0 I2 h_I2 h_o0 h_a1 h_a2 in_0 c6) (fun h_y4 h_I5 => ?_)
    refine aw_istore_n (lv2 := [.ref o0, .int (iv a1), .int (iv a2), .int (iv y4), uu]) rfl (Nat.le_of_ble_eq_true rfl) rfl d_X_till_18 (aw_aload_n rfl rfl d_X_till_19 ?_)
    obtain ⟨y7, I8, c9, hf⟩ := of_zb hf
    refine ai_callVv (as := []) (d' := 1) (q := ("SinglesUpModel", zT9, 51)) mo_X_setsOut lk_X_392 h_o0 rfl rfl rfl ⟨by decide, by decide⟩ rfl rfl (by decide) d_X_till_20 (t_X_setsOut fu o0 I5 h_I5 h_o0 c9) (fun h_I8 => ?_)
    refine aw_aload_n rfl rfl d_X_till_23 (aw_iload_n rfl rfl d_X_till_24 ?_)
    obtain ⟨y10, I11, c12, hf⟩ := of_zb hf
    refine ai_callV (as := [.int (iv y4)]) (d' := 8) (q := ("SinglesUpModel", zT9, 51)) mo_X_sitsAfter lk_X_395 h_o0 rfl rfl rfl ⟨by decide, by decide⟩ rfl rfl (by decide) d_X_till_25 (t_X_sitsAfter fu o0 y4 I8 h_I8 h_o0 h_y4 c12) (fun h_y10 h_I11 => ?_)
    refine aw_istore (lv2 := [.ref o0, .int (iv a1), .int (iv a2), .int (iv y4), .int (iv y10)]) (Nat.le_of_ble_eq_true rfl) rfl d_X_till_28 (aw_aload_n rfl rfl d_X_till_30 ?_)
    obtain ⟨y13, I14, c15, hf⟩ := of_zb hf
    refine ai_callVv (as := []) (d' := 1) (q := ("SinglesUpModel", zT9, 51)) mo_X_comesBack lk_X_398 h_o0 rfl rfl rfl ⟨by decide, by decide⟩ rfl rfl (by decide) d_X_till_31 (t_X_comesBack fu o0 I11 h_I11 h_o0 c15) (fun h_I14 => ?_)
    refine aw_iload rfl d_X_till_34 ?_
    exact ai_reti rfl d_X_till_36 hf h_y10 h_I14
  · refine aw_iconst (v := iv (-1)) rfl d_X_till_9 ?_
    exact ai_reti rfl d_X_till_10 hf in_m1 h_I2
set_option maxRecDepth 20000 in
theorem t_X_isPlain (fu : Nat) (o0 : Nat) (a1 : Int) (a2 : Int) (I0 : IMem) (hI : RG I0) (h_o0 : KM[o0]? = some (12, 51)) (h_a1 : inr a1) (h_a2 : inr a2) {r : Int × IMem} (hf : f_X_isPlain fu o0 a1 a2 I0 = some r) : Ss l b 4 y_X_isPlain KM RM [.ref o0, .int (iv a1), .int (iv a2)] (ivm I0) (Ps r) := by
  unfold f_X_isPlain at hf
  refine Ss.of (show Ai l b 4 y_X_isPlain KM RM (Ps r) I0 0 [.ref o0, .int (iv a1), .int (iv a2)] [] from ?_)
  refine aw_aload_n rfl rfl d_X_isPlain_0 (aw_iload_n rfl rfl d_X_isPlain_1 (aw_iload_n rfl rfl d_X_isPlain_2 ?_))
  obtain ⟨y1, I2, c3, hf⟩ := of_zb hf
  refine ai_callV (as := [.int (iv a1), .int (iv a2)]) (d' := 3) (q := ("SinglesUpModel", zT9, 51)) mo_X_isThere lk_X_389 h_o0 rfl rfl rfl ⟨by decide, by decide⟩ rfl rfl (by decide) d_X_isPlain_3 (t_X_isThere fu o0 a1 a2 I0 hI h_o0 h_a1 h_a2 c3) (fun h_y1 h_I2 => ?_)
  refine ai_if_eq h_y1 hf (tgt := 40) (by decide) d_X_isPlain_6 (fun hf => ?_) (fun hf => ?_)
  · refine aw_iconst (v := iv 0) rfl d_X_isPlain_40 ?_
    exact ai_retn rfl (nar_z (Or.inl rfl)) d_X_isPlain_41 hf in_0 h_I2
  · refine aw_aload_n rfl rfl d_X_isPlain_9 (aw_iload_n rfl rfl d_X_isPlain_10 (aw_iload_n rfl rfl d_X_isPlain_11 (aw_iconst (v := iv 3) rfl d_X_isPlain_12 ?_)))
    obtain ⟨y4, I5, c6, hf⟩ := of_zb hf
    refine ai_callV (as := [.int (iv a1), .int (iv a2), .int (iv 3)]) (d' := 2) (q := ("SinglesUpModel", zT9, 51)) mo_X_of lk_X_264 h_o0 rfl rfl rfl ⟨by decide, by decide⟩ rfl rfl (by decide) d_X_isPlain_13 (t_X_of fu o0 a1 a2 3 I2 h_I2 h_o0 h_a1 h_a2 in_3 c6) (fun h_y4 h_I5 => ?_)
    refine ai_if_ne h_y4 hf (tgt := 40) (by decide) d_X_isPlain_16 (fun hf => ?_) (fun hf => ?_)
    · refine aw_iconst (v := iv 0) rfl d_X_isPlain_40 ?_
      exact ai_retn rfl (nar_z (Or.inl rfl)) d_X_isPlain_41 hf in_0 h_I5
    · refine aw_aload_n rfl rfl d_X_isPlain_19 (aw_iload_n rfl rfl d_X_isPlain_20 (aw_iload_n rfl rfl d_X_isPlain_21 (aw_iconst (v := iv 2) rfl d_X_isPlain_22 ?_)))
      obtain ⟨y7, I8, c9, hf⟩ := of_zb hf
      refine ai_callV (as := [.int (iv a1), .int (iv a2), .int (iv 2)]) (d' := 2) (q := ("SinglesUpModel", zT9, 51)) mo_X_of lk_X_264 h_o0 rfl rfl rfl ⟨by decide, by decide⟩ rfl rfl (by decide) d_X_isPlain_23 (t_X_of fu o0 a1 a2 2 I5 h_I5 h_o0 h_a1 h_a2 in_2 c9) (fun h_y7 h_I8 => ?_)
      refine aw_aload_n rfl rfl d_X_isPlain_26 (aw_iload_n rfl rfl d_X_isPlain_27 (aw_iload_n rfl rfl d_X_isPlain_28 (aw_iconst (v := iv 1) rfl d_X_isPlain_29 ?_)))
      obtain ⟨y10, I11, c12, hf⟩ := of_zb hf
      refine ai_callV (as := [.int (iv a1), .int (iv a2), .int (iv 1)]) (d' := 2) (q := ("SinglesUpModel", zT9, 51)) mo_X_of lk_X_264 h_o0 rfl rfl rfl ⟨by decide, by decide⟩ rfl rfl (by decide) d_X_isPlain_30 (t_X_of fu o0 a1 a2 1 I8 h_I8 h_o0 h_a1 h_a2 in_1 c12) (fun h_y10 h_I11 => ?_)
      refine ai_icmp_ne h_y7 h_y10 hf (tgt := 40) (by decide) d_X_isPlain_33 (fun hf => ?_) (fun hf => ?_)
      · refine aw_iconst (v := iv 0) rfl d_X_isPlain_40 ?_
        exact ai_retn rfl (nar_z (Or.inl rfl)) d_X_isPlain_41 hf in_0 h_I11
      · refine aw_iconst (v := iv 1) rfl d_X_isPlain_36 (aw_goto (tgt := 41) (by decide) d_X_isPlain_37 ?_)
        exact ai_retn rfl (nar_z (Or.inr rfl)) d_X_isPlain_41 hf in_1 h_I11
set_option maxRecDepth 20000 in
theorem t_X_joined_85 (fu : Nat) {r : Int × IMem} (k_123 : IMem → Res) (o0 : Nat) (p1 : Int) (p5 : Int) (p7 : Int) (h_o0 : KM[o0]? = some (12, 51)) (h_p1 : inr p1) (h_p5 : inr p5) (h_p7 : inr p7) (hk_123 : ∀ (I9 : IMem), RG I9 → k_123 I9 = some r → Ai l b 9 y_X_joined KM RM (Ps r) I9 123 [.ref o0, .int (iv p1), uu, uu, uu, .int (iv p5), uu, .int (iv p7), uu] []) : ∀ (m : Nat) (w8 : Int) (I0 : IMem), inr w8 → RG I0 → f_X_joined_85 fu k_123 o0 p1 p5 p7 m w8 I0 = some r → Ai l b 9 y_X_joined KM RM (Ps r) I0 85 [.ref o0, .int (iv p1), uu, uu, uu, .int (iv p5), uu, .int (iv p7), .int (iv w8)] [] := by
  intro m
  induction m with
  | zero => intro w8 I0 h_w8 h_I0 hf; cases hf
  | succ m ih =>
    intro w8 I0 h_w8 h_I0 hf
    replace hf : fb_X_joined_85 fu k_123 o0 p1 p5 p7 (f_X_joined_85 fu k_123 o0 p1 p5 p7 m) w8 I0 = some r := hf
    unfold fb_X_joined_85 at hf
    refine aw_iload rfl d_X_joined_85 (aw_bipush (v := iv 6) cb_6 d_X_joined_87 ?_)
    refine ai_icmp_ge h_w8 in_6 hf (tgt := 123) (by decide) d_X_joined_89 (fun hf => ?_) (fun hf => ?_)
    · refine aw_weakB (lv2 := [.ref o0, .int (iv p1), uu, uu, uu, .int (iv p5), uu, .int (iv p7), uu]) (wk_s (wk_s (wk_u (wk_u (wk_u (wk_s (wk_u (wk_s (wk_u wk_n))))))))) ?_
      exact hk_123 I0 h_I0 hf
    · refine aw_aload_n rfl rfl d_X_joined_92 (aw_getr (r := o0 + 1) fl_X_7 h_o0 (by decide) rfl (rm_9_0 _ h_o0).1 d_X_joined_93 (aw_iload_n rfl rfl d_X_joined_96 (aw_iload rfl d_X_joined_97 ?_)))
      obtain ⟨y25, I26, c27, hf⟩ := of_zb hf
      refine ai_callS (as := [.int (iv p1), .int (iv p7)]) (d' := 1) mo_X_cell lk_X_260 rfl ⟨by decide, by decide⟩ rfl rfl (by decide) d_X_joined_99 (t_X_cell fu p1 p7 I0 h_I0 h_p1 h_p7 c27) (fun h_y25 h_I26 => ?_)
      refine aw_iload rfl d_X_joined_102 (ai_iadd d_X_joined_104 (aw_aload_n rfl rfl d_X_joined_105 (aw_iload_n rfl rfl d_X_joined_106 (aw_iload rfl d_X_joined_107 (aw_iconst (v := iv 1) rfl d_X_joined_109 (ai_iadd d_X_joined_110 (aw_iload rfl d_X_joined_111 ?_)))))))
      obtain ⟨y28, I29, c30, hf⟩ := of_zb hf
      refine ai_callV (as := [.int (iv p1), .int (iv (wr32 (p7 + 1))), .int (iv w8)]) (d' := 2) (q := ("SinglesUpModel", zT9, 51)) mo_X_of lk_X_264 h_o0 rfl rfl rfl ⟨by decide, by decide⟩ rfl rfl (by decide) d_X_joined_113 (t_X_of fu o0 p1 (wr32 (p7 + 1)) w8 I26 h_I26 h_o0 h_p1 (wr32_in _) h_w8 c30) (fun h_y28 h_I29 => ?_)
      refine ai_nameU hf (wr32_in _) (fun x32 h_x32 hf => ?_)
      refine ai_iast (rm_9_0 _ h_o0).2 rfl h_x32 h_y28 h_I29 hf d_X_joined_116 (fun _ I31 h_I31 hf => ?_)
      refine ai_iinc (n := 1) (lv2 := fun x33 => [.ref o0, .int (iv p1), uu, uu, uu, .int (iv p5), uu, .int (iv p7), .int (iv x33)]) hf rfl (Nat.le_of_ble_eq_true rfl) (fun _ => rfl) d_X_joined_117 (fun x33 h_x33 hf => ?_)
      refine aw_goto (tgt := 85) (by decide) d_X_joined_120 ?_
      exact ih x33 I31 h_x33 h_I31 hf
set_option maxRecDepth 20000 in
theorem t_X_joined_65 (fu : Nat) {r : Int × IMem} (k_129 : IMem → Res) (o0 : Nat) (p1 : Int) (p5 : Int) (h_o0 : KM[o0]? = some (12, 51)) (h_p1 : inr p1) (h_p5 : inr p5) (hk_129 : ∀ (I9 : IMem), RG I9 → k_129 I9 = some r → Ai l b 9 y_X_joined KM RM (Ps r) I9 129 [.ref o0, .int (iv p1), uu, uu, uu, .int (iv p5), uu, uu, uu] []) : ∀ (m : Nat) (w7 : Int) (I0 : IMem), inr w7 → RG I0 → f_X_joined_65 fu k_129 o0 p1 p5 m w7 I0 = some r → Ai l b 9 y_X_joined KM RM (Ps r) I0 65 [.ref o0, .int (iv p1), uu, uu, uu, .int (iv p5), uu, .int (iv w7), uu] [] := by
  intro m
  induction m with
  | zero => intro w7 I0 h_w7 h_I0 hf; cases hf
  | succ m ih =>
    intro w7 I0 h_w7 h_I0 hf
    replace hf : fb_X_joined_65 fu k_129 o0 p1 p5 (f_X_joined_65 fu k_129 o0 p1 p5 m) w7 I0 = some r := hf
    unfold fb_X_joined_65 at hf
    refine aw_iload rfl d_X_joined_65 (aw_iconst (v := iv 1) rfl d_X_joined_67 (ai_iadd d_X_joined_68 (aw_aload_n rfl rfl d_X_joined_69 (aw_getr (r := o0 + 1) fl_X_7 h_o0 (by decide) rfl (rm_9_0 _ h_o0).1 d_X_joined_70 (aw_sipush (v := iv 130) cs_130 d_X_joined_73 (aw_iload_n rfl rfl d_X_joined_76 (ai_iadd d_X_joined_77 ?_)))))))
    refine ai_name hf (wr32_in _) (fun x24 h_x24 hf => ?_)
    refine ai_iald (rm_9_0 _ h_o0).2 rfl h_x24 hf d_X_joined_78 (fun _ hf => ?_)
    refine ai_icmp_ge (wr32_in _) (h_I0 (o0 + 1) x24.toNat) hf (tgt := 129) (by decide) d_X_joined_79 (fun hf => ?_) (fun hf => ?_)
    · refine aw_weakB (lv2 := [.ref o0, .int (iv p1), uu, uu, uu, .int (iv p5), uu, uu, uu]) (wk_s (wk_s (wk_u (wk_u (wk_u (wk_s (wk_u (wk_u (wk_u wk_n))))))))) ?_
      exact hk_129 I0 h_I0 hf
    · refine aw_iconst (v := iv 0) rfl d_X_joined_82 (aw_istore (lv2 := [.ref o0, .int (iv p1), uu, uu, uu, .int (iv p5), uu, .int (iv w7), .int (iv 0)]) (Nat.le_of_ble_eq_true rfl) rfl d_X_joined_83 ?_)
      refine t_X_joined_85 fu _ o0 p1 p5 w7 h_o0 h_p1 h_p5 h_w7 ?_ fu 0 I0 in_0 h_I0 hf
      · intro I34 h_I34 hf
        refine ai_iinc (n := 1) (lv2 := fun x35 => [.ref o0, .int (iv p1), uu, uu, uu, .int (iv p5), uu, .int (iv x35), uu]) hf rfl (Nat.le_of_ble_eq_true rfl) (fun _ => rfl) d_X_joined_123 (fun x35 h_x35 hf => ?_)
        refine aw_goto (tgt := 65) (by decide) d_X_joined_126 ?_
        exact ih x35 I34 h_x35 h_I34 hf
set_option maxRecDepth 20000 in
theorem t_X_joined (fu : Nat) (o0 : Nat) (a1 : Int) (a2 : Int) (a3 : Int) (a4 : Int) (I0 : IMem) (hI : RG I0) (h_o0 : KM[o0]? = some (12, 51)) (h_a1 : inr a1) (h_a2 : inr a2) (h_a3 : inr a3) (h_a4 : inr a4) {r : Int × IMem} (hf : f_X_joined fu o0 a1 a2 a3 a4 I0 = some r) : Ss l b 9 y_X_joined KM RM [.ref o0, .int (iv a1), .int (iv a2), .int (iv a3), .int (iv a4)] (ivm I0) (Ps r) := by
  unfold f_X_joined at hf
  refine Ss.of (show Ai l b 9 y_X_joined KM RM (Ps r) I0 0 [.ref o0, .int (iv a1), .int (iv a2), .int (iv a3), .int (iv a4), uu, uu, uu, uu] [] from ?_)
  refine aw_aload_n rfl rfl d_X_joined_0 (aw_iload_n rfl rfl d_X_joined_1 (aw_iload rfl d_X_joined_2 (aw_iconst (v := iv 0) rfl d_X_joined_4 ?_)))
  obtain ⟨y1, I2, c3, hf⟩ := of_zb hf
  refine ai_callV (as := [.int (iv a3), .int (iv a4), .int (iv 0)]) (d' := 2) (q := ("SinglesUpModel", zT9, 51)) mo_X_of lk_X_264 h_o0 rfl rfl rfl ⟨by decide, by decide⟩ rfl rfl (by decide) d_X_joined_5 (t_X_of fu o0 a3 a4 0 I0 hI h_o0 h_a3 h_a4 in_0 c3) (fun h_y1 h_I2 => ?_)
  refine aw_istore (lv2 := [.ref o0, .int (iv a1), .int (iv a2), .int (iv a3), .int (iv a4), .int (iv y1), uu, uu, uu]) (Nat.le_of_ble_eq_true rfl) rfl d_X_joined_8 (aw_aload_n rfl rfl d_X_joined_10 (aw_iload_n rfl rfl d_X_joined_11 (aw_iload_n rfl rfl d_X_joined_12 (aw_iconst (v := iv 1) rfl d_X_joined_13 ?_))))
  obtain ⟨y4, I5, c6, hf⟩ := of_zb hf
  refine ai_callV (as := [.int (iv a1), .int (iv a2), .int (iv 1)]) (d' := 2) (q := ("SinglesUpModel", zT9, 51)) mo_X_of lk_X_264 h_o0 rfl rfl rfl ⟨by decide, by decide⟩ rfl rfl (by decide) d_X_joined_14 (t_X_of fu o0 a1 a2 1 I2 h_I2 h_o0 h_a1 h_a2 in_1 c6) (fun h_y4 h_I5 => ?_)
  refine aw_aload_n rfl rfl d_X_joined_17 (aw_iload_n rfl rfl d_X_joined_18 (aw_iload rfl d_X_joined_19 (aw_iconst (v := iv 1) rfl d_X_joined_21 ?_)))
  obtain ⟨y7, I8, c9, hf⟩ := of_zb hf
  refine ai_callV (as := [.int (iv a3), .int (iv a4), .int (iv 1)]) (d' := 2) (q := ("SinglesUpModel", zT9, 51)) mo_X_of lk_X_264 h_o0 rfl rfl rfl ⟨by decide, by decide⟩ rfl rfl (by decide) d_X_joined_22 (t_X_of fu o0 a3 a4 1 I5 h_I5 h_o0 h_a3 h_a4 in_1 c9) (fun h_y7 h_I8 => ?_)
  refine ai_iadd d_X_joined_25 ?_
  refine ai_name hf (wr32_in _) (fun x10 h_x10 hf => ?_)
  refine aw_istore (lv2 := [.ref o0, .int (iv a1), .int (iv a2), .int (iv a3), .int (iv a4), .int (iv y1), .int (iv x10), uu, uu]) (Nat.le_of_ble_eq_true rfl) rfl d_X_joined_26 ?_
  refine aw_aload_n rfl rfl d_X_joined_28 ?_
  obtain ⟨y11, I12, c13, hf⟩ := of_zb hf
  refine ai_callVv (as := []) (d' := 1) (q := ("SinglesUpModel", zT9, 51)) mo_X_setsOut lk_X_392 h_o0 rfl rfl rfl ⟨by decide, by decide⟩ rfl rfl (by decide) d_X_joined_29 (t_X_setsOut fu o0 I8 h_I8 h_o0 c13) (fun h_I12 => ?_)
  refine aw_aload_n rfl rfl d_X_joined_32 (aw_getr (r := o0 + 1) fl_X_7 h_o0 (by decide) rfl (rm_9_0 _ h_o0).1 d_X_joined_33 (aw_iload_n rfl rfl d_X_joined_36 (aw_iload rfl d_X_joined_37 ?_)))
  obtain ⟨y14, I15, c16, hf⟩ := of_zb hf
  refine ai_callS (as := [.int (iv a3), .int (iv a4)]) (d' := 1) mo_X_cell lk_X_260 rfl ⟨by decide, by decide⟩ rfl rfl (by decide) d_X_joined_39 (t_X_cell fu a3 a4 I12 h_I12 h_a3 h_a4 c16) (fun h_y14 h_I15 => ?_)
  refine aw_iconst (v := iv 1) rfl d_X_joined_42 (ai_iadd d_X_joined_43 (aw_iload rfl d_X_joined_44 ?_))
  refine ai_nameU hf (wr32_in _) (fun x18 h_x18 hf => ?_)
  refine ai_iast (rm_9_0 _ h_o0).2 rfl h_x18 h_x10 h_I15 hf d_X_joined_46 (fun _ I17 h_I17 hf => ?_)
  refine aw_aload_n rfl rfl d_X_joined_47 (aw_getr (r := o0 + 1) fl_X_7 h_o0 (by decide) rfl (rm_9_0 _ h_o0).1 d_X_joined_48 (aw_iload_n rfl rfl d_X_joined_51 (aw_iload rfl d_X_joined_52 ?_)))
  obtain ⟨y19, I20, c21, hf⟩ := of_zb hf
  refine ai_callS (as := [.int (iv a3), .int (iv a4)]) (d' := 1) mo_X_cell lk_X_260 rfl ⟨by decide, by decide⟩ rfl rfl (by decide) d_X_joined_54 (t_X_cell fu a3 a4 I17 h_I17 h_a3 h_a4 c21) (fun h_y19 h_I20 => ?_)
  refine aw_iconst (v := iv 2) rfl d_X_joined_57 (ai_iadd d_X_joined_58 (aw_iload rfl d_X_joined_59 ?_))
  refine ai_nameU hf (wr32_in _) (fun x23 h_x23 hf => ?_)
  refine ai_iast (rm_9_0 _ h_o0).2 rfl h_x23 h_x10 h_I20 hf d_X_joined_61 (fun _ I22 h_I22 hf => ?_)
  refine aw_iload_n rfl rfl d_X_joined_62 (aw_istore (lv2 := [.ref o0, .int (iv a1), .int (iv a2), .int (iv a3), .int (iv a4), .int (iv y1), .int (iv x10), .int (iv a2), uu]) (Nat.le_of_ble_eq_true rfl) rfl d_X_joined_63 ?_)
  refine aw_weakB (lv2 := [.ref o0, .int (iv a1), uu, uu, uu, .int (iv y1), uu, .int (iv a2), uu]) (wk_s (wk_s (wk_u (wk_u (wk_u (wk_s (wk_u (wk_s (wk_u wk_n))))))))) ?_
  refine t_X_joined_65 fu _ o0 a1 y1 h_o0 h_a1 h_y1 ?_ fu a2 I22 h_a2 h_I22 hf
  · intro I36 h_I36 hf
    refine aw_aload_n rfl rfl d_X_joined_129 (aw_getr (r := o0 + 1) fl_X_7 h_o0 (by decide) rfl (rm_9_0 _ h_o0).1 d_X_joined_130 (aw_sipush (v := iv 130) cs_130 d_X_joined_133 (aw_iload_n rfl rfl d_X_joined_136 (ai_iadd d_X_joined_137 ?_))))
    refine ai_name hf (wr32_in _) (fun x37 h_x37 hf => ?_)
    refine aw_dup2 rfl rfl d_X_joined_138 ?_
    refine ai_iald (rm_9_0 _ h_o0).2 rfl h_x37 hf d_X_joined_139 (fun _ hf => ?_)
    refine aw_iconst (v := iv 1) rfl d_X_joined_140 (ai_isub d_X_joined_141 ?_)
    refine ai_iast (rm_9_0 _ h_o0).2 rfl h_x37 (wr32_in _) h_I36 hf d_X_joined_142 (fun _ I38 h_I38 hf => ?_)
    refine aw_aload_n rfl rfl d_X_joined_143 (aw_iload rfl d_X_joined_144 ?_)
    obtain ⟨y39, I40, c41, hf⟩ := of_zb hf
    refine ai_callV (as := [.int (iv y1)]) (d' := 8) (q := ("SinglesUpModel", zT9, 51)) mo_X_sitsAfter lk_X_395 h_o0 rfl rfl rfl ⟨by decide, by decide⟩ rfl rfl (by decide) d_X_joined_146 (t_X_sitsAfter fu o0 y1 I38 h_I38 h_o0 h_y1 c41) (fun h_y39 h_I40 => ?_)
    refine aw_istore (lv2 := [.ref o0, .int (iv a1), uu, uu, uu, .int (iv y1), uu, .int (iv y39), uu]) (Nat.le_of_ble_eq_true rfl) rfl d_X_joined_149 (aw_aload_n rfl rfl d_X_joined_151 ?_)
    obtain ⟨y42, I43, c44, hf⟩ := of_zb hf
    refine ai_callVv (as := []) (d' := 1) (q := ("SinglesUpModel", zT9, 51)) mo_X_comesBack lk_X_398 h_o0 rfl rfl rfl ⟨by decide, by decide⟩ rfl rfl (by decide) d_X_joined_152 (t_X_comesBack fu o0 I40 h_I40 h_o0 c44) (fun h_I43 => ?_)
    refine aw_iload rfl d_X_joined_155 ?_
    exact ai_reti rfl d_X_joined_157 hf h_y39 h_I43
set_option maxRecDepth 20000 in
theorem t_X_together (fu : Nat) (o0 : Nat) (a1 : Int) (a2 : Int) (a3 : Int) (a4 : Int) (a5 : Int) (I0 : IMem) (hI : RG I0) (h_o0 : KM[o0]? = some (12, 51)) (h_a1 : inr a1) (h_a2 : inr a2) (h_a3 : inr a3) (h_a4 : inr a4) (h_a5 : inr a5) {r : Int × IMem} (hf : f_X_together fu o0 a1 a2 a3 a4 a5 I0 = some r) : Ss l b 10 y_X_together KM RM [.ref o0, .int (iv a1), .int (iv a2), .int (iv a3), .int (iv a4), .int (iv a5)] (ivm I0) (Ps r) := by
  unfold f_X_together at hf
  refine Ss.of (show Ai l b 10 y_X_together KM RM (Ps r) I0 0 [.ref o0, .int (iv a1), .int (iv a2), .int (iv a3), .int (iv a4), .int (iv a5), uu, uu, uu] [] from ?_)
  refine aw_aload_n rfl rfl d_X_together_0 (aw_iload_n rfl rfl d_X_together_1 (aw_iload_n rfl rfl d_X_together_2 ?_))
  obtain ⟨y1, I2, c3, hf⟩ := of_zb hf
  refine ai_callV (as := [.int (iv a1), .int (iv a2)]) (d' := 4) (q := ("SinglesUpModel", zT9, 51)) mo_X_isPlain lk_X_401 h_o0 rfl rfl rfl ⟨by decide, by decide⟩ rfl rfl (by decide) d_X_together_3 (t_X_isPlain fu o0 a1 a2 I0 hI h_o0 h_a1 h_a2 c3) (fun h_y1 h_I2 => ?_)
  refine ai_if_eq h_y1 hf (tgt := 61) (by decide) d_X_together_6 (fun hf => ?_) (fun hf => ?_)
  · refine aw_bipush (v := iv (-2)) cb_m2 d_X_together_61 ?_
    exact ai_reti rfl d_X_together_63 hf in_m2 h_I2
  · refine aw_aload_n rfl rfl d_X_together_9 (aw_iload_n rfl rfl d_X_together_10 (aw_iload rfl d_X_together_11 ?_))
    obtain ⟨y4, I5, c6, hf⟩ := of_zb hf
    refine ai_callV (as := [.int (iv a3), .int (iv a4)]) (d' := 4) (q := ("SinglesUpModel", zT9, 51)) mo_X_isPlain lk_X_401 h_o0 rfl rfl rfl ⟨by decide, by decide⟩ rfl rfl (by decide) d_X_together_13 (t_X_isPlain fu o0 a3 a4 I2 h_I2 h_o0 h_a3 h_a4 c6) (fun h_y4 h_I5 => ?_)
    refine ai_if_eq h_y4 hf (tgt := 61) (by decide) d_X_together_16 (fun hf => ?_) (fun hf => ?_)
    · refine aw_bipush (v := iv (-2)) cb_m2 d_X_together_61 ?_
      exact ai_reti rfl d_X_together_63 hf in_m2 h_I5
    · refine aw_iload_n rfl rfl d_X_together_19 (aw_iload_n rfl rfl d_X_together_20 ?_)
      obtain ⟨k7, ek7, hf⟩ := of_zj hf
      have hk7 : ∀  (I8 : IMem), RG I8 → k7 I8 = some r → Ai l b 10 y_X_together KM RM (Ps r) I8 30 [.ref o0, .int (iv a1), .int (iv a2), .int (iv a3), .int (iv a4), .int (iv a5), uu, uu, uu] [] := by
        intro I8 h_I8 hf
        subst ek7
        refine aw_aload_n rfl rfl d_X_together_30 (aw_iload_n rfl rfl d_X_together_31 (aw_iload_n rfl rfl d_X_together_32 (aw_iconst (v := iv 1) rfl d_X_together_33 ?_)))
        obtain ⟨y9, I10, c11, hf⟩ := of_zb hf
        refine ai_callV (as := [.int (iv a1), .int (iv a2), .int (iv 1)]) (d' := 2) (q := ("SinglesUpModel", zT9, 51)) mo_X_of lk_X_264 h_o0 rfl rfl rfl ⟨by decide, by decide⟩ rfl rfl (by decide) d_X_together_34 (t_X_of fu o0 a1 a2 1 I8 h_I8 h_o0 h_a1 h_a2 in_1 c11) (fun h_y9 h_I10 => ?_)
        refine aw_aload_n rfl rfl d_X_together_37 (aw_iload_n rfl rfl d_X_together_38 (aw_iload rfl d_X_together_39 (aw_iconst (v := iv 1) rfl d_X_together_41 ?_)))
        obtain ⟨y12, I13, c14, hf⟩ := of_zb hf
        refine ai_callV (as := [.int (iv a3), .int (iv a4), .int (iv 1)]) (d' := 2) (q := ("SinglesUpModel", zT9, 51)) mo_X_of lk_X_264 h_o0 rfl rfl rfl ⟨by decide, by decide⟩ rfl rfl (by decide) d_X_together_42 (t_X_of fu o0 a3 a4 1 I10 h_I10 h_o0 h_a3 h_a4 in_1 c14) (fun h_y12 h_I13 => ?_)
        refine ai_iadd d_X_together_45 (aw_bipush (v := iv 8) cb_8 d_X_together_46 ?_)
        refine ai_icmp_gt (wr32_in _) in_8 hf (tgt := 61) (by decide) d_X_together_48 (fun hf => ?_) (fun hf => ?_)
        · refine aw_bipush (v := iv (-2)) cb_m2 d_X_together_61 ?_
          exact ai_reti rfl d_X_together_63 hf in_m2 h_I13
        · refine aw_iload rfl d_X_together_51 (aw_iconst (v := iv 0) rfl d_X_together_53 (aw_iconst (v := iv 1) rfl d_X_together_54 ?_))
          obtain ⟨y15, I16, c17, hf⟩ := of_zb hf
          refine ai_callS (as := [.int (iv a5), .int (iv 0), .int (iv 1)]) (d' := 1) mo_X_isIn lk_X_98 rfl ⟨by decide, by decide⟩ rfl rfl (by decide) d_X_together_55 (t_X_isIn fu a5 0 1 I13 h_I13 h_a5 in_0 in_1 c17) (fun h_y15 h_I16 => ?_)
          refine ai_if_ne h_y15 hf (tgt := 64) (by decide) d_X_together_58 (fun hf => ?_) (fun hf => ?_)
          · refine aw_aload_n rfl rfl d_X_together_64 (aw_iload_n rfl rfl d_X_together_65 (aw_iload_n rfl rfl d_X_together_66 (aw_iload_n rfl rfl d_X_together_67 (aw_iload rfl d_X_together_68 ?_))))
            obtain ⟨y18, I19, c20, hf⟩ := of_zb hf
            refine ai_callV (as := [.int (iv a1), .int (iv a2), .int (iv a3), .int (iv a4)]) (d' := 9) (q := ("SinglesUpModel", zT9, 51)) mo_X_joined lk_X_404 h_o0 rfl rfl rfl ⟨by decide, by decide⟩ rfl rfl (by decide) d_X_together_70 (t_X_joined fu o0 a1 a2 a3 a4 I16 h_I16 h_o0 h_a1 h_a2 h_a3 h_a4 c20) (fun h_y18 h_I19 => ?_)
            refine aw_istore (lv2 := [.ref o0, .int (iv a1), .int (iv a2), .int (iv a3), .int (iv a4), .int (iv a5), .int (iv y18), uu, uu]) (Nat.le_of_ble_eq_true rfl) rfl d_X_together_73 (aw_iload rfl d_X_together_75 ?_)
            refine ai_if_ne h_a5 hf (tgt := 83) (by decide) d_X_together_77 (fun hf => ?_) (fun hf => ?_)
            · refine aw_aload_n rfl rfl d_X_together_83 (aw_iload_n rfl rfl d_X_together_84 (aw_iload_n rfl rfl d_X_together_85 ?_))
              obtain ⟨y21, I22, c23, hf⟩ := of_zb hf
              refine ai_callV (as := [.int (iv a1), .int (iv a2)]) (d' := 9) (q := ("SinglesUpModel", zT9, 51)) mo_X_till lk_X_407 h_o0 rfl rfl rfl ⟨by decide, by decide⟩ rfl rfl (by decide) d_X_together_86 (t_X_till fu o0 a1 a2 I19 h_I19 h_o0 h_a1 h_a2 c23) (fun h_y21 h_I22 => ?_)
              refine aw_istore (lv2 := [.ref o0, .int (iv a1), .int (iv a2), .int (iv a3), .int (iv a4), .int (iv a5), .int (iv y18), .int (iv y21), uu]) (Nat.le_of_ble_eq_true rfl) rfl d_X_together_89 (aw_aload_n rfl rfl d_X_together_91 (aw_iload_n rfl rfl d_X_together_92 (aw_iload rfl d_X_together_93 ?_)))
              obtain ⟨y24, I25, c26, hf⟩ := of_zb hf
              refine ai_callV (as := [.int (iv a3), .int (iv a4)]) (d' := 9) (q := ("SinglesUpModel", zT9, 51)) mo_X_till lk_X_407 h_o0 rfl rfl rfl ⟨by decide, by decide⟩ rfl rfl (by decide) d_X_together_95 (t_X_till fu o0 a3 a4 I22 h_I22 h_o0 h_a3 h_a4 c26) (fun h_y24 h_I25 => ?_)
              refine aw_istore (lv2 := [.ref o0, .int (iv a1), .int (iv a2), .int (iv a3), .int (iv a4), .int (iv a5), .int (iv y18), .int (iv y21), .int (iv y24)]) (Nat.le_of_ble_eq_true rfl) rfl d_X_together_98 (aw_iload rfl d_X_together_100 (aw_iconst (v := iv (-1)) rfl d_X_together_102 ?_))
              refine ai_icmp_eq h_y18 in_m1 hf (tgt := 141) (by decide) d_X_together_103 (fun hf => ?_) (fun hf => ?_)
              · refine aw_iconst (v := iv 0) rfl d_X_together_141 ?_
                exact ai_reti rfl d_X_together_142 hf in_0 h_I25
              · refine aw_iload rfl d_X_together_106 (aw_iconst (v := iv (-1)) rfl d_X_together_108 ?_)
                refine ai_icmp_eq h_y21 in_m1 hf (tgt := 141) (by decide) d_X_together_109 (fun hf => ?_) (fun hf => ?_)
                · refine aw_iconst (v := iv 0) rfl d_X_together_141 ?_
                  exact ai_reti rfl d_X_together_142 hf in_0 h_I25
                · refine aw_iload rfl d_X_together_112 (aw_iconst (v := iv (-1)) rfl d_X_together_114 ?_)
                  refine ai_icmp_eq h_y24 in_m1 hf (tgt := 141) (by decide) d_X_together_115 (fun hf => ?_) (fun hf => ?_)
                  · refine aw_iconst (v := iv 0) rfl d_X_together_141 ?_
                    exact ai_reti rfl d_X_together_142 hf in_0 h_I25
                  · refine aw_iload rfl d_X_together_118 (aw_iload rfl d_X_together_120 (aw_iload rfl d_X_together_122 ?_))
                    obtain ⟨k27, ek27, hf⟩ := of_zj hf
                    have hk27 : ∀ (x29 : Int) (I28 : IMem), inr x29 → RG I28 → k27 x29 I28 = some r → Ai l b 10 y_X_together KM RM (Ps r) I28 134 [uu, uu, uu, uu, uu, uu, uu, uu, uu] [.int (iv x29), .int (iv y18)] := by
                      intro x29 I28 h_x29 h_I28 hf
                      subst ek27
                      refine ai_icmp_gt h_y18 h_x29 hf (tgt := 141) (by decide) d_X_together_134 (fun hf => ?_) (fun hf => ?_)
                      · refine aw_iconst (v := iv 0) rfl d_X_together_141 ?_
                        exact ai_reti rfl d_X_together_142 hf in_0 h_I28
                      · refine aw_iconst (v := iv 1) rfl d_X_together_137 (aw_goto (tgt := 142) (by decide) d_X_together_138 ?_)
                        exact ai_reti rfl d_X_together_142 hf in_1 h_I28
                    refine ai_icmp_le h_y21 h_y24 hf (tgt := 132) (by decide) d_X_together_124 (fun hf => ?_) (fun hf => ?_)
                    · refine aw_iload rfl d_X_together_132 ?_
                      refine aw_weakB (lv2 := [uu, uu, uu, uu, uu, uu, uu, uu, uu]) (wk_u (wk_u (wk_u (wk_u (wk_u (wk_u (wk_u (wk_u (wk_u wk_n))))))))) ?_
                      exact hk27 y24 I25 h_y24 h_I25 hf
                    · refine aw_iload rfl d_X_together_127 (aw_goto (tgt := 134) (by decide) d_X_together_129 ?_)
                      refine aw_weakB (lv2 := [uu, uu, uu, uu, uu, uu, uu, uu, uu]) (wk_u (wk_u (wk_u (wk_u (wk_u (wk_u (wk_u (wk_u (wk_u wk_n))))))))) ?_
                      exact hk27 y21 I25 h_y21 h_I25 hf
            · refine aw_iload rfl d_X_together_80 ?_
              exact ai_reti rfl d_X_together_82 hf h_y18 h_I19
          · refine aw_bipush (v := iv (-2)) cb_m2 d_X_together_61 ?_
            exact ai_reti rfl d_X_together_63 hf in_m2 h_I16
      refine ai_icmp_ne h_a1 h_a3 hf (tgt := 30) (by decide) d_X_together_21 (fun hf => ?_) (fun hf => ?_)
      · exact hk7 I5 h_I5 hf
      · refine aw_iload_n rfl rfl d_X_together_24 (aw_iload rfl d_X_together_25 ?_)
        refine ai_icmp_eq h_a2 h_a4 hf (tgt := 61) (by decide) d_X_together_27 (fun hf => ?_) (fun hf => ?_)
        · refine aw_bipush (v := iv (-2)) cb_m2 d_X_together_61 ?_
          exact ai_reti rfl d_X_together_63 hf in_m2 h_I5
        · exact hk7 I5 h_I5 hf
set_option maxRecDepth 20000 in
theorem t_X_needed_20 (fu : Nat) {r : Int × IMem} (k_56 : Int → IMem → Res) (o0 : Nat) (p1 : Int) (h_o0 : KM[o0]? = some (12, 51)) (h_p1 : inr p1) (hk_56 : ∀ (z2 : Int) (I9 : IMem), inr z2 → RG I9 → k_56 z2 I9 = some r → Ai l b 8 y_X_needed KM RM (Ps r) I9 56 [.ref o0, uu, .int (iv z2), uu, uu] []) : ∀ (m : Nat) (w2 : Int) (w3 : Int) (I0 : IMem), inr w2 → inr w3 → RG I0 → f_X_needed_20 fu k_56 o0 p1 m w2 w3 I0 = some r → Ai l b 8 y_X_needed KM RM (Ps r) I0 20 [.ref o0, .int (iv p1), .int (iv w2), .int (iv w3), uu] [] := by
  intro m
  induction m with
  | zero => intro w2 w3 I0 h_w2 h_w3 h_I0 hf; cases hf
  | succ m ih =>
    intro w2 w3 I0 h_w2 h_w3 h_I0 hf
    replace hf : fb_X_needed_20 fu k_56 o0 p1 (f_X_needed_20 fu k_56 o0 p1 m) w2 w3 I0 = some r := hf
    unfold fb_X_needed_20 at hf
    refine aw_iload_n rfl rfl d_X_needed_20 (aw_iload_n rfl rfl d_X_needed_21 ?_)
    refine ai_icmp_ge h_w3 h_p1 hf (tgt := 56) (by decide) d_X_needed_22 (fun hf => ?_) (fun hf => ?_)
    · refine aw_weakB (lv2 := [.ref o0, uu, .int (iv w2), uu, uu]) (wk_s (wk_u (wk_s (wk_u (wk_u wk_n))))) ?_
      exact hk_56 w2 I0 h_w2 h_I0 hf
    · refine aw_aload_n rfl rfl d_X_needed_25 ?_
      obtain ⟨y7, I8, c9, hf⟩ := of_zb hf
      refine ai_callV (as := []) (d' := 7) (q := ("SinglesUpModel", zT9, 51)) mo_X_chair lk_X_338 h_o0 rfl rfl rfl ⟨by decide, by decide⟩ rfl rfl (by decide) d_X_needed_26 (t_X_chair fu o0 I0 h_I0 h_o0 c9) (fun h_y7 h_I8 => ?_)
      refine aw_istore (lv2 := [.ref o0, .int (iv p1), .int (iv w2), .int (iv w3), .int (iv y7)]) (Nat.le_of_ble_eq_true rfl) rfl d_X_needed_29 (aw_iload_n rfl rfl d_X_needed_31 (aw_iload rfl d_X_needed_32 ?_))
      obtain ⟨k10, ek10, hf⟩ := of_zj hf
      have hk10 : ∀ (x12 : Int) (I11 : IMem), inr x12 → RG I11 → k10 x12 I11 = some r → Ai l b 8 y_X_needed KM RM (Ps r) I11 48 [.ref o0, .int (iv p1), uu, .int (iv w3), uu] [.int (iv x12), .int (iv w2)] := by
        intro x12 I11 h_x12 h_I11 hf
        subst ek10
        refine ai_iadd d_X_needed_48 ?_
        refine ai_name hf (wr32_in _) (fun x13 h_x13 hf => ?_)
        refine aw_istore_n (lv2 := [.ref o0, .int (iv p1), .int (iv x13), .int (iv w3), uu]) rfl (Nat.le_of_ble_eq_true rfl) rfl d_X_needed_49 ?_
        refine ai_iinc (n := 1) (lv2 := fun x14 => [.ref o0, .int (iv p1), .int (iv x13), .int (iv x14), uu]) hf rfl (Nat.le_of_ble_eq_true rfl) (fun _ => rfl) d_X_needed_50 (fun x14 h_x14 hf => ?_)
        refine aw_goto (tgt := 20) (by decide) d_X_needed_53 ?_
        exact ih x13 x14 I11 h_x13 h_x14 h_I11 hf
      refine ai_if_le h_y7 hf (tgt := 47) (by decide) d_X_needed_34 (fun hf => ?_) (fun hf => ?_)
      · refine aw_iconst (v := iv 0) rfl d_X_needed_47 ?_
        refine aw_weakB (lv2 := [.ref o0, .int (iv p1), uu, .int (iv w3), uu]) (wk_s (wk_s (wk_u (wk_s (wk_u wk_n))))) ?_
        exact hk10 0 I8 in_0 h_I8 hf
      · refine aw_aload_n rfl rfl d_X_needed_37 (aw_getr (r := o0 + 1) fl_X_7 h_o0 (by decide) rfl (rm_9_0 _ h_o0).1 d_X_needed_38 (aw_bipush (v := iv 111) cb_111 d_X_needed_41 (ai_ialdc (j := 111) (rm_9_0 _ h_o0).2 (by decide) (by decide) d_X_needed_43 (aw_goto (tgt := 48) (by decide) d_X_needed_44 ?_))))
        refine aw_weakB (lv2 := [.ref o0, .int (iv p1), uu, .int (iv w3), uu]) (wk_s (wk_s (wk_u (wk_s (wk_u wk_n))))) ?_
        exact hk10 (I8 (o0 + 1) 111) I8 (h_I8 (o0 + 1) 111) h_I8 hf
set_option maxRecDepth 20000 in
theorem t_X_needed (fu : Nat) (o0 : Nat) (a1 : Int) (I0 : IMem) (hI : RG I0) (h_o0 : KM[o0]? = some (12, 51)) (h_a1 : inr a1) {r : Int × IMem} (hf : f_X_needed fu o0 a1 I0 = some r) : Ss l b 8 y_X_needed KM RM [.ref o0, .int (iv a1)] (ivm I0) (Ps r) := by
  unfold f_X_needed at hf
  refine Ss.of (show Ai l b 8 y_X_needed KM RM (Ps r) I0 0 [.ref o0, .int (iv a1), uu, uu, uu] [] from ?_)
  refine aw_iload_n rfl rfl d_X_needed_0 (aw_iconst (v := iv 1) rfl d_X_needed_1 (aw_bipush (v := iv 40) cb_40 d_X_needed_2 ?_))
  obtain ⟨y1, I2, c3, hf⟩ := of_zb hf
  refine ai_callS (as := [.int (iv a1), .int (iv 1), .int (iv 40)]) (d' := 1) mo_X_isIn lk_X_98 rfl ⟨by decide, by decide⟩ rfl rfl (by decide) d_X_needed_4 (t_X_isIn fu a1 1 40 I0 hI h_a1 in_1 in_40 c3) (fun h_y1 h_I2 => ?_)
  refine ai_if_ne h_y1 hf (tgt := 12) (by decide) d_X_needed_7 (fun hf => ?_) (fun hf => ?_)
  · refine aw_aload_n rfl rfl d_X_needed_12 ?_
    obtain ⟨y4, I5, c6, hf⟩ := of_zb hf
    refine ai_callVv (as := []) (d' := 1) (q := ("SinglesUpModel", zT9, 51)) mo_X_setsOut lk_X_392 h_o0 rfl rfl rfl ⟨by decide, by decide⟩ rfl rfl (by decide) d_X_needed_13 (t_X_setsOut fu o0 I2 h_I2 h_o0 c6) (fun h_I5 => ?_)
    refine aw_iconst (v := iv 0) rfl d_X_needed_16 (aw_istore_n (lv2 := [.ref o0, .int (iv a1), .int (iv 0), uu, uu]) rfl (Nat.le_of_ble_eq_true rfl) rfl d_X_needed_17 (aw_iconst (v := iv 0) rfl d_X_needed_18 (aw_istore_n (lv2 := [.ref o0, .int (iv a1), .int (iv 0), .int (iv 0), uu]) rfl (Nat.le_of_ble_eq_true rfl) rfl d_X_needed_19 ?_)))
    refine t_X_needed_20 fu _ o0 a1 h_o0 h_a1 ?_ fu 0 0 I5 in_0 in_0 h_I5 hf
    · intro x16 I15 h_x16 h_I15 hf
      refine aw_aload_n rfl rfl d_X_needed_56 ?_
      obtain ⟨y17, I18, c19, hf⟩ := of_zb hf
      refine ai_callVv (as := []) (d' := 1) (q := ("SinglesUpModel", zT9, 51)) mo_X_comesBack lk_X_398 h_o0 rfl rfl rfl ⟨by decide, by decide⟩ rfl rfl (by decide) d_X_needed_57 (t_X_comesBack fu o0 I15 h_I15 h_o0 c19) (fun h_I18 => ?_)
      refine aw_iload_n rfl rfl d_X_needed_60 ?_
      exact ai_reti rfl d_X_needed_61 hf h_x16 h_I18
  · refine aw_iconst (v := iv (-1)) rfl d_X_needed_10 ?_
    exact ai_reti rfl d_X_needed_11 hf in_m1 h_I2
set_option maxRecDepth 20000 in
theorem t_X_past (fu : Nat) (o0 : Nat) (a1 : Int) (a2 : Int) (I0 : IMem) (hI : RG I0) (h_o0 : KM[o0]? = some (12, 51)) (h_a1 : inr a1) (h_a2 : inr a2) {r : Int × IMem} (hf : f_X_past fu o0 a1 a2 I0 = some r) : Ss l b 2 y_X_past KM RM [.ref o0, .int (iv a1), .int (iv a2)] (ivm I0) (Ps r) := by
  unfold f_X_past at hf
  refine Ss.of (show Ai l b 2 y_X_past KM RM (Ps r) I0 0 [.ref o0, .int (iv a1), .int (iv a2)] [] from ?_)
  refine aw_iload_n rfl rfl d_X_past_0 (aw_iconst (v := iv 0) rfl d_X_past_1 (aw_bipush (v := iv 59) cb_59 d_X_past_2 ?_))
  obtain ⟨y1, I2, c3, hf⟩ := of_zb hf
  refine ai_callS (as := [.int (iv a1), .int (iv 0), .int (iv 59)]) (d' := 1) mo_X_isIn lk_X_98 rfl ⟨by decide, by decide⟩ rfl rfl (by decide) d_X_past_4 (t_X_isIn fu a1 0 59 I0 hI h_a1 in_0 in_59 c3) (fun h_y1 h_I2 => ?_)
  refine ai_if_eq h_y1 hf (tgt := 60) (by decide) d_X_past_7 (fun hf => ?_) (fun hf => ?_)
  · refine aw_iconst (v := iv (-1)) rfl d_X_past_60 ?_
    exact ai_reti rfl d_X_past_61 hf in_m1 h_I2
  · refine aw_iload_n rfl rfl d_X_past_10 (aw_aload_n rfl rfl d_X_past_11 (aw_getr (r := o0 + 1) fl_X_7 h_o0 (by decide) rfl (rm_9_0 _ h_o0).1 d_X_past_12 (aw_bipush (v := iv 70) cb_70 d_X_past_15 (ai_ialdc (j := 70) (rm_9_0 _ h_o0).2 (by decide) (by decide) d_X_past_17 ?_))))
    refine ai_icmp_ge h_a1 (h_I2 (o0 + 1) 70) hf (tgt := 60) (by decide) d_X_past_18 (fun hf => ?_) (fun hf => ?_)
    · refine aw_iconst (v := iv (-1)) rfl d_X_past_60 ?_
      exact ai_reti rfl d_X_past_61 hf in_m1 h_I2
    · refine aw_iload_n rfl rfl d_X_past_21 (aw_iconst (v := iv 0) rfl d_X_past_22 (aw_iconst (v := iv 2) rfl d_X_past_23 ?_))
      obtain ⟨y4, I5, c6, hf⟩ := of_zb hf
      refine ai_callS (as := [.int (iv a2), .int (iv 0), .int (iv 2)]) (d' := 1) mo_X_isIn lk_X_98 rfl ⟨by decide, by decide⟩ rfl rfl (by decide) d_X_past_24 (t_X_isIn fu a2 0 2 I2 h_I2 h_a2 in_0 in_2 c6) (fun h_y4 h_I5 => ?_)
      refine ai_if_eq h_y4 hf (tgt := 60) (by decide) d_X_past_27 (fun hf => ?_) (fun hf => ?_)
      · refine aw_iconst (v := iv (-1)) rfl d_X_past_60 ?_
        exact ai_reti rfl d_X_past_61 hf in_m1 h_I5
      · refine aw_aload_n rfl rfl d_X_past_30 (aw_getr (r := o0 + 1) fl_X_7 h_o0 (by decide) rfl (rm_9_0 _ h_o0).1 d_X_past_31 (aw_sipush (v := iv 6010) cs_6010 d_X_past_34 (aw_iconst (v := iv 3) rfl d_X_past_37 (aw_aload_n rfl rfl d_X_past_38 (aw_getr (r := o0 + 1) fl_X_7 h_o0 (by decide) rfl (rm_9_0 _ h_o0).1 d_X_past_39 (aw_bipush (v := iv 70) cb_70 d_X_past_42 (ai_ialdc (j := 70) (rm_9_0 _ h_o0).2 (by decide) (by decide) d_X_past_44 (aw_iconst (v := iv 1) rfl d_X_past_45 (ai_isub d_X_past_46 (aw_iload_n rfl rfl d_X_past_47 (ai_isub d_X_past_48 (aw_bipush (v := iv 60) cb_60 d_X_past_49 (ai_iremc in_60 (by decide) d_X_past_51 (ai_imul d_X_past_52 (ai_iadd d_X_past_53 (aw_iload_n rfl rfl d_X_past_54 (ai_iadd d_X_past_55 ?_)))))))))))))))))
        refine ai_name hf (wr32_in _) (fun x7 h_x7 hf => ?_)
        refine ai_iald (rm_9_0 _ h_o0).2 rfl h_x7 hf d_X_past_56 (fun _ hf => ?_)
        refine aw_goto (tgt := 61) (by decide) d_X_past_57 ?_
        exact ai_reti rfl d_X_past_61 hf (h_I5 (o0 + 1) x7.toNat) h_I5
set_option maxRecDepth 20000 in
theorem t_X_which_32 (fu : Nat) {r : Int × IMem} (k_135 : Int → Int → Int → IMem → Res) (o0 : Nat) (p1 : Int) (p2 : Int) (h_o0 : KM[o0]? = some (12, 51)) (h_p1 : inr p1) (h_p2 : inr p2) (hk_135 : ∀ (z3 : Int) (z4 : Int) (z5 : Int) (I9 : IMem), inr z3 → inr z4 → inr z5 → RG I9 → k_135 z3 z4 z5 I9 = some r → Ai l b 10 y_X_which KM RM (Ps r) I9 135 [.ref o0, uu, .int (iv p2), .int (iv z3), .int (iv z4), .int (iv z5), uu] []) : ∀ (m : Nat) (w3 : Int) (w4 : Int) (w5 : Int) (w6 : Int) (I0 : IMem), inr w3 → inr w4 → inr w5 → inr w6 → RG I0 → f_X_which_32 fu k_135 o0 p1 p2 m w3 w4 w5 w6 I0 = some r → Ai l b 10 y_X_which KM RM (Ps r) I0 32 [.ref o0, .int (iv p1), .int (iv p2), .int (iv w3), .int (iv w4), .int (iv w5), .int (iv w6)] [] := by
  intro m
  induction m with
  | zero => intro w3 w4 w5 w6 I0 h_w3 h_w4 h_w5 h_w6 h_I0 hf; cases hf
  | succ m ih =>
    intro w3 w4 w5 w6 I0 h_w3 h_w4 h_w5 h_w6 h_I0 hf
    replace hf : fb_X_which_32 fu k_135 o0 p1 p2 (f_X_which_32 fu k_135 o0 p1 p2 m) w3 w4 w5 w6 I0 = some r := hf
    unfold fb_X_which_32 at hf
    refine aw_iload rfl d_X_which_32 (aw_bipush (v := iv 16) cb_16 d_X_which_34 ?_)
    refine ai_icmp_ge h_w6 in_16 hf (tgt := 135) (by decide) d_X_which_36 (fun hf => ?_) (fun hf => ?_)
    · refine aw_weakB (lv2 := [.ref o0, uu, .int (iv p2), .int (iv w3), .int (iv w4), .int (iv w5), uu]) (wk_s (wk_u (wk_s (wk_s (wk_s (wk_s (wk_u wk_n))))))) ?_
      exact hk_135 w3 w4 w5 I0 h_w3 h_w4 h_w5 h_I0 hf
    · refine aw_aload_n rfl rfl d_X_which_39 (aw_iload rfl d_X_which_40 ?_)
      refine ai_puti hf h_I0 h_w6 fl_X_38 h_o0 (by decide) rfl rfl rfl rfl d_X_which_42 (fun I7 h_I7 hf => ?_)
      refine aw_aload_n rfl rfl d_X_which_45 (aw_aload_n rfl rfl d_X_which_46 (aw_getr (r := o0 + 1) fl_X_7 h_o0 (by decide) rfl (rm_9_0 _ h_o0).1 d_X_which_47 (aw_bipush (v := iv 6) cb_6 d_X_which_50 (ai_ialdc (j := 6) (rm_9_0 _ h_o0).2 (by decide) (by decide) d_X_which_52 (aw_aload_n rfl rfl d_X_which_53 (aw_getr (r := o0 + 1) fl_X_7 h_o0 (by decide) rfl (rm_9_0 _ h_o0).1 d_X_which_54 (aw_iconst (v := iv 5) rfl d_X_which_57 (ai_ialdc (j := 5) (rm_9_0 _ h_o0).2 (by decide) (by decide) d_X_which_58 (aw_aload_n rfl rfl d_X_which_59 (aw_getr (r := o0 + 1) fl_X_7 h_o0 (by decide) rfl (rm_9_0 _ h_o0).1 d_X_which_60 (aw_iconst (v := iv 1) rfl d_X_which_63 (ai_ialdc (j := 1) (rm_9_0 _ h_o0).2 (by decide) (by decide) d_X_which_64 (aw_iload_n rfl rfl d_X_which_65 ?_)))))))))))))
      obtain ⟨y8, I9, c10, hf⟩ := of_zb hf
      refine ai_callVv (as := [.int (iv (I7 (o0 + 1) 6)), .int (iv (I7 (o0 + 1) 5)), .int (iv (I7 (o0 + 1) 1)), .int (iv p1)]) (d' := 9) (q := ("SinglesUpModel", zT9, 51)) mo_X_leads lk_X_416 h_o0 rfl rfl rfl ⟨by decide, by decide⟩ rfl rfl (by decide) d_X_which_66 (t_X_leads fu o0 (I7 (o0 + 1) 6) (I7 (o0 + 1) 5) (I7 (o0 + 1) 1) p1 I7 h_I7 h_o0 (h_I7 (o0 + 1) 6) (h_I7 (o0 + 1) 5) (h_I7 (o0 + 1) 1) h_p1 c10) (fun h_I9 => ?_)
      refine aw_iload_n rfl rfl d_X_which_69 (aw_iconst (v := iv (-1)) rfl d_X_which_70 ?_)
      obtain ⟨k11, ek11, hf⟩ := of_zj hf
      have hk11 : ∀ (x13 : Int) (x14 : Int) (x15 : Int) (I12 : IMem), inr x13 → inr x14 → inr x15 → RG I12 → k11 x13 x14 x15 I12 = some r → Ai l b 10 y_X_which KM RM (Ps r) I12 129 [.ref o0, .int (iv p1), .int (iv p2), .int (iv x13), .int (iv x14), .int (iv x15), .int (iv w6)] [] := by
        intro x13 x14 x15 I12 h_x13 h_x14 h_x15 h_I12 hf
        subst ek11
        refine ai_iinc (n := 1) (lv2 := fun x16 => [.ref o0, .int (iv p1), .int (iv p2), .int (iv x13), .int (iv x14), .int (iv x15), .int (iv x16)]) hf rfl (Nat.le_of_ble_eq_true rfl) (fun _ => rfl) d_X_which_129 (fun x16 h_x16 hf => ?_)
        refine aw_goto (tgt := 32) (by decide) d_X_which_132 ?_
        exact ih x13 x14 x15 x16 I12 h_x13 h_x14 h_x15 h_x16 h_I12 hf
      obtain ⟨k17, ek17, hf⟩ := of_zj hf
      have hk17 : ∀  (I18 : IMem), RG I18 → k17 I18 = some r → Ai l b 10 y_X_which KM RM (Ps r) I18 110 [.ref o0, .int (iv p1), .int (iv p2), uu, uu, uu, .int (iv w6)] [] := by
        intro I18 h_I18 hf
        subst ek17
        refine aw_iload rfl d_X_which_110 (aw_istore_n (lv2 := [.ref o0, .int (iv p1), .int (iv p2), .int (iv w6), uu, uu, .int (iv w6)]) rfl (Nat.le_of_ble_eq_true rfl) rfl d_X_which_112 (aw_aload_n rfl rfl d_X_which_113 (aw_getr (r := o0 + 25) fl_X_93 h_o0 (by decide) rfl (rm_9_49 _ h_o0).1 d_X_which_114 (aw_iconst (v := iv 0) rfl d_X_which_117 (ai_ialdc (j := 0) (rm_9_49 _ h_o0).2 (by decide) (by decide) d_X_which_118 ?_)))))
        refine ai_name hf (h_I18 (o0 + 25) 0) (fun x19 h_x19 hf => ?_)
        refine aw_istore (lv2 := [.ref o0, .int (iv p1), .int (iv p2), .int (iv w6), .int (iv x19), uu, .int (iv w6)]) (Nat.le_of_ble_eq_true rfl) rfl d_X_which_119 ?_
        refine aw_aload_n rfl rfl d_X_which_121 (aw_getr (r := o0 + 25) fl_X_93 h_o0 (by decide) rfl (rm_9_49 _ h_o0).1 d_X_which_122 (aw_iconst (v := iv 2) rfl d_X_which_125 (ai_ialdc (j := 2) (rm_9_49 _ h_o0).2 (by decide) (by decide) d_X_which_126 ?_)))
        refine ai_name hf (h_I18 (o0 + 25) 2) (fun x20 h_x20 hf => ?_)
        refine aw_istore (lv2 := [.ref o0, .int (iv p1), .int (iv p2), .int (iv w6), .int (iv x19), .int (iv x20), .int (iv w6)]) (Nat.le_of_ble_eq_true rfl) rfl d_X_which_127 ?_
        exact hk11 w6 x19 x20 I18 h_w6 h_x19 h_x20 h_I18 hf
      refine ai_icmp_eq h_w3 in_m1 hf (tgt := 110) (by decide) d_X_which_71 (fun hf => ?_) (fun hf => ?_)
      · refine aw_weakB (lv2 := [.ref o0, .int (iv p1), .int (iv p2), uu, uu, uu, .int (iv w6)]) (wk_s (wk_s (wk_s (wk_u (wk_u (wk_u (wk_s wk_n))))))) ?_
        exact hk17 I9 h_I9 hf
      · refine aw_aload_n rfl rfl d_X_which_74 (aw_getr (r := o0 + 25) fl_X_93 h_o0 (by decide) rfl (rm_9_49 _ h_o0).1 d_X_which_75 (aw_iconst (v := iv 0) rfl d_X_which_78 (ai_ialdc (j := 0) (rm_9_49 _ h_o0).2 (by decide) (by decide) d_X_which_79 (aw_iload rfl d_X_which_80 ?_))))
        refine ai_icmp_gt (h_I9 (o0 + 25) 0) h_w4 hf (tgt := 129) (by decide) d_X_which_82 (fun hf => ?_) (fun hf => ?_)
        · exact hk11 w3 w4 w5 I9 h_w3 h_w4 h_w5 h_I9 hf
        · refine aw_aload_n rfl rfl d_X_which_85 (aw_getr (r := o0 + 25) fl_X_93 h_o0 (by decide) rfl (rm_9_49 _ h_o0).1 d_X_which_86 (aw_iconst (v := iv 0) rfl d_X_which_89 (ai_ialdc (j := 0) (rm_9_49 _ h_o0).2 (by decide) (by decide) d_X_which_90 (aw_iload rfl d_X_which_91 ?_))))
          refine ai_icmp_ne (h_I9 (o0 + 25) 0) h_w4 hf (tgt := 110) (by decide) d_X_which_93 (fun hf => ?_) (fun hf => ?_)
          · refine aw_weakB (lv2 := [.ref o0, .int (iv p1), .int (iv p2), uu, uu, uu, .int (iv w6)]) (wk_s (wk_s (wk_s (wk_u (wk_u (wk_u (wk_s wk_n))))))) ?_
            exact hk17 I9 h_I9 hf
          · refine aw_aload_n rfl rfl d_X_which_96 (aw_getr (r := o0 + 25) fl_X_93 h_o0 (by decide) rfl (rm_9_49 _ h_o0).1 d_X_which_97 (aw_iconst (v := iv 2) rfl d_X_which_100 (ai_ialdc (j := 2) (rm_9_49 _ h_o0).2 (by decide) (by decide) d_X_which_101 (aw_iload rfl d_X_which_102 ?_))))
            refine ai_icmp_lt (h_I9 (o0 + 25) 2) h_w5 hf (tgt := 110) (by decide) d_X_which_104 (fun hf => ?_) (fun hf => ?_)
            · refine aw_weakB (lv2 := [.ref o0, .int (iv p1), .int (iv p2), uu, uu, uu, .int (iv w6)]) (wk_s (wk_s (wk_s (wk_u (wk_u (wk_u (wk_s wk_n))))))) ?_
              exact hk17 I9 h_I9 hf
            · refine aw_goto (tgt := 129) (by decide) d_X_which_107 ?_
              exact hk11 w3 w4 w5 I9 h_w3 h_w4 h_w5 h_I9 hf
set_option maxRecDepth 20000 in
theorem t_X_which (fu : Nat) (o0 : Nat) (a1 : Int) (a2 : Int) (I0 : IMem) (hI : RG I0) (h_o0 : KM[o0]? = some (12, 51)) (h_a1 : inr a1) (h_a2 : inr a2) {r : Int × IMem} (hf : f_X_which fu o0 a1 a2 I0 = some r) : Ss l b 10 y_X_which KM RM [.ref o0, .int (iv a1), .int (iv a2)] (ivm I0) (Ps r) := by
  unfold f_X_which at hf
  refine Ss.of (show Ai l b 10 y_X_which KM RM (Ps r) I0 0 [.ref o0, .int (iv a1), .int (iv a2), uu, uu, uu, uu] [] from ?_)
  refine aw_iload_n rfl rfl d_X_which_0 (aw_iconst (v := iv 1) rfl d_X_which_1 (aw_bipush (v := iv 20) cb_20 d_X_which_2 ?_))
  obtain ⟨y1, I2, c3, hf⟩ := of_zb hf
  refine ai_callS (as := [.int (iv a1), .int (iv 1), .int (iv 20)]) (d' := 1) mo_X_isIn lk_X_98 rfl ⟨by decide, by decide⟩ rfl rfl (by decide) d_X_which_4 (t_X_isIn fu a1 1 20 I0 hI h_a1 in_1 in_20 c3) (fun h_y1 h_I2 => ?_)
  refine ai_if_eq h_y1 hf (tgt := 19) (by decide) d_X_which_7 (fun hf => ?_) (fun hf => ?_)
  · refine aw_iconst (v := iv (-1)) rfl d_X_which_19 ?_
    exact ai_reti rfl d_X_which_20 hf in_m1 h_I2
  · refine aw_iload_n rfl rfl d_X_which_10 (aw_iconst (v := iv 0) rfl d_X_which_11 (aw_iconst (v := iv 2) rfl d_X_which_12 ?_))
    obtain ⟨y4, I5, c6, hf⟩ := of_zb hf
    refine ai_callS (as := [.int (iv a2), .int (iv 0), .int (iv 2)]) (d' := 1) mo_X_isIn lk_X_98 rfl ⟨by decide, by decide⟩ rfl rfl (by decide) d_X_which_13 (t_X_isIn fu a2 0 2 I2 h_I2 h_a2 in_0 in_2 c6) (fun h_y4 h_I5 => ?_)
    refine ai_if_ne h_y4 hf (tgt := 21) (by decide) d_X_which_16 (fun hf => ?_) (fun hf => ?_)
    · refine aw_iconst (v := iv (-1)) rfl d_X_which_21 (aw_istore_n (lv2 := [.ref o0, .int (iv a1), .int (iv a2), .int (iv ((-1))), uu, uu, uu]) rfl (Nat.le_of_ble_eq_true rfl) rfl d_X_which_22 (aw_iconst (v := iv 0) rfl d_X_which_23 (aw_istore (lv2 := [.ref o0, .int (iv a1), .int (iv a2), .int (iv ((-1))), .int (iv 0), uu, uu]) (Nat.le_of_ble_eq_true rfl) rfl d_X_which_24 (aw_iconst (v := iv 0) rfl d_X_which_26 (aw_istore (lv2 := [.ref o0, .int (iv a1), .int (iv a2), .int (iv ((-1))), .int (iv 0), .int (iv 0), uu]) (Nat.le_of_ble_eq_true rfl) rfl d_X_which_27 (aw_iconst (v := iv 0) rfl d_X_which_29 (aw_istore (lv2 := [.ref o0, .int (iv a1), .int (iv a2), .int (iv ((-1))), .int (iv 0), .int (iv 0), .int (iv 0)]) (Nat.le_of_ble_eq_true rfl) rfl d_X_which_30 ?_)))))))
      refine t_X_which_32 fu _ o0 a1 a2 h_o0 h_a1 h_a2 ?_ fu ((-1)) 0 0 0 I5 in_m1 in_0 in_0 in_0 h_I5 hf
      · intro x22 x23 x24 I21 h_x22 h_x23 h_x24 h_I21 hf
        refine aw_aload_n rfl rfl d_X_which_135 (aw_iconst (v := iv (-1)) rfl d_X_which_136 ?_)
        refine ai_puti hf h_I21 in_m1 fl_X_38 h_o0 (by decide) rfl rfl rfl rfl d_X_which_137 (fun I25 h_I25 hf => ?_)
        refine aw_iload_n rfl rfl d_X_which_140 ?_
        refine ai_if_ne h_a2 hf (tgt := 148) (by decide) d_X_which_141 (fun hf => ?_) (fun hf => ?_)
        · refine aw_iload_n rfl rfl d_X_which_148 (aw_iconst (v := iv 1) rfl d_X_which_149 ?_)
          refine ai_icmp_ne h_a2 in_1 hf (tgt := 158) (by decide) d_X_which_150 (fun hf => ?_) (fun hf => ?_)
          · refine aw_iload rfl d_X_which_158 ?_
            exact ai_reti rfl d_X_which_160 hf h_x24 h_I25
          · refine aw_iload rfl d_X_which_153 (aw_goto (tgt := 160) (by decide) d_X_which_155 ?_)
            exact ai_reti rfl d_X_which_160 hf h_x23 h_I25
        · refine aw_iload_n rfl rfl d_X_which_144 (aw_goto (tgt := 160) (by decide) d_X_which_145 ?_)
          exact ai_reti rfl d_X_which_160 hf h_x22 h_I25
    · refine aw_iconst (v := iv (-1)) rfl d_X_which_19 ?_
      exact ai_reti rfl d_X_which_20 hf in_m1 h_I5
set_option maxRecDepth 20000 in
theorem t_X_folded_48 (fu : Nat) {r : Int × IMem} (o0 : Nat) (p1 : Int) (p2 : Int) (p3 : Int) (h_o0 : KM[o0]? = some (12, 51)) (h_p1 : inr p1) (h_p2 : inr p2) (h_p3 : inr p3) : ∀ (m : Nat) (w4 : Int) (w5 : Int) (w6 : Int) (I0 : IMem), inr w4 → inr w5 → inr w6 → RG I0 → f_X_folded_48 fu o0 p1 p2 p3 m w4 w5 w6 I0 = some r → Ai l b 3 y_X_folded KM RM (Ps r) I0 48 [.ref o0, .int (iv p1), .int (iv p2), .int (iv p3), .int (iv w4), .int (iv w5), .int (iv w6), uu, uu] [] := by
  intro m
  induction m with
  | zero => intro w4 w5 w6 I0 h_w4 h_w5 h_w6 h_I0 hf; cases hf
  | succ m ih =>
    intro w4 w5 w6 I0 h_w4 h_w5 h_w6 h_I0 hf
    replace hf : fb_X_folded_48 fu o0 p1 p2 p3 (f_X_folded_48 fu o0 p1 p2 p3 m) w4 w5 w6 I0 = some r := hf
    unfold fb_X_folded_48 at hf
    refine aw_iload rfl d_X_folded_48 (aw_aload_n rfl rfl d_X_folded_50 (aw_getr (r := o0 + 1) fl_X_7 h_o0 (by decide) rfl (rm_9_0 _ h_o0).1 d_X_folded_51 (aw_sipush (v := iv 130) cs_130 d_X_folded_54 (aw_iload_n rfl rfl d_X_folded_57 (ai_iadd d_X_folded_58 ?_)))))
    refine ai_name hf (wr32_in _) (fun x11 h_x11 hf => ?_)
    refine ai_iald (rm_9_0 _ h_o0).2 rfl h_x11 hf d_X_folded_59 (fun _ hf => ?_)
    refine ai_icmp_ge h_w6 (h_I0 (o0 + 1) x11.toNat) hf (tgt := 149) (by decide) d_X_folded_60 (fun hf => ?_) (fun hf => ?_)
    · refine aw_iload rfl d_X_folded_149 ?_
      exact ai_reti rfl d_X_folded_151 hf h_w4 h_I0
    · refine aw_aload_n rfl rfl d_X_folded_63 (aw_iload_n rfl rfl d_X_folded_64 (aw_iload rfl d_X_folded_65 (aw_iconst (v := iv 1) rfl d_X_folded_67 ?_)))
      obtain ⟨y12, I13, c14, hf⟩ := of_zb hf
      refine ai_callV (as := [.int (iv p1), .int (iv w6), .int (iv 1)]) (d' := 2) (q := ("SinglesUpModel", zT9, 51)) mo_X_of lk_X_264 h_o0 rfl rfl rfl ⟨by decide, by decide⟩ rfl rfl (by decide) d_X_folded_68 (t_X_of fu o0 p1 w6 1 I0 h_I0 h_o0 h_p1 h_w6 in_1 c14) (fun h_y12 h_I13 => ?_)
      refine aw_istore (lv2 := [.ref o0, .int (iv p1), .int (iv p2), .int (iv p3), .int (iv w4), .int (iv w5), .int (iv w6), .int (iv y12), uu]) (Nat.le_of_ble_eq_true rfl) rfl d_X_folded_71 (aw_iload rfl d_X_folded_73 (aw_istore (lv2 := [.ref o0, .int (iv p1), .int (iv p2), .int (iv p3), .int (iv w4), .int (iv w5), .int (iv w6), .int (iv y12), .int (iv w4)]) (Nat.le_of_ble_eq_true rfl) rfl d_X_folded_75 (aw_iload rfl d_X_folded_77 (aw_iload_n rfl rfl d_X_folded_79 ?_))))
      obtain ⟨k15, ek15, hf⟩ := of_zj hf
      have hk15 : ∀ (x17 : Int) (x18 : Int) (x19 : Int) (I16 : IMem), inr x17 → inr x18 → inr x19 → RG I16 → k15 x17 x18 x19 I16 = some r → Ai l b 3 y_X_folded KM RM (Ps r) I16 134 [.ref o0, .int (iv p1), .int (iv p2), .int (iv p3), .int (iv x17), .int (iv x18), .int (iv w6), uu, .int (iv x19)] [] := by
        intro x17 x18 x19 I16 h_x17 h_x18 h_x19 h_I16 hf
        subst ek15
        refine aw_iload rfl d_X_folded_134 (aw_iload_n rfl rfl d_X_folded_136 ?_)
        refine ai_icmp_ne h_w6 h_p3 hf (tgt := 143) (by decide) d_X_folded_137 (fun hf => ?_) (fun hf => ?_)
        · refine ai_iinc (n := 1) (lv2 := fun x20 => [.ref o0, .int (iv p1), .int (iv p2), .int (iv p3), .int (iv x17), .int (iv x18), .int (iv x20), uu, .int (iv x19)]) hf rfl (Nat.le_of_ble_eq_true rfl) (fun _ => rfl) d_X_folded_143 (fun x20 h_x20 hf => ?_)
          refine aw_goto (tgt := 48) (by decide) d_X_folded_146 ?_
          refine aw_weakB (lv2 := [.ref o0, .int (iv p1), .int (iv p2), .int (iv p3), .int (iv x17), .int (iv x18), .int (iv x20), uu, uu]) (wk_s (wk_s (wk_s (wk_s (wk_s (wk_s (wk_s (wk_u (wk_u wk_n))))))))) ?_
          exact ih x17 x18 x20 I16 h_x17 h_x18 h_x20 h_I16 hf
        · refine aw_iload rfl d_X_folded_140 ?_
          exact ai_reti rfl d_X_folded_142 hf h_x19 h_I16
      refine ai_icmp_le h_y12 h_p2 hf (tgt := 102) (by decide) d_X_folded_80 (fun hf => ?_) (fun hf => ?_)
      · refine aw_iload rfl d_X_folded_102 (aw_iload rfl d_X_folded_104 (ai_iadd d_X_folded_106 (aw_iload_n rfl rfl d_X_folded_107 ?_)))
        refine ai_icmp_gt (wr32_in _) h_p2 hf (tgt := 127) (by decide) d_X_folded_108 (fun hf => ?_) (fun hf => ?_)
        · refine ai_iinc (n := 1) (lv2 := fun x21 => [.ref o0, .int (iv p1), .int (iv p2), .int (iv p3), .int (iv x21), .int (iv w5), .int (iv w6), .int (iv y12), .int (iv w4)]) hf rfl (Nat.le_of_ble_eq_true rfl) (fun _ => rfl) d_X_folded_127 (fun x21 h_x21 hf => ?_)
          refine aw_iload rfl d_X_folded_130 (aw_istore (lv2 := [.ref o0, .int (iv p1), .int (iv p2), .int (iv p3), .int (iv x21), .int (iv y12), .int (iv w6), .int (iv y12), .int (iv w4)]) (Nat.le_of_ble_eq_true rfl) rfl d_X_folded_132 ?_)
          refine aw_weakB (lv2 := [.ref o0, .int (iv p1), .int (iv p2), .int (iv p3), .int (iv x21), .int (iv y12), .int (iv w6), uu, .int (iv w4)]) (wk_s (wk_s (wk_s (wk_s (wk_s (wk_s (wk_s (wk_u (wk_s wk_n))))))))) ?_
          exact hk15 x21 y12 w4 I13 h_x21 h_y12 h_w4 h_I13 hf
        · refine aw_iload rfl d_X_folded_111 (aw_iconst (v := iv 1) rfl d_X_folded_113 (ai_isub d_X_folded_114 ?_))
          refine ai_name hf (wr32_in _) (fun x22 h_x22 hf => ?_)
          refine aw_istore (lv2 := [.ref o0, .int (iv p1), .int (iv p2), .int (iv p3), .int (iv w4), .int (iv w5), .int (iv w6), .int (iv y12), .int (iv x22)]) (Nat.le_of_ble_eq_true rfl) rfl d_X_folded_115 ?_
          refine aw_iload rfl d_X_folded_117 (aw_iload rfl d_X_folded_119 (ai_iadd d_X_folded_121 ?_))
          refine ai_name hf (wr32_in _) (fun x23 h_x23 hf => ?_)
          refine aw_istore (lv2 := [.ref o0, .int (iv p1), .int (iv p2), .int (iv p3), .int (iv w4), .int (iv x23), .int (iv w6), .int (iv y12), .int (iv x22)]) (Nat.le_of_ble_eq_true rfl) rfl d_X_folded_122 ?_
          refine aw_goto (tgt := 134) (by decide) d_X_folded_124 ?_
          refine aw_weakB (lv2 := [.ref o0, .int (iv p1), .int (iv p2), .int (iv p3), .int (iv w4), .int (iv x23), .int (iv w6), uu, .int (iv x22)]) (wk_s (wk_s (wk_s (wk_s (wk_s (wk_s (wk_s (wk_u (wk_s wk_n))))))))) ?_
          exact hk15 w4 x23 x22 I13 h_w4 h_x23 h_x22 h_I13 hf
      · refine aw_iload rfl d_X_folded_83 (aw_iload rfl d_X_folded_85 (aw_iload_n rfl rfl d_X_folded_87 (ai_iadd d_X_folded_88 (aw_iconst (v := iv 1) rfl d_X_folded_89 (ai_isub d_X_folded_90 (aw_iload_n rfl rfl d_X_folded_91 ?_))))))
        refine ai_idiv h_p2 hf d_X_folded_92 (fun _ hf => ?_)
        refine ai_iadd d_X_folded_93 ?_
        refine ai_name hf (wr32_in _) (fun x24 h_x24 hf => ?_)
        refine aw_istore (lv2 := [.ref o0, .int (iv p1), .int (iv p2), .int (iv p3), .int (iv x24), .int (iv w5), .int (iv w6), .int (iv y12), .int (iv w4)]) (Nat.le_of_ble_eq_true rfl) rfl d_X_folded_94 ?_
        refine aw_iload_n rfl rfl d_X_folded_96 (aw_istore (lv2 := [.ref o0, .int (iv p1), .int (iv p2), .int (iv p3), .int (iv x24), .int (iv p2), .int (iv w6), .int (iv y12), .int (iv w4)]) (Nat.le_of_ble_eq_true rfl) rfl d_X_folded_97 (aw_goto (tgt := 134) (by decide) d_X_folded_99 ?_))
        refine aw_weakB (lv2 := [.ref o0, .int (iv p1), .int (iv p2), .int (iv p3), .int (iv x24), .int (iv p2), .int (iv w6), uu, .int (iv w4)]) (wk_s (wk_s (wk_s (wk_s (wk_s (wk_s (wk_s (wk_u (wk_s wk_n))))))))) ?_
        exact hk15 x24 p2 w4 I13 h_x24 h_p2 h_w4 h_I13 hf
set_option maxRecDepth 20000 in
theorem t_X_folded (fu : Nat) (o0 : Nat) (a1 : Int) (a2 : Int) (a3 : Int) (I0 : IMem) (hI : RG I0) (h_o0 : KM[o0]? = some (12, 51)) (h_a1 : inr a1) (h_a2 : inr a2) (h_a3 : inr a3) {r : Int × IMem} (hf : f_X_folded fu o0 a1 a2 a3 I0 = some r) : Ss l b 3 y_X_folded KM RM [.ref o0, .int (iv a1), .int (iv a2), .int (iv a3)] (ivm I0) (Ps r) := by
  unfold f_X_folded at hf
  refine Ss.of (show Ai l b 3 y_X_folded KM RM (Ps r) I0 0 [.ref o0, .int (iv a1), .int (iv a2), .int (iv a3), uu, uu, uu, uu, uu] [] from ?_)
  refine aw_iload_n rfl rfl d_X_folded_0 ?_
  obtain ⟨y1, I2, c3, hf⟩ := of_zb hf
  refine ai_callS (as := [.int (iv a1)]) (d' := 2) mo_X_isLine lk_X_105 rfl ⟨by decide, by decide⟩ rfl rfl (by decide) d_X_folded_1 (t_X_isLine fu a1 I0 hI h_a1 c3) (fun h_y1 h_I2 => ?_)
  refine ai_if_eq h_y1 hf (tgt := 37) (by decide) d_X_folded_4 (fun hf => ?_) (fun hf => ?_)
  · refine aw_iconst (v := iv (-1)) rfl d_X_folded_37 ?_
    exact ai_reti rfl d_X_folded_38 hf in_m1 h_I2
  · refine aw_iload_n rfl rfl d_X_folded_7 (aw_iconst (v := iv 1) rfl d_X_folded_8 (aw_bipush (v := iv 40) cb_40 d_X_folded_9 ?_))
    obtain ⟨y4, I5, c6, hf⟩ := of_zb hf
    refine ai_callS (as := [.int (iv a2), .int (iv 1), .int (iv 40)]) (d' := 1) mo_X_isIn lk_X_98 rfl ⟨by decide, by decide⟩ rfl rfl (by decide) d_X_folded_11 (t_X_isIn fu a2 1 40 I2 h_I2 h_a2 in_1 in_40 c6) (fun h_y4 h_I5 => ?_)
    refine ai_if_eq h_y4 hf (tgt := 37) (by decide) d_X_folded_14 (fun hf => ?_) (fun hf => ?_)
    · refine aw_iconst (v := iv (-1)) rfl d_X_folded_37 ?_
      exact ai_reti rfl d_X_folded_38 hf in_m1 h_I5
    · refine aw_iload_n rfl rfl d_X_folded_17 (aw_iconst (v := iv (-1)) rfl d_X_folded_18 (aw_aload_n rfl rfl d_X_folded_19 (aw_getr (r := o0 + 1) fl_X_7 h_o0 (by decide) rfl (rm_9_0 _ h_o0).1 d_X_folded_20 (aw_sipush (v := iv 130) cs_130 d_X_folded_23 (aw_iload_n rfl rfl d_X_folded_26 (ai_iadd d_X_folded_27 ?_))))))
      refine ai_name hf (wr32_in _) (fun x7 h_x7 hf => ?_)
      refine ai_iald (rm_9_0 _ h_o0).2 rfl h_x7 hf d_X_folded_28 (fun _ hf => ?_)
      refine aw_iconst (v := iv 1) rfl d_X_folded_29 (ai_isub d_X_folded_30 ?_)
      obtain ⟨y8, I9, c10, hf⟩ := of_zb hf
      refine ai_callS (as := [.int (iv a3), .int (iv ((-1))), .int (iv (wr32 ((I5 (o0 + 1) x7.toNat) - 1)))]) (d' := 1) mo_X_isIn lk_X_98 rfl ⟨by decide, by decide⟩ rfl rfl (by decide) d_X_folded_31 (t_X_isIn fu a3 ((-1)) (wr32 ((I5 (o0 + 1) x7.toNat) - 1)) I5 h_I5 h_a3 in_m1 (wr32_in _) c10) (fun h_y8 h_I9 => ?_)
      refine ai_if_ne h_y8 hf (tgt := 39) (by decide) d_X_folded_34 (fun hf => ?_) (fun hf => ?_)
      · refine aw_iconst (v := iv 0) rfl d_X_folded_39 (aw_istore (lv2 := [.ref o0, .int (iv a1), .int (iv a2), .int (iv a3), .int (iv 0), uu, uu, uu, uu]) (Nat.le_of_ble_eq_true rfl) rfl d_X_folded_40 (aw_iload_n rfl rfl d_X_folded_42 (aw_istore (lv2 := [.ref o0, .int (iv a1), .int (iv a2), .int (iv a3), .int (iv 0), .int (iv a2), uu, uu, uu]) (Nat.le_of_ble_eq_true rfl) rfl d_X_folded_43 (aw_iconst (v := iv 0) rfl d_X_folded_45 (aw_istore (lv2 := [.ref o0, .int (iv a1), .int (iv a2), .int (iv a3), .int (iv 0), .int (iv a2), .int (iv 0), uu, uu]) (Nat.le_of_ble_eq_true rfl) rfl d_X_folded_46 ?_)))))
        refine t_X_folded_48 fu o0 a1 a2 a3 h_o0 h_a1 h_a2 h_a3 fu 0 a2 0 I9 in_0 h_a2 in_0 h_I9 hf
      · refine aw_iconst (v := iv (-1)) rfl d_X_folded_37 ?_
        exact ai_reti rfl d_X_folded_38 hf in_m1 h_I9
set_option maxRecDepth 20000 in
theorem t_X_image_15 (fu : Nat) {r : Int × IMem} (k_59 : IMem → Res) (o0 : Nat) (p1 : Int) (h_o0 : KM[o0]? = some (12, 51)) (h_p1 : inr p1) (hk_59 : ∀ (I9 : IMem), RG I9 → k_59 I9 = some r → Ai l b 2 y_X_image KM RM (Ps r) I9 59 [.ref o0, .int (iv p1), uu] []) : ∀ (m : Nat) (w2 : Int) (I0 : IMem), inr w2 → RG I0 → f_X_image_15 fu k_59 o0 p1 m w2 I0 = some r → Ai l b 2 y_X_image KM RM (Ps r) I0 15 [.ref o0, .int (iv p1), .int (iv w2)] [] := by
  intro m
  induction m with
  | zero => intro w2 I0 h_w2 h_I0 hf; cases hf
  | succ m ih =>
    intro w2 I0 h_w2 h_I0 hf
    replace hf : fb_X_image_15 fu k_59 o0 p1 (f_X_image_15 fu k_59 o0 p1 m) w2 I0 = some r := hf
    unfold fb_X_image_15 at hf
    refine aw_iload_n rfl rfl d_X_image_15 (aw_sipush (v := iv 6190) cs_6190 d_X_image_16 ?_)
    refine ai_icmp_ge h_w2 in_6190 hf (tgt := 59) (by decide) d_X_image_19 (fun hf => ?_) (fun hf => ?_)
    · refine aw_weakB (lv2 := [.ref o0, .int (iv p1), uu]) (wk_s (wk_s (wk_u wk_n))) ?_
      exact hk_59 I0 h_I0 hf
    · refine aw_iload_n rfl rfl d_X_image_22 ?_
      obtain ⟨k3, ek3, hf⟩ := of_zj hf
      have hk3 : ∀  (I4 : IMem), RG I4 → k3 I4 = some r → Ai l b 2 y_X_image KM RM (Ps r) I4 53 [.ref o0, .int (iv p1), .int (iv w2)] [] := by
        intro I4 h_I4 hf
        subst ek3
        refine ai_iinc (n := 1) (lv2 := fun x5 => [.ref o0, .int (iv p1), .int (iv x5)]) hf rfl (Nat.le_of_ble_eq_true rfl) (fun _ => rfl) d_X_image_53 (fun x5 h_x5 hf => ?_)
        refine aw_goto (tgt := 15) (by decide) d_X_image_56 ?_
        exact ih x5 I4 h_x5 h_I4 hf
      refine ai_if_eq h_p1 hf (tgt := 41) (by decide) d_X_image_23 (fun hf => ?_) (fun hf => ?_)
      · refine aw_aload_n rfl rfl d_X_image_41 (aw_getr (r := o0 + 1) fl_X_7 h_o0 (by decide) rfl (rm_9_0 _ h_o0).1 d_X_image_42 (aw_iload_n rfl rfl d_X_image_45 (aw_aload_n rfl rfl d_X_image_46 (aw_getr (r := o0 + 2) fl_X_13 h_o0 (by decide) rfl (rm_9_1 _ h_o0).1 d_X_image_47 (aw_iload_n rfl rfl d_X_image_50 ?_)))))
        refine ai_iald (rm_9_1 _ h_o0).2 rfl h_w2 hf d_X_image_51 (fun _ hf => ?_)
        refine ai_iast (rm_9_0 _ h_o0).2 rfl h_w2 (h_I0 (o0 + 2) w2.toNat) h_I0 hf d_X_image_52 (fun _ I6 h_I6 hf => ?_)
        exact hk3 I6 h_I6 hf
      · refine aw_aload_n rfl rfl d_X_image_26 (aw_getr (r := o0 + 2) fl_X_13 h_o0 (by decide) rfl (rm_9_1 _ h_o0).1 d_X_image_27 (aw_iload_n rfl rfl d_X_image_30 (aw_aload_n rfl rfl d_X_image_31 (aw_getr (r := o0 + 1) fl_X_7 h_o0 (by decide) rfl (rm_9_0 _ h_o0).1 d_X_image_32 (aw_iload_n rfl rfl d_X_image_35 ?_)))))
        refine ai_iald (rm_9_0 _ h_o0).2 rfl h_w2 hf d_X_image_36 (fun _ hf => ?_)
        refine ai_iast (rm_9_1 _ h_o0).2 rfl h_w2 (h_I0 (o0 + 1) w2.toNat) h_I0 hf d_X_image_37 (fun _ I7 h_I7 hf => ?_)
        refine aw_goto (tgt := 53) (by decide) d_X_image_38 ?_
        exact hk3 I7 h_I7 hf
set_option maxRecDepth 20000 in
theorem t_X_image (fu : Nat) (o0 : Nat) (a1 : Int) (I0 : IMem) (hI : RG I0) (h_o0 : KM[o0]? = some (12, 51)) (h_a1 : inr a1) {r : Int × IMem} (hf : f_X_image fu o0 a1 I0 = some r) : Ss l b 2 y_X_image KM RM [.ref o0, .int (iv a1)] (ivm I0) (Ps r) := by
  unfold f_X_image at hf
  refine Ss.of (show Ai l b 2 y_X_image KM RM (Ps r) I0 0 [.ref o0, .int (iv a1), uu] [] from ?_)
  refine aw_iload_n rfl rfl d_X_image_0 ?_
  obtain ⟨k1, ek1, hf⟩ := of_zj hf
  have hk1 : ∀  (I2 : IMem), RG I2 → k1 I2 = some r → Ai l b 2 y_X_image KM RM (Ps r) I2 13 [.ref o0, .int (iv a1), uu] [] := by
    intro I2 h_I2 hf
    subst ek1
    refine aw_iconst (v := iv 0) rfl d_X_image_13 (aw_istore_n (lv2 := [.ref o0, .int (iv a1), .int (iv 0)]) rfl (Nat.le_of_ble_eq_true rfl) rfl d_X_image_14 ?_)
    refine t_X_image_15 fu _ o0 a1 h_o0 h_a1 ?_ fu 0 I2 in_0 h_I2 hf
    · intro I8 h_I8 hf
      refine aw_iload_n rfl rfl d_X_image_59 ?_
      obtain ⟨k9, ek9, hf⟩ := of_zj hf
      have hk9 : ∀  (I10 : IMem), RG I10 → k9 I10 = some r → Ai l b 2 y_X_image KM RM (Ps r) I10 67 [.ref o0, uu, uu] [] := by
        intro I10 h_I10 hf
        subst ek9
        refine aw_aload_n rfl rfl d_X_image_67 (aw_iconst (v := iv 1) rfl d_X_image_68 ?_)
        refine ai_puti hf h_I10 in_1 fl_X_420 h_o0 (by decide) rfl (nar_z (Or.inr rfl)) (fit_z (Or.inr rfl)) rfl d_X_image_69 (fun I11 h_I11 hf => ?_)
        refine aw_iconst (v := iv 1) rfl d_X_image_72 ?_
        exact ai_retn rfl (nar_z (Or.inr rfl)) d_X_image_73 hf in_1 h_I11
      refine ai_if_ne h_a1 hf (tgt := 67) (by decide) d_X_image_60 (fun hf => ?_) (fun hf => ?_)
      · refine aw_weakB (lv2 := [.ref o0, uu, uu]) (wk_s (wk_u (wk_u wk_n))) ?_
        exact hk9 I8 h_I8 hf
      · refine aw_aload_n rfl rfl d_X_image_63 ?_
        obtain ⟨y12, I13, c14, hf⟩ := of_zb hf
        refine ai_callVv (as := []) (d' := 1) (q := ("SinglesUpModel", zT9, 51)) mo_X_forgets lk_X_102 h_o0 rfl rfl rfl ⟨by decide, by decide⟩ rfl rfl (by decide) d_X_image_64 (t_X_forgets fu o0 I8 h_I8 h_o0 c14) (fun h_I13 => ?_)
        refine aw_weakB (lv2 := [.ref o0, uu, uu]) (wk_s (wk_u (wk_u wk_n))) ?_
        exact hk9 I13 h_I13 hf
  refine ai_if_ne h_a1 hf (tgt := 13) (by decide) d_X_image_1 (fun hf => ?_) (fun hf => ?_)
  · exact hk1 I0 hI hf
  · refine aw_aload_n rfl rfl d_X_image_4 (ai_geti fl_X_420 h_o0 (by decide) rfl d_X_image_5 ?_)
    refine ai_if_ne (hI o0 3) hf (tgt := 13) (by decide) d_X_image_8 (fun hf => ?_) (fun hf => ?_)
    · exact hk1 I0 hI hf
    · refine aw_iconst (v := iv 0) rfl d_X_image_11 ?_
      exact ai_retn rfl (nar_z (Or.inl rfl)) d_X_image_12 hf in_0 hI
set_option maxRecDepth 20000 in
theorem t_X_told (fu : Nat) (o0 : Nat) (a1 : Int) (I0 : IMem) (hI : RG I0) (h_o0 : KM[o0]? = some (12, 51)) (h_a1 : inr a1) {r : Int × IMem} (hf : f_X_told fu o0 a1 I0 = some r) : Ss l b 2 y_X_told KM RM [.ref o0, .int (iv a1)] (ivm I0) (Ps r) := by
  unfold f_X_told at hf
  refine Ss.of (show Ai l b 2 y_X_told KM RM (Ps r) I0 0 [.ref o0, .int (iv a1)] [] from ?_)
  refine aw_iload_n rfl rfl d_X_told_0 (aw_iconst (v := iv 0) rfl d_X_told_1 (aw_iconst (v := iv 5) rfl d_X_told_2 ?_))
  obtain ⟨y1, I2, c3, hf⟩ := of_zb hf
  refine ai_callS (as := [.int (iv a1), .int (iv 0), .int (iv 5)]) (d' := 1) mo_X_isIn lk_X_98 rfl ⟨by decide, by decide⟩ rfl rfl (by decide) d_X_told_3 (t_X_isIn fu a1 0 5 I0 hI h_a1 in_0 in_5 c3) (fun h_y1 h_I2 => ?_)
  refine ai_if_eq h_y1 hf (tgt := 20) (by decide) d_X_told_6 (fun hf => ?_) (fun hf => ?_)
  · refine aw_iload_n rfl rfl d_X_told_20 (aw_bipush (v := iv 6) cb_6 d_X_told_21 ?_)
    refine ai_icmp_ne h_a1 in_6 hf (tgt := 33) (by decide) d_X_told_23 (fun hf => ?_) (fun hf => ?_)
    · refine aw_iload_n rfl rfl d_X_told_33 (aw_bipush (v := iv 7) cb_7 d_X_told_34 ?_)
      refine ai_icmp_ne h_a1 in_7 hf (tgt := 49) (by decide) d_X_told_36 (fun hf => ?_) (fun hf => ?_)
      · refine aw_iload_n rfl rfl d_X_told_49 (aw_bipush (v := iv 8) cb_8 d_X_told_50 ?_)
        refine ai_icmp_ne h_a1 in_8 hf (tgt := 64) (by decide) d_X_told_52 (fun hf => ?_) (fun hf => ?_)
        · refine aw_iconst (v := iv (-1)) rfl d_X_told_64 ?_
          exact ai_reti rfl d_X_told_65 hf in_m1 h_I2
        · refine aw_aload_n rfl rfl d_X_told_55 (aw_getr (r := o0 + 1) fl_X_7 h_o0 (by decide) rfl (rm_9_0 _ h_o0).1 d_X_told_56 (aw_iconst (v := iv 0) rfl d_X_told_59 (ai_ialdc (j := 0) (rm_9_0 _ h_o0).2 (by decide) (by decide) d_X_told_60 (aw_goto (tgt := 65) (by decide) d_X_told_61 ?_))))
          exact ai_reti rfl d_X_told_65 hf (h_I2 (o0 + 1) 0) h_I2
      · refine aw_aload_n rfl rfl d_X_told_39 (aw_getr (r := o0 + 1) fl_X_7 h_o0 (by decide) rfl (rm_9_0 _ h_o0).1 d_X_told_40 (aw_bipush (v := iv 7) cb_7 d_X_told_43 (ai_ialdc (j := 7) (rm_9_0 _ h_o0).2 (by decide) (by decide) d_X_told_45 (aw_goto (tgt := 65) (by decide) d_X_told_46 ?_))))
        exact ai_reti rfl d_X_told_65 hf (h_I2 (o0 + 1) 7) h_I2
    · refine aw_aload_n rfl rfl d_X_told_26 (ai_geti fl_X_344 h_o0 (by decide) rfl d_X_told_27 (aw_goto (tgt := 65) (by decide) d_X_told_30 ?_))
      exact ai_reti rfl d_X_told_65 hf (h_I2 o0 35) h_I2
  · refine aw_aload_n rfl rfl d_X_told_9 (aw_getr (r := o0 + 1) fl_X_7 h_o0 (by decide) rfl (rm_9_0 _ h_o0).1 d_X_told_10 (aw_iconst (v := iv 1) rfl d_X_told_13 (aw_iload_n rfl rfl d_X_told_14 (ai_iadd d_X_told_15 ?_))))
    refine ai_name hf (wr32_in _) (fun x4 h_x4 hf => ?_)
    refine ai_iald (rm_9_0 _ h_o0).2 rfl h_x4 hf d_X_told_16 (fun _ hf => ?_)
    refine aw_goto (tgt := 65) (by decide) d_X_told_17 ?_
    exact ai_reti rfl d_X_told_65 hf (h_I2 (o0 + 1) x4.toNat) h_I2
end
