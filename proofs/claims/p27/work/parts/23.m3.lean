/-! the reference: shallow functions and the machine -/
abbrev y_X_takes : MI := (⟨"SinglesUpModel", "takes", "(III)V"⟩, prog_11_method_48_code, 4, none)
theorem ck_X_takes_0 : (y_X_takes.2.1.data.toList.drop 0).take 32 = [42, 180, 0, 44, 16, 40, 27, 104, 28, 96, 29, 79, 42, 180, 0, 50, 42, 180, 1, 35, 16, 40, 27, 104, 28, 96, 79, 42, 89, 180, 1, 35] := by decide +kernel
theorem d_X_takes_0 : decode y_X_takes.2.1 0 = .ok (.aload_n 0, 1) := op_aload_n0 (gk (k := 0) (t := 0) ck_X_takes_0 rfl)
theorem d_X_takes_1 : decode y_X_takes.2.1 1 = .ok (.getfield 44, 3) := op_getfield (gk (k := 0) (t := 1) ck_X_takes_0 rfl) (gk (k := 0) (t := 2) ck_X_takes_0 rfl) (gk (k := 0) (t := 3) ck_X_takes_0 rfl) rfl
theorem d_X_takes_4 : decode y_X_takes.2.1 4 = .ok (.bipush 40, 2) := op_bipush (gk (k := 0) (t := 4) ck_X_takes_0 rfl) (gk (k := 0) (t := 5) ck_X_takes_0 rfl) rfl
theorem d_X_takes_6 : decode y_X_takes.2.1 6 = .ok (.iload_n 1, 1) := op_iload_n1 (gk (k := 0) (t := 6) ck_X_takes_0 rfl)
theorem d_X_takes_7 : decode y_X_takes.2.1 7 = .ok (.imul, 1) := op_imul (gk (k := 0) (t := 7) ck_X_takes_0 rfl)
theorem d_X_takes_8 : decode y_X_takes.2.1 8 = .ok (.iload_n 2, 1) := op_iload_n2 (gk (k := 0) (t := 8) ck_X_takes_0 rfl)
theorem d_X_takes_9 : decode y_X_takes.2.1 9 = .ok (.iadd, 1) := op_iadd (gk (k := 0) (t := 9) ck_X_takes_0 rfl)
theorem d_X_takes_10 : decode y_X_takes.2.1 10 = .ok (.iload_n 3, 1) := op_iload_n3 (gk (k := 0) (t := 10) ck_X_takes_0 rfl)
theorem d_X_takes_11 : decode y_X_takes.2.1 11 = .ok (.iastore, 1) := op_iastore (gk (k := 0) (t := 11) ck_X_takes_0 rfl)
theorem d_X_takes_12 : decode y_X_takes.2.1 12 = .ok (.aload_n 0, 1) := op_aload_n0 (gk (k := 0) (t := 12) ck_X_takes_0 rfl)
theorem d_X_takes_13 : decode y_X_takes.2.1 13 = .ok (.getfield 50, 3) := op_getfield (gk (k := 0) (t := 13) ck_X_takes_0 rfl) (gk (k := 0) (t := 14) ck_X_takes_0 rfl) (gk (k := 0) (t := 15) ck_X_takes_0 rfl) rfl
theorem d_X_takes_16 : decode y_X_takes.2.1 16 = .ok (.aload_n 0, 1) := op_aload_n0 (gk (k := 0) (t := 16) ck_X_takes_0 rfl)
theorem d_X_takes_17 : decode y_X_takes.2.1 17 = .ok (.getfield 291, 3) := op_getfield (gk (k := 0) (t := 17) ck_X_takes_0 rfl) (gk (k := 0) (t := 18) ck_X_takes_0 rfl) (gk (k := 0) (t := 19) ck_X_takes_0 rfl) rfl
theorem d_X_takes_20 : decode y_X_takes.2.1 20 = .ok (.bipush 40, 2) := op_bipush (gk (k := 0) (t := 20) ck_X_takes_0 rfl) (gk (k := 0) (t := 21) ck_X_takes_0 rfl) rfl
theorem d_X_takes_22 : decode y_X_takes.2.1 22 = .ok (.iload_n 1, 1) := op_iload_n1 (gk (k := 0) (t := 22) ck_X_takes_0 rfl)
theorem d_X_takes_23 : decode y_X_takes.2.1 23 = .ok (.imul, 1) := op_imul (gk (k := 0) (t := 23) ck_X_takes_0 rfl)
theorem d_X_takes_24 : decode y_X_takes.2.1 24 = .ok (.iload_n 2, 1) := op_iload_n2 (gk (k := 0) (t := 24) ck_X_takes_0 rfl)
theorem d_X_takes_25 : decode y_X_takes.2.1 25 = .ok (.iadd, 1) := op_iadd (gk (k := 0) (t := 25) ck_X_takes_0 rfl)
theorem d_X_takes_26 : decode y_X_takes.2.1 26 = .ok (.iastore, 1) := op_iastore (gk (k := 0) (t := 26) ck_X_takes_0 rfl)
theorem d_X_takes_27 : decode y_X_takes.2.1 27 = .ok (.aload_n 0, 1) := op_aload_n0 (gk (k := 0) (t := 27) ck_X_takes_0 rfl)
theorem d_X_takes_28 : decode y_X_takes.2.1 28 = .ok (.dup, 1) := op_dup (gk (k := 0) (t := 28) ck_X_takes_0 rfl)
theorem d_X_takes_29 : decode y_X_takes.2.1 29 = .ok (.getfield 291, 3) := op_getfield (gk (k := 0) (t := 29) ck_X_takes_0 rfl) (gk (k := 0) (t := 30) ck_X_takes_0 rfl) (gk (k := 0) (t := 31) ck_X_takes_0 rfl) rfl
theorem ck_X_takes_1 : (y_X_takes.2.1.data.toList.drop 32).take 32 = [4, 96, 181, 1, 35, 42, 89, 180, 1, 33, 29, 100, 181, 1, 33, 42, 89, 180, 1, 40, 42, 27, 28, 6, 182, 1, 8, 5, 160, 0, 7, 4] := by decide +kernel
theorem d_X_takes_32 : decode y_X_takes.2.1 32 = .ok (.iconst 1, 1) := op_iconst1 (gk (k := 32) (t := 0) ck_X_takes_1 rfl)
theorem d_X_takes_33 : decode y_X_takes.2.1 33 = .ok (.iadd, 1) := op_iadd (gk (k := 32) (t := 1) ck_X_takes_1 rfl)
theorem d_X_takes_34 : decode y_X_takes.2.1 34 = .ok (.putfield 291, 3) := op_putfield (gk (k := 32) (t := 2) ck_X_takes_1 rfl) (gk (k := 32) (t := 3) ck_X_takes_1 rfl) (gk (k := 32) (t := 4) ck_X_takes_1 rfl) rfl
theorem d_X_takes_37 : decode y_X_takes.2.1 37 = .ok (.aload_n 0, 1) := op_aload_n0 (gk (k := 32) (t := 5) ck_X_takes_1 rfl)
theorem d_X_takes_38 : decode y_X_takes.2.1 38 = .ok (.dup, 1) := op_dup (gk (k := 32) (t := 6) ck_X_takes_1 rfl)
theorem d_X_takes_39 : decode y_X_takes.2.1 39 = .ok (.getfield 289, 3) := op_getfield (gk (k := 32) (t := 7) ck_X_takes_1 rfl) (gk (k := 32) (t := 8) ck_X_takes_1 rfl) (gk (k := 32) (t := 9) ck_X_takes_1 rfl) rfl
theorem d_X_takes_42 : decode y_X_takes.2.1 42 = .ok (.iload_n 3, 1) := op_iload_n3 (gk (k := 32) (t := 10) ck_X_takes_1 rfl)
theorem d_X_takes_43 : decode y_X_takes.2.1 43 = .ok (.isub, 1) := op_isub (gk (k := 32) (t := 11) ck_X_takes_1 rfl)
theorem d_X_takes_44 : decode y_X_takes.2.1 44 = .ok (.putfield 289, 3) := op_putfield (gk (k := 32) (t := 12) ck_X_takes_1 rfl) (gk (k := 32) (t := 13) ck_X_takes_1 rfl) (gk (k := 32) (t := 14) ck_X_takes_1 rfl) rfl
theorem d_X_takes_47 : decode y_X_takes.2.1 47 = .ok (.aload_n 0, 1) := op_aload_n0 (gk (k := 32) (t := 15) ck_X_takes_1 rfl)
theorem d_X_takes_48 : decode y_X_takes.2.1 48 = .ok (.dup, 1) := op_dup (gk (k := 32) (t := 16) ck_X_takes_1 rfl)
theorem d_X_takes_49 : decode y_X_takes.2.1 49 = .ok (.getfield 296, 3) := op_getfield (gk (k := 32) (t := 17) ck_X_takes_1 rfl) (gk (k := 32) (t := 18) ck_X_takes_1 rfl) (gk (k := 32) (t := 19) ck_X_takes_1 rfl) rfl
theorem d_X_takes_52 : decode y_X_takes.2.1 52 = .ok (.aload_n 0, 1) := op_aload_n0 (gk (k := 32) (t := 20) ck_X_takes_1 rfl)
theorem d_X_takes_53 : decode y_X_takes.2.1 53 = .ok (.iload_n 1, 1) := op_iload_n1 (gk (k := 32) (t := 21) ck_X_takes_1 rfl)
theorem d_X_takes_54 : decode y_X_takes.2.1 54 = .ok (.iload_n 2, 1) := op_iload_n2 (gk (k := 32) (t := 22) ck_X_takes_1 rfl)
theorem d_X_takes_55 : decode y_X_takes.2.1 55 = .ok (.iconst 3, 1) := op_iconst3 (gk (k := 32) (t := 23) ck_X_takes_1 rfl)
theorem d_X_takes_56 : decode y_X_takes.2.1 56 = .ok (.invokevirtual 264, 3) := op_invokevirtual (gk (k := 32) (t := 24) ck_X_takes_1 rfl) (gk (k := 32) (t := 25) ck_X_takes_1 rfl) (gk (k := 32) (t := 26) ck_X_takes_1 rfl) rfl
theorem d_X_takes_59 : decode y_X_takes.2.1 59 = .ok (.iconst 2, 1) := op_iconst2 (gk (k := 32) (t := 27) ck_X_takes_1 rfl)
theorem ck_X_takes_2 : (y_X_takes.2.1.data.toList.drop 64).take 32 = [167, 0, 4, 3, 96, 181, 1, 40, 42, 89, 180, 1, 43, 42, 27, 28, 6, 182, 1, 8, 4, 159, 0, 7, 4, 167, 0, 4, 3, 96, 181, 1] := by decide +kernel
theorem d_X_takes_68 : decode y_X_takes.2.1 68 = .ok (.iadd, 1) := op_iadd (gk (k := 64) (t := 4) ck_X_takes_2 rfl)
theorem d_X_takes_69 : decode y_X_takes.2.1 69 = .ok (.putfield 296, 3) := op_putfield (gk (k := 64) (t := 5) ck_X_takes_2 rfl) (gk (k := 64) (t := 6) ck_X_takes_2 rfl) (gk (k := 64) (t := 7) ck_X_takes_2 rfl) rfl
theorem d_X_takes_72 : decode y_X_takes.2.1 72 = .ok (.aload_n 0, 1) := op_aload_n0 (gk (k := 64) (t := 8) ck_X_takes_2 rfl)
theorem d_X_takes_73 : decode y_X_takes.2.1 73 = .ok (.dup, 1) := op_dup (gk (k := 64) (t := 9) ck_X_takes_2 rfl)
theorem d_X_takes_74 : decode y_X_takes.2.1 74 = .ok (.getfield 299, 3) := op_getfield (gk (k := 64) (t := 10) ck_X_takes_2 rfl) (gk (k := 64) (t := 11) ck_X_takes_2 rfl) (gk (k := 64) (t := 12) ck_X_takes_2 rfl) rfl
theorem d_X_takes_77 : decode y_X_takes.2.1 77 = .ok (.aload_n 0, 1) := op_aload_n0 (gk (k := 64) (t := 13) ck_X_takes_2 rfl)
theorem d_X_takes_78 : decode y_X_takes.2.1 78 = .ok (.iload_n 1, 1) := op_iload_n1 (gk (k := 64) (t := 14) ck_X_takes_2 rfl)
theorem d_X_takes_79 : decode y_X_takes.2.1 79 = .ok (.iload_n 2, 1) := op_iload_n2 (gk (k := 64) (t := 15) ck_X_takes_2 rfl)
theorem d_X_takes_80 : decode y_X_takes.2.1 80 = .ok (.iconst 3, 1) := op_iconst3 (gk (k := 64) (t := 16) ck_X_takes_2 rfl)
theorem d_X_takes_81 : decode y_X_takes.2.1 81 = .ok (.invokevirtual 264, 3) := op_invokevirtual (gk (k := 64) (t := 17) ck_X_takes_2 rfl) (gk (k := 64) (t := 18) ck_X_takes_2 rfl) (gk (k := 64) (t := 19) ck_X_takes_2 rfl) rfl
theorem d_X_takes_84 : decode y_X_takes.2.1 84 = .ok (.iconst 1, 1) := op_iconst1 (gk (k := 64) (t := 20) ck_X_takes_2 rfl)
theorem d_X_takes_93 : decode y_X_takes.2.1 93 = .ok (.iadd, 1) := op_iadd (gk (k := 64) (t := 29) ck_X_takes_2 rfl)
theorem ck_X_takes_3 : (y_X_takes.2.1.data.toList.drop 96).take 32 = [43, 177] := by decide +kernel
theorem d_X_takes_94 : decode y_X_takes.2.1 94 = .ok (.putfield 299, 3) := op_putfield (gk (k := 64) (t := 30) ck_X_takes_2 rfl) (gk (k := 64) (t := 31) ck_X_takes_2 rfl) (gk (k := 96) (t := 0) ck_X_takes_3 rfl) rfl
theorem d_X_takes_97 : decode y_X_takes.2.1 97 = .ok (.return_, 1) := op_return_ (gk (k := 96) (t := 1) ck_X_takes_3 rfl)
theorem d_X_takes_85 : decode y_X_takes.2.1 85 = .ok (.if_icmp .eq 7, 3) := op_icmp_eq (gk (k := 64) (t := 21) ck_X_takes_2 rfl) (gk (k := 64) (t := 22) ck_X_takes_2 rfl) (gk (k := 64) (t := 23) ck_X_takes_2 rfl) (by decide +kernel)
theorem d_X_takes_92 : decode y_X_takes.2.1 92 = .ok (.iconst 0, 1) := op_iconst0 (gk (k := 64) (t := 28) ck_X_takes_2 rfl)
theorem d_X_takes_88 : decode y_X_takes.2.1 88 = .ok (.iconst 1, 1) := op_iconst1 (gk (k := 64) (t := 24) ck_X_takes_2 rfl)
theorem d_X_takes_89 : decode y_X_takes.2.1 89 = .ok (.goto 4, 3) := op_goto (gk (k := 64) (t := 25) ck_X_takes_2 rfl) (gk (k := 64) (t := 26) ck_X_takes_2 rfl) (gk (k := 64) (t := 27) ck_X_takes_2 rfl) (by decide +kernel)
theorem d_X_takes_60 : decode y_X_takes.2.1 60 = .ok (.if_icmp .ne 7, 3) := op_icmp_ne (gk (k := 32) (t := 28) ck_X_takes_1 rfl) (gk (k := 32) (t := 29) ck_X_takes_1 rfl) (gk (k := 32) (t := 30) ck_X_takes_1 rfl) (by decide +kernel)
theorem d_X_takes_67 : decode y_X_takes.2.1 67 = .ok (.iconst 0, 1) := op_iconst0 (gk (k := 64) (t := 3) ck_X_takes_2 rfl)
theorem d_X_takes_63 : decode y_X_takes.2.1 63 = .ok (.iconst 1, 1) := op_iconst1 (gk (k := 32) (t := 31) ck_X_takes_1 rfl)
theorem d_X_takes_64 : decode y_X_takes.2.1 64 = .ok (.goto 4, 3) := op_goto (gk (k := 64) (t := 0) ck_X_takes_2 rfl) (gk (k := 64) (t := 1) ck_X_takes_2 rfl) (gk (k := 64) (t := 2) ck_X_takes_2 rfl) (by decide +kernel)
abbrev y_X_send : MI := (⟨"SinglesUpModel", "send", "()I"⟩, prog_11_method_65_code, 2, some .int)
theorem ck_X_send_0 : (y_X_send.2.1.data.toList.drop 0).take 32 = [42, 182, 1, 59, 3, 60, 27, 42, 180, 1, 88, 162, 0, 51, 42, 42, 180, 0, 63, 27, 46, 16, 40, 108, 42, 180, 0, 63, 27, 46, 16, 40] := by decide +kernel
theorem d_X_send_0 : decode y_X_send.2.1 0 = .ok (.aload_n 0, 1) := op_aload_n0 (gk (k := 0) (t := 0) ck_X_send_0 rfl)
theorem lk_X_315 : LkV "SinglesUpModel" 315 y_X_begins := ⟨tw_c6 209 (by decide +kernel) rfl, tw_in 66 (by decide +kernel) rfl, Or.inl (tw_c6 207 (by decide +kernel) rfl)⟩
set_option maxRecDepth 100000 in
theorem mo_X_begins : MOk y_X_begins 0 := ⟨by decide +kernel, tw_c6 210 rfl rfl, tw_c1 12 (by decide +kernel) rfl, by decide +kernel, by decide +kernel, by decide +kernel⟩
theorem d_X_send_1 : decode y_X_send.2.1 1 = .ok (.invokevirtual 315, 3) := op_invokevirtual (gk (k := 0) (t := 1) ck_X_send_0 rfl) (gk (k := 0) (t := 2) ck_X_send_0 rfl) (gk (k := 0) (t := 3) ck_X_send_0 rfl) rfl
theorem d_X_send_4 : decode y_X_send.2.1 4 = .ok (.iconst 0, 1) := op_iconst0 (gk (k := 0) (t := 4) ck_X_send_0 rfl)
theorem d_X_send_5 : decode y_X_send.2.1 5 = .ok (.istore_n 1, 1) := op_istore_n1 (gk (k := 0) (t := 5) ck_X_send_0 rfl)
theorem d_X_send_6 : decode y_X_send.2.1 6 = .ok (.iload_n 1, 1) := op_iload_n1 (gk (k := 0) (t := 6) ck_X_send_0 rfl)
theorem d_X_send_7 : decode y_X_send.2.1 7 = .ok (.aload_n 0, 1) := op_aload_n0 (gk (k := 0) (t := 7) ck_X_send_0 rfl)
theorem d_X_send_8 : decode y_X_send.2.1 8 = .ok (.getfield 344, 3) := op_getfield (gk (k := 0) (t := 8) ck_X_send_0 rfl) (gk (k := 0) (t := 9) ck_X_send_0 rfl) (gk (k := 0) (t := 10) ck_X_send_0 rfl) rfl
theorem d_X_send_11 : decode y_X_send.2.1 11 = .ok (.if_icmp .ge 51, 3) := op_icmp_ge (gk (k := 0) (t := 11) ck_X_send_0 rfl) (gk (k := 0) (t := 12) ck_X_send_0 rfl) (gk (k := 0) (t := 13) ck_X_send_0 rfl) (by decide +kernel)
theorem d_X_send_14 : decode y_X_send.2.1 14 = .ok (.aload_n 0, 1) := op_aload_n0 (gk (k := 0) (t := 14) ck_X_send_0 rfl)
theorem d_X_send_15 : decode y_X_send.2.1 15 = .ok (.aload_n 0, 1) := op_aload_n0 (gk (k := 0) (t := 15) ck_X_send_0 rfl)
theorem d_X_send_16 : decode y_X_send.2.1 16 = .ok (.getfield 63, 3) := op_getfield (gk (k := 0) (t := 16) ck_X_send_0 rfl) (gk (k := 0) (t := 17) ck_X_send_0 rfl) (gk (k := 0) (t := 18) ck_X_send_0 rfl) rfl
theorem d_X_send_19 : decode y_X_send.2.1 19 = .ok (.iload_n 1, 1) := op_iload_n1 (gk (k := 0) (t := 19) ck_X_send_0 rfl)
theorem d_X_send_20 : decode y_X_send.2.1 20 = .ok (.iaload, 1) := op_iaload (gk (k := 0) (t := 20) ck_X_send_0 rfl)
theorem d_X_send_21 : decode y_X_send.2.1 21 = .ok (.bipush 40, 2) := op_bipush (gk (k := 0) (t := 21) ck_X_send_0 rfl) (gk (k := 0) (t := 22) ck_X_send_0 rfl) rfl
theorem d_X_send_23 : decode y_X_send.2.1 23 = .ok (.idiv, 1) := op_idiv (gk (k := 0) (t := 23) ck_X_send_0 rfl)
theorem d_X_send_24 : decode y_X_send.2.1 24 = .ok (.aload_n 0, 1) := op_aload_n0 (gk (k := 0) (t := 24) ck_X_send_0 rfl)
theorem d_X_send_25 : decode y_X_send.2.1 25 = .ok (.getfield 63, 3) := op_getfield (gk (k := 0) (t := 25) ck_X_send_0 rfl) (gk (k := 0) (t := 26) ck_X_send_0 rfl) (gk (k := 0) (t := 27) ck_X_send_0 rfl) rfl
theorem d_X_send_28 : decode y_X_send.2.1 28 = .ok (.iload_n 1, 1) := op_iload_n1 (gk (k := 0) (t := 28) ck_X_send_0 rfl)
theorem d_X_send_29 : decode y_X_send.2.1 29 = .ok (.iaload, 1) := op_iaload (gk (k := 0) (t := 29) ck_X_send_0 rfl)
theorem d_X_send_30 : decode y_X_send.2.1 30 = .ok (.bipush 40, 2) := op_bipush (gk (k := 0) (t := 30) ck_X_send_0 rfl) (gk (k := 0) (t := 31) ck_X_send_0 rfl) rfl
theorem ck_X_send_1 : (y_X_send.2.1.data.toList.drop 32).take 32 = [112, 42, 180, 0, 7, 17, 0, 140, 16, 6, 42, 180, 0, 63, 27, 46, 104, 96, 4, 96, 46, 182, 1, 55, 132, 1, 1, 167, 255, 203, 42, 182] := by decide +kernel
theorem d_X_send_32 : decode y_X_send.2.1 32 = .ok (.irem, 1) := op_irem (gk (k := 32) (t := 0) ck_X_send_1 rfl)
theorem d_X_send_33 : decode y_X_send.2.1 33 = .ok (.aload_n 0, 1) := op_aload_n0 (gk (k := 32) (t := 1) ck_X_send_1 rfl)
theorem d_X_send_34 : decode y_X_send.2.1 34 = .ok (.getfield 7, 3) := op_getfield (gk (k := 32) (t := 2) ck_X_send_1 rfl) (gk (k := 32) (t := 3) ck_X_send_1 rfl) (gk (k := 32) (t := 4) ck_X_send_1 rfl) rfl
theorem d_X_send_37 : decode y_X_send.2.1 37 = .ok (.sipush 140, 3) := op_sipush (gk (k := 32) (t := 5) ck_X_send_1 rfl) (gk (k := 32) (t := 6) ck_X_send_1 rfl) (gk (k := 32) (t := 7) ck_X_send_1 rfl) (by decide +kernel)
theorem d_X_send_40 : decode y_X_send.2.1 40 = .ok (.bipush 6, 2) := op_bipush (gk (k := 32) (t := 8) ck_X_send_1 rfl) (gk (k := 32) (t := 9) ck_X_send_1 rfl) rfl
theorem d_X_send_42 : decode y_X_send.2.1 42 = .ok (.aload_n 0, 1) := op_aload_n0 (gk (k := 32) (t := 10) ck_X_send_1 rfl)
theorem d_X_send_43 : decode y_X_send.2.1 43 = .ok (.getfield 63, 3) := op_getfield (gk (k := 32) (t := 11) ck_X_send_1 rfl) (gk (k := 32) (t := 12) ck_X_send_1 rfl) (gk (k := 32) (t := 13) ck_X_send_1 rfl) rfl
theorem d_X_send_46 : decode y_X_send.2.1 46 = .ok (.iload_n 1, 1) := op_iload_n1 (gk (k := 32) (t := 14) ck_X_send_1 rfl)
theorem d_X_send_47 : decode y_X_send.2.1 47 = .ok (.iaload, 1) := op_iaload (gk (k := 32) (t := 15) ck_X_send_1 rfl)
theorem d_X_send_48 : decode y_X_send.2.1 48 = .ok (.imul, 1) := op_imul (gk (k := 32) (t := 16) ck_X_send_1 rfl)
theorem d_X_send_49 : decode y_X_send.2.1 49 = .ok (.iadd, 1) := op_iadd (gk (k := 32) (t := 17) ck_X_send_1 rfl)
theorem d_X_send_50 : decode y_X_send.2.1 50 = .ok (.iconst 1, 1) := op_iconst1 (gk (k := 32) (t := 18) ck_X_send_1 rfl)
theorem d_X_send_51 : decode y_X_send.2.1 51 = .ok (.iadd, 1) := op_iadd (gk (k := 32) (t := 19) ck_X_send_1 rfl)
theorem d_X_send_52 : decode y_X_send.2.1 52 = .ok (.iaload, 1) := op_iaload (gk (k := 32) (t := 20) ck_X_send_1 rfl)
theorem lk_X_311 : LkV "SinglesUpModel" 311 y_X_takes := ⟨tw_c6 225 (by decide +kernel) rfl, tw_in 70 (by decide +kernel) rfl, Or.inl (tw_c6 223 (by decide +kernel) rfl)⟩
set_option maxRecDepth 100000 in
theorem mo_X_takes : MOk y_X_takes 3 := ⟨by decide +kernel, tw_c6 226 rfl rfl, tw_c1 12 (by decide +kernel) rfl, by decide +kernel, by decide +kernel, by decide +kernel⟩
theorem d_X_send_53 : decode y_X_send.2.1 53 = .ok (.invokevirtual 311, 3) := op_invokevirtual (gk (k := 32) (t := 21) ck_X_send_1 rfl) (gk (k := 32) (t := 22) ck_X_send_1 rfl) (gk (k := 32) (t := 23) ck_X_send_1 rfl) rfl
theorem d_X_send_56 : decode y_X_send.2.1 56 = .ok (.iinc 1 1, 3) := op_iinc (gk (k := 32) (t := 24) ck_X_send_1 rfl) (gk (k := 32) (t := 25) ck_X_send_1 rfl) (gk (k := 32) (t := 26) ck_X_send_1 rfl) rfl rfl
theorem d_X_send_59 : decode y_X_send.2.1 59 = .ok (.goto (-53), 3) := op_goto (gk (k := 32) (t := 27) ck_X_send_1 rfl) (gk (k := 32) (t := 28) ck_X_send_1 rfl) (gk (k := 32) (t := 29) ck_X_send_1 rfl) (by decide +kernel)
theorem d_X_send_62 : decode y_X_send.2.1 62 = .ok (.aload_n 0, 1) := op_aload_n0 (gk (k := 32) (t := 30) ck_X_send_1 rfl)
theorem lk_X_335 : LkV "SinglesUpModel" 335 y_X_goesOff := ⟨tw_c6 237 (by decide +kernel) rfl, tw_in 73 (by decide +kernel) rfl, Or.inl (tw_c6 235 (by decide +kernel) rfl)⟩
set_option maxRecDepth 100000 in
theorem mo_X_goesOff : MOk y_X_goesOff 0 := ⟨by decide +kernel, tw_c6 238 rfl rfl, tw_c1 12 (by decide +kernel) rfl, by decide +kernel, by decide +kernel, by decide +kernel⟩
theorem ck_X_send_2 : (y_X_send.2.1.data.toList.drop 64).take 32 = [1, 79, 172] := by decide +kernel
theorem d_X_send_63 : decode y_X_send.2.1 63 = .ok (.invokevirtual 335, 3) := op_invokevirtual (gk (k := 32) (t := 31) ck_X_send_1 rfl) (gk (k := 64) (t := 0) ck_X_send_2 rfl) (gk (k := 64) (t := 1) ck_X_send_2 rfl) rfl
theorem d_X_send_66 : decode y_X_send.2.1 66 = .ok (.ireturn, 1) := op_ireturn (gk (k := 64) (t := 2) ck_X_send_2 rfl)
abbrev y_X_isOpen : MI := (⟨"SinglesUpModel", "isOpen", "(II)Z"⟩, prog_11_method_49_code, 3, some .boolean)
theorem ck_X_isOpen_0 : (y_X_isOpen.2.1.data.toList.drop 0).take 32 = [28, 42, 180, 0, 7, 16, 10, 27, 96, 46, 162, 0, 35, 42, 180, 0, 44, 16, 40, 27, 104, 28, 96, 46, 154, 0, 21, 42, 180, 0, 53, 16] := by decide +kernel
theorem d_X_isOpen_0 : decode y_X_isOpen.2.1 0 = .ok (.iload_n 2, 1) := op_iload_n2 (gk (k := 0) (t := 0) ck_X_isOpen_0 rfl)
theorem d_X_isOpen_1 : decode y_X_isOpen.2.1 1 = .ok (.aload_n 0, 1) := op_aload_n0 (gk (k := 0) (t := 1) ck_X_isOpen_0 rfl)
theorem d_X_isOpen_2 : decode y_X_isOpen.2.1 2 = .ok (.getfield 7, 3) := op_getfield (gk (k := 0) (t := 2) ck_X_isOpen_0 rfl) (gk (k := 0) (t := 3) ck_X_isOpen_0 rfl) (gk (k := 0) (t := 4) ck_X_isOpen_0 rfl) rfl
theorem d_X_isOpen_5 : decode y_X_isOpen.2.1 5 = .ok (.bipush 10, 2) := op_bipush (gk (k := 0) (t := 5) ck_X_isOpen_0 rfl) (gk (k := 0) (t := 6) ck_X_isOpen_0 rfl) rfl
theorem d_X_isOpen_7 : decode y_X_isOpen.2.1 7 = .ok (.iload_n 1, 1) := op_iload_n1 (gk (k := 0) (t := 7) ck_X_isOpen_0 rfl)
theorem d_X_isOpen_8 : decode y_X_isOpen.2.1 8 = .ok (.iadd, 1) := op_iadd (gk (k := 0) (t := 8) ck_X_isOpen_0 rfl)
theorem d_X_isOpen_9 : decode y_X_isOpen.2.1 9 = .ok (.iaload, 1) := op_iaload (gk (k := 0) (t := 9) ck_X_isOpen_0 rfl)
theorem d_X_isOpen_10 : decode y_X_isOpen.2.1 10 = .ok (.if_icmp .ge 35, 3) := op_icmp_ge (gk (k := 0) (t := 10) ck_X_isOpen_0 rfl) (gk (k := 0) (t := 11) ck_X_isOpen_0 rfl) (gk (k := 0) (t := 12) ck_X_isOpen_0 rfl) (by decide +kernel)
theorem ck_X_isOpen_1 : (y_X_isOpen.2.1.data.toList.drop 32).take 32 = [40, 27, 104, 28, 96, 51, 154, 0, 7, 4, 167, 0, 4, 3, 172] := by decide +kernel
theorem d_X_isOpen_45 : decode y_X_isOpen.2.1 45 = .ok (.iconst 0, 1) := op_iconst0 (gk (k := 32) (t := 13) ck_X_isOpen_1 rfl)
theorem d_X_isOpen_46 : decode y_X_isOpen.2.1 46 = .ok (.ireturn, 1) := op_ireturn (gk (k := 32) (t := 14) ck_X_isOpen_1 rfl)
theorem d_X_isOpen_13 : decode y_X_isOpen.2.1 13 = .ok (.aload_n 0, 1) := op_aload_n0 (gk (k := 0) (t := 13) ck_X_isOpen_0 rfl)
theorem d_X_isOpen_14 : decode y_X_isOpen.2.1 14 = .ok (.getfield 44, 3) := op_getfield (gk (k := 0) (t := 14) ck_X_isOpen_0 rfl) (gk (k := 0) (t := 15) ck_X_isOpen_0 rfl) (gk (k := 0) (t := 16) ck_X_isOpen_0 rfl) rfl
theorem d_X_isOpen_17 : decode y_X_isOpen.2.1 17 = .ok (.bipush 40, 2) := op_bipush (gk (k := 0) (t := 17) ck_X_isOpen_0 rfl) (gk (k := 0) (t := 18) ck_X_isOpen_0 rfl) rfl
theorem d_X_isOpen_19 : decode y_X_isOpen.2.1 19 = .ok (.iload_n 1, 1) := op_iload_n1 (gk (k := 0) (t := 19) ck_X_isOpen_0 rfl)
theorem d_X_isOpen_20 : decode y_X_isOpen.2.1 20 = .ok (.imul, 1) := op_imul (gk (k := 0) (t := 20) ck_X_isOpen_0 rfl)
theorem d_X_isOpen_21 : decode y_X_isOpen.2.1 21 = .ok (.iload_n 2, 1) := op_iload_n2 (gk (k := 0) (t := 21) ck_X_isOpen_0 rfl)
theorem d_X_isOpen_22 : decode y_X_isOpen.2.1 22 = .ok (.iadd, 1) := op_iadd (gk (k := 0) (t := 22) ck_X_isOpen_0 rfl)
theorem d_X_isOpen_23 : decode y_X_isOpen.2.1 23 = .ok (.iaload, 1) := op_iaload (gk (k := 0) (t := 23) ck_X_isOpen_0 rfl)
theorem d_X_isOpen_24 : decode y_X_isOpen.2.1 24 = .ok (.ifCond .ne 21, 3) := op_if_ne (gk (k := 0) (t := 24) ck_X_isOpen_0 rfl) (gk (k := 0) (t := 25) ck_X_isOpen_0 rfl) (gk (k := 0) (t := 26) ck_X_isOpen_0 rfl) (by decide +kernel)
theorem d_X_isOpen_27 : decode y_X_isOpen.2.1 27 = .ok (.aload_n 0, 1) := op_aload_n0 (gk (k := 0) (t := 27) ck_X_isOpen_0 rfl)
theorem d_X_isOpen_28 : decode y_X_isOpen.2.1 28 = .ok (.getfield 53, 3) := op_getfield (gk (k := 0) (t := 28) ck_X_isOpen_0 rfl) (gk (k := 0) (t := 29) ck_X_isOpen_0 rfl) (gk (k := 0) (t := 30) ck_X_isOpen_0 rfl) rfl
theorem d_X_isOpen_31 : decode y_X_isOpen.2.1 31 = .ok (.bipush 40, 2) := op_bipush (gk (k := 0) (t := 31) ck_X_isOpen_0 rfl) (gk (k := 32) (t := 0) ck_X_isOpen_1 rfl) rfl
theorem d_X_isOpen_33 : decode y_X_isOpen.2.1 33 = .ok (.iload_n 1, 1) := op_iload_n1 (gk (k := 32) (t := 1) ck_X_isOpen_1 rfl)
theorem d_X_isOpen_34 : decode y_X_isOpen.2.1 34 = .ok (.imul, 1) := op_imul (gk (k := 32) (t := 2) ck_X_isOpen_1 rfl)
theorem d_X_isOpen_35 : decode y_X_isOpen.2.1 35 = .ok (.iload_n 2, 1) := op_iload_n2 (gk (k := 32) (t := 3) ck_X_isOpen_1 rfl)
theorem d_X_isOpen_36 : decode y_X_isOpen.2.1 36 = .ok (.iadd, 1) := op_iadd (gk (k := 32) (t := 4) ck_X_isOpen_1 rfl)
theorem d_X_isOpen_37 : decode y_X_isOpen.2.1 37 = .ok (.baload, 1) := op_baload (gk (k := 32) (t := 5) ck_X_isOpen_1 rfl)
theorem d_X_isOpen_38 : decode y_X_isOpen.2.1 38 = .ok (.ifCond .ne 7, 3) := op_if_ne (gk (k := 32) (t := 6) ck_X_isOpen_1 rfl) (gk (k := 32) (t := 7) ck_X_isOpen_1 rfl) (gk (k := 32) (t := 8) ck_X_isOpen_1 rfl) (by decide +kernel)
theorem d_X_isOpen_41 : decode y_X_isOpen.2.1 41 = .ok (.iconst 1, 1) := op_iconst1 (gk (k := 32) (t := 9) ck_X_isOpen_1 rfl)
theorem d_X_isOpen_42 : decode y_X_isOpen.2.1 42 = .ok (.goto 4, 3) := op_goto (gk (k := 32) (t := 10) ck_X_isOpen_1 rfl) (gk (k := 32) (t := 11) ck_X_isOpen_1 rfl) (gk (k := 32) (t := 12) ck_X_isOpen_1 rfl) (by decide +kernel)
abbrev y_X_fits : MI := (⟨"SinglesUpModel", "fits", "(II)Z"⟩, prog_11_method_50_code, 4, some .boolean)
theorem ck_X_fits_0 : (y_X_fits.2.1.data.toList.drop 0).take 32 = [42, 27, 28, 182, 1, 46, 153, 0, 24, 42, 27, 28, 5, 182, 1, 8, 42, 180, 1, 33, 163, 0, 10, 42, 180, 1, 40, 158, 0, 5, 3, 172] := by decide +kernel
theorem d_X_fits_0 : decode y_X_fits.2.1 0 = .ok (.aload_n 0, 1) := op_aload_n0 (gk (k := 0) (t := 0) ck_X_fits_0 rfl)
theorem d_X_fits_1 : decode y_X_fits.2.1 1 = .ok (.iload_n 1, 1) := op_iload_n1 (gk (k := 0) (t := 1) ck_X_fits_0 rfl)
theorem d_X_fits_2 : decode y_X_fits.2.1 2 = .ok (.iload_n 2, 1) := op_iload_n2 (gk (k := 0) (t := 2) ck_X_fits_0 rfl)
theorem lk_X_302 : LkV "SinglesUpModel" 302 y_X_isOpen := ⟨tw_c6 221 (by decide +kernel) rfl, tw_in 69 (by decide +kernel) rfl, Or.inl (tw_c6 219 (by decide +kernel) rfl)⟩
set_option maxRecDepth 100000 in
theorem mo_X_isOpen : MOk y_X_isOpen 2 := ⟨by decide +kernel, tw_c6 222 rfl rfl, tw_c1 12 (by decide +kernel) rfl, by decide +kernel, by decide +kernel, by decide +kernel⟩
theorem d_X_fits_3 : decode y_X_fits.2.1 3 = .ok (.invokevirtual 302, 3) := op_invokevirtual (gk (k := 0) (t := 3) ck_X_fits_0 rfl) (gk (k := 0) (t := 4) ck_X_fits_0 rfl) (gk (k := 0) (t := 5) ck_X_fits_0 rfl) rfl
theorem d_X_fits_6 : decode y_X_fits.2.1 6 = .ok (.ifCond .eq 24, 3) := op_if_eq (gk (k := 0) (t := 6) ck_X_fits_0 rfl) (gk (k := 0) (t := 7) ck_X_fits_0 rfl) (gk (k := 0) (t := 8) ck_X_fits_0 rfl) (by decide +kernel)
theorem d_X_fits_30 : decode y_X_fits.2.1 30 = .ok (.iconst 0, 1) := op_iconst0 (gk (k := 0) (t := 30) ck_X_fits_0 rfl)
theorem d_X_fits_31 : decode y_X_fits.2.1 31 = .ok (.ireturn, 1) := op_ireturn (gk (k := 0) (t := 31) ck_X_fits_0 rfl)
theorem d_X_fits_9 : decode y_X_fits.2.1 9 = .ok (.aload_n 0, 1) := op_aload_n0 (gk (k := 0) (t := 9) ck_X_fits_0 rfl)
theorem d_X_fits_10 : decode y_X_fits.2.1 10 = .ok (.iload_n 1, 1) := op_iload_n1 (gk (k := 0) (t := 10) ck_X_fits_0 rfl)
theorem d_X_fits_11 : decode y_X_fits.2.1 11 = .ok (.iload_n 2, 1) := op_iload_n2 (gk (k := 0) (t := 11) ck_X_fits_0 rfl)
theorem d_X_fits_12 : decode y_X_fits.2.1 12 = .ok (.iconst 2, 1) := op_iconst2 (gk (k := 0) (t := 12) ck_X_fits_0 rfl)
theorem d_X_fits_13 : decode y_X_fits.2.1 13 = .ok (.invokevirtual 264, 3) := op_invokevirtual (gk (k := 0) (t := 13) ck_X_fits_0 rfl) (gk (k := 0) (t := 14) ck_X_fits_0 rfl) (gk (k := 0) (t := 15) ck_X_fits_0 rfl) rfl
theorem d_X_fits_16 : decode y_X_fits.2.1 16 = .ok (.aload_n 0, 1) := op_aload_n0 (gk (k := 0) (t := 16) ck_X_fits_0 rfl)
theorem d_X_fits_17 : decode y_X_fits.2.1 17 = .ok (.getfield 289, 3) := op_getfield (gk (k := 0) (t := 17) ck_X_fits_0 rfl) (gk (k := 0) (t := 18) ck_X_fits_0 rfl) (gk (k := 0) (t := 19) ck_X_fits_0 rfl) rfl
theorem d_X_fits_20 : decode y_X_fits.2.1 20 = .ok (.if_icmp .gt 10, 3) := op_icmp_gt (gk (k := 0) (t := 20) ck_X_fits_0 rfl) (gk (k := 0) (t := 21) ck_X_fits_0 rfl) (gk (k := 0) (t := 22) ck_X_fits_0 rfl) (by decide +kernel)
theorem d_X_fits_23 : decode y_X_fits.2.1 23 = .ok (.aload_n 0, 1) := op_aload_n0 (gk (k := 0) (t := 23) ck_X_fits_0 rfl)
theorem d_X_fits_24 : decode y_X_fits.2.1 24 = .ok (.getfield 296, 3) := op_getfield (gk (k := 0) (t := 24) ck_X_fits_0 rfl) (gk (k := 0) (t := 25) ck_X_fits_0 rfl) (gk (k := 0) (t := 26) ck_X_fits_0 rfl) rfl
theorem d_X_fits_27 : decode y_X_fits.2.1 27 = .ok (.ifCond .le 5, 3) := op_if_le (gk (k := 0) (t := 27) ck_X_fits_0 rfl) (gk (k := 0) (t := 28) ck_X_fits_0 rfl) (gk (k := 0) (t := 29) ck_X_fits_0 rfl) (by decide +kernel)
theorem ck_X_fits_1 : (y_X_fits.2.1.data.toList.drop 32).take 32 = [42, 27, 28, 6, 182, 1, 8, 62, 29, 4, 160, 0, 18, 42, 180, 1, 43, 158, 0, 7, 4, 167, 0, 24, 3, 167, 0, 20, 29, 5, 160, 0] := by decide +kernel
theorem d_X_fits_32 : decode y_X_fits.2.1 32 = .ok (.aload_n 0, 1) := op_aload_n0 (gk (k := 32) (t := 0) ck_X_fits_1 rfl)
theorem d_X_fits_33 : decode y_X_fits.2.1 33 = .ok (.iload_n 1, 1) := op_iload_n1 (gk (k := 32) (t := 1) ck_X_fits_1 rfl)
theorem d_X_fits_34 : decode y_X_fits.2.1 34 = .ok (.iload_n 2, 1) := op_iload_n2 (gk (k := 32) (t := 2) ck_X_fits_1 rfl)
theorem d_X_fits_35 : decode y_X_fits.2.1 35 = .ok (.iconst 3, 1) := op_iconst3 (gk (k := 32) (t := 3) ck_X_fits_1 rfl)
theorem d_X_fits_36 : decode y_X_fits.2.1 36 = .ok (.invokevirtual 264, 3) := op_invokevirtual (gk (k := 32) (t := 4) ck_X_fits_1 rfl) (gk (k := 32) (t := 5) ck_X_fits_1 rfl) (gk (k := 32) (t := 6) ck_X_fits_1 rfl) rfl
theorem d_X_fits_39 : decode y_X_fits.2.1 39 = .ok (.istore_n 3, 1) := op_istore_n3 (gk (k := 32) (t := 7) ck_X_fits_1 rfl)
theorem d_X_fits_40 : decode y_X_fits.2.1 40 = .ok (.iload_n 3, 1) := op_iload_n3 (gk (k := 32) (t := 8) ck_X_fits_1 rfl)
theorem d_X_fits_41 : decode y_X_fits.2.1 41 = .ok (.iconst 1, 1) := op_iconst1 (gk (k := 32) (t := 9) ck_X_fits_1 rfl)
theorem d_X_fits_42 : decode y_X_fits.2.1 42 = .ok (.if_icmp .ne 18, 3) := op_icmp_ne (gk (k := 32) (t := 10) ck_X_fits_1 rfl) (gk (k := 32) (t := 11) ck_X_fits_1 rfl) (gk (k := 32) (t := 12) ck_X_fits_1 rfl) (by decide +kernel)
theorem d_X_fits_60 : decode y_X_fits.2.1 60 = .ok (.iload_n 3, 1) := op_iload_n3 (gk (k := 32) (t := 28) ck_X_fits_1 rfl)
theorem d_X_fits_61 : decode y_X_fits.2.1 61 = .ok (.iconst 2, 1) := op_iconst2 (gk (k := 32) (t := 29) ck_X_fits_1 rfl)
theorem ck_X_fits_2 : (y_X_fits.2.1.data.toList.drop 64).take 32 = [10, 42, 180, 1, 35, 154, 0, 7, 4, 167, 0, 4, 3, 172] := by decide +kernel
theorem d_X_fits_62 : decode y_X_fits.2.1 62 = .ok (.if_icmp .ne 10, 3) := op_icmp_ne (gk (k := 32) (t := 30) ck_X_fits_1 rfl) (gk (k := 32) (t := 31) ck_X_fits_1 rfl) (gk (k := 64) (t := 0) ck_X_fits_2 rfl) (by decide +kernel)
theorem d_X_fits_72 : decode y_X_fits.2.1 72 = .ok (.iconst 1, 1) := op_iconst1 (gk (k := 64) (t := 8) ck_X_fits_2 rfl)
theorem d_X_fits_73 : decode y_X_fits.2.1 73 = .ok (.goto 4, 3) := op_goto (gk (k := 64) (t := 9) ck_X_fits_2 rfl) (gk (k := 64) (t := 10) ck_X_fits_2 rfl) (gk (k := 64) (t := 11) ck_X_fits_2 rfl) (by decide +kernel)
theorem d_X_fits_77 : decode y_X_fits.2.1 77 = .ok (.ireturn, 1) := op_ireturn (gk (k := 64) (t := 13) ck_X_fits_2 rfl)
theorem d_X_fits_65 : decode y_X_fits.2.1 65 = .ok (.aload_n 0, 1) := op_aload_n0 (gk (k := 64) (t := 1) ck_X_fits_2 rfl)
theorem d_X_fits_66 : decode y_X_fits.2.1 66 = .ok (.getfield 291, 3) := op_getfield (gk (k := 64) (t := 2) ck_X_fits_2 rfl) (gk (k := 64) (t := 3) ck_X_fits_2 rfl) (gk (k := 64) (t := 4) ck_X_fits_2 rfl) rfl
theorem d_X_fits_69 : decode y_X_fits.2.1 69 = .ok (.ifCond .ne 7, 3) := op_if_ne (gk (k := 64) (t := 5) ck_X_fits_2 rfl) (gk (k := 64) (t := 6) ck_X_fits_2 rfl) (gk (k := 64) (t := 7) ck_X_fits_2 rfl) (by decide +kernel)
theorem d_X_fits_76 : decode y_X_fits.2.1 76 = .ok (.iconst 0, 1) := op_iconst0 (gk (k := 64) (t := 12) ck_X_fits_2 rfl)
theorem d_X_fits_45 : decode y_X_fits.2.1 45 = .ok (.aload_n 0, 1) := op_aload_n0 (gk (k := 32) (t := 13) ck_X_fits_1 rfl)
theorem d_X_fits_46 : decode y_X_fits.2.1 46 = .ok (.getfield 299, 3) := op_getfield (gk (k := 32) (t := 14) ck_X_fits_1 rfl) (gk (k := 32) (t := 15) ck_X_fits_1 rfl) (gk (k := 32) (t := 16) ck_X_fits_1 rfl) rfl
theorem d_X_fits_49 : decode y_X_fits.2.1 49 = .ok (.ifCond .le 7, 3) := op_if_le (gk (k := 32) (t := 17) ck_X_fits_1 rfl) (gk (k := 32) (t := 18) ck_X_fits_1 rfl) (gk (k := 32) (t := 19) ck_X_fits_1 rfl) (by decide +kernel)
theorem d_X_fits_56 : decode y_X_fits.2.1 56 = .ok (.iconst 0, 1) := op_iconst0 (gk (k := 32) (t := 24) ck_X_fits_1 rfl)
theorem d_X_fits_57 : decode y_X_fits.2.1 57 = .ok (.goto 20, 3) := op_goto (gk (k := 32) (t := 25) ck_X_fits_1 rfl) (gk (k := 32) (t := 26) ck_X_fits_1 rfl) (gk (k := 32) (t := 27) ck_X_fits_1 rfl) (by decide +kernel)
theorem d_X_fits_52 : decode y_X_fits.2.1 52 = .ok (.iconst 1, 1) := op_iconst1 (gk (k := 32) (t := 20) ck_X_fits_1 rfl)
theorem d_X_fits_53 : decode y_X_fits.2.1 53 = .ok (.goto 24, 3) := op_goto (gk (k := 32) (t := 21) ck_X_fits_1 rfl) (gk (k := 32) (t := 22) ck_X_fits_1 rfl) (gk (k := 32) (t := 23) ck_X_fits_1 rfl) (by decide +kernel)
abbrev y_X_finds : MI := (⟨"SinglesUpModel", "finds", "(Z)I"⟩, prog_11_method_51_code, 7, some .int)
theorem ck_X_finds_0 : (y_X_finds.2.1.data.toList.drop 0).take 32 = [2, 61, 3, 62, 3, 54, 4, 21, 4, 16, 6, 162, 0, 135, 3, 54, 5, 21, 5, 42, 180, 0, 7, 17, 0, 130, 21, 4, 96, 46, 162, 0] := by decide +kernel
theorem d_X_finds_0 : decode y_X_finds.2.1 0 = .ok (.iconst (-1), 1) := op_iconstm1 (gk (k := 0) (t := 0) ck_X_finds_0 rfl)
theorem d_X_finds_1 : decode y_X_finds.2.1 1 = .ok (.istore_n 2, 1) := op_istore_n2 (gk (k := 0) (t := 1) ck_X_finds_0 rfl)
theorem d_X_finds_2 : decode y_X_finds.2.1 2 = .ok (.iconst 0, 1) := op_iconst0 (gk (k := 0) (t := 2) ck_X_finds_0 rfl)
theorem d_X_finds_3 : decode y_X_finds.2.1 3 = .ok (.istore_n 3, 1) := op_istore_n3 (gk (k := 0) (t := 3) ck_X_finds_0 rfl)
theorem d_X_finds_4 : decode y_X_finds.2.1 4 = .ok (.iconst 0, 1) := op_iconst0 (gk (k := 0) (t := 4) ck_X_finds_0 rfl)
theorem d_X_finds_5 : decode y_X_finds.2.1 5 = .ok (.istore 4, 2) := op_istore (gk (k := 0) (t := 5) ck_X_finds_0 rfl) (gk (k := 0) (t := 6) ck_X_finds_0 rfl) rfl
theorem d_X_finds_7 : decode y_X_finds.2.1 7 = .ok (.iload 4, 2) := op_iload (gk (k := 0) (t := 7) ck_X_finds_0 rfl) (gk (k := 0) (t := 8) ck_X_finds_0 rfl) rfl
theorem d_X_finds_9 : decode y_X_finds.2.1 9 = .ok (.bipush 6, 2) := op_bipush (gk (k := 0) (t := 9) ck_X_finds_0 rfl) (gk (k := 0) (t := 10) ck_X_finds_0 rfl) rfl
theorem d_X_finds_11 : decode y_X_finds.2.1 11 = .ok (.if_icmp .ge 135, 3) := op_icmp_ge (gk (k := 0) (t := 11) ck_X_finds_0 rfl) (gk (k := 0) (t := 12) ck_X_finds_0 rfl) (gk (k := 0) (t := 13) ck_X_finds_0 rfl) (by decide +kernel)
theorem ck_X_finds_4 : (y_X_finds.2.1.data.toList.drop 128).take 32 = [5, 96, 61, 21, 6, 62, 132, 5, 1, 167, 255, 136, 132, 4, 1, 167, 255, 120, 28, 172] := by decide +kernel
theorem d_X_finds_146 : decode y_X_finds.2.1 146 = .ok (.iload_n 2, 1) := op_iload_n2 (gk (k := 128) (t := 18) ck_X_finds_4 rfl)
theorem d_X_finds_147 : decode y_X_finds.2.1 147 = .ok (.ireturn, 1) := op_ireturn (gk (k := 128) (t := 19) ck_X_finds_4 rfl)
theorem d_X_finds_14 : decode y_X_finds.2.1 14 = .ok (.iconst 0, 1) := op_iconst0 (gk (k := 0) (t := 14) ck_X_finds_0 rfl)
theorem d_X_finds_15 : decode y_X_finds.2.1 15 = .ok (.istore 5, 2) := op_istore (gk (k := 0) (t := 15) ck_X_finds_0 rfl) (gk (k := 0) (t := 16) ck_X_finds_0 rfl) rfl
theorem d_X_finds_17 : decode y_X_finds.2.1 17 = .ok (.iload 5, 2) := op_iload (gk (k := 0) (t := 17) ck_X_finds_0 rfl) (gk (k := 0) (t := 18) ck_X_finds_0 rfl) rfl
theorem d_X_finds_19 : decode y_X_finds.2.1 19 = .ok (.aload_n 0, 1) := op_aload_n0 (gk (k := 0) (t := 19) ck_X_finds_0 rfl)
theorem d_X_finds_20 : decode y_X_finds.2.1 20 = .ok (.getfield 7, 3) := op_getfield (gk (k := 0) (t := 20) ck_X_finds_0 rfl) (gk (k := 0) (t := 21) ck_X_finds_0 rfl) (gk (k := 0) (t := 22) ck_X_finds_0 rfl) rfl
theorem d_X_finds_23 : decode y_X_finds.2.1 23 = .ok (.sipush 130, 3) := op_sipush (gk (k := 0) (t := 23) ck_X_finds_0 rfl) (gk (k := 0) (t := 24) ck_X_finds_0 rfl) (gk (k := 0) (t := 25) ck_X_finds_0 rfl) (by decide +kernel)
theorem d_X_finds_26 : decode y_X_finds.2.1 26 = .ok (.iload 4, 2) := op_iload (gk (k := 0) (t := 26) ck_X_finds_0 rfl) (gk (k := 0) (t := 27) ck_X_finds_0 rfl) rfl
theorem d_X_finds_28 : decode y_X_finds.2.1 28 = .ok (.iadd, 1) := op_iadd (gk (k := 0) (t := 28) ck_X_finds_0 rfl)
theorem d_X_finds_29 : decode y_X_finds.2.1 29 = .ok (.iaload, 1) := op_iaload (gk (k := 0) (t := 29) ck_X_finds_0 rfl)
theorem ck_X_finds_1 : (y_X_finds.2.1.data.toList.drop 32).take 32 = [110, 42, 21, 4, 21, 5, 182, 1, 49, 154, 0, 6, 167, 0, 90, 27, 153, 0, 15, 42, 21, 4, 21, 5, 8, 182, 1, 8, 167, 0, 19, 42] := by decide +kernel
theorem d_X_finds_30 : decode y_X_finds.2.1 30 = .ok (.if_icmp .ge 110, 3) := op_icmp_ge (gk (k := 0) (t := 30) ck_X_finds_0 rfl) (gk (k := 0) (t := 31) ck_X_finds_0 rfl) (gk (k := 32) (t := 0) ck_X_finds_1 rfl) (by decide +kernel)
theorem d_X_finds_33 : decode y_X_finds.2.1 33 = .ok (.aload_n 0, 1) := op_aload_n0 (gk (k := 32) (t := 1) ck_X_finds_1 rfl)
theorem d_X_finds_34 : decode y_X_finds.2.1 34 = .ok (.iload 4, 2) := op_iload (gk (k := 32) (t := 2) ck_X_finds_1 rfl) (gk (k := 32) (t := 3) ck_X_finds_1 rfl) rfl
theorem d_X_finds_36 : decode y_X_finds.2.1 36 = .ok (.iload 5, 2) := op_iload (gk (k := 32) (t := 4) ck_X_finds_1 rfl) (gk (k := 32) (t := 5) ck_X_finds_1 rfl) rfl
theorem lk_X_305 : LkV "SinglesUpModel" 305 y_X_fits := ⟨tw_c6 217 (by decide +kernel) rfl, tw_in 68 (by decide +kernel) rfl, Or.inl (tw_c6 215 (by decide +kernel) rfl)⟩
set_option maxRecDepth 100000 in
theorem mo_X_fits : MOk y_X_fits 2 := ⟨by decide +kernel, tw_c6 218 rfl rfl, tw_c1 12 (by decide +kernel) rfl, by decide +kernel, by decide +kernel, by decide +kernel⟩
theorem d_X_finds_38 : decode y_X_finds.2.1 38 = .ok (.invokevirtual 305, 3) := op_invokevirtual (gk (k := 32) (t := 6) ck_X_finds_1 rfl) (gk (k := 32) (t := 7) ck_X_finds_1 rfl) (gk (k := 32) (t := 8) ck_X_finds_1 rfl) rfl
theorem d_X_finds_134 : decode y_X_finds.2.1 134 = .ok (.iinc 5 1, 3) := op_iinc (gk (k := 128) (t := 6) ck_X_finds_4 rfl) (gk (k := 128) (t := 7) ck_X_finds_4 rfl) (gk (k := 128) (t := 8) ck_X_finds_4 rfl) rfl rfl
theorem d_X_finds_137 : decode y_X_finds.2.1 137 = .ok (.goto (-120), 3) := op_goto (gk (k := 128) (t := 9) ck_X_finds_4 rfl) (gk (k := 128) (t := 10) ck_X_finds_4 rfl) (gk (k := 128) (t := 11) ck_X_finds_4 rfl) (by decide +kernel)
theorem d_X_finds_41 : decode y_X_finds.2.1 41 = .ok (.ifCond .ne 6, 3) := op_if_ne (gk (k := 32) (t := 9) ck_X_finds_1 rfl) (gk (k := 32) (t := 10) ck_X_finds_1 rfl) (gk (k := 32) (t := 11) ck_X_finds_1 rfl) (by decide +kernel)
theorem d_X_finds_47 : decode y_X_finds.2.1 47 = .ok (.iload_n 1, 1) := op_iload_n1 (gk (k := 32) (t := 15) ck_X_finds_1 rfl)
theorem ck_X_finds_2 : (y_X_finds.2.1.data.toList.drop 64).take 32 = [21, 4, 21, 5, 42, 180, 1, 33, 42, 180, 1, 35, 182, 1, 29, 54, 6, 27, 153, 0, 17, 21, 6, 42, 180, 0, 7, 8, 46, 162, 0, 15] := by decide +kernel
theorem d_X_finds_79 : decode y_X_finds.2.1 79 = .ok (.istore 6, 2) := op_istore (gk (k := 64) (t := 15) ck_X_finds_2 rfl) (gk (k := 64) (t := 16) ck_X_finds_2 rfl) rfl
theorem d_X_finds_81 : decode y_X_finds.2.1 81 = .ok (.iload_n 1, 1) := op_iload_n1 (gk (k := 64) (t := 17) ck_X_finds_2 rfl)
theorem ck_X_finds_3 : (y_X_finds.2.1.data.toList.drop 96).take 32 = [167, 0, 38, 21, 6, 4, 162, 0, 6, 167, 0, 29, 28, 2, 159, 0, 12, 21, 6, 29, 163, 0, 6, 167, 0, 15, 16, 40, 21, 4, 104, 21] := by decide +kernel
theorem d_X_finds_108 : decode y_X_finds.2.1 108 = .ok (.iload_n 2, 1) := op_iload_n2 (gk (k := 96) (t := 12) ck_X_finds_3 rfl)
theorem d_X_finds_109 : decode y_X_finds.2.1 109 = .ok (.iconst (-1), 1) := op_iconstm1 (gk (k := 96) (t := 13) ck_X_finds_3 rfl)
theorem d_X_finds_122 : decode y_X_finds.2.1 122 = .ok (.bipush 40, 2) := op_bipush (gk (k := 96) (t := 26) ck_X_finds_3 rfl) (gk (k := 96) (t := 27) ck_X_finds_3 rfl) rfl
theorem d_X_finds_124 : decode y_X_finds.2.1 124 = .ok (.iload 4, 2) := op_iload (gk (k := 96) (t := 28) ck_X_finds_3 rfl) (gk (k := 96) (t := 29) ck_X_finds_3 rfl) rfl
theorem d_X_finds_126 : decode y_X_finds.2.1 126 = .ok (.imul, 1) := op_imul (gk (k := 96) (t := 30) ck_X_finds_3 rfl)
theorem d_X_finds_127 : decode y_X_finds.2.1 127 = .ok (.iload 5, 2) := op_iload (gk (k := 96) (t := 31) ck_X_finds_3 rfl) (gk (k := 128) (t := 0) ck_X_finds_4 rfl) rfl
theorem d_X_finds_129 : decode y_X_finds.2.1 129 = .ok (.iadd, 1) := op_iadd (gk (k := 128) (t := 1) ck_X_finds_4 rfl)
theorem d_X_finds_130 : decode y_X_finds.2.1 130 = .ok (.istore_n 2, 1) := op_istore_n2 (gk (k := 128) (t := 2) ck_X_finds_4 rfl)
theorem d_X_finds_131 : decode y_X_finds.2.1 131 = .ok (.iload 6, 2) := op_iload (gk (k := 128) (t := 3) ck_X_finds_4 rfl) (gk (k := 128) (t := 4) ck_X_finds_4 rfl) rfl
theorem d_X_finds_133 : decode y_X_finds.2.1 133 = .ok (.istore_n 3, 1) := op_istore_n3 (gk (k := 128) (t := 5) ck_X_finds_4 rfl)
theorem d_X_finds_110 : decode y_X_finds.2.1 110 = .ok (.if_icmp .eq 12, 3) := op_icmp_eq (gk (k := 96) (t := 14) ck_X_finds_3 rfl) (gk (k := 96) (t := 15) ck_X_finds_3 rfl) (gk (k := 96) (t := 16) ck_X_finds_3 rfl) (by decide +kernel)
theorem d_X_finds_113 : decode y_X_finds.2.1 113 = .ok (.iload 6, 2) := op_iload (gk (k := 96) (t := 17) ck_X_finds_3 rfl) (gk (k := 96) (t := 18) ck_X_finds_3 rfl) rfl
theorem d_X_finds_115 : decode y_X_finds.2.1 115 = .ok (.iload_n 3, 1) := op_iload_n3 (gk (k := 96) (t := 19) ck_X_finds_3 rfl)
theorem d_X_finds_116 : decode y_X_finds.2.1 116 = .ok (.if_icmp .gt 6, 3) := op_icmp_gt (gk (k := 96) (t := 20) ck_X_finds_3 rfl) (gk (k := 96) (t := 21) ck_X_finds_3 rfl) (gk (k := 96) (t := 22) ck_X_finds_3 rfl) (by decide +kernel)
theorem d_X_finds_119 : decode y_X_finds.2.1 119 = .ok (.goto 15, 3) := op_goto (gk (k := 96) (t := 23) ck_X_finds_3 rfl) (gk (k := 96) (t := 24) ck_X_finds_3 rfl) (gk (k := 96) (t := 25) ck_X_finds_3 rfl) (by decide +kernel)
theorem d_X_finds_82 : decode y_X_finds.2.1 82 = .ok (.ifCond .eq 17, 3) := op_if_eq (gk (k := 64) (t := 18) ck_X_finds_2 rfl) (gk (k := 64) (t := 19) ck_X_finds_2 rfl) (gk (k := 64) (t := 20) ck_X_finds_2 rfl) (by decide +kernel)
theorem d_X_finds_99 : decode y_X_finds.2.1 99 = .ok (.iload 6, 2) := op_iload (gk (k := 96) (t := 3) ck_X_finds_3 rfl) (gk (k := 96) (t := 4) ck_X_finds_3 rfl) rfl
theorem d_X_finds_101 : decode y_X_finds.2.1 101 = .ok (.iconst 1, 1) := op_iconst1 (gk (k := 96) (t := 5) ck_X_finds_3 rfl)
theorem d_X_finds_102 : decode y_X_finds.2.1 102 = .ok (.if_icmp .ge 6, 3) := op_icmp_ge (gk (k := 96) (t := 6) ck_X_finds_3 rfl) (gk (k := 96) (t := 7) ck_X_finds_3 rfl) (gk (k := 96) (t := 8) ck_X_finds_3 rfl) (by decide +kernel)
theorem d_X_finds_105 : decode y_X_finds.2.1 105 = .ok (.goto 29, 3) := op_goto (gk (k := 96) (t := 9) ck_X_finds_3 rfl) (gk (k := 96) (t := 10) ck_X_finds_3 rfl) (gk (k := 96) (t := 11) ck_X_finds_3 rfl) (by decide +kernel)
theorem d_X_finds_85 : decode y_X_finds.2.1 85 = .ok (.iload 6, 2) := op_iload (gk (k := 64) (t := 21) ck_X_finds_2 rfl) (gk (k := 64) (t := 22) ck_X_finds_2 rfl) rfl
theorem d_X_finds_87 : decode y_X_finds.2.1 87 = .ok (.aload_n 0, 1) := op_aload_n0 (gk (k := 64) (t := 23) ck_X_finds_2 rfl)
theorem d_X_finds_88 : decode y_X_finds.2.1 88 = .ok (.getfield 7, 3) := op_getfield (gk (k := 64) (t := 24) ck_X_finds_2 rfl) (gk (k := 64) (t := 25) ck_X_finds_2 rfl) (gk (k := 64) (t := 26) ck_X_finds_2 rfl) rfl
theorem d_X_finds_91 : decode y_X_finds.2.1 91 = .ok (.iconst 5, 1) := op_iconst5 (gk (k := 64) (t := 27) ck_X_finds_2 rfl)
theorem d_X_finds_92 : decode y_X_finds.2.1 92 = .ok (.iaload, 1) := op_iaload (gk (k := 64) (t := 28) ck_X_finds_2 rfl)
theorem d_X_finds_93 : decode y_X_finds.2.1 93 = .ok (.if_icmp .ge 15, 3) := op_icmp_ge (gk (k := 64) (t := 29) ck_X_finds_2 rfl) (gk (k := 64) (t := 30) ck_X_finds_2 rfl) (gk (k := 64) (t := 31) ck_X_finds_2 rfl) (by decide +kernel)
theorem d_X_finds_96 : decode y_X_finds.2.1 96 = .ok (.goto 38, 3) := op_goto (gk (k := 96) (t := 0) ck_X_finds_3 rfl) (gk (k := 96) (t := 1) ck_X_finds_3 rfl) (gk (k := 96) (t := 2) ck_X_finds_3 rfl) (by decide +kernel)
theorem d_X_finds_48 : decode y_X_finds.2.1 48 = .ok (.ifCond .eq 15, 3) := op_if_eq (gk (k := 32) (t := 16) ck_X_finds_1 rfl) (gk (k := 32) (t := 17) ck_X_finds_1 rfl) (gk (k := 32) (t := 18) ck_X_finds_1 rfl) (by decide +kernel)
theorem d_X_finds_63 : decode y_X_finds.2.1 63 = .ok (.aload_n 0, 1) := op_aload_n0 (gk (k := 32) (t := 31) ck_X_finds_1 rfl)
theorem d_X_finds_64 : decode y_X_finds.2.1 64 = .ok (.iload 4, 2) := op_iload (gk (k := 64) (t := 0) ck_X_finds_2 rfl) (gk (k := 64) (t := 1) ck_X_finds_2 rfl) rfl
theorem d_X_finds_66 : decode y_X_finds.2.1 66 = .ok (.iload 5, 2) := op_iload (gk (k := 64) (t := 2) ck_X_finds_2 rfl) (gk (k := 64) (t := 3) ck_X_finds_2 rfl) rfl
theorem d_X_finds_68 : decode y_X_finds.2.1 68 = .ok (.aload_n 0, 1) := op_aload_n0 (gk (k := 64) (t := 4) ck_X_finds_2 rfl)
theorem d_X_finds_69 : decode y_X_finds.2.1 69 = .ok (.getfield 289, 3) := op_getfield (gk (k := 64) (t := 5) ck_X_finds_2 rfl) (gk (k := 64) (t := 6) ck_X_finds_2 rfl) (gk (k := 64) (t := 7) ck_X_finds_2 rfl) rfl
theorem d_X_finds_72 : decode y_X_finds.2.1 72 = .ok (.aload_n 0, 1) := op_aload_n0 (gk (k := 64) (t := 8) ck_X_finds_2 rfl)
theorem d_X_finds_73 : decode y_X_finds.2.1 73 = .ok (.getfield 291, 3) := op_getfield (gk (k := 64) (t := 9) ck_X_finds_2 rfl) (gk (k := 64) (t := 10) ck_X_finds_2 rfl) (gk (k := 64) (t := 11) ck_X_finds_2 rfl) rfl
theorem d_X_finds_76 : decode y_X_finds.2.1 76 = .ok (.invokevirtual 285, 3) := op_invokevirtual (gk (k := 64) (t := 12) ck_X_finds_2 rfl) (gk (k := 64) (t := 13) ck_X_finds_2 rfl) (gk (k := 64) (t := 14) ck_X_finds_2 rfl) rfl
theorem d_X_finds_51 : decode y_X_finds.2.1 51 = .ok (.aload_n 0, 1) := op_aload_n0 (gk (k := 32) (t := 19) ck_X_finds_1 rfl)
theorem d_X_finds_52 : decode y_X_finds.2.1 52 = .ok (.iload 4, 2) := op_iload (gk (k := 32) (t := 20) ck_X_finds_1 rfl) (gk (k := 32) (t := 21) ck_X_finds_1 rfl) rfl
theorem d_X_finds_54 : decode y_X_finds.2.1 54 = .ok (.iload 5, 2) := op_iload (gk (k := 32) (t := 22) ck_X_finds_1 rfl) (gk (k := 32) (t := 23) ck_X_finds_1 rfl) rfl
theorem d_X_finds_56 : decode y_X_finds.2.1 56 = .ok (.iconst 5, 1) := op_iconst5 (gk (k := 32) (t := 24) ck_X_finds_1 rfl)
theorem d_X_finds_57 : decode y_X_finds.2.1 57 = .ok (.invokevirtual 264, 3) := op_invokevirtual (gk (k := 32) (t := 25) ck_X_finds_1 rfl) (gk (k := 32) (t := 26) ck_X_finds_1 rfl) (gk (k := 32) (t := 27) ck_X_finds_1 rfl) rfl
theorem d_X_finds_60 : decode y_X_finds.2.1 60 = .ok (.goto 19, 3) := op_goto (gk (k := 32) (t := 28) ck_X_finds_1 rfl) (gk (k := 32) (t := 29) ck_X_finds_1 rfl) (gk (k := 32) (t := 30) ck_X_finds_1 rfl) (by decide +kernel)
theorem d_X_finds_44 : decode y_X_finds.2.1 44 = .ok (.goto 90, 3) := op_goto (gk (k := 32) (t := 12) ck_X_finds_1 rfl) (gk (k := 32) (t := 13) ck_X_finds_1 rfl) (gk (k := 32) (t := 14) ck_X_finds_1 rfl) (by decide +kernel)
theorem d_X_finds_140 : decode y_X_finds.2.1 140 = .ok (.iinc 4 1, 3) := op_iinc (gk (k := 128) (t := 12) ck_X_finds_4 rfl) (gk (k := 128) (t := 13) ck_X_finds_4 rfl) (gk (k := 128) (t := 14) ck_X_finds_4 rfl) rfl rfl
theorem d_X_finds_143 : decode y_X_finds.2.1 143 = .ok (.goto (-136), 3) := op_goto (gk (k := 128) (t := 15) ck_X_finds_4 rfl) (gk (k := 128) (t := 16) ck_X_finds_4 rfl) (gk (k := 128) (t := 17) ck_X_finds_4 rfl) (by decide +kernel)
abbrev y_X_partOf : MI := (⟨"SinglesUpModel", "partOf", "(I)I"⟩, prog_11_method_52_code, 5, some .int)
theorem ck_X_partOf_0 : (y_X_partOf.2.1.data.toList.drop 0).take 32 = [42, 180, 0, 7, 16, 16, 27, 96, 46, 61, 27, 28, 100, 62, 28, 154, 0, 5, 3, 172, 28, 42, 180, 1, 33, 163, 0, 7, 28, 167, 0, 4] := by decide +kernel
theorem d_X_partOf_0 : decode y_X_partOf.2.1 0 = .ok (.aload_n 0, 1) := op_aload_n0 (gk (k := 0) (t := 0) ck_X_partOf_0 rfl)
theorem d_X_partOf_1 : decode y_X_partOf.2.1 1 = .ok (.getfield 7, 3) := op_getfield (gk (k := 0) (t := 1) ck_X_partOf_0 rfl) (gk (k := 0) (t := 2) ck_X_partOf_0 rfl) (gk (k := 0) (t := 3) ck_X_partOf_0 rfl) rfl
theorem d_X_partOf_4 : decode y_X_partOf.2.1 4 = .ok (.bipush 16, 2) := op_bipush (gk (k := 0) (t := 4) ck_X_partOf_0 rfl) (gk (k := 0) (t := 5) ck_X_partOf_0 rfl) rfl
theorem d_X_partOf_6 : decode y_X_partOf.2.1 6 = .ok (.iload_n 1, 1) := op_iload_n1 (gk (k := 0) (t := 6) ck_X_partOf_0 rfl)
theorem d_X_partOf_7 : decode y_X_partOf.2.1 7 = .ok (.iadd, 1) := op_iadd (gk (k := 0) (t := 7) ck_X_partOf_0 rfl)
theorem d_X_partOf_8 : decode y_X_partOf.2.1 8 = .ok (.iaload, 1) := op_iaload (gk (k := 0) (t := 8) ck_X_partOf_0 rfl)
theorem d_X_partOf_9 : decode y_X_partOf.2.1 9 = .ok (.istore_n 2, 1) := op_istore_n2 (gk (k := 0) (t := 9) ck_X_partOf_0 rfl)
theorem d_X_partOf_10 : decode y_X_partOf.2.1 10 = .ok (.iload_n 1, 1) := op_iload_n1 (gk (k := 0) (t := 10) ck_X_partOf_0 rfl)
theorem d_X_partOf_11 : decode y_X_partOf.2.1 11 = .ok (.iload_n 2, 1) := op_iload_n2 (gk (k := 0) (t := 11) ck_X_partOf_0 rfl)
theorem d_X_partOf_12 : decode y_X_partOf.2.1 12 = .ok (.isub, 1) := op_isub (gk (k := 0) (t := 12) ck_X_partOf_0 rfl)
theorem d_X_partOf_13 : decode y_X_partOf.2.1 13 = .ok (.istore_n 3, 1) := op_istore_n3 (gk (k := 0) (t := 13) ck_X_partOf_0 rfl)
theorem d_X_partOf_14 : decode y_X_partOf.2.1 14 = .ok (.iload_n 2, 1) := op_iload_n2 (gk (k := 0) (t := 14) ck_X_partOf_0 rfl)
theorem d_X_partOf_15 : decode y_X_partOf.2.1 15 = .ok (.ifCond .ne 5, 3) := op_if_ne (gk (k := 0) (t := 15) ck_X_partOf_0 rfl) (gk (k := 0) (t := 16) ck_X_partOf_0 rfl) (gk (k := 0) (t := 17) ck_X_partOf_0 rfl) (by decide +kernel)
theorem d_X_partOf_20 : decode y_X_partOf.2.1 20 = .ok (.iload_n 2, 1) := op_iload_n2 (gk (k := 0) (t := 20) ck_X_partOf_0 rfl)
theorem d_X_partOf_21 : decode y_X_partOf.2.1 21 = .ok (.aload_n 0, 1) := op_aload_n0 (gk (k := 0) (t := 21) ck_X_partOf_0 rfl)
theorem d_X_partOf_22 : decode y_X_partOf.2.1 22 = .ok (.getfield 289, 3) := op_getfield (gk (k := 0) (t := 22) ck_X_partOf_0 rfl) (gk (k := 0) (t := 23) ck_X_partOf_0 rfl) (gk (k := 0) (t := 24) ck_X_partOf_0 rfl) rfl
theorem ck_X_partOf_1 : (y_X_partOf.2.1.data.toList.drop 32).take 32 = [3, 54, 4, 29, 42, 180, 1, 33, 163, 0, 13, 29, 21, 4, 164, 0, 7, 29, 167, 0, 5, 21, 4, 172] := by decide +kernel
theorem d_X_partOf_33 : decode y_X_partOf.2.1 33 = .ok (.istore 4, 2) := op_istore (gk (k := 32) (t := 1) ck_X_partOf_1 rfl) (gk (k := 32) (t := 2) ck_X_partOf_1 rfl) rfl
theorem d_X_partOf_35 : decode y_X_partOf.2.1 35 = .ok (.iload_n 3, 1) := op_iload_n3 (gk (k := 32) (t := 3) ck_X_partOf_1 rfl)
theorem d_X_partOf_36 : decode y_X_partOf.2.1 36 = .ok (.aload_n 0, 1) := op_aload_n0 (gk (k := 32) (t := 4) ck_X_partOf_1 rfl)
theorem d_X_partOf_37 : decode y_X_partOf.2.1 37 = .ok (.getfield 289, 3) := op_getfield (gk (k := 32) (t := 5) ck_X_partOf_1 rfl) (gk (k := 32) (t := 6) ck_X_partOf_1 rfl) (gk (k := 32) (t := 7) ck_X_partOf_1 rfl) rfl
theorem d_X_partOf_40 : decode y_X_partOf.2.1 40 = .ok (.if_icmp .gt 13, 3) := op_icmp_gt (gk (k := 32) (t := 8) ck_X_partOf_1 rfl) (gk (k := 32) (t := 9) ck_X_partOf_1 rfl) (gk (k := 32) (t := 10) ck_X_partOf_1 rfl) (by decide +kernel)
theorem d_X_partOf_53 : decode y_X_partOf.2.1 53 = .ok (.iload 4, 2) := op_iload (gk (k := 32) (t := 21) ck_X_partOf_1 rfl) (gk (k := 32) (t := 22) ck_X_partOf_1 rfl) rfl
theorem d_X_partOf_55 : decode y_X_partOf.2.1 55 = .ok (.ireturn, 1) := op_ireturn (gk (k := 32) (t := 23) ck_X_partOf_1 rfl)
theorem d_X_partOf_43 : decode y_X_partOf.2.1 43 = .ok (.iload_n 3, 1) := op_iload_n3 (gk (k := 32) (t := 11) ck_X_partOf_1 rfl)
theorem d_X_partOf_44 : decode y_X_partOf.2.1 44 = .ok (.iload 4, 2) := op_iload (gk (k := 32) (t := 12) ck_X_partOf_1 rfl) (gk (k := 32) (t := 13) ck_X_partOf_1 rfl) rfl
theorem d_X_partOf_46 : decode y_X_partOf.2.1 46 = .ok (.if_icmp .le 7, 3) := op_icmp_le (gk (k := 32) (t := 14) ck_X_partOf_1 rfl) (gk (k := 32) (t := 15) ck_X_partOf_1 rfl) (gk (k := 32) (t := 16) ck_X_partOf_1 rfl) (by decide +kernel)
theorem d_X_partOf_49 : decode y_X_partOf.2.1 49 = .ok (.iload_n 3, 1) := op_iload_n3 (gk (k := 32) (t := 17) ck_X_partOf_1 rfl)
theorem d_X_partOf_50 : decode y_X_partOf.2.1 50 = .ok (.goto 5, 3) := op_goto (gk (k := 32) (t := 18) ck_X_partOf_1 rfl) (gk (k := 32) (t := 19) ck_X_partOf_1 rfl) (gk (k := 32) (t := 20) ck_X_partOf_1 rfl) (by decide +kernel)
theorem d_X_partOf_25 : decode y_X_partOf.2.1 25 = .ok (.if_icmp .gt 7, 3) := op_icmp_gt (gk (k := 0) (t := 25) ck_X_partOf_0 rfl) (gk (k := 0) (t := 26) ck_X_partOf_0 rfl) (gk (k := 0) (t := 27) ck_X_partOf_0 rfl) (by decide +kernel)
theorem d_X_partOf_32 : decode y_X_partOf.2.1 32 = .ok (.iconst 0, 1) := op_iconst0 (gk (k := 32) (t := 0) ck_X_partOf_1 rfl)
theorem d_X_partOf_28 : decode y_X_partOf.2.1 28 = .ok (.iload_n 2, 1) := op_iload_n2 (gk (k := 0) (t := 28) ck_X_partOf_0 rfl)
theorem d_X_partOf_29 : decode y_X_partOf.2.1 29 = .ok (.goto 4, 3) := op_goto (gk (k := 0) (t := 29) ck_X_partOf_0 rfl) (gk (k := 0) (t := 30) ck_X_partOf_0 rfl) (gk (k := 0) (t := 31) ck_X_partOf_0 rfl) (by decide +kernel)
theorem d_X_partOf_18 : decode y_X_partOf.2.1 18 = .ok (.iconst 0, 1) := op_iconst0 (gk (k := 0) (t := 18) ck_X_partOf_0 rfl)
theorem d_X_partOf_19 : decode y_X_partOf.2.1 19 = .ok (.ireturn, 1) := op_ireturn (gk (k := 0) (t := 19) ck_X_partOf_0 rfl)
abbrev y_X_parts0 : MI := (⟨"SinglesUpModel", "parts0", "()V"⟩, prog_11_method_53_code, 4, none)
theorem ck_X_parts0_0 : (y_X_parts0.2.1.data.toList.drop 0).take 32 = [3, 60, 27, 16, 6, 162, 0, 128, 42, 180, 1, 40, 154, 0, 121, 3, 61, 28, 42, 180, 0, 7, 17, 0, 130, 27, 96, 46, 162, 0, 99, 42] := by decide +kernel
theorem d_X_parts0_0 : decode y_X_parts0.2.1 0 = .ok (.iconst 0, 1) := op_iconst0 (gk (k := 0) (t := 0) ck_X_parts0_0 rfl)
theorem d_X_parts0_1 : decode y_X_parts0.2.1 1 = .ok (.istore_n 1, 1) := op_istore_n1 (gk (k := 0) (t := 1) ck_X_parts0_0 rfl)
theorem d_X_parts0_2 : decode y_X_parts0.2.1 2 = .ok (.iload_n 1, 1) := op_iload_n1 (gk (k := 0) (t := 2) ck_X_parts0_0 rfl)
theorem d_X_parts0_3 : decode y_X_parts0.2.1 3 = .ok (.bipush 6, 2) := op_bipush (gk (k := 0) (t := 3) ck_X_parts0_0 rfl) (gk (k := 0) (t := 4) ck_X_parts0_0 rfl) rfl
theorem d_X_parts0_5 : decode y_X_parts0.2.1 5 = .ok (.if_icmp .ge 128, 3) := op_icmp_ge (gk (k := 0) (t := 5) ck_X_parts0_0 rfl) (gk (k := 0) (t := 6) ck_X_parts0_0 rfl) (gk (k := 0) (t := 7) ck_X_parts0_0 rfl) (by decide +kernel)
theorem ck_X_parts0_4 : (y_X_parts0.2.1.data.toList.drop 128).take 32 = [1, 1, 167, 255, 128, 177] := by decide +kernel
theorem d_X_parts0_133 : decode y_X_parts0.2.1 133 = .ok (.return_, 1) := op_return_ (gk (k := 128) (t := 5) ck_X_parts0_4 rfl)
theorem d_X_parts0_8 : decode y_X_parts0.2.1 8 = .ok (.aload_n 0, 1) := op_aload_n0 (gk (k := 0) (t := 8) ck_X_parts0_0 rfl)
theorem d_X_parts0_9 : decode y_X_parts0.2.1 9 = .ok (.getfield 296, 3) := op_getfield (gk (k := 0) (t := 9) ck_X_parts0_0 rfl) (gk (k := 0) (t := 10) ck_X_parts0_0 rfl) (gk (k := 0) (t := 11) ck_X_parts0_0 rfl) rfl
theorem d_X_parts0_12 : decode y_X_parts0.2.1 12 = .ok (.ifCond .ne 121, 3) := op_if_ne (gk (k := 0) (t := 12) ck_X_parts0_0 rfl) (gk (k := 0) (t := 13) ck_X_parts0_0 rfl) (gk (k := 0) (t := 14) ck_X_parts0_0 rfl) (by decide +kernel)
theorem d_X_parts0_15 : decode y_X_parts0.2.1 15 = .ok (.iconst 0, 1) := op_iconst0 (gk (k := 0) (t := 15) ck_X_parts0_0 rfl)
theorem d_X_parts0_16 : decode y_X_parts0.2.1 16 = .ok (.istore_n 2, 1) := op_istore_n2 (gk (k := 0) (t := 16) ck_X_parts0_0 rfl)
theorem d_X_parts0_17 : decode y_X_parts0.2.1 17 = .ok (.iload_n 2, 1) := op_iload_n2 (gk (k := 0) (t := 17) ck_X_parts0_0 rfl)
theorem d_X_parts0_18 : decode y_X_parts0.2.1 18 = .ok (.aload_n 0, 1) := op_aload_n0 (gk (k := 0) (t := 18) ck_X_parts0_0 rfl)
theorem d_X_parts0_19 : decode y_X_parts0.2.1 19 = .ok (.getfield 7, 3) := op_getfield (gk (k := 0) (t := 19) ck_X_parts0_0 rfl) (gk (k := 0) (t := 20) ck_X_parts0_0 rfl) (gk (k := 0) (t := 21) ck_X_parts0_0 rfl) rfl
theorem d_X_parts0_22 : decode y_X_parts0.2.1 22 = .ok (.sipush 130, 3) := op_sipush (gk (k := 0) (t := 22) ck_X_parts0_0 rfl) (gk (k := 0) (t := 23) ck_X_parts0_0 rfl) (gk (k := 0) (t := 24) ck_X_parts0_0 rfl) (by decide +kernel)
theorem d_X_parts0_25 : decode y_X_parts0.2.1 25 = .ok (.iload_n 1, 1) := op_iload_n1 (gk (k := 0) (t := 25) ck_X_parts0_0 rfl)
theorem d_X_parts0_26 : decode y_X_parts0.2.1 26 = .ok (.iadd, 1) := op_iadd (gk (k := 0) (t := 26) ck_X_parts0_0 rfl)
theorem d_X_parts0_27 : decode y_X_parts0.2.1 27 = .ok (.iaload, 1) := op_iaload (gk (k := 0) (t := 27) ck_X_parts0_0 rfl)
theorem d_X_parts0_28 : decode y_X_parts0.2.1 28 = .ok (.if_icmp .ge 99, 3) := op_icmp_ge (gk (k := 0) (t := 28) ck_X_parts0_0 rfl) (gk (k := 0) (t := 29) ck_X_parts0_0 rfl) (gk (k := 0) (t := 30) ck_X_parts0_0 rfl) (by decide +kernel)
theorem d_X_parts0_31 : decode y_X_parts0.2.1 31 = .ok (.aload_n 0, 1) := op_aload_n0 (gk (k := 0) (t := 31) ck_X_parts0_0 rfl)
theorem ck_X_parts0_1 : (y_X_parts0.2.1.data.toList.drop 32).take 32 = [27, 28, 4, 182, 1, 8, 62, 42, 27, 28, 182, 1, 46, 153, 0, 76, 42, 27, 28, 6, 182, 1, 8, 154, 0, 66, 42, 27, 28, 5, 182, 1] := by decide +kernel
theorem d_X_parts0_32 : decode y_X_parts0.2.1 32 = .ok (.iload_n 1, 1) := op_iload_n1 (gk (k := 32) (t := 0) ck_X_parts0_1 rfl)
theorem d_X_parts0_33 : decode y_X_parts0.2.1 33 = .ok (.iload_n 2, 1) := op_iload_n2 (gk (k := 32) (t := 1) ck_X_parts0_1 rfl)
theorem d_X_parts0_34 : decode y_X_parts0.2.1 34 = .ok (.iconst 1, 1) := op_iconst1 (gk (k := 32) (t := 2) ck_X_parts0_1 rfl)
theorem d_X_parts0_35 : decode y_X_parts0.2.1 35 = .ok (.invokevirtual 264, 3) := op_invokevirtual (gk (k := 32) (t := 3) ck_X_parts0_1 rfl) (gk (k := 32) (t := 4) ck_X_parts0_1 rfl) (gk (k := 32) (t := 5) ck_X_parts0_1 rfl) rfl
theorem d_X_parts0_38 : decode y_X_parts0.2.1 38 = .ok (.istore_n 3, 1) := op_istore_n3 (gk (k := 32) (t := 6) ck_X_parts0_1 rfl)
theorem d_X_parts0_39 : decode y_X_parts0.2.1 39 = .ok (.aload_n 0, 1) := op_aload_n0 (gk (k := 32) (t := 7) ck_X_parts0_1 rfl)
theorem d_X_parts0_40 : decode y_X_parts0.2.1 40 = .ok (.iload_n 1, 1) := op_iload_n1 (gk (k := 32) (t := 8) ck_X_parts0_1 rfl)
theorem d_X_parts0_41 : decode y_X_parts0.2.1 41 = .ok (.iload_n 2, 1) := op_iload_n2 (gk (k := 32) (t := 9) ck_X_parts0_1 rfl)
theorem d_X_parts0_42 : decode y_X_parts0.2.1 42 = .ok (.invokevirtual 302, 3) := op_invokevirtual (gk (k := 32) (t := 10) ck_X_parts0_1 rfl) (gk (k := 32) (t := 11) ck_X_parts0_1 rfl) (gk (k := 32) (t := 12) ck_X_parts0_1 rfl) rfl
theorem ck_X_parts0_3 : (y_X_parts0.2.1.data.toList.drop 96).take 32 = [180, 1, 35, 182, 1, 29, 4, 162, 0, 6, 167, 0, 15, 42, 27, 28, 42, 29, 182, 1, 52, 182, 1, 55, 177, 132, 2, 1, 167, 255, 149, 132] := by decide +kernel
theorem d_X_parts0_121 : decode y_X_parts0.2.1 121 = .ok (.iinc 2 1, 3) := op_iinc (gk (k := 96) (t := 25) ck_X_parts0_3 rfl) (gk (k := 96) (t := 26) ck_X_parts0_3 rfl) (gk (k := 96) (t := 27) ck_X_parts0_3 rfl) rfl rfl
theorem d_X_parts0_124 : decode y_X_parts0.2.1 124 = .ok (.goto (-107), 3) := op_goto (gk (k := 96) (t := 28) ck_X_parts0_3 rfl) (gk (k := 96) (t := 29) ck_X_parts0_3 rfl) (gk (k := 96) (t := 30) ck_X_parts0_3 rfl) (by decide +kernel)
theorem d_X_parts0_45 : decode y_X_parts0.2.1 45 = .ok (.ifCond .eq 76, 3) := op_if_eq (gk (k := 32) (t := 13) ck_X_parts0_1 rfl) (gk (k := 32) (t := 14) ck_X_parts0_1 rfl) (gk (k := 32) (t := 15) ck_X_parts0_1 rfl) (by decide +kernel)
theorem d_X_parts0_48 : decode y_X_parts0.2.1 48 = .ok (.aload_n 0, 1) := op_aload_n0 (gk (k := 32) (t := 16) ck_X_parts0_1 rfl)
theorem d_X_parts0_49 : decode y_X_parts0.2.1 49 = .ok (.iload_n 1, 1) := op_iload_n1 (gk (k := 32) (t := 17) ck_X_parts0_1 rfl)
theorem d_X_parts0_50 : decode y_X_parts0.2.1 50 = .ok (.iload_n 2, 1) := op_iload_n2 (gk (k := 32) (t := 18) ck_X_parts0_1 rfl)
theorem d_X_parts0_51 : decode y_X_parts0.2.1 51 = .ok (.iconst 3, 1) := op_iconst3 (gk (k := 32) (t := 19) ck_X_parts0_1 rfl)
theorem d_X_parts0_52 : decode y_X_parts0.2.1 52 = .ok (.invokevirtual 264, 3) := op_invokevirtual (gk (k := 32) (t := 20) ck_X_parts0_1 rfl) (gk (k := 32) (t := 21) ck_X_parts0_1 rfl) (gk (k := 32) (t := 22) ck_X_parts0_1 rfl) rfl
theorem d_X_parts0_55 : decode y_X_parts0.2.1 55 = .ok (.ifCond .ne 66, 3) := op_if_ne (gk (k := 32) (t := 23) ck_X_parts0_1 rfl) (gk (k := 32) (t := 24) ck_X_parts0_1 rfl) (gk (k := 32) (t := 25) ck_X_parts0_1 rfl) (by decide +kernel)
theorem d_X_parts0_58 : decode y_X_parts0.2.1 58 = .ok (.aload_n 0, 1) := op_aload_n0 (gk (k := 32) (t := 26) ck_X_parts0_1 rfl)
theorem d_X_parts0_59 : decode y_X_parts0.2.1 59 = .ok (.iload_n 1, 1) := op_iload_n1 (gk (k := 32) (t := 27) ck_X_parts0_1 rfl)
theorem d_X_parts0_60 : decode y_X_parts0.2.1 60 = .ok (.iload_n 2, 1) := op_iload_n2 (gk (k := 32) (t := 28) ck_X_parts0_1 rfl)
theorem d_X_parts0_61 : decode y_X_parts0.2.1 61 = .ok (.iconst 2, 1) := op_iconst2 (gk (k := 32) (t := 29) ck_X_parts0_1 rfl)
theorem ck_X_parts0_2 : (y_X_parts0.2.1.data.toList.drop 64).take 32 = [8, 29, 160, 0, 55, 29, 42, 180, 1, 33, 164, 0, 47, 42, 29, 182, 1, 52, 154, 0, 6, 167, 0, 36, 42, 27, 28, 42, 180, 1, 33, 42] := by decide +kernel
theorem d_X_parts0_62 : decode y_X_parts0.2.1 62 = .ok (.invokevirtual 264, 3) := op_invokevirtual (gk (k := 32) (t := 30) ck_X_parts0_1 rfl) (gk (k := 32) (t := 31) ck_X_parts0_1 rfl) (gk (k := 64) (t := 0) ck_X_parts0_2 rfl) rfl
theorem d_X_parts0_65 : decode y_X_parts0.2.1 65 = .ok (.iload_n 3, 1) := op_iload_n3 (gk (k := 64) (t := 1) ck_X_parts0_2 rfl)
theorem d_X_parts0_66 : decode y_X_parts0.2.1 66 = .ok (.if_icmp .ne 55, 3) := op_icmp_ne (gk (k := 64) (t := 2) ck_X_parts0_2 rfl) (gk (k := 64) (t := 3) ck_X_parts0_2 rfl) (gk (k := 64) (t := 4) ck_X_parts0_2 rfl) (by decide +kernel)
theorem d_X_parts0_69 : decode y_X_parts0.2.1 69 = .ok (.iload_n 3, 1) := op_iload_n3 (gk (k := 64) (t := 5) ck_X_parts0_2 rfl)
theorem d_X_parts0_70 : decode y_X_parts0.2.1 70 = .ok (.aload_n 0, 1) := op_aload_n0 (gk (k := 64) (t := 6) ck_X_parts0_2 rfl)
theorem d_X_parts0_71 : decode y_X_parts0.2.1 71 = .ok (.getfield 289, 3) := op_getfield (gk (k := 64) (t := 7) ck_X_parts0_2 rfl) (gk (k := 64) (t := 8) ck_X_parts0_2 rfl) (gk (k := 64) (t := 9) ck_X_parts0_2 rfl) rfl
theorem d_X_parts0_74 : decode y_X_parts0.2.1 74 = .ok (.if_icmp .le 47, 3) := op_icmp_le (gk (k := 64) (t := 10) ck_X_parts0_2 rfl) (gk (k := 64) (t := 11) ck_X_parts0_2 rfl) (gk (k := 64) (t := 12) ck_X_parts0_2 rfl) (by decide +kernel)
theorem d_X_parts0_77 : decode y_X_parts0.2.1 77 = .ok (.aload_n 0, 1) := op_aload_n0 (gk (k := 64) (t := 13) ck_X_parts0_2 rfl)
theorem d_X_parts0_78 : decode y_X_parts0.2.1 78 = .ok (.iload_n 3, 1) := op_iload_n3 (gk (k := 64) (t := 14) ck_X_parts0_2 rfl)
theorem lk_X_308 : LkV "SinglesUpModel" 308 y_X_partOf := ⟨tw_c6 233 (by decide +kernel) rfl, tw_in 72 (by decide +kernel) rfl, Or.inl (tw_c6 231 (by decide +kernel) rfl)⟩
set_option maxRecDepth 100000 in
theorem mo_X_partOf : MOk y_X_partOf 1 := ⟨by decide +kernel, tw_c6 234 rfl rfl, tw_c1 12 (by decide +kernel) rfl, by decide +kernel, by decide +kernel, by decide +kernel⟩
theorem d_X_parts0_79 : decode y_X_parts0.2.1 79 = .ok (.invokevirtual 308, 3) := op_invokevirtual (gk (k := 64) (t := 15) ck_X_parts0_2 rfl) (gk (k := 64) (t := 16) ck_X_parts0_2 rfl) (gk (k := 64) (t := 17) ck_X_parts0_2 rfl) rfl
theorem d_X_parts0_82 : decode y_X_parts0.2.1 82 = .ok (.ifCond .ne 6, 3) := op_if_ne (gk (k := 64) (t := 18) ck_X_parts0_2 rfl) (gk (k := 64) (t := 19) ck_X_parts0_2 rfl) (gk (k := 64) (t := 20) ck_X_parts0_2 rfl) (by decide +kernel)
theorem d_X_parts0_88 : decode y_X_parts0.2.1 88 = .ok (.aload_n 0, 1) := op_aload_n0 (gk (k := 64) (t := 24) ck_X_parts0_2 rfl)
theorem d_X_parts0_89 : decode y_X_parts0.2.1 89 = .ok (.iload_n 1, 1) := op_iload_n1 (gk (k := 64) (t := 25) ck_X_parts0_2 rfl)
theorem d_X_parts0_90 : decode y_X_parts0.2.1 90 = .ok (.iload_n 2, 1) := op_iload_n2 (gk (k := 64) (t := 26) ck_X_parts0_2 rfl)
theorem d_X_parts0_91 : decode y_X_parts0.2.1 91 = .ok (.aload_n 0, 1) := op_aload_n0 (gk (k := 64) (t := 27) ck_X_parts0_2 rfl)
theorem d_X_parts0_92 : decode y_X_parts0.2.1 92 = .ok (.getfield 289, 3) := op_getfield (gk (k := 64) (t := 28) ck_X_parts0_2 rfl) (gk (k := 64) (t := 29) ck_X_parts0_2 rfl) (gk (k := 64) (t := 30) ck_X_parts0_2 rfl) rfl
theorem d_X_parts0_95 : decode y_X_parts0.2.1 95 = .ok (.aload_n 0, 1) := op_aload_n0 (gk (k := 64) (t := 31) ck_X_parts0_2 rfl)
theorem d_X_parts0_96 : decode y_X_parts0.2.1 96 = .ok (.getfield 291, 3) := op_getfield (gk (k := 96) (t := 0) ck_X_parts0_3 rfl) (gk (k := 96) (t := 1) ck_X_parts0_3 rfl) (gk (k := 96) (t := 2) ck_X_parts0_3 rfl) rfl
theorem d_X_parts0_99 : decode y_X_parts0.2.1 99 = .ok (.invokevirtual 285, 3) := op_invokevirtual (gk (k := 96) (t := 3) ck_X_parts0_3 rfl) (gk (k := 96) (t := 4) ck_X_parts0_3 rfl) (gk (k := 96) (t := 5) ck_X_parts0_3 rfl) rfl
theorem d_X_parts0_102 : decode y_X_parts0.2.1 102 = .ok (.iconst 1, 1) := op_iconst1 (gk (k := 96) (t := 6) ck_X_parts0_3 rfl)
theorem d_X_parts0_103 : decode y_X_parts0.2.1 103 = .ok (.if_icmp .ge 6, 3) := op_icmp_ge (gk (k := 96) (t := 7) ck_X_parts0_3 rfl) (gk (k := 96) (t := 8) ck_X_parts0_3 rfl) (gk (k := 96) (t := 9) ck_X_parts0_3 rfl) (by decide +kernel)
theorem d_X_parts0_106 : decode y_X_parts0.2.1 106 = .ok (.goto 15, 3) := op_goto (gk (k := 96) (t := 10) ck_X_parts0_3 rfl) (gk (k := 96) (t := 11) ck_X_parts0_3 rfl) (gk (k := 96) (t := 12) ck_X_parts0_3 rfl) (by decide +kernel)
theorem d_X_parts0_85 : decode y_X_parts0.2.1 85 = .ok (.goto 36, 3) := op_goto (gk (k := 64) (t := 21) ck_X_parts0_2 rfl) (gk (k := 64) (t := 22) ck_X_parts0_2 rfl) (gk (k := 64) (t := 23) ck_X_parts0_2 rfl) (by decide +kernel)
theorem d_X_parts0_127 : decode y_X_parts0.2.1 127 = .ok (.iinc 1 1, 3) := op_iinc (gk (k := 96) (t := 31) ck_X_parts0_3 rfl) (gk (k := 128) (t := 0) ck_X_parts0_4 rfl) (gk (k := 128) (t := 1) ck_X_parts0_4 rfl) rfl rfl
theorem d_X_parts0_130 : decode y_X_parts0.2.1 130 = .ok (.goto (-128), 3) := op_goto (gk (k := 128) (t := 2) ck_X_parts0_4 rfl) (gk (k := 128) (t := 3) ck_X_parts0_4 rfl) (gk (k := 128) (t := 4) ck_X_parts0_4 rfl) (by decide +kernel)
theorem d_X_parts0_109 : decode y_X_parts0.2.1 109 = .ok (.aload_n 0, 1) := op_aload_n0 (gk (k := 96) (t := 13) ck_X_parts0_3 rfl)
theorem d_X_parts0_110 : decode y_X_parts0.2.1 110 = .ok (.iload_n 1, 1) := op_iload_n1 (gk (k := 96) (t := 14) ck_X_parts0_3 rfl)
theorem d_X_parts0_111 : decode y_X_parts0.2.1 111 = .ok (.iload_n 2, 1) := op_iload_n2 (gk (k := 96) (t := 15) ck_X_parts0_3 rfl)
theorem d_X_parts0_112 : decode y_X_parts0.2.1 112 = .ok (.aload_n 0, 1) := op_aload_n0 (gk (k := 96) (t := 16) ck_X_parts0_3 rfl)
theorem d_X_parts0_113 : decode y_X_parts0.2.1 113 = .ok (.iload_n 3, 1) := op_iload_n3 (gk (k := 96) (t := 17) ck_X_parts0_3 rfl)
theorem d_X_parts0_114 : decode y_X_parts0.2.1 114 = .ok (.invokevirtual 308, 3) := op_invokevirtual (gk (k := 96) (t := 18) ck_X_parts0_3 rfl) (gk (k := 96) (t := 19) ck_X_parts0_3 rfl) (gk (k := 96) (t := 20) ck_X_parts0_3 rfl) rfl
theorem d_X_parts0_117 : decode y_X_parts0.2.1 117 = .ok (.invokevirtual 311, 3) := op_invokevirtual (gk (k := 96) (t := 21) ck_X_parts0_3 rfl) (gk (k := 96) (t := 22) ck_X_parts0_3 rfl) (gk (k := 96) (t := 23) ck_X_parts0_3 rfl) rfl
theorem d_X_parts0_120 : decode y_X_parts0.2.1 120 = .ok (.return_, 1) := op_return_ (gk (k := 96) (t := 24) ck_X_parts0_3 rfl)
abbrev y_X_fills : MI := (⟨"SinglesUpModel", "fills", "()V"⟩, prog_11_method_54_code, 4, none)
theorem ck_X_fills_0 : (y_X_fills.2.1.data.toList.drop 0).take 32 = [42, 182, 1, 59, 42, 180, 0, 7, 8, 46, 158, 0, 11, 42, 4, 182, 1, 62, 167, 0, 4, 2, 60, 27, 2, 160, 0, 9, 42, 3, 182, 1] := by decide +kernel
theorem d_X_fills_0 : decode y_X_fills.2.1 0 = .ok (.aload_n 0, 1) := op_aload_n0 (gk (k := 0) (t := 0) ck_X_fills_0 rfl)
theorem d_X_fills_1 : decode y_X_fills.2.1 1 = .ok (.invokevirtual 315, 3) := op_invokevirtual (gk (k := 0) (t := 1) ck_X_fills_0 rfl) (gk (k := 0) (t := 2) ck_X_fills_0 rfl) (gk (k := 0) (t := 3) ck_X_fills_0 rfl) rfl
theorem d_X_fills_4 : decode y_X_fills.2.1 4 = .ok (.aload_n 0, 1) := op_aload_n0 (gk (k := 0) (t := 4) ck_X_fills_0 rfl)
theorem d_X_fills_5 : decode y_X_fills.2.1 5 = .ok (.getfield 7, 3) := op_getfield (gk (k := 0) (t := 5) ck_X_fills_0 rfl) (gk (k := 0) (t := 6) ck_X_fills_0 rfl) (gk (k := 0) (t := 7) ck_X_fills_0 rfl) rfl
theorem d_X_fills_8 : decode y_X_fills.2.1 8 = .ok (.iconst 5, 1) := op_iconst5 (gk (k := 0) (t := 8) ck_X_fills_0 rfl)
theorem d_X_fills_9 : decode y_X_fills.2.1 9 = .ok (.iaload, 1) := op_iaload (gk (k := 0) (t := 9) ck_X_fills_0 rfl)
theorem d_X_fills_22 : decode y_X_fills.2.1 22 = .ok (.istore_n 1, 1) := op_istore_n1 (gk (k := 0) (t := 22) ck_X_fills_0 rfl)
theorem d_X_fills_23 : decode y_X_fills.2.1 23 = .ok (.iload_n 1, 1) := op_iload_n1 (gk (k := 0) (t := 23) ck_X_fills_0 rfl)
theorem d_X_fills_24 : decode y_X_fills.2.1 24 = .ok (.iconst (-1), 1) := op_iconstm1 (gk (k := 0) (t := 24) ck_X_fills_0 rfl)
theorem ck_X_fills_1 : (y_X_fills.2.1.data.toList.drop 32).take 32 = [62, 60, 27, 2, 160, 0, 6, 167, 0, 84, 27, 16, 40, 108, 61, 27, 16, 40, 112, 62, 42, 28, 29, 4, 182, 1, 8, 42, 180, 1, 33, 164] := by decide +kernel
theorem d_X_fills_34 : decode y_X_fills.2.1 34 = .ok (.iload_n 1, 1) := op_iload_n1 (gk (k := 32) (t := 2) ck_X_fills_1 rfl)
theorem d_X_fills_35 : decode y_X_fills.2.1 35 = .ok (.iconst (-1), 1) := op_iconstm1 (gk (k := 32) (t := 3) ck_X_fills_1 rfl)
theorem d_X_fills_36 : decode y_X_fills.2.1 36 = .ok (.if_icmp .ne 6, 3) := op_icmp_ne (gk (k := 32) (t := 4) ck_X_fills_1 rfl) (gk (k := 32) (t := 5) ck_X_fills_1 rfl) (gk (k := 32) (t := 6) ck_X_fills_1 rfl) (by decide +kernel)
theorem d_X_fills_42 : decode y_X_fills.2.1 42 = .ok (.iload_n 1, 1) := op_iload_n1 (gk (k := 32) (t := 10) ck_X_fills_1 rfl)
theorem d_X_fills_43 : decode y_X_fills.2.1 43 = .ok (.bipush 40, 2) := op_bipush (gk (k := 32) (t := 11) ck_X_fills_1 rfl) (gk (k := 32) (t := 12) ck_X_fills_1 rfl) rfl
theorem d_X_fills_45 : decode y_X_fills.2.1 45 = .ok (.idiv, 1) := op_idiv (gk (k := 32) (t := 13) ck_X_fills_1 rfl)
theorem d_X_fills_46 : decode y_X_fills.2.1 46 = .ok (.istore_n 2, 1) := op_istore_n2 (gk (k := 32) (t := 14) ck_X_fills_1 rfl)
theorem d_X_fills_47 : decode y_X_fills.2.1 47 = .ok (.iload_n 1, 1) := op_iload_n1 (gk (k := 32) (t := 15) ck_X_fills_1 rfl)
theorem d_X_fills_48 : decode y_X_fills.2.1 48 = .ok (.bipush 40, 2) := op_bipush (gk (k := 32) (t := 16) ck_X_fills_1 rfl) (gk (k := 32) (t := 17) ck_X_fills_1 rfl) rfl
theorem d_X_fills_50 : decode y_X_fills.2.1 50 = .ok (.irem, 1) := op_irem (gk (k := 32) (t := 18) ck_X_fills_1 rfl)
theorem d_X_fills_51 : decode y_X_fills.2.1 51 = .ok (.istore_n 3, 1) := op_istore_n3 (gk (k := 32) (t := 19) ck_X_fills_1 rfl)
theorem d_X_fills_52 : decode y_X_fills.2.1 52 = .ok (.aload_n 0, 1) := op_aload_n0 (gk (k := 32) (t := 20) ck_X_fills_1 rfl)
theorem d_X_fills_53 : decode y_X_fills.2.1 53 = .ok (.iload_n 2, 1) := op_iload_n2 (gk (k := 32) (t := 21) ck_X_fills_1 rfl)
theorem d_X_fills_54 : decode y_X_fills.2.1 54 = .ok (.iload_n 3, 1) := op_iload_n3 (gk (k := 32) (t := 22) ck_X_fills_1 rfl)
theorem d_X_fills_55 : decode y_X_fills.2.1 55 = .ok (.iconst 1, 1) := op_iconst1 (gk (k := 32) (t := 23) ck_X_fills_1 rfl)
theorem d_X_fills_56 : decode y_X_fills.2.1 56 = .ok (.invokevirtual 264, 3) := op_invokevirtual (gk (k := 32) (t := 24) ck_X_fills_1 rfl) (gk (k := 32) (t := 25) ck_X_fills_1 rfl) (gk (k := 32) (t := 26) ck_X_fills_1 rfl) rfl
theorem d_X_fills_59 : decode y_X_fills.2.1 59 = .ok (.aload_n 0, 1) := op_aload_n0 (gk (k := 32) (t := 27) ck_X_fills_1 rfl)
theorem d_X_fills_60 : decode y_X_fills.2.1 60 = .ok (.getfield 289, 3) := op_getfield (gk (k := 32) (t := 28) ck_X_fills_1 rfl) (gk (k := 32) (t := 29) ck_X_fills_1 rfl) (gk (k := 32) (t := 30) ck_X_fills_1 rfl) rfl
theorem ck_X_fills_2 : (y_X_fills.2.1.data.toList.drop 64).take 32 = [0, 44, 42, 180, 0, 53, 27, 4, 84, 42, 180, 0, 47, 42, 180, 1, 37, 27, 79, 42, 89, 180, 1, 37, 4, 96, 181, 1, 37, 42, 180, 0] := by decide +kernel
theorem d_X_fills_63 : decode y_X_fills.2.1 63 = .ok (.if_icmp .le 44, 3) := op_icmp_le (gk (k := 32) (t := 31) ck_X_fills_1 rfl) (gk (k := 64) (t := 0) ck_X_fills_2 rfl) (gk (k := 64) (t := 1) ck_X_fills_2 rfl) (by decide +kernel)
theorem ck_X_fills_3 : (y_X_fills.2.1.data.toList.drop 96).take 32 = [7, 16, 75, 92, 46, 4, 96, 79, 167, 0, 16, 42, 28, 29, 42, 28, 29, 4, 182, 1, 8, 182, 1, 55, 167, 255, 140, 42, 182, 1, 66, 177] := by decide +kernel
theorem d_X_fills_107 : decode y_X_fills.2.1 107 = .ok (.aload_n 0, 1) := op_aload_n0 (gk (k := 96) (t := 11) ck_X_fills_3 rfl)
theorem d_X_fills_108 : decode y_X_fills.2.1 108 = .ok (.iload_n 2, 1) := op_iload_n2 (gk (k := 96) (t := 12) ck_X_fills_3 rfl)
theorem d_X_fills_109 : decode y_X_fills.2.1 109 = .ok (.iload_n 3, 1) := op_iload_n3 (gk (k := 96) (t := 13) ck_X_fills_3 rfl)
theorem d_X_fills_110 : decode y_X_fills.2.1 110 = .ok (.aload_n 0, 1) := op_aload_n0 (gk (k := 96) (t := 14) ck_X_fills_3 rfl)
theorem d_X_fills_111 : decode y_X_fills.2.1 111 = .ok (.iload_n 2, 1) := op_iload_n2 (gk (k := 96) (t := 15) ck_X_fills_3 rfl)
theorem d_X_fills_112 : decode y_X_fills.2.1 112 = .ok (.iload_n 3, 1) := op_iload_n3 (gk (k := 96) (t := 16) ck_X_fills_3 rfl)
theorem d_X_fills_113 : decode y_X_fills.2.1 113 = .ok (.iconst 1, 1) := op_iconst1 (gk (k := 96) (t := 17) ck_X_fills_3 rfl)
theorem d_X_fills_114 : decode y_X_fills.2.1 114 = .ok (.invokevirtual 264, 3) := op_invokevirtual (gk (k := 96) (t := 18) ck_X_fills_3 rfl) (gk (k := 96) (t := 19) ck_X_fills_3 rfl) (gk (k := 96) (t := 20) ck_X_fills_3 rfl) rfl
theorem d_X_fills_117 : decode y_X_fills.2.1 117 = .ok (.invokevirtual 311, 3) := op_invokevirtual (gk (k := 96) (t := 21) ck_X_fills_3 rfl) (gk (k := 96) (t := 22) ck_X_fills_3 rfl) (gk (k := 96) (t := 23) ck_X_fills_3 rfl) rfl
theorem d_X_fills_120 : decode y_X_fills.2.1 120 = .ok (.goto (-116), 3) := op_goto (gk (k := 96) (t := 24) ck_X_fills_3 rfl) (gk (k := 96) (t := 25) ck_X_fills_3 rfl) (gk (k := 96) (t := 26) ck_X_fills_3 rfl) (by decide +kernel)
theorem d_X_fills_66 : decode y_X_fills.2.1 66 = .ok (.aload_n 0, 1) := op_aload_n0 (gk (k := 64) (t := 2) ck_X_fills_2 rfl)
theorem d_X_fills_67 : decode y_X_fills.2.1 67 = .ok (.getfield 53, 3) := op_getfield (gk (k := 64) (t := 3) ck_X_fills_2 rfl) (gk (k := 64) (t := 4) ck_X_fills_2 rfl) (gk (k := 64) (t := 5) ck_X_fills_2 rfl) rfl
theorem d_X_fills_70 : decode y_X_fills.2.1 70 = .ok (.iload_n 1, 1) := op_iload_n1 (gk (k := 64) (t := 6) ck_X_fills_2 rfl)
theorem d_X_fills_71 : decode y_X_fills.2.1 71 = .ok (.iconst 1, 1) := op_iconst1 (gk (k := 64) (t := 7) ck_X_fills_2 rfl)
theorem d_X_fills_72 : decode y_X_fills.2.1 72 = .ok (.bastore, 1) := op_bastore (gk (k := 64) (t := 8) ck_X_fills_2 rfl)
theorem d_X_fills_73 : decode y_X_fills.2.1 73 = .ok (.aload_n 0, 1) := op_aload_n0 (gk (k := 64) (t := 9) ck_X_fills_2 rfl)
theorem d_X_fills_74 : decode y_X_fills.2.1 74 = .ok (.getfield 47, 3) := op_getfield (gk (k := 64) (t := 10) ck_X_fills_2 rfl) (gk (k := 64) (t := 11) ck_X_fills_2 rfl) (gk (k := 64) (t := 12) ck_X_fills_2 rfl) rfl
theorem d_X_fills_77 : decode y_X_fills.2.1 77 = .ok (.aload_n 0, 1) := op_aload_n0 (gk (k := 64) (t := 13) ck_X_fills_2 rfl)
theorem d_X_fills_78 : decode y_X_fills.2.1 78 = .ok (.getfield 293, 3) := op_getfield (gk (k := 64) (t := 14) ck_X_fills_2 rfl) (gk (k := 64) (t := 15) ck_X_fills_2 rfl) (gk (k := 64) (t := 16) ck_X_fills_2 rfl) rfl
theorem d_X_fills_81 : decode y_X_fills.2.1 81 = .ok (.iload_n 1, 1) := op_iload_n1 (gk (k := 64) (t := 17) ck_X_fills_2 rfl)
theorem d_X_fills_82 : decode y_X_fills.2.1 82 = .ok (.iastore, 1) := op_iastore (gk (k := 64) (t := 18) ck_X_fills_2 rfl)
theorem d_X_fills_83 : decode y_X_fills.2.1 83 = .ok (.aload_n 0, 1) := op_aload_n0 (gk (k := 64) (t := 19) ck_X_fills_2 rfl)
theorem d_X_fills_84 : decode y_X_fills.2.1 84 = .ok (.dup, 1) := op_dup (gk (k := 64) (t := 20) ck_X_fills_2 rfl)
theorem d_X_fills_85 : decode y_X_fills.2.1 85 = .ok (.getfield 293, 3) := op_getfield (gk (k := 64) (t := 21) ck_X_fills_2 rfl) (gk (k := 64) (t := 22) ck_X_fills_2 rfl) (gk (k := 64) (t := 23) ck_X_fills_2 rfl) rfl
theorem d_X_fills_88 : decode y_X_fills.2.1 88 = .ok (.iconst 1, 1) := op_iconst1 (gk (k := 64) (t := 24) ck_X_fills_2 rfl)
theorem d_X_fills_89 : decode y_X_fills.2.1 89 = .ok (.iadd, 1) := op_iadd (gk (k := 64) (t := 25) ck_X_fills_2 rfl)
theorem d_X_fills_90 : decode y_X_fills.2.1 90 = .ok (.putfield 293, 3) := op_putfield (gk (k := 64) (t := 26) ck_X_fills_2 rfl) (gk (k := 64) (t := 27) ck_X_fills_2 rfl) (gk (k := 64) (t := 28) ck_X_fills_2 rfl) rfl
theorem d_X_fills_93 : decode y_X_fills.2.1 93 = .ok (.aload_n 0, 1) := op_aload_n0 (gk (k := 64) (t := 29) ck_X_fills_2 rfl)
theorem d_X_fills_94 : decode y_X_fills.2.1 94 = .ok (.getfield 7, 3) := op_getfield (gk (k := 64) (t := 30) ck_X_fills_2 rfl) (gk (k := 64) (t := 31) ck_X_fills_2 rfl) (gk (k := 96) (t := 0) ck_X_fills_3 rfl) rfl
theorem cb_75 : (Int8.ofInt 75).toInt32 = iv 75 := by decide +kernel
theorem d_X_fills_97 : decode y_X_fills.2.1 97 = .ok (.bipush 75, 2) := op_bipush (gk (k := 96) (t := 1) ck_X_fills_3 rfl) (gk (k := 96) (t := 2) ck_X_fills_3 rfl) rfl
theorem d_X_fills_99 : decode y_X_fills.2.1 99 = .ok (.dup2, 1) := op_dup2 (gk (k := 96) (t := 3) ck_X_fills_3 rfl)
theorem d_X_fills_100 : decode y_X_fills.2.1 100 = .ok (.iaload, 1) := op_iaload (gk (k := 96) (t := 4) ck_X_fills_3 rfl)
theorem d_X_fills_101 : decode y_X_fills.2.1 101 = .ok (.iconst 1, 1) := op_iconst1 (gk (k := 96) (t := 5) ck_X_fills_3 rfl)
theorem d_X_fills_102 : decode y_X_fills.2.1 102 = .ok (.iadd, 1) := op_iadd (gk (k := 96) (t := 6) ck_X_fills_3 rfl)
theorem d_X_fills_103 : decode y_X_fills.2.1 103 = .ok (.iastore, 1) := op_iastore (gk (k := 96) (t := 7) ck_X_fills_3 rfl)
theorem d_X_fills_104 : decode y_X_fills.2.1 104 = .ok (.goto 16, 3) := op_goto (gk (k := 96) (t := 8) ck_X_fills_3 rfl) (gk (k := 96) (t := 9) ck_X_fills_3 rfl) (gk (k := 96) (t := 10) ck_X_fills_3 rfl) (by decide +kernel)
theorem d_X_fills_25 : decode y_X_fills.2.1 25 = .ok (.if_icmp .ne 9, 3) := op_icmp_ne (gk (k := 0) (t := 25) ck_X_fills_0 rfl) (gk (k := 0) (t := 26) ck_X_fills_0 rfl) (gk (k := 0) (t := 27) ck_X_fills_0 rfl) (by decide +kernel)
theorem d_X_fills_28 : decode y_X_fills.2.1 28 = .ok (.aload_n 0, 1) := op_aload_n0 (gk (k := 0) (t := 28) ck_X_fills_0 rfl)
theorem d_X_fills_29 : decode y_X_fills.2.1 29 = .ok (.iconst 0, 1) := op_iconst0 (gk (k := 0) (t := 29) ck_X_fills_0 rfl)
theorem lk_X_318 : LkV "SinglesUpModel" 318 y_X_finds := ⟨tw_c6 213 (by decide +kernel) rfl, tw_in 67 (by decide +kernel) rfl, Or.inl (tw_c6 211 (by decide +kernel) rfl)⟩
set_option maxRecDepth 100000 in
theorem mo_X_finds : MOk y_X_finds 1 := ⟨by decide +kernel, tw_c6 214 rfl rfl, tw_c1 12 (by decide +kernel) rfl, by decide +kernel, by decide +kernel, by decide +kernel⟩
theorem d_X_fills_30 : decode y_X_fills.2.1 30 = .ok (.invokevirtual 318, 3) := op_invokevirtual (gk (k := 0) (t := 30) ck_X_fills_0 rfl) (gk (k := 0) (t := 31) ck_X_fills_0 rfl) (gk (k := 32) (t := 0) ck_X_fills_1 rfl) rfl
theorem d_X_fills_33 : decode y_X_fills.2.1 33 = .ok (.istore_n 1, 1) := op_istore_n1 (gk (k := 32) (t := 1) ck_X_fills_1 rfl)
theorem d_X_fills_10 : decode y_X_fills.2.1 10 = .ok (.ifCond .le 11, 3) := op_if_le (gk (k := 0) (t := 10) ck_X_fills_0 rfl) (gk (k := 0) (t := 11) ck_X_fills_0 rfl) (gk (k := 0) (t := 12) ck_X_fills_0 rfl) (by decide +kernel)
theorem d_X_fills_21 : decode y_X_fills.2.1 21 = .ok (.iconst (-1), 1) := op_iconstm1 (gk (k := 0) (t := 21) ck_X_fills_0 rfl)
theorem d_X_fills_13 : decode y_X_fills.2.1 13 = .ok (.aload_n 0, 1) := op_aload_n0 (gk (k := 0) (t := 13) ck_X_fills_0 rfl)
theorem d_X_fills_14 : decode y_X_fills.2.1 14 = .ok (.iconst 1, 1) := op_iconst1 (gk (k := 0) (t := 14) ck_X_fills_0 rfl)
theorem d_X_fills_15 : decode y_X_fills.2.1 15 = .ok (.invokevirtual 318, 3) := op_invokevirtual (gk (k := 0) (t := 15) ck_X_fills_0 rfl) (gk (k := 0) (t := 16) ck_X_fills_0 rfl) (gk (k := 0) (t := 17) ck_X_fills_0 rfl) rfl
theorem d_X_fills_18 : decode y_X_fills.2.1 18 = .ok (.goto 4, 3) := op_goto (gk (k := 0) (t := 18) ck_X_fills_0 rfl) (gk (k := 0) (t := 19) ck_X_fills_0 rfl) (gk (k := 0) (t := 20) ck_X_fills_0 rfl) (by decide +kernel)
theorem d_X_fills_39 : decode y_X_fills.2.1 39 = .ok (.goto 84, 3) := op_goto (gk (k := 32) (t := 7) ck_X_fills_1 rfl) (gk (k := 32) (t := 8) ck_X_fills_1 rfl) (gk (k := 32) (t := 9) ck_X_fills_1 rfl) (by decide +kernel)
theorem d_X_fills_123 : decode y_X_fills.2.1 123 = .ok (.aload_n 0, 1) := op_aload_n0 (gk (k := 96) (t := 27) ck_X_fills_3 rfl)
theorem lk_X_322 : LkV "SinglesUpModel" 322 y_X_parts0 := ⟨tw_c6 229 (by decide +kernel) rfl, tw_in 71 (by decide +kernel) rfl, Or.inl (tw_c6 227 (by decide +kernel) rfl)⟩
set_option maxRecDepth 100000 in
theorem mo_X_parts0 : MOk y_X_parts0 0 := ⟨by decide +kernel, tw_c6 230 rfl rfl, tw_c1 12 (by decide +kernel) rfl, by decide +kernel, by decide +kernel, by decide +kernel⟩
theorem d_X_fills_124 : decode y_X_fills.2.1 124 = .ok (.invokevirtual 322, 3) := op_invokevirtual (gk (k := 96) (t := 28) ck_X_fills_3 rfl) (gk (k := 96) (t := 29) ck_X_fills_3 rfl) (gk (k := 96) (t := 30) ck_X_fills_3 rfl) rfl
theorem d_X_fills_127 : decode y_X_fills.2.1 127 = .ok (.return_, 1) := op_return_ (gk (k := 96) (t := 31) ck_X_fills_3 rfl)
abbrev y_X_chair : MI := (⟨"SinglesUpModel", "chair", "()I"⟩, prog_11_method_57_code, 1, some .int)
theorem ck_X_chair_0 : (y_X_chair.2.1.data.toList.drop 0).take 32 = [42, 182, 1, 76, 42, 182, 1, 79, 172] := by decide +kernel
theorem d_X_chair_0 : decode y_X_chair.2.1 0 = .ok (.aload_n 0, 1) := op_aload_n0 (gk (k := 0) (t := 0) ck_X_chair_0 rfl)
theorem lk_X_332 : LkV "SinglesUpModel" 332 y_X_fills := ⟨tw_c6 205 (by decide +kernel) rfl, tw_in 65 (by decide +kernel) rfl, Or.inl (tw_c6 203 (by decide +kernel) rfl)⟩
set_option maxRecDepth 100000 in
theorem mo_X_fills : MOk y_X_fills 0 := ⟨by decide +kernel, tw_c6 206 rfl rfl, tw_c1 12 (by decide +kernel) rfl, by decide +kernel, by decide +kernel, by decide +kernel⟩
theorem d_X_chair_1 : decode y_X_chair.2.1 1 = .ok (.invokevirtual 332, 3) := op_invokevirtual (gk (k := 0) (t := 1) ck_X_chair_0 rfl) (gk (k := 0) (t := 2) ck_X_chair_0 rfl) (gk (k := 0) (t := 3) ck_X_chair_0 rfl) rfl
theorem d_X_chair_4 : decode y_X_chair.2.1 4 = .ok (.aload_n 0, 1) := op_aload_n0 (gk (k := 0) (t := 4) ck_X_chair_0 rfl)
theorem d_X_chair_5 : decode y_X_chair.2.1 5 = .ok (.invokevirtual 335, 3) := op_invokevirtual (gk (k := 0) (t := 5) ck_X_chair_0 rfl) (gk (k := 0) (t := 6) ck_X_chair_0 rfl) (gk (k := 0) (t := 7) ck_X_chair_0 rfl) rfl
theorem d_X_chair_8 : decode y_X_chair.2.1 8 = .ok (.ireturn, 1) := op_ireturn (gk (k := 0) (t := 8) ck_X_chair_0 rfl)
abbrev y_X_turn : MI := (⟨"SinglesUpModel", "turn", "()I"⟩, prog_11_method_58_code, 3, some .int)
theorem ck_X_turn_0 : (y_X_turn.2.1.data.toList.drop 0).take 32 = [3, 60, 27, 16, 8, 162, 0, 72, 16, 26, 7, 27, 104, 96, 61, 42, 180, 0, 7, 28, 6, 96, 46, 158, 0, 48, 42, 17, 3, 232, 182, 1] := by decide +kernel
theorem d_X_turn_0 : decode y_X_turn.2.1 0 = .ok (.iconst 0, 1) := op_iconst0 (gk (k := 0) (t := 0) ck_X_turn_0 rfl)
theorem d_X_turn_1 : decode y_X_turn.2.1 1 = .ok (.istore_n 1, 1) := op_istore_n1 (gk (k := 0) (t := 1) ck_X_turn_0 rfl)
theorem d_X_turn_2 : decode y_X_turn.2.1 2 = .ok (.iload_n 1, 1) := op_iload_n1 (gk (k := 0) (t := 2) ck_X_turn_0 rfl)
theorem d_X_turn_3 : decode y_X_turn.2.1 3 = .ok (.bipush 8, 2) := op_bipush (gk (k := 0) (t := 3) ck_X_turn_0 rfl) (gk (k := 0) (t := 4) ck_X_turn_0 rfl) rfl
theorem d_X_turn_5 : decode y_X_turn.2.1 5 = .ok (.if_icmp .ge 72, 3) := op_icmp_ge (gk (k := 0) (t := 5) ck_X_turn_0 rfl) (gk (k := 0) (t := 6) ck_X_turn_0 rfl) (gk (k := 0) (t := 7) ck_X_turn_0 rfl) (by decide +kernel)
theorem d_X_turn_8 : decode y_X_turn.2.1 8 = .ok (.bipush 26, 2) := op_bipush (gk (k := 0) (t := 8) ck_X_turn_0 rfl) (gk (k := 0) (t := 9) ck_X_turn_0 rfl) rfl
theorem d_X_turn_10 : decode y_X_turn.2.1 10 = .ok (.iconst 4, 1) := op_iconst4 (gk (k := 0) (t := 10) ck_X_turn_0 rfl)
theorem d_X_turn_11 : decode y_X_turn.2.1 11 = .ok (.iload_n 1, 1) := op_iload_n1 (gk (k := 0) (t := 11) ck_X_turn_0 rfl)
theorem d_X_turn_12 : decode y_X_turn.2.1 12 = .ok (.imul, 1) := op_imul (gk (k := 0) (t := 12) ck_X_turn_0 rfl)
theorem d_X_turn_13 : decode y_X_turn.2.1 13 = .ok (.iadd, 1) := op_iadd (gk (k := 0) (t := 13) ck_X_turn_0 rfl)
theorem d_X_turn_14 : decode y_X_turn.2.1 14 = .ok (.istore_n 2, 1) := op_istore_n2 (gk (k := 0) (t := 14) ck_X_turn_0 rfl)
theorem d_X_turn_15 : decode y_X_turn.2.1 15 = .ok (.aload_n 0, 1) := op_aload_n0 (gk (k := 0) (t := 15) ck_X_turn_0 rfl)
theorem d_X_turn_16 : decode y_X_turn.2.1 16 = .ok (.getfield 7, 3) := op_getfield (gk (k := 0) (t := 16) ck_X_turn_0 rfl) (gk (k := 0) (t := 17) ck_X_turn_0 rfl) (gk (k := 0) (t := 18) ck_X_turn_0 rfl) rfl
theorem d_X_turn_19 : decode y_X_turn.2.1 19 = .ok (.iload_n 2, 1) := op_iload_n2 (gk (k := 0) (t := 19) ck_X_turn_0 rfl)
theorem d_X_turn_20 : decode y_X_turn.2.1 20 = .ok (.iconst 3, 1) := op_iconst3 (gk (k := 0) (t := 20) ck_X_turn_0 rfl)
theorem d_X_turn_21 : decode y_X_turn.2.1 21 = .ok (.iadd, 1) := op_iadd (gk (k := 0) (t := 21) ck_X_turn_0 rfl)
theorem d_X_turn_22 : decode y_X_turn.2.1 22 = .ok (.iaload, 1) := op_iaload (gk (k := 0) (t := 22) ck_X_turn_0 rfl)
theorem ck_X_turn_2 : (y_X_turn.2.1.data.toList.drop 64).take 32 = [5, 96, 46, 182, 1, 25, 87, 132, 1, 1, 167, 255, 184, 42, 182, 1, 82, 172] := by decide +kernel
theorem d_X_turn_71 : decode y_X_turn.2.1 71 = .ok (.iinc 1 1, 3) := op_iinc (gk (k := 64) (t := 7) ck_X_turn_2 rfl) (gk (k := 64) (t := 8) ck_X_turn_2 rfl) (gk (k := 64) (t := 9) ck_X_turn_2 rfl) rfl rfl
theorem d_X_turn_74 : decode y_X_turn.2.1 74 = .ok (.goto (-72), 3) := op_goto (gk (k := 64) (t := 10) ck_X_turn_2 rfl) (gk (k := 64) (t := 11) ck_X_turn_2 rfl) (gk (k := 64) (t := 12) ck_X_turn_2 rfl) (by decide +kernel)
theorem d_X_turn_23 : decode y_X_turn.2.1 23 = .ok (.ifCond .le 48, 3) := op_if_le (gk (k := 0) (t := 23) ck_X_turn_0 rfl) (gk (k := 0) (t := 24) ck_X_turn_0 rfl) (gk (k := 0) (t := 25) ck_X_turn_0 rfl) (by decide +kernel)
theorem d_X_turn_26 : decode y_X_turn.2.1 26 = .ok (.aload_n 0, 1) := op_aload_n0 (gk (k := 0) (t := 26) ck_X_turn_0 rfl)
theorem d_X_turn_27 : decode y_X_turn.2.1 27 = .ok (.sipush 1000, 3) := op_sipush (gk (k := 0) (t := 27) ck_X_turn_0 rfl) (gk (k := 0) (t := 28) ck_X_turn_0 rfl) (gk (k := 0) (t := 29) ck_X_turn_0 rfl) (by decide +kernel)
theorem ck_X_turn_1 : (y_X_turn.2.1.data.toList.drop 32).take 32 = [73, 42, 180, 0, 7, 28, 6, 96, 46, 162, 0, 30, 42, 42, 180, 0, 7, 28, 46, 42, 180, 0, 7, 28, 4, 96, 46, 42, 180, 0, 7, 28] := by decide +kernel
theorem d_X_turn_30 : decode y_X_turn.2.1 30 = .ok (.invokevirtual 329, 3) := op_invokevirtual (gk (k := 0) (t := 30) ck_X_turn_0 rfl) (gk (k := 0) (t := 31) ck_X_turn_0 rfl) (gk (k := 32) (t := 0) ck_X_turn_1 rfl) rfl
theorem d_X_turn_33 : decode y_X_turn.2.1 33 = .ok (.aload_n 0, 1) := op_aload_n0 (gk (k := 32) (t := 1) ck_X_turn_1 rfl)
theorem d_X_turn_34 : decode y_X_turn.2.1 34 = .ok (.getfield 7, 3) := op_getfield (gk (k := 32) (t := 2) ck_X_turn_1 rfl) (gk (k := 32) (t := 3) ck_X_turn_1 rfl) (gk (k := 32) (t := 4) ck_X_turn_1 rfl) rfl
theorem d_X_turn_37 : decode y_X_turn.2.1 37 = .ok (.iload_n 2, 1) := op_iload_n2 (gk (k := 32) (t := 5) ck_X_turn_1 rfl)
theorem d_X_turn_38 : decode y_X_turn.2.1 38 = .ok (.iconst 3, 1) := op_iconst3 (gk (k := 32) (t := 6) ck_X_turn_1 rfl)
theorem d_X_turn_39 : decode y_X_turn.2.1 39 = .ok (.iadd, 1) := op_iadd (gk (k := 32) (t := 7) ck_X_turn_1 rfl)
theorem d_X_turn_40 : decode y_X_turn.2.1 40 = .ok (.iaload, 1) := op_iaload (gk (k := 32) (t := 8) ck_X_turn_1 rfl)
theorem d_X_turn_41 : decode y_X_turn.2.1 41 = .ok (.if_icmp .ge 30, 3) := op_icmp_ge (gk (k := 32) (t := 9) ck_X_turn_1 rfl) (gk (k := 32) (t := 10) ck_X_turn_1 rfl) (gk (k := 32) (t := 11) ck_X_turn_1 rfl) (by decide +kernel)
theorem d_X_turn_44 : decode y_X_turn.2.1 44 = .ok (.aload_n 0, 1) := op_aload_n0 (gk (k := 32) (t := 12) ck_X_turn_1 rfl)
theorem d_X_turn_45 : decode y_X_turn.2.1 45 = .ok (.aload_n 0, 1) := op_aload_n0 (gk (k := 32) (t := 13) ck_X_turn_1 rfl)
theorem d_X_turn_46 : decode y_X_turn.2.1 46 = .ok (.getfield 7, 3) := op_getfield (gk (k := 32) (t := 14) ck_X_turn_1 rfl) (gk (k := 32) (t := 15) ck_X_turn_1 rfl) (gk (k := 32) (t := 16) ck_X_turn_1 rfl) rfl
theorem d_X_turn_49 : decode y_X_turn.2.1 49 = .ok (.iload_n 2, 1) := op_iload_n2 (gk (k := 32) (t := 17) ck_X_turn_1 rfl)
theorem d_X_turn_50 : decode y_X_turn.2.1 50 = .ok (.iaload, 1) := op_iaload (gk (k := 32) (t := 18) ck_X_turn_1 rfl)
theorem d_X_turn_51 : decode y_X_turn.2.1 51 = .ok (.aload_n 0, 1) := op_aload_n0 (gk (k := 32) (t := 19) ck_X_turn_1 rfl)
theorem d_X_turn_52 : decode y_X_turn.2.1 52 = .ok (.getfield 7, 3) := op_getfield (gk (k := 32) (t := 20) ck_X_turn_1 rfl) (gk (k := 32) (t := 21) ck_X_turn_1 rfl) (gk (k := 32) (t := 22) ck_X_turn_1 rfl) rfl
theorem d_X_turn_55 : decode y_X_turn.2.1 55 = .ok (.iload_n 2, 1) := op_iload_n2 (gk (k := 32) (t := 23) ck_X_turn_1 rfl)
theorem d_X_turn_56 : decode y_X_turn.2.1 56 = .ok (.iconst 1, 1) := op_iconst1 (gk (k := 32) (t := 24) ck_X_turn_1 rfl)
theorem d_X_turn_57 : decode y_X_turn.2.1 57 = .ok (.iadd, 1) := op_iadd (gk (k := 32) (t := 25) ck_X_turn_1 rfl)
theorem d_X_turn_58 : decode y_X_turn.2.1 58 = .ok (.iaload, 1) := op_iaload (gk (k := 32) (t := 26) ck_X_turn_1 rfl)
theorem d_X_turn_59 : decode y_X_turn.2.1 59 = .ok (.aload_n 0, 1) := op_aload_n0 (gk (k := 32) (t := 27) ck_X_turn_1 rfl)
theorem d_X_turn_60 : decode y_X_turn.2.1 60 = .ok (.getfield 7, 3) := op_getfield (gk (k := 32) (t := 28) ck_X_turn_1 rfl) (gk (k := 32) (t := 29) ck_X_turn_1 rfl) (gk (k := 32) (t := 30) ck_X_turn_1 rfl) rfl
theorem d_X_turn_63 : decode y_X_turn.2.1 63 = .ok (.iload_n 2, 1) := op_iload_n2 (gk (k := 32) (t := 31) ck_X_turn_1 rfl)
theorem d_X_turn_64 : decode y_X_turn.2.1 64 = .ok (.iconst 2, 1) := op_iconst2 (gk (k := 64) (t := 0) ck_X_turn_2 rfl)
theorem d_X_turn_65 : decode y_X_turn.2.1 65 = .ok (.iadd, 1) := op_iadd (gk (k := 64) (t := 1) ck_X_turn_2 rfl)
theorem d_X_turn_66 : decode y_X_turn.2.1 66 = .ok (.iaload, 1) := op_iaload (gk (k := 64) (t := 2) ck_X_turn_2 rfl)
theorem d_X_turn_67 : decode y_X_turn.2.1 67 = .ok (.invokevirtual 281, 3) := op_invokevirtual (gk (k := 64) (t := 3) ck_X_turn_2 rfl) (gk (k := 64) (t := 4) ck_X_turn_2 rfl) (gk (k := 64) (t := 5) ck_X_turn_2 rfl) rfl
theorem d_X_turn_70 : decode y_X_turn.2.1 70 = .ok (.pop, 1) := op_pop (gk (k := 64) (t := 6) ck_X_turn_2 rfl)
theorem d_X_turn_77 : decode y_X_turn.2.1 77 = .ok (.aload_n 0, 1) := op_aload_n0 (gk (k := 64) (t := 13) ck_X_turn_2 rfl)
theorem lk_X_338 : LkV "SinglesUpModel" 338 y_X_chair := ⟨tw_c6 200 (by decide +kernel) rfl, tw_c6 201 (by decide +kernel) rfl, Or.inl (tw_c7 17 (by decide +kernel) rfl)⟩
set_option maxRecDepth 100000 in
theorem mo_X_chair : MOk y_X_chair 0 := ⟨by decide +kernel, tw_c6 202 rfl rfl, tw_c1 12 (by decide +kernel) rfl, by decide +kernel, by decide +kernel, by decide +kernel⟩
theorem d_X_turn_78 : decode y_X_turn.2.1 78 = .ok (.invokevirtual 338, 3) := op_invokevirtual (gk (k := 64) (t := 14) ck_X_turn_2 rfl) (gk (k := 64) (t := 15) ck_X_turn_2 rfl) (gk (k := 64) (t := 16) ck_X_turn_2 rfl) rfl
theorem d_X_turn_81 : decode y_X_turn.2.1 81 = .ok (.ireturn, 1) := op_ireturn (gk (k := 64) (t := 17) ck_X_turn_2 rfl)
abbrev y_X_run : MI := (⟨"SinglesUpModel", "run", "(I)I"⟩, prog_11_method_59_code, 4, some .int)
theorem ck_X_run_0 : (y_X_run.2.1.data.toList.drop 0).take 32 = [27, 4, 16, 60, 184, 0, 98, 154, 0, 5, 2, 172, 3, 61, 3, 62, 29, 27, 162, 0, 16, 28, 42, 182, 1, 85, 96, 61, 132, 3, 1, 167] := by decide +kernel
theorem d_X_run_0 : decode y_X_run.2.1 0 = .ok (.iload_n 1, 1) := op_iload_n1 (gk (k := 0) (t := 0) ck_X_run_0 rfl)
theorem d_X_run_1 : decode y_X_run.2.1 1 = .ok (.iconst 1, 1) := op_iconst1 (gk (k := 0) (t := 1) ck_X_run_0 rfl)
theorem d_X_run_2 : decode y_X_run.2.1 2 = .ok (.bipush 60, 2) := op_bipush (gk (k := 0) (t := 2) ck_X_run_0 rfl) (gk (k := 0) (t := 3) ck_X_run_0 rfl) rfl
theorem d_X_run_4 : decode y_X_run.2.1 4 = .ok (.invokestatic 98, 3) := op_invokestatic (gk (k := 0) (t := 4) ck_X_run_0 rfl) (gk (k := 0) (t := 5) ck_X_run_0 rfl) (gk (k := 0) (t := 6) ck_X_run_0 rfl) rfl
theorem d_X_run_7 : decode y_X_run.2.1 7 = .ok (.ifCond .ne 5, 3) := op_if_ne (gk (k := 0) (t := 7) ck_X_run_0 rfl) (gk (k := 0) (t := 8) ck_X_run_0 rfl) (gk (k := 0) (t := 9) ck_X_run_0 rfl) (by decide +kernel)
theorem d_X_run_12 : decode y_X_run.2.1 12 = .ok (.iconst 0, 1) := op_iconst0 (gk (k := 0) (t := 12) ck_X_run_0 rfl)
theorem d_X_run_13 : decode y_X_run.2.1 13 = .ok (.istore_n 2, 1) := op_istore_n2 (gk (k := 0) (t := 13) ck_X_run_0 rfl)
theorem d_X_run_14 : decode y_X_run.2.1 14 = .ok (.iconst 0, 1) := op_iconst0 (gk (k := 0) (t := 14) ck_X_run_0 rfl)
theorem d_X_run_15 : decode y_X_run.2.1 15 = .ok (.istore_n 3, 1) := op_istore_n3 (gk (k := 0) (t := 15) ck_X_run_0 rfl)
theorem d_X_run_16 : decode y_X_run.2.1 16 = .ok (.iload_n 3, 1) := op_iload_n3 (gk (k := 0) (t := 16) ck_X_run_0 rfl)
theorem d_X_run_17 : decode y_X_run.2.1 17 = .ok (.iload_n 1, 1) := op_iload_n1 (gk (k := 0) (t := 17) ck_X_run_0 rfl)
theorem d_X_run_18 : decode y_X_run.2.1 18 = .ok (.if_icmp .ge 16, 3) := op_icmp_ge (gk (k := 0) (t := 18) ck_X_run_0 rfl) (gk (k := 0) (t := 19) ck_X_run_0 rfl) (gk (k := 0) (t := 20) ck_X_run_0 rfl) (by decide +kernel)
theorem ck_X_run_1 : (y_X_run.2.1.data.toList.drop 32).take 32 = [255, 241, 28, 172] := by decide +kernel
theorem d_X_run_34 : decode y_X_run.2.1 34 = .ok (.iload_n 2, 1) := op_iload_n2 (gk (k := 32) (t := 2) ck_X_run_1 rfl)
theorem d_X_run_35 : decode y_X_run.2.1 35 = .ok (.ireturn, 1) := op_ireturn (gk (k := 32) (t := 3) ck_X_run_1 rfl)
theorem d_X_run_21 : decode y_X_run.2.1 21 = .ok (.iload_n 2, 1) := op_iload_n2 (gk (k := 0) (t := 21) ck_X_run_0 rfl)
theorem d_X_run_22 : decode y_X_run.2.1 22 = .ok (.aload_n 0, 1) := op_aload_n0 (gk (k := 0) (t := 22) ck_X_run_0 rfl)
theorem lk_X_341 : LkV "SinglesUpModel" 341 y_X_turn := ⟨tw_c7 15 (by decide +kernel) rfl, tw_in 76 (by decide +kernel) rfl, Or.inl (tw_c7 13 (by decide +kernel) rfl)⟩
set_option maxRecDepth 100000 in
theorem mo_X_turn : MOk y_X_turn 0 := ⟨by decide +kernel, tw_c7 16 rfl rfl, tw_c1 12 (by decide +kernel) rfl, by decide +kernel, by decide +kernel, by decide +kernel⟩
theorem d_X_run_23 : decode y_X_run.2.1 23 = .ok (.invokevirtual 341, 3) := op_invokevirtual (gk (k := 0) (t := 23) ck_X_run_0 rfl) (gk (k := 0) (t := 24) ck_X_run_0 rfl) (gk (k := 0) (t := 25) ck_X_run_0 rfl) rfl
theorem d_X_run_26 : decode y_X_run.2.1 26 = .ok (.iadd, 1) := op_iadd (gk (k := 0) (t := 26) ck_X_run_0 rfl)
theorem d_X_run_27 : decode y_X_run.2.1 27 = .ok (.istore_n 2, 1) := op_istore_n2 (gk (k := 0) (t := 27) ck_X_run_0 rfl)
theorem d_X_run_28 : decode y_X_run.2.1 28 = .ok (.iinc 3 1, 3) := op_iinc (gk (k := 0) (t := 28) ck_X_run_0 rfl) (gk (k := 0) (t := 29) ck_X_run_0 rfl) (gk (k := 0) (t := 30) ck_X_run_0 rfl) rfl rfl
theorem d_X_run_31 : decode y_X_run.2.1 31 = .ok (.goto (-15), 3) := op_goto (gk (k := 0) (t := 31) ck_X_run_0 rfl) (gk (k := 32) (t := 0) ck_X_run_1 rfl) (gk (k := 32) (t := 1) ck_X_run_1 rfl) (by decide +kernel)
theorem d_X_run_10 : decode y_X_run.2.1 10 = .ok (.iconst (-1), 1) := op_iconstm1 (gk (k := 0) (t := 10) ck_X_run_0 rfl)
theorem d_X_run_11 : decode y_X_run.2.1 11 = .ok (.ireturn, 1) := op_ireturn (gk (k := 0) (t := 11) ck_X_run_0 rfl)
abbrev y_X_last : MI := (⟨"SinglesUpModel", "last", "(I)I"⟩, prog_11_method_60_code, 3, some .int)
theorem ck_X_last_0 : (y_X_last.2.1.data.toList.drop 0).take 32 = [42, 180, 0, 7, 16, 110, 46, 61, 28, 2, 160, 0, 5, 2, 172, 27, 16, 10, 16, 9, 28, 96, 184, 0, 98, 153, 0, 16, 42, 180, 0, 7] := by decide +kernel
theorem d_X_last_0 : decode y_X_last.2.1 0 = .ok (.aload_n 0, 1) := op_aload_n0 (gk (k := 0) (t := 0) ck_X_last_0 rfl)
theorem d_X_last_1 : decode y_X_last.2.1 1 = .ok (.getfield 7, 3) := op_getfield (gk (k := 0) (t := 1) ck_X_last_0 rfl) (gk (k := 0) (t := 2) ck_X_last_0 rfl) (gk (k := 0) (t := 3) ck_X_last_0 rfl) rfl
theorem d_X_last_4 : decode y_X_last.2.1 4 = .ok (.bipush 110, 2) := op_bipush (gk (k := 0) (t := 4) ck_X_last_0 rfl) (gk (k := 0) (t := 5) ck_X_last_0 rfl) rfl
theorem d_X_last_6 : decode y_X_last.2.1 6 = .ok (.iaload, 1) := op_iaload (gk (k := 0) (t := 6) ck_X_last_0 rfl)
theorem d_X_last_7 : decode y_X_last.2.1 7 = .ok (.istore_n 2, 1) := op_istore_n2 (gk (k := 0) (t := 7) ck_X_last_0 rfl)
theorem d_X_last_8 : decode y_X_last.2.1 8 = .ok (.iload_n 2, 1) := op_iload_n2 (gk (k := 0) (t := 8) ck_X_last_0 rfl)
theorem d_X_last_9 : decode y_X_last.2.1 9 = .ok (.iconst (-1), 1) := op_iconstm1 (gk (k := 0) (t := 9) ck_X_last_0 rfl)
theorem d_X_last_10 : decode y_X_last.2.1 10 = .ok (.if_icmp .ne 5, 3) := op_icmp_ne (gk (k := 0) (t := 10) ck_X_last_0 rfl) (gk (k := 0) (t := 11) ck_X_last_0 rfl) (gk (k := 0) (t := 12) ck_X_last_0 rfl) (by decide +kernel)
theorem d_X_last_15 : decode y_X_last.2.1 15 = .ok (.iload_n 1, 1) := op_iload_n1 (gk (k := 0) (t := 15) ck_X_last_0 rfl)
theorem d_X_last_16 : decode y_X_last.2.1 16 = .ok (.bipush 10, 2) := op_bipush (gk (k := 0) (t := 16) ck_X_last_0 rfl) (gk (k := 0) (t := 17) ck_X_last_0 rfl) rfl
theorem d_X_last_18 : decode y_X_last.2.1 18 = .ok (.bipush 9, 2) := op_bipush (gk (k := 0) (t := 18) ck_X_last_0 rfl) (gk (k := 0) (t := 19) ck_X_last_0 rfl) rfl
theorem d_X_last_20 : decode y_X_last.2.1 20 = .ok (.iload_n 2, 1) := op_iload_n2 (gk (k := 0) (t := 20) ck_X_last_0 rfl)
theorem d_X_last_21 : decode y_X_last.2.1 21 = .ok (.iadd, 1) := op_iadd (gk (k := 0) (t := 21) ck_X_last_0 rfl)
theorem d_X_last_22 : decode y_X_last.2.1 22 = .ok (.invokestatic 98, 3) := op_invokestatic (gk (k := 0) (t := 22) ck_X_last_0 rfl) (gk (k := 0) (t := 23) ck_X_last_0 rfl) (gk (k := 0) (t := 24) ck_X_last_0 rfl) rfl
theorem d_X_last_25 : decode y_X_last.2.1 25 = .ok (.ifCond .eq 16, 3) := op_if_eq (gk (k := 0) (t := 25) ck_X_last_0 rfl) (gk (k := 0) (t := 26) ck_X_last_0 rfl) (gk (k := 0) (t := 27) ck_X_last_0 rfl) (by decide +kernel)
theorem ck_X_last_1 : (y_X_last.2.1.data.toList.drop 32).take 32 = [16, 112, 27, 96, 16, 10, 100, 46, 172, 27, 16, 20, 16, 19, 28, 96, 184, 0, 98, 153, 0, 16, 42, 180, 0, 7, 16, 120, 27, 96, 16, 20] := by decide +kernel
theorem d_X_last_41 : decode y_X_last.2.1 41 = .ok (.iload_n 1, 1) := op_iload_n1 (gk (k := 32) (t := 9) ck_X_last_1 rfl)
theorem d_X_last_42 : decode y_X_last.2.1 42 = .ok (.bipush 20, 2) := op_bipush (gk (k := 32) (t := 10) ck_X_last_1 rfl) (gk (k := 32) (t := 11) ck_X_last_1 rfl) rfl
theorem d_X_last_44 : decode y_X_last.2.1 44 = .ok (.bipush 19, 2) := op_bipush (gk (k := 32) (t := 12) ck_X_last_1 rfl) (gk (k := 32) (t := 13) ck_X_last_1 rfl) rfl
theorem d_X_last_46 : decode y_X_last.2.1 46 = .ok (.iload_n 2, 1) := op_iload_n2 (gk (k := 32) (t := 14) ck_X_last_1 rfl)
theorem d_X_last_47 : decode y_X_last.2.1 47 = .ok (.iadd, 1) := op_iadd (gk (k := 32) (t := 15) ck_X_last_1 rfl)
theorem d_X_last_48 : decode y_X_last.2.1 48 = .ok (.invokestatic 98, 3) := op_invokestatic (gk (k := 32) (t := 16) ck_X_last_1 rfl) (gk (k := 32) (t := 17) ck_X_last_1 rfl) (gk (k := 32) (t := 18) ck_X_last_1 rfl) rfl
theorem d_X_last_51 : decode y_X_last.2.1 51 = .ok (.ifCond .eq 16, 3) := op_if_eq (gk (k := 32) (t := 19) ck_X_last_1 rfl) (gk (k := 32) (t := 20) ck_X_last_1 rfl) (gk (k := 32) (t := 21) ck_X_last_1 rfl) (by decide +kernel)
theorem ck_X_last_2 : (y_X_last.2.1.data.toList.drop 64).take 32 = [100, 46, 172, 27, 154, 0, 7, 28, 167, 0, 19, 27, 4, 160, 0, 13, 42, 180, 0, 7, 16, 111, 46, 167, 0, 4, 2, 172] := by decide +kernel
theorem d_X_last_67 : decode y_X_last.2.1 67 = .ok (.iload_n 1, 1) := op_iload_n1 (gk (k := 64) (t := 3) ck_X_last_2 rfl)
theorem d_X_last_68 : decode y_X_last.2.1 68 = .ok (.ifCond .ne 7, 3) := op_if_ne (gk (k := 64) (t := 4) ck_X_last_2 rfl) (gk (k := 64) (t := 5) ck_X_last_2 rfl) (gk (k := 64) (t := 6) ck_X_last_2 rfl) (by decide +kernel)
theorem d_X_last_75 : decode y_X_last.2.1 75 = .ok (.iload_n 1, 1) := op_iload_n1 (gk (k := 64) (t := 11) ck_X_last_2 rfl)
theorem d_X_last_76 : decode y_X_last.2.1 76 = .ok (.iconst 1, 1) := op_iconst1 (gk (k := 64) (t := 12) ck_X_last_2 rfl)
theorem d_X_last_77 : decode y_X_last.2.1 77 = .ok (.if_icmp .ne 13, 3) := op_icmp_ne (gk (k := 64) (t := 13) ck_X_last_2 rfl) (gk (k := 64) (t := 14) ck_X_last_2 rfl) (gk (k := 64) (t := 15) ck_X_last_2 rfl) (by decide +kernel)
theorem d_X_last_90 : decode y_X_last.2.1 90 = .ok (.iconst (-1), 1) := op_iconstm1 (gk (k := 64) (t := 26) ck_X_last_2 rfl)
theorem d_X_last_91 : decode y_X_last.2.1 91 = .ok (.ireturn, 1) := op_ireturn (gk (k := 64) (t := 27) ck_X_last_2 rfl)
theorem d_X_last_80 : decode y_X_last.2.1 80 = .ok (.aload_n 0, 1) := op_aload_n0 (gk (k := 64) (t := 16) ck_X_last_2 rfl)
theorem d_X_last_81 : decode y_X_last.2.1 81 = .ok (.getfield 7, 3) := op_getfield (gk (k := 64) (t := 17) ck_X_last_2 rfl) (gk (k := 64) (t := 18) ck_X_last_2 rfl) (gk (k := 64) (t := 19) ck_X_last_2 rfl) rfl
theorem d_X_last_84 : decode y_X_last.2.1 84 = .ok (.bipush 111, 2) := op_bipush (gk (k := 64) (t := 20) ck_X_last_2 rfl) (gk (k := 64) (t := 21) ck_X_last_2 rfl) rfl
theorem d_X_last_86 : decode y_X_last.2.1 86 = .ok (.iaload, 1) := op_iaload (gk (k := 64) (t := 22) ck_X_last_2 rfl)
theorem d_X_last_87 : decode y_X_last.2.1 87 = .ok (.goto 4, 3) := op_goto (gk (k := 64) (t := 23) ck_X_last_2 rfl) (gk (k := 64) (t := 24) ck_X_last_2 rfl) (gk (k := 64) (t := 25) ck_X_last_2 rfl) (by decide +kernel)
theorem d_X_last_71 : decode y_X_last.2.1 71 = .ok (.iload_n 2, 1) := op_iload_n2 (gk (k := 64) (t := 7) ck_X_last_2 rfl)
theorem d_X_last_72 : decode y_X_last.2.1 72 = .ok (.goto 19, 3) := op_goto (gk (k := 64) (t := 8) ck_X_last_2 rfl) (gk (k := 64) (t := 9) ck_X_last_2 rfl) (gk (k := 64) (t := 10) ck_X_last_2 rfl) (by decide +kernel)
theorem d_X_last_54 : decode y_X_last.2.1 54 = .ok (.aload_n 0, 1) := op_aload_n0 (gk (k := 32) (t := 22) ck_X_last_1 rfl)
theorem d_X_last_55 : decode y_X_last.2.1 55 = .ok (.getfield 7, 3) := op_getfield (gk (k := 32) (t := 23) ck_X_last_1 rfl) (gk (k := 32) (t := 24) ck_X_last_1 rfl) (gk (k := 32) (t := 25) ck_X_last_1 rfl) rfl
theorem d_X_last_58 : decode y_X_last.2.1 58 = .ok (.bipush 120, 2) := op_bipush (gk (k := 32) (t := 26) ck_X_last_1 rfl) (gk (k := 32) (t := 27) ck_X_last_1 rfl) rfl
theorem d_X_last_60 : decode y_X_last.2.1 60 = .ok (.iload_n 1, 1) := op_iload_n1 (gk (k := 32) (t := 28) ck_X_last_1 rfl)
theorem d_X_last_61 : decode y_X_last.2.1 61 = .ok (.iadd, 1) := op_iadd (gk (k := 32) (t := 29) ck_X_last_1 rfl)
theorem d_X_last_62 : decode y_X_last.2.1 62 = .ok (.bipush 20, 2) := op_bipush (gk (k := 32) (t := 30) ck_X_last_1 rfl) (gk (k := 32) (t := 31) ck_X_last_1 rfl) rfl
theorem d_X_last_64 : decode y_X_last.2.1 64 = .ok (.isub, 1) := op_isub (gk (k := 64) (t := 0) ck_X_last_2 rfl)
theorem d_X_last_65 : decode y_X_last.2.1 65 = .ok (.iaload, 1) := op_iaload (gk (k := 64) (t := 1) ck_X_last_2 rfl)
theorem d_X_last_66 : decode y_X_last.2.1 66 = .ok (.ireturn, 1) := op_ireturn (gk (k := 64) (t := 2) ck_X_last_2 rfl)
theorem d_X_last_28 : decode y_X_last.2.1 28 = .ok (.aload_n 0, 1) := op_aload_n0 (gk (k := 0) (t := 28) ck_X_last_0 rfl)
theorem d_X_last_29 : decode y_X_last.2.1 29 = .ok (.getfield 7, 3) := op_getfield (gk (k := 0) (t := 29) ck_X_last_0 rfl) (gk (k := 0) (t := 30) ck_X_last_0 rfl) (gk (k := 0) (t := 31) ck_X_last_0 rfl) rfl
theorem d_X_last_32 : decode y_X_last.2.1 32 = .ok (.bipush 112, 2) := op_bipush (gk (k := 32) (t := 0) ck_X_last_1 rfl) (gk (k := 32) (t := 1) ck_X_last_1 rfl) rfl
theorem d_X_last_34 : decode y_X_last.2.1 34 = .ok (.iload_n 1, 1) := op_iload_n1 (gk (k := 32) (t := 2) ck_X_last_1 rfl)
theorem d_X_last_35 : decode y_X_last.2.1 35 = .ok (.iadd, 1) := op_iadd (gk (k := 32) (t := 3) ck_X_last_1 rfl)
theorem d_X_last_36 : decode y_X_last.2.1 36 = .ok (.bipush 10, 2) := op_bipush (gk (k := 32) (t := 4) ck_X_last_1 rfl) (gk (k := 32) (t := 5) ck_X_last_1 rfl) rfl
theorem d_X_last_38 : decode y_X_last.2.1 38 = .ok (.isub, 1) := op_isub (gk (k := 32) (t := 6) ck_X_last_1 rfl)
theorem d_X_last_39 : decode y_X_last.2.1 39 = .ok (.iaload, 1) := op_iaload (gk (k := 32) (t := 7) ck_X_last_1 rfl)
theorem d_X_last_40 : decode y_X_last.2.1 40 = .ok (.ireturn, 1) := op_ireturn (gk (k := 32) (t := 8) ck_X_last_1 rfl)
theorem d_X_last_13 : decode y_X_last.2.1 13 = .ok (.iconst (-1), 1) := op_iconstm1 (gk (k := 0) (t := 13) ck_X_last_0 rfl)
theorem d_X_last_14 : decode y_X_last.2.1 14 = .ok (.ireturn, 1) := op_ireturn (gk (k := 0) (t := 14) ck_X_last_0 rfl)
abbrev y_X_count : MI := (⟨"SinglesUpModel", "count", "(I)I"⟩, prog_11_method_61_code, 3, some .int)
theorem ck_X_count_0 : (y_X_count.2.1.data.toList.drop 0).take 32 = [27, 3, 16, 6, 184, 0, 98, 153, 0, 13, 42, 180, 0, 7, 16, 70, 27, 96, 46, 172, 27, 16, 41, 16, 48, 184, 0, 98, 153, 0, 51, 42] := by decide +kernel
theorem d_X_count_0 : decode y_X_count.2.1 0 = .ok (.iload_n 1, 1) := op_iload_n1 (gk (k := 0) (t := 0) ck_X_count_0 rfl)
theorem d_X_count_1 : decode y_X_count.2.1 1 = .ok (.iconst 0, 1) := op_iconst0 (gk (k := 0) (t := 1) ck_X_count_0 rfl)
theorem d_X_count_2 : decode y_X_count.2.1 2 = .ok (.bipush 6, 2) := op_bipush (gk (k := 0) (t := 2) ck_X_count_0 rfl) (gk (k := 0) (t := 3) ck_X_count_0 rfl) rfl
theorem d_X_count_4 : decode y_X_count.2.1 4 = .ok (.invokestatic 98, 3) := op_invokestatic (gk (k := 0) (t := 4) ck_X_count_0 rfl) (gk (k := 0) (t := 5) ck_X_count_0 rfl) (gk (k := 0) (t := 6) ck_X_count_0 rfl) rfl
theorem d_X_count_7 : decode y_X_count.2.1 7 = .ok (.ifCond .eq 13, 3) := op_if_eq (gk (k := 0) (t := 7) ck_X_count_0 rfl) (gk (k := 0) (t := 8) ck_X_count_0 rfl) (gk (k := 0) (t := 9) ck_X_count_0 rfl) (by decide +kernel)
theorem d_X_count_20 : decode y_X_count.2.1 20 = .ok (.iload_n 1, 1) := op_iload_n1 (gk (k := 0) (t := 20) ck_X_count_0 rfl)
theorem d_X_count_21 : decode y_X_count.2.1 21 = .ok (.bipush 41, 2) := op_bipush (gk (k := 0) (t := 21) ck_X_count_0 rfl) (gk (k := 0) (t := 22) ck_X_count_0 rfl) rfl
theorem d_X_count_23 : decode y_X_count.2.1 23 = .ok (.bipush 48, 2) := op_bipush (gk (k := 0) (t := 23) ck_X_count_0 rfl) (gk (k := 0) (t := 24) ck_X_count_0 rfl) rfl
theorem d_X_count_25 : decode y_X_count.2.1 25 = .ok (.invokestatic 98, 3) := op_invokestatic (gk (k := 0) (t := 25) ck_X_count_0 rfl) (gk (k := 0) (t := 26) ck_X_count_0 rfl) (gk (k := 0) (t := 27) ck_X_count_0 rfl) rfl
theorem d_X_count_28 : decode y_X_count.2.1 28 = .ok (.ifCond .eq 51, 3) := op_if_eq (gk (k := 0) (t := 28) ck_X_count_0 rfl) (gk (k := 0) (t := 29) ck_X_count_0 rfl) (gk (k := 0) (t := 30) ck_X_count_0 rfl) (by decide +kernel)
theorem ck_X_count_2 : (y_X_count.2.1.data.toList.drop 64).take 32 = [104, 42, 180, 0, 7, 16, 80, 27, 96, 16, 40, 100, 46, 108, 172, 27, 16, 10, 112, 4, 16, 8, 184, 0, 98, 153, 0, 18, 27, 16, 11, 16] := by decide +kernel
theorem d_X_count_79 : decode y_X_count.2.1 79 = .ok (.iload_n 1, 1) := op_iload_n1 (gk (k := 64) (t := 15) ck_X_count_2 rfl)
theorem d_X_count_80 : decode y_X_count.2.1 80 = .ok (.bipush 10, 2) := op_bipush (gk (k := 64) (t := 16) ck_X_count_2 rfl) (gk (k := 64) (t := 17) ck_X_count_2 rfl) rfl
theorem d_X_count_82 : decode y_X_count.2.1 82 = .ok (.irem, 1) := op_irem (gk (k := 64) (t := 18) ck_X_count_2 rfl)
theorem d_X_count_83 : decode y_X_count.2.1 83 = .ok (.iconst 1, 1) := op_iconst1 (gk (k := 64) (t := 19) ck_X_count_2 rfl)
theorem d_X_count_84 : decode y_X_count.2.1 84 = .ok (.bipush 8, 2) := op_bipush (gk (k := 64) (t := 20) ck_X_count_2 rfl) (gk (k := 64) (t := 21) ck_X_count_2 rfl) rfl
theorem d_X_count_86 : decode y_X_count.2.1 86 = .ok (.invokestatic 98, 3) := op_invokestatic (gk (k := 64) (t := 22) ck_X_count_2 rfl) (gk (k := 64) (t := 23) ck_X_count_2 rfl) (gk (k := 64) (t := 24) ck_X_count_2 rfl) rfl
theorem ck_X_count_3 : (y_X_count.2.1.data.toList.drop 96).take 32 = [38, 184, 0, 98, 153, 0, 7, 4, 167, 0, 4, 3, 61, 28, 153, 0, 18, 42, 180, 0, 7, 16, 80, 27, 96, 16, 10, 100, 46, 167, 0, 4] := by decide +kernel
theorem d_X_count_108 : decode y_X_count.2.1 108 = .ok (.istore_n 2, 1) := op_istore_n2 (gk (k := 96) (t := 12) ck_X_count_3 rfl)
theorem d_X_count_109 : decode y_X_count.2.1 109 = .ok (.iload_n 2, 1) := op_iload_n2 (gk (k := 96) (t := 13) ck_X_count_3 rfl)
theorem d_X_count_110 : decode y_X_count.2.1 110 = .ok (.ifCond .eq 18, 3) := op_if_eq (gk (k := 96) (t := 14) ck_X_count_3 rfl) (gk (k := 96) (t := 15) ck_X_count_3 rfl) (gk (k := 96) (t := 16) ck_X_count_3 rfl) (by decide +kernel)
theorem ck_X_count_4 : (y_X_count.2.1.data.toList.drop 128).take 32 = [2, 172] := by decide +kernel
theorem d_X_count_128 : decode y_X_count.2.1 128 = .ok (.iconst (-1), 1) := op_iconstm1 (gk (k := 128) (t := 0) ck_X_count_4 rfl)
theorem d_X_count_129 : decode y_X_count.2.1 129 = .ok (.ireturn, 1) := op_ireturn (gk (k := 128) (t := 1) ck_X_count_4 rfl)
theorem d_X_count_113 : decode y_X_count.2.1 113 = .ok (.aload_n 0, 1) := op_aload_n0 (gk (k := 96) (t := 17) ck_X_count_3 rfl)
theorem d_X_count_114 : decode y_X_count.2.1 114 = .ok (.getfield 7, 3) := op_getfield (gk (k := 96) (t := 18) ck_X_count_3 rfl) (gk (k := 96) (t := 19) ck_X_count_3 rfl) (gk (k := 96) (t := 20) ck_X_count_3 rfl) rfl
theorem d_X_count_117 : decode y_X_count.2.1 117 = .ok (.bipush 80, 2) := op_bipush (gk (k := 96) (t := 21) ck_X_count_3 rfl) (gk (k := 96) (t := 22) ck_X_count_3 rfl) rfl
theorem d_X_count_119 : decode y_X_count.2.1 119 = .ok (.iload_n 1, 1) := op_iload_n1 (gk (k := 96) (t := 23) ck_X_count_3 rfl)
theorem d_X_count_120 : decode y_X_count.2.1 120 = .ok (.iadd, 1) := op_iadd (gk (k := 96) (t := 24) ck_X_count_3 rfl)
theorem d_X_count_121 : decode y_X_count.2.1 121 = .ok (.bipush 10, 2) := op_bipush (gk (k := 96) (t := 25) ck_X_count_3 rfl) (gk (k := 96) (t := 26) ck_X_count_3 rfl) rfl
theorem d_X_count_123 : decode y_X_count.2.1 123 = .ok (.isub, 1) := op_isub (gk (k := 96) (t := 27) ck_X_count_3 rfl)
theorem d_X_count_124 : decode y_X_count.2.1 124 = .ok (.iaload, 1) := op_iaload (gk (k := 96) (t := 28) ck_X_count_3 rfl)
theorem d_X_count_125 : decode y_X_count.2.1 125 = .ok (.goto 4, 3) := op_goto (gk (k := 96) (t := 29) ck_X_count_3 rfl) (gk (k := 96) (t := 30) ck_X_count_3 rfl) (gk (k := 96) (t := 31) ck_X_count_3 rfl) (by decide +kernel)
theorem d_X_count_89 : decode y_X_count.2.1 89 = .ok (.ifCond .eq 18, 3) := op_if_eq (gk (k := 64) (t := 25) ck_X_count_2 rfl) (gk (k := 64) (t := 26) ck_X_count_2 rfl) (gk (k := 64) (t := 27) ck_X_count_2 rfl) (by decide +kernel)
theorem d_X_count_107 : decode y_X_count.2.1 107 = .ok (.iconst 0, 1) := op_iconst0 (gk (k := 96) (t := 11) ck_X_count_3 rfl)
theorem d_X_count_92 : decode y_X_count.2.1 92 = .ok (.iload_n 1, 1) := op_iload_n1 (gk (k := 64) (t := 28) ck_X_count_2 rfl)
theorem d_X_count_93 : decode y_X_count.2.1 93 = .ok (.bipush 11, 2) := op_bipush (gk (k := 64) (t := 29) ck_X_count_2 rfl) (gk (k := 64) (t := 30) ck_X_count_2 rfl) rfl
theorem cb_38 : (Int8.ofInt 38).toInt32 = iv 38 := by decide +kernel
theorem d_X_count_95 : decode y_X_count.2.1 95 = .ok (.bipush 38, 2) := op_bipush (gk (k := 64) (t := 31) ck_X_count_2 rfl) (gk (k := 96) (t := 0) ck_X_count_3 rfl) rfl
theorem in_38 : inr (38) := lit_in rfl
theorem d_X_count_97 : decode y_X_count.2.1 97 = .ok (.invokestatic 98, 3) := op_invokestatic (gk (k := 96) (t := 1) ck_X_count_3 rfl) (gk (k := 96) (t := 2) ck_X_count_3 rfl) (gk (k := 96) (t := 3) ck_X_count_3 rfl) rfl
theorem d_X_count_100 : decode y_X_count.2.1 100 = .ok (.ifCond .eq 7, 3) := op_if_eq (gk (k := 96) (t := 4) ck_X_count_3 rfl) (gk (k := 96) (t := 5) ck_X_count_3 rfl) (gk (k := 96) (t := 6) ck_X_count_3 rfl) (by decide +kernel)
theorem d_X_count_103 : decode y_X_count.2.1 103 = .ok (.iconst 1, 1) := op_iconst1 (gk (k := 96) (t := 7) ck_X_count_3 rfl)
theorem d_X_count_104 : decode y_X_count.2.1 104 = .ok (.goto 4, 3) := op_goto (gk (k := 96) (t := 8) ck_X_count_3 rfl) (gk (k := 96) (t := 9) ck_X_count_3 rfl) (gk (k := 96) (t := 10) ck_X_count_3 rfl) (by decide +kernel)
theorem d_X_count_31 : decode y_X_count.2.1 31 = .ok (.aload_n 0, 1) := op_aload_n0 (gk (k := 0) (t := 31) ck_X_count_0 rfl)
theorem ck_X_count_1 : (y_X_count.2.1.data.toList.drop 32).take 32 = [180, 0, 7, 16, 80, 27, 96, 16, 40, 100, 46, 154, 0, 7, 2, 167, 0, 31, 16, 100, 42, 180, 0, 7, 16, 90, 27, 96, 16, 40, 100, 46] := by decide +kernel
theorem d_X_count_32 : decode y_X_count.2.1 32 = .ok (.getfield 7, 3) := op_getfield (gk (k := 32) (t := 0) ck_X_count_1 rfl) (gk (k := 32) (t := 1) ck_X_count_1 rfl) (gk (k := 32) (t := 2) ck_X_count_1 rfl) rfl
theorem d_X_count_35 : decode y_X_count.2.1 35 = .ok (.bipush 80, 2) := op_bipush (gk (k := 32) (t := 3) ck_X_count_1 rfl) (gk (k := 32) (t := 4) ck_X_count_1 rfl) rfl
theorem d_X_count_37 : decode y_X_count.2.1 37 = .ok (.iload_n 1, 1) := op_iload_n1 (gk (k := 32) (t := 5) ck_X_count_1 rfl)
theorem d_X_count_38 : decode y_X_count.2.1 38 = .ok (.iadd, 1) := op_iadd (gk (k := 32) (t := 6) ck_X_count_1 rfl)
theorem d_X_count_39 : decode y_X_count.2.1 39 = .ok (.bipush 40, 2) := op_bipush (gk (k := 32) (t := 7) ck_X_count_1 rfl) (gk (k := 32) (t := 8) ck_X_count_1 rfl) rfl
theorem d_X_count_41 : decode y_X_count.2.1 41 = .ok (.isub, 1) := op_isub (gk (k := 32) (t := 9) ck_X_count_1 rfl)
theorem d_X_count_42 : decode y_X_count.2.1 42 = .ok (.iaload, 1) := op_iaload (gk (k := 32) (t := 10) ck_X_count_1 rfl)
theorem d_X_count_43 : decode y_X_count.2.1 43 = .ok (.ifCond .ne 7, 3) := op_if_ne (gk (k := 32) (t := 11) ck_X_count_1 rfl) (gk (k := 32) (t := 12) ck_X_count_1 rfl) (gk (k := 32) (t := 13) ck_X_count_1 rfl) (by decide +kernel)
theorem d_X_count_50 : decode y_X_count.2.1 50 = .ok (.bipush 100, 2) := op_bipush (gk (k := 32) (t := 18) ck_X_count_1 rfl) (gk (k := 32) (t := 19) ck_X_count_1 rfl) rfl
theorem d_X_count_52 : decode y_X_count.2.1 52 = .ok (.aload_n 0, 1) := op_aload_n0 (gk (k := 32) (t := 20) ck_X_count_1 rfl)
theorem d_X_count_53 : decode y_X_count.2.1 53 = .ok (.getfield 7, 3) := op_getfield (gk (k := 32) (t := 21) ck_X_count_1 rfl) (gk (k := 32) (t := 22) ck_X_count_1 rfl) (gk (k := 32) (t := 23) ck_X_count_1 rfl) rfl
theorem d_X_count_56 : decode y_X_count.2.1 56 = .ok (.bipush 90, 2) := op_bipush (gk (k := 32) (t := 24) ck_X_count_1 rfl) (gk (k := 32) (t := 25) ck_X_count_1 rfl) rfl
theorem d_X_count_58 : decode y_X_count.2.1 58 = .ok (.iload_n 1, 1) := op_iload_n1 (gk (k := 32) (t := 26) ck_X_count_1 rfl)
theorem d_X_count_59 : decode y_X_count.2.1 59 = .ok (.iadd, 1) := op_iadd (gk (k := 32) (t := 27) ck_X_count_1 rfl)
theorem d_X_count_60 : decode y_X_count.2.1 60 = .ok (.bipush 40, 2) := op_bipush (gk (k := 32) (t := 28) ck_X_count_1 rfl) (gk (k := 32) (t := 29) ck_X_count_1 rfl) rfl
theorem d_X_count_62 : decode y_X_count.2.1 62 = .ok (.isub, 1) := op_isub (gk (k := 32) (t := 30) ck_X_count_1 rfl)
theorem d_X_count_63 : decode y_X_count.2.1 63 = .ok (.iaload, 1) := op_iaload (gk (k := 32) (t := 31) ck_X_count_1 rfl)
theorem d_X_count_64 : decode y_X_count.2.1 64 = .ok (.imul, 1) := op_imul (gk (k := 64) (t := 0) ck_X_count_2 rfl)
theorem d_X_count_65 : decode y_X_count.2.1 65 = .ok (.aload_n 0, 1) := op_aload_n0 (gk (k := 64) (t := 1) ck_X_count_2 rfl)
theorem d_X_count_66 : decode y_X_count.2.1 66 = .ok (.getfield 7, 3) := op_getfield (gk (k := 64) (t := 2) ck_X_count_2 rfl) (gk (k := 64) (t := 3) ck_X_count_2 rfl) (gk (k := 64) (t := 4) ck_X_count_2 rfl) rfl
theorem d_X_count_69 : decode y_X_count.2.1 69 = .ok (.bipush 80, 2) := op_bipush (gk (k := 64) (t := 5) ck_X_count_2 rfl) (gk (k := 64) (t := 6) ck_X_count_2 rfl) rfl
theorem d_X_count_71 : decode y_X_count.2.1 71 = .ok (.iload_n 1, 1) := op_iload_n1 (gk (k := 64) (t := 7) ck_X_count_2 rfl)
theorem d_X_count_72 : decode y_X_count.2.1 72 = .ok (.iadd, 1) := op_iadd (gk (k := 64) (t := 8) ck_X_count_2 rfl)
theorem d_X_count_73 : decode y_X_count.2.1 73 = .ok (.bipush 40, 2) := op_bipush (gk (k := 64) (t := 9) ck_X_count_2 rfl) (gk (k := 64) (t := 10) ck_X_count_2 rfl) rfl
theorem d_X_count_75 : decode y_X_count.2.1 75 = .ok (.isub, 1) := op_isub (gk (k := 64) (t := 11) ck_X_count_2 rfl)
theorem d_X_count_76 : decode y_X_count.2.1 76 = .ok (.iaload, 1) := op_iaload (gk (k := 64) (t := 12) ck_X_count_2 rfl)
theorem d_X_count_77 : decode y_X_count.2.1 77 = .ok (.idiv, 1) := op_idiv (gk (k := 64) (t := 13) ck_X_count_2 rfl)
theorem d_X_count_78 : decode y_X_count.2.1 78 = .ok (.ireturn, 1) := op_ireturn (gk (k := 64) (t := 14) ck_X_count_2 rfl)
theorem d_X_count_46 : decode y_X_count.2.1 46 = .ok (.iconst (-1), 1) := op_iconstm1 (gk (k := 32) (t := 14) ck_X_count_1 rfl)
theorem d_X_count_47 : decode y_X_count.2.1 47 = .ok (.goto 31, 3) := op_goto (gk (k := 32) (t := 15) ck_X_count_1 rfl) (gk (k := 32) (t := 16) ck_X_count_1 rfl) (gk (k := 32) (t := 17) ck_X_count_1 rfl) (by decide +kernel)
theorem d_X_count_10 : decode y_X_count.2.1 10 = .ok (.aload_n 0, 1) := op_aload_n0 (gk (k := 0) (t := 10) ck_X_count_0 rfl)
theorem d_X_count_11 : decode y_X_count.2.1 11 = .ok (.getfield 7, 3) := op_getfield (gk (k := 0) (t := 11) ck_X_count_0 rfl) (gk (k := 0) (t := 12) ck_X_count_0 rfl) (gk (k := 0) (t := 13) ck_X_count_0 rfl) rfl
theorem d_X_count_14 : decode y_X_count.2.1 14 = .ok (.bipush 70, 2) := op_bipush (gk (k := 0) (t := 14) ck_X_count_0 rfl) (gk (k := 0) (t := 15) ck_X_count_0 rfl) rfl
theorem d_X_count_16 : decode y_X_count.2.1 16 = .ok (.iload_n 1, 1) := op_iload_n1 (gk (k := 0) (t := 16) ck_X_count_0 rfl)
theorem d_X_count_17 : decode y_X_count.2.1 17 = .ok (.iadd, 1) := op_iadd (gk (k := 0) (t := 17) ck_X_count_0 rfl)
theorem d_X_count_18 : decode y_X_count.2.1 18 = .ok (.iaload, 1) := op_iaload (gk (k := 0) (t := 18) ck_X_count_0 rfl)
theorem d_X_count_19 : decode y_X_count.2.1 19 = .ok (.ireturn, 1) := op_ireturn (gk (k := 0) (t := 19) ck_X_count_0 rfl)
abbrev y_X_laysRow : MI := (⟨"SinglesUpModel", "laysRow", "()V"⟩, prog_11_method_66_code, 3, none)
theorem ck_X_laysRow_0 : (y_X_laysRow.2.1.data.toList.drop 0).take 32 = [42, 3, 181, 1, 91, 3, 60, 27, 16, 6, 162, 0, 83, 3, 61, 28, 42, 180, 0, 7, 17, 0, 130, 27, 96, 46, 162, 0, 61, 28, 42, 180] := by decide +kernel
theorem d_X_laysRow_0 : decode y_X_laysRow.2.1 0 = .ok (.aload_n 0, 1) := op_aload_n0 (gk (k := 0) (t := 0) ck_X_laysRow_0 rfl)
theorem d_X_laysRow_1 : decode y_X_laysRow.2.1 1 = .ok (.iconst 0, 1) := op_iconst0 (gk (k := 0) (t := 1) ck_X_laysRow_0 rfl)
theorem fl_X_347 : FL "SinglesUpModel" 347 9 40 := ⟨"SinglesUpModel", zT9, 51, rfl, by decide, rfl, Or.inl (tw_c5 133 (by decide +kernel) rfl)⟩
theorem d_X_laysRow_2 : decode y_X_laysRow.2.1 2 = .ok (.putfield 347, 3) := op_putfield (gk (k := 0) (t := 2) ck_X_laysRow_0 rfl) (gk (k := 0) (t := 3) ck_X_laysRow_0 rfl) (gk (k := 0) (t := 4) ck_X_laysRow_0 rfl) rfl
theorem d_X_laysRow_5 : decode y_X_laysRow.2.1 5 = .ok (.iconst 0, 1) := op_iconst0 (gk (k := 0) (t := 5) ck_X_laysRow_0 rfl)
theorem d_X_laysRow_6 : decode y_X_laysRow.2.1 6 = .ok (.istore_n 1, 1) := op_istore_n1 (gk (k := 0) (t := 6) ck_X_laysRow_0 rfl)
theorem d_X_laysRow_7 : decode y_X_laysRow.2.1 7 = .ok (.iload_n 1, 1) := op_iload_n1 (gk (k := 0) (t := 7) ck_X_laysRow_0 rfl)
theorem d_X_laysRow_8 : decode y_X_laysRow.2.1 8 = .ok (.bipush 6, 2) := op_bipush (gk (k := 0) (t := 8) ck_X_laysRow_0 rfl) (gk (k := 0) (t := 9) ck_X_laysRow_0 rfl) rfl
theorem d_X_laysRow_10 : decode y_X_laysRow.2.1 10 = .ok (.if_icmp .ge 83, 3) := op_icmp_ge (gk (k := 0) (t := 10) ck_X_laysRow_0 rfl) (gk (k := 0) (t := 11) ck_X_laysRow_0 rfl) (gk (k := 0) (t := 12) ck_X_laysRow_0 rfl) (by decide +kernel)
theorem ck_X_laysRow_2 : (y_X_laysRow.2.1.data.toList.drop 64).take 32 = [16, 40, 27, 104, 28, 96, 79, 42, 89, 180, 1, 91, 4, 96, 181, 1, 91, 132, 2, 1, 167, 255, 187, 132, 1, 1, 167, 255, 173, 177] := by decide +kernel
theorem d_X_laysRow_93 : decode y_X_laysRow.2.1 93 = .ok (.return_, 1) := op_return_ (gk (k := 64) (t := 29) ck_X_laysRow_2 rfl)
theorem d_X_laysRow_13 : decode y_X_laysRow.2.1 13 = .ok (.iconst 0, 1) := op_iconst0 (gk (k := 0) (t := 13) ck_X_laysRow_0 rfl)
theorem d_X_laysRow_14 : decode y_X_laysRow.2.1 14 = .ok (.istore_n 2, 1) := op_istore_n2 (gk (k := 0) (t := 14) ck_X_laysRow_0 rfl)
theorem d_X_laysRow_15 : decode y_X_laysRow.2.1 15 = .ok (.iload_n 2, 1) := op_iload_n2 (gk (k := 0) (t := 15) ck_X_laysRow_0 rfl)
theorem d_X_laysRow_16 : decode y_X_laysRow.2.1 16 = .ok (.aload_n 0, 1) := op_aload_n0 (gk (k := 0) (t := 16) ck_X_laysRow_0 rfl)
theorem d_X_laysRow_17 : decode y_X_laysRow.2.1 17 = .ok (.getfield 7, 3) := op_getfield (gk (k := 0) (t := 17) ck_X_laysRow_0 rfl) (gk (k := 0) (t := 18) ck_X_laysRow_0 rfl) (gk (k := 0) (t := 19) ck_X_laysRow_0 rfl) rfl
theorem d_X_laysRow_20 : decode y_X_laysRow.2.1 20 = .ok (.sipush 130, 3) := op_sipush (gk (k := 0) (t := 20) ck_X_laysRow_0 rfl) (gk (k := 0) (t := 21) ck_X_laysRow_0 rfl) (gk (k := 0) (t := 22) ck_X_laysRow_0 rfl) (by decide +kernel)
theorem d_X_laysRow_23 : decode y_X_laysRow.2.1 23 = .ok (.iload_n 1, 1) := op_iload_n1 (gk (k := 0) (t := 23) ck_X_laysRow_0 rfl)
theorem d_X_laysRow_24 : decode y_X_laysRow.2.1 24 = .ok (.iadd, 1) := op_iadd (gk (k := 0) (t := 24) ck_X_laysRow_0 rfl)
theorem d_X_laysRow_25 : decode y_X_laysRow.2.1 25 = .ok (.iaload, 1) := op_iaload (gk (k := 0) (t := 25) ck_X_laysRow_0 rfl)
theorem d_X_laysRow_26 : decode y_X_laysRow.2.1 26 = .ok (.if_icmp .ge 61, 3) := op_icmp_ge (gk (k := 0) (t := 26) ck_X_laysRow_0 rfl) (gk (k := 0) (t := 27) ck_X_laysRow_0 rfl) (gk (k := 0) (t := 28) ck_X_laysRow_0 rfl) (by decide +kernel)
theorem d_X_laysRow_29 : decode y_X_laysRow.2.1 29 = .ok (.iload_n 2, 1) := op_iload_n2 (gk (k := 0) (t := 29) ck_X_laysRow_0 rfl)
theorem d_X_laysRow_30 : decode y_X_laysRow.2.1 30 = .ok (.aload_n 0, 1) := op_aload_n0 (gk (k := 0) (t := 30) ck_X_laysRow_0 rfl)
theorem ck_X_laysRow_1 : (y_X_laysRow.2.1.data.toList.drop 32).take 32 = [0, 7, 16, 10, 27, 96, 46, 162, 0, 48, 42, 27, 28, 6, 182, 1, 8, 5, 160, 0, 6, 167, 0, 28, 42, 180, 0, 66, 42, 180, 1, 91] := by decide +kernel
theorem d_X_laysRow_31 : decode y_X_laysRow.2.1 31 = .ok (.getfield 7, 3) := op_getfield (gk (k := 0) (t := 31) ck_X_laysRow_0 rfl) (gk (k := 32) (t := 0) ck_X_laysRow_1 rfl) (gk (k := 32) (t := 1) ck_X_laysRow_1 rfl) rfl
theorem d_X_laysRow_34 : decode y_X_laysRow.2.1 34 = .ok (.bipush 10, 2) := op_bipush (gk (k := 32) (t := 2) ck_X_laysRow_1 rfl) (gk (k := 32) (t := 3) ck_X_laysRow_1 rfl) rfl
theorem d_X_laysRow_36 : decode y_X_laysRow.2.1 36 = .ok (.iload_n 1, 1) := op_iload_n1 (gk (k := 32) (t := 4) ck_X_laysRow_1 rfl)
theorem d_X_laysRow_37 : decode y_X_laysRow.2.1 37 = .ok (.iadd, 1) := op_iadd (gk (k := 32) (t := 5) ck_X_laysRow_1 rfl)
theorem d_X_laysRow_38 : decode y_X_laysRow.2.1 38 = .ok (.iaload, 1) := op_iaload (gk (k := 32) (t := 6) ck_X_laysRow_1 rfl)
theorem d_X_laysRow_39 : decode y_X_laysRow.2.1 39 = .ok (.if_icmp .ge 48, 3) := op_icmp_ge (gk (k := 32) (t := 7) ck_X_laysRow_1 rfl) (gk (k := 32) (t := 8) ck_X_laysRow_1 rfl) (gk (k := 32) (t := 9) ck_X_laysRow_1 rfl) (by decide +kernel)
theorem d_X_laysRow_42 : decode y_X_laysRow.2.1 42 = .ok (.aload_n 0, 1) := op_aload_n0 (gk (k := 32) (t := 10) ck_X_laysRow_1 rfl)
theorem d_X_laysRow_43 : decode y_X_laysRow.2.1 43 = .ok (.iload_n 1, 1) := op_iload_n1 (gk (k := 32) (t := 11) ck_X_laysRow_1 rfl)
theorem d_X_laysRow_44 : decode y_X_laysRow.2.1 44 = .ok (.iload_n 2, 1) := op_iload_n2 (gk (k := 32) (t := 12) ck_X_laysRow_1 rfl)
theorem d_X_laysRow_45 : decode y_X_laysRow.2.1 45 = .ok (.iconst 3, 1) := op_iconst3 (gk (k := 32) (t := 13) ck_X_laysRow_1 rfl)
theorem d_X_laysRow_46 : decode y_X_laysRow.2.1 46 = .ok (.invokevirtual 264, 3) := op_invokevirtual (gk (k := 32) (t := 14) ck_X_laysRow_1 rfl) (gk (k := 32) (t := 15) ck_X_laysRow_1 rfl) (gk (k := 32) (t := 16) ck_X_laysRow_1 rfl) rfl
theorem d_X_laysRow_49 : decode y_X_laysRow.2.1 49 = .ok (.iconst 2, 1) := op_iconst2 (gk (k := 32) (t := 17) ck_X_laysRow_1 rfl)
theorem d_X_laysRow_81 : decode y_X_laysRow.2.1 81 = .ok (.iinc 2 1, 3) := op_iinc (gk (k := 64) (t := 17) ck_X_laysRow_2 rfl) (gk (k := 64) (t := 18) ck_X_laysRow_2 rfl) (gk (k := 64) (t := 19) ck_X_laysRow_2 rfl) rfl rfl
theorem d_X_laysRow_84 : decode y_X_laysRow.2.1 84 = .ok (.goto (-69), 3) := op_goto (gk (k := 64) (t := 20) ck_X_laysRow_2 rfl) (gk (k := 64) (t := 21) ck_X_laysRow_2 rfl) (gk (k := 64) (t := 22) ck_X_laysRow_2 rfl) (by decide +kernel)
theorem d_X_laysRow_50 : decode y_X_laysRow.2.1 50 = .ok (.if_icmp .ne 6, 3) := op_icmp_ne (gk (k := 32) (t := 18) ck_X_laysRow_1 rfl) (gk (k := 32) (t := 19) ck_X_laysRow_1 rfl) (gk (k := 32) (t := 20) ck_X_laysRow_1 rfl) (by decide +kernel)
theorem d_X_laysRow_56 : decode y_X_laysRow.2.1 56 = .ok (.aload_n 0, 1) := op_aload_n0 (gk (k := 32) (t := 24) ck_X_laysRow_1 rfl)
theorem fl_X_66 : FL "SinglesUpModel" 66 9 38 := ⟨"SinglesUpModel", zT9, 51, rfl, by decide, rfl, Or.inl (tw_c5 131 (by decide +kernel) rfl)⟩
theorem rm_9_38 : ∀ o, KM[o]? = some (12, 51) → RM o 38 = some (o + 16) ∧ KM[o + 16]? = some (0, 150) := by
  intro o h
  have hl : o < 26 := (List.getElem?_eq_some_iff.mp h).1
  exact (by decide +kernel : ∀ o, o < 26 → KM[o]? = some (12, 51) → RM o 38 = some (o + 16) ∧ KM[o + 16]? = some (0, 150)) o hl h
theorem d_X_laysRow_57 : decode y_X_laysRow.2.1 57 = .ok (.getfield 66, 3) := op_getfield (gk (k := 32) (t := 25) ck_X_laysRow_1 rfl) (gk (k := 32) (t := 26) ck_X_laysRow_1 rfl) (gk (k := 32) (t := 27) ck_X_laysRow_1 rfl) rfl
theorem d_X_laysRow_60 : decode y_X_laysRow.2.1 60 = .ok (.aload_n 0, 1) := op_aload_n0 (gk (k := 32) (t := 28) ck_X_laysRow_1 rfl)
theorem d_X_laysRow_61 : decode y_X_laysRow.2.1 61 = .ok (.getfield 347, 3) := op_getfield (gk (k := 32) (t := 29) ck_X_laysRow_1 rfl) (gk (k := 32) (t := 30) ck_X_laysRow_1 rfl) (gk (k := 32) (t := 31) ck_X_laysRow_1 rfl) rfl
theorem d_X_laysRow_64 : decode y_X_laysRow.2.1 64 = .ok (.bipush 40, 2) := op_bipush (gk (k := 64) (t := 0) ck_X_laysRow_2 rfl) (gk (k := 64) (t := 1) ck_X_laysRow_2 rfl) rfl
theorem d_X_laysRow_66 : decode y_X_laysRow.2.1 66 = .ok (.iload_n 1, 1) := op_iload_n1 (gk (k := 64) (t := 2) ck_X_laysRow_2 rfl)
theorem d_X_laysRow_67 : decode y_X_laysRow.2.1 67 = .ok (.imul, 1) := op_imul (gk (k := 64) (t := 3) ck_X_laysRow_2 rfl)
theorem d_X_laysRow_68 : decode y_X_laysRow.2.1 68 = .ok (.iload_n 2, 1) := op_iload_n2 (gk (k := 64) (t := 4) ck_X_laysRow_2 rfl)
theorem d_X_laysRow_69 : decode y_X_laysRow.2.1 69 = .ok (.iadd, 1) := op_iadd (gk (k := 64) (t := 5) ck_X_laysRow_2 rfl)
theorem d_X_laysRow_70 : decode y_X_laysRow.2.1 70 = .ok (.iastore, 1) := op_iastore (gk (k := 64) (t := 6) ck_X_laysRow_2 rfl)
theorem d_X_laysRow_71 : decode y_X_laysRow.2.1 71 = .ok (.aload_n 0, 1) := op_aload_n0 (gk (k := 64) (t := 7) ck_X_laysRow_2 rfl)
theorem d_X_laysRow_72 : decode y_X_laysRow.2.1 72 = .ok (.dup, 1) := op_dup (gk (k := 64) (t := 8) ck_X_laysRow_2 rfl)
theorem d_X_laysRow_73 : decode y_X_laysRow.2.1 73 = .ok (.getfield 347, 3) := op_getfield (gk (k := 64) (t := 9) ck_X_laysRow_2 rfl) (gk (k := 64) (t := 10) ck_X_laysRow_2 rfl) (gk (k := 64) (t := 11) ck_X_laysRow_2 rfl) rfl
theorem d_X_laysRow_76 : decode y_X_laysRow.2.1 76 = .ok (.iconst 1, 1) := op_iconst1 (gk (k := 64) (t := 12) ck_X_laysRow_2 rfl)
theorem d_X_laysRow_77 : decode y_X_laysRow.2.1 77 = .ok (.iadd, 1) := op_iadd (gk (k := 64) (t := 13) ck_X_laysRow_2 rfl)
theorem d_X_laysRow_78 : decode y_X_laysRow.2.1 78 = .ok (.putfield 347, 3) := op_putfield (gk (k := 64) (t := 14) ck_X_laysRow_2 rfl) (gk (k := 64) (t := 15) ck_X_laysRow_2 rfl) (gk (k := 64) (t := 16) ck_X_laysRow_2 rfl) rfl
theorem d_X_laysRow_53 : decode y_X_laysRow.2.1 53 = .ok (.goto 28, 3) := op_goto (gk (k := 32) (t := 21) ck_X_laysRow_1 rfl) (gk (k := 32) (t := 22) ck_X_laysRow_1 rfl) (gk (k := 32) (t := 23) ck_X_laysRow_1 rfl) (by decide +kernel)
theorem d_X_laysRow_87 : decode y_X_laysRow.2.1 87 = .ok (.iinc 1 1, 3) := op_iinc (gk (k := 64) (t := 23) ck_X_laysRow_2 rfl) (gk (k := 64) (t := 24) ck_X_laysRow_2 rfl) (gk (k := 64) (t := 25) ck_X_laysRow_2 rfl) rfl rfl
theorem d_X_laysRow_90 : decode y_X_laysRow.2.1 90 = .ok (.goto (-83), 3) := op_goto (gk (k := 64) (t := 26) ck_X_laysRow_2 rfl) (gk (k := 64) (t := 27) ck_X_laysRow_2 rfl) (gk (k := 64) (t := 28) ck_X_laysRow_2 rfl) (by decide +kernel)
abbrev y_X_spot : MI := (⟨"SinglesUpModel", "spot", "(III)I"⟩, prog_11_method_67_code, 3, some .int)
theorem cb_36 : (Int8.ofInt 36).toInt32 = iv 36 := by decide +kernel
theorem ck_X_spot_0 : (y_X_spot.2.1.data.toList.drop 0).take 32 = [16, 36, 26, 104, 7, 27, 104, 96, 28, 96, 172] := by decide +kernel
theorem d_X_spot_0 : decode y_X_spot.2.1 0 = .ok (.bipush 36, 2) := op_bipush (gk (k := 0) (t := 0) ck_X_spot_0 rfl) (gk (k := 0) (t := 1) ck_X_spot_0 rfl) rfl
theorem d_X_spot_2 : decode y_X_spot.2.1 2 = .ok (.iload_n 0, 1) := op_iload_n0 (gk (k := 0) (t := 2) ck_X_spot_0 rfl)
theorem d_X_spot_3 : decode y_X_spot.2.1 3 = .ok (.imul, 1) := op_imul (gk (k := 0) (t := 3) ck_X_spot_0 rfl)
theorem d_X_spot_4 : decode y_X_spot.2.1 4 = .ok (.iconst 4, 1) := op_iconst4 (gk (k := 0) (t := 4) ck_X_spot_0 rfl)
theorem d_X_spot_5 : decode y_X_spot.2.1 5 = .ok (.iload_n 1, 1) := op_iload_n1 (gk (k := 0) (t := 5) ck_X_spot_0 rfl)
theorem d_X_spot_6 : decode y_X_spot.2.1 6 = .ok (.imul, 1) := op_imul (gk (k := 0) (t := 6) ck_X_spot_0 rfl)
theorem d_X_spot_7 : decode y_X_spot.2.1 7 = .ok (.iadd, 1) := op_iadd (gk (k := 0) (t := 7) ck_X_spot_0 rfl)
theorem d_X_spot_8 : decode y_X_spot.2.1 8 = .ok (.iload_n 2, 1) := op_iload_n2 (gk (k := 0) (t := 8) ck_X_spot_0 rfl)
theorem d_X_spot_9 : decode y_X_spot.2.1 9 = .ok (.iadd, 1) := op_iadd (gk (k := 0) (t := 9) ck_X_spot_0 rfl)
theorem d_X_spot_10 : decode y_X_spot.2.1 10 = .ok (.ireturn, 1) := op_ireturn (gk (k := 0) (t := 10) ck_X_spot_0 rfl)
abbrev y_X_with : MI := (⟨"SinglesUpModel", "with", "(II)I"⟩, prog_11_method_68_code, 3, some .int)
theorem ck_X_with_0 : (y_X_with.2.1.data.toList.drop 0).take 32 = [27, 42, 180, 0, 7, 17, 0, 140, 16, 6, 28, 104, 96, 6, 96, 46, 4, 160, 0, 7, 4, 167, 0, 4, 5, 128, 172] := by decide +kernel
theorem d_X_with_0 : decode y_X_with.2.1 0 = .ok (.iload_n 1, 1) := op_iload_n1 (gk (k := 0) (t := 0) ck_X_with_0 rfl)
theorem d_X_with_1 : decode y_X_with.2.1 1 = .ok (.aload_n 0, 1) := op_aload_n0 (gk (k := 0) (t := 1) ck_X_with_0 rfl)
theorem d_X_with_2 : decode y_X_with.2.1 2 = .ok (.getfield 7, 3) := op_getfield (gk (k := 0) (t := 2) ck_X_with_0 rfl) (gk (k := 0) (t := 3) ck_X_with_0 rfl) (gk (k := 0) (t := 4) ck_X_with_0 rfl) rfl
theorem d_X_with_5 : decode y_X_with.2.1 5 = .ok (.sipush 140, 3) := op_sipush (gk (k := 0) (t := 5) ck_X_with_0 rfl) (gk (k := 0) (t := 6) ck_X_with_0 rfl) (gk (k := 0) (t := 7) ck_X_with_0 rfl) (by decide +kernel)
theorem d_X_with_8 : decode y_X_with.2.1 8 = .ok (.bipush 6, 2) := op_bipush (gk (k := 0) (t := 8) ck_X_with_0 rfl) (gk (k := 0) (t := 9) ck_X_with_0 rfl) rfl
theorem d_X_with_10 : decode y_X_with.2.1 10 = .ok (.iload_n 2, 1) := op_iload_n2 (gk (k := 0) (t := 10) ck_X_with_0 rfl)
theorem d_X_with_11 : decode y_X_with.2.1 11 = .ok (.imul, 1) := op_imul (gk (k := 0) (t := 11) ck_X_with_0 rfl)
theorem d_X_with_12 : decode y_X_with.2.1 12 = .ok (.iadd, 1) := op_iadd (gk (k := 0) (t := 12) ck_X_with_0 rfl)
theorem d_X_with_13 : decode y_X_with.2.1 13 = .ok (.iconst 3, 1) := op_iconst3 (gk (k := 0) (t := 13) ck_X_with_0 rfl)
theorem d_X_with_14 : decode y_X_with.2.1 14 = .ok (.iadd, 1) := op_iadd (gk (k := 0) (t := 14) ck_X_with_0 rfl)
theorem d_X_with_15 : decode y_X_with.2.1 15 = .ok (.iaload, 1) := op_iaload (gk (k := 0) (t := 15) ck_X_with_0 rfl)
theorem d_X_with_16 : decode y_X_with.2.1 16 = .ok (.iconst 1, 1) := op_iconst1 (gk (k := 0) (t := 16) ck_X_with_0 rfl)
theorem d_X_with_17 : decode y_X_with.2.1 17 = .ok (.if_icmp .ne 7, 3) := op_icmp_ne (gk (k := 0) (t := 17) ck_X_with_0 rfl) (gk (k := 0) (t := 18) ck_X_with_0 rfl) (gk (k := 0) (t := 19) ck_X_with_0 rfl) (by decide +kernel)
theorem d_X_with_24 : decode y_X_with.2.1 24 = .ok (.iconst 2, 1) := op_iconst2 (gk (k := 0) (t := 24) ck_X_with_0 rfl)
theorem d_X_with_25 : decode y_X_with.2.1 25 = .ok (.ior, 1) := op_ior (gk (k := 0) (t := 25) ck_X_with_0 rfl)
theorem d_X_with_26 : decode y_X_with.2.1 26 = .ok (.ireturn, 1) := op_ireturn (gk (k := 0) (t := 26) ck_X_with_0 rfl)
theorem d_X_with_20 : decode y_X_with.2.1 20 = .ok (.iconst 1, 1) := op_iconst1 (gk (k := 0) (t := 20) ck_X_with_0 rfl)
theorem d_X_with_21 : decode y_X_with.2.1 21 = .ok (.goto 4, 3) := op_goto (gk (k := 0) (t := 21) ck_X_with_0 rfl) (gk (k := 0) (t := 22) ck_X_with_0 rfl) (gk (k := 0) (t := 23) ck_X_with_0 rfl) (by decide +kernel)
abbrev y_X_taking : MI := (⟨"SinglesUpModel", "taking", "(III)I"⟩, prog_11_method_69_code, 5, some .int)
theorem ck_X_taking_0 : (y_X_taking.2.1.data.toList.drop 0).take 32 = [42, 180, 0, 7, 17, 0, 140, 16, 6, 42, 180, 0, 66, 27, 46, 104, 96, 4, 96, 46, 54, 4, 21, 4, 28, 164, 0, 6, 16, 157, 172, 21] := by decide +kernel
theorem d_X_taking_0 : decode y_X_taking.2.1 0 = .ok (.aload_n 0, 1) := op_aload_n0 (gk (k := 0) (t := 0) ck_X_taking_0 rfl)
theorem d_X_taking_1 : decode y_X_taking.2.1 1 = .ok (.getfield 7, 3) := op_getfield (gk (k := 0) (t := 1) ck_X_taking_0 rfl) (gk (k := 0) (t := 2) ck_X_taking_0 rfl) (gk (k := 0) (t := 3) ck_X_taking_0 rfl) rfl
theorem d_X_taking_4 : decode y_X_taking.2.1 4 = .ok (.sipush 140, 3) := op_sipush (gk (k := 0) (t := 4) ck_X_taking_0 rfl) (gk (k := 0) (t := 5) ck_X_taking_0 rfl) (gk (k := 0) (t := 6) ck_X_taking_0 rfl) (by decide +kernel)
theorem d_X_taking_7 : decode y_X_taking.2.1 7 = .ok (.bipush 6, 2) := op_bipush (gk (k := 0) (t := 7) ck_X_taking_0 rfl) (gk (k := 0) (t := 8) ck_X_taking_0 rfl) rfl
theorem d_X_taking_9 : decode y_X_taking.2.1 9 = .ok (.aload_n 0, 1) := op_aload_n0 (gk (k := 0) (t := 9) ck_X_taking_0 rfl)
theorem d_X_taking_10 : decode y_X_taking.2.1 10 = .ok (.getfield 66, 3) := op_getfield (gk (k := 0) (t := 10) ck_X_taking_0 rfl) (gk (k := 0) (t := 11) ck_X_taking_0 rfl) (gk (k := 0) (t := 12) ck_X_taking_0 rfl) rfl
theorem d_X_taking_13 : decode y_X_taking.2.1 13 = .ok (.iload_n 1, 1) := op_iload_n1 (gk (k := 0) (t := 13) ck_X_taking_0 rfl)
theorem d_X_taking_14 : decode y_X_taking.2.1 14 = .ok (.iaload, 1) := op_iaload (gk (k := 0) (t := 14) ck_X_taking_0 rfl)
theorem d_X_taking_15 : decode y_X_taking.2.1 15 = .ok (.imul, 1) := op_imul (gk (k := 0) (t := 15) ck_X_taking_0 rfl)
theorem d_X_taking_16 : decode y_X_taking.2.1 16 = .ok (.iadd, 1) := op_iadd (gk (k := 0) (t := 16) ck_X_taking_0 rfl)
theorem d_X_taking_17 : decode y_X_taking.2.1 17 = .ok (.iconst 1, 1) := op_iconst1 (gk (k := 0) (t := 17) ck_X_taking_0 rfl)
theorem d_X_taking_18 : decode y_X_taking.2.1 18 = .ok (.iadd, 1) := op_iadd (gk (k := 0) (t := 18) ck_X_taking_0 rfl)
theorem d_X_taking_19 : decode y_X_taking.2.1 19 = .ok (.iaload, 1) := op_iaload (gk (k := 0) (t := 19) ck_X_taking_0 rfl)
theorem d_X_taking_20 : decode y_X_taking.2.1 20 = .ok (.istore 4, 2) := op_istore (gk (k := 0) (t := 20) ck_X_taking_0 rfl) (gk (k := 0) (t := 21) ck_X_taking_0 rfl) rfl
theorem d_X_taking_22 : decode y_X_taking.2.1 22 = .ok (.iload 4, 2) := op_iload (gk (k := 0) (t := 22) ck_X_taking_0 rfl) (gk (k := 0) (t := 23) ck_X_taking_0 rfl) rfl
theorem d_X_taking_24 : decode y_X_taking.2.1 24 = .ok (.iload_n 2, 1) := op_iload_n2 (gk (k := 0) (t := 24) ck_X_taking_0 rfl)
theorem d_X_taking_25 : decode y_X_taking.2.1 25 = .ok (.if_icmp .le 6, 3) := op_icmp_le (gk (k := 0) (t := 25) ck_X_taking_0 rfl) (gk (k := 0) (t := 26) ck_X_taking_0 rfl) (gk (k := 0) (t := 27) ck_X_taking_0 rfl) (by decide +kernel)
theorem ck_X_taking_1 : (y_X_taking.2.1.data.toList.drop 32).take 32 = [4, 42, 180, 0, 69, 27, 4, 96, 28, 21, 4, 100, 42, 29, 42, 180, 0, 66, 27, 46, 182, 1, 94, 184, 1, 97, 46, 96, 172] := by decide +kernel
theorem d_X_taking_31 : decode y_X_taking.2.1 31 = .ok (.iload 4, 2) := op_iload (gk (k := 0) (t := 31) ck_X_taking_0 rfl) (gk (k := 32) (t := 0) ck_X_taking_1 rfl) rfl
theorem d_X_taking_33 : decode y_X_taking.2.1 33 = .ok (.aload_n 0, 1) := op_aload_n0 (gk (k := 32) (t := 1) ck_X_taking_1 rfl)
theorem fl_X_69 : FL "SinglesUpModel" 69 9 39 := ⟨"SinglesUpModel", zT9, 51, rfl, by decide, rfl, Or.inl (tw_c5 132 (by decide +kernel) rfl)⟩
theorem rm_9_39 : ∀ o, KM[o]? = some (12, 51) → RM o 39 = some (o + 17) ∧ KM[o + 17]? = some (0, 5440) := by
  intro o h
  have hl : o < 26 := (List.getElem?_eq_some_iff.mp h).1
  exact (by decide +kernel : ∀ o, o < 26 → KM[o]? = some (12, 51) → RM o 39 = some (o + 17) ∧ KM[o + 17]? = some (0, 5440)) o hl h
theorem d_X_taking_34 : decode y_X_taking.2.1 34 = .ok (.getfield 69, 3) := op_getfield (gk (k := 32) (t := 2) ck_X_taking_1 rfl) (gk (k := 32) (t := 3) ck_X_taking_1 rfl) (gk (k := 32) (t := 4) ck_X_taking_1 rfl) rfl
theorem d_X_taking_37 : decode y_X_taking.2.1 37 = .ok (.iload_n 1, 1) := op_iload_n1 (gk (k := 32) (t := 5) ck_X_taking_1 rfl)
theorem d_X_taking_38 : decode y_X_taking.2.1 38 = .ok (.iconst 1, 1) := op_iconst1 (gk (k := 32) (t := 6) ck_X_taking_1 rfl)
theorem d_X_taking_39 : decode y_X_taking.2.1 39 = .ok (.iadd, 1) := op_iadd (gk (k := 32) (t := 7) ck_X_taking_1 rfl)
theorem d_X_taking_40 : decode y_X_taking.2.1 40 = .ok (.iload_n 2, 1) := op_iload_n2 (gk (k := 32) (t := 8) ck_X_taking_1 rfl)
theorem d_X_taking_41 : decode y_X_taking.2.1 41 = .ok (.iload 4, 2) := op_iload (gk (k := 32) (t := 9) ck_X_taking_1 rfl) (gk (k := 32) (t := 10) ck_X_taking_1 rfl) rfl
theorem d_X_taking_43 : decode y_X_taking.2.1 43 = .ok (.isub, 1) := op_isub (gk (k := 32) (t := 11) ck_X_taking_1 rfl)
theorem d_X_taking_44 : decode y_X_taking.2.1 44 = .ok (.aload_n 0, 1) := op_aload_n0 (gk (k := 32) (t := 12) ck_X_taking_1 rfl)
theorem d_X_taking_45 : decode y_X_taking.2.1 45 = .ok (.iload_n 3, 1) := op_iload_n3 (gk (k := 32) (t := 13) ck_X_taking_1 rfl)
theorem d_X_taking_46 : decode y_X_taking.2.1 46 = .ok (.aload_n 0, 1) := op_aload_n0 (gk (k := 32) (t := 14) ck_X_taking_1 rfl)
theorem d_X_taking_47 : decode y_X_taking.2.1 47 = .ok (.getfield 66, 3) := op_getfield (gk (k := 32) (t := 15) ck_X_taking_1 rfl) (gk (k := 32) (t := 16) ck_X_taking_1 rfl) (gk (k := 32) (t := 17) ck_X_taking_1 rfl) rfl
theorem d_X_taking_50 : decode y_X_taking.2.1 50 = .ok (.iload_n 1, 1) := op_iload_n1 (gk (k := 32) (t := 18) ck_X_taking_1 rfl)
theorem d_X_taking_51 : decode y_X_taking.2.1 51 = .ok (.iaload, 1) := op_iaload (gk (k := 32) (t := 19) ck_X_taking_1 rfl)
theorem lk_X_350 : LkV "SinglesUpModel" 350 y_X_with := ⟨tw_c7 59 (by decide +kernel) rfl, tw_in 80 (by decide +kernel) rfl, Or.inl (tw_c7 57 (by decide +kernel) rfl)⟩
set_option maxRecDepth 100000 in
theorem mo_X_with : MOk y_X_with 2 := ⟨by decide +kernel, tw_c7 60 rfl rfl, tw_c1 12 (by decide +kernel) rfl, by decide +kernel, by decide +kernel, by decide +kernel⟩
theorem d_X_taking_52 : decode y_X_taking.2.1 52 = .ok (.invokevirtual 350, 3) := op_invokevirtual (gk (k := 32) (t := 20) ck_X_taking_1 rfl) (gk (k := 32) (t := 21) ck_X_taking_1 rfl) (gk (k := 32) (t := 22) ck_X_taking_1 rfl) rfl
theorem lk_X_353 : LkS "SinglesUpModel" 353 y_X_spot := ⟨tw_c7 51 (by decide +kernel) rfl, Or.inl (tw_c7 50 (by decide +kernel) rfl)⟩
set_option maxRecDepth 100000 in
theorem mo_X_spot : MOk y_X_spot 3 := ⟨by decide +kernel, tw_c7 52 rfl rfl, tw_c1 12 (by decide +kernel) rfl, by decide +kernel, by decide +kernel, by decide +kernel⟩
theorem d_X_taking_55 : decode y_X_taking.2.1 55 = .ok (.invokestatic 353, 3) := op_invokestatic (gk (k := 32) (t := 23) ck_X_taking_1 rfl) (gk (k := 32) (t := 24) ck_X_taking_1 rfl) (gk (k := 32) (t := 25) ck_X_taking_1 rfl) rfl
theorem d_X_taking_58 : decode y_X_taking.2.1 58 = .ok (.iaload, 1) := op_iaload (gk (k := 32) (t := 26) ck_X_taking_1 rfl)
theorem d_X_taking_59 : decode y_X_taking.2.1 59 = .ok (.iadd, 1) := op_iadd (gk (k := 32) (t := 27) ck_X_taking_1 rfl)
theorem d_X_taking_60 : decode y_X_taking.2.1 60 = .ok (.ireturn, 1) := op_ireturn (gk (k := 32) (t := 28) ck_X_taking_1 rfl)
theorem cb_m99 : (Int8.ofInt (-99)).toInt32 = iv (-99) := by decide +kernel
theorem d_X_taking_28 : decode y_X_taking.2.1 28 = .ok (.bipush (-99), 2) := op_bipush (gk (k := 0) (t := 28) ck_X_taking_0 rfl) (gk (k := 0) (t := 29) ck_X_taking_0 rfl) rfl
theorem d_X_taking_30 : decode y_X_taking.2.1 30 = .ok (.ireturn, 1) := op_ireturn (gk (k := 0) (t := 30) ck_X_taking_0 rfl)
theorem in_m99 : inr (-99) := lit_in rfl
abbrev y_X_reckons : MI := (⟨"SinglesUpModel", "reckons", "()V"⟩, prog_11_method_70_code, 6, none)
theorem ck_X_reckons_0 : (y_X_reckons.2.1.data.toList.drop 0).take 32 = [42, 182, 1, 100, 3, 60, 27, 16, 9, 162, 0, 47, 3, 61, 28, 7, 162, 0, 34, 42, 180, 0, 69, 42, 180, 1, 91, 27, 28, 184, 1, 97] := by decide +kernel
theorem d_X_reckons_0 : decode y_X_reckons.2.1 0 = .ok (.aload_n 0, 1) := op_aload_n0 (gk (k := 0) (t := 0) ck_X_reckons_0 rfl)
theorem lk_X_356 : LkV "SinglesUpModel" 356 y_X_laysRow := ⟨tw_c7 48 (by decide +kernel) rfl, tw_in 78 (by decide +kernel) rfl, Or.inl (tw_c7 46 (by decide +kernel) rfl)⟩
set_option maxRecDepth 100000 in
theorem mo_X_laysRow : MOk y_X_laysRow 0 := ⟨by decide +kernel, tw_c7 49 rfl rfl, tw_c1 12 (by decide +kernel) rfl, by decide +kernel, by decide +kernel, by decide +kernel⟩
theorem d_X_reckons_1 : decode y_X_reckons.2.1 1 = .ok (.invokevirtual 356, 3) := op_invokevirtual (gk (k := 0) (t := 1) ck_X_reckons_0 rfl) (gk (k := 0) (t := 2) ck_X_reckons_0 rfl) (gk (k := 0) (t := 3) ck_X_reckons_0 rfl) rfl
theorem d_X_reckons_4 : decode y_X_reckons.2.1 4 = .ok (.iconst 0, 1) := op_iconst0 (gk (k := 0) (t := 4) ck_X_reckons_0 rfl)
theorem d_X_reckons_5 : decode y_X_reckons.2.1 5 = .ok (.istore_n 1, 1) := op_istore_n1 (gk (k := 0) (t := 5) ck_X_reckons_0 rfl)
theorem d_X_reckons_6 : decode y_X_reckons.2.1 6 = .ok (.iload_n 1, 1) := op_iload_n1 (gk (k := 0) (t := 6) ck_X_reckons_0 rfl)
theorem d_X_reckons_7 : decode y_X_reckons.2.1 7 = .ok (.bipush 9, 2) := op_bipush (gk (k := 0) (t := 7) ck_X_reckons_0 rfl) (gk (k := 0) (t := 8) ck_X_reckons_0 rfl) rfl
theorem d_X_reckons_9 : decode y_X_reckons.2.1 9 = .ok (.if_icmp .ge 47, 3) := op_icmp_ge (gk (k := 0) (t := 9) ck_X_reckons_0 rfl) (gk (k := 0) (t := 10) ck_X_reckons_0 rfl) (gk (k := 0) (t := 11) ck_X_reckons_0 rfl) (by decide +kernel)
theorem d_X_reckons_12 : decode y_X_reckons.2.1 12 = .ok (.iconst 0, 1) := op_iconst0 (gk (k := 0) (t := 12) ck_X_reckons_0 rfl)
theorem d_X_reckons_13 : decode y_X_reckons.2.1 13 = .ok (.istore_n 2, 1) := op_istore_n2 (gk (k := 0) (t := 13) ck_X_reckons_0 rfl)
theorem d_X_reckons_14 : decode y_X_reckons.2.1 14 = .ok (.iload_n 2, 1) := op_iload_n2 (gk (k := 0) (t := 14) ck_X_reckons_0 rfl)
theorem d_X_reckons_15 : decode y_X_reckons.2.1 15 = .ok (.iconst 4, 1) := op_iconst4 (gk (k := 0) (t := 15) ck_X_reckons_0 rfl)
theorem d_X_reckons_16 : decode y_X_reckons.2.1 16 = .ok (.if_icmp .ge 34, 3) := op_icmp_ge (gk (k := 0) (t := 16) ck_X_reckons_0 rfl) (gk (k := 0) (t := 17) ck_X_reckons_0 rfl) (gk (k := 0) (t := 18) ck_X_reckons_0 rfl) (by decide +kernel)
theorem d_X_reckons_19 : decode y_X_reckons.2.1 19 = .ok (.aload_n 0, 1) := op_aload_n0 (gk (k := 0) (t := 19) ck_X_reckons_0 rfl)
theorem d_X_reckons_20 : decode y_X_reckons.2.1 20 = .ok (.getfield 69, 3) := op_getfield (gk (k := 0) (t := 20) ck_X_reckons_0 rfl) (gk (k := 0) (t := 21) ck_X_reckons_0 rfl) (gk (k := 0) (t := 22) ck_X_reckons_0 rfl) rfl
theorem d_X_reckons_23 : decode y_X_reckons.2.1 23 = .ok (.aload_n 0, 1) := op_aload_n0 (gk (k := 0) (t := 23) ck_X_reckons_0 rfl)
theorem d_X_reckons_24 : decode y_X_reckons.2.1 24 = .ok (.getfield 347, 3) := op_getfield (gk (k := 0) (t := 24) ck_X_reckons_0 rfl) (gk (k := 0) (t := 25) ck_X_reckons_0 rfl) (gk (k := 0) (t := 26) ck_X_reckons_0 rfl) rfl
theorem d_X_reckons_27 : decode y_X_reckons.2.1 27 = .ok (.iload_n 1, 1) := op_iload_n1 (gk (k := 0) (t := 27) ck_X_reckons_0 rfl)
theorem d_X_reckons_28 : decode y_X_reckons.2.1 28 = .ok (.iload_n 2, 1) := op_iload_n2 (gk (k := 0) (t := 28) ck_X_reckons_0 rfl)
theorem d_X_reckons_29 : decode y_X_reckons.2.1 29 = .ok (.invokestatic 353, 3) := op_invokestatic (gk (k := 0) (t := 29) ck_X_reckons_0 rfl) (gk (k := 0) (t := 30) ck_X_reckons_0 rfl) (gk (k := 0) (t := 31) ck_X_reckons_0 rfl) rfl
theorem ck_X_reckons_1 : (y_X_reckons.2.1.data.toList.drop 32).take 32 = [28, 4, 160, 0, 8, 16, 157, 167, 0, 4, 3, 79, 132, 2, 1, 167, 255, 223, 132, 1, 1, 167, 255, 209, 42, 180, 1, 91, 4, 100, 60, 27] := by decide +kernel
theorem d_X_reckons_32 : decode y_X_reckons.2.1 32 = .ok (.iload_n 2, 1) := op_iload_n2 (gk (k := 32) (t := 0) ck_X_reckons_1 rfl)
theorem d_X_reckons_33 : decode y_X_reckons.2.1 33 = .ok (.iconst 1, 1) := op_iconst1 (gk (k := 32) (t := 1) ck_X_reckons_1 rfl)
theorem d_X_reckons_43 : decode y_X_reckons.2.1 43 = .ok (.iastore, 1) := op_iastore (gk (k := 32) (t := 11) ck_X_reckons_1 rfl)
theorem d_X_reckons_44 : decode y_X_reckons.2.1 44 = .ok (.iinc 2 1, 3) := op_iinc (gk (k := 32) (t := 12) ck_X_reckons_1 rfl) (gk (k := 32) (t := 13) ck_X_reckons_1 rfl) (gk (k := 32) (t := 14) ck_X_reckons_1 rfl) rfl rfl
theorem d_X_reckons_47 : decode y_X_reckons.2.1 47 = .ok (.goto (-33), 3) := op_goto (gk (k := 32) (t := 15) ck_X_reckons_1 rfl) (gk (k := 32) (t := 16) ck_X_reckons_1 rfl) (gk (k := 32) (t := 17) ck_X_reckons_1 rfl) (by decide +kernel)
theorem d_X_reckons_34 : decode y_X_reckons.2.1 34 = .ok (.if_icmp .ne 8, 3) := op_icmp_ne (gk (k := 32) (t := 2) ck_X_reckons_1 rfl) (gk (k := 32) (t := 3) ck_X_reckons_1 rfl) (gk (k := 32) (t := 4) ck_X_reckons_1 rfl) (by decide +kernel)
theorem d_X_reckons_42 : decode y_X_reckons.2.1 42 = .ok (.iconst 0, 1) := op_iconst0 (gk (k := 32) (t := 10) ck_X_reckons_1 rfl)
theorem d_X_reckons_37 : decode y_X_reckons.2.1 37 = .ok (.bipush (-99), 2) := op_bipush (gk (k := 32) (t := 5) ck_X_reckons_1 rfl) (gk (k := 32) (t := 6) ck_X_reckons_1 rfl) rfl
theorem d_X_reckons_39 : decode y_X_reckons.2.1 39 = .ok (.goto 4, 3) := op_goto (gk (k := 32) (t := 7) ck_X_reckons_1 rfl) (gk (k := 32) (t := 8) ck_X_reckons_1 rfl) (gk (k := 32) (t := 9) ck_X_reckons_1 rfl) (by decide +kernel)
theorem d_X_reckons_50 : decode y_X_reckons.2.1 50 = .ok (.iinc 1 1, 3) := op_iinc (gk (k := 32) (t := 18) ck_X_reckons_1 rfl) (gk (k := 32) (t := 19) ck_X_reckons_1 rfl) (gk (k := 32) (t := 20) ck_X_reckons_1 rfl) rfl rfl
theorem d_X_reckons_53 : decode y_X_reckons.2.1 53 = .ok (.goto (-47), 3) := op_goto (gk (k := 32) (t := 21) ck_X_reckons_1 rfl) (gk (k := 32) (t := 22) ck_X_reckons_1 rfl) (gk (k := 32) (t := 23) ck_X_reckons_1 rfl) (by decide +kernel)
theorem d_X_reckons_56 : decode y_X_reckons.2.1 56 = .ok (.aload_n 0, 1) := op_aload_n0 (gk (k := 32) (t := 24) ck_X_reckons_1 rfl)
theorem d_X_reckons_57 : decode y_X_reckons.2.1 57 = .ok (.getfield 347, 3) := op_getfield (gk (k := 32) (t := 25) ck_X_reckons_1 rfl) (gk (k := 32) (t := 26) ck_X_reckons_1 rfl) (gk (k := 32) (t := 27) ck_X_reckons_1 rfl) rfl
theorem d_X_reckons_60 : decode y_X_reckons.2.1 60 = .ok (.iconst 1, 1) := op_iconst1 (gk (k := 32) (t := 28) ck_X_reckons_1 rfl)
theorem d_X_reckons_61 : decode y_X_reckons.2.1 61 = .ok (.isub, 1) := op_isub (gk (k := 32) (t := 29) ck_X_reckons_1 rfl)
theorem d_X_reckons_62 : decode y_X_reckons.2.1 62 = .ok (.istore_n 1, 1) := op_istore_n1 (gk (k := 32) (t := 30) ck_X_reckons_1 rfl)
theorem d_X_reckons_63 : decode y_X_reckons.2.1 63 = .ok (.iload_n 1, 1) := op_iload_n1 (gk (k := 32) (t := 31) ck_X_reckons_1 rfl)
theorem ck_X_reckons_2 : (y_X_reckons.2.1.data.toList.drop 64).take 32 = [155, 0, 85, 3, 61, 28, 16, 9, 162, 0, 71, 3, 62, 29, 7, 162, 0, 58, 42, 27, 28, 29, 182, 1, 103, 54, 4, 42, 180, 0, 69, 27] := by decide +kernel
theorem d_X_reckons_64 : decode y_X_reckons.2.1 64 = .ok (.ifCond .lt 85, 3) := op_if_lt (gk (k := 64) (t := 0) ck_X_reckons_2 rfl) (gk (k := 64) (t := 1) ck_X_reckons_2 rfl) (gk (k := 64) (t := 2) ck_X_reckons_2 rfl) (by decide +kernel)
theorem ck_X_reckons_4 : (y_X_reckons.2.1.data.toList.drop 128).take 32 = [21, 5, 79, 132, 3, 1, 167, 255, 199, 132, 2, 1, 167, 255, 185, 132, 1, 255, 167, 255, 173, 177] := by decide +kernel
theorem d_X_reckons_149 : decode y_X_reckons.2.1 149 = .ok (.return_, 1) := op_return_ (gk (k := 128) (t := 21) ck_X_reckons_4 rfl)
theorem d_X_reckons_67 : decode y_X_reckons.2.1 67 = .ok (.iconst 0, 1) := op_iconst0 (gk (k := 64) (t := 3) ck_X_reckons_2 rfl)
theorem d_X_reckons_68 : decode y_X_reckons.2.1 68 = .ok (.istore_n 2, 1) := op_istore_n2 (gk (k := 64) (t := 4) ck_X_reckons_2 rfl)
theorem d_X_reckons_69 : decode y_X_reckons.2.1 69 = .ok (.iload_n 2, 1) := op_iload_n2 (gk (k := 64) (t := 5) ck_X_reckons_2 rfl)
theorem d_X_reckons_70 : decode y_X_reckons.2.1 70 = .ok (.bipush 9, 2) := op_bipush (gk (k := 64) (t := 6) ck_X_reckons_2 rfl) (gk (k := 64) (t := 7) ck_X_reckons_2 rfl) rfl
theorem d_X_reckons_72 : decode y_X_reckons.2.1 72 = .ok (.if_icmp .ge 71, 3) := op_icmp_ge (gk (k := 64) (t := 8) ck_X_reckons_2 rfl) (gk (k := 64) (t := 9) ck_X_reckons_2 rfl) (gk (k := 64) (t := 10) ck_X_reckons_2 rfl) (by decide +kernel)
theorem d_X_reckons_75 : decode y_X_reckons.2.1 75 = .ok (.iconst 0, 1) := op_iconst0 (gk (k := 64) (t := 11) ck_X_reckons_2 rfl)
theorem d_X_reckons_76 : decode y_X_reckons.2.1 76 = .ok (.istore_n 3, 1) := op_istore_n3 (gk (k := 64) (t := 12) ck_X_reckons_2 rfl)
theorem d_X_reckons_77 : decode y_X_reckons.2.1 77 = .ok (.iload_n 3, 1) := op_iload_n3 (gk (k := 64) (t := 13) ck_X_reckons_2 rfl)
theorem d_X_reckons_78 : decode y_X_reckons.2.1 78 = .ok (.iconst 4, 1) := op_iconst4 (gk (k := 64) (t := 14) ck_X_reckons_2 rfl)
theorem d_X_reckons_79 : decode y_X_reckons.2.1 79 = .ok (.if_icmp .ge 58, 3) := op_icmp_ge (gk (k := 64) (t := 15) ck_X_reckons_2 rfl) (gk (k := 64) (t := 16) ck_X_reckons_2 rfl) (gk (k := 64) (t := 17) ck_X_reckons_2 rfl) (by decide +kernel)
theorem d_X_reckons_82 : decode y_X_reckons.2.1 82 = .ok (.aload_n 0, 1) := op_aload_n0 (gk (k := 64) (t := 18) ck_X_reckons_2 rfl)
theorem d_X_reckons_83 : decode y_X_reckons.2.1 83 = .ok (.iload_n 1, 1) := op_iload_n1 (gk (k := 64) (t := 19) ck_X_reckons_2 rfl)
theorem d_X_reckons_84 : decode y_X_reckons.2.1 84 = .ok (.iload_n 2, 1) := op_iload_n2 (gk (k := 64) (t := 20) ck_X_reckons_2 rfl)
theorem d_X_reckons_85 : decode y_X_reckons.2.1 85 = .ok (.iload_n 3, 1) := op_iload_n3 (gk (k := 64) (t := 21) ck_X_reckons_2 rfl)
theorem lk_X_359 : LkV "SinglesUpModel" 359 y_X_taking := ⟨tw_c7 55 (by decide +kernel) rfl, tw_in 79 (by decide +kernel) rfl, Or.inl (tw_c7 53 (by decide +kernel) rfl)⟩
set_option maxRecDepth 100000 in
theorem mo_X_taking : MOk y_X_taking 3 := ⟨by decide +kernel, tw_c7 56 rfl rfl, tw_c1 12 (by decide +kernel) rfl, by decide +kernel, by decide +kernel, by decide +kernel⟩
theorem d_X_reckons_86 : decode y_X_reckons.2.1 86 = .ok (.invokevirtual 359, 3) := op_invokevirtual (gk (k := 64) (t := 22) ck_X_reckons_2 rfl) (gk (k := 64) (t := 23) ck_X_reckons_2 rfl) (gk (k := 64) (t := 24) ck_X_reckons_2 rfl) rfl
theorem d_X_reckons_89 : decode y_X_reckons.2.1 89 = .ok (.istore 4, 2) := op_istore (gk (k := 64) (t := 25) ck_X_reckons_2 rfl) (gk (k := 64) (t := 26) ck_X_reckons_2 rfl) rfl
theorem d_X_reckons_91 : decode y_X_reckons.2.1 91 = .ok (.aload_n 0, 1) := op_aload_n0 (gk (k := 64) (t := 27) ck_X_reckons_2 rfl)
theorem d_X_reckons_92 : decode y_X_reckons.2.1 92 = .ok (.getfield 69, 3) := op_getfield (gk (k := 64) (t := 28) ck_X_reckons_2 rfl) (gk (k := 64) (t := 29) ck_X_reckons_2 rfl) (gk (k := 64) (t := 30) ck_X_reckons_2 rfl) rfl
theorem d_X_reckons_95 : decode y_X_reckons.2.1 95 = .ok (.iload_n 1, 1) := op_iload_n1 (gk (k := 64) (t := 31) ck_X_reckons_2 rfl)
theorem ck_X_reckons_3 : (y_X_reckons.2.1.data.toList.drop 96).take 32 = [4, 96, 28, 29, 184, 1, 97, 46, 54, 5, 42, 180, 0, 69, 27, 28, 29, 184, 1, 97, 21, 4, 21, 5, 164, 0, 8, 21, 4, 167, 0, 5] := by decide +kernel
theorem d_X_reckons_96 : decode y_X_reckons.2.1 96 = .ok (.iconst 1, 1) := op_iconst1 (gk (k := 96) (t := 0) ck_X_reckons_3 rfl)
theorem d_X_reckons_97 : decode y_X_reckons.2.1 97 = .ok (.iadd, 1) := op_iadd (gk (k := 96) (t := 1) ck_X_reckons_3 rfl)
theorem d_X_reckons_98 : decode y_X_reckons.2.1 98 = .ok (.iload_n 2, 1) := op_iload_n2 (gk (k := 96) (t := 2) ck_X_reckons_3 rfl)
theorem d_X_reckons_99 : decode y_X_reckons.2.1 99 = .ok (.iload_n 3, 1) := op_iload_n3 (gk (k := 96) (t := 3) ck_X_reckons_3 rfl)
theorem d_X_reckons_100 : decode y_X_reckons.2.1 100 = .ok (.invokestatic 353, 3) := op_invokestatic (gk (k := 96) (t := 4) ck_X_reckons_3 rfl) (gk (k := 96) (t := 5) ck_X_reckons_3 rfl) (gk (k := 96) (t := 6) ck_X_reckons_3 rfl) rfl
theorem d_X_reckons_103 : decode y_X_reckons.2.1 103 = .ok (.iaload, 1) := op_iaload (gk (k := 96) (t := 7) ck_X_reckons_3 rfl)
theorem d_X_reckons_104 : decode y_X_reckons.2.1 104 = .ok (.istore 5, 2) := op_istore (gk (k := 96) (t := 8) ck_X_reckons_3 rfl) (gk (k := 96) (t := 9) ck_X_reckons_3 rfl) rfl
theorem d_X_reckons_106 : decode y_X_reckons.2.1 106 = .ok (.aload_n 0, 1) := op_aload_n0 (gk (k := 96) (t := 10) ck_X_reckons_3 rfl)
theorem d_X_reckons_107 : decode y_X_reckons.2.1 107 = .ok (.getfield 69, 3) := op_getfield (gk (k := 96) (t := 11) ck_X_reckons_3 rfl) (gk (k := 96) (t := 12) ck_X_reckons_3 rfl) (gk (k := 96) (t := 13) ck_X_reckons_3 rfl) rfl
theorem d_X_reckons_110 : decode y_X_reckons.2.1 110 = .ok (.iload_n 1, 1) := op_iload_n1 (gk (k := 96) (t := 14) ck_X_reckons_3 rfl)
theorem d_X_reckons_111 : decode y_X_reckons.2.1 111 = .ok (.iload_n 2, 1) := op_iload_n2 (gk (k := 96) (t := 15) ck_X_reckons_3 rfl)
theorem d_X_reckons_112 : decode y_X_reckons.2.1 112 = .ok (.iload_n 3, 1) := op_iload_n3 (gk (k := 96) (t := 16) ck_X_reckons_3 rfl)
theorem d_X_reckons_113 : decode y_X_reckons.2.1 113 = .ok (.invokestatic 353, 3) := op_invokestatic (gk (k := 96) (t := 17) ck_X_reckons_3 rfl) (gk (k := 96) (t := 18) ck_X_reckons_3 rfl) (gk (k := 96) (t := 19) ck_X_reckons_3 rfl) rfl
theorem d_X_reckons_116 : decode y_X_reckons.2.1 116 = .ok (.iload 4, 2) := op_iload (gk (k := 96) (t := 20) ck_X_reckons_3 rfl) (gk (k := 96) (t := 21) ck_X_reckons_3 rfl) rfl
theorem d_X_reckons_118 : decode y_X_reckons.2.1 118 = .ok (.iload 5, 2) := op_iload (gk (k := 96) (t := 22) ck_X_reckons_3 rfl) (gk (k := 96) (t := 23) ck_X_reckons_3 rfl) rfl
theorem d_X_reckons_130 : decode y_X_reckons.2.1 130 = .ok (.iastore, 1) := op_iastore (gk (k := 128) (t := 2) ck_X_reckons_4 rfl)
theorem d_X_reckons_131 : decode y_X_reckons.2.1 131 = .ok (.iinc 3 1, 3) := op_iinc (gk (k := 128) (t := 3) ck_X_reckons_4 rfl) (gk (k := 128) (t := 4) ck_X_reckons_4 rfl) (gk (k := 128) (t := 5) ck_X_reckons_4 rfl) rfl rfl
theorem d_X_reckons_134 : decode y_X_reckons.2.1 134 = .ok (.goto (-57), 3) := op_goto (gk (k := 128) (t := 6) ck_X_reckons_4 rfl) (gk (k := 128) (t := 7) ck_X_reckons_4 rfl) (gk (k := 128) (t := 8) ck_X_reckons_4 rfl) (by decide +kernel)
theorem d_X_reckons_120 : decode y_X_reckons.2.1 120 = .ok (.if_icmp .le 8, 3) := op_icmp_le (gk (k := 96) (t := 24) ck_X_reckons_3 rfl) (gk (k := 96) (t := 25) ck_X_reckons_3 rfl) (gk (k := 96) (t := 26) ck_X_reckons_3 rfl) (by decide +kernel)
theorem d_X_reckons_128 : decode y_X_reckons.2.1 128 = .ok (.iload 5, 2) := op_iload (gk (k := 128) (t := 0) ck_X_reckons_4 rfl) (gk (k := 128) (t := 1) ck_X_reckons_4 rfl) rfl
theorem d_X_reckons_123 : decode y_X_reckons.2.1 123 = .ok (.iload 4, 2) := op_iload (gk (k := 96) (t := 27) ck_X_reckons_3 rfl) (gk (k := 96) (t := 28) ck_X_reckons_3 rfl) rfl
theorem d_X_reckons_125 : decode y_X_reckons.2.1 125 = .ok (.goto 5, 3) := op_goto (gk (k := 96) (t := 29) ck_X_reckons_3 rfl) (gk (k := 96) (t := 30) ck_X_reckons_3 rfl) (gk (k := 96) (t := 31) ck_X_reckons_3 rfl) (by decide +kernel)
theorem d_X_reckons_137 : decode y_X_reckons.2.1 137 = .ok (.iinc 2 1, 3) := op_iinc (gk (k := 128) (t := 9) ck_X_reckons_4 rfl) (gk (k := 128) (t := 10) ck_X_reckons_4 rfl) (gk (k := 128) (t := 11) ck_X_reckons_4 rfl) rfl rfl
theorem d_X_reckons_140 : decode y_X_reckons.2.1 140 = .ok (.goto (-71), 3) := op_goto (gk (k := 128) (t := 12) ck_X_reckons_4 rfl) (gk (k := 128) (t := 13) ck_X_reckons_4 rfl) (gk (k := 128) (t := 14) ck_X_reckons_4 rfl) (by decide +kernel)
theorem d_X_reckons_143 : decode y_X_reckons.2.1 143 = .ok (.iinc 1 (-1), 3) := op_iinc (gk (k := 128) (t := 15) ck_X_reckons_4 rfl) (gk (k := 128) (t := 16) ck_X_reckons_4 rfl) (gk (k := 128) (t := 17) ck_X_reckons_4 rfl) rfl rfl
theorem d_X_reckons_146 : decode y_X_reckons.2.1 146 = .ok (.goto (-83), 3) := op_goto (gk (k := 128) (t := 18) ck_X_reckons_4 rfl) (gk (k := 128) (t := 19) ck_X_reckons_4 rfl) (gk (k := 128) (t := 20) ck_X_reckons_4 rfl) (by decide +kernel)
def f_X_takes (fu : Nat) (o0 : Nat) (a1 : Int) (a2 : Int) (a3 : Int) (I0 : IMem) : Res :=
  zl (wr32 ((wr32 (40 * a1)) + a2)) fun x2 =>
    zg (0 ≤ x2 ∧ x2 < 240) (zw I0 (o0 + 9) x2.toNat a3 fun I1 =>
    zl (I1 o0 31) fun x4 =>
    zg (0 ≤ x4 ∧ x4 < 8) (zw I1 (o0 + 11) x4.toNat (wr32 ((wr32 (40 * a1)) + a2)) fun I3 =>
    zw I3 o0 31 (wr32 ((I3 o0 31) + 1)) fun I5 =>
    zw I5 o0 30 (wr32 ((I5 o0 30) - a3)) fun I6 =>
    zb (f_X_of fu o0 a1 a2 3 I6) fun y7 I8 =>
    zj (fun (x12 : Int) (I11 : IMem) =>
        zw I11 o0 33 (wr32 ((I6 o0 33) + x12)) fun I13 =>
        zb (f_X_of fu o0 a1 a2 3 I13) fun y14 I15 =>
        zj (fun (x19 : Int) (I18 : IMem) =>
            zw I18 o0 34 (wr32 ((I13 o0 34) + x19)) fun I20 =>
            zr 0 I20) fun k17 =>
          if y14 = 1 then (
            k17 0 I15)
          else (
            k17 1 I15)) fun k10 =>
      if y7 = 2 then (
        k10 1 I8)
      else (
        k10 0 I8)))
def fb_X_send_6 (fu : Nat) (k_62 : IMem → Res) (o0 : Nat) (R_ : Int → IMem → Res) (w1 : Int) (I0 : IMem) : Res :=
  if w1 < I0 o0 35 then (
      zg (0 ≤ w1 ∧ w1 < 8) (
      zg (0 ≤ w1 ∧ w1 < 8) (
      zg (0 ≤ w1 ∧ w1 < 8) (
      zl (wr32 ((wr32 (140 + (wr32 (6 * (I0 (o0 + 15) w1.toNat))))) + 1)) fun x4 =>
      zg (0 ≤ x4 ∧ x4 < 6190) (
      zb (f_X_takes fu o0 (wdiv (I0 (o0 + 15) w1.toNat) 40) (wrem (I0 (o0 + 15) w1.toNat) 40) (I0 (o0 + 1) x4.toNat) I0) fun _ I6 =>
      zl (wr32 (w1 + 1)) fun x8 =>
      R_ x8 I6)))))
    else (
      k_62 I0)
def f_X_send_6 (fu : Nat) (k_62 : IMem → Res) (o0 : Nat) : Nat → Int → IMem → Res
 | 0 => fun _ _ => none
 | n + 1 => fb_X_send_6 fu k_62 o0 (f_X_send_6 fu k_62 o0 n)
def f_X_send (fu : Nat) (o0 : Nat) (I0 : IMem) : Res :=
  zb (f_X_begins fu o0 I0) fun _ I2 =>
    f_X_send_6 fu (fun  (I9 : IMem) =>
      zb (f_X_goesOff fu o0 I9) fun y10 I11 =>
      zr y10 I11) o0 fu 0 I2
def f_X_isOpen (fu : Nat) (o0 : Nat) (a1 : Int) (a2 : Int) (I0 : IMem) : Res :=
  zl (wr32 (10 + a1)) fun x1 =>
    zg (0 ≤ x1 ∧ x1 < 6190) (
    if a2 < I0 (o0 + 1) x1.toNat then (
      zl (wr32 ((wr32 (40 * a1)) + a2)) fun x2 =>
      zg (0 ≤ x2 ∧ x2 < 240) (
      if I0 (o0 + 9) x2.toNat = 0 then (
        zl (wr32 ((wr32 (40 * a1)) + a2)) fun x3 =>
        zg (0 ≤ x3 ∧ x3 < 240) (
        if I0 (o0 + 12) x3.toNat = 0 then (
          zr 1 I0)
        else (
          zr 0 I0)))
      else (
        zr 0 I0)))
    else (
      zr 0 I0))
def f_X_fits (fu : Nat) (o0 : Nat) (a1 : Int) (a2 : Int) (I0 : IMem) : Res :=
  zb (f_X_isOpen fu o0 a1 a2 I0) fun y1 I2 =>
    if y1 = 0 then (
      zr 0 I2)
    else (
      zb (f_X_of fu o0 a1 a2 2 I2) fun y4 I5 =>
      if I5 o0 30 < y4 then (
        zr 0 I5)
      else (
        if 0 < I5 o0 33 then (
          zr 0 I5)
        else (
          zb (f_X_of fu o0 a1 a2 3 I5) fun y7 I8 =>
          if y7 = 1 then (
            if 0 < I8 o0 34 then (
              zr 1 I8)
            else (
              zr 0 I8))
          else (
            if y7 = 2 then (
              if I8 o0 31 = 0 then (
                zr 1 I8)
              else (
                zr 0 I8))
            else (
              zr 1 I8)))))
def fb_X_finds_17 (fu : Nat) (k_140 : Int → Int → IMem → Res) (o0 : Nat) (p1 : Int) (p4 : Int) (R_ : Int → Int → Int → IMem → Res) (w2 : Int) (w3 : Int) (w5 : Int) (I0 : IMem) : Res :=
  zl (wr32 (130 + p4)) fun x1 =>
    zg (0 ≤ x1 ∧ x1 < 6190) (
    if w5 < I0 (o0 + 1) x1.toNat then (
      zb (f_X_fits fu o0 p4 w5 I0) fun y2 I3 =>
      zj (fun (x7 : Int) (x8 : Int) (I6 : IMem) =>
          zl (wr32 (w5 + 1)) fun x9 =>
          R_ x7 x8 x9 I6) fun k5 =>
        if y2 = 0 then (
          k5 w2 w3 I3)
        else (
          zj (fun (x12 : Int) (I11 : IMem) =>
              zj (fun  (I14 : IMem) =>
                  zj (fun  (I16 : IMem) =>
                      zl (wr32 ((wr32 (40 * p4)) + w5)) fun x17 =>
                      k5 x17 x12 I16) fun k15 =>
                    if w2 = (-1) then (
                      k15 I14)
                    else (
                      if w3 < x12 then (
                        k15 I14)
                      else (
                        k5 w2 w3 I14))) fun k13 =>
                if p1 = 0 then (
                  if x12 < 1 then (
                    k5 w2 w3 I11)
                  else (
                    k13 I11))
                else (
                  if x12 < I11 (o0 + 1) 5 then (
                    k5 w2 w3 I11)
                  else (
                    k13 I11))) fun k10 =>
            if p1 = 0 then (
              zb (f_X_worth fu o0 p4 w5 (I3 o0 30) (I3 o0 31) I3) fun y18 I19 =>
              k10 y18 I19)
            else (
              zb (f_X_of fu o0 p4 w5 5 I3) fun y21 I22 =>
              k10 y21 I22)))
    else (
      k_140 w2 w3 I0))
def f_X_finds_17 (fu : Nat) (k_140 : Int → Int → IMem → Res) (o0 : Nat) (p1 : Int) (p4 : Int) : Nat → Int → Int → Int → IMem → Res
 | 0 => fun _ _ _ _ => none
 | n + 1 => fb_X_finds_17 fu k_140 o0 p1 p4 (f_X_finds_17 fu k_140 o0 p1 p4 n)
def fb_X_finds_7 (fu : Nat) (o0 : Nat) (p1 : Int) (R_ : Int → Int → Int → IMem → Res) (w2 : Int) (w3 : Int) (w4 : Int) (I0 : IMem) : Res :=
  if w4 < 6 then (
      f_X_finds_17 fu (fun (x25 : Int) (x26 : Int) (I24 : IMem) =>
        zl (wr32 (w4 + 1)) fun x27 =>
        R_ x25 x26 x27 I24) o0 p1 w4 fu w2 w3 0 I0)
    else (
      zr w2 I0)
def f_X_finds_7 (fu : Nat) (o0 : Nat) (p1 : Int) : Nat → Int → Int → Int → IMem → Res
 | 0 => fun _ _ _ _ => none
 | n + 1 => fb_X_finds_7 fu o0 p1 (f_X_finds_7 fu o0 p1 n)
def f_X_finds (fu : Nat) (o0 : Nat) (a1 : Int) (I0 : IMem) : Res :=
  f_X_finds_7 fu  o0 a1 fu ((-1)) 0 0 I0
def f_X_partOf (fu : Nat) (o0 : Nat) (a1 : Int) (I0 : IMem) : Res :=
  zl (wr32 (16 + a1)) fun x1 =>
    zg (0 ≤ x1 ∧ x1 < 6190) (
    zl (I0 (o0 + 1) x1.toNat) fun x2 =>
    zl (wr32 (a1 - x2)) fun x3 =>
    if x2 = 0 then (
      zr 0 I0)
    else (
      zj (fun (x6 : Int) (I5 : IMem) =>
          if I5 o0 30 < x3 then (
            zr x6 I5)
          else (
            if x6 < x3 then (
              zr x3 I5)
            else (
              zr x6 I5))) fun k4 =>
        if I0 o0 30 < x2 then (
          k4 0 I0)
        else (
          k4 x2 I0)))
def fb_X_parts0_17 (fu : Nat) (k_109 : Int → Int → IMem → Res) (k_127 : IMem → Res) (o0 : Nat) (p1 : Int) (R_ : Int → IMem → Res) (w2 : Int) (I0 : IMem) : Res :=
  zl (wr32 (130 + p1)) fun x1 =>
    zg (0 ≤ x1 ∧ x1 < 6190) (
    if w2 < I0 (o0 + 1) x1.toNat then (
      zb (f_X_of fu o0 p1 w2 1 I0) fun y2 I3 =>
      zb (f_X_isOpen fu o0 p1 w2 I3) fun y5 I6 =>
      zj (fun  (I9 : IMem) =>
          zl (wr32 (w2 + 1)) fun x10 =>
          R_ x10 I9) fun k8 =>
        if y5 = 0 then (
          k8 I6)
        else (
          zb (f_X_of fu o0 p1 w2 3 I6) fun y11 I12 =>
          if y11 = 0 then (
            zb (f_X_of fu o0 p1 w2 2 I12) fun y14 I15 =>
            if y14 = y2 then (
              if I15 o0 30 < y2 then (
                zb (f_X_partOf fu o0 y2 I15) fun y17 I18 =>
                if y17 = 0 then (
                  k8 I18)
                else (
                  zb (f_X_worth fu o0 p1 w2 (I18 o0 30) (I18 o0 31) I18) fun y20 I21 =>
                  if y20 < 1 then (
                    k8 I21)
                  else (
                    k_109 w2 y2 I21)))
              else (
                k8 I15))
            else (
              k8 I15))
          else (
            k8 I12)))
    else (
      k_127 I0))
def f_X_parts0_17 (fu : Nat) (k_109 : Int → Int → IMem → Res) (k_127 : IMem → Res) (o0 : Nat) (p1 : Int) : Nat → Int → IMem → Res
 | 0 => fun _ _ => none
 | n + 1 => fb_X_parts0_17 fu k_109 k_127 o0 p1 (f_X_parts0_17 fu k_109 k_127 o0 p1 n)
def fb_X_parts0_2 (fu : Nat) (k_109 : Int → Int → Int → IMem → Res) (o0 : Nat) (R_ : Int → IMem → Res) (w1 : Int) (I0 : IMem) : Res :=
  if w1 < 6 then (
      if I0 o0 33 = 0 then (
        f_X_parts0_17 fu (fun (x24 : Int) (x25 : Int) (I23 : IMem) =>
          k_109 w1 x24 x25 I23) (fun  (I26 : IMem) =>
          zl (wr32 (w1 + 1)) fun x27 =>
          R_ x27 I26) o0 w1 fu 0 I0)
      else (
        zr 0 I0))
    else (
      zr 0 I0)
def f_X_parts0_2 (fu : Nat) (k_109 : Int → Int → Int → IMem → Res) (o0 : Nat) : Nat → Int → IMem → Res
 | 0 => fun _ _ => none
 | n + 1 => fb_X_parts0_2 fu k_109 o0 (f_X_parts0_2 fu k_109 o0 n)
def f_X_parts0 (fu : Nat) (o0 : Nat) (I0 : IMem) : Res :=
  f_X_parts0_2 fu (fun (x29 : Int) (x30 : Int) (x31 : Int) (I28 : IMem) =>
      zb (f_X_partOf fu o0 x31 I28) fun y32 I33 =>
      zb (f_X_takes fu o0 x29 x30 y32 I33) fun _ I36 =>
      zr 0 I36) o0 fu 0 I0
def fb_X_fills_4 (fu : Nat) (k_39 : IMem → Res) (o0 : Nat) (R_ : IMem → Res) (I0 : IMem) : Res :=
  zj (fun (x6 : Int) (I5 : IMem) =>
        zj (fun (x9 : Int) (I8 : IMem) =>
            if x9 = (-1) then (
              k_39 I8)
            else (
              zl (wdiv x9 40) fun x10 =>
              zl (wrem x9 40) fun x11 =>
              zb (f_X_of fu o0 x10 x11 1 I8) fun y12 I13 =>
              if I13 o0 30 < y12 then (
                zg (0 ≤ x9 ∧ x9 < 240) (zw I13 (o0 + 12) x9.toNat 1 fun I21 =>
                zl (I21 o0 32) fun x23 =>
                zg (0 ≤ x23 ∧ x23 < 240) (zw I21 (o0 + 10) x23.toNat x9 fun I22 =>
                zw I22 o0 32 (wr32 ((I22 o0 32) + 1)) fun I24 =>
                zw I24 (o0 + 1) 75 (wr32 ((I24 (o0 + 1) 75) + 1)) fun I25 =>
                R_ I25)))
              else (
                zb (f_X_of fu o0 x10 x11 1 I13) fun y15 I16 =>
                zb (f_X_takes fu o0 x10 x11 y15 I16) fun _ I19 =>
                R_ I19))) fun k7 =>
          if x6 = (-1) then (
            zb (f_X_finds fu o0 0 I5) fun y26 I27 =>
            k7 y26 I27)
          else (
            k7 x6 I5)) fun k4 =>
      if 0 < I0 (o0 + 1) 5 then (
        zb (f_X_finds fu o0 1 I0) fun y29 I30 =>
        k4 y29 I30)
      else (
        k4 ((-1)) I0)
def f_X_fills_4 (fu : Nat) (k_39 : IMem → Res) (o0 : Nat) : Nat → IMem → Res
 | 0 => fun _ => none
 | n + 1 => fb_X_fills_4 fu k_39 o0 (f_X_fills_4 fu k_39 o0 n)
def f_X_fills (fu : Nat) (o0 : Nat) (I0 : IMem) : Res :=
  zb (f_X_begins fu o0 I0) fun _ I2 =>
    f_X_fills_4 fu (fun  (I32 : IMem) =>
      zb (f_X_parts0 fu o0 I32) fun _ I34 =>
      zr 0 I34) o0 fu I2
def f_X_chair (fu : Nat) (o0 : Nat) (I0 : IMem) : Res :=
  zb (f_X_fills fu o0 I0) fun _ I2 =>
    zb (f_X_goesOff fu o0 I2) fun y4 I5 =>
    zr y4 I5
def fb_X_turn_2 (fu : Nat) (k_77 : IMem → Res) (o0 : Nat) (R_ : Int → IMem → Res) (w1 : Int) (I0 : IMem) : Res :=
  if w1 < 8 then (
      zl (wr32 (26 + (wr32 (4 * w1)))) fun x1 =>
      zl (wr32 (x1 + 3)) fun x2 =>
      zg (0 ≤ x2 ∧ x2 < 6190) (
      zj (fun  (I4 : IMem) =>
          zl (wr32 (w1 + 1)) fun x5 =>
          R_ x5 I4) fun k3 =>
        if 0 < I0 (o0 + 1) x2.toNat then (
          zb (f_X_draw fu o0 1000 I0) fun y6 I7 =>
          zl (wr32 (x1 + 3)) fun x9 =>
          zg (0 ≤ x9 ∧ x9 < 6190) (
          if y6 < I7 (o0 + 1) x9.toNat then (
            zg (0 ≤ x1 ∧ x1 < 6190) (
            zl (wr32 (x1 + 1)) fun x10 =>
            zg (0 ≤ x10 ∧ x10 < 6190) (
            zl (wr32 (x1 + 2)) fun x11 =>
            zg (0 ≤ x11 ∧ x11 < 6190) (
            zb (f_X_comes fu o0 (I7 (o0 + 1) x1.toNat) (I7 (o0 + 1) x10.toNat) (I7 (o0 + 1) x11.toNat) I7) fun y12 I13 =>
            k3 I13))))
          else (
            k3 I7)))
        else (
          k3 I0)))
    else (
      k_77 I0)
def f_X_turn_2 (fu : Nat) (k_77 : IMem → Res) (o0 : Nat) : Nat → Int → IMem → Res
 | 0 => fun _ _ => none
 | n + 1 => fb_X_turn_2 fu k_77 o0 (f_X_turn_2 fu k_77 o0 n)
def f_X_turn (fu : Nat) (o0 : Nat) (I0 : IMem) : Res :=
  f_X_turn_2 fu (fun  (I15 : IMem) =>
      zb (f_X_chair fu o0 I15) fun y16 I17 =>
      zr y16 I17) o0 fu 0 I0
def fb_X_run_16 (fu : Nat) (o0 : Nat) (p1 : Int) (R_ : Int → Int → IMem → Res) (w2 : Int) (w3 : Int) (I0 : IMem) : Res :=
  if w3 < p1 then (
      zb (f_X_turn fu o0 I0) fun y4 I5 =>
      zl (wr32 (w2 + y4)) fun x7 =>
      zl (wr32 (w3 + 1)) fun x8 =>
      R_ x7 x8 I5)
    else (
      zr w2 I0)
def f_X_run_16 (fu : Nat) (o0 : Nat) (p1 : Int) : Nat → Int → Int → IMem → Res
 | 0 => fun _ _ _ => none
 | n + 1 => fb_X_run_16 fu o0 p1 (f_X_run_16 fu o0 p1 n)
def f_X_run (fu : Nat) (o0 : Nat) (a1 : Int) (I0 : IMem) : Res :=
  zb (f_X_isIn fu a1 1 60 I0) fun y1 I2 =>
    if y1 = 0 then (
      zr ((-1)) I2)
    else (
      f_X_run_16 fu  o0 a1 fu 0 0 I2)
def f_X_last (fu : Nat) (o0 : Nat) (a1 : Int) (I0 : IMem) : Res :=
  zl (I0 (o0 + 1) 110) fun x1 =>
    if x1 = (-1) then (
      zr ((-1)) I0)
    else (
      zb (f_X_isIn fu a1 10 (wr32 (9 + x1)) I0) fun y2 I3 =>
      if y2 = 0 then (
        zb (f_X_isIn fu a1 20 (wr32 (19 + x1)) I3) fun y5 I6 =>
        if y5 = 0 then (
          if a1 = 0 then (
            zr x1 I6)
          else (
            if a1 = 1 then (
              zr (I6 (o0 + 1) 111) I6)
            else (
              zr ((-1)) I6)))
        else (
          zl (wr32 ((wr32 (120 + a1)) - 20)) fun x8 =>
          zg (0 ≤ x8 ∧ x8 < 6190) (
          zr (I6 (o0 + 1) x8.toNat) I6)))
      else (
        zl (wr32 ((wr32 (112 + a1)) - 10)) fun x9 =>
        zg (0 ≤ x9 ∧ x9 < 6190) (
        zr (I3 (o0 + 1) x9.toNat) I3)))
def f_X_count (fu : Nat) (o0 : Nat) (a1 : Int) (I0 : IMem) : Res :=
  zb (f_X_isIn fu a1 0 6 I0) fun y1 I2 =>
    if y1 = 0 then (
      zb (f_X_isIn fu a1 41 48 I2) fun y4 I5 =>
      if y4 = 0 then (
        zb (f_X_isIn fu (wrem a1 10) 1 8 I5) fun y7 I8 =>
        zj (fun (x12 : Int) (I11 : IMem) =>
            if x12 = 0 then (
              zr ((-1)) I11)
            else (
              zl (wr32 ((wr32 (80 + a1)) - 10)) fun x13 =>
              zg (0 ≤ x13 ∧ x13 < 6190) (
              zr (I11 (o0 + 1) x13.toNat) I11))) fun k10 =>
          if y7 = 0 then (
            k10 0 I8)
          else (
            zb (f_X_isIn fu a1 11 38 I8) fun y14 I15 =>
            if y14 = 0 then (
              k10 0 I15)
            else (
              k10 1 I15)))
      else (
        zl (wr32 ((wr32 (80 + a1)) - 40)) fun x17 =>
        zg (0 ≤ x17 ∧ x17 < 6190) (
        if I5 (o0 + 1) x17.toNat = 0 then (
          zr ((-1)) I5)
        else (
          zl (wr32 ((wr32 (90 + a1)) - 40)) fun x18 =>
          zg (0 ≤ x18 ∧ x18 < 6190) (
          zl (wr32 ((wr32 (80 + a1)) - 40)) fun x19 =>
          zg (0 ≤ x19 ∧ x19 < 6190) (
          zg (I5 (o0 + 1) x19.toNat ≠ 0) (
          zr (wdiv (wr32 (100 * (I5 (o0 + 1) x18.toNat))) (I5 (o0 + 1) x19.toNat)) I5)))))))
    else (
      zl (wr32 (70 + a1)) fun x20 =>
      zg (0 ≤ x20 ∧ x20 < 6190) (
      zr (I2 (o0 + 1) x20.toNat) I2))
def fb_X_laysRow_15 (fu : Nat) (k_87 : IMem → Res) (o0 : Nat) (p1 : Int) (R_ : Int → IMem → Res) (w2 : Int) (I0 : IMem) : Res :=
  zl (wr32 (130 + p1)) fun x2 =>
    zg (0 ≤ x2 ∧ x2 < 6190) (
    if w2 < I0 (o0 + 1) x2.toNat then (
      zl (wr32 (10 + p1)) fun x3 =>
      zg (0 ≤ x3 ∧ x3 < 6190) (
      if w2 < I0 (o0 + 1) x3.toNat then (
        zb (f_X_of fu o0 p1 w2 3 I0) fun y4 I5 =>
        zj (fun  (I8 : IMem) =>
            zl (wr32 (w2 + 1)) fun x9 =>
            R_ x9 I8) fun k7 =>
          if y4 = 2 then (
            k7 I5)
          else (
            zl (I5 o0 40) fun x11 =>
            zg (0 ≤ x11 ∧ x11 < 150) (zw I5 (o0 + 16) x11.toNat (wr32 ((wr32 (40 * p1)) + w2)) fun I10 =>
            zw I10 o0 40 (wr32 ((I10 o0 40) + 1)) fun I12 =>
            k7 I12)))
      else (
        k_87 I0)))
    else (
      k_87 I0))
def f_X_laysRow_15 (fu : Nat) (k_87 : IMem → Res) (o0 : Nat) (p1 : Int) : Nat → Int → IMem → Res
 | 0 => fun _ _ => none
 | n + 1 => fb_X_laysRow_15 fu k_87 o0 p1 (f_X_laysRow_15 fu k_87 o0 p1 n)
def fb_X_laysRow_7 (fu : Nat) (o0 : Nat) (R_ : Int → IMem → Res) (w1 : Int) (I0 : IMem) : Res :=
  if w1 < 6 then (
      f_X_laysRow_15 fu (fun  (I13 : IMem) =>
        zl (wr32 (w1 + 1)) fun x14 =>
        R_ x14 I13) o0 w1 fu 0 I0)
    else (
      zr 0 I0)
def f_X_laysRow_7 (fu : Nat) (o0 : Nat) : Nat → Int → IMem → Res
 | 0 => fun _ _ => none
 | n + 1 => fb_X_laysRow_7 fu o0 (f_X_laysRow_7 fu o0 n)
def f_X_laysRow (fu : Nat) (o0 : Nat) (I0 : IMem) : Res :=
  zw I0 o0 40 0 fun I1 =>
    f_X_laysRow_7 fu  o0 fu 0 I1
def f_X_spot (fu : Nat) (a0 : Int) (a1 : Int) (a2 : Int) (I0 : IMem) : Res :=
  zr (wr32 ((wr32 ((wr32 (36 * a0)) + (wr32 (4 * a1)))) + a2)) I0
def f_X_with (fu : Nat) (o0 : Nat) (a1 : Int) (a2 : Int) (I0 : IMem) : Res :=
  zl (wr32 ((wr32 (140 + (wr32 (6 * a2)))) + 3)) fun x1 =>
    zg (0 ≤ x1 ∧ x1 < 6190) (
    if I0 (o0 + 1) x1.toNat = 1 then (
      zr (wor a1 1) I0)
    else (
      zr (wor a1 2) I0))
def f_X_taking (fu : Nat) (o0 : Nat) (a1 : Int) (a2 : Int) (a3 : Int) (I0 : IMem) : Res :=
  zg (0 ≤ a1 ∧ a1 < 150) (
    zl (wr32 ((wr32 (140 + (wr32 (6 * (I0 (o0 + 16) a1.toNat))))) + 1)) fun x1 =>
    zg (0 ≤ x1 ∧ x1 < 6190) (
    zl (I0 (o0 + 1) x1.toNat) fun x2 =>
    if a2 < x2 then (
      zr ((-99)) I0)
    else (
      zg (0 ≤ a1 ∧ a1 < 150) (
      zb (f_X_with fu o0 a3 (I0 (o0 + 16) a1.toNat) I0) fun y3 I4 =>
      zb (f_X_spot fu (wr32 (a1 + 1)) (wr32 (a2 - x2)) y3 I4) fun y6 I7 =>
      zg (0 ≤ y6 ∧ y6 < 5440) (
      zr (wr32 (x2 + (I7 (o0 + 17) y6.toNat))) I7)))))
def fb_X_reckons_14 (fu : Nat) (k_50 : IMem → Res) (o0 : Nat) (p1 : Int) (R_ : Int → IMem → Res) (w2 : Int) (I0 : IMem) : Res :=
  if w2 < 4 then (
      zb (f_X_spot fu (I0 o0 40) p1 w2 I0) fun y4 I5 =>
      zj (fun (x9 : Int) (I8 : IMem) =>
          zg (0 ≤ y4 ∧ y4 < 5440) (zw I8 (o0 + 17) y4.toNat x9 fun I10 =>
          zl (wr32 (w2 + 1)) fun x11 =>
          R_ x11 I10)) fun k7 =>
        if w2 = 1 then (
          k7 ((-99)) I5)
        else (
          k7 0 I5))
    else (
      k_50 I0)
def f_X_reckons_14 (fu : Nat) (k_50 : IMem → Res) (o0 : Nat) (p1 : Int) : Nat → Int → IMem → Res
 | 0 => fun _ _ => none
 | n + 1 => fb_X_reckons_14 fu k_50 o0 p1 (f_X_reckons_14 fu k_50 o0 p1 n)
def fb_X_reckons_6 (fu : Nat) (k_56 : IMem → Res) (o0 : Nat) (R_ : Int → IMem → Res) (w1 : Int) (I0 : IMem) : Res :=
  if w1 < 9 then (
      f_X_reckons_14 fu (fun  (I12 : IMem) =>
        zl (wr32 (w1 + 1)) fun x13 =>
        R_ x13 I12) o0 w1 fu 0 I0)
    else (
      k_56 I0)
def f_X_reckons_6 (fu : Nat) (k_56 : IMem → Res) (o0 : Nat) : Nat → Int → IMem → Res
 | 0 => fun _ _ => none
 | n + 1 => fb_X_reckons_6 fu k_56 o0 (f_X_reckons_6 fu k_56 o0 n)
def fb_X_reckons_77 (fu : Nat) (k_137 : IMem → Res) (o0 : Nat) (p1 : Int) (p2 : Int) (R_ : Int → IMem → Res) (w3 : Int) (I0 : IMem) : Res :=
  if w3 < 4 then (
      zb (f_X_taking fu o0 p1 p2 w3 I0) fun y16 I17 =>
      zb (f_X_spot fu (wr32 (p1 + 1)) p2 w3 I17) fun y19 I20 =>
      zg (0 ≤ y19 ∧ y19 < 5440) (
      zl (I20 (o0 + 17) y19.toNat) fun x22 =>
      zb (f_X_spot fu p1 p2 w3 I20) fun y23 I24 =>
      zj (fun (x28 : Int) (I27 : IMem) =>
          zg (0 ≤ y23 ∧ y23 < 5440) (zw I27 (o0 + 17) y23.toNat x28 fun I29 =>
          zl (wr32 (w3 + 1)) fun x30 =>
          R_ x30 I29)) fun k26 =>
        if x22 < y16 then (
          k26 y16 I24)
        else (
          k26 x22 I24)))
    else (
      k_137 I0)
def f_X_reckons_77 (fu : Nat) (k_137 : IMem → Res) (o0 : Nat) (p1 : Int) (p2 : Int) : Nat → Int → IMem → Res
 | 0 => fun _ _ => none
 | n + 1 => fb_X_reckons_77 fu k_137 o0 p1 p2 (f_X_reckons_77 fu k_137 o0 p1 p2 n)
def fb_X_reckons_69 (fu : Nat) (k_143 : IMem → Res) (o0 : Nat) (p1 : Int) (R_ : Int → IMem → Res) (w2 : Int) (I0 : IMem) : Res :=
  if w2 < 9 then (
      f_X_reckons_77 fu (fun  (I31 : IMem) =>
        zl (wr32 (w2 + 1)) fun x32 =>
        R_ x32 I31) o0 p1 w2 fu 0 I0)
    else (
      k_143 I0)
def f_X_reckons_69 (fu : Nat) (k_143 : IMem → Res) (o0 : Nat) (p1 : Int) : Nat → Int → IMem → Res
 | 0 => fun _ _ => none
 | n + 1 => fb_X_reckons_69 fu k_143 o0 p1 (f_X_reckons_69 fu k_143 o0 p1 n)
def fb_X_reckons_63 (fu : Nat) (o0 : Nat) (R_ : Int → IMem → Res) (w1 : Int) (I0 : IMem) : Res :=
  if w1 < 0 then (
      zr 0 I0)
    else (
      f_X_reckons_69 fu (fun  (I33 : IMem) =>
        zl (wr32 (w1 + (-1))) fun x34 =>
        R_ x34 I33) o0 w1 fu 0 I0)
def f_X_reckons_63 (fu : Nat) (o0 : Nat) : Nat → Int → IMem → Res
 | 0 => fun _ _ => none
 | n + 1 => fb_X_reckons_63 fu o0 (f_X_reckons_63 fu o0 n)
def f_X_reckons (fu : Nat) (o0 : Nat) (I0 : IMem) : Res :=
  zb (f_X_laysRow fu o0 I0) fun _ I2 =>
    f_X_reckons_6 fu (fun  (I14 : IMem) =>
      zl (wr32 ((I14 o0 40) - 1)) fun x15 =>
      f_X_reckons_63 fu  o0 fu x15 I14) o0 fu 0 I2
section
variable {l : Launch} {b : PB}
set_option maxRecDepth 20000 in
theorem t_X_takes (fu : Nat) (o0 : Nat) (a1 : Int) (a2 : Int) (a3 : Int) (I0 : IMem) (hI : RG I0) (h_o0 : KM[o0]? = some (12, 51)) (h_a1 : inr a1) (h_a2 : inr a2) (h_a3 : inr a3) {r : Int × IMem} (hf : f_X_takes fu o0 a1 a2 a3 I0 = some r) : Ss l b 3 y_X_takes KM RM [.ref o0, .int (iv a1), .int (iv a2), .int (iv a3)] (ivm I0) (Pv r) := by
  unfold f_X_takes at hf
  refine Ss.of (show Ai l b 3 y_X_takes KM RM (Pv r) I0 0 [.ref o0, .int (iv a1), .int (iv a2), .int (iv a3)] [] from ?_)
  refine aw_aload_n rfl rfl d_X_takes_0 (aw_getr (r := o0 + 9) fl_X_44 h_o0 (by decide) rfl (rm_9_25 _ h_o0).1 d_X_takes_1 (aw_bipush (v := iv 40) cb_40 d_X_takes_4 (aw_iload_n rfl rfl d_X_takes_6 (ai_imul d_X_takes_7 (aw_iload_n rfl rfl d_X_takes_8 (ai_iadd d_X_takes_9 (aw_iload_n rfl rfl d_X_takes_10 ?_)))))))
  refine ai_nameU hf (wr32_in _) (fun x2 h_x2 hf => ?_)
  refine ai_iast (rm_9_25 _ h_o0).2 rfl h_x2 h_a3 hI hf d_X_takes_11 (fun _ I1 h_I1 hf => ?_)
  refine aw_aload_n rfl rfl d_X_takes_12 (aw_getr (r := o0 + 11) fl_X_50 h_o0 (by decide) rfl (rm_9_27 _ h_o0).1 d_X_takes_13 (aw_aload_n rfl rfl d_X_takes_16 (ai_geti fl_X_291 h_o0 (by decide) rfl d_X_takes_17 (aw_bipush (v := iv 40) cb_40 d_X_takes_20 (aw_iload_n rfl rfl d_X_takes_22 (ai_imul d_X_takes_23 (aw_iload_n rfl rfl d_X_takes_24 (ai_iadd d_X_takes_25 ?_))))))))
  refine ai_nameU hf (h_I1 o0 31) (fun x4 h_x4 hf => ?_)
  refine ai_iast (rm_9_27 _ h_o0).2 rfl h_x4 (wr32_in _) h_I1 hf d_X_takes_26 (fun _ I3 h_I3 hf => ?_)
  refine aw_aload_n rfl rfl d_X_takes_27 (aw_dup rfl d_X_takes_28 (ai_geti fl_X_291 h_o0 (by decide) rfl d_X_takes_29 (aw_iconst (v := iv 1) rfl d_X_takes_32 (ai_iadd d_X_takes_33 ?_))))
  refine ai_puti hf h_I3 (wr32_in _) fl_X_291 h_o0 (by decide) rfl rfl rfl rfl d_X_takes_34 (fun I5 h_I5 hf => ?_)
  refine aw_aload_n rfl rfl d_X_takes_37 (aw_dup rfl d_X_takes_38 (ai_geti fl_X_289 h_o0 (by decide) rfl d_X_takes_39 (aw_iload_n rfl rfl d_X_takes_42 (ai_isub d_X_takes_43 ?_))))
  refine ai_puti hf h_I5 (wr32_in _) fl_X_289 h_o0 (by decide) rfl rfl rfl rfl d_X_takes_44 (fun I6 h_I6 hf => ?_)
  refine aw_aload_n rfl rfl d_X_takes_47 (aw_dup rfl d_X_takes_48 (ai_geti fl_X_296 h_o0 (by decide) rfl d_X_takes_49 (aw_aload_n rfl rfl d_X_takes_52 (aw_iload_n rfl rfl d_X_takes_53 (aw_iload_n rfl rfl d_X_takes_54 (aw_iconst (v := iv 3) rfl d_X_takes_55 ?_))))))
  obtain ⟨y7, I8, c9, hf⟩ := of_zb hf
  refine ai_callV (as := [.int (iv a1), .int (iv a2), .int (iv 3)]) (d' := 2) (q := ("SinglesUpModel", zT9, 51)) mo_X_of lk_X_264 h_o0 rfl rfl rfl ⟨by decide, by decide⟩ rfl rfl (by decide) d_X_takes_56 (t_X_of fu o0 a1 a2 3 I6 h_I6 h_o0 h_a1 h_a2 in_3 c9) (fun h_y7 h_I8 => ?_)
  refine aw_iconst (v := iv 2) rfl d_X_takes_59 ?_
  obtain ⟨k10, ek10, hf⟩ := of_zj hf
  have hk10 : ∀ (x12 : Int) (I11 : IMem), inr x12 → RG I11 → k10 x12 I11 = some r → Ai l b 3 y_X_takes KM RM (Pv r) I11 68 [.ref o0, .int (iv a1), .int (iv a2), uu] [.int (iv x12), .int (iv (I6 o0 33)), .ref o0] := by
    intro x12 I11 h_x12 h_I11 hf
    subst ek10
    refine ai_iadd d_X_takes_68 ?_
    refine ai_puti hf h_I11 (wr32_in _) fl_X_296 h_o0 (by decide) rfl rfl rfl rfl d_X_takes_69 (fun I13 h_I13 hf => ?_)
    refine aw_aload_n rfl rfl d_X_takes_72 (aw_dup rfl d_X_takes_73 (ai_geti fl_X_299 h_o0 (by decide) rfl d_X_takes_74 (aw_aload_n rfl rfl d_X_takes_77 (aw_iload_n rfl rfl d_X_takes_78 (aw_iload_n rfl rfl d_X_takes_79 (aw_iconst (v := iv 3) rfl d_X_takes_80 ?_))))))
    obtain ⟨y14, I15, c16, hf⟩ := of_zb hf
    refine ai_callV (as := [.int (iv a1), .int (iv a2), .int (iv 3)]) (d' := 2) (q := ("SinglesUpModel", zT9, 51)) mo_X_of lk_X_264 h_o0 rfl rfl rfl ⟨by decide, by decide⟩ rfl rfl (by decide) d_X_takes_81 (t_X_of fu o0 a1 a2 3 I13 h_I13 h_o0 h_a1 h_a2 in_3 c16) (fun h_y14 h_I15 => ?_)
    refine aw_iconst (v := iv 1) rfl d_X_takes_84 ?_
    obtain ⟨k17, ek17, hf⟩ := of_zj hf
    have hk17 : ∀ (x19 : Int) (I18 : IMem), inr x19 → RG I18 → k17 x19 I18 = some r → Ai l b 3 y_X_takes KM RM (Pv r) I18 93 [uu, uu, uu, uu] [.int (iv x19), .int (iv (I13 o0 34)), .ref o0] := by
      intro x19 I18 h_x19 h_I18 hf
      subst ek17
      refine ai_iadd d_X_takes_93 ?_
      refine ai_puti hf h_I18 (wr32_in _) fl_X_299 h_o0 (by decide) rfl rfl rfl rfl d_X_takes_94 (fun I20 h_I20 hf => ?_)
      exact ai_retv rfl d_X_takes_97 hf h_I20
    refine ai_icmp_eq h_y14 in_1 hf (tgt := 92) (by decide) d_X_takes_85 (fun hf => ?_) (fun hf => ?_)
    · refine aw_iconst (v := iv 0) rfl d_X_takes_92 ?_
      refine aw_weakB (lv2 := [uu, uu, uu, uu]) (wk_u (wk_u (wk_u (wk_u wk_n)))) ?_
      exact hk17 0 I15 in_0 h_I15 hf
    · refine aw_iconst (v := iv 1) rfl d_X_takes_88 (aw_goto (tgt := 93) (by decide) d_X_takes_89 ?_)
      refine aw_weakB (lv2 := [uu, uu, uu, uu]) (wk_u (wk_u (wk_u (wk_u wk_n)))) ?_
      exact hk17 1 I15 in_1 h_I15 hf
  refine ai_icmp_ne h_y7 in_2 hf (tgt := 67) (by decide) d_X_takes_60 (fun hf => ?_) (fun hf => ?_)
  · refine aw_iconst (v := iv 0) rfl d_X_takes_67 ?_
    refine aw_weakB (lv2 := [.ref o0, .int (iv a1), .int (iv a2), uu]) (wk_s (wk_s (wk_s (wk_u wk_n)))) ?_
    exact hk10 0 I8 in_0 h_I8 hf
  · refine aw_iconst (v := iv 1) rfl d_X_takes_63 (aw_goto (tgt := 68) (by decide) d_X_takes_64 ?_)
    refine aw_weakB (lv2 := [.ref o0, .int (iv a1), .int (iv a2), uu]) (wk_s (wk_s (wk_s (wk_u wk_n)))) ?_
    exact hk10 1 I8 in_1 h_I8 hf
set_option maxRecDepth 20000 in
theorem t_X_send_6 (fu : Nat) {r : Int × IMem} (k_62 : IMem → Res) (o0 : Nat) (h_o0 : KM[o0]? = some (12, 51)) (hk_62 : ∀ (I9 : IMem), RG I9 → k_62 I9 = some r → Ai l b 5 y_X_send KM RM (Ps r) I9 62 [.ref o0, uu] []) : ∀ (m : Nat) (w1 : Int) (I0 : IMem), inr w1 → RG I0 → f_X_send_6 fu k_62 o0 m w1 I0 = some r → Ai l b 5 y_X_send KM RM (Ps r) I0 6 [.ref o0, .int (iv w1)] [] := by
  intro m
  induction m with
  | zero => intro w1 I0 h_w1 h_I0 hf; cases hf
  | succ m ih =>
    intro w1 I0 h_w1 h_I0 hf
    replace hf : fb_X_send_6 fu k_62 o0 (f_X_send_6 fu k_62 o0 m) w1 I0 = some r := hf
    unfold fb_X_send_6 at hf
    refine aw_iload_n rfl rfl d_X_send_6 (aw_aload_n rfl rfl d_X_send_7 (ai_geti fl_X_344 h_o0 (by decide) rfl d_X_send_8 ?_))
    refine ai_icmp_ge h_w1 (h_I0 o0 35) hf (tgt := 62) (by decide) d_X_send_11 (fun hf => ?_) (fun hf => ?_)
    · refine aw_weakB (lv2 := [.ref o0, uu]) (wk_s (wk_u wk_n)) ?_
      exact hk_62 I0 h_I0 hf
    · refine aw_aload_n rfl rfl d_X_send_14 (aw_aload_n rfl rfl d_X_send_15 (aw_getr (r := o0 + 15) fl_X_63 h_o0 (by decide) rfl (rm_9_37 _ h_o0).1 d_X_send_16 (aw_iload_n rfl rfl d_X_send_19 ?_)))
      refine ai_iald (rm_9_37 _ h_o0).2 rfl h_w1 hf d_X_send_20 (fun _ hf => ?_)
      refine aw_bipush (v := iv 40) cb_40 d_X_send_21 (ai_idivc in_40 (by decide) d_X_send_23 (aw_aload_n rfl rfl d_X_send_24 (aw_getr (r := o0 + 15) fl_X_63 h_o0 (by decide) rfl (rm_9_37 _ h_o0).1 d_X_send_25 (aw_iload_n rfl rfl d_X_send_28 ?_))))
      refine ai_iald (rm_9_37 _ h_o0).2 rfl h_w1 hf d_X_send_29 (fun _ hf => ?_)
      refine aw_bipush (v := iv 40) cb_40 d_X_send_30 (ai_iremc in_40 (by decide) d_X_send_32 (aw_aload_n rfl rfl d_X_send_33 (aw_getr (r := o0 + 1) fl_X_7 h_o0 (by decide) rfl (rm_9_0 _ h_o0).1 d_X_send_34 (aw_sipush (v := iv 140) cs_140 d_X_send_37 (aw_bipush (v := iv 6) cb_6 d_X_send_40 (aw_aload_n rfl rfl d_X_send_42 (aw_getr (r := o0 + 15) fl_X_63 h_o0 (by decide) rfl (rm_9_37 _ h_o0).1 d_X_send_43 (aw_iload_n rfl rfl d_X_send_46 ?_))))))))
      refine ai_iald (rm_9_37 _ h_o0).2 rfl h_w1 hf d_X_send_47 (fun _ hf => ?_)
      refine ai_imul d_X_send_48 (ai_iadd d_X_send_49 (aw_iconst (v := iv 1) rfl d_X_send_50 (ai_iadd d_X_send_51 ?_)))
      refine ai_name hf (wr32_in _) (fun x4 h_x4 hf => ?_)
      refine ai_iald (rm_9_0 _ h_o0).2 rfl h_x4 hf d_X_send_52 (fun _ hf => ?_)
      obtain ⟨y5, I6, c7, hf⟩ := of_zb hf
      refine ai_callVv (as := [.int (iv (wdiv (I0 (o0 + 15) w1.toNat) 40)), .int (iv (wrem (I0 (o0 + 15) w1.toNat) 40)), .int (iv (I0 (o0 + 1) x4.toNat))]) (d' := 3) (q := ("SinglesUpModel", zT9, 51)) mo_X_takes lk_X_311 h_o0 rfl rfl rfl ⟨by decide, by decide⟩ rfl rfl (by decide) d_X_send_53 (t_X_takes fu o0 (wdiv (I0 (o0 + 15) w1.toNat) 40) (wrem (I0 (o0 + 15) w1.toNat) 40) (I0 (o0 + 1) x4.toNat) I0 h_I0 h_o0 (wdiv_in _ _) (wrem_in _ _) (h_I0 (o0 + 1) x4.toNat) c7) (fun h_I6 => ?_)
      refine ai_iinc (n := 1) (lv2 := fun x8 => [.ref o0, .int (iv x8)]) hf rfl (Nat.le_of_ble_eq_true rfl) (fun _ => rfl) d_X_send_56 (fun x8 h_x8 hf => ?_)
      refine aw_goto (tgt := 6) (by decide) d_X_send_59 ?_
      exact ih x8 I6 h_x8 h_I6 hf
set_option maxRecDepth 20000 in
theorem t_X_send (fu : Nat) (o0 : Nat) (I0 : IMem) (hI : RG I0) (h_o0 : KM[o0]? = some (12, 51)) {r : Int × IMem} (hf : f_X_send fu o0 I0 = some r) : Ss l b 5 y_X_send KM RM [.ref o0] (ivm I0) (Ps r) := by
  unfold f_X_send at hf
  refine Ss.of (show Ai l b 5 y_X_send KM RM (Ps r) I0 0 [.ref o0, uu] [] from ?_)
  refine aw_aload_n rfl rfl d_X_send_0 ?_
  obtain ⟨y1, I2, c3, hf⟩ := of_zb hf
  refine ai_callVv (as := []) (d' := 1) (q := ("SinglesUpModel", zT9, 51)) mo_X_begins lk_X_315 h_o0 rfl rfl rfl ⟨by decide, by decide⟩ rfl rfl (by decide) d_X_send_1 (t_X_begins fu o0 I0 hI h_o0 c3) (fun h_I2 => ?_)
  refine aw_iconst (v := iv 0) rfl d_X_send_4 (aw_istore_n (lv2 := [.ref o0, .int (iv 0)]) rfl (Nat.le_of_ble_eq_true rfl) rfl d_X_send_5 ?_)
  refine t_X_send_6 fu _ o0 h_o0 ?_ fu 0 I2 in_0 h_I2 hf
  · intro I9 h_I9 hf
    refine aw_aload_n rfl rfl d_X_send_62 ?_
    obtain ⟨y10, I11, c12, hf⟩ := of_zb hf
    refine ai_callV (as := []) (d' := 4) (q := ("SinglesUpModel", zT9, 51)) mo_X_goesOff lk_X_335 h_o0 rfl rfl rfl ⟨by decide, by decide⟩ rfl rfl (by decide) d_X_send_63 (t_X_goesOff fu o0 I9 h_I9 h_o0 c12) (fun h_y10 h_I11 => ?_)
    exact ai_reti rfl d_X_send_66 hf h_y10 h_I11
set_option maxRecDepth 20000 in
theorem t_X_isOpen (fu : Nat) (o0 : Nat) (a1 : Int) (a2 : Int) (I0 : IMem) (hI : RG I0) (h_o0 : KM[o0]? = some (12, 51)) (h_a1 : inr a1) (h_a2 : inr a2) {r : Int × IMem} (hf : f_X_isOpen fu o0 a1 a2 I0 = some r) : Ss l b 1 y_X_isOpen KM RM [.ref o0, .int (iv a1), .int (iv a2)] (ivm I0) (Ps r) := by
  unfold f_X_isOpen at hf
  refine Ss.of (show Ai l b 1 y_X_isOpen KM RM (Ps r) I0 0 [.ref o0, .int (iv a1), .int (iv a2)] [] from ?_)
  refine aw_iload_n rfl rfl d_X_isOpen_0 (aw_aload_n rfl rfl d_X_isOpen_1 (aw_getr (r := o0 + 1) fl_X_7 h_o0 (by decide) rfl (rm_9_0 _ h_o0).1 d_X_isOpen_2 (aw_bipush (v := iv 10) cb_10 d_X_isOpen_5 (aw_iload_n rfl rfl d_X_isOpen_7 (ai_iadd d_X_isOpen_8 ?_)))))
  refine ai_name hf (wr32_in _) (fun x1 h_x1 hf => ?_)
  refine ai_iald (rm_9_0 _ h_o0).2 rfl h_x1 hf d_X_isOpen_9 (fun _ hf => ?_)
  refine ai_icmp_ge h_a2 (hI (o0 + 1) x1.toNat) hf (tgt := 45) (by decide) d_X_isOpen_10 (fun hf => ?_) (fun hf => ?_)
  · refine aw_iconst (v := iv 0) rfl d_X_isOpen_45 ?_
    exact ai_retn rfl (nar_z (Or.inl rfl)) d_X_isOpen_46 hf in_0 hI
  · refine aw_aload_n rfl rfl d_X_isOpen_13 (aw_getr (r := o0 + 9) fl_X_44 h_o0 (by decide) rfl (rm_9_25 _ h_o0).1 d_X_isOpen_14 (aw_bipush (v := iv 40) cb_40 d_X_isOpen_17 (aw_iload_n rfl rfl d_X_isOpen_19 (ai_imul d_X_isOpen_20 (aw_iload_n rfl rfl d_X_isOpen_21 (ai_iadd d_X_isOpen_22 ?_))))))
    refine ai_name hf (wr32_in _) (fun x2 h_x2 hf => ?_)
    refine ai_iald (rm_9_25 _ h_o0).2 rfl h_x2 hf d_X_isOpen_23 (fun _ hf => ?_)
    refine ai_if_ne (hI (o0 + 9) x2.toNat) hf (tgt := 45) (by decide) d_X_isOpen_24 (fun hf => ?_) (fun hf => ?_)
    · refine aw_iconst (v := iv 0) rfl d_X_isOpen_45 ?_
      exact ai_retn rfl (nar_z (Or.inl rfl)) d_X_isOpen_46 hf in_0 hI
    · refine aw_aload_n rfl rfl d_X_isOpen_27 (aw_getr (r := o0 + 12) fl_X_53 h_o0 (by decide) rfl (rm_9_28 _ h_o0).1 d_X_isOpen_28 (aw_bipush (v := iv 40) cb_40 d_X_isOpen_31 (aw_iload_n rfl rfl d_X_isOpen_33 (ai_imul d_X_isOpen_34 (aw_iload_n rfl rfl d_X_isOpen_35 (ai_iadd d_X_isOpen_36 ?_))))))
      refine ai_name hf (wr32_in _) (fun x3 h_x3 hf => ?_)
      refine ai_zald (rm_9_28 _ h_o0).2 rfl h_x3 hf d_X_isOpen_37 (fun _ hf => ?_)
      refine ai_if_ne (hI (o0 + 12) x3.toNat) hf (tgt := 45) (by decide) d_X_isOpen_38 (fun hf => ?_) (fun hf => ?_)
      · refine aw_iconst (v := iv 0) rfl d_X_isOpen_45 ?_
        exact ai_retn rfl (nar_z (Or.inl rfl)) d_X_isOpen_46 hf in_0 hI
      · refine aw_iconst (v := iv 1) rfl d_X_isOpen_41 (aw_goto (tgt := 46) (by decide) d_X_isOpen_42 ?_)
        exact ai_retn rfl (nar_z (Or.inr rfl)) d_X_isOpen_46 hf in_1 hI
set_option maxRecDepth 20000 in
theorem t_X_fits (fu : Nat) (o0 : Nat) (a1 : Int) (a2 : Int) (I0 : IMem) (hI : RG I0) (h_o0 : KM[o0]? = some (12, 51)) (h_a1 : inr a1) (h_a2 : inr a2) {r : Int × IMem} (hf : f_X_fits fu o0 a1 a2 I0 = some r) : Ss l b 3 y_X_fits KM RM [.ref o0, .int (iv a1), .int (iv a2)] (ivm I0) (Ps r) := by
  unfold f_X_fits at hf
  refine Ss.of (show Ai l b 3 y_X_fits KM RM (Ps r) I0 0 [.ref o0, .int (iv a1), .int (iv a2), uu] [] from ?_)
  refine aw_aload_n rfl rfl d_X_fits_0 (aw_iload_n rfl rfl d_X_fits_1 (aw_iload_n rfl rfl d_X_fits_2 ?_))
  obtain ⟨y1, I2, c3, hf⟩ := of_zb hf
  refine ai_callV (as := [.int (iv a1), .int (iv a2)]) (d' := 1) (q := ("SinglesUpModel", zT9, 51)) mo_X_isOpen lk_X_302 h_o0 rfl rfl rfl ⟨by decide, by decide⟩ rfl rfl (by decide) d_X_fits_3 (t_X_isOpen fu o0 a1 a2 I0 hI h_o0 h_a1 h_a2 c3) (fun h_y1 h_I2 => ?_)
  refine ai_if_eq h_y1 hf (tgt := 30) (by decide) d_X_fits_6 (fun hf => ?_) (fun hf => ?_)
  · refine aw_iconst (v := iv 0) rfl d_X_fits_30 ?_
    exact ai_retn rfl (nar_z (Or.inl rfl)) d_X_fits_31 hf in_0 h_I2
  · refine aw_aload_n rfl rfl d_X_fits_9 (aw_iload_n rfl rfl d_X_fits_10 (aw_iload_n rfl rfl d_X_fits_11 (aw_iconst (v := iv 2) rfl d_X_fits_12 ?_)))
    obtain ⟨y4, I5, c6, hf⟩ := of_zb hf
    refine ai_callV (as := [.int (iv a1), .int (iv a2), .int (iv 2)]) (d' := 2) (q := ("SinglesUpModel", zT9, 51)) mo_X_of lk_X_264 h_o0 rfl rfl rfl ⟨by decide, by decide⟩ rfl rfl (by decide) d_X_fits_13 (t_X_of fu o0 a1 a2 2 I2 h_I2 h_o0 h_a1 h_a2 in_2 c6) (fun h_y4 h_I5 => ?_)
    refine aw_aload_n rfl rfl d_X_fits_16 (ai_geti fl_X_289 h_o0 (by decide) rfl d_X_fits_17 ?_)
    refine ai_icmp_gt h_y4 (h_I5 o0 30) hf (tgt := 30) (by decide) d_X_fits_20 (fun hf => ?_) (fun hf => ?_)
    · refine aw_iconst (v := iv 0) rfl d_X_fits_30 ?_
      exact ai_retn rfl (nar_z (Or.inl rfl)) d_X_fits_31 hf in_0 h_I5
    · refine aw_aload_n rfl rfl d_X_fits_23 (ai_geti fl_X_296 h_o0 (by decide) rfl d_X_fits_24 ?_)
      refine ai_if_le (h_I5 o0 33) hf (tgt := 32) (by decide) d_X_fits_27 (fun hf => ?_) (fun hf => ?_)
      · refine aw_aload_n rfl rfl d_X_fits_32 (aw_iload_n rfl rfl d_X_fits_33 (aw_iload_n rfl rfl d_X_fits_34 (aw_iconst (v := iv 3) rfl d_X_fits_35 ?_)))
        obtain ⟨y7, I8, c9, hf⟩ := of_zb hf
        refine ai_callV (as := [.int (iv a1), .int (iv a2), .int (iv 3)]) (d' := 2) (q := ("SinglesUpModel", zT9, 51)) mo_X_of lk_X_264 h_o0 rfl rfl rfl ⟨by decide, by decide⟩ rfl rfl (by decide) d_X_fits_36 (t_X_of fu o0 a1 a2 3 I5 h_I5 h_o0 h_a1 h_a2 in_3 c9) (fun h_y7 h_I8 => ?_)
        refine aw_istore_n (lv2 := [.ref o0, .int (iv a1), .int (iv a2), .int (iv y7)]) rfl (Nat.le_of_ble_eq_true rfl) rfl d_X_fits_39 (aw_iload_n rfl rfl d_X_fits_40 (aw_iconst (v := iv 1) rfl d_X_fits_41 ?_))
        refine ai_icmp_ne h_y7 in_1 hf (tgt := 60) (by decide) d_X_fits_42 (fun hf => ?_) (fun hf => ?_)
        · refine aw_iload_n rfl rfl d_X_fits_60 (aw_iconst (v := iv 2) rfl d_X_fits_61 ?_)
          refine ai_icmp_ne h_y7 in_2 hf (tgt := 72) (by decide) d_X_fits_62 (fun hf => ?_) (fun hf => ?_)
          · refine aw_iconst (v := iv 1) rfl d_X_fits_72 (aw_goto (tgt := 77) (by decide) d_X_fits_73 ?_)
            exact ai_retn rfl (nar_z (Or.inr rfl)) d_X_fits_77 hf in_1 h_I8
          · refine aw_aload_n rfl rfl d_X_fits_65 (ai_geti fl_X_291 h_o0 (by decide) rfl d_X_fits_66 ?_)
            refine ai_if_ne (h_I8 o0 31) hf (tgt := 76) (by decide) d_X_fits_69 (fun hf => ?_) (fun hf => ?_)
            · refine aw_iconst (v := iv 0) rfl d_X_fits_76 ?_
              exact ai_retn rfl (nar_z (Or.inl rfl)) d_X_fits_77 hf in_0 h_I8
            · refine aw_iconst (v := iv 1) rfl d_X_fits_72 (aw_goto (tgt := 77) (by decide) d_X_fits_73 ?_)
              exact ai_retn rfl (nar_z (Or.inr rfl)) d_X_fits_77 hf in_1 h_I8
        · refine aw_aload_n rfl rfl d_X_fits_45 (ai_geti fl_X_299 h_o0 (by decide) rfl d_X_fits_46 ?_)
          refine ai_if_le (h_I8 o0 34) hf (tgt := 56) (by decide) d_X_fits_49 (fun hf => ?_) (fun hf => ?_)
          · refine aw_iconst (v := iv 0) rfl d_X_fits_56 (aw_goto (tgt := 77) (by decide) d_X_fits_57 ?_)
            exact ai_retn rfl (nar_z (Or.inl rfl)) d_X_fits_77 hf in_0 h_I8
          · refine aw_iconst (v := iv 1) rfl d_X_fits_52 (aw_goto (tgt := 77) (by decide) d_X_fits_53 ?_)
            exact ai_retn rfl (nar_z (Or.inr rfl)) d_X_fits_77 hf in_1 h_I8
      · refine aw_iconst (v := iv 0) rfl d_X_fits_30 ?_
        exact ai_retn rfl (nar_z (Or.inl rfl)) d_X_fits_31 hf in_0 h_I5
set_option maxRecDepth 20000 in
theorem t_X_finds_17 (fu : Nat) {r : Int × IMem} (k_140 : Int → Int → IMem → Res) (o0 : Nat) (p1 : Int) (p4 : Int) (h_o0 : KM[o0]? = some (12, 51)) (h_p1 : inr p1) (h_p4 : inr p4) (hk_140 : ∀ (z2 : Int) (z3 : Int) (I9 : IMem), inr z2 → inr z3 → RG I9 → k_140 z2 z3 I9 = some r → Ai l b 5 y_X_finds KM RM (Ps r) I9 140 [.ref o0, .int (iv p1), .int (iv z2), .int (iv z3), .int (iv p4), uu, uu] []) : ∀ (m : Nat) (w2 : Int) (w3 : Int) (w5 : Int) (I0 : IMem), inr w2 → inr w3 → inr w5 → RG I0 → f_X_finds_17 fu k_140 o0 p1 p4 m w2 w3 w5 I0 = some r → Ai l b 5 y_X_finds KM RM (Ps r) I0 17 [.ref o0, .int (iv p1), .int (iv w2), .int (iv w3), .int (iv p4), .int (iv w5), uu] [] := by
  intro m
  induction m with
  | zero => intro w2 w3 w5 I0 h_w2 h_w3 h_w5 h_I0 hf; cases hf
  | succ m ih =>
    intro w2 w3 w5 I0 h_w2 h_w3 h_w5 h_I0 hf
    replace hf : fb_X_finds_17 fu k_140 o0 p1 p4 (f_X_finds_17 fu k_140 o0 p1 p4 m) w2 w3 w5 I0 = some r := hf
    unfold fb_X_finds_17 at hf
    refine aw_iload rfl d_X_finds_17 (aw_aload_n rfl rfl d_X_finds_19 (aw_getr (r := o0 + 1) fl_X_7 h_o0 (by decide) rfl (rm_9_0 _ h_o0).1 d_X_finds_20 (aw_sipush (v := iv 130) cs_130 d_X_finds_23 (aw_iload rfl d_X_finds_26 (ai_iadd d_X_finds_28 ?_)))))
    refine ai_name hf (wr32_in _) (fun x1 h_x1 hf => ?_)
    refine ai_iald (rm_9_0 _ h_o0).2 rfl h_x1 hf d_X_finds_29 (fun _ hf => ?_)
    refine ai_icmp_ge h_w5 (h_I0 (o0 + 1) x1.toNat) hf (tgt := 140) (by decide) d_X_finds_30 (fun hf => ?_) (fun hf => ?_)
    · refine aw_weakB (lv2 := [.ref o0, .int (iv p1), .int (iv w2), .int (iv w3), .int (iv p4), uu, uu]) (wk_s (wk_s (wk_s (wk_s (wk_s (wk_u (wk_u wk_n))))))) ?_
      exact hk_140 w2 w3 I0 h_w2 h_w3 h_I0 hf
    · refine aw_aload_n rfl rfl d_X_finds_33 (aw_iload rfl d_X_finds_34 (aw_iload rfl d_X_finds_36 ?_))
      obtain ⟨y2, I3, c4, hf⟩ := of_zb hf
      refine ai_callV (as := [.int (iv p4), .int (iv w5)]) (d' := 3) (q := ("SinglesUpModel", zT9, 51)) mo_X_fits lk_X_305 h_o0 rfl rfl rfl ⟨by decide, by decide⟩ rfl rfl (by decide) d_X_finds_38 (t_X_fits fu o0 p4 w5 I0 h_I0 h_o0 h_p4 h_w5 c4) (fun h_y2 h_I3 => ?_)
      obtain ⟨k5, ek5, hf⟩ := of_zj hf
      have hk5 : ∀ (x7 : Int) (x8 : Int) (I6 : IMem), inr x7 → inr x8 → RG I6 → k5 x7 x8 I6 = some r → Ai l b 5 y_X_finds KM RM (Ps r) I6 134 [.ref o0, .int (iv p1), .int (iv x7), .int (iv x8), .int (iv p4), .int (iv w5), uu] [] := by
        intro x7 x8 I6 h_x7 h_x8 h_I6 hf
        subst ek5
        refine ai_iinc (n := 1) (lv2 := fun x9 => [.ref o0, .int (iv p1), .int (iv x7), .int (iv x8), .int (iv p4), .int (iv x9), uu]) hf rfl (Nat.le_of_ble_eq_true rfl) (fun _ => rfl) d_X_finds_134 (fun x9 h_x9 hf => ?_)
        refine aw_goto (tgt := 17) (by decide) d_X_finds_137 ?_
        exact ih x7 x8 x9 I6 h_x7 h_x8 h_x9 h_I6 hf
      refine ai_if_ne h_y2 hf (tgt := 47) (by decide) d_X_finds_41 (fun hf => ?_) (fun hf => ?_)
      · refine aw_iload_n rfl rfl d_X_finds_47 ?_
        obtain ⟨k10, ek10, hf⟩ := of_zj hf
        have hk10 : ∀ (x12 : Int) (I11 : IMem), inr x12 → RG I11 → k10 x12 I11 = some r → Ai l b 5 y_X_finds KM RM (Ps r) I11 79 [.ref o0, .int (iv p1), .int (iv w2), .int (iv w3), .int (iv p4), .int (iv w5), uu] [.int (iv x12)] := by
          intro x12 I11 h_x12 h_I11 hf
          subst ek10
          refine aw_istore (lv2 := [.ref o0, .int (iv p1), .int (iv w2), .int (iv w3), .int (iv p4), .int (iv w5), .int (iv x12)]) (Nat.le_of_ble_eq_true rfl) rfl d_X_finds_79 (aw_iload_n rfl rfl d_X_finds_81 ?_)
          obtain ⟨k13, ek13, hf⟩ := of_zj hf
          have hk13 : ∀  (I14 : IMem), RG I14 → k13 I14 = some r → Ai l b 5 y_X_finds KM RM (Ps r) I14 108 [.ref o0, .int (iv p1), .int (iv w2), .int (iv w3), .int (iv p4), .int (iv w5), .int (iv x12)] [] := by
            intro I14 h_I14 hf
            subst ek13
            refine aw_iload_n rfl rfl d_X_finds_108 (aw_iconst (v := iv (-1)) rfl d_X_finds_109 ?_)
            obtain ⟨k15, ek15, hf⟩ := of_zj hf
            have hk15 : ∀  (I16 : IMem), RG I16 → k15 I16 = some r → Ai l b 5 y_X_finds KM RM (Ps r) I16 122 [.ref o0, .int (iv p1), uu, uu, .int (iv p4), .int (iv w5), .int (iv x12)] [] := by
              intro I16 h_I16 hf
              subst ek15
              refine aw_bipush (v := iv 40) cb_40 d_X_finds_122 (aw_iload rfl d_X_finds_124 (ai_imul d_X_finds_126 (aw_iload rfl d_X_finds_127 (ai_iadd d_X_finds_129 ?_))))
              refine ai_name hf (wr32_in _) (fun x17 h_x17 hf => ?_)
              refine aw_istore_n (lv2 := [.ref o0, .int (iv p1), .int (iv x17), uu, .int (iv p4), .int (iv w5), .int (iv x12)]) rfl (Nat.le_of_ble_eq_true rfl) rfl d_X_finds_130 ?_
              refine aw_iload rfl d_X_finds_131 (aw_istore_n (lv2 := [.ref o0, .int (iv p1), .int (iv x17), .int (iv x12), .int (iv p4), .int (iv w5), .int (iv x12)]) rfl (Nat.le_of_ble_eq_true rfl) rfl d_X_finds_133 ?_)
              refine aw_weakB (lv2 := [.ref o0, .int (iv p1), .int (iv x17), .int (iv x12), .int (iv p4), .int (iv w5), uu]) (wk_s (wk_s (wk_s (wk_s (wk_s (wk_s (wk_u wk_n))))))) ?_
              exact hk5 x17 x12 I16 h_x17 h_x12 h_I16 hf
            refine ai_icmp_eq h_w2 in_m1 hf (tgt := 122) (by decide) d_X_finds_110 (fun hf => ?_) (fun hf => ?_)
            · refine aw_weakB (lv2 := [.ref o0, .int (iv p1), uu, uu, .int (iv p4), .int (iv w5), .int (iv x12)]) (wk_s (wk_s (wk_u (wk_u (wk_s (wk_s (wk_s wk_n))))))) ?_
              exact hk15 I14 h_I14 hf
            · refine aw_iload rfl d_X_finds_113 (aw_iload_n rfl rfl d_X_finds_115 ?_)
              refine ai_icmp_gt h_x12 h_w3 hf (tgt := 122) (by decide) d_X_finds_116 (fun hf => ?_) (fun hf => ?_)
              · refine aw_weakB (lv2 := [.ref o0, .int (iv p1), uu, uu, .int (iv p4), .int (iv w5), .int (iv x12)]) (wk_s (wk_s (wk_u (wk_u (wk_s (wk_s (wk_s wk_n))))))) ?_
                exact hk15 I14 h_I14 hf
              · refine aw_goto (tgt := 134) (by decide) d_X_finds_119 ?_
                refine aw_weakB (lv2 := [.ref o0, .int (iv p1), .int (iv w2), .int (iv w3), .int (iv p4), .int (iv w5), uu]) (wk_s (wk_s (wk_s (wk_s (wk_s (wk_s (wk_u wk_n))))))) ?_
                exact hk5 w2 w3 I14 h_w2 h_w3 h_I14 hf
          refine ai_if_eq h_p1 hf (tgt := 99) (by decide) d_X_finds_82 (fun hf => ?_) (fun hf => ?_)
          · refine aw_iload rfl d_X_finds_99 (aw_iconst (v := iv 1) rfl d_X_finds_101 ?_)
            refine ai_icmp_ge h_x12 in_1 hf (tgt := 108) (by decide) d_X_finds_102 (fun hf => ?_) (fun hf => ?_)
            · exact hk13 I11 h_I11 hf
            · refine aw_goto (tgt := 134) (by decide) d_X_finds_105 ?_
              refine aw_weakB (lv2 := [.ref o0, .int (iv p1), .int (iv w2), .int (iv w3), .int (iv p4), .int (iv w5), uu]) (wk_s (wk_s (wk_s (wk_s (wk_s (wk_s (wk_u wk_n))))))) ?_
              exact hk5 w2 w3 I11 h_w2 h_w3 h_I11 hf
          · refine aw_iload rfl d_X_finds_85 (aw_aload_n rfl rfl d_X_finds_87 (aw_getr (r := o0 + 1) fl_X_7 h_o0 (by decide) rfl (rm_9_0 _ h_o0).1 d_X_finds_88 (aw_iconst (v := iv 5) rfl d_X_finds_91 (ai_ialdc (j := 5) (rm_9_0 _ h_o0).2 (by decide) (by decide) d_X_finds_92 ?_))))
            refine ai_icmp_ge h_x12 (h_I11 (o0 + 1) 5) hf (tgt := 108) (by decide) d_X_finds_93 (fun hf => ?_) (fun hf => ?_)
            · exact hk13 I11 h_I11 hf
            · refine aw_goto (tgt := 134) (by decide) d_X_finds_96 ?_
              refine aw_weakB (lv2 := [.ref o0, .int (iv p1), .int (iv w2), .int (iv w3), .int (iv p4), .int (iv w5), uu]) (wk_s (wk_s (wk_s (wk_s (wk_s (wk_s (wk_u wk_n))))))) ?_
              exact hk5 w2 w3 I11 h_w2 h_w3 h_I11 hf
        refine ai_if_eq h_p1 hf (tgt := 63) (by decide) d_X_finds_48 (fun hf => ?_) (fun hf => ?_)
        · refine aw_aload_n rfl rfl d_X_finds_63 (aw_iload rfl d_X_finds_64 (aw_iload rfl d_X_finds_66 (aw_aload_n rfl rfl d_X_finds_68 (ai_geti fl_X_289 h_o0 (by decide) rfl d_X_finds_69 (aw_aload_n rfl rfl d_X_finds_72 (ai_geti fl_X_291 h_o0 (by decide) rfl d_X_finds_73 ?_))))))
          obtain ⟨y18, I19, c20, hf⟩ := of_zb hf
          refine ai_callV (as := [.int (iv p4), .int (iv w5), .int (iv (I3 o0 30)), .int (iv (I3 o0 31))]) (d' := 4) (q := ("SinglesUpModel", zT9, 51)) mo_X_worth lk_X_285 h_o0 rfl rfl rfl ⟨by decide, by decide⟩ rfl rfl (by decide) d_X_finds_76 (t_X_worth fu o0 p4 w5 (I3 o0 30) (I3 o0 31) I3 h_I3 h_o0 h_p4 h_w5 (h_I3 o0 30) (h_I3 o0 31) c20) (fun h_y18 h_I19 => ?_)
          exact hk10 y18 I19 h_y18 h_I19 hf
        · refine aw_aload_n rfl rfl d_X_finds_51 (aw_iload rfl d_X_finds_52 (aw_iload rfl d_X_finds_54 (aw_iconst (v := iv 5) rfl d_X_finds_56 ?_)))
          obtain ⟨y21, I22, c23, hf⟩ := of_zb hf
          refine ai_callV (as := [.int (iv p4), .int (iv w5), .int (iv 5)]) (d' := 2) (q := ("SinglesUpModel", zT9, 51)) mo_X_of lk_X_264 h_o0 rfl rfl rfl ⟨by decide, by decide⟩ rfl rfl (by decide) d_X_finds_57 (t_X_of fu o0 p4 w5 5 I3 h_I3 h_o0 h_p4 h_w5 in_5 c23) (fun h_y21 h_I22 => ?_)
          refine aw_goto (tgt := 79) (by decide) d_X_finds_60 ?_
          exact hk10 y21 I22 h_y21 h_I22 hf
      · refine aw_goto (tgt := 134) (by decide) d_X_finds_44 ?_
        exact hk5 w2 w3 I3 h_w2 h_w3 h_I3 hf
set_option maxRecDepth 20000 in
theorem t_X_finds_7 (fu : Nat) {r : Int × IMem} (o0 : Nat) (p1 : Int) (h_o0 : KM[o0]? = some (12, 51)) (h_p1 : inr p1) : ∀ (m : Nat) (w2 : Int) (w3 : Int) (w4 : Int) (I0 : IMem), inr w2 → inr w3 → inr w4 → RG I0 → f_X_finds_7 fu o0 p1 m w2 w3 w4 I0 = some r → Ai l b 5 y_X_finds KM RM (Ps r) I0 7 [.ref o0, .int (iv p1), .int (iv w2), .int (iv w3), .int (iv w4), uu, uu] [] := by
  intro m
  induction m with
  | zero => intro w2 w3 w4 I0 h_w2 h_w3 h_w4 h_I0 hf; cases hf
  | succ m ih =>
    intro w2 w3 w4 I0 h_w2 h_w3 h_w4 h_I0 hf
    replace hf : fb_X_finds_7 fu o0 p1 (f_X_finds_7 fu o0 p1 m) w2 w3 w4 I0 = some r := hf
    unfold fb_X_finds_7 at hf
    refine aw_iload rfl d_X_finds_7 (aw_bipush (v := iv 6) cb_6 d_X_finds_9 ?_)
    refine ai_icmp_ge h_w4 in_6 hf (tgt := 146) (by decide) d_X_finds_11 (fun hf => ?_) (fun hf => ?_)
    · refine aw_iload_n rfl rfl d_X_finds_146 ?_
      exact ai_reti rfl d_X_finds_147 hf h_w2 h_I0
    · refine aw_iconst (v := iv 0) rfl d_X_finds_14 (aw_istore (lv2 := [.ref o0, .int (iv p1), .int (iv w2), .int (iv w3), .int (iv w4), .int (iv 0), uu]) (Nat.le_of_ble_eq_true rfl) rfl d_X_finds_15 ?_)
      refine t_X_finds_17 fu _ o0 p1 w4 h_o0 h_p1 h_w4 ?_ fu w2 w3 0 I0 h_w2 h_w3 in_0 h_I0 hf
      · intro x25 x26 I24 h_x25 h_x26 h_I24 hf
        refine ai_iinc (n := 1) (lv2 := fun x27 => [.ref o0, .int (iv p1), .int (iv x25), .int (iv x26), .int (iv x27), uu, uu]) hf rfl (Nat.le_of_ble_eq_true rfl) (fun _ => rfl) d_X_finds_140 (fun x27 h_x27 hf => ?_)
        refine aw_goto (tgt := 7) (by decide) d_X_finds_143 ?_
        exact ih x25 x26 x27 I24 h_x25 h_x26 h_x27 h_I24 hf
set_option maxRecDepth 20000 in
theorem t_X_finds (fu : Nat) (o0 : Nat) (a1 : Int) (I0 : IMem) (hI : RG I0) (h_o0 : KM[o0]? = some (12, 51)) (h_a1 : inr a1) {r : Int × IMem} (hf : f_X_finds fu o0 a1 I0 = some r) : Ss l b 5 y_X_finds KM RM [.ref o0, .int (iv a1)] (ivm I0) (Ps r) := by
  unfold f_X_finds at hf
  refine Ss.of (show Ai l b 5 y_X_finds KM RM (Ps r) I0 0 [.ref o0, .int (iv a1), uu, uu, uu, uu, uu] [] from ?_)
  refine aw_iconst (v := iv (-1)) rfl d_X_finds_0 (aw_istore_n (lv2 := [.ref o0, .int (iv a1), .int (iv ((-1))), uu, uu, uu, uu]) rfl (Nat.le_of_ble_eq_true rfl) rfl d_X_finds_1 (aw_iconst (v := iv 0) rfl d_X_finds_2 (aw_istore_n (lv2 := [.ref o0, .int (iv a1), .int (iv ((-1))), .int (iv 0), uu, uu, uu]) rfl (Nat.le_of_ble_eq_true rfl) rfl d_X_finds_3 (aw_iconst (v := iv 0) rfl d_X_finds_4 (aw_istore (lv2 := [.ref o0, .int (iv a1), .int (iv ((-1))), .int (iv 0), .int (iv 0), uu, uu]) (Nat.le_of_ble_eq_true rfl) rfl d_X_finds_5 ?_)))))
  refine t_X_finds_7 fu o0 a1 h_o0 h_a1 fu ((-1)) 0 0 I0 in_m1 in_0 in_0 hI hf
set_option maxRecDepth 20000 in
theorem t_X_partOf (fu : Nat) (o0 : Nat) (a1 : Int) (I0 : IMem) (hI : RG I0) (h_o0 : KM[o0]? = some (12, 51)) (h_a1 : inr a1) {r : Int × IMem} (hf : f_X_partOf fu o0 a1 I0 = some r) : Ss l b 1 y_X_partOf KM RM [.ref o0, .int (iv a1)] (ivm I0) (Ps r) := by
  unfold f_X_partOf at hf
  refine Ss.of (show Ai l b 1 y_X_partOf KM RM (Ps r) I0 0 [.ref o0, .int (iv a1), uu, uu, uu] [] from ?_)
  refine aw_aload_n rfl rfl d_X_partOf_0 (aw_getr (r := o0 + 1) fl_X_7 h_o0 (by decide) rfl (rm_9_0 _ h_o0).1 d_X_partOf_1 (aw_bipush (v := iv 16) cb_16 d_X_partOf_4 (aw_iload_n rfl rfl d_X_partOf_6 (ai_iadd d_X_partOf_7 ?_))))
  refine ai_name hf (wr32_in _) (fun x1 h_x1 hf => ?_)
  refine ai_iald (rm_9_0 _ h_o0).2 rfl h_x1 hf d_X_partOf_8 (fun _ hf => ?_)
  refine ai_name hf (hI (o0 + 1) x1.toNat) (fun x2 h_x2 hf => ?_)
  refine aw_istore_n (lv2 := [.ref o0, .int (iv a1), .int (iv x2), uu, uu]) rfl (Nat.le_of_ble_eq_true rfl) rfl d_X_partOf_9 ?_
  refine aw_iload_n rfl rfl d_X_partOf_10 (aw_iload_n rfl rfl d_X_partOf_11 (ai_isub d_X_partOf_12 ?_))
  refine ai_name hf (wr32_in _) (fun x3 h_x3 hf => ?_)
  refine aw_istore_n (lv2 := [.ref o0, .int (iv a1), .int (iv x2), .int (iv x3), uu]) rfl (Nat.le_of_ble_eq_true rfl) rfl d_X_partOf_13 ?_
  refine aw_iload_n rfl rfl d_X_partOf_14 ?_
  refine ai_if_ne h_x2 hf (tgt := 20) (by decide) d_X_partOf_15 (fun hf => ?_) (fun hf => ?_)
  · refine aw_iload_n rfl rfl d_X_partOf_20 (aw_aload_n rfl rfl d_X_partOf_21 (ai_geti fl_X_289 h_o0 (by decide) rfl d_X_partOf_22 ?_))
    obtain ⟨k4, ek4, hf⟩ := of_zj hf
    have hk4 : ∀ (x6 : Int) (I5 : IMem), inr x6 → RG I5 → k4 x6 I5 = some r → Ai l b 1 y_X_partOf KM RM (Ps r) I5 33 [.ref o0, uu, uu, .int (iv x3), uu] [.int (iv x6)] := by
      intro x6 I5 h_x6 h_I5 hf
      subst ek4
      refine aw_istore (lv2 := [.ref o0, uu, uu, .int (iv x3), .int (iv x6)]) (Nat.le_of_ble_eq_true rfl) rfl d_X_partOf_33 (aw_iload_n rfl rfl d_X_partOf_35 (aw_aload_n rfl rfl d_X_partOf_36 (ai_geti fl_X_289 h_o0 (by decide) rfl d_X_partOf_37 ?_)))
      refine ai_icmp_gt h_x3 (h_I5 o0 30) hf (tgt := 53) (by decide) d_X_partOf_40 (fun hf => ?_) (fun hf => ?_)
      · refine aw_iload rfl d_X_partOf_53 ?_
        exact ai_reti rfl d_X_partOf_55 hf h_x6 h_I5
      · refine aw_iload_n rfl rfl d_X_partOf_43 (aw_iload rfl d_X_partOf_44 ?_)
        refine ai_icmp_le h_x3 h_x6 hf (tgt := 53) (by decide) d_X_partOf_46 (fun hf => ?_) (fun hf => ?_)
        · refine aw_iload rfl d_X_partOf_53 ?_
          exact ai_reti rfl d_X_partOf_55 hf h_x6 h_I5
        · refine aw_iload_n rfl rfl d_X_partOf_49 (aw_goto (tgt := 55) (by decide) d_X_partOf_50 ?_)
          exact ai_reti rfl d_X_partOf_55 hf h_x3 h_I5
    refine ai_icmp_gt h_x2 (hI o0 30) hf (tgt := 32) (by decide) d_X_partOf_25 (fun hf => ?_) (fun hf => ?_)
    · refine aw_iconst (v := iv 0) rfl d_X_partOf_32 ?_
      refine aw_weakB (lv2 := [.ref o0, uu, uu, .int (iv x3), uu]) (wk_s (wk_u (wk_u (wk_s (wk_u wk_n))))) ?_
      exact hk4 0 I0 in_0 hI hf
    · refine aw_iload_n rfl rfl d_X_partOf_28 (aw_goto (tgt := 33) (by decide) d_X_partOf_29 ?_)
      refine aw_weakB (lv2 := [.ref o0, uu, uu, .int (iv x3), uu]) (wk_s (wk_u (wk_u (wk_s (wk_u wk_n))))) ?_
      exact hk4 x2 I0 h_x2 hI hf
  · refine aw_iconst (v := iv 0) rfl d_X_partOf_18 ?_
    exact ai_reti rfl d_X_partOf_19 hf in_0 hI
set_option maxRecDepth 20000 in
theorem t_X_parts0_17 (fu : Nat) {r : Int × IMem} (k_109 : Int → Int → IMem → Res) (k_127 : IMem → Res) (o0 : Nat) (p1 : Int) (h_o0 : KM[o0]? = some (12, 51)) (h_p1 : inr p1) (hk_109 : ∀ (z2 : Int) (z3 : Int) (I9 : IMem), inr z2 → inr z3 → RG I9 → k_109 z2 z3 I9 = some r → Ai l b 5 y_X_parts0 KM RM (Pv r) I9 109 [.ref o0, .int (iv p1), .int (iv z2), .int (iv z3)] []) (hk_127 : ∀ (I9 : IMem), RG I9 → k_127 I9 = some r → Ai l b 5 y_X_parts0 KM RM (Pv r) I9 127 [.ref o0, .int (iv p1), uu, uu] []) : ∀ (m : Nat) (w2 : Int) (I0 : IMem), inr w2 → RG I0 → f_X_parts0_17 fu k_109 k_127 o0 p1 m w2 I0 = some r → Ai l b 5 y_X_parts0 KM RM (Pv r) I0 17 [.ref o0, .int (iv p1), .int (iv w2), uu] [] := by
  intro m
  induction m with
  | zero => intro w2 I0 h_w2 h_I0 hf; cases hf
  | succ m ih =>
    intro w2 I0 h_w2 h_I0 hf
    replace hf : fb_X_parts0_17 fu k_109 k_127 o0 p1 (f_X_parts0_17 fu k_109 k_127 o0 p1 m) w2 I0 = some r := hf
    unfold fb_X_parts0_17 at hf
    refine aw_iload_n rfl rfl d_X_parts0_17 (aw_aload_n rfl rfl d_X_parts0_18 (aw_getr (r := o0 + 1) fl_X_7 h_o0 (by decide) rfl (rm_9_0 _ h_o0).1 d_X_parts0_19 (aw_sipush (v := iv 130) cs_130 d_X_parts0_22 (aw_iload_n rfl rfl d_X_parts0_25 (ai_iadd d_X_parts0_26 ?_)))))
    refine ai_name hf (wr32_in _) (fun x1 h_x1 hf => ?_)
    refine ai_iald (rm_9_0 _ h_o0).2 rfl h_x1 hf d_X_parts0_27 (fun _ hf => ?_)
    refine ai_icmp_ge h_w2 (h_I0 (o0 + 1) x1.toNat) hf (tgt := 127) (by decide) d_X_parts0_28 (fun hf => ?_) (fun hf => ?_)
    · refine aw_weakB (lv2 := [.ref o0, .int (iv p1), uu, uu]) (wk_s (wk_s (wk_u (wk_u wk_n)))) ?_
      exact hk_127 I0 h_I0 hf
    · refine aw_aload_n rfl rfl d_X_parts0_31 (aw_iload_n rfl rfl d_X_parts0_32 (aw_iload_n rfl rfl d_X_parts0_33 (aw_iconst (v := iv 1) rfl d_X_parts0_34 ?_)))
      obtain ⟨y2, I3, c4, hf⟩ := of_zb hf
      refine ai_callV (as := [.int (iv p1), .int (iv w2), .int (iv 1)]) (d' := 2) (q := ("SinglesUpModel", zT9, 51)) mo_X_of lk_X_264 h_o0 rfl rfl rfl ⟨by decide, by decide⟩ rfl rfl (by decide) d_X_parts0_35 (t_X_of fu o0 p1 w2 1 I0 h_I0 h_o0 h_p1 h_w2 in_1 c4) (fun h_y2 h_I3 => ?_)
      refine aw_istore_n (lv2 := [.ref o0, .int (iv p1), .int (iv w2), .int (iv y2)]) rfl (Nat.le_of_ble_eq_true rfl) rfl d_X_parts0_38 (aw_aload_n rfl rfl d_X_parts0_39 (aw_iload_n rfl rfl d_X_parts0_40 (aw_iload_n rfl rfl d_X_parts0_41 ?_)))
      obtain ⟨y5, I6, c7, hf⟩ := of_zb hf
      refine ai_callV (as := [.int (iv p1), .int (iv w2)]) (d' := 1) (q := ("SinglesUpModel", zT9, 51)) mo_X_isOpen lk_X_302 h_o0 rfl rfl rfl ⟨by decide, by decide⟩ rfl rfl (by decide) d_X_parts0_42 (t_X_isOpen fu o0 p1 w2 I3 h_I3 h_o0 h_p1 h_w2 c7) (fun h_y5 h_I6 => ?_)
      obtain ⟨k8, ek8, hf⟩ := of_zj hf
      have hk8 : ∀  (I9 : IMem), RG I9 → k8 I9 = some r → Ai l b 5 y_X_parts0 KM RM (Pv r) I9 121 [.ref o0, .int (iv p1), .int (iv w2), uu] [] := by
        intro I9 h_I9 hf
        subst ek8
        refine ai_iinc (n := 1) (lv2 := fun x10 => [.ref o0, .int (iv p1), .int (iv x10), uu]) hf rfl (Nat.le_of_ble_eq_true rfl) (fun _ => rfl) d_X_parts0_121 (fun x10 h_x10 hf => ?_)
        refine aw_goto (tgt := 17) (by decide) d_X_parts0_124 ?_
        exact ih x10 I9 h_x10 h_I9 hf
      refine ai_if_eq h_y5 hf (tgt := 121) (by decide) d_X_parts0_45 (fun hf => ?_) (fun hf => ?_)
      · refine aw_weakB (lv2 := [.ref o0, .int (iv p1), .int (iv w2), uu]) (wk_s (wk_s (wk_s (wk_u wk_n)))) ?_
        exact hk8 I6 h_I6 hf
      · refine aw_aload_n rfl rfl d_X_parts0_48 (aw_iload_n rfl rfl d_X_parts0_49 (aw_iload_n rfl rfl d_X_parts0_50 (aw_iconst (v := iv 3) rfl d_X_parts0_51 ?_)))
        obtain ⟨y11, I12, c13, hf⟩ := of_zb hf
        refine ai_callV (as := [.int (iv p1), .int (iv w2), .int (iv 3)]) (d' := 2) (q := ("SinglesUpModel", zT9, 51)) mo_X_of lk_X_264 h_o0 rfl rfl rfl ⟨by decide, by decide⟩ rfl rfl (by decide) d_X_parts0_52 (t_X_of fu o0 p1 w2 3 I6 h_I6 h_o0 h_p1 h_w2 in_3 c13) (fun h_y11 h_I12 => ?_)
        refine ai_if_ne h_y11 hf (tgt := 121) (by decide) d_X_parts0_55 (fun hf => ?_) (fun hf => ?_)
        · refine aw_weakB (lv2 := [.ref o0, .int (iv p1), .int (iv w2), uu]) (wk_s (wk_s (wk_s (wk_u wk_n)))) ?_
          exact hk8 I12 h_I12 hf
        · refine aw_aload_n rfl rfl d_X_parts0_58 (aw_iload_n rfl rfl d_X_parts0_59 (aw_iload_n rfl rfl d_X_parts0_60 (aw_iconst (v := iv 2) rfl d_X_parts0_61 ?_)))
          obtain ⟨y14, I15, c16, hf⟩ := of_zb hf
          refine ai_callV (as := [.int (iv p1), .int (iv w2), .int (iv 2)]) (d' := 2) (q := ("SinglesUpModel", zT9, 51)) mo_X_of lk_X_264 h_o0 rfl rfl rfl ⟨by decide, by decide⟩ rfl rfl (by decide) d_X_parts0_62 (t_X_of fu o0 p1 w2 2 I12 h_I12 h_o0 h_p1 h_w2 in_2 c16) (fun h_y14 h_I15 => ?_)
          refine aw_iload_n rfl rfl d_X_parts0_65 ?_
          refine ai_icmp_ne h_y14 h_y2 hf (tgt := 121) (by decide) d_X_parts0_66 (fun hf => ?_) (fun hf => ?_)
          · refine aw_weakB (lv2 := [.ref o0, .int (iv p1), .int (iv w2), uu]) (wk_s (wk_s (wk_s (wk_u wk_n)))) ?_
            exact hk8 I15 h_I15 hf
          · refine aw_iload_n rfl rfl d_X_parts0_69 (aw_aload_n rfl rfl d_X_parts0_70 (ai_geti fl_X_289 h_o0 (by decide) rfl d_X_parts0_71 ?_))
            refine ai_icmp_le h_y2 (h_I15 o0 30) hf (tgt := 121) (by decide) d_X_parts0_74 (fun hf => ?_) (fun hf => ?_)
            · refine aw_weakB (lv2 := [.ref o0, .int (iv p1), .int (iv w2), uu]) (wk_s (wk_s (wk_s (wk_u wk_n)))) ?_
              exact hk8 I15 h_I15 hf
            · refine aw_aload_n rfl rfl d_X_parts0_77 (aw_iload_n rfl rfl d_X_parts0_78 ?_)
              obtain ⟨y17, I18, c19, hf⟩ := of_zb hf
              refine ai_callV (as := [.int (iv y2)]) (d' := 1) (q := ("SinglesUpModel", zT9, 51)) mo_X_partOf lk_X_308 h_o0 rfl rfl rfl ⟨by decide, by decide⟩ rfl rfl (by decide) d_X_parts0_79 (t_X_partOf fu o0 y2 I15 h_I15 h_o0 h_y2 c19) (fun h_y17 h_I18 => ?_)
              refine ai_if_ne h_y17 hf (tgt := 88) (by decide) d_X_parts0_82 (fun hf => ?_) (fun hf => ?_)
              · refine aw_aload_n rfl rfl d_X_parts0_88 (aw_iload_n rfl rfl d_X_parts0_89 (aw_iload_n rfl rfl d_X_parts0_90 (aw_aload_n rfl rfl d_X_parts0_91 (ai_geti fl_X_289 h_o0 (by decide) rfl d_X_parts0_92 (aw_aload_n rfl rfl d_X_parts0_95 (ai_geti fl_X_291 h_o0 (by decide) rfl d_X_parts0_96 ?_))))))
                obtain ⟨y20, I21, c22, hf⟩ := of_zb hf
                refine ai_callV (as := [.int (iv p1), .int (iv w2), .int (iv (I18 o0 30)), .int (iv (I18 o0 31))]) (d' := 4) (q := ("SinglesUpModel", zT9, 51)) mo_X_worth lk_X_285 h_o0 rfl rfl rfl ⟨by decide, by decide⟩ rfl rfl (by decide) d_X_parts0_99 (t_X_worth fu o0 p1 w2 (I18 o0 30) (I18 o0 31) I18 h_I18 h_o0 h_p1 h_w2 (h_I18 o0 30) (h_I18 o0 31) c22) (fun h_y20 h_I21 => ?_)
                refine aw_iconst (v := iv 1) rfl d_X_parts0_102 ?_
                refine ai_icmp_ge h_y20 in_1 hf (tgt := 109) (by decide) d_X_parts0_103 (fun hf => ?_) (fun hf => ?_)
                · exact hk_109 w2 y2 I21 h_w2 h_y2 h_I21 hf
                · refine aw_goto (tgt := 121) (by decide) d_X_parts0_106 ?_
                  refine aw_weakB (lv2 := [.ref o0, .int (iv p1), .int (iv w2), uu]) (wk_s (wk_s (wk_s (wk_u wk_n)))) ?_
                  exact hk8 I21 h_I21 hf
              · refine aw_goto (tgt := 121) (by decide) d_X_parts0_85 ?_
                refine aw_weakB (lv2 := [.ref o0, .int (iv p1), .int (iv w2), uu]) (wk_s (wk_s (wk_s (wk_u wk_n)))) ?_
                exact hk8 I18 h_I18 hf
set_option maxRecDepth 20000 in
theorem t_X_parts0_2 (fu : Nat) {r : Int × IMem} (k_109 : Int → Int → Int → IMem → Res) (o0 : Nat) (h_o0 : KM[o0]? = some (12, 51)) (hk_109 : ∀ (z1 : Int) (z2 : Int) (z3 : Int) (I9 : IMem), inr z1 → inr z2 → inr z3 → RG I9 → k_109 z1 z2 z3 I9 = some r → Ai l b 5 y_X_parts0 KM RM (Pv r) I9 109 [.ref o0, .int (iv z1), .int (iv z2), .int (iv z3)] []) : ∀ (m : Nat) (w1 : Int) (I0 : IMem), inr w1 → RG I0 → f_X_parts0_2 fu k_109 o0 m w1 I0 = some r → Ai l b 5 y_X_parts0 KM RM (Pv r) I0 2 [.ref o0, .int (iv w1), uu, uu] [] := by
  intro m
  induction m with
  | zero => intro w1 I0 h_w1 h_I0 hf; cases hf
  | succ m ih =>
    intro w1 I0 h_w1 h_I0 hf
    replace hf : fb_X_parts0_2 fu k_109 o0 (f_X_parts0_2 fu k_109 o0 m) w1 I0 = some r := hf
    unfold fb_X_parts0_2 at hf
    refine aw_iload_n rfl rfl d_X_parts0_2 (aw_bipush (v := iv 6) cb_6 d_X_parts0_3 ?_)
    refine ai_icmp_ge h_w1 in_6 hf (tgt := 133) (by decide) d_X_parts0_5 (fun hf => ?_) (fun hf => ?_)
    · exact ai_retv rfl d_X_parts0_133 hf h_I0
    · refine aw_aload_n rfl rfl d_X_parts0_8 (ai_geti fl_X_296 h_o0 (by decide) rfl d_X_parts0_9 ?_)
      refine ai_if_ne (h_I0 o0 33) hf (tgt := 133) (by decide) d_X_parts0_12 (fun hf => ?_) (fun hf => ?_)
      · exact ai_retv rfl d_X_parts0_133 hf h_I0
      · refine aw_iconst (v := iv 0) rfl d_X_parts0_15 (aw_istore_n (lv2 := [.ref o0, .int (iv w1), .int (iv 0), uu]) rfl (Nat.le_of_ble_eq_true rfl) rfl d_X_parts0_16 ?_)
        refine t_X_parts0_17 fu _ _ o0 w1 h_o0 h_w1 ?_ ?_ fu 0 I0 in_0 h_I0 hf
        · intro x24 x25 I23 h_x24 h_x25 h_I23 hf
          exact hk_109 w1 x24 x25 I23 h_w1 h_x24 h_x25 h_I23 hf
        · intro I26 h_I26 hf
          refine ai_iinc (n := 1) (lv2 := fun x27 => [.ref o0, .int (iv x27), uu, uu]) hf rfl (Nat.le_of_ble_eq_true rfl) (fun _ => rfl) d_X_parts0_127 (fun x27 h_x27 hf => ?_)
          refine aw_goto (tgt := 2) (by decide) d_X_parts0_130 ?_
          exact ih x27 I26 h_x27 h_I26 hf
set_option maxRecDepth 20000 in
theorem t_X_parts0 (fu : Nat) (o0 : Nat) (I0 : IMem) (hI : RG I0) (h_o0 : KM[o0]? = some (12, 51)) {r : Int × IMem} (hf : f_X_parts0 fu o0 I0 = some r) : Ss l b 5 y_X_parts0 KM RM [.ref o0] (ivm I0) (Pv r) := by
  unfold f_X_parts0 at hf
  refine Ss.of (show Ai l b 5 y_X_parts0 KM RM (Pv r) I0 0 [.ref o0, uu, uu, uu] [] from ?_)
  refine aw_iconst (v := iv 0) rfl d_X_parts0_0 (aw_istore_n (lv2 := [.ref o0, .int (iv 0), uu, uu]) rfl (Nat.le_of_ble_eq_true rfl) rfl d_X_parts0_1 ?_)
  refine t_X_parts0_2 fu _ o0 h_o0 ?_ fu 0 I0 in_0 hI hf
  · intro x29 x30 x31 I28 h_x29 h_x30 h_x31 h_I28 hf
    refine aw_aload_n rfl rfl d_X_parts0_109 (aw_iload_n rfl rfl d_X_parts0_110 (aw_iload_n rfl rfl d_X_parts0_111 (aw_aload_n rfl rfl d_X_parts0_112 (aw_iload_n rfl rfl d_X_parts0_113 ?_))))
    obtain ⟨y32, I33, c34, hf⟩ := of_zb hf
    refine ai_callV (as := [.int (iv x31)]) (d' := 1) (q := ("SinglesUpModel", zT9, 51)) mo_X_partOf lk_X_308 h_o0 rfl rfl rfl ⟨by decide, by decide⟩ rfl rfl (by decide) d_X_parts0_114 (t_X_partOf fu o0 x31 I28 h_I28 h_o0 h_x31 c34) (fun h_y32 h_I33 => ?_)
    obtain ⟨y35, I36, c37, hf⟩ := of_zb hf
    refine ai_callVv (as := [.int (iv x29), .int (iv x30), .int (iv y32)]) (d' := 3) (q := ("SinglesUpModel", zT9, 51)) mo_X_takes lk_X_311 h_o0 rfl rfl rfl ⟨by decide, by decide⟩ rfl rfl (by decide) d_X_parts0_117 (t_X_takes fu o0 x29 x30 y32 I33 h_I33 h_o0 h_x29 h_x30 h_y32 c37) (fun h_I36 => ?_)
    exact ai_retv rfl d_X_parts0_120 hf h_I36
set_option maxRecDepth 20000 in
theorem t_X_fills_4 (fu : Nat) {r : Int × IMem} (k_39 : IMem → Res) (o0 : Nat) (h_o0 : KM[o0]? = some (12, 51)) (hk_39 : ∀ (I9 : IMem), RG I9 → k_39 I9 = some r → Ai l b 6 y_X_fills KM RM (Pv r) I9 39 [.ref o0, uu, uu, uu] []) : ∀ (m : Nat) (I0 : IMem), RG I0 → f_X_fills_4 fu k_39 o0 m I0 = some r → Ai l b 6 y_X_fills KM RM (Pv r) I0 4 [.ref o0, uu, uu, uu] [] := by
  intro m
  induction m with
  | zero => intro  I0  h_I0 hf; cases hf
  | succ m ih =>
    intro  I0  h_I0 hf
    replace hf : fb_X_fills_4 fu k_39 o0 (f_X_fills_4 fu k_39 o0 m) I0 = some r := hf
    unfold fb_X_fills_4 at hf
    refine aw_aload_n rfl rfl d_X_fills_4 (aw_getr (r := o0 + 1) fl_X_7 h_o0 (by decide) rfl (rm_9_0 _ h_o0).1 d_X_fills_5 (aw_iconst (v := iv 5) rfl d_X_fills_8 (ai_ialdc (j := 5) (rm_9_0 _ h_o0).2 (by decide) (by decide) d_X_fills_9 ?_)))
    obtain ⟨k4, ek4, hf⟩ := of_zj hf
    have hk4 : ∀ (x6 : Int) (I5 : IMem), inr x6 → RG I5 → k4 x6 I5 = some r → Ai l b 6 y_X_fills KM RM (Pv r) I5 22 [.ref o0, uu, uu, uu] [.int (iv x6)] := by
      intro x6 I5 h_x6 h_I5 hf
      subst ek4
      refine aw_istore_n (lv2 := [.ref o0, .int (iv x6), uu, uu]) rfl (Nat.le_of_ble_eq_true rfl) rfl d_X_fills_22 (aw_iload_n rfl rfl d_X_fills_23 (aw_iconst (v := iv (-1)) rfl d_X_fills_24 ?_))
      obtain ⟨k7, ek7, hf⟩ := of_zj hf
      have hk7 : ∀ (x9 : Int) (I8 : IMem), inr x9 → RG I8 → k7 x9 I8 = some r → Ai l b 6 y_X_fills KM RM (Pv r) I8 34 [.ref o0, .int (iv x9), uu, uu] [] := by
        intro x9 I8 h_x9 h_I8 hf
        subst ek7
        refine aw_iload_n rfl rfl d_X_fills_34 (aw_iconst (v := iv (-1)) rfl d_X_fills_35 ?_)
        refine ai_icmp_ne h_x9 in_m1 hf (tgt := 42) (by decide) d_X_fills_36 (fun hf => ?_) (fun hf => ?_)
        · refine aw_iload_n rfl rfl d_X_fills_42 (aw_bipush (v := iv 40) cb_40 d_X_fills_43 (ai_idivc in_40 (by decide) d_X_fills_45 ?_))
          refine ai_name hf (wdiv_in _ _) (fun x10 h_x10 hf => ?_)
          refine aw_istore_n (lv2 := [.ref o0, .int (iv x9), .int (iv x10), uu]) rfl (Nat.le_of_ble_eq_true rfl) rfl d_X_fills_46 ?_
          refine aw_iload_n rfl rfl d_X_fills_47 (aw_bipush (v := iv 40) cb_40 d_X_fills_48 (ai_iremc in_40 (by decide) d_X_fills_50 ?_))
          refine ai_name hf (wrem_in _ _) (fun x11 h_x11 hf => ?_)
          refine aw_istore_n (lv2 := [.ref o0, .int (iv x9), .int (iv x10), .int (iv x11)]) rfl (Nat.le_of_ble_eq_true rfl) rfl d_X_fills_51 ?_
          refine aw_aload_n rfl rfl d_X_fills_52 (aw_iload_n rfl rfl d_X_fills_53 (aw_iload_n rfl rfl d_X_fills_54 (aw_iconst (v := iv 1) rfl d_X_fills_55 ?_)))
          obtain ⟨y12, I13, c14, hf⟩ := of_zb hf
          refine ai_callV (as := [.int (iv x10), .int (iv x11), .int (iv 1)]) (d' := 2) (q := ("SinglesUpModel", zT9, 51)) mo_X_of lk_X_264 h_o0 rfl rfl rfl ⟨by decide, by decide⟩ rfl rfl (by decide) d_X_fills_56 (t_X_of fu o0 x10 x11 1 I8 h_I8 h_o0 h_x10 h_x11 in_1 c14) (fun h_y12 h_I13 => ?_)
          refine aw_aload_n rfl rfl d_X_fills_59 (ai_geti fl_X_289 h_o0 (by decide) rfl d_X_fills_60 ?_)
          refine ai_icmp_le h_y12 (h_I13 o0 30) hf (tgt := 107) (by decide) d_X_fills_63 (fun hf => ?_) (fun hf => ?_)
          · refine aw_aload_n rfl rfl d_X_fills_107 (aw_iload_n rfl rfl d_X_fills_108 (aw_iload_n rfl rfl d_X_fills_109 (aw_aload_n rfl rfl d_X_fills_110 (aw_iload_n rfl rfl d_X_fills_111 (aw_iload_n rfl rfl d_X_fills_112 (aw_iconst (v := iv 1) rfl d_X_fills_113 ?_))))))
            obtain ⟨y15, I16, c17, hf⟩ := of_zb hf
            refine ai_callV (as := [.int (iv x10), .int (iv x11), .int (iv 1)]) (d' := 2) (q := ("SinglesUpModel", zT9, 51)) mo_X_of lk_X_264 h_o0 rfl rfl rfl ⟨by decide, by decide⟩ rfl rfl (by decide) d_X_fills_114 (t_X_of fu o0 x10 x11 1 I13 h_I13 h_o0 h_x10 h_x11 in_1 c17) (fun h_y15 h_I16 => ?_)
            obtain ⟨y18, I19, c20, hf⟩ := of_zb hf
            refine ai_callVv (as := [.int (iv x10), .int (iv x11), .int (iv y15)]) (d' := 3) (q := ("SinglesUpModel", zT9, 51)) mo_X_takes lk_X_311 h_o0 rfl rfl rfl ⟨by decide, by decide⟩ rfl rfl (by decide) d_X_fills_117 (t_X_takes fu o0 x10 x11 y15 I16 h_I16 h_o0 h_x10 h_x11 h_y15 c20) (fun h_I19 => ?_)
            refine aw_goto (tgt := 4) (by decide) d_X_fills_120 ?_
            refine aw_weakB (lv2 := [.ref o0, uu, uu, uu]) (wk_s (wk_u (wk_u (wk_u wk_n)))) ?_
            exact ih I19 h_I19 hf
          · refine aw_aload_n rfl rfl d_X_fills_66 (aw_getr (r := o0 + 12) fl_X_53 h_o0 (by decide) rfl (rm_9_28 _ h_o0).1 d_X_fills_67 (aw_iload_n rfl rfl d_X_fills_70 (aw_iconst (v := iv 1) rfl d_X_fills_71 ?_)))
            refine ai_zast (Or.inr rfl) (rm_9_28 _ h_o0).2 rfl h_x9 in_1 h_I13 hf d_X_fills_72 (fun _ I21 h_I21 hf => ?_)
            refine aw_aload_n rfl rfl d_X_fills_73 (aw_getr (r := o0 + 10) fl_X_47 h_o0 (by decide) rfl (rm_9_26 _ h_o0).1 d_X_fills_74 (aw_aload_n rfl rfl d_X_fills_77 (ai_geti fl_X_293 h_o0 (by decide) rfl d_X_fills_78 (aw_iload_n rfl rfl d_X_fills_81 ?_))))
            refine ai_nameU hf (h_I21 o0 32) (fun x23 h_x23 hf => ?_)
            refine ai_iast (rm_9_26 _ h_o0).2 rfl h_x23 h_x9 h_I21 hf d_X_fills_82 (fun _ I22 h_I22 hf => ?_)
            refine aw_aload_n rfl rfl d_X_fills_83 (aw_dup rfl d_X_fills_84 (ai_geti fl_X_293 h_o0 (by decide) rfl d_X_fills_85 (aw_iconst (v := iv 1) rfl d_X_fills_88 (ai_iadd d_X_fills_89 ?_))))
            refine ai_puti hf h_I22 (wr32_in _) fl_X_293 h_o0 (by decide) rfl rfl rfl rfl d_X_fills_90 (fun I24 h_I24 hf => ?_)
            refine aw_aload_n rfl rfl d_X_fills_93 (aw_getr (r := o0 + 1) fl_X_7 h_o0 (by decide) rfl (rm_9_0 _ h_o0).1 d_X_fills_94 (aw_bipush (v := iv 75) cb_75 d_X_fills_97 (aw_dup2 rfl rfl d_X_fills_99 (ai_ialdc (j := 75) (rm_9_0 _ h_o0).2 (by decide) (by decide) d_X_fills_100 (aw_iconst (v := iv 1) rfl d_X_fills_101 (ai_iadd d_X_fills_102 ?_))))))
            refine ai_iastc (j := 75) (rm_9_0 _ h_o0).2 (by decide) (by decide) (wr32_in _) h_I24 hf d_X_fills_103 (fun I25 h_I25 hf => ?_)
            refine aw_goto (tgt := 120) (by decide) d_X_fills_104 (aw_goto (tgt := 4) (by decide) d_X_fills_120 ?_)
            refine aw_weakB (lv2 := [.ref o0, uu, uu, uu]) (wk_s (wk_u (wk_u (wk_u wk_n)))) ?_
            exact ih I25 h_I25 hf
        · refine aw_weakB (lv2 := [.ref o0, uu, uu, uu]) (wk_s (wk_u (wk_u (wk_u wk_n)))) ?_
          exact hk_39 I8 h_I8 hf
      refine ai_icmp_ne h_x6 in_m1 hf (tgt := 34) (by decide) d_X_fills_25 (fun hf => ?_) (fun hf => ?_)
      · exact hk7 x6 I5 h_x6 h_I5 hf
      · refine aw_aload_n rfl rfl d_X_fills_28 (aw_iconst (v := iv 0) rfl d_X_fills_29 ?_)
        obtain ⟨y26, I27, c28, hf⟩ := of_zb hf
        refine ai_callV (as := [.int (iv 0)]) (d' := 5) (q := ("SinglesUpModel", zT9, 51)) mo_X_finds lk_X_318 h_o0 rfl rfl rfl ⟨by decide, by decide⟩ rfl rfl (by decide) d_X_fills_30 (t_X_finds fu o0 0 I5 h_I5 h_o0 in_0 c28) (fun h_y26 h_I27 => ?_)
        refine aw_istore_n (lv2 := [.ref o0, .int (iv y26), uu, uu]) rfl (Nat.le_of_ble_eq_true rfl) rfl d_X_fills_33 ?_
        exact hk7 y26 I27 h_y26 h_I27 hf
    refine ai_if_le (h_I0 (o0 + 1) 5) hf (tgt := 21) (by decide) d_X_fills_10 (fun hf => ?_) (fun hf => ?_)
    · refine aw_iconst (v := iv (-1)) rfl d_X_fills_21 ?_
      exact hk4 ((-1)) I0 in_m1 h_I0 hf
    · refine aw_aload_n rfl rfl d_X_fills_13 (aw_iconst (v := iv 1) rfl d_X_fills_14 ?_)
      obtain ⟨y29, I30, c31, hf⟩ := of_zb hf
      refine ai_callV (as := [.int (iv 1)]) (d' := 5) (q := ("SinglesUpModel", zT9, 51)) mo_X_finds lk_X_318 h_o0 rfl rfl rfl ⟨by decide, by decide⟩ rfl rfl (by decide) d_X_fills_15 (t_X_finds fu o0 1 I0 h_I0 h_o0 in_1 c31) (fun h_y29 h_I30 => ?_)
      refine aw_goto (tgt := 22) (by decide) d_X_fills_18 ?_
      exact hk4 y29 I30 h_y29 h_I30 hf
set_option maxRecDepth 20000 in
theorem t_X_fills (fu : Nat) (o0 : Nat) (I0 : IMem) (hI : RG I0) (h_o0 : KM[o0]? = some (12, 51)) {r : Int × IMem} (hf : f_X_fills fu o0 I0 = some r) : Ss l b 6 y_X_fills KM RM [.ref o0] (ivm I0) (Pv r) := by
  unfold f_X_fills at hf
  refine Ss.of (show Ai l b 6 y_X_fills KM RM (Pv r) I0 0 [.ref o0, uu, uu, uu] [] from ?_)
  refine aw_aload_n rfl rfl d_X_fills_0 ?_
  obtain ⟨y1, I2, c3, hf⟩ := of_zb hf
  refine ai_callVv (as := []) (d' := 1) (q := ("SinglesUpModel", zT9, 51)) mo_X_begins lk_X_315 h_o0 rfl rfl rfl ⟨by decide, by decide⟩ rfl rfl (by decide) d_X_fills_1 (t_X_begins fu o0 I0 hI h_o0 c3) (fun h_I2 => ?_)
  refine t_X_fills_4 fu _ o0 h_o0 ?_ fu I2 h_I2 hf
  · intro I32 h_I32 hf
    refine aw_goto (tgt := 123) (by decide) d_X_fills_39 (aw_aload_n rfl rfl d_X_fills_123 ?_)
    obtain ⟨y33, I34, c35, hf⟩ := of_zb hf
    refine ai_callVv (as := []) (d' := 5) (q := ("SinglesUpModel", zT9, 51)) mo_X_parts0 lk_X_322 h_o0 rfl rfl rfl ⟨by decide, by decide⟩ rfl rfl (by decide) d_X_fills_124 (t_X_parts0 fu o0 I32 h_I32 h_o0 c35) (fun h_I34 => ?_)
    exact ai_retv rfl d_X_fills_127 hf h_I34
set_option maxRecDepth 20000 in
theorem t_X_chair (fu : Nat) (o0 : Nat) (I0 : IMem) (hI : RG I0) (h_o0 : KM[o0]? = some (12, 51)) {r : Int × IMem} (hf : f_X_chair fu o0 I0 = some r) : Ss l b 7 y_X_chair KM RM [.ref o0] (ivm I0) (Ps r) := by
  unfold f_X_chair at hf
  refine Ss.of (show Ai l b 7 y_X_chair KM RM (Ps r) I0 0 [.ref o0] [] from ?_)
  refine aw_aload_n rfl rfl d_X_chair_0 ?_
  obtain ⟨y1, I2, c3, hf⟩ := of_zb hf
  refine ai_callVv (as := []) (d' := 6) (q := ("SinglesUpModel", zT9, 51)) mo_X_fills lk_X_332 h_o0 rfl rfl rfl ⟨by decide, by decide⟩ rfl rfl (by decide) d_X_chair_1 (t_X_fills fu o0 I0 hI h_o0 c3) (fun h_I2 => ?_)
  refine aw_aload_n rfl rfl d_X_chair_4 ?_
  obtain ⟨y4, I5, c6, hf⟩ := of_zb hf
  refine ai_callV (as := []) (d' := 4) (q := ("SinglesUpModel", zT9, 51)) mo_X_goesOff lk_X_335 h_o0 rfl rfl rfl ⟨by decide, by decide⟩ rfl rfl (by decide) d_X_chair_5 (t_X_goesOff fu o0 I2 h_I2 h_o0 c6) (fun h_y4 h_I5 => ?_)
  exact ai_reti rfl d_X_chair_8 hf h_y4 h_I5
set_option maxRecDepth 20000 in
theorem t_X_turn_2 (fu : Nat) {r : Int × IMem} (k_77 : IMem → Res) (o0 : Nat) (h_o0 : KM[o0]? = some (12, 51)) (hk_77 : ∀ (I9 : IMem), RG I9 → k_77 I9 = some r → Ai l b 8 y_X_turn KM RM (Ps r) I9 77 [.ref o0, uu, uu] []) : ∀ (m : Nat) (w1 : Int) (I0 : IMem), inr w1 → RG I0 → f_X_turn_2 fu k_77 o0 m w1 I0 = some r → Ai l b 8 y_X_turn KM RM (Ps r) I0 2 [.ref o0, .int (iv w1), uu] [] := by
  intro m
  induction m with
  | zero => intro w1 I0 h_w1 h_I0 hf; cases hf
  | succ m ih =>
    intro w1 I0 h_w1 h_I0 hf
    replace hf : fb_X_turn_2 fu k_77 o0 (f_X_turn_2 fu k_77 o0 m) w1 I0 = some r := hf
    unfold fb_X_turn_2 at hf
    refine aw_iload_n rfl rfl d_X_turn_2 (aw_bipush (v := iv 8) cb_8 d_X_turn_3 ?_)
    refine ai_icmp_ge h_w1 in_8 hf (tgt := 77) (by decide) d_X_turn_5 (fun hf => ?_) (fun hf => ?_)
    · refine aw_weakB (lv2 := [.ref o0, uu, uu]) (wk_s (wk_u (wk_u wk_n))) ?_
      exact hk_77 I0 h_I0 hf
    · refine aw_bipush (v := iv 26) cb_26 d_X_turn_8 (aw_iconst (v := iv 4) rfl d_X_turn_10 (aw_iload_n rfl rfl d_X_turn_11 (ai_imul d_X_turn_12 (ai_iadd d_X_turn_13 ?_))))
      refine ai_name hf (wr32_in _) (fun x1 h_x1 hf => ?_)
      refine aw_istore_n (lv2 := [.ref o0, .int (iv w1), .int (iv x1)]) rfl (Nat.le_of_ble_eq_true rfl) rfl d_X_turn_14 ?_
      refine aw_aload_n rfl rfl d_X_turn_15 (aw_getr (r := o0 + 1) fl_X_7 h_o0 (by decide) rfl (rm_9_0 _ h_o0).1 d_X_turn_16 (aw_iload_n rfl rfl d_X_turn_19 (aw_iconst (v := iv 3) rfl d_X_turn_20 (ai_iadd d_X_turn_21 ?_))))
      refine ai_name hf (wr32_in _) (fun x2 h_x2 hf => ?_)
      refine ai_iald (rm_9_0 _ h_o0).2 rfl h_x2 hf d_X_turn_22 (fun _ hf => ?_)
      obtain ⟨k3, ek3, hf⟩ := of_zj hf
      have hk3 : ∀  (I4 : IMem), RG I4 → k3 I4 = some r → Ai l b 8 y_X_turn KM RM (Ps r) I4 71 [.ref o0, .int (iv w1), uu] [] := by
        intro I4 h_I4 hf
        subst ek3
        refine ai_iinc (n := 1) (lv2 := fun x5 => [.ref o0, .int (iv x5), uu]) hf rfl (Nat.le_of_ble_eq_true rfl) (fun _ => rfl) d_X_turn_71 (fun x5 h_x5 hf => ?_)
        refine aw_goto (tgt := 2) (by decide) d_X_turn_74 ?_
        exact ih x5 I4 h_x5 h_I4 hf
      refine ai_if_le (h_I0 (o0 + 1) x2.toNat) hf (tgt := 71) (by decide) d_X_turn_23 (fun hf => ?_) (fun hf => ?_)
      · refine aw_weakB (lv2 := [.ref o0, .int (iv w1), uu]) (wk_s (wk_s (wk_u wk_n))) ?_
        exact hk3 I0 h_I0 hf
      · refine aw_aload_n rfl rfl d_X_turn_26 (aw_sipush (v := iv 1000) cs_1000 d_X_turn_27 ?_)
        obtain ⟨y6, I7, c8, hf⟩ := of_zb hf
        refine ai_callV (as := [.int (iv 1000)]) (d' := 1) (q := ("SinglesUpModel", zT9, 51)) mo_X_draw lk_X_329 h_o0 rfl rfl rfl ⟨by decide, by decide⟩ rfl rfl (by decide) d_X_turn_30 (t_X_draw fu o0 1000 I0 h_I0 h_o0 in_1000 c8) (fun h_y6 h_I7 => ?_)
        refine aw_aload_n rfl rfl d_X_turn_33 (aw_getr (r := o0 + 1) fl_X_7 h_o0 (by decide) rfl (rm_9_0 _ h_o0).1 d_X_turn_34 (aw_iload_n rfl rfl d_X_turn_37 (aw_iconst (v := iv 3) rfl d_X_turn_38 (ai_iadd d_X_turn_39 ?_))))
        refine ai_name hf (wr32_in _) (fun x9 h_x9 hf => ?_)
        refine ai_iald (rm_9_0 _ h_o0).2 rfl h_x9 hf d_X_turn_40 (fun _ hf => ?_)
        refine ai_icmp_ge h_y6 (h_I7 (o0 + 1) x9.toNat) hf (tgt := 71) (by decide) d_X_turn_41 (fun hf => ?_) (fun hf => ?_)
        · refine aw_weakB (lv2 := [.ref o0, .int (iv w1), uu]) (wk_s (wk_s (wk_u wk_n))) ?_
          exact hk3 I7 h_I7 hf
        · refine aw_aload_n rfl rfl d_X_turn_44 (aw_aload_n rfl rfl d_X_turn_45 (aw_getr (r := o0 + 1) fl_X_7 h_o0 (by decide) rfl (rm_9_0 _ h_o0).1 d_X_turn_46 (aw_iload_n rfl rfl d_X_turn_49 ?_)))
          refine ai_iald (rm_9_0 _ h_o0).2 rfl h_x1 hf d_X_turn_50 (fun _ hf => ?_)
          refine aw_aload_n rfl rfl d_X_turn_51 (aw_getr (r := o0 + 1) fl_X_7 h_o0 (by decide) rfl (rm_9_0 _ h_o0).1 d_X_turn_52 (aw_iload_n rfl rfl d_X_turn_55 (aw_iconst (v := iv 1) rfl d_X_turn_56 (ai_iadd d_X_turn_57 ?_))))
          refine ai_name hf (wr32_in _) (fun x10 h_x10 hf => ?_)
          refine ai_iald (rm_9_0 _ h_o0).2 rfl h_x10 hf d_X_turn_58 (fun _ hf => ?_)
          refine aw_aload_n rfl rfl d_X_turn_59 (aw_getr (r := o0 + 1) fl_X_7 h_o0 (by decide) rfl (rm_9_0 _ h_o0).1 d_X_turn_60 (aw_iload_n rfl rfl d_X_turn_63 (aw_iconst (v := iv 2) rfl d_X_turn_64 (ai_iadd d_X_turn_65 ?_))))
          refine ai_name hf (wr32_in _) (fun x11 h_x11 hf => ?_)
          refine ai_iald (rm_9_0 _ h_o0).2 rfl h_x11 hf d_X_turn_66 (fun _ hf => ?_)
          obtain ⟨y12, I13, c14, hf⟩ := of_zb hf
          refine ai_callV (as := [.int (iv (I7 (o0 + 1) x1.toNat)), .int (iv (I7 (o0 + 1) x10.toNat)), .int (iv (I7 (o0 + 1) x11.toNat))]) (d' := 5) (q := ("SinglesUpModel", zT9, 51)) mo_X_comes lk_X_281 h_o0 rfl rfl rfl ⟨by decide, by decide⟩ rfl rfl (by decide) d_X_turn_67 (t_X_comes fu o0 (I7 (o0 + 1) x1.toNat) (I7 (o0 + 1) x10.toNat) (I7 (o0 + 1) x11.toNat) I7 h_I7 h_o0 (h_I7 (o0 + 1) x1.toNat) (h_I7 (o0 + 1) x10.toNat) (h_I7 (o0 + 1) x11.toNat) c14) (fun h_y12 h_I13 => ?_)
          refine aw_pop rfl d_X_turn_70 ?_
          refine aw_weakB (lv2 := [.ref o0, .int (iv w1), uu]) (wk_s (wk_s (wk_u wk_n))) ?_
          exact hk3 I13 h_I13 hf
set_option maxRecDepth 20000 in
theorem t_X_turn (fu : Nat) (o0 : Nat) (I0 : IMem) (hI : RG I0) (h_o0 : KM[o0]? = some (12, 51)) {r : Int × IMem} (hf : f_X_turn fu o0 I0 = some r) : Ss l b 8 y_X_turn KM RM [.ref o0] (ivm I0) (Ps r) := by
  unfold f_X_turn at hf
  refine Ss.of (show Ai l b 8 y_X_turn KM RM (Ps r) I0 0 [.ref o0, uu, uu] [] from ?_)
  refine aw_iconst (v := iv 0) rfl d_X_turn_0 (aw_istore_n (lv2 := [.ref o0, .int (iv 0), uu]) rfl (Nat.le_of_ble_eq_true rfl) rfl d_X_turn_1 ?_)
  refine t_X_turn_2 fu _ o0 h_o0 ?_ fu 0 I0 in_0 hI hf
  · intro I15 h_I15 hf
    refine aw_aload_n rfl rfl d_X_turn_77 ?_
    obtain ⟨y16, I17, c18, hf⟩ := of_zb hf
    refine ai_callV (as := []) (d' := 7) (q := ("SinglesUpModel", zT9, 51)) mo_X_chair lk_X_338 h_o0 rfl rfl rfl ⟨by decide, by decide⟩ rfl rfl (by decide) d_X_turn_78 (t_X_chair fu o0 I15 h_I15 h_o0 c18) (fun h_y16 h_I17 => ?_)
    exact ai_reti rfl d_X_turn_81 hf h_y16 h_I17
set_option maxRecDepth 20000 in
theorem t_X_run_16 (fu : Nat) {r : Int × IMem} (o0 : Nat) (p1 : Int) (h_o0 : KM[o0]? = some (12, 51)) (h_p1 : inr p1) : ∀ (m : Nat) (w2 : Int) (w3 : Int) (I0 : IMem), inr w2 → inr w3 → RG I0 → f_X_run_16 fu o0 p1 m w2 w3 I0 = some r → Ai l b 9 y_X_run KM RM (Ps r) I0 16 [.ref o0, .int (iv p1), .int (iv w2), .int (iv w3)] [] := by
  intro m
  induction m with
  | zero => intro w2 w3 I0 h_w2 h_w3 h_I0 hf; cases hf
  | succ m ih =>
    intro w2 w3 I0 h_w2 h_w3 h_I0 hf
    replace hf : fb_X_run_16 fu o0 p1 (f_X_run_16 fu o0 p1 m) w2 w3 I0 = some r := hf
    unfold fb_X_run_16 at hf
    refine aw_iload_n rfl rfl d_X_run_16 (aw_iload_n rfl rfl d_X_run_17 ?_)
    refine ai_icmp_ge h_w3 h_p1 hf (tgt := 34) (by decide) d_X_run_18 (fun hf => ?_) (fun hf => ?_)
    · refine aw_iload_n rfl rfl d_X_run_34 ?_
      exact ai_reti rfl d_X_run_35 hf h_w2 h_I0
    · refine aw_iload_n rfl rfl d_X_run_21 (aw_aload_n rfl rfl d_X_run_22 ?_)
      obtain ⟨y4, I5, c6, hf⟩ := of_zb hf
      refine ai_callV (as := []) (d' := 8) (q := ("SinglesUpModel", zT9, 51)) mo_X_turn lk_X_341 h_o0 rfl rfl rfl ⟨by decide, by decide⟩ rfl rfl (by decide) d_X_run_23 (t_X_turn fu o0 I0 h_I0 h_o0 c6) (fun h_y4 h_I5 => ?_)
      refine ai_iadd d_X_run_26 ?_
      refine ai_name hf (wr32_in _) (fun x7 h_x7 hf => ?_)
      refine aw_istore_n (lv2 := [.ref o0, .int (iv p1), .int (iv x7), .int (iv w3)]) rfl (Nat.le_of_ble_eq_true rfl) rfl d_X_run_27 ?_
      refine ai_iinc (n := 1) (lv2 := fun x8 => [.ref o0, .int (iv p1), .int (iv x7), .int (iv x8)]) hf rfl (Nat.le_of_ble_eq_true rfl) (fun _ => rfl) d_X_run_28 (fun x8 h_x8 hf => ?_)
      refine aw_goto (tgt := 16) (by decide) d_X_run_31 ?_
      exact ih x7 x8 I5 h_x7 h_x8 h_I5 hf
set_option maxRecDepth 20000 in
theorem t_X_run (fu : Nat) (o0 : Nat) (a1 : Int) (I0 : IMem) (hI : RG I0) (h_o0 : KM[o0]? = some (12, 51)) (h_a1 : inr a1) {r : Int × IMem} (hf : f_X_run fu o0 a1 I0 = some r) : Ss l b 9 y_X_run KM RM [.ref o0, .int (iv a1)] (ivm I0) (Ps r) := by
  unfold f_X_run at hf
  refine Ss.of (show Ai l b 9 y_X_run KM RM (Ps r) I0 0 [.ref o0, .int (iv a1), uu, uu] [] from ?_)
  refine aw_iload_n rfl rfl d_X_run_0 (aw_iconst (v := iv 1) rfl d_X_run_1 (aw_bipush (v := iv 60) cb_60 d_X_run_2 ?_))
  obtain ⟨y1, I2, c3, hf⟩ := of_zb hf
  refine ai_callS (as := [.int (iv a1), .int (iv 1), .int (iv 60)]) (d' := 1) mo_X_isIn lk_X_98 rfl ⟨by decide, by decide⟩ rfl rfl (by decide) d_X_run_4 (t_X_isIn fu a1 1 60 I0 hI h_a1 in_1 in_60 c3) (fun h_y1 h_I2 => ?_)
  refine ai_if_ne h_y1 hf (tgt := 12) (by decide) d_X_run_7 (fun hf => ?_) (fun hf => ?_)
  · refine aw_iconst (v := iv 0) rfl d_X_run_12 (aw_istore_n (lv2 := [.ref o0, .int (iv a1), .int (iv 0), uu]) rfl (Nat.le_of_ble_eq_true rfl) rfl d_X_run_13 (aw_iconst (v := iv 0) rfl d_X_run_14 (aw_istore_n (lv2 := [.ref o0, .int (iv a1), .int (iv 0), .int (iv 0)]) rfl (Nat.le_of_ble_eq_true rfl) rfl d_X_run_15 ?_)))
    refine t_X_run_16 fu o0 a1 h_o0 h_a1 fu 0 0 I2 in_0 in_0 h_I2 hf
  · refine aw_iconst (v := iv (-1)) rfl d_X_run_10 ?_
    exact ai_reti rfl d_X_run_11 hf in_m1 h_I2
set_option maxRecDepth 20000 in
theorem t_X_last (fu : Nat) (o0 : Nat) (a1 : Int) (I0 : IMem) (hI : RG I0) (h_o0 : KM[o0]? = some (12, 51)) (h_a1 : inr a1) {r : Int × IMem} (hf : f_X_last fu o0 a1 I0 = some r) : Ss l b 2 y_X_last KM RM [.ref o0, .int (iv a1)] (ivm I0) (Ps r) := by
  unfold f_X_last at hf
  refine Ss.of (show Ai l b 2 y_X_last KM RM (Ps r) I0 0 [.ref o0, .int (iv a1), uu] [] from ?_)
  refine aw_aload_n rfl rfl d_X_last_0 (aw_getr (r := o0 + 1) fl_X_7 h_o0 (by decide) rfl (rm_9_0 _ h_o0).1 d_X_last_1 (aw_bipush (v := iv 110) cb_110 d_X_last_4 (ai_ialdc (j := 110) (rm_9_0 _ h_o0).2 (by decide) (by decide) d_X_last_6 ?_)))
  refine ai_name hf (hI (o0 + 1) 110) (fun x1 h_x1 hf => ?_)
  refine aw_istore_n (lv2 := [.ref o0, .int (iv a1), .int (iv x1)]) rfl (Nat.le_of_ble_eq_true rfl) rfl d_X_last_7 ?_
  refine aw_iload_n rfl rfl d_X_last_8 (aw_iconst (v := iv (-1)) rfl d_X_last_9 ?_)
  refine ai_icmp_ne h_x1 in_m1 hf (tgt := 15) (by decide) d_X_last_10 (fun hf => ?_) (fun hf => ?_)
  · refine aw_iload_n rfl rfl d_X_last_15 (aw_bipush (v := iv 10) cb_10 d_X_last_16 (aw_bipush (v := iv 9) cb_9 d_X_last_18 (aw_iload_n rfl rfl d_X_last_20 (ai_iadd d_X_last_21 ?_))))
    obtain ⟨y2, I3, c4, hf⟩ := of_zb hf
    refine ai_callS (as := [.int (iv a1), .int (iv 10), .int (iv (wr32 (9 + x1)))]) (d' := 1) mo_X_isIn lk_X_98 rfl ⟨by decide, by decide⟩ rfl rfl (by decide) d_X_last_22 (t_X_isIn fu a1 10 (wr32 (9 + x1)) I0 hI h_a1 in_10 (wr32_in _) c4) (fun h_y2 h_I3 => ?_)
    refine ai_if_eq h_y2 hf (tgt := 41) (by decide) d_X_last_25 (fun hf => ?_) (fun hf => ?_)
    · refine aw_iload_n rfl rfl d_X_last_41 (aw_bipush (v := iv 20) cb_20 d_X_last_42 (aw_bipush (v := iv 19) cb_19 d_X_last_44 (aw_iload_n rfl rfl d_X_last_46 (ai_iadd d_X_last_47 ?_))))
      obtain ⟨y5, I6, c7, hf⟩ := of_zb hf
      refine ai_callS (as := [.int (iv a1), .int (iv 20), .int (iv (wr32 (19 + x1)))]) (d' := 1) mo_X_isIn lk_X_98 rfl ⟨by decide, by decide⟩ rfl rfl (by decide) d_X_last_48 (t_X_isIn fu a1 20 (wr32 (19 + x1)) I3 h_I3 h_a1 in_20 (wr32_in _) c7) (fun h_y5 h_I6 => ?_)
      refine ai_if_eq h_y5 hf (tgt := 67) (by decide) d_X_last_51 (fun hf => ?_) (fun hf => ?_)
      · refine aw_iload_n rfl rfl d_X_last_67 ?_
        refine ai_if_ne h_a1 hf (tgt := 75) (by decide) d_X_last_68 (fun hf => ?_) (fun hf => ?_)
        · refine aw_iload_n rfl rfl d_X_last_75 (aw_iconst (v := iv 1) rfl d_X_last_76 ?_)
          refine ai_icmp_ne h_a1 in_1 hf (tgt := 90) (by decide) d_X_last_77 (fun hf => ?_) (fun hf => ?_)
          · refine aw_iconst (v := iv (-1)) rfl d_X_last_90 ?_
            exact ai_reti rfl d_X_last_91 hf in_m1 h_I6
          · refine aw_aload_n rfl rfl d_X_last_80 (aw_getr (r := o0 + 1) fl_X_7 h_o0 (by decide) rfl (rm_9_0 _ h_o0).1 d_X_last_81 (aw_bipush (v := iv 111) cb_111 d_X_last_84 (ai_ialdc (j := 111) (rm_9_0 _ h_o0).2 (by decide) (by decide) d_X_last_86 (aw_goto (tgt := 91) (by decide) d_X_last_87 ?_))))
            exact ai_reti rfl d_X_last_91 hf (h_I6 (o0 + 1) 111) h_I6
        · refine aw_iload_n rfl rfl d_X_last_71 (aw_goto (tgt := 91) (by decide) d_X_last_72 ?_)
          exact ai_reti rfl d_X_last_91 hf h_x1 h_I6
      · refine aw_aload_n rfl rfl d_X_last_54 (aw_getr (r := o0 + 1) fl_X_7 h_o0 (by decide) rfl (rm_9_0 _ h_o0).1 d_X_last_55 (aw_bipush (v := iv 120) cb_120 d_X_last_58 (aw_iload_n rfl rfl d_X_last_60 (ai_iadd d_X_last_61 (aw_bipush (v := iv 20) cb_20 d_X_last_62 (ai_isub d_X_last_64 ?_))))))
        refine ai_name hf (wr32_in _) (fun x8 h_x8 hf => ?_)
        refine ai_iald (rm_9_0 _ h_o0).2 rfl h_x8 hf d_X_last_65 (fun _ hf => ?_)
        exact ai_reti rfl d_X_last_66 hf (h_I6 (o0 + 1) x8.toNat) h_I6
    · refine aw_aload_n rfl rfl d_X_last_28 (aw_getr (r := o0 + 1) fl_X_7 h_o0 (by decide) rfl (rm_9_0 _ h_o0).1 d_X_last_29 (aw_bipush (v := iv 112) cb_112 d_X_last_32 (aw_iload_n rfl rfl d_X_last_34 (ai_iadd d_X_last_35 (aw_bipush (v := iv 10) cb_10 d_X_last_36 (ai_isub d_X_last_38 ?_))))))
      refine ai_name hf (wr32_in _) (fun x9 h_x9 hf => ?_)
      refine ai_iald (rm_9_0 _ h_o0).2 rfl h_x9 hf d_X_last_39 (fun _ hf => ?_)
      exact ai_reti rfl d_X_last_40 hf (h_I3 (o0 + 1) x9.toNat) h_I3
  · refine aw_iconst (v := iv (-1)) rfl d_X_last_13 ?_
    exact ai_reti rfl d_X_last_14 hf in_m1 hI
set_option maxRecDepth 20000 in
theorem t_X_count (fu : Nat) (o0 : Nat) (a1 : Int) (I0 : IMem) (hI : RG I0) (h_o0 : KM[o0]? = some (12, 51)) (h_a1 : inr a1) {r : Int × IMem} (hf : f_X_count fu o0 a1 I0 = some r) : Ss l b 2 y_X_count KM RM [.ref o0, .int (iv a1)] (ivm I0) (Ps r) := by
  unfold f_X_count at hf
  refine Ss.of (show Ai l b 2 y_X_count KM RM (Ps r) I0 0 [.ref o0, .int (iv a1), uu] [] from ?_)
  refine aw_iload_n rfl rfl d_X_count_0 (aw_iconst (v := iv 0) rfl d_X_count_1 (aw_bipush (v := iv 6) cb_6 d_X_count_2 ?_))
  obtain ⟨y1, I2, c3, hf⟩ := of_zb hf
  refine ai_callS (as := [.int (iv a1), .int (iv 0), .int (iv 6)]) (d' := 1) mo_X_isIn lk_X_98 rfl ⟨by decide, by decide⟩ rfl rfl (by decide) d_X_count_4 (t_X_isIn fu a1 0 6 I0 hI h_a1 in_0 in_6 c3) (fun h_y1 h_I2 => ?_)
  refine ai_if_eq h_y1 hf (tgt := 20) (by decide) d_X_count_7 (fun hf => ?_) (fun hf => ?_)
  · refine aw_iload_n rfl rfl d_X_count_20 (aw_bipush (v := iv 41) cb_41 d_X_count_21 (aw_bipush (v := iv 48) cb_48 d_X_count_23 ?_))
    obtain ⟨y4, I5, c6, hf⟩ := of_zb hf
    refine ai_callS (as := [.int (iv a1), .int (iv 41), .int (iv 48)]) (d' := 1) mo_X_isIn lk_X_98 rfl ⟨by decide, by decide⟩ rfl rfl (by decide) d_X_count_25 (t_X_isIn fu a1 41 48 I2 h_I2 h_a1 in_41 in_48 c6) (fun h_y4 h_I5 => ?_)
    refine ai_if_eq h_y4 hf (tgt := 79) (by decide) d_X_count_28 (fun hf => ?_) (fun hf => ?_)
    · refine aw_iload_n rfl rfl d_X_count_79 (aw_bipush (v := iv 10) cb_10 d_X_count_80 (ai_iremc in_10 (by decide) d_X_count_82 (aw_iconst (v := iv 1) rfl d_X_count_83 (aw_bipush (v := iv 8) cb_8 d_X_count_84 ?_))))
      obtain ⟨y7, I8, c9, hf⟩ := of_zb hf
      refine ai_callS (as := [.int (iv (wrem a1 10)), .int (iv 1), .int (iv 8)]) (d' := 1) mo_X_isIn lk_X_98 rfl ⟨by decide, by decide⟩ rfl rfl (by decide) d_X_count_86 (t_X_isIn fu (wrem a1 10) 1 8 I5 h_I5 (wrem_in _ _) in_1 in_8 c9) (fun h_y7 h_I8 => ?_)
      obtain ⟨k10, ek10, hf⟩ := of_zj hf
      have hk10 : ∀ (x12 : Int) (I11 : IMem), inr x12 → RG I11 → k10 x12 I11 = some r → Ai l b 2 y_X_count KM RM (Ps r) I11 108 [.ref o0, .int (iv a1), uu] [.int (iv x12)] := by
        intro x12 I11 h_x12 h_I11 hf
        subst ek10
        refine aw_istore_n (lv2 := [.ref o0, .int (iv a1), .int (iv x12)]) rfl (Nat.le_of_ble_eq_true rfl) rfl d_X_count_108 (aw_iload_n rfl rfl d_X_count_109 ?_)
        refine ai_if_eq h_x12 hf (tgt := 128) (by decide) d_X_count_110 (fun hf => ?_) (fun hf => ?_)
        · refine aw_iconst (v := iv (-1)) rfl d_X_count_128 ?_
          exact ai_reti rfl d_X_count_129 hf in_m1 h_I11
        · refine aw_aload_n rfl rfl d_X_count_113 (aw_getr (r := o0 + 1) fl_X_7 h_o0 (by decide) rfl (rm_9_0 _ h_o0).1 d_X_count_114 (aw_bipush (v := iv 80) cb_80 d_X_count_117 (aw_iload_n rfl rfl d_X_count_119 (ai_iadd d_X_count_120 (aw_bipush (v := iv 10) cb_10 d_X_count_121 (ai_isub d_X_count_123 ?_))))))
          refine ai_name hf (wr32_in _) (fun x13 h_x13 hf => ?_)
          refine ai_iald (rm_9_0 _ h_o0).2 rfl h_x13 hf d_X_count_124 (fun _ hf => ?_)
          refine aw_goto (tgt := 129) (by decide) d_X_count_125 ?_
          exact ai_reti rfl d_X_count_129 hf (h_I11 (o0 + 1) x13.toNat) h_I11
      refine ai_if_eq h_y7 hf (tgt := 107) (by decide) d_X_count_89 (fun hf => ?_) (fun hf => ?_)
      · refine aw_iconst (v := iv 0) rfl d_X_count_107 ?_
        exact hk10 0 I8 in_0 h_I8 hf
      · refine aw_iload_n rfl rfl d_X_count_92 (aw_bipush (v := iv 11) cb_11 d_X_count_93 (aw_bipush (v := iv 38) cb_38 d_X_count_95 ?_))
        obtain ⟨y14, I15, c16, hf⟩ := of_zb hf
        refine ai_callS (as := [.int (iv a1), .int (iv 11), .int (iv 38)]) (d' := 1) mo_X_isIn lk_X_98 rfl ⟨by decide, by decide⟩ rfl rfl (by decide) d_X_count_97 (t_X_isIn fu a1 11 38 I8 h_I8 h_a1 in_11 in_38 c16) (fun h_y14 h_I15 => ?_)
        refine ai_if_eq h_y14 hf (tgt := 107) (by decide) d_X_count_100 (fun hf => ?_) (fun hf => ?_)
        · refine aw_iconst (v := iv 0) rfl d_X_count_107 ?_
          exact hk10 0 I15 in_0 h_I15 hf
        · refine aw_iconst (v := iv 1) rfl d_X_count_103 (aw_goto (tgt := 108) (by decide) d_X_count_104 ?_)
          exact hk10 1 I15 in_1 h_I15 hf
    · refine aw_aload_n rfl rfl d_X_count_31 (aw_getr (r := o0 + 1) fl_X_7 h_o0 (by decide) rfl (rm_9_0 _ h_o0).1 d_X_count_32 (aw_bipush (v := iv 80) cb_80 d_X_count_35 (aw_iload_n rfl rfl d_X_count_37 (ai_iadd d_X_count_38 (aw_bipush (v := iv 40) cb_40 d_X_count_39 (ai_isub d_X_count_41 ?_))))))
      refine ai_name hf (wr32_in _) (fun x17 h_x17 hf => ?_)
      refine ai_iald (rm_9_0 _ h_o0).2 rfl h_x17 hf d_X_count_42 (fun _ hf => ?_)
      refine ai_if_ne (h_I5 (o0 + 1) x17.toNat) hf (tgt := 50) (by decide) d_X_count_43 (fun hf => ?_) (fun hf => ?_)
      · refine aw_bipush (v := iv 100) cb_100 d_X_count_50 (aw_aload_n rfl rfl d_X_count_52 (aw_getr (r := o0 + 1) fl_X_7 h_o0 (by decide) rfl (rm_9_0 _ h_o0).1 d_X_count_53 (aw_bipush (v := iv 90) cb_90 d_X_count_56 (aw_iload_n rfl rfl d_X_count_58 (ai_iadd d_X_count_59 (aw_bipush (v := iv 40) cb_40 d_X_count_60 (ai_isub d_X_count_62 ?_)))))))
        refine ai_name hf (wr32_in _) (fun x18 h_x18 hf => ?_)
        refine ai_iald (rm_9_0 _ h_o0).2 rfl h_x18 hf d_X_count_63 (fun _ hf => ?_)
        refine ai_imul d_X_count_64 (aw_aload_n rfl rfl d_X_count_65 (aw_getr (r := o0 + 1) fl_X_7 h_o0 (by decide) rfl (rm_9_0 _ h_o0).1 d_X_count_66 (aw_bipush (v := iv 80) cb_80 d_X_count_69 (aw_iload_n rfl rfl d_X_count_71 (ai_iadd d_X_count_72 (aw_bipush (v := iv 40) cb_40 d_X_count_73 (ai_isub d_X_count_75 ?_)))))))
        refine ai_name hf (wr32_in _) (fun x19 h_x19 hf => ?_)
        refine ai_iald (rm_9_0 _ h_o0).2 rfl h_x19 hf d_X_count_76 (fun _ hf => ?_)
        refine ai_idiv (h_I5 (o0 + 1) x19.toNat) hf d_X_count_77 (fun _ hf => ?_)
        exact ai_reti rfl d_X_count_78 hf (wdiv_in _ _) h_I5
      · refine aw_iconst (v := iv (-1)) rfl d_X_count_46 (aw_goto (tgt := 78) (by decide) d_X_count_47 ?_)
        exact ai_reti rfl d_X_count_78 hf in_m1 h_I5
  · refine aw_aload_n rfl rfl d_X_count_10 (aw_getr (r := o0 + 1) fl_X_7 h_o0 (by decide) rfl (rm_9_0 _ h_o0).1 d_X_count_11 (aw_bipush (v := iv 70) cb_70 d_X_count_14 (aw_iload_n rfl rfl d_X_count_16 (ai_iadd d_X_count_17 ?_))))
    refine ai_name hf (wr32_in _) (fun x20 h_x20 hf => ?_)
    refine ai_iald (rm_9_0 _ h_o0).2 rfl h_x20 hf d_X_count_18 (fun _ hf => ?_)
    exact ai_reti rfl d_X_count_19 hf (h_I2 (o0 + 1) x20.toNat) h_I2
set_option maxRecDepth 20000 in
theorem t_X_laysRow_15 (fu : Nat) {r : Int × IMem} (k_87 : IMem → Res) (o0 : Nat) (p1 : Int) (h_o0 : KM[o0]? = some (12, 51)) (h_p1 : inr p1) (hk_87 : ∀ (I9 : IMem), RG I9 → k_87 I9 = some r → Ai l b 3 y_X_laysRow KM RM (Pv r) I9 87 [.ref o0, .int (iv p1), uu] []) : ∀ (m : Nat) (w2 : Int) (I0 : IMem), inr w2 → RG I0 → f_X_laysRow_15 fu k_87 o0 p1 m w2 I0 = some r → Ai l b 3 y_X_laysRow KM RM (Pv r) I0 15 [.ref o0, .int (iv p1), .int (iv w2)] [] := by
  intro m
  induction m with
  | zero => intro w2 I0 h_w2 h_I0 hf; cases hf
  | succ m ih =>
    intro w2 I0 h_w2 h_I0 hf
    replace hf : fb_X_laysRow_15 fu k_87 o0 p1 (f_X_laysRow_15 fu k_87 o0 p1 m) w2 I0 = some r := hf
    unfold fb_X_laysRow_15 at hf
    refine aw_iload_n rfl rfl d_X_laysRow_15 (aw_aload_n rfl rfl d_X_laysRow_16 (aw_getr (r := o0 + 1) fl_X_7 h_o0 (by decide) rfl (rm_9_0 _ h_o0).1 d_X_laysRow_17 (aw_sipush (v := iv 130) cs_130 d_X_laysRow_20 (aw_iload_n rfl rfl d_X_laysRow_23 (ai_iadd d_X_laysRow_24 ?_)))))
    refine ai_name hf (wr32_in _) (fun x2 h_x2 hf => ?_)
    refine ai_iald (rm_9_0 _ h_o0).2 rfl h_x2 hf d_X_laysRow_25 (fun _ hf => ?_)
    refine ai_icmp_ge h_w2 (h_I0 (o0 + 1) x2.toNat) hf (tgt := 87) (by decide) d_X_laysRow_26 (fun hf => ?_) (fun hf => ?_)
    · refine aw_weakB (lv2 := [.ref o0, .int (iv p1), uu]) (wk_s (wk_s (wk_u wk_n))) ?_
      exact hk_87 I0 h_I0 hf
    · refine aw_iload_n rfl rfl d_X_laysRow_29 (aw_aload_n rfl rfl d_X_laysRow_30 (aw_getr (r := o0 + 1) fl_X_7 h_o0 (by decide) rfl (rm_9_0 _ h_o0).1 d_X_laysRow_31 (aw_bipush (v := iv 10) cb_10 d_X_laysRow_34 (aw_iload_n rfl rfl d_X_laysRow_36 (ai_iadd d_X_laysRow_37 ?_)))))
      refine ai_name hf (wr32_in _) (fun x3 h_x3 hf => ?_)
      refine ai_iald (rm_9_0 _ h_o0).2 rfl h_x3 hf d_X_laysRow_38 (fun _ hf => ?_)
      refine ai_icmp_ge h_w2 (h_I0 (o0 + 1) x3.toNat) hf (tgt := 87) (by decide) d_X_laysRow_39 (fun hf => ?_) (fun hf => ?_)
      · refine aw_weakB (lv2 := [.ref o0, .int (iv p1), uu]) (wk_s (wk_s (wk_u wk_n))) ?_
        exact hk_87 I0 h_I0 hf
      · refine aw_aload_n rfl rfl d_X_laysRow_42 (aw_iload_n rfl rfl d_X_laysRow_43 (aw_iload_n rfl rfl d_X_laysRow_44 (aw_iconst (v := iv 3) rfl d_X_laysRow_45 ?_)))
        obtain ⟨y4, I5, c6, hf⟩ := of_zb hf
        refine ai_callV (as := [.int (iv p1), .int (iv w2), .int (iv 3)]) (d' := 2) (q := ("SinglesUpModel", zT9, 51)) mo_X_of lk_X_264 h_o0 rfl rfl rfl ⟨by decide, by decide⟩ rfl rfl (by decide) d_X_laysRow_46 (t_X_of fu o0 p1 w2 3 I0 h_I0 h_o0 h_p1 h_w2 in_3 c6) (fun h_y4 h_I5 => ?_)
        refine aw_iconst (v := iv 2) rfl d_X_laysRow_49 ?_
        obtain ⟨k7, ek7, hf⟩ := of_zj hf
        have hk7 : ∀  (I8 : IMem), RG I8 → k7 I8 = some r → Ai l b 3 y_X_laysRow KM RM (Pv r) I8 81 [.ref o0, .int (iv p1), .int (iv w2)] [] := by
          intro I8 h_I8 hf
          subst ek7
          refine ai_iinc (n := 1) (lv2 := fun x9 => [.ref o0, .int (iv p1), .int (iv x9)]) hf rfl (Nat.le_of_ble_eq_true rfl) (fun _ => rfl) d_X_laysRow_81 (fun x9 h_x9 hf => ?_)
          refine aw_goto (tgt := 15) (by decide) d_X_laysRow_84 ?_
          exact ih x9 I8 h_x9 h_I8 hf
        refine ai_icmp_ne h_y4 in_2 hf (tgt := 56) (by decide) d_X_laysRow_50 (fun hf => ?_) (fun hf => ?_)
        · refine aw_aload_n rfl rfl d_X_laysRow_56 (aw_getr (r := o0 + 16) fl_X_66 h_o0 (by decide) rfl (rm_9_38 _ h_o0).1 d_X_laysRow_57 (aw_aload_n rfl rfl d_X_laysRow_60 (ai_geti fl_X_347 h_o0 (by decide) rfl d_X_laysRow_61 (aw_bipush (v := iv 40) cb_40 d_X_laysRow_64 (aw_iload_n rfl rfl d_X_laysRow_66 (ai_imul d_X_laysRow_67 (aw_iload_n rfl rfl d_X_laysRow_68 (ai_iadd d_X_laysRow_69 ?_))))))))
          refine ai_nameU hf (h_I5 o0 40) (fun x11 h_x11 hf => ?_)
          refine ai_iast (rm_9_38 _ h_o0).2 rfl h_x11 (wr32_in _) h_I5 hf d_X_laysRow_70 (fun _ I10 h_I10 hf => ?_)
          refine aw_aload_n rfl rfl d_X_laysRow_71 (aw_dup rfl d_X_laysRow_72 (ai_geti fl_X_347 h_o0 (by decide) rfl d_X_laysRow_73 (aw_iconst (v := iv 1) rfl d_X_laysRow_76 (ai_iadd d_X_laysRow_77 ?_))))
          refine ai_puti hf h_I10 (wr32_in _) fl_X_347 h_o0 (by decide) rfl rfl rfl rfl d_X_laysRow_78 (fun I12 h_I12 hf => ?_)
          exact hk7 I12 h_I12 hf
        · refine aw_goto (tgt := 81) (by decide) d_X_laysRow_53 ?_
          exact hk7 I5 h_I5 hf
set_option maxRecDepth 20000 in
theorem t_X_laysRow_7 (fu : Nat) {r : Int × IMem} (o0 : Nat) (h_o0 : KM[o0]? = some (12, 51)) : ∀ (m : Nat) (w1 : Int) (I0 : IMem), inr w1 → RG I0 → f_X_laysRow_7 fu o0 m w1 I0 = some r → Ai l b 3 y_X_laysRow KM RM (Pv r) I0 7 [.ref o0, .int (iv w1), uu] [] := by
  intro m
  induction m with
  | zero => intro w1 I0 h_w1 h_I0 hf; cases hf
  | succ m ih =>
    intro w1 I0 h_w1 h_I0 hf
    replace hf : fb_X_laysRow_7 fu o0 (f_X_laysRow_7 fu o0 m) w1 I0 = some r := hf
    unfold fb_X_laysRow_7 at hf
    refine aw_iload_n rfl rfl d_X_laysRow_7 (aw_bipush (v := iv 6) cb_6 d_X_laysRow_8 ?_)
    refine ai_icmp_ge h_w1 in_6 hf (tgt := 93) (by decide) d_X_laysRow_10 (fun hf => ?_) (fun hf => ?_)
    · exact ai_retv rfl d_X_laysRow_93 hf h_I0
    · refine aw_iconst (v := iv 0) rfl d_X_laysRow_13 (aw_istore_n (lv2 := [.ref o0, .int (iv w1), .int (iv 0)]) rfl (Nat.le_of_ble_eq_true rfl) rfl d_X_laysRow_14 ?_)
      refine t_X_laysRow_15 fu _ o0 w1 h_o0 h_w1 ?_ fu 0 I0 in_0 h_I0 hf
      · intro I13 h_I13 hf
        refine ai_iinc (n := 1) (lv2 := fun x14 => [.ref o0, .int (iv x14), uu]) hf rfl (Nat.le_of_ble_eq_true rfl) (fun _ => rfl) d_X_laysRow_87 (fun x14 h_x14 hf => ?_)
        refine aw_goto (tgt := 7) (by decide) d_X_laysRow_90 ?_
        exact ih x14 I13 h_x14 h_I13 hf
set_option maxRecDepth 20000 in
theorem t_X_laysRow (fu : Nat) (o0 : Nat) (I0 : IMem) (hI : RG I0) (h_o0 : KM[o0]? = some (12, 51)) {r : Int × IMem} (hf : f_X_laysRow fu o0 I0 = some r) : Ss l b 3 y_X_laysRow KM RM [.ref o0] (ivm I0) (Pv r) := by
  unfold f_X_laysRow at hf
  refine Ss.of (show Ai l b 3 y_X_laysRow KM RM (Pv r) I0 0 [.ref o0, uu, uu] [] from ?_)
  refine aw_aload_n rfl rfl d_X_laysRow_0 (aw_iconst (v := iv 0) rfl d_X_laysRow_1 ?_)
  refine ai_puti hf hI in_0 fl_X_347 h_o0 (by decide) rfl rfl rfl rfl d_X_laysRow_2 (fun I1 h_I1 hf => ?_)
  refine aw_iconst (v := iv 0) rfl d_X_laysRow_5 (aw_istore_n (lv2 := [.ref o0, .int (iv 0), uu]) rfl (Nat.le_of_ble_eq_true rfl) rfl d_X_laysRow_6 ?_)
  refine t_X_laysRow_7 fu o0 h_o0 fu 0 I1 in_0 h_I1 hf
set_option maxRecDepth 20000 in
theorem t_X_spot (fu : Nat) (a0 : Int) (a1 : Int) (a2 : Int) (I0 : IMem) (hI : RG I0) (h_a0 : inr a0) (h_a1 : inr a1) (h_a2 : inr a2) {r : Int × IMem} (hf : f_X_spot fu a0 a1 a2 I0 = some r) : Ss l b 1 y_X_spot KM RM [.int (iv a0), .int (iv a1), .int (iv a2)] (ivm I0) (Ps r) := by
  unfold f_X_spot at hf
  refine Ss.of (show Ai l b 1 y_X_spot KM RM (Ps r) I0 0 [.int (iv a0), .int (iv a1), .int (iv a2)] [] from ?_)
  refine aw_bipush (v := iv 36) cb_36 d_X_spot_0 (aw_iload_n rfl rfl d_X_spot_2 (ai_imul d_X_spot_3 (aw_iconst (v := iv 4) rfl d_X_spot_4 (aw_iload_n rfl rfl d_X_spot_5 (ai_imul d_X_spot_6 (ai_iadd d_X_spot_7 (aw_iload_n rfl rfl d_X_spot_8 (ai_iadd d_X_spot_9 ?_))))))))
  exact ai_reti rfl d_X_spot_10 hf (wr32_in _) hI
set_option maxRecDepth 20000 in
theorem t_X_with (fu : Nat) (o0 : Nat) (a1 : Int) (a2 : Int) (I0 : IMem) (hI : RG I0) (h_o0 : KM[o0]? = some (12, 51)) (h_a1 : inr a1) (h_a2 : inr a2) {r : Int × IMem} (hf : f_X_with fu o0 a1 a2 I0 = some r) : Ss l b 1 y_X_with KM RM [.ref o0, .int (iv a1), .int (iv a2)] (ivm I0) (Ps r) := by
  unfold f_X_with at hf
  refine Ss.of (show Ai l b 1 y_X_with KM RM (Ps r) I0 0 [.ref o0, .int (iv a1), .int (iv a2)] [] from ?_)
  refine aw_iload_n rfl rfl d_X_with_0 (aw_aload_n rfl rfl d_X_with_1 (aw_getr (r := o0 + 1) fl_X_7 h_o0 (by decide) rfl (rm_9_0 _ h_o0).1 d_X_with_2 (aw_sipush (v := iv 140) cs_140 d_X_with_5 (aw_bipush (v := iv 6) cb_6 d_X_with_8 (aw_iload_n rfl rfl d_X_with_10 (ai_imul d_X_with_11 (ai_iadd d_X_with_12 (aw_iconst (v := iv 3) rfl d_X_with_13 (ai_iadd d_X_with_14 ?_)))))))))
  refine ai_name hf (wr32_in _) (fun x1 h_x1 hf => ?_)
  refine ai_iald (rm_9_0 _ h_o0).2 rfl h_x1 hf d_X_with_15 (fun _ hf => ?_)
  refine aw_iconst (v := iv 1) rfl d_X_with_16 ?_
  refine ai_icmp_ne (hI (o0 + 1) x1.toNat) in_1 hf (tgt := 24) (by decide) d_X_with_17 (fun hf => ?_) (fun hf => ?_)
  · refine aw_iconst (v := iv 2) rfl d_X_with_24 (ai_ior d_X_with_25 ?_)
    exact ai_reti rfl d_X_with_26 hf (wor_in _ _) hI
  · refine aw_iconst (v := iv 1) rfl d_X_with_20 (aw_goto (tgt := 25) (by decide) d_X_with_21 (ai_ior d_X_with_25 ?_))
    exact ai_reti rfl d_X_with_26 hf (wor_in _ _) hI
set_option maxRecDepth 20000 in
theorem t_X_taking (fu : Nat) (o0 : Nat) (a1 : Int) (a2 : Int) (a3 : Int) (I0 : IMem) (hI : RG I0) (h_o0 : KM[o0]? = some (12, 51)) (h_a1 : inr a1) (h_a2 : inr a2) (h_a3 : inr a3) {r : Int × IMem} (hf : f_X_taking fu o0 a1 a2 a3 I0 = some r) : Ss l b 2 y_X_taking KM RM [.ref o0, .int (iv a1), .int (iv a2), .int (iv a3)] (ivm I0) (Ps r) := by
  unfold f_X_taking at hf
  refine Ss.of (show Ai l b 2 y_X_taking KM RM (Ps r) I0 0 [.ref o0, .int (iv a1), .int (iv a2), .int (iv a3), uu] [] from ?_)
  refine aw_aload_n rfl rfl d_X_taking_0 (aw_getr (r := o0 + 1) fl_X_7 h_o0 (by decide) rfl (rm_9_0 _ h_o0).1 d_X_taking_1 (aw_sipush (v := iv 140) cs_140 d_X_taking_4 (aw_bipush (v := iv 6) cb_6 d_X_taking_7 (aw_aload_n rfl rfl d_X_taking_9 (aw_getr (r := o0 + 16) fl_X_66 h_o0 (by decide) rfl (rm_9_38 _ h_o0).1 d_X_taking_10 (aw_iload_n rfl rfl d_X_taking_13 ?_))))))
  refine ai_iald (rm_9_38 _ h_o0).2 rfl h_a1 hf d_X_taking_14 (fun _ hf => ?_)
  refine ai_imul d_X_taking_15 (ai_iadd d_X_taking_16 (aw_iconst (v := iv 1) rfl d_X_taking_17 (ai_iadd d_X_taking_18 ?_)))
  refine ai_name hf (wr32_in _) (fun x1 h_x1 hf => ?_)
  refine ai_iald (rm_9_0 _ h_o0).2 rfl h_x1 hf d_X_taking_19 (fun _ hf => ?_)
  refine ai_name hf (hI (o0 + 1) x1.toNat) (fun x2 h_x2 hf => ?_)
  refine aw_istore (lv2 := [.ref o0, .int (iv a1), .int (iv a2), .int (iv a3), .int (iv x2)]) (Nat.le_of_ble_eq_true rfl) rfl d_X_taking_20 ?_
  refine aw_iload rfl d_X_taking_22 (aw_iload_n rfl rfl d_X_taking_24 ?_)
  refine ai_icmp_le h_x2 h_a2 hf (tgt := 31) (by decide) d_X_taking_25 (fun hf => ?_) (fun hf => ?_)
  · refine aw_iload rfl d_X_taking_31 (aw_aload_n rfl rfl d_X_taking_33 (aw_getr (r := o0 + 17) fl_X_69 h_o0 (by decide) rfl (rm_9_39 _ h_o0).1 d_X_taking_34 (aw_iload_n rfl rfl d_X_taking_37 (aw_iconst (v := iv 1) rfl d_X_taking_38 (ai_iadd d_X_taking_39 (aw_iload_n rfl rfl d_X_taking_40 (aw_iload rfl d_X_taking_41 (ai_isub d_X_taking_43 (aw_aload_n rfl rfl d_X_taking_44 (aw_iload_n rfl rfl d_X_taking_45 (aw_aload_n rfl rfl d_X_taking_46 (aw_getr (r := o0 + 16) fl_X_66 h_o0 (by decide) rfl (rm_9_38 _ h_o0).1 d_X_taking_47 (aw_iload_n rfl rfl d_X_taking_50 ?_)))))))))))))
    refine ai_iald (rm_9_38 _ h_o0).2 rfl h_a1 hf d_X_taking_51 (fun _ hf => ?_)
    obtain ⟨y3, I4, c5, hf⟩ := of_zb hf
    refine ai_callV (as := [.int (iv a3), .int (iv (I0 (o0 + 16) a1.toNat))]) (d' := 1) (q := ("SinglesUpModel", zT9, 51)) mo_X_with lk_X_350 h_o0 rfl rfl rfl ⟨by decide, by decide⟩ rfl rfl (by decide) d_X_taking_52 (t_X_with fu o0 a3 (I0 (o0 + 16) a1.toNat) I0 hI h_o0 h_a3 (hI (o0 + 16) a1.toNat) c5) (fun h_y3 h_I4 => ?_)
    obtain ⟨y6, I7, c8, hf⟩ := of_zb hf
    refine ai_callS (as := [.int (iv (wr32 (a1 + 1))), .int (iv (wr32 (a2 - x2))), .int (iv y3)]) (d' := 1) mo_X_spot lk_X_353 rfl ⟨by decide, by decide⟩ rfl rfl (by decide) d_X_taking_55 (t_X_spot fu (wr32 (a1 + 1)) (wr32 (a2 - x2)) y3 I4 h_I4 (wr32_in _) (wr32_in _) h_y3 c8) (fun h_y6 h_I7 => ?_)
    refine ai_iald (rm_9_39 _ h_o0).2 rfl h_y6 hf d_X_taking_58 (fun _ hf => ?_)
    refine ai_iadd d_X_taking_59 ?_
    exact ai_reti rfl d_X_taking_60 hf (wr32_in _) h_I7
  · refine aw_bipush (v := iv (-99)) cb_m99 d_X_taking_28 ?_
    exact ai_reti rfl d_X_taking_30 hf in_m99 hI
set_option maxRecDepth 20000 in
theorem t_X_reckons_14 (fu : Nat) {r : Int × IMem} (k_50 : IMem → Res) (o0 : Nat) (p1 : Int) (h_o0 : KM[o0]? = some (12, 51)) (h_p1 : inr p1) (hk_50 : ∀ (I9 : IMem), RG I9 → k_50 I9 = some r → Ai l b 4 y_X_reckons KM RM (Pv r) I9 50 [.ref o0, .int (iv p1), uu, uu, uu, uu] []) : ∀ (m : Nat) (w2 : Int) (I0 : IMem), inr w2 → RG I0 → f_X_reckons_14 fu k_50 o0 p1 m w2 I0 = some r → Ai l b 4 y_X_reckons KM RM (Pv r) I0 14 [.ref o0, .int (iv p1), .int (iv w2), uu, uu, uu] [] := by
  intro m
  induction m with
  | zero => intro w2 I0 h_w2 h_I0 hf; cases hf
  | succ m ih =>
    intro w2 I0 h_w2 h_I0 hf
    replace hf : fb_X_reckons_14 fu k_50 o0 p1 (f_X_reckons_14 fu k_50 o0 p1 m) w2 I0 = some r := hf
    unfold fb_X_reckons_14 at hf
    refine aw_iload_n rfl rfl d_X_reckons_14 (aw_iconst (v := iv 4) rfl d_X_reckons_15 ?_)
    refine ai_icmp_ge h_w2 in_4 hf (tgt := 50) (by decide) d_X_reckons_16 (fun hf => ?_) (fun hf => ?_)
    · refine aw_weakB (lv2 := [.ref o0, .int (iv p1), uu, uu, uu, uu]) (wk_s (wk_s (wk_u (wk_u (wk_u (wk_u wk_n)))))) ?_
      exact hk_50 I0 h_I0 hf
    · refine aw_aload_n rfl rfl d_X_reckons_19 (aw_getr (r := o0 + 17) fl_X_69 h_o0 (by decide) rfl (rm_9_39 _ h_o0).1 d_X_reckons_20 (aw_aload_n rfl rfl d_X_reckons_23 (ai_geti fl_X_347 h_o0 (by decide) rfl d_X_reckons_24 (aw_iload_n rfl rfl d_X_reckons_27 (aw_iload_n rfl rfl d_X_reckons_28 ?_)))))
      obtain ⟨y4, I5, c6, hf⟩ := of_zb hf
      refine ai_callS (as := [.int (iv (I0 o0 40)), .int (iv p1), .int (iv w2)]) (d' := 1) mo_X_spot lk_X_353 rfl ⟨by decide, by decide⟩ rfl rfl (by decide) d_X_reckons_29 (t_X_spot fu (I0 o0 40) p1 w2 I0 h_I0 (h_I0 o0 40) h_p1 h_w2 c6) (fun h_y4 h_I5 => ?_)
      refine aw_iload_n rfl rfl d_X_reckons_32 (aw_iconst (v := iv 1) rfl d_X_reckons_33 ?_)
      obtain ⟨k7, ek7, hf⟩ := of_zj hf
      have hk7 : ∀ (x9 : Int) (I8 : IMem), inr x9 → RG I8 → k7 x9 I8 = some r → Ai l b 4 y_X_reckons KM RM (Pv r) I8 43 [.ref o0, .int (iv p1), .int (iv w2), uu, uu, uu] [.int (iv x9), .int (iv y4), .ref (o0 + 17)] := by
        intro x9 I8 h_x9 h_I8 hf
        subst ek7
        refine ai_iast (rm_9_39 _ h_o0).2 rfl h_y4 h_x9 h_I8 hf d_X_reckons_43 (fun _ I10 h_I10 hf => ?_)
        refine ai_iinc (n := 1) (lv2 := fun x11 => [.ref o0, .int (iv p1), .int (iv x11), uu, uu, uu]) hf rfl (Nat.le_of_ble_eq_true rfl) (fun _ => rfl) d_X_reckons_44 (fun x11 h_x11 hf => ?_)
        refine aw_goto (tgt := 14) (by decide) d_X_reckons_47 ?_
        exact ih x11 I10 h_x11 h_I10 hf
      refine ai_icmp_ne h_w2 in_1 hf (tgt := 42) (by decide) d_X_reckons_34 (fun hf => ?_) (fun hf => ?_)
      · refine aw_iconst (v := iv 0) rfl d_X_reckons_42 ?_
        exact hk7 0 I5 in_0 h_I5 hf
      · refine aw_bipush (v := iv (-99)) cb_m99 d_X_reckons_37 (aw_goto (tgt := 43) (by decide) d_X_reckons_39 ?_)
        exact hk7 ((-99)) I5 in_m99 h_I5 hf
set_option maxRecDepth 20000 in
theorem t_X_reckons_6 (fu : Nat) {r : Int × IMem} (k_56 : IMem → Res) (o0 : Nat) (h_o0 : KM[o0]? = some (12, 51)) (hk_56 : ∀ (I9 : IMem), RG I9 → k_56 I9 = some r → Ai l b 4 y_X_reckons KM RM (Pv r) I9 56 [.ref o0, uu, uu, uu, uu, uu] []) : ∀ (m : Nat) (w1 : Int) (I0 : IMem), inr w1 → RG I0 → f_X_reckons_6 fu k_56 o0 m w1 I0 = some r → Ai l b 4 y_X_reckons KM RM (Pv r) I0 6 [.ref o0, .int (iv w1), uu, uu, uu, uu] [] := by
  intro m
  induction m with
  | zero => intro w1 I0 h_w1 h_I0 hf; cases hf
  | succ m ih =>
    intro w1 I0 h_w1 h_I0 hf
    replace hf : fb_X_reckons_6 fu k_56 o0 (f_X_reckons_6 fu k_56 o0 m) w1 I0 = some r := hf
    unfold fb_X_reckons_6 at hf
    refine aw_iload_n rfl rfl d_X_reckons_6 (aw_bipush (v := iv 9) cb_9 d_X_reckons_7 ?_)
    refine ai_icmp_ge h_w1 in_9 hf (tgt := 56) (by decide) d_X_reckons_9 (fun hf => ?_) (fun hf => ?_)
    · refine aw_weakB (lv2 := [.ref o0, uu, uu, uu, uu, uu]) (wk_s (wk_u (wk_u (wk_u (wk_u (wk_u wk_n)))))) ?_
      exact hk_56 I0 h_I0 hf
    · refine aw_iconst (v := iv 0) rfl d_X_reckons_12 (aw_istore_n (lv2 := [.ref o0, .int (iv w1), .int (iv 0), uu, uu, uu]) rfl (Nat.le_of_ble_eq_true rfl) rfl d_X_reckons_13 ?_)
      refine t_X_reckons_14 fu _ o0 w1 h_o0 h_w1 ?_ fu 0 I0 in_0 h_I0 hf
      · intro I12 h_I12 hf
        refine ai_iinc (n := 1) (lv2 := fun x13 => [.ref o0, .int (iv x13), uu, uu, uu, uu]) hf rfl (Nat.le_of_ble_eq_true rfl) (fun _ => rfl) d_X_reckons_50 (fun x13 h_x13 hf => ?_)
        refine aw_goto (tgt := 6) (by decide) d_X_reckons_53 ?_
        exact ih x13 I12 h_x13 h_I12 hf
set_option maxRecDepth 20000 in
theorem t_X_reckons_77 (fu : Nat) {r : Int × IMem} (k_137 : IMem → Res) (o0 : Nat) (p1 : Int) (p2 : Int) (h_o0 : KM[o0]? = some (12, 51)) (h_p1 : inr p1) (h_p2 : inr p2) (hk_137 : ∀ (I9 : IMem), RG I9 → k_137 I9 = some r → Ai l b 4 y_X_reckons KM RM (Pv r) I9 137 [.ref o0, .int (iv p1), .int (iv p2), uu, uu, uu] []) : ∀ (m : Nat) (w3 : Int) (I0 : IMem), inr w3 → RG I0 → f_X_reckons_77 fu k_137 o0 p1 p2 m w3 I0 = some r → Ai l b 4 y_X_reckons KM RM (Pv r) I0 77 [.ref o0, .int (iv p1), .int (iv p2), .int (iv w3), uu, uu] [] := by
  intro m
  induction m with
  | zero => intro w3 I0 h_w3 h_I0 hf; cases hf
  | succ m ih =>
    intro w3 I0 h_w3 h_I0 hf
    replace hf : fb_X_reckons_77 fu k_137 o0 p1 p2 (f_X_reckons_77 fu k_137 o0 p1 p2 m) w3 I0 = some r := hf
    unfold fb_X_reckons_77 at hf
    refine aw_iload_n rfl rfl d_X_reckons_77 (aw_iconst (v := iv 4) rfl d_X_reckons_78 ?_)
    refine ai_icmp_ge h_w3 in_4 hf (tgt := 137) (by decide) d_X_reckons_79 (fun hf => ?_) (fun hf => ?_)
    · refine aw_weakB (lv2 := [.ref o0, .int (iv p1), .int (iv p2), uu, uu, uu]) (wk_s (wk_s (wk_s (wk_u (wk_u (wk_u wk_n)))))) ?_
      exact hk_137 I0 h_I0 hf
    · refine aw_aload_n rfl rfl d_X_reckons_82 (aw_iload_n rfl rfl d_X_reckons_83 (aw_iload_n rfl rfl d_X_reckons_84 (aw_iload_n rfl rfl d_X_reckons_85 ?_)))
      obtain ⟨y16, I17, c18, hf⟩ := of_zb hf
      refine ai_callV (as := [.int (iv p1), .int (iv p2), .int (iv w3)]) (d' := 2) (q := ("SinglesUpModel", zT9, 51)) mo_X_taking lk_X_359 h_o0 rfl rfl rfl ⟨by decide, by decide⟩ rfl rfl (by decide) d_X_reckons_86 (t_X_taking fu o0 p1 p2 w3 I0 h_I0 h_o0 h_p1 h_p2 h_w3 c18) (fun h_y16 h_I17 => ?_)
      refine aw_istore (lv2 := [.ref o0, .int (iv p1), .int (iv p2), .int (iv w3), .int (iv y16), uu]) (Nat.le_of_ble_eq_true rfl) rfl d_X_reckons_89 (aw_aload_n rfl rfl d_X_reckons_91 (aw_getr (r := o0 + 17) fl_X_69 h_o0 (by decide) rfl (rm_9_39 _ h_o0).1 d_X_reckons_92 (aw_iload_n rfl rfl d_X_reckons_95 (aw_iconst (v := iv 1) rfl d_X_reckons_96 (ai_iadd d_X_reckons_97 (aw_iload_n rfl rfl d_X_reckons_98 (aw_iload_n rfl rfl d_X_reckons_99 ?_)))))))
      obtain ⟨y19, I20, c21, hf⟩ := of_zb hf
      refine ai_callS (as := [.int (iv (wr32 (p1 + 1))), .int (iv p2), .int (iv w3)]) (d' := 1) mo_X_spot lk_X_353 rfl ⟨by decide, by decide⟩ rfl rfl (by decide) d_X_reckons_100 (t_X_spot fu (wr32 (p1 + 1)) p2 w3 I17 h_I17 (wr32_in _) h_p2 h_w3 c21) (fun h_y19 h_I20 => ?_)
      refine ai_iald (rm_9_39 _ h_o0).2 rfl h_y19 hf d_X_reckons_103 (fun _ hf => ?_)
      refine ai_name hf (h_I20 (o0 + 17) y19.toNat) (fun x22 h_x22 hf => ?_)
      refine aw_istore (lv2 := [.ref o0, .int (iv p1), .int (iv p2), .int (iv w3), .int (iv y16), .int (iv x22)]) (Nat.le_of_ble_eq_true rfl) rfl d_X_reckons_104 ?_
      refine aw_aload_n rfl rfl d_X_reckons_106 (aw_getr (r := o0 + 17) fl_X_69 h_o0 (by decide) rfl (rm_9_39 _ h_o0).1 d_X_reckons_107 (aw_iload_n rfl rfl d_X_reckons_110 (aw_iload_n rfl rfl d_X_reckons_111 (aw_iload_n rfl rfl d_X_reckons_112 ?_))))
      obtain ⟨y23, I24, c25, hf⟩ := of_zb hf
      refine ai_callS (as := [.int (iv p1), .int (iv p2), .int (iv w3)]) (d' := 1) mo_X_spot lk_X_353 rfl ⟨by decide, by decide⟩ rfl rfl (by decide) d_X_reckons_113 (t_X_spot fu p1 p2 w3 I20 h_I20 h_p1 h_p2 h_w3 c25) (fun h_y23 h_I24 => ?_)
      refine aw_iload rfl d_X_reckons_116 (aw_iload rfl d_X_reckons_118 ?_)
      obtain ⟨k26, ek26, hf⟩ := of_zj hf
      have hk26 : ∀ (x28 : Int) (I27 : IMem), inr x28 → RG I27 → k26 x28 I27 = some r → Ai l b 4 y_X_reckons KM RM (Pv r) I27 130 [.ref o0, .int (iv p1), .int (iv p2), .int (iv w3), uu, uu] [.int (iv x28), .int (iv y23), .ref (o0 + 17)] := by
        intro x28 I27 h_x28 h_I27 hf
        subst ek26
        refine ai_iast (rm_9_39 _ h_o0).2 rfl h_y23 h_x28 h_I27 hf d_X_reckons_130 (fun _ I29 h_I29 hf => ?_)
        refine ai_iinc (n := 1) (lv2 := fun x30 => [.ref o0, .int (iv p1), .int (iv p2), .int (iv x30), uu, uu]) hf rfl (Nat.le_of_ble_eq_true rfl) (fun _ => rfl) d_X_reckons_131 (fun x30 h_x30 hf => ?_)
        refine aw_goto (tgt := 77) (by decide) d_X_reckons_134 ?_
        exact ih x30 I29 h_x30 h_I29 hf
      refine ai_icmp_le h_y16 h_x22 hf (tgt := 128) (by decide) d_X_reckons_120 (fun hf => ?_) (fun hf => ?_)
      · refine aw_iload rfl d_X_reckons_128 ?_
        refine aw_weakB (lv2 := [.ref o0, .int (iv p1), .int (iv p2), .int (iv w3), uu, uu]) (wk_s (wk_s (wk_s (wk_s (wk_u (wk_u wk_n)))))) ?_
        exact hk26 x22 I24 h_x22 h_I24 hf
      · refine aw_iload rfl d_X_reckons_123 (aw_goto (tgt := 130) (by decide) d_X_reckons_125 ?_)
        refine aw_weakB (lv2 := [.ref o0, .int (iv p1), .int (iv p2), .int (iv w3), uu, uu]) (wk_s (wk_s (wk_s (wk_s (wk_u (wk_u wk_n)))))) ?_
        exact hk26 y16 I24 h_y16 h_I24 hf
set_option maxRecDepth 20000 in
theorem t_X_reckons_69 (fu : Nat) {r : Int × IMem} (k_143 : IMem → Res) (o0 : Nat) (p1 : Int) (h_o0 : KM[o0]? = some (12, 51)) (h_p1 : inr p1) (hk_143 : ∀ (I9 : IMem), RG I9 → k_143 I9 = some r → Ai l b 4 y_X_reckons KM RM (Pv r) I9 143 [.ref o0, .int (iv p1), uu, uu, uu, uu] []) : ∀ (m : Nat) (w2 : Int) (I0 : IMem), inr w2 → RG I0 → f_X_reckons_69 fu k_143 o0 p1 m w2 I0 = some r → Ai l b 4 y_X_reckons KM RM (Pv r) I0 69 [.ref o0, .int (iv p1), .int (iv w2), uu, uu, uu] [] := by
  intro m
  induction m with
  | zero => intro w2 I0 h_w2 h_I0 hf; cases hf
  | succ m ih =>
    intro w2 I0 h_w2 h_I0 hf
    replace hf : fb_X_reckons_69 fu k_143 o0 p1 (f_X_reckons_69 fu k_143 o0 p1 m) w2 I0 = some r := hf
    unfold fb_X_reckons_69 at hf
    refine aw_iload_n rfl rfl d_X_reckons_69 (aw_bipush (v := iv 9) cb_9 d_X_reckons_70 ?_)
    refine ai_icmp_ge h_w2 in_9 hf (tgt := 143) (by decide) d_X_reckons_72 (fun hf => ?_) (fun hf => ?_)
    · refine aw_weakB (lv2 := [.ref o0, .int (iv p1), uu, uu, uu, uu]) (wk_s (wk_s (wk_u (wk_u (wk_u (wk_u wk_n)))))) ?_
      exact hk_143 I0 h_I0 hf
    · refine aw_iconst (v := iv 0) rfl d_X_reckons_75 (aw_istore_n (lv2 := [.ref o0, .int (iv p1), .int (iv w2), .int (iv 0), uu, uu]) rfl (Nat.le_of_ble_eq_true rfl) rfl d_X_reckons_76 ?_)
      refine t_X_reckons_77 fu _ o0 p1 w2 h_o0 h_p1 h_w2 ?_ fu 0 I0 in_0 h_I0 hf
      · intro I31 h_I31 hf
        refine ai_iinc (n := 1) (lv2 := fun x32 => [.ref o0, .int (iv p1), .int (iv x32), uu, uu, uu]) hf rfl (Nat.le_of_ble_eq_true rfl) (fun _ => rfl) d_X_reckons_137 (fun x32 h_x32 hf => ?_)
        refine aw_goto (tgt := 69) (by decide) d_X_reckons_140 ?_
        exact ih x32 I31 h_x32 h_I31 hf
set_option maxRecDepth 20000 in
theorem t_X_reckons_63 (fu : Nat) {r : Int × IMem} (o0 : Nat) (h_o0 : KM[o0]? = some (12, 51)) : ∀ (m : Nat) (w1 : Int) (I0 : IMem), inr w1 → RG I0 → f_X_reckons_63 fu o0 m w1 I0 = some r → Ai l b 4 y_X_reckons KM RM (Pv r) I0 63 [.ref o0, .int (iv w1), uu, uu, uu, uu] [] := by
  intro m
  induction m with
  | zero => intro w1 I0 h_w1 h_I0 hf; cases hf
  | succ m ih =>
    intro w1 I0 h_w1 h_I0 hf
    replace hf : fb_X_reckons_63 fu o0 (f_X_reckons_63 fu o0 m) w1 I0 = some r := hf
    unfold fb_X_reckons_63 at hf
    refine aw_iload_n rfl rfl d_X_reckons_63 ?_
    refine ai_if_lt h_w1 hf (tgt := 149) (by decide) d_X_reckons_64 (fun hf => ?_) (fun hf => ?_)
    · exact ai_retv rfl d_X_reckons_149 hf h_I0
    · refine aw_iconst (v := iv 0) rfl d_X_reckons_67 (aw_istore_n (lv2 := [.ref o0, .int (iv w1), .int (iv 0), uu, uu, uu]) rfl (Nat.le_of_ble_eq_true rfl) rfl d_X_reckons_68 ?_)
      refine t_X_reckons_69 fu _ o0 w1 h_o0 h_w1 ?_ fu 0 I0 in_0 h_I0 hf
      · intro I33 h_I33 hf
        refine ai_iinc (n := (-1)) (lv2 := fun x34 => [.ref o0, .int (iv x34), uu, uu, uu, uu]) hf rfl (Nat.le_of_ble_eq_true rfl) (fun _ => rfl) d_X_reckons_143 (fun x34 h_x34 hf => ?_)
        refine aw_goto (tgt := 63) (by decide) d_X_reckons_146 ?_
        exact ih x34 I33 h_x34 h_I33 hf
set_option maxRecDepth 20000 in
theorem t_X_reckons (fu : Nat) (o0 : Nat) (I0 : IMem) (hI : RG I0) (h_o0 : KM[o0]? = some (12, 51)) {r : Int × IMem} (hf : f_X_reckons fu o0 I0 = some r) : Ss l b 4 y_X_reckons KM RM [.ref o0] (ivm I0) (Pv r) := by
  unfold f_X_reckons at hf
  refine Ss.of (show Ai l b 4 y_X_reckons KM RM (Pv r) I0 0 [.ref o0, uu, uu, uu, uu, uu] [] from ?_)
  refine aw_aload_n rfl rfl d_X_reckons_0 ?_
  obtain ⟨y1, I2, c3, hf⟩ := of_zb hf
  refine ai_callVv (as := []) (d' := 3) (q := ("SinglesUpModel", zT9, 51)) mo_X_laysRow lk_X_356 h_o0 rfl rfl rfl ⟨by decide, by decide⟩ rfl rfl (by decide) d_X_reckons_1 (t_X_laysRow fu o0 I0 hI h_o0 c3) (fun h_I2 => ?_)
  refine aw_iconst (v := iv 0) rfl d_X_reckons_4 (aw_istore_n (lv2 := [.ref o0, .int (iv 0), uu, uu, uu, uu]) rfl (Nat.le_of_ble_eq_true rfl) rfl d_X_reckons_5 ?_)
  refine t_X_reckons_6 fu _ o0 h_o0 ?_ fu 0 I2 in_0 h_I2 hf
  · intro I14 h_I14 hf
    refine aw_aload_n rfl rfl d_X_reckons_56 (ai_geti fl_X_347 h_o0 (by decide) rfl d_X_reckons_57 (aw_iconst (v := iv 1) rfl d_X_reckons_60 (ai_isub d_X_reckons_61 ?_)))
    refine ai_name hf (wr32_in _) (fun x15 h_x15 hf => ?_)
    refine aw_istore_n (lv2 := [.ref o0, .int (iv x15), uu, uu, uu, uu]) rfl (Nat.le_of_ble_eq_true rfl) rfl d_X_reckons_62 ?_
    refine t_X_reckons_63 fu o0 h_o0 fu x15 I14 h_x15 h_I14 hf
end
