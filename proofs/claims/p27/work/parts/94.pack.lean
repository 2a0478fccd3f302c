/-! the ways of the packer -/
section
variable {l : Launch} {b : PB}
theorem ci_0 : Int32.ofInt 0 = nI 0 := by decide +kernel
theorem ci_1 : Int32.ofInt 1 = nI 1 := by decide +kernel
theorem q1_cb_8 : (Int8.ofInt 8).toInt32 = nI 8 := by decide +kernel
theorem q1_cb_9 : (Int8.ofInt 9).toInt32 = nI 9 := by decide +kernel
theorem q1_cb_67 : (Int8.ofInt 67).toInt32 = nI 67 := by decide +kernel
end
abbrev y_S_init : MI := (⟨"SinglesUp", "<init>", "()V"⟩, prog_1_method_1_code, 1, none)
theorem ck_S_init_0 : (y_S_init.2.1.data.toList.drop 0).take 32 = [42, 183, 0, 3, 42, 187, 0, 9, 89, 183, 0, 11, 181, 0, 12, 42, 187, 0, 9, 89, 183, 0, 11, 181, 0, 16, 42, 187, 0, 19, 89, 183] := by decide +kernel
theorem d_S_init_0 : decode y_S_init.2.1 0 = .ok (.aload_n 0, 1) := op_aload_n0 (gk (k := 0) (t := 0) ck_S_init_0 rfl)
theorem d_S_init_1 : decode y_S_init.2.1 1 = .ok (.invokespecial 3, 3) := op_invokespecial (gk (k := 0) (t := 1) ck_S_init_0 rfl) (gk (k := 0) (t := 2) ck_S_init_0 rfl) (gk (k := 0) (t := 3) ck_S_init_0 rfl) rfl
theorem oi_S_3 : Cond.methodLink "SinglesUp" 3 Lib.objectInit ∈ TW := tw_c1 24 (by decide +kernel) rfl
theorem oi_z : Cond.instanceMethod Lib.objectInit ∈ TW ∧ Cond.code Lib.objectInit ⟨#[0xb1]⟩ 1 none ∈ TW := ⟨tw_c1 25 (by decide +kernel) rfl, tw_c1 26 (by decide +kernel) rfl⟩
theorem d_S_init_4 : decode y_S_init.2.1 4 = .ok (.aload_n 0, 1) := op_aload_n0 (gk (k := 0) (t := 4) ck_S_init_0 rfl)
theorem d_S_init_5 : decode y_S_init.2.1 5 = .ok (.new 9, 3) := op_new (gk (k := 0) (t := 5) ck_S_init_0 rfl) (gk (k := 0) (t := 6) ck_S_init_0 rfl) (gk (k := 0) (t := 7) ck_S_init_0 rfl) rfl
theorem cl_S_9 : Cond.classLink "SinglesUp" 9 "SinglesUp$Hill" ∈ TW := tw_c1 27 (by decide +kernel) rfl
theorem cz_2 : Cond.instantiable "SinglesUp$Hill" 14 ∈ TW ∧ Cond.initialized "SinglesUp$Hill" ∈ TW := ⟨tw_c1 28 (by decide +kernel) rfl, tw_c1 2 (by decide +kernel) rfl⟩
theorem d_S_init_8 : decode y_S_init.2.1 8 = .ok (.dup, 1) := op_dup (gk (k := 0) (t := 8) ck_S_init_0 rfl)
theorem d_S_init_9 : decode y_S_init.2.1 9 = .ok (.invokespecial 11, 3) := op_invokespecial (gk (k := 0) (t := 9) ck_S_init_0 rfl) (gk (k := 0) (t := 10) ck_S_init_0 rfl) (gk (k := 0) (t := 11) ck_S_init_0 rfl) rfl
abbrev y_H_init : MI := (⟨"SinglesUp$Hill", "<init>", "()V"⟩, prog_4_method_1_code, 2, none)
theorem lk_S_11 : LkI "SinglesUp" 11 y_H_init := ⟨rfl, rfl, tw_c1 30 (by decide +kernel) rfl, Or.inl (tw_c1 29 (by decide +kernel) rfl)⟩
set_option maxRecDepth 100000 in
theorem mo_H_init : MOk y_H_init 0 := ⟨by decide +kernel, tw_c1 31 rfl rfl, tw_c1 2 (by decide +kernel) rfl, by decide +kernel, by decide +kernel, by decide +kernel⟩
theorem ck_H_init_0 : (y_H_init.2.1.data.toList.drop 0).take 32 = [42, 183, 0, 3, 42, 16, 6, 188, 10, 89, 3, 7, 79, 89, 4, 16, 6, 79, 89, 5, 16, 40, 79, 89, 6, 3, 79, 89, 7, 3, 79, 89] := by decide +kernel
theorem d_H_init_0 : decode y_H_init.2.1 0 = .ok (.aload_n 0, 1) := op_aload_n0 (gk (k := 0) (t := 0) ck_H_init_0 rfl)
theorem d_H_init_1 : decode y_H_init.2.1 1 = .ok (.invokespecial 3, 3) := op_invokespecial (gk (k := 0) (t := 1) ck_H_init_0 rfl) (gk (k := 0) (t := 2) ck_H_init_0 rfl) (gk (k := 0) (t := 3) ck_H_init_0 rfl) rfl
theorem oi_H_3 : Cond.methodLink "SinglesUp$Hill" 3 Lib.objectInit ∈ TW := tw_c1 32 (by decide +kernel) rfl
theorem d_H_init_4 : decode y_H_init.2.1 4 = .ok (.aload_n 0, 1) := op_aload_n0 (gk (k := 0) (t := 4) ck_H_init_0 rfl)
theorem d_H_init_5 : decode y_H_init.2.1 5 = .ok (.bipush 6, 2) := op_bipush (gk (k := 0) (t := 5) ck_H_init_0 rfl) (gk (k := 0) (t := 6) ck_H_init_0 rfl) rfl
theorem d_H_init_7 : decode y_H_init.2.1 7 = .ok (.newarray .int, 2) := by decide +kernel
theorem ca_0 : Cond.arrayClass (newarray.typeOf .int) ∈ TW := tw_c1 58 (by decide +kernel) rfl
theorem d_H_init_9 : decode y_H_init.2.1 9 = .ok (.dup, 1) := op_dup (gk (k := 0) (t := 9) ck_H_init_0 rfl)
theorem d_H_init_10 : decode y_H_init.2.1 10 = .ok (.iconst 0, 1) := op_iconst0 (gk (k := 0) (t := 10) ck_H_init_0 rfl)
theorem d_H_init_11 : decode y_H_init.2.1 11 = .ok (.iconst 4, 1) := op_iconst4 (gk (k := 0) (t := 11) ck_H_init_0 rfl)
theorem d_H_init_12 : decode y_H_init.2.1 12 = .ok (.iastore, 1) := op_iastore (gk (k := 0) (t := 12) ck_H_init_0 rfl)
theorem d_H_init_13 : decode y_H_init.2.1 13 = .ok (.dup, 1) := op_dup (gk (k := 0) (t := 13) ck_H_init_0 rfl)
theorem d_H_init_14 : decode y_H_init.2.1 14 = .ok (.iconst 1, 1) := op_iconst1 (gk (k := 0) (t := 14) ck_H_init_0 rfl)
theorem d_H_init_15 : decode y_H_init.2.1 15 = .ok (.bipush 6, 2) := op_bipush (gk (k := 0) (t := 15) ck_H_init_0 rfl) (gk (k := 0) (t := 16) ck_H_init_0 rfl) rfl
theorem d_H_init_17 : decode y_H_init.2.1 17 = .ok (.iastore, 1) := op_iastore (gk (k := 0) (t := 17) ck_H_init_0 rfl)
theorem d_H_init_18 : decode y_H_init.2.1 18 = .ok (.dup, 1) := op_dup (gk (k := 0) (t := 18) ck_H_init_0 rfl)
theorem d_H_init_19 : decode y_H_init.2.1 19 = .ok (.iconst 2, 1) := op_iconst2 (gk (k := 0) (t := 19) ck_H_init_0 rfl)
theorem d_H_init_20 : decode y_H_init.2.1 20 = .ok (.bipush 40, 2) := op_bipush (gk (k := 0) (t := 20) ck_H_init_0 rfl) (gk (k := 0) (t := 21) ck_H_init_0 rfl) rfl
theorem d_H_init_22 : decode y_H_init.2.1 22 = .ok (.iastore, 1) := op_iastore (gk (k := 0) (t := 22) ck_H_init_0 rfl)
theorem d_H_init_23 : decode y_H_init.2.1 23 = .ok (.dup, 1) := op_dup (gk (k := 0) (t := 23) ck_H_init_0 rfl)
theorem d_H_init_24 : decode y_H_init.2.1 24 = .ok (.iconst 3, 1) := op_iconst3 (gk (k := 0) (t := 24) ck_H_init_0 rfl)
theorem d_H_init_25 : decode y_H_init.2.1 25 = .ok (.iconst 0, 1) := op_iconst0 (gk (k := 0) (t := 25) ck_H_init_0 rfl)
theorem d_H_init_26 : decode y_H_init.2.1 26 = .ok (.iastore, 1) := op_iastore (gk (k := 0) (t := 26) ck_H_init_0 rfl)
theorem d_H_init_27 : decode y_H_init.2.1 27 = .ok (.dup, 1) := op_dup (gk (k := 0) (t := 27) ck_H_init_0 rfl)
theorem d_H_init_28 : decode y_H_init.2.1 28 = .ok (.iconst 4, 1) := op_iconst4 (gk (k := 0) (t := 28) ck_H_init_0 rfl)
theorem d_H_init_29 : decode y_H_init.2.1 29 = .ok (.iconst 0, 1) := op_iconst0 (gk (k := 0) (t := 29) ck_H_init_0 rfl)
theorem d_H_init_30 : decode y_H_init.2.1 30 = .ok (.iastore, 1) := op_iastore (gk (k := 0) (t := 30) ck_H_init_0 rfl)
theorem d_H_init_31 : decode y_H_init.2.1 31 = .ok (.dup, 1) := op_dup (gk (k := 0) (t := 31) ck_H_init_0 rfl)
theorem ck_H_init_1 : (y_H_init.2.1.data.toList.drop 32).take 32 = [8, 3, 79, 181, 0, 9, 42, 8, 189, 0, 15, 181, 0, 17, 42, 16, 9, 188, 10, 181, 0, 21, 42, 16, 32, 188, 10, 181, 0, 24, 42, 16] := by decide +kernel
theorem d_H_init_32 : decode y_H_init.2.1 32 = .ok (.iconst 5, 1) := op_iconst5 (gk (k := 32) (t := 0) ck_H_init_1 rfl)
theorem d_H_init_33 : decode y_H_init.2.1 33 = .ok (.iconst 0, 1) := op_iconst0 (gk (k := 32) (t := 1) ck_H_init_1 rfl)
theorem d_H_init_34 : decode y_H_init.2.1 34 = .ok (.iastore, 1) := op_iastore (gk (k := 32) (t := 2) ck_H_init_1 rfl)
theorem d_H_init_35 : decode y_H_init.2.1 35 = .ok (.putfield 9, 3) := op_putfield (gk (k := 32) (t := 3) ck_H_init_1 rfl) (gk (k := 32) (t := 4) ck_H_init_1 rfl) (gk (k := 32) (t := 5) ck_H_init_1 rfl) rfl
theorem fp_H_9 : FLp "SinglesUp$Hill" 9 2 0 := ⟨"SinglesUp$Hill", zT2, 14, rfl, by decide, rfl, tw_c1 84 (by decide +kernel) rfl⟩
theorem d_H_init_38 : decode y_H_init.2.1 38 = .ok (.aload_n 0, 1) := op_aload_n0 (gk (k := 32) (t := 6) ck_H_init_1 rfl)
theorem d_H_init_39 : decode y_H_init.2.1 39 = .ok (.iconst 5, 1) := op_iconst5 (gk (k := 32) (t := 7) ck_H_init_1 rfl)
theorem d_H_init_40 : decode y_H_init.2.1 40 = .ok (.anewarray 15, 3) := op_anewarray (gk (k := 32) (t := 8) ck_H_init_1 rfl) (gk (k := 32) (t := 9) ck_H_init_1 rfl) (gk (k := 32) (t := 10) ck_H_init_1 rfl) rfl
theorem cl_H_15 : Cond.classLink "SinglesUp$Hill" 15 "SinglesUp$Law" ∈ TW := tw_c1 33 (by decide +kernel) rfl
theorem d_H_init_43 : decode y_H_init.2.1 43 = .ok (.putfield 17, 3) := op_putfield (gk (k := 32) (t := 11) ck_H_init_1 rfl) (gk (k := 32) (t := 12) ck_H_init_1 rfl) (gk (k := 32) (t := 13) ck_H_init_1 rfl) rfl
theorem fp_H_17 : FLp "SinglesUp$Hill" 17 2 1 := ⟨"SinglesUp$Hill", zT2, 14, rfl, by decide, rfl, tw_c1 89 (by decide +kernel) rfl⟩
theorem d_H_init_46 : decode y_H_init.2.1 46 = .ok (.aload_n 0, 1) := op_aload_n0 (gk (k := 32) (t := 14) ck_H_init_1 rfl)
theorem d_H_init_47 : decode y_H_init.2.1 47 = .ok (.bipush 9, 2) := op_bipush (gk (k := 32) (t := 15) ck_H_init_1 rfl) (gk (k := 32) (t := 16) ck_H_init_1 rfl) rfl
theorem d_H_init_49 : decode y_H_init.2.1 49 = .ok (.newarray .int, 2) := by decide +kernel
theorem d_H_init_51 : decode y_H_init.2.1 51 = .ok (.putfield 21, 3) := op_putfield (gk (k := 32) (t := 19) ck_H_init_1 rfl) (gk (k := 32) (t := 20) ck_H_init_1 rfl) (gk (k := 32) (t := 21) ck_H_init_1 rfl) rfl
theorem fp_H_21 : FLp "SinglesUp$Hill" 21 2 2 := ⟨"SinglesUp$Hill", zT2, 14, rfl, by decide, rfl, tw_c1 91 (by decide +kernel) rfl⟩
theorem d_H_init_54 : decode y_H_init.2.1 54 = .ok (.aload_n 0, 1) := op_aload_n0 (gk (k := 32) (t := 22) ck_H_init_1 rfl)
theorem d_H_init_55 : decode y_H_init.2.1 55 = .ok (.bipush 32, 2) := op_bipush (gk (k := 32) (t := 23) ck_H_init_1 rfl) (gk (k := 32) (t := 24) ck_H_init_1 rfl) rfl
theorem d_H_init_57 : decode y_H_init.2.1 57 = .ok (.newarray .int, 2) := by decide +kernel
theorem d_H_init_59 : decode y_H_init.2.1 59 = .ok (.putfield 24, 3) := op_putfield (gk (k := 32) (t := 27) ck_H_init_1 rfl) (gk (k := 32) (t := 28) ck_H_init_1 rfl) (gk (k := 32) (t := 29) ck_H_init_1 rfl) rfl
theorem fp_H_24 : FLp "SinglesUp$Hill" 24 2 3 := ⟨"SinglesUp$Hill", zT2, 14, rfl, by decide, rfl, tw_c1 94 (by decide +kernel) rfl⟩
theorem d_H_init_62 : decode y_H_init.2.1 62 = .ok (.aload_n 0, 1) := op_aload_n0 (gk (k := 32) (t := 30) ck_H_init_1 rfl)
theorem ck_H_init_2 : (y_H_init.2.1.data.toList.drop 64).take 32 = [9, 188, 10, 181, 0, 27, 42, 187, 0, 30, 89, 183, 0, 32, 181, 0, 33, 42, 16, 40, 188, 10, 181, 0, 37, 42, 16, 30, 188, 10, 181, 0] := by decide +kernel
theorem d_H_init_63 : decode y_H_init.2.1 63 = .ok (.bipush 9, 2) := op_bipush (gk (k := 32) (t := 31) ck_H_init_1 rfl) (gk (k := 64) (t := 0) ck_H_init_2 rfl) rfl
theorem d_H_init_65 : decode y_H_init.2.1 65 = .ok (.newarray .int, 2) := by decide +kernel
theorem d_H_init_67 : decode y_H_init.2.1 67 = .ok (.putfield 27, 3) := op_putfield (gk (k := 64) (t := 3) ck_H_init_2 rfl) (gk (k := 64) (t := 4) ck_H_init_2 rfl) (gk (k := 64) (t := 5) ck_H_init_2 rfl) rfl
theorem fp_H_27 : FLp "SinglesUp$Hill" 27 2 4 := ⟨"SinglesUp$Hill", zT2, 14, rfl, by decide, rfl, tw_c1 95 (by decide +kernel) rfl⟩
theorem d_H_init_70 : decode y_H_init.2.1 70 = .ok (.aload_n 0, 1) := op_aload_n0 (gk (k := 64) (t := 6) ck_H_init_2 rfl)
theorem d_H_init_71 : decode y_H_init.2.1 71 = .ok (.new 30, 3) := op_new (gk (k := 64) (t := 7) ck_H_init_2 rfl) (gk (k := 64) (t := 8) ck_H_init_2 rfl) (gk (k := 64) (t := 9) ck_H_init_2 rfl) rfl
theorem cl_H_30 : Cond.classLink "SinglesUp$Hill" 30 "SinglesUp$Lines" ∈ TW := tw_c1 35 (by decide +kernel) rfl
theorem cz_4 : Cond.instantiable "SinglesUp$Lines" 3 ∈ TW ∧ Cond.initialized "SinglesUp$Lines" ∈ TW := ⟨tw_c1 36 (by decide +kernel) rfl, tw_c1 3 (by decide +kernel) rfl⟩
theorem d_H_init_74 : decode y_H_init.2.1 74 = .ok (.dup, 1) := op_dup (gk (k := 64) (t := 10) ck_H_init_2 rfl)
theorem d_H_init_75 : decode y_H_init.2.1 75 = .ok (.invokespecial 32, 3) := op_invokespecial (gk (k := 64) (t := 11) ck_H_init_2 rfl) (gk (k := 64) (t := 12) ck_H_init_2 rfl) (gk (k := 64) (t := 13) ck_H_init_2 rfl) rfl
abbrev y_L_init : MI := (⟨"SinglesUp$Lines", "<init>", "()V"⟩, prog_6_method_1_code, 1, none)
theorem lk_H_32 : LkI "SinglesUp$Hill" 32 y_L_init := ⟨rfl, rfl, tw_c1 38 (by decide +kernel) rfl, Or.inl (tw_c1 37 (by decide +kernel) rfl)⟩
set_option maxRecDepth 100000 in
theorem mo_L_init : MOk y_L_init 0 := ⟨by decide +kernel, tw_c1 39 rfl rfl, tw_c1 3 (by decide +kernel) rfl, by decide +kernel, by decide +kernel, by decide +kernel⟩
theorem ck_L_init_0 : (y_L_init.2.1.data.toList.drop 0).take 32 = [42, 183, 0, 3, 42, 17, 5, 160, 188, 10, 181, 0, 9, 42, 16, 6, 188, 10, 181, 0, 15, 42, 16, 6, 188, 10, 181, 0, 18, 42, 180, 0] := by decide +kernel
theorem d_L_init_0 : decode y_L_init.2.1 0 = .ok (.aload_n 0, 1) := op_aload_n0 (gk (k := 0) (t := 0) ck_L_init_0 rfl)
theorem d_L_init_1 : decode y_L_init.2.1 1 = .ok (.invokespecial 3, 3) := op_invokespecial (gk (k := 0) (t := 1) ck_L_init_0 rfl) (gk (k := 0) (t := 2) ck_L_init_0 rfl) (gk (k := 0) (t := 3) ck_L_init_0 rfl) rfl
theorem oi_L_3 : Cond.methodLink "SinglesUp$Lines" 3 Lib.objectInit ∈ TW := tw_c1 40 (by decide +kernel) rfl
theorem d_L_init_4 : decode y_L_init.2.1 4 = .ok (.aload_n 0, 1) := op_aload_n0 (gk (k := 0) (t := 4) ck_L_init_0 rfl)
theorem d_L_init_5 : decode y_L_init.2.1 5 = .ok (.sipush 1440, 3) := op_sipush (gk (k := 0) (t := 5) ck_L_init_0 rfl) (gk (k := 0) (t := 6) ck_L_init_0 rfl) (gk (k := 0) (t := 7) ck_L_init_0 rfl) (by decide +kernel)
theorem cs_1440 : (Int16.ofInt 1440).toInt32 = nI 1440 := by decide +kernel
theorem d_L_init_8 : decode y_L_init.2.1 8 = .ok (.newarray .int, 2) := by decide +kernel
theorem d_L_init_10 : decode y_L_init.2.1 10 = .ok (.putfield 9, 3) := op_putfield (gk (k := 0) (t := 10) ck_L_init_0 rfl) (gk (k := 0) (t := 11) ck_L_init_0 rfl) (gk (k := 0) (t := 12) ck_L_init_0 rfl) rfl
theorem fp_L_9 : FLp "SinglesUp$Lines" 9 4 0 := ⟨"SinglesUp$Lines", zT4, 3, rfl, by decide, rfl, tw_c1 44 (by decide +kernel) rfl⟩
theorem d_L_init_13 : decode y_L_init.2.1 13 = .ok (.aload_n 0, 1) := op_aload_n0 (gk (k := 0) (t := 13) ck_L_init_0 rfl)
theorem d_L_init_14 : decode y_L_init.2.1 14 = .ok (.bipush 6, 2) := op_bipush (gk (k := 0) (t := 14) ck_L_init_0 rfl) (gk (k := 0) (t := 15) ck_L_init_0 rfl) rfl
theorem d_L_init_16 : decode y_L_init.2.1 16 = .ok (.newarray .int, 2) := by decide +kernel
theorem d_L_init_18 : decode y_L_init.2.1 18 = .ok (.putfield 15, 3) := op_putfield (gk (k := 0) (t := 18) ck_L_init_0 rfl) (gk (k := 0) (t := 19) ck_L_init_0 rfl) (gk (k := 0) (t := 20) ck_L_init_0 rfl) rfl
theorem fp_L_15 : FLp "SinglesUp$Lines" 15 4 1 := ⟨"SinglesUp$Lines", zT4, 3, rfl, by decide, rfl, tw_c1 46 (by decide +kernel) rfl⟩
theorem d_L_init_21 : decode y_L_init.2.1 21 = .ok (.aload_n 0, 1) := op_aload_n0 (gk (k := 0) (t := 21) ck_L_init_0 rfl)
theorem d_L_init_22 : decode y_L_init.2.1 22 = .ok (.bipush 6, 2) := op_bipush (gk (k := 0) (t := 22) ck_L_init_0 rfl) (gk (k := 0) (t := 23) ck_L_init_0 rfl) rfl
theorem d_L_init_24 : decode y_L_init.2.1 24 = .ok (.newarray .int, 2) := by decide +kernel
theorem d_L_init_26 : decode y_L_init.2.1 26 = .ok (.putfield 18, 3) := op_putfield (gk (k := 0) (t := 26) ck_L_init_0 rfl) (gk (k := 0) (t := 27) ck_L_init_0 rfl) (gk (k := 0) (t := 28) ck_L_init_0 rfl) rfl
theorem fp_L_18 : FLp "SinglesUp$Lines" 18 4 2 := ⟨"SinglesUp$Lines", zT4, 3, rfl, by decide, rfl, tw_c1 49 (by decide +kernel) rfl⟩
theorem d_L_init_29 : decode y_L_init.2.1 29 = .ok (.aload_n 0, 1) := op_aload_n0 (gk (k := 0) (t := 29) ck_L_init_0 rfl)
theorem ck_L_init_1 : (y_L_init.2.1.data.toList.drop 32).take 32 = [18, 16, 9, 184, 0, 21, 177] := by decide +kernel
theorem d_L_init_30 : decode y_L_init.2.1 30 = .ok (.getfield 18, 3) := op_getfield (gk (k := 0) (t := 30) ck_L_init_0 rfl) (gk (k := 0) (t := 31) ck_L_init_0 rfl) (gk (k := 32) (t := 0) ck_L_init_1 rfl) rfl
theorem d_L_init_33 : decode y_L_init.2.1 33 = .ok (.bipush 9, 2) := op_bipush (gk (k := 32) (t := 1) ck_L_init_1 rfl) (gk (k := 32) (t := 2) ck_L_init_1 rfl) rfl
theorem d_L_init_35 : decode y_L_init.2.1 35 = .ok (.invokestatic 21, 3) := op_invokestatic (gk (k := 32) (t := 3) ck_L_init_1 rfl) (gk (k := 32) (t := 4) ck_L_init_1 rfl) (gk (k := 32) (t := 5) ck_L_init_1 rfl) rfl
theorem lk_L_21 : LkS "SinglesUp$Lines" 21 y_JA_fill := ⟨tw_c1 42 (by decide +kernel) rfl, Or.inl (tw_c1 41 (by decide +kernel) rfl)⟩
theorem d_L_init_38 : decode y_L_init.2.1 38 = .ok (.return_, 1) := op_return_ (gk (k := 32) (t := 6) ck_L_init_1 rfl)
theorem d_H_init_78 : decode y_H_init.2.1 78 = .ok (.putfield 33, 3) := op_putfield (gk (k := 64) (t := 14) ck_H_init_2 rfl) (gk (k := 64) (t := 15) ck_H_init_2 rfl) (gk (k := 64) (t := 16) ck_H_init_2 rfl) rfl
theorem fp_H_33 : FLp "SinglesUp$Hill" 33 2 5 := ⟨"SinglesUp$Hill", zT2, 14, rfl, by decide, rfl, tw_c1 97 (by decide +kernel) rfl⟩
theorem d_H_init_81 : decode y_H_init.2.1 81 = .ok (.aload_n 0, 1) := op_aload_n0 (gk (k := 64) (t := 17) ck_H_init_2 rfl)
theorem d_H_init_82 : decode y_H_init.2.1 82 = .ok (.bipush 40, 2) := op_bipush (gk (k := 64) (t := 18) ck_H_init_2 rfl) (gk (k := 64) (t := 19) ck_H_init_2 rfl) rfl
theorem d_H_init_84 : decode y_H_init.2.1 84 = .ok (.newarray .int, 2) := by decide +kernel
theorem d_H_init_86 : decode y_H_init.2.1 86 = .ok (.putfield 37, 3) := op_putfield (gk (k := 64) (t := 22) ck_H_init_2 rfl) (gk (k := 64) (t := 23) ck_H_init_2 rfl) (gk (k := 64) (t := 24) ck_H_init_2 rfl) rfl
theorem fp_H_37 : FLp "SinglesUp$Hill" 37 2 8 := ⟨"SinglesUp$Hill", zT2, 14, rfl, by decide, rfl, tw_c1 106 (by decide +kernel) rfl⟩
theorem d_H_init_89 : decode y_H_init.2.1 89 = .ok (.aload_n 0, 1) := op_aload_n0 (gk (k := 64) (t := 25) ck_H_init_2 rfl)
theorem d_H_init_90 : decode y_H_init.2.1 90 = .ok (.bipush 30, 2) := op_bipush (gk (k := 64) (t := 26) ck_H_init_2 rfl) (gk (k := 64) (t := 27) ck_H_init_2 rfl) rfl
theorem d_H_init_92 : decode y_H_init.2.1 92 = .ok (.newarray .int, 2) := by decide +kernel
theorem ck_H_init_3 : (y_H_init.2.1.data.toList.drop 96).take 32 = [40, 42, 17, 0, 180, 188, 10, 181, 0, 43, 42, 2, 181, 0, 46, 42, 16, 16, 188, 10, 181, 0, 50, 42, 16, 6, 188, 10, 181, 0, 53, 3] := by decide +kernel
theorem d_H_init_94 : decode y_H_init.2.1 94 = .ok (.putfield 40, 3) := op_putfield (gk (k := 64) (t := 30) ck_H_init_2 rfl) (gk (k := 64) (t := 31) ck_H_init_2 rfl) (gk (k := 96) (t := 0) ck_H_init_3 rfl) rfl
theorem fp_H_40 : FLp "SinglesUp$Hill" 40 2 9 := ⟨"SinglesUp$Hill", zT2, 14, rfl, by decide, rfl, tw_c1 110 (by decide +kernel) rfl⟩
theorem d_H_init_97 : decode y_H_init.2.1 97 = .ok (.aload_n 0, 1) := op_aload_n0 (gk (k := 96) (t := 1) ck_H_init_3 rfl)
theorem d_H_init_98 : decode y_H_init.2.1 98 = .ok (.sipush 180, 3) := op_sipush (gk (k := 96) (t := 2) ck_H_init_3 rfl) (gk (k := 96) (t := 3) ck_H_init_3 rfl) (gk (k := 96) (t := 4) ck_H_init_3 rfl) (by decide +kernel)
theorem cs_180 : (Int16.ofInt 180).toInt32 = nI 180 := by decide +kernel
theorem d_H_init_101 : decode y_H_init.2.1 101 = .ok (.newarray .int, 2) := by decide +kernel
theorem d_H_init_103 : decode y_H_init.2.1 103 = .ok (.putfield 43, 3) := op_putfield (gk (k := 96) (t := 7) ck_H_init_3 rfl) (gk (k := 96) (t := 8) ck_H_init_3 rfl) (gk (k := 96) (t := 9) ck_H_init_3 rfl) rfl
theorem fp_H_43 : FLp "SinglesUp$Hill" 43 2 10 := ⟨"SinglesUp$Hill", zT2, 14, rfl, by decide, rfl, tw_c1 112 (by decide +kernel) rfl⟩
theorem d_H_init_106 : decode y_H_init.2.1 106 = .ok (.aload_n 0, 1) := op_aload_n0 (gk (k := 96) (t := 10) ck_H_init_3 rfl)
theorem d_H_init_107 : decode y_H_init.2.1 107 = .ok (.iconst (-1), 1) := op_iconstm1 (gk (k := 96) (t := 11) ck_H_init_3 rfl)
theorem d_H_init_108 : decode y_H_init.2.1 108 = .ok (.putfield 46, 3) := op_putfield (gk (k := 96) (t := 12) ck_H_init_3 rfl) (gk (k := 96) (t := 13) ck_H_init_3 rfl) (gk (k := 96) (t := 14) ck_H_init_3 rfl) rfl
theorem d_H_init_111 : decode y_H_init.2.1 111 = .ok (.aload_n 0, 1) := op_aload_n0 (gk (k := 96) (t := 15) ck_H_init_3 rfl)
theorem d_H_init_112 : decode y_H_init.2.1 112 = .ok (.bipush 16, 2) := op_bipush (gk (k := 96) (t := 16) ck_H_init_3 rfl) (gk (k := 96) (t := 17) ck_H_init_3 rfl) rfl
theorem d_H_init_114 : decode y_H_init.2.1 114 = .ok (.newarray .int, 2) := by decide +kernel
theorem d_H_init_116 : decode y_H_init.2.1 116 = .ok (.putfield 50, 3) := op_putfield (gk (k := 96) (t := 20) ck_H_init_3 rfl) (gk (k := 96) (t := 21) ck_H_init_3 rfl) (gk (k := 96) (t := 22) ck_H_init_3 rfl) rfl
theorem fp_H_50 : FLp "SinglesUp$Hill" 50 2 12 := ⟨"SinglesUp$Hill", zT2, 14, rfl, by decide, rfl, tw_c1 115 (by decide +kernel) rfl⟩
theorem d_H_init_119 : decode y_H_init.2.1 119 = .ok (.aload_n 0, 1) := op_aload_n0 (gk (k := 96) (t := 23) ck_H_init_3 rfl)
theorem d_H_init_120 : decode y_H_init.2.1 120 = .ok (.bipush 6, 2) := op_bipush (gk (k := 96) (t := 24) ck_H_init_3 rfl) (gk (k := 96) (t := 25) ck_H_init_3 rfl) rfl
theorem d_H_init_122 : decode y_H_init.2.1 122 = .ok (.newarray .int, 2) := by decide +kernel
theorem d_H_init_124 : decode y_H_init.2.1 124 = .ok (.putfield 53, 3) := op_putfield (gk (k := 96) (t := 28) ck_H_init_3 rfl) (gk (k := 96) (t := 29) ck_H_init_3 rfl) (gk (k := 96) (t := 30) ck_H_init_3 rfl) rfl
theorem fp_H_53 : FLp "SinglesUp$Hill" 53 2 13 := ⟨"SinglesUp$Hill", zT2, 14, rfl, by decide, rfl, tw_c1 118 (by decide +kernel) rfl⟩
theorem d_H_init_127 : decode y_H_init.2.1 127 = .ok (.iconst 0, 1) := op_iconst0 (gk (k := 96) (t := 31) ck_H_init_3 rfl)
theorem ck_H_init_4 : (y_H_init.2.1.data.toList.drop 128).take 32 = [60, 27, 42, 180, 0, 17, 190, 162, 0, 22, 42, 180, 0, 17, 27, 187, 0, 15, 89, 183, 0, 56, 83, 132, 1, 1, 167, 255, 231, 177] := by decide +kernel
theorem d_H_init_128 : decode y_H_init.2.1 128 = .ok (.istore_n 1, 1) := op_istore_n1 (gk (k := 128) (t := 0) ck_H_init_4 rfl)
theorem d_H_init_129 : decode y_H_init.2.1 129 = .ok (.iload_n 1, 1) := op_iload_n1 (gk (k := 128) (t := 1) ck_H_init_4 rfl)
theorem d_H_init_130 : decode y_H_init.2.1 130 = .ok (.aload_n 0, 1) := op_aload_n0 (gk (k := 128) (t := 2) ck_H_init_4 rfl)
theorem d_H_init_131 : decode y_H_init.2.1 131 = .ok (.getfield 17, 3) := op_getfield (gk (k := 128) (t := 3) ck_H_init_4 rfl) (gk (k := 128) (t := 4) ck_H_init_4 rfl) (gk (k := 128) (t := 5) ck_H_init_4 rfl) rfl
theorem d_H_init_134 : decode y_H_init.2.1 134 = .ok (.arraylength, 1) := op_arraylength (gk (k := 128) (t := 6) ck_H_init_4 rfl)
theorem d_H_init_135 : decode y_H_init.2.1 135 = .ok (.if_icmp .ge 22, 3) := op_icmp_ge (gk (k := 128) (t := 7) ck_H_init_4 rfl) (gk (k := 128) (t := 8) ck_H_init_4 rfl) (gk (k := 128) (t := 9) ck_H_init_4 rfl) (by decide +kernel)
theorem d_H_init_138 : decode y_H_init.2.1 138 = .ok (.aload_n 0, 1) := op_aload_n0 (gk (k := 128) (t := 10) ck_H_init_4 rfl)
theorem d_H_init_139 : decode y_H_init.2.1 139 = .ok (.getfield 17, 3) := op_getfield (gk (k := 128) (t := 11) ck_H_init_4 rfl) (gk (k := 128) (t := 12) ck_H_init_4 rfl) (gk (k := 128) (t := 13) ck_H_init_4 rfl) rfl
theorem d_H_init_142 : decode y_H_init.2.1 142 = .ok (.iload_n 1, 1) := op_iload_n1 (gk (k := 128) (t := 14) ck_H_init_4 rfl)
theorem d_H_init_143 : decode y_H_init.2.1 143 = .ok (.new 15, 3) := op_new (gk (k := 128) (t := 15) ck_H_init_4 rfl) (gk (k := 128) (t := 16) ck_H_init_4 rfl) (gk (k := 128) (t := 17) ck_H_init_4 rfl) rfl
theorem cz_3 : Cond.instantiable "SinglesUp$Law" 6 ∈ TW ∧ Cond.initialized "SinglesUp$Law" ∈ TW := ⟨tw_c1 59 (by decide +kernel) rfl, tw_c1 5 (by decide +kernel) rfl⟩
theorem d_H_init_146 : decode y_H_init.2.1 146 = .ok (.dup, 1) := op_dup (gk (k := 128) (t := 18) ck_H_init_4 rfl)
theorem d_H_init_147 : decode y_H_init.2.1 147 = .ok (.invokespecial 56, 3) := op_invokespecial (gk (k := 128) (t := 19) ck_H_init_4 rfl) (gk (k := 128) (t := 20) ck_H_init_4 rfl) (gk (k := 128) (t := 21) ck_H_init_4 rfl) rfl
abbrev y_W_init : MI := (⟨"SinglesUp$Law", "<init>", "()V"⟩, prog_5_method_1_code, 1, none)
theorem lk_H_56 : LkI "SinglesUp$Hill" 56 y_W_init := ⟨rfl, rfl, tw_c1 61 (by decide +kernel) rfl, Or.inr ⟨"SinglesUp", nw_in 60 (by decide +kernel) rfl⟩⟩
set_option maxRecDepth 100000 in
theorem mo_W_init : MOk y_W_init 0 := ⟨by decide +kernel, tw_c1 62 rfl rfl, tw_c1 5 (by decide +kernel) rfl, by decide +kernel, by decide +kernel, by decide +kernel⟩
theorem ck_W_init_0 : (y_W_init.2.1.data.toList.drop 0).take 32 = [42, 183, 0, 1, 42, 17, 1, 144, 188, 10, 181, 0, 9, 42, 16, 17, 188, 10, 181, 0, 13, 42, 16, 16, 188, 10, 181, 0, 16, 42, 16, 64] := by decide +kernel
theorem d_W_init_0 : decode y_W_init.2.1 0 = .ok (.aload_n 0, 1) := op_aload_n0 (gk (k := 0) (t := 0) ck_W_init_0 rfl)
theorem d_W_init_1 : decode y_W_init.2.1 1 = .ok (.invokespecial 1, 3) := op_invokespecial (gk (k := 0) (t := 1) ck_W_init_0 rfl) (gk (k := 0) (t := 2) ck_W_init_0 rfl) (gk (k := 0) (t := 3) ck_W_init_0 rfl) rfl
theorem oi_W_1 : Cond.methodLink "SinglesUp$Law" 1 Lib.objectInit ∈ TW := tw_c1 63 (by decide +kernel) rfl
theorem d_W_init_4 : decode y_W_init.2.1 4 = .ok (.aload_n 0, 1) := op_aload_n0 (gk (k := 0) (t := 4) ck_W_init_0 rfl)
theorem d_W_init_5 : decode y_W_init.2.1 5 = .ok (.sipush 400, 3) := op_sipush (gk (k := 0) (t := 5) ck_W_init_0 rfl) (gk (k := 0) (t := 6) ck_W_init_0 rfl) (gk (k := 0) (t := 7) ck_W_init_0 rfl) (by decide +kernel)
theorem d_W_init_8 : decode y_W_init.2.1 8 = .ok (.newarray .int, 2) := by decide +kernel
theorem d_W_init_10 : decode y_W_init.2.1 10 = .ok (.putfield 9, 3) := op_putfield (gk (k := 0) (t := 10) ck_W_init_0 rfl) (gk (k := 0) (t := 11) ck_W_init_0 rfl) (gk (k := 0) (t := 12) ck_W_init_0 rfl) rfl
theorem fp_W_9 : FLp "SinglesUp$Law" 9 3 0 := ⟨"SinglesUp$Law", zT3, 6, rfl, by decide, rfl, tw_c1 64 (by decide +kernel) rfl⟩
theorem d_W_init_13 : decode y_W_init.2.1 13 = .ok (.aload_n 0, 1) := op_aload_n0 (gk (k := 0) (t := 13) ck_W_init_0 rfl)
theorem d_W_init_14 : decode y_W_init.2.1 14 = .ok (.bipush 17, 2) := op_bipush (gk (k := 0) (t := 14) ck_W_init_0 rfl) (gk (k := 0) (t := 15) ck_W_init_0 rfl) rfl
theorem d_W_init_16 : decode y_W_init.2.1 16 = .ok (.newarray .int, 2) := by decide +kernel
theorem d_W_init_18 : decode y_W_init.2.1 18 = .ok (.putfield 13, 3) := op_putfield (gk (k := 0) (t := 18) ck_W_init_0 rfl) (gk (k := 0) (t := 19) ck_W_init_0 rfl) (gk (k := 0) (t := 20) ck_W_init_0 rfl) rfl
theorem fp_W_13 : FLp "SinglesUp$Law" 13 3 2 := ⟨"SinglesUp$Law", zT3, 6, rfl, by decide, rfl, tw_c1 66 (by decide +kernel) rfl⟩
theorem d_W_init_21 : decode y_W_init.2.1 21 = .ok (.aload_n 0, 1) := op_aload_n0 (gk (k := 0) (t := 21) ck_W_init_0 rfl)
theorem d_W_init_22 : decode y_W_init.2.1 22 = .ok (.bipush 16, 2) := op_bipush (gk (k := 0) (t := 22) ck_W_init_0 rfl) (gk (k := 0) (t := 23) ck_W_init_0 rfl) rfl
theorem d_W_init_24 : decode y_W_init.2.1 24 = .ok (.newarray .int, 2) := by decide +kernel
theorem d_W_init_26 : decode y_W_init.2.1 26 = .ok (.putfield 16, 3) := op_putfield (gk (k := 0) (t := 26) ck_W_init_0 rfl) (gk (k := 0) (t := 27) ck_W_init_0 rfl) (gk (k := 0) (t := 28) ck_W_init_0 rfl) rfl
theorem fp_W_16 : FLp "SinglesUp$Law" 16 3 3 := ⟨"SinglesUp$Law", zT3, 6, rfl, by decide, rfl, tw_c1 67 (by decide +kernel) rfl⟩
theorem d_W_init_29 : decode y_W_init.2.1 29 = .ok (.aload_n 0, 1) := op_aload_n0 (gk (k := 0) (t := 29) ck_W_init_0 rfl)
theorem d_W_init_30 : decode y_W_init.2.1 30 = .ok (.bipush 64, 2) := op_bipush (gk (k := 0) (t := 30) ck_W_init_0 rfl) (gk (k := 0) (t := 31) ck_W_init_0 rfl) rfl
theorem cb_64 : (Int8.ofInt 64).toInt32 = nI 64 := by decide +kernel
theorem d_W_init_32 : decode y_W_init.2.1 32 = .ok (.newarray .int, 2) := by decide +kernel
theorem kc_20 : KC[20]? = some (0, 64) := by decide +kernel
theorem ck_W_init_1 : (y_W_init.2.1.data.toList.drop 32).take 32 = [188, 10, 181, 0, 19, 177] := by decide +kernel
theorem d_W_init_34 : decode y_W_init.2.1 34 = .ok (.putfield 19, 3) := op_putfield (gk (k := 32) (t := 2) ck_W_init_1 rfl) (gk (k := 32) (t := 3) ck_W_init_1 rfl) (gk (k := 32) (t := 4) ck_W_init_1 rfl) rfl
theorem fp_W_19 : FLp "SinglesUp$Law" 19 3 5 := ⟨"SinglesUp$Law", zT3, 6, rfl, by decide, rfl, tw_c1 70 (by decide +kernel) rfl⟩
theorem d_W_init_37 : decode y_W_init.2.1 37 = .ok (.return_, 1) := op_return_ (gk (k := 32) (t := 5) ck_W_init_1 rfl)
theorem d_H_init_150 : decode y_H_init.2.1 150 = .ok (.aastore, 1) := op_aastore (gk (k := 128) (t := 22) ck_H_init_4 rfl)
theorem d_H_init_151 : decode y_H_init.2.1 151 = .ok (.iinc 1 1, 3) := op_iinc (gk (k := 128) (t := 23) ck_H_init_4 rfl) (gk (k := 128) (t := 24) ck_H_init_4 rfl) (gk (k := 128) (t := 25) ck_H_init_4 rfl) rfl rfl
theorem d_H_init_154 : decode y_H_init.2.1 154 = .ok (.goto (-25), 3) := op_goto (gk (k := 128) (t := 26) ck_H_init_4 rfl) (gk (k := 128) (t := 27) ck_H_init_4 rfl) (gk (k := 128) (t := 28) ck_H_init_4 rfl) (by decide +kernel)
theorem kc_25 : KC[25]? = some (0, 64) := by decide +kernel
theorem kc_30 : KC[30]? = some (0, 64) := by decide +kernel
theorem kc_35 : KC[35]? = some (0, 64) := by decide +kernel
theorem kc_40 : KC[40]? = some (0, 64) := by decide +kernel
theorem d_H_init_157 : decode y_H_init.2.1 157 = .ok (.return_, 1) := op_return_ (gk (k := 128) (t := 29) ck_H_init_4 rfl)
theorem d_S_init_12 : decode y_S_init.2.1 12 = .ok (.putfield 12, 3) := op_putfield (gk (k := 0) (t := 12) ck_S_init_0 rfl) (gk (k := 0) (t := 13) ck_S_init_0 rfl) (gk (k := 0) (t := 14) ck_S_init_0 rfl) rfl
theorem fp_S_12 : FLp "SinglesUp" 12 8 0 := ⟨"SinglesUp", zT8, 9, rfl, by decide, rfl, tw_c2 92 (by decide +kernel) rfl⟩
theorem d_S_init_15 : decode y_S_init.2.1 15 = .ok (.aload_n 0, 1) := op_aload_n0 (gk (k := 0) (t := 15) ck_S_init_0 rfl)
theorem d_S_init_16 : decode y_S_init.2.1 16 = .ok (.new 9, 3) := op_new (gk (k := 0) (t := 16) ck_S_init_0 rfl) (gk (k := 0) (t := 17) ck_S_init_0 rfl) (gk (k := 0) (t := 18) ck_S_init_0 rfl) rfl
theorem d_S_init_19 : decode y_S_init.2.1 19 = .ok (.dup, 1) := op_dup (gk (k := 0) (t := 19) ck_S_init_0 rfl)
theorem d_S_init_20 : decode y_S_init.2.1 20 = .ok (.invokespecial 11, 3) := op_invokespecial (gk (k := 0) (t := 20) ck_S_init_0 rfl) (gk (k := 0) (t := 21) ck_S_init_0 rfl) (gk (k := 0) (t := 22) ck_S_init_0 rfl) rfl
theorem kc_54 : KC[54]? = some (0, 16) := by decide +kernel
theorem kc_55 : KC[55]? = some (0, 6) := by decide +kernel
theorem kc_60 : KC[60]? = some (0, 64) := by decide +kernel
theorem kc_65 : KC[65]? = some (0, 64) := by decide +kernel
theorem kc_70 : KC[70]? = some (0, 64) := by decide +kernel
theorem kc_75 : KC[75]? = some (0, 64) := by decide +kernel
theorem kc_80 : KC[80]? = some (0, 64) := by decide +kernel
theorem d_S_init_23 : decode y_S_init.2.1 23 = .ok (.putfield 16, 3) := op_putfield (gk (k := 0) (t := 23) ck_S_init_0 rfl) (gk (k := 0) (t := 24) ck_S_init_0 rfl) (gk (k := 0) (t := 25) ck_S_init_0 rfl) rfl
theorem fp_S_16 : FLp "SinglesUp" 16 8 1 := ⟨"SinglesUp", zT8, 9, rfl, by decide, rfl, tw_c2 93 (by decide +kernel) rfl⟩
theorem d_S_init_26 : decode y_S_init.2.1 26 = .ok (.aload_n 0, 1) := op_aload_n0 (gk (k := 0) (t := 26) ck_S_init_0 rfl)
theorem d_S_init_27 : decode y_S_init.2.1 27 = .ok (.new 19, 3) := op_new (gk (k := 0) (t := 27) ck_S_init_0 rfl) (gk (k := 0) (t := 28) ck_S_init_0 rfl) (gk (k := 0) (t := 29) ck_S_init_0 rfl) rfl
theorem cl_S_19 : Cond.classLink "SinglesUp" 19 "SinglesUp$Mind" ∈ TW := tw_c1 148 (by decide +kernel) rfl
theorem cz_5 : Cond.instantiable "SinglesUp$Mind" 3 ∈ TW ∧ Cond.initialized "SinglesUp$Mind" ∈ TW := ⟨tw_c1 149 (by decide +kernel) rfl, tw_c1 6 (by decide +kernel) rfl⟩
theorem d_S_init_30 : decode y_S_init.2.1 30 = .ok (.dup, 1) := op_dup (gk (k := 0) (t := 30) ck_S_init_0 rfl)
theorem ck_S_init_1 : (y_S_init.2.1.data.toList.drop 32).take 32 = [0, 21, 181, 0, 22, 42, 187, 0, 26, 89, 183, 0, 28, 181, 0, 29, 42, 187, 0, 26, 89, 183, 0, 28, 181, 0, 33, 42, 187, 0, 36, 89] := by decide +kernel
theorem d_S_init_31 : decode y_S_init.2.1 31 = .ok (.invokespecial 21, 3) := op_invokespecial (gk (k := 0) (t := 31) ck_S_init_0 rfl) (gk (k := 32) (t := 0) ck_S_init_1 rfl) (gk (k := 32) (t := 1) ck_S_init_1 rfl) rfl
abbrev y_M_init : MI := (⟨"SinglesUp$Mind", "<init>", "()V"⟩, prog_7_method_1_code, 1, none)
theorem lk_S_21 : LkI "SinglesUp" 21 y_M_init := ⟨rfl, rfl, tw_c1 151 (by decide +kernel) rfl, Or.inr ⟨"SinglesUp", nw_in 150 (by decide +kernel) rfl⟩⟩
set_option maxRecDepth 100000 in
theorem mo_M_init : MOk y_M_init 0 := ⟨by decide +kernel, tw_c1 152 rfl rfl, tw_c1 6 (by decide +kernel) rfl, by decide +kernel, by decide +kernel, by decide +kernel⟩
theorem ck_M_init_0 : (y_M_init.2.1.data.toList.drop 0).take 32 = [42, 183, 0, 3, 42, 187, 0, 9, 89, 183, 0, 11, 181, 0, 12, 42, 187, 0, 18, 89, 183, 0, 20, 181, 0, 21, 42, 6, 188, 10, 181, 0] := by decide +kernel
theorem d_M_init_0 : decode y_M_init.2.1 0 = .ok (.aload_n 0, 1) := op_aload_n0 (gk (k := 0) (t := 0) ck_M_init_0 rfl)
theorem d_M_init_1 : decode y_M_init.2.1 1 = .ok (.invokespecial 3, 3) := op_invokespecial (gk (k := 0) (t := 1) ck_M_init_0 rfl) (gk (k := 0) (t := 2) ck_M_init_0 rfl) (gk (k := 0) (t := 3) ck_M_init_0 rfl) rfl
theorem oi_M_3 : Cond.methodLink "SinglesUp$Mind" 3 Lib.objectInit ∈ TW := tw_c1 153 (by decide +kernel) rfl
theorem d_M_init_4 : decode y_M_init.2.1 4 = .ok (.aload_n 0, 1) := op_aload_n0 (gk (k := 0) (t := 4) ck_M_init_0 rfl)
theorem d_M_init_5 : decode y_M_init.2.1 5 = .ok (.new 9, 3) := op_new (gk (k := 0) (t := 5) ck_M_init_0 rfl) (gk (k := 0) (t := 6) ck_M_init_0 rfl) (gk (k := 0) (t := 7) ck_M_init_0 rfl) rfl
theorem cl_M_9 : Cond.classLink "SinglesUp$Mind" 9 "SinglesUp$Hill" ∈ TW := tw_c1 154 (by decide +kernel) rfl
theorem d_M_init_8 : decode y_M_init.2.1 8 = .ok (.dup, 1) := op_dup (gk (k := 0) (t := 8) ck_M_init_0 rfl)
theorem d_M_init_9 : decode y_M_init.2.1 9 = .ok (.invokespecial 11, 3) := op_invokespecial (gk (k := 0) (t := 9) ck_M_init_0 rfl) (gk (k := 0) (t := 10) ck_M_init_0 rfl) (gk (k := 0) (t := 11) ck_M_init_0 rfl) rfl
theorem lk_M_11 : LkI "SinglesUp$Mind" 11 y_H_init := ⟨rfl, rfl, tw_c1 30 (by decide +kernel) rfl, Or.inl (tw_c1 155 (by decide +kernel) rfl)⟩
theorem kc_95 : KC[95]? = some (0, 16) := by decide +kernel
theorem kc_96 : KC[96]? = some (0, 6) := by decide +kernel
theorem kc_101 : KC[101]? = some (0, 64) := by decide +kernel
theorem kc_106 : KC[106]? = some (0, 64) := by decide +kernel
theorem kc_111 : KC[111]? = some (0, 64) := by decide +kernel
theorem kc_116 : KC[116]? = some (0, 64) := by decide +kernel
theorem kc_121 : KC[121]? = some (0, 64) := by decide +kernel
theorem d_M_init_12 : decode y_M_init.2.1 12 = .ok (.putfield 12, 3) := op_putfield (gk (k := 0) (t := 12) ck_M_init_0 rfl) (gk (k := 0) (t := 13) ck_M_init_0 rfl) (gk (k := 0) (t := 14) ck_M_init_0 rfl) rfl
theorem fp_M_12 : FLp "SinglesUp$Mind" 12 5 0 := ⟨"SinglesUp$Mind", zT5, 3, rfl, by decide, rfl, tw_c1 200 (by decide +kernel) rfl⟩
theorem d_M_init_15 : decode y_M_init.2.1 15 = .ok (.aload_n 0, 1) := op_aload_n0 (gk (k := 0) (t := 15) ck_M_init_0 rfl)
theorem d_M_init_16 : decode y_M_init.2.1 16 = .ok (.new 18, 3) := op_new (gk (k := 0) (t := 16) ck_M_init_0 rfl) (gk (k := 0) (t := 17) ck_M_init_0 rfl) (gk (k := 0) (t := 18) ck_M_init_0 rfl) rfl
theorem cl_M_18 : Cond.classLink "SinglesUp$Mind" 18 "SinglesUp$Chair" ∈ TW := tw_c1 156 (by decide +kernel) rfl
theorem cz_0 : Cond.instantiable "SinglesUp$Chair" 12 ∈ TW ∧ Cond.initialized "SinglesUp$Chair" ∈ TW := ⟨tw_c1 157 (by decide +kernel) rfl, tw_c1 7 (by decide +kernel) rfl⟩
theorem d_M_init_19 : decode y_M_init.2.1 19 = .ok (.dup, 1) := op_dup (gk (k := 0) (t := 19) ck_M_init_0 rfl)
theorem d_M_init_20 : decode y_M_init.2.1 20 = .ok (.invokespecial 20, 3) := op_invokespecial (gk (k := 0) (t := 20) ck_M_init_0 rfl) (gk (k := 0) (t := 21) ck_M_init_0 rfl) (gk (k := 0) (t := 22) ck_M_init_0 rfl) rfl
abbrev y_C_init : MI := (⟨"SinglesUp$Chair", "<init>", "()V"⟩, prog_2_method_1_code, 1, none)
theorem lk_M_20 : LkI "SinglesUp$Mind" 20 y_C_init := ⟨rfl, rfl, tw_c1 159 (by decide +kernel) rfl, Or.inl (tw_c1 158 (by decide +kernel) rfl)⟩
set_option maxRecDepth 100000 in
theorem mo_C_init : MOk y_C_init 0 := ⟨by decide +kernel, tw_c1 160 rfl rfl, tw_c1 7 (by decide +kernel) rfl, by decide +kernel, by decide +kernel, by decide +kernel⟩
theorem ck_C_init_0 : (y_C_init.2.1.data.toList.drop 0).take 32 = [42, 183, 0, 3, 42, 17, 0, 240, 188, 10, 181, 0, 9, 42, 16, 8, 188, 10, 181, 0, 15, 42, 16, 8, 188, 10, 181, 0, 18, 42, 17, 3] := by decide +kernel
theorem d_C_init_0 : decode y_C_init.2.1 0 = .ok (.aload_n 0, 1) := op_aload_n0 (gk (k := 0) (t := 0) ck_C_init_0 rfl)
theorem d_C_init_1 : decode y_C_init.2.1 1 = .ok (.invokespecial 3, 3) := op_invokespecial (gk (k := 0) (t := 1) ck_C_init_0 rfl) (gk (k := 0) (t := 2) ck_C_init_0 rfl) (gk (k := 0) (t := 3) ck_C_init_0 rfl) rfl
theorem oi_C_3 : Cond.methodLink "SinglesUp$Chair" 3 Lib.objectInit ∈ TW := tw_c1 161 (by decide +kernel) rfl
theorem d_C_init_4 : decode y_C_init.2.1 4 = .ok (.aload_n 0, 1) := op_aload_n0 (gk (k := 0) (t := 4) ck_C_init_0 rfl)
theorem d_C_init_5 : decode y_C_init.2.1 5 = .ok (.sipush 240, 3) := op_sipush (gk (k := 0) (t := 5) ck_C_init_0 rfl) (gk (k := 0) (t := 6) ck_C_init_0 rfl) (gk (k := 0) (t := 7) ck_C_init_0 rfl) (by decide +kernel)
theorem d_C_init_8 : decode y_C_init.2.1 8 = .ok (.newarray .int, 2) := by decide +kernel
theorem d_C_init_10 : decode y_C_init.2.1 10 = .ok (.putfield 9, 3) := op_putfield (gk (k := 0) (t := 10) ck_C_init_0 rfl) (gk (k := 0) (t := 11) ck_C_init_0 rfl) (gk (k := 0) (t := 12) ck_C_init_0 rfl) rfl
theorem fp_C_9 : FLp "SinglesUp$Chair" 9 0 0 := ⟨"SinglesUp$Chair", zT0, 12, rfl, by decide, rfl, tw_c1 162 (by decide +kernel) rfl⟩
theorem d_C_init_13 : decode y_C_init.2.1 13 = .ok (.aload_n 0, 1) := op_aload_n0 (gk (k := 0) (t := 13) ck_C_init_0 rfl)
theorem d_C_init_14 : decode y_C_init.2.1 14 = .ok (.bipush 8, 2) := op_bipush (gk (k := 0) (t := 14) ck_C_init_0 rfl) (gk (k := 0) (t := 15) ck_C_init_0 rfl) rfl
theorem d_C_init_16 : decode y_C_init.2.1 16 = .ok (.newarray .int, 2) := by decide +kernel
theorem kc_124 : KC[124]? = some (0, 8) := by decide +kernel
theorem d_C_init_18 : decode y_C_init.2.1 18 = .ok (.putfield 15, 3) := op_putfield (gk (k := 0) (t := 18) ck_C_init_0 rfl) (gk (k := 0) (t := 19) ck_C_init_0 rfl) (gk (k := 0) (t := 20) ck_C_init_0 rfl) rfl
theorem fp_C_15 : FLp "SinglesUp$Chair" 15 0 1 := ⟨"SinglesUp$Chair", zT0, 12, rfl, by decide, rfl, tw_c1 163 (by decide +kernel) rfl⟩
theorem d_C_init_21 : decode y_C_init.2.1 21 = .ok (.aload_n 0, 1) := op_aload_n0 (gk (k := 0) (t := 21) ck_C_init_0 rfl)
theorem d_C_init_22 : decode y_C_init.2.1 22 = .ok (.bipush 8, 2) := op_bipush (gk (k := 0) (t := 22) ck_C_init_0 rfl) (gk (k := 0) (t := 23) ck_C_init_0 rfl) rfl
theorem d_C_init_24 : decode y_C_init.2.1 24 = .ok (.newarray .int, 2) := by decide +kernel
theorem kc_125 : KC[125]? = some (0, 8) := by decide +kernel
theorem d_C_init_26 : decode y_C_init.2.1 26 = .ok (.putfield 18, 3) := op_putfield (gk (k := 0) (t := 26) ck_C_init_0 rfl) (gk (k := 0) (t := 27) ck_C_init_0 rfl) (gk (k := 0) (t := 28) ck_C_init_0 rfl) rfl
theorem fp_C_18 : FLp "SinglesUp$Chair" 18 0 2 := ⟨"SinglesUp$Chair", zT0, 12, rfl, by decide, rfl, tw_c1 164 (by decide +kernel) rfl⟩
theorem d_C_init_29 : decode y_C_init.2.1 29 = .ok (.aload_n 0, 1) := op_aload_n0 (gk (k := 0) (t := 29) ck_C_init_0 rfl)
theorem ck_C_init_1 : (y_C_init.2.1.data.toList.drop 32).take 32 = [96, 188, 10, 181, 0, 21, 42, 17, 0, 144, 188, 10, 181, 0, 24, 42, 17, 0, 144, 188, 10, 181, 0, 27, 42, 7, 181, 0, 30, 177] := by decide +kernel
theorem d_C_init_30 : decode y_C_init.2.1 30 = .ok (.sipush 864, 3) := op_sipush (gk (k := 0) (t := 30) ck_C_init_0 rfl) (gk (k := 0) (t := 31) ck_C_init_0 rfl) (gk (k := 32) (t := 0) ck_C_init_1 rfl) (by decide +kernel)
theorem cs_864 : (Int16.ofInt 864).toInt32 = nI 864 := by decide +kernel
theorem d_C_init_33 : decode y_C_init.2.1 33 = .ok (.newarray .int, 2) := by decide +kernel
theorem kc_126 : KC[126]? = some (0, 864) := by decide +kernel
theorem d_C_init_35 : decode y_C_init.2.1 35 = .ok (.putfield 21, 3) := op_putfield (gk (k := 32) (t := 3) ck_C_init_1 rfl) (gk (k := 32) (t := 4) ck_C_init_1 rfl) (gk (k := 32) (t := 5) ck_C_init_1 rfl) rfl
theorem fp_C_21 : FLp "SinglesUp$Chair" 21 0 3 := ⟨"SinglesUp$Chair", zT0, 12, rfl, by decide, rfl, tw_c1 165 (by decide +kernel) rfl⟩
theorem d_C_init_38 : decode y_C_init.2.1 38 = .ok (.aload_n 0, 1) := op_aload_n0 (gk (k := 32) (t := 6) ck_C_init_1 rfl)
theorem d_C_init_39 : decode y_C_init.2.1 39 = .ok (.sipush 144, 3) := op_sipush (gk (k := 32) (t := 7) ck_C_init_1 rfl) (gk (k := 32) (t := 8) ck_C_init_1 rfl) (gk (k := 32) (t := 9) ck_C_init_1 rfl) (by decide +kernel)
theorem d_C_init_42 : decode y_C_init.2.1 42 = .ok (.newarray .int, 2) := by decide +kernel
theorem kc_127 : KC[127]? = some (0, 144) := by decide +kernel
theorem d_C_init_44 : decode y_C_init.2.1 44 = .ok (.putfield 24, 3) := op_putfield (gk (k := 32) (t := 12) ck_C_init_1 rfl) (gk (k := 32) (t := 13) ck_C_init_1 rfl) (gk (k := 32) (t := 14) ck_C_init_1 rfl) rfl
theorem fp_C_24 : FLp "SinglesUp$Chair" 24 0 4 := ⟨"SinglesUp$Chair", zT0, 12, rfl, by decide, rfl, tw_c1 166 (by decide +kernel) rfl⟩
theorem d_C_init_47 : decode y_C_init.2.1 47 = .ok (.aload_n 0, 1) := op_aload_n0 (gk (k := 32) (t := 15) ck_C_init_1 rfl)
theorem d_C_init_48 : decode y_C_init.2.1 48 = .ok (.sipush 144, 3) := op_sipush (gk (k := 32) (t := 16) ck_C_init_1 rfl) (gk (k := 32) (t := 17) ck_C_init_1 rfl) (gk (k := 32) (t := 18) ck_C_init_1 rfl) (by decide +kernel)
theorem d_C_init_51 : decode y_C_init.2.1 51 = .ok (.newarray .int, 2) := by decide +kernel
theorem kc_128 : KC[128]? = some (0, 144) := by decide +kernel
theorem d_C_init_53 : decode y_C_init.2.1 53 = .ok (.putfield 27, 3) := op_putfield (gk (k := 32) (t := 21) ck_C_init_1 rfl) (gk (k := 32) (t := 22) ck_C_init_1 rfl) (gk (k := 32) (t := 23) ck_C_init_1 rfl) rfl
theorem fp_C_27 : FLp "SinglesUp$Chair" 27 0 6 := ⟨"SinglesUp$Chair", zT0, 12, rfl, by decide, rfl, tw_c1 168 (by decide +kernel) rfl⟩
theorem d_C_init_56 : decode y_C_init.2.1 56 = .ok (.aload_n 0, 1) := op_aload_n0 (gk (k := 32) (t := 24) ck_C_init_1 rfl)
theorem d_C_init_57 : decode y_C_init.2.1 57 = .ok (.iconst 4, 1) := op_iconst4 (gk (k := 32) (t := 25) ck_C_init_1 rfl)
theorem d_C_init_58 : decode y_C_init.2.1 58 = .ok (.putfield 30, 3) := op_putfield (gk (k := 32) (t := 26) ck_C_init_1 rfl) (gk (k := 32) (t := 27) ck_C_init_1 rfl) (gk (k := 32) (t := 28) ck_C_init_1 rfl) rfl
theorem d_C_init_61 : decode y_C_init.2.1 61 = .ok (.return_, 1) := op_return_ (gk (k := 32) (t := 29) ck_C_init_1 rfl)
theorem d_M_init_23 : decode y_M_init.2.1 23 = .ok (.putfield 21, 3) := op_putfield (gk (k := 0) (t := 23) ck_M_init_0 rfl) (gk (k := 0) (t := 24) ck_M_init_0 rfl) (gk (k := 0) (t := 25) ck_M_init_0 rfl) rfl
theorem fp_M_21 : FLp "SinglesUp$Mind" 21 5 1 := ⟨"SinglesUp$Mind", zT5, 3, rfl, by decide, rfl, tw_c1 201 (by decide +kernel) rfl⟩
theorem d_M_init_26 : decode y_M_init.2.1 26 = .ok (.aload_n 0, 1) := op_aload_n0 (gk (k := 0) (t := 26) ck_M_init_0 rfl)
theorem d_M_init_27 : decode y_M_init.2.1 27 = .ok (.iconst 3, 1) := op_iconst3 (gk (k := 0) (t := 27) ck_M_init_0 rfl)
theorem d_M_init_28 : decode y_M_init.2.1 28 = .ok (.newarray .int, 2) := by decide +kernel
theorem ck_M_init_1 : (y_M_init.2.1.data.toList.drop 32).take 32 = [25, 177] := by decide +kernel
theorem d_M_init_30 : decode y_M_init.2.1 30 = .ok (.putfield 25, 3) := op_putfield (gk (k := 0) (t := 30) ck_M_init_0 rfl) (gk (k := 0) (t := 31) ck_M_init_0 rfl) (gk (k := 32) (t := 0) ck_M_init_1 rfl) rfl
theorem fp_M_25 : FLp "SinglesUp$Mind" 25 5 2 := ⟨"SinglesUp$Mind", zT5, 3, rfl, by decide, rfl, tw_c1 202 (by decide +kernel) rfl⟩
theorem d_M_init_33 : decode y_M_init.2.1 33 = .ok (.return_, 1) := op_return_ (gk (k := 32) (t := 1) ck_M_init_1 rfl)
theorem d_S_init_34 : decode y_S_init.2.1 34 = .ok (.putfield 22, 3) := op_putfield (gk (k := 32) (t := 2) ck_S_init_1 rfl) (gk (k := 32) (t := 3) ck_S_init_1 rfl) (gk (k := 32) (t := 4) ck_S_init_1 rfl) rfl
theorem fp_S_22 : FLp "SinglesUp" 22 8 2 := ⟨"SinglesUp", zT8, 9, rfl, by decide, rfl, tw_c2 94 (by decide +kernel) rfl⟩
theorem d_S_init_37 : decode y_S_init.2.1 37 = .ok (.aload_n 0, 1) := op_aload_n0 (gk (k := 32) (t := 5) ck_S_init_1 rfl)
theorem d_S_init_38 : decode y_S_init.2.1 38 = .ok (.new 26, 3) := op_new (gk (k := 32) (t := 6) ck_S_init_1 rfl) (gk (k := 32) (t := 7) ck_S_init_1 rfl) (gk (k := 32) (t := 8) ck_S_init_1 rfl) rfl
theorem cl_S_26 : Cond.classLink "SinglesUp" 26 "SinglesUp$Chair" ∈ TW := tw_c1 210 (by decide +kernel) rfl
theorem d_S_init_41 : decode y_S_init.2.1 41 = .ok (.dup, 1) := op_dup (gk (k := 32) (t := 9) ck_S_init_1 rfl)
theorem d_S_init_42 : decode y_S_init.2.1 42 = .ok (.invokespecial 28, 3) := op_invokespecial (gk (k := 32) (t := 10) ck_S_init_1 rfl) (gk (k := 32) (t := 11) ck_S_init_1 rfl) (gk (k := 32) (t := 12) ck_S_init_1 rfl) rfl
theorem lk_S_28 : LkI "SinglesUp" 28 y_C_init := ⟨rfl, rfl, tw_c1 159 (by decide +kernel) rfl, Or.inl (tw_c1 211 (by decide +kernel) rfl)⟩
theorem kc_132 : KC[132]? = some (0, 8) := by decide +kernel
theorem kc_133 : KC[133]? = some (0, 8) := by decide +kernel
theorem kc_134 : KC[134]? = some (0, 864) := by decide +kernel
theorem kc_135 : KC[135]? = some (0, 144) := by decide +kernel
theorem kc_136 : KC[136]? = some (0, 144) := by decide +kernel
theorem d_S_init_45 : decode y_S_init.2.1 45 = .ok (.putfield 29, 3) := op_putfield (gk (k := 32) (t := 13) ck_S_init_1 rfl) (gk (k := 32) (t := 14) ck_S_init_1 rfl) (gk (k := 32) (t := 15) ck_S_init_1 rfl) rfl
theorem fp_S_29 : FLp "SinglesUp" 29 8 3 := ⟨"SinglesUp", zT8, 9, rfl, by decide, rfl, tw_c2 95 (by decide +kernel) rfl⟩
theorem d_S_init_48 : decode y_S_init.2.1 48 = .ok (.aload_n 0, 1) := op_aload_n0 (gk (k := 32) (t := 16) ck_S_init_1 rfl)
theorem d_S_init_49 : decode y_S_init.2.1 49 = .ok (.new 26, 3) := op_new (gk (k := 32) (t := 17) ck_S_init_1 rfl) (gk (k := 32) (t := 18) ck_S_init_1 rfl) (gk (k := 32) (t := 19) ck_S_init_1 rfl) rfl
theorem d_S_init_52 : decode y_S_init.2.1 52 = .ok (.dup, 1) := op_dup (gk (k := 32) (t := 20) ck_S_init_1 rfl)
theorem d_S_init_53 : decode y_S_init.2.1 53 = .ok (.invokespecial 28, 3) := op_invokespecial (gk (k := 32) (t := 21) ck_S_init_1 rfl) (gk (k := 32) (t := 22) ck_S_init_1 rfl) (gk (k := 32) (t := 23) ck_S_init_1 rfl) rfl
theorem kc_139 : KC[139]? = some (0, 8) := by decide +kernel
theorem kc_140 : KC[140]? = some (0, 8) := by decide +kernel
theorem kc_141 : KC[141]? = some (0, 864) := by decide +kernel
theorem kc_142 : KC[142]? = some (0, 144) := by decide +kernel
theorem kc_143 : KC[143]? = some (0, 144) := by decide +kernel
theorem d_S_init_56 : decode y_S_init.2.1 56 = .ok (.putfield 33, 3) := op_putfield (gk (k := 32) (t := 24) ck_S_init_1 rfl) (gk (k := 32) (t := 25) ck_S_init_1 rfl) (gk (k := 32) (t := 26) ck_S_init_1 rfl) rfl
theorem fp_S_33 : FLp "SinglesUp" 33 8 4 := ⟨"SinglesUp", zT8, 9, rfl, by decide, rfl, tw_c2 96 (by decide +kernel) rfl⟩
theorem d_S_init_59 : decode y_S_init.2.1 59 = .ok (.aload_n 0, 1) := op_aload_n0 (gk (k := 32) (t := 27) ck_S_init_1 rfl)
theorem d_S_init_60 : decode y_S_init.2.1 60 = .ok (.new 36, 3) := op_new (gk (k := 32) (t := 28) ck_S_init_1 rfl) (gk (k := 32) (t := 29) ck_S_init_1 rfl) (gk (k := 32) (t := 30) ck_S_init_1 rfl) rfl
theorem cl_S_36 : Cond.classLink "SinglesUp" 36 "SinglesUp$Reader" ∈ TW := tw_c1 212 (by decide +kernel) rfl
theorem cz_7 : Cond.instantiable "SinglesUp$Reader" 13 ∈ TW ∧ Cond.initialized "SinglesUp$Reader" ∈ TW := ⟨tw_c1 213 (by decide +kernel) rfl, tw_c1 8 (by decide +kernel) rfl⟩
theorem d_S_init_63 : decode y_S_init.2.1 63 = .ok (.dup, 1) := op_dup (gk (k := 32) (t := 31) ck_S_init_1 rfl)
theorem ck_S_init_2 : (y_S_init.2.1.data.toList.drop 64).take 32 = [183, 0, 38, 181, 0, 39, 42, 187, 0, 43, 89, 183, 0, 45, 181, 0, 46, 42, 187, 0, 50, 89, 183, 0, 52, 181, 0, 53, 177] := by decide +kernel
theorem d_S_init_64 : decode y_S_init.2.1 64 = .ok (.invokespecial 38, 3) := op_invokespecial (gk (k := 64) (t := 0) ck_S_init_2 rfl) (gk (k := 64) (t := 1) ck_S_init_2 rfl) (gk (k := 64) (t := 2) ck_S_init_2 rfl) rfl
abbrev y_R_init : MI := (⟨"SinglesUp$Reader", "<init>", "()V"⟩, prog_9_method_1_code, 1, none)
theorem lk_S_38 : LkI "SinglesUp" 38 y_R_init := ⟨rfl, rfl, tw_c1 215 (by decide +kernel) rfl, Or.inr ⟨"SinglesUp", nw_in 214 (by decide +kernel) rfl⟩⟩
set_option maxRecDepth 100000 in
theorem mo_R_init : MOk y_R_init 0 := ⟨by decide +kernel, tw_c1 216 rfl rfl, tw_c1 8 (by decide +kernel) rfl, by decide +kernel, by decide +kernel, by decide +kernel⟩
theorem ck_R_init_0 : (y_R_init.2.1.data.toList.drop 0).take 32 = [42, 183, 0, 3, 42, 17, 1, 144, 188, 10, 181, 0, 11, 42, 17, 1, 145, 188, 10, 181, 0, 15, 42, 17, 1, 145, 188, 10, 181, 0, 18, 42] := by decide +kernel
theorem d_R_init_0 : decode y_R_init.2.1 0 = .ok (.aload_n 0, 1) := op_aload_n0 (gk (k := 0) (t := 0) ck_R_init_0 rfl)
theorem d_R_init_1 : decode y_R_init.2.1 1 = .ok (.invokespecial 3, 3) := op_invokespecial (gk (k := 0) (t := 1) ck_R_init_0 rfl) (gk (k := 0) (t := 2) ck_R_init_0 rfl) (gk (k := 0) (t := 3) ck_R_init_0 rfl) rfl
theorem oi_R_3 : Cond.methodLink "SinglesUp$Reader" 3 Lib.objectInit ∈ TW := tw_c1 217 (by decide +kernel) rfl
theorem d_R_init_4 : decode y_R_init.2.1 4 = .ok (.aload_n 0, 1) := op_aload_n0 (gk (k := 0) (t := 4) ck_R_init_0 rfl)
theorem d_R_init_5 : decode y_R_init.2.1 5 = .ok (.sipush 400, 3) := op_sipush (gk (k := 0) (t := 5) ck_R_init_0 rfl) (gk (k := 0) (t := 6) ck_R_init_0 rfl) (gk (k := 0) (t := 7) ck_R_init_0 rfl) (by decide +kernel)
theorem d_R_init_8 : decode y_R_init.2.1 8 = .ok (.newarray .int, 2) := by decide +kernel
theorem d_R_init_10 : decode y_R_init.2.1 10 = .ok (.putfield 11, 3) := op_putfield (gk (k := 0) (t := 10) ck_R_init_0 rfl) (gk (k := 0) (t := 11) ck_R_init_0 rfl) (gk (k := 0) (t := 12) ck_R_init_0 rfl) rfl
theorem fp_R_11 : FLp "SinglesUp$Reader" 11 7 0 := ⟨"SinglesUp$Reader", zT7, 13, rfl, by decide, rfl, tw_c1 220 (by decide +kernel) rfl⟩
theorem d_R_init_13 : decode y_R_init.2.1 13 = .ok (.aload_n 0, 1) := op_aload_n0 (gk (k := 0) (t := 13) ck_R_init_0 rfl)
theorem d_R_init_14 : decode y_R_init.2.1 14 = .ok (.sipush 401, 3) := op_sipush (gk (k := 0) (t := 14) ck_R_init_0 rfl) (gk (k := 0) (t := 15) ck_R_init_0 rfl) (gk (k := 0) (t := 16) ck_R_init_0 rfl) (by decide +kernel)
theorem cs_401 : (Int16.ofInt 401).toInt32 = nI 401 := by decide +kernel
theorem d_R_init_17 : decode y_R_init.2.1 17 = .ok (.newarray .int, 2) := by decide +kernel
theorem d_R_init_19 : decode y_R_init.2.1 19 = .ok (.putfield 15, 3) := op_putfield (gk (k := 0) (t := 19) ck_R_init_0 rfl) (gk (k := 0) (t := 20) ck_R_init_0 rfl) (gk (k := 0) (t := 21) ck_R_init_0 rfl) rfl
theorem fp_R_15 : FLp "SinglesUp$Reader" 15 7 2 := ⟨"SinglesUp$Reader", zT7, 13, rfl, by decide, rfl, tw_c1 223 (by decide +kernel) rfl⟩
theorem d_R_init_22 : decode y_R_init.2.1 22 = .ok (.aload_n 0, 1) := op_aload_n0 (gk (k := 0) (t := 22) ck_R_init_0 rfl)
theorem d_R_init_23 : decode y_R_init.2.1 23 = .ok (.sipush 401, 3) := op_sipush (gk (k := 0) (t := 23) ck_R_init_0 rfl) (gk (k := 0) (t := 24) ck_R_init_0 rfl) (gk (k := 0) (t := 25) ck_R_init_0 rfl) (by decide +kernel)
theorem d_R_init_26 : decode y_R_init.2.1 26 = .ok (.newarray .int, 2) := by decide +kernel
theorem d_R_init_28 : decode y_R_init.2.1 28 = .ok (.putfield 18, 3) := op_putfield (gk (k := 0) (t := 28) ck_R_init_0 rfl) (gk (k := 0) (t := 29) ck_R_init_0 rfl) (gk (k := 0) (t := 30) ck_R_init_0 rfl) rfl
theorem fp_R_18 : FLp "SinglesUp$Reader" 18 7 3 := ⟨"SinglesUp$Reader", zT7, 13, rfl, by decide, rfl, tw_c1 224 (by decide +kernel) rfl⟩
theorem d_R_init_31 : decode y_R_init.2.1 31 = .ok (.aload_n 0, 1) := op_aload_n0 (gk (k := 0) (t := 31) ck_R_init_0 rfl)
theorem ck_R_init_1 : (y_R_init.2.1.data.toList.drop 32).take 32 = [17, 1, 145, 188, 10, 181, 0, 21, 42, 2, 181, 0, 24, 42, 187, 0, 28, 89, 183, 0, 30, 181, 0, 31, 177] := by decide +kernel
theorem d_R_init_32 : decode y_R_init.2.1 32 = .ok (.sipush 401, 3) := op_sipush (gk (k := 32) (t := 0) ck_R_init_1 rfl) (gk (k := 32) (t := 1) ck_R_init_1 rfl) (gk (k := 32) (t := 2) ck_R_init_1 rfl) (by decide +kernel)
theorem d_R_init_35 : decode y_R_init.2.1 35 = .ok (.newarray .int, 2) := by decide +kernel
theorem d_R_init_37 : decode y_R_init.2.1 37 = .ok (.putfield 21, 3) := op_putfield (gk (k := 32) (t := 5) ck_R_init_1 rfl) (gk (k := 32) (t := 6) ck_R_init_1 rfl) (gk (k := 32) (t := 7) ck_R_init_1 rfl) rfl
theorem fp_R_21 : FLp "SinglesUp$Reader" 21 7 4 := ⟨"SinglesUp$Reader", zT7, 13, rfl, by decide, rfl, tw_c1 225 (by decide +kernel) rfl⟩
theorem d_R_init_40 : decode y_R_init.2.1 40 = .ok (.aload_n 0, 1) := op_aload_n0 (gk (k := 32) (t := 8) ck_R_init_1 rfl)
theorem d_R_init_41 : decode y_R_init.2.1 41 = .ok (.iconst (-1), 1) := op_iconstm1 (gk (k := 32) (t := 9) ck_R_init_1 rfl)
theorem d_R_init_42 : decode y_R_init.2.1 42 = .ok (.putfield 24, 3) := op_putfield (gk (k := 32) (t := 10) ck_R_init_1 rfl) (gk (k := 32) (t := 11) ck_R_init_1 rfl) (gk (k := 32) (t := 12) ck_R_init_1 rfl) rfl
theorem d_R_init_45 : decode y_R_init.2.1 45 = .ok (.aload_n 0, 1) := op_aload_n0 (gk (k := 32) (t := 13) ck_R_init_1 rfl)
theorem d_R_init_46 : decode y_R_init.2.1 46 = .ok (.new 28, 3) := op_new (gk (k := 32) (t := 14) ck_R_init_1 rfl) (gk (k := 32) (t := 15) ck_R_init_1 rfl) (gk (k := 32) (t := 16) ck_R_init_1 rfl) rfl
theorem cl_R_28 : Cond.classLink "SinglesUp$Reader" 28 "SinglesUp$Law" ∈ TW := tw_c1 218 (by decide +kernel) rfl
theorem d_R_init_49 : decode y_R_init.2.1 49 = .ok (.dup, 1) := op_dup (gk (k := 32) (t := 17) ck_R_init_1 rfl)
theorem d_R_init_50 : decode y_R_init.2.1 50 = .ok (.invokespecial 30, 3) := op_invokespecial (gk (k := 32) (t := 18) ck_R_init_1 rfl) (gk (k := 32) (t := 19) ck_R_init_1 rfl) (gk (k := 32) (t := 20) ck_R_init_1 rfl) rfl
theorem lk_R_30 : LkI "SinglesUp$Reader" 30 y_W_init := ⟨rfl, rfl, tw_c1 61 (by decide +kernel) rfl, Or.inr ⟨"SinglesUp", nw_in 219 (by decide +kernel) rfl⟩⟩
theorem kc_153 : KC[153]? = some (0, 64) := by decide +kernel
theorem d_R_init_53 : decode y_R_init.2.1 53 = .ok (.putfield 31, 3) := op_putfield (gk (k := 32) (t := 21) ck_R_init_1 rfl) (gk (k := 32) (t := 22) ck_R_init_1 rfl) (gk (k := 32) (t := 23) ck_R_init_1 rfl) rfl
theorem fp_R_31 : FLp "SinglesUp$Reader" 31 7 12 := ⟨"SinglesUp$Reader", zT7, 13, rfl, by decide, rfl, tw_c1 235 (by decide +kernel) rfl⟩
theorem d_R_init_56 : decode y_R_init.2.1 56 = .ok (.return_, 1) := op_return_ (gk (k := 32) (t := 24) ck_R_init_1 rfl)
theorem d_S_init_67 : decode y_S_init.2.1 67 = .ok (.putfield 39, 3) := op_putfield (gk (k := 64) (t := 3) ck_S_init_2 rfl) (gk (k := 64) (t := 4) ck_S_init_2 rfl) (gk (k := 64) (t := 5) ck_S_init_2 rfl) rfl
theorem fp_S_39 : FLp "SinglesUp" 39 8 5 := ⟨"SinglesUp", zT8, 9, rfl, by decide, rfl, tw_c2 97 (by decide +kernel) rfl⟩
theorem d_S_init_70 : decode y_S_init.2.1 70 = .ok (.aload_n 0, 1) := op_aload_n0 (gk (k := 64) (t := 6) ck_S_init_2 rfl)
theorem d_S_init_71 : decode y_S_init.2.1 71 = .ok (.new 43, 3) := op_new (gk (k := 64) (t := 7) ck_S_init_2 rfl) (gk (k := 64) (t := 8) ck_S_init_2 rfl) (gk (k := 64) (t := 9) ck_S_init_2 rfl) rfl
theorem cl_S_43 : Cond.classLink "SinglesUp" 43 "SinglesUp$Filling" ∈ TW := tw_c2 24 (by decide +kernel) rfl
theorem cz_1 : Cond.instantiable "SinglesUp$Filling" 7 ∈ TW ∧ Cond.initialized "SinglesUp$Filling" ∈ TW := ⟨tw_c2 25 (by decide +kernel) rfl, tw_c1 9 (by decide +kernel) rfl⟩
theorem d_S_init_74 : decode y_S_init.2.1 74 = .ok (.dup, 1) := op_dup (gk (k := 64) (t := 10) ck_S_init_2 rfl)
theorem d_S_init_75 : decode y_S_init.2.1 75 = .ok (.invokespecial 45, 3) := op_invokespecial (gk (k := 64) (t := 11) ck_S_init_2 rfl) (gk (k := 64) (t := 12) ck_S_init_2 rfl) (gk (k := 64) (t := 13) ck_S_init_2 rfl) rfl
abbrev y_F_init : MI := (⟨"SinglesUp$Filling", "<init>", "()V"⟩, prog_3_method_1_code, 1, none)
theorem lk_S_45 : LkI "SinglesUp" 45 y_F_init := ⟨rfl, rfl, tw_c2 27 (by decide +kernel) rfl, Or.inr ⟨"SinglesUp", nw_in 266 (by decide +kernel) rfl⟩⟩
set_option maxRecDepth 100000 in
theorem mo_F_init : MOk y_F_init 0 := ⟨by decide +kernel, tw_c2 28 rfl rfl, tw_c1 9 (by decide +kernel) rfl, by decide +kernel, by decide +kernel, by decide +kernel⟩
theorem ck_F_init_0 : (y_F_init.2.1.data.toList.drop 0).take 32 = [42, 183, 0, 3, 42, 17, 0, 144, 188, 10, 181, 0, 9, 42, 17, 0, 144, 188, 10, 181, 0, 15, 42, 17, 0, 144, 188, 10, 181, 0, 18, 42] := by decide +kernel
theorem d_F_init_0 : decode y_F_init.2.1 0 = .ok (.aload_n 0, 1) := op_aload_n0 (gk (k := 0) (t := 0) ck_F_init_0 rfl)
theorem d_F_init_1 : decode y_F_init.2.1 1 = .ok (.invokespecial 3, 3) := op_invokespecial (gk (k := 0) (t := 1) ck_F_init_0 rfl) (gk (k := 0) (t := 2) ck_F_init_0 rfl) (gk (k := 0) (t := 3) ck_F_init_0 rfl) rfl
theorem oi_F_3 : Cond.methodLink "SinglesUp$Filling" 3 Lib.objectInit ∈ TW := tw_c2 29 (by decide +kernel) rfl
theorem d_F_init_4 : decode y_F_init.2.1 4 = .ok (.aload_n 0, 1) := op_aload_n0 (gk (k := 0) (t := 4) ck_F_init_0 rfl)
theorem d_F_init_5 : decode y_F_init.2.1 5 = .ok (.sipush 144, 3) := op_sipush (gk (k := 0) (t := 5) ck_F_init_0 rfl) (gk (k := 0) (t := 6) ck_F_init_0 rfl) (gk (k := 0) (t := 7) ck_F_init_0 rfl) (by decide +kernel)
theorem d_F_init_8 : decode y_F_init.2.1 8 = .ok (.newarray .int, 2) := by decide +kernel
theorem kc_155 : KC[155]? = some (0, 144) := by decide +kernel
theorem d_F_init_10 : decode y_F_init.2.1 10 = .ok (.putfield 9, 3) := op_putfield (gk (k := 0) (t := 10) ck_F_init_0 rfl) (gk (k := 0) (t := 11) ck_F_init_0 rfl) (gk (k := 0) (t := 12) ck_F_init_0 rfl) rfl
theorem fp_F_9 : FLp "SinglesUp$Filling" 9 1 0 := ⟨"SinglesUp$Filling", zT1, 7, rfl, by decide, rfl, tw_c2 30 (by decide +kernel) rfl⟩
theorem d_F_init_13 : decode y_F_init.2.1 13 = .ok (.aload_n 0, 1) := op_aload_n0 (gk (k := 0) (t := 13) ck_F_init_0 rfl)
theorem d_F_init_14 : decode y_F_init.2.1 14 = .ok (.sipush 144, 3) := op_sipush (gk (k := 0) (t := 14) ck_F_init_0 rfl) (gk (k := 0) (t := 15) ck_F_init_0 rfl) (gk (k := 0) (t := 16) ck_F_init_0 rfl) (by decide +kernel)
theorem d_F_init_17 : decode y_F_init.2.1 17 = .ok (.newarray .int, 2) := by decide +kernel
theorem kc_156 : KC[156]? = some (0, 144) := by decide +kernel
theorem d_F_init_19 : decode y_F_init.2.1 19 = .ok (.putfield 15, 3) := op_putfield (gk (k := 0) (t := 19) ck_F_init_0 rfl) (gk (k := 0) (t := 20) ck_F_init_0 rfl) (gk (k := 0) (t := 21) ck_F_init_0 rfl) rfl
theorem fp_F_15 : FLp "SinglesUp$Filling" 15 1 1 := ⟨"SinglesUp$Filling", zT1, 7, rfl, by decide, rfl, tw_c2 31 (by decide +kernel) rfl⟩
theorem d_F_init_22 : decode y_F_init.2.1 22 = .ok (.aload_n 0, 1) := op_aload_n0 (gk (k := 0) (t := 22) ck_F_init_0 rfl)
theorem d_F_init_23 : decode y_F_init.2.1 23 = .ok (.sipush 144, 3) := op_sipush (gk (k := 0) (t := 23) ck_F_init_0 rfl) (gk (k := 0) (t := 24) ck_F_init_0 rfl) (gk (k := 0) (t := 25) ck_F_init_0 rfl) (by decide +kernel)
theorem d_F_init_26 : decode y_F_init.2.1 26 = .ok (.newarray .int, 2) := by decide +kernel
theorem kc_157 : KC[157]? = some (0, 144) := by decide +kernel
theorem d_F_init_28 : decode y_F_init.2.1 28 = .ok (.putfield 18, 3) := op_putfield (gk (k := 0) (t := 28) ck_F_init_0 rfl) (gk (k := 0) (t := 29) ck_F_init_0 rfl) (gk (k := 0) (t := 30) ck_F_init_0 rfl) rfl
theorem fp_F_18 : FLp "SinglesUp$Filling" 18 1 2 := ⟨"SinglesUp$Filling", zT1, 7, rfl, by decide, rfl, tw_c2 32 (by decide +kernel) rfl⟩
theorem d_F_init_31 : decode y_F_init.2.1 31 = .ok (.aload_n 0, 1) := op_aload_n0 (gk (k := 0) (t := 31) ck_F_init_0 rfl)
theorem ck_F_init_1 : (y_F_init.2.1.data.toList.drop 32).take 32 = [17, 15, 75, 188, 10, 181, 0, 21, 42, 16, 8, 188, 10, 181, 0, 24, 177] := by decide +kernel
theorem d_F_init_32 : decode y_F_init.2.1 32 = .ok (.sipush 3915, 3) := op_sipush (gk (k := 32) (t := 0) ck_F_init_1 rfl) (gk (k := 32) (t := 1) ck_F_init_1 rfl) (gk (k := 32) (t := 2) ck_F_init_1 rfl) (by decide +kernel)
theorem cs_3915 : (Int16.ofInt 3915).toInt32 = nI 3915 := by decide +kernel
theorem d_F_init_35 : decode y_F_init.2.1 35 = .ok (.newarray .int, 2) := by decide +kernel
theorem d_F_init_37 : decode y_F_init.2.1 37 = .ok (.putfield 21, 3) := op_putfield (gk (k := 32) (t := 5) ck_F_init_1 rfl) (gk (k := 32) (t := 6) ck_F_init_1 rfl) (gk (k := 32) (t := 7) ck_F_init_1 rfl) rfl
theorem fp_F_21 : FLp "SinglesUp$Filling" 21 1 4 := ⟨"SinglesUp$Filling", zT1, 7, rfl, by decide, rfl, tw_c2 34 (by decide +kernel) rfl⟩
theorem d_F_init_40 : decode y_F_init.2.1 40 = .ok (.aload_n 0, 1) := op_aload_n0 (gk (k := 32) (t := 8) ck_F_init_1 rfl)
theorem d_F_init_41 : decode y_F_init.2.1 41 = .ok (.bipush 8, 2) := op_bipush (gk (k := 32) (t := 9) ck_F_init_1 rfl) (gk (k := 32) (t := 10) ck_F_init_1 rfl) rfl
theorem d_F_init_43 : decode y_F_init.2.1 43 = .ok (.newarray .int, 2) := by decide +kernel
theorem kc_159 : KC[159]? = some (0, 8) := by decide +kernel
theorem d_F_init_45 : decode y_F_init.2.1 45 = .ok (.putfield 24, 3) := op_putfield (gk (k := 32) (t := 13) ck_F_init_1 rfl) (gk (k := 32) (t := 14) ck_F_init_1 rfl) (gk (k := 32) (t := 15) ck_F_init_1 rfl) rfl
theorem fp_F_24 : FLp "SinglesUp$Filling" 24 1 5 := ⟨"SinglesUp$Filling", zT1, 7, rfl, by decide, rfl, tw_c2 35 (by decide +kernel) rfl⟩
theorem d_F_init_48 : decode y_F_init.2.1 48 = .ok (.return_, 1) := op_return_ (gk (k := 32) (t := 16) ck_F_init_1 rfl)
theorem d_S_init_78 : decode y_S_init.2.1 78 = .ok (.putfield 46, 3) := op_putfield (gk (k := 64) (t := 14) ck_S_init_2 rfl) (gk (k := 64) (t := 15) ck_S_init_2 rfl) (gk (k := 64) (t := 16) ck_S_init_2 rfl) rfl
theorem fp_S_46 : FLp "SinglesUp" 46 8 6 := ⟨"SinglesUp", zT8, 9, rfl, by decide, rfl, tw_c2 98 (by decide +kernel) rfl⟩
theorem d_S_init_81 : decode y_S_init.2.1 81 = .ok (.aload_n 0, 1) := op_aload_n0 (gk (k := 64) (t := 17) ck_S_init_2 rfl)
theorem d_S_init_82 : decode y_S_init.2.1 82 = .ok (.new 50, 3) := op_new (gk (k := 64) (t := 18) ck_S_init_2 rfl) (gk (k := 64) (t := 19) ck_S_init_2 rfl) (gk (k := 64) (t := 20) ck_S_init_2 rfl) rfl
theorem cl_S_50 : Cond.classLink "SinglesUp" 50 "SinglesUp$Packer" ∈ TW := tw_c2 53 (by decide +kernel) rfl
theorem cz_6 : Cond.instantiable "SinglesUp$Packer" 7 ∈ TW ∧ Cond.initialized "SinglesUp$Packer" ∈ TW := ⟨tw_c2 54 (by decide +kernel) rfl, tw_c1 10 (by decide +kernel) rfl⟩
theorem d_S_init_85 : decode y_S_init.2.1 85 = .ok (.dup, 1) := op_dup (gk (k := 64) (t := 21) ck_S_init_2 rfl)
theorem d_S_init_86 : decode y_S_init.2.1 86 = .ok (.invokespecial 52, 3) := op_invokespecial (gk (k := 64) (t := 22) ck_S_init_2 rfl) (gk (k := 64) (t := 23) ck_S_init_2 rfl) (gk (k := 64) (t := 24) ck_S_init_2 rfl) rfl
abbrev y_P_init : MI := (⟨"SinglesUp$Packer", "<init>", "()V"⟩, prog_8_method_1_code, 1, none)
theorem lk_S_52 : LkI "SinglesUp" 52 y_P_init := ⟨rfl, rfl, tw_c2 56 (by decide +kernel) rfl, Or.inl (tw_c2 55 (by decide +kernel) rfl)⟩
set_option maxRecDepth 100000 in
theorem mo_P_init : MOk y_P_init 0 := ⟨by decide +kernel, tw_c2 57 rfl rfl, tw_c1 10 (by decide +kernel) rfl, by decide +kernel, by decide +kernel, by decide +kernel⟩
theorem ck_P_init_0 : (y_P_init.2.1.data.toList.drop 0).take 32 = [42, 183, 0, 3, 42, 17, 2, 91, 188, 10, 181, 0, 11, 42, 16, 67, 188, 10, 181, 0, 15, 42, 16, 67, 188, 10, 181, 0, 18, 42, 17, 5] := by decide +kernel
theorem d_P_init_0 : decode y_P_init.2.1 0 = .ok (.aload_n 0, 1) := op_aload_n0 (gk (k := 0) (t := 0) ck_P_init_0 rfl)
theorem d_P_init_1 : decode y_P_init.2.1 1 = .ok (.invokespecial 3, 3) := op_invokespecial (gk (k := 0) (t := 1) ck_P_init_0 rfl) (gk (k := 0) (t := 2) ck_P_init_0 rfl) (gk (k := 0) (t := 3) ck_P_init_0 rfl) rfl
theorem oi_P_3 : Cond.methodLink "SinglesUp$Packer" 3 Lib.objectInit ∈ TW := tw_c2 58 (by decide +kernel) rfl
theorem d_P_init_4 : decode y_P_init.2.1 4 = .ok (.aload_n 0, 1) := op_aload_n0 (gk (k := 0) (t := 4) ck_P_init_0 rfl)
theorem d_P_init_5 : decode y_P_init.2.1 5 = .ok (.sipush 603, 3) := op_sipush (gk (k := 0) (t := 5) ck_P_init_0 rfl) (gk (k := 0) (t := 6) ck_P_init_0 rfl) (gk (k := 0) (t := 7) ck_P_init_0 rfl) (by decide +kernel)
theorem cs_603 : (Int16.ofInt 603).toInt32 = nI 603 := by decide +kernel
theorem d_P_init_8 : decode y_P_init.2.1 8 = .ok (.newarray .int, 2) := by decide +kernel
theorem d_P_init_10 : decode y_P_init.2.1 10 = .ok (.putfield 11, 3) := op_putfield (gk (k := 0) (t := 10) ck_P_init_0 rfl) (gk (k := 0) (t := 11) ck_P_init_0 rfl) (gk (k := 0) (t := 12) ck_P_init_0 rfl) rfl
theorem fp_P_11 : FLp "SinglesUp$Packer" 11 6 0 := ⟨"SinglesUp$Packer", zT6, 7, rfl, by decide, rfl, tw_c2 70 (by decide +kernel) rfl⟩
theorem d_P_init_13 : decode y_P_init.2.1 13 = .ok (.aload_n 0, 1) := op_aload_n0 (gk (k := 0) (t := 13) ck_P_init_0 rfl)
theorem d_P_init_14 : decode y_P_init.2.1 14 = .ok (.bipush 67, 2) := op_bipush (gk (k := 0) (t := 14) ck_P_init_0 rfl) (gk (k := 0) (t := 15) ck_P_init_0 rfl) rfl
theorem d_P_init_16 : decode y_P_init.2.1 16 = .ok (.newarray .int, 2) := by decide +kernel
theorem kc_162 : KC[162]? = some (0, 67) := by decide +kernel
theorem d_P_init_18 : decode y_P_init.2.1 18 = .ok (.putfield 15, 3) := op_putfield (gk (k := 0) (t := 18) ck_P_init_0 rfl) (gk (k := 0) (t := 19) ck_P_init_0 rfl) (gk (k := 0) (t := 20) ck_P_init_0 rfl) rfl
theorem fp_P_15 : FLp "SinglesUp$Packer" 15 6 1 := ⟨"SinglesUp$Packer", zT6, 7, rfl, by decide, rfl, tw_c2 71 (by decide +kernel) rfl⟩
theorem d_P_init_21 : decode y_P_init.2.1 21 = .ok (.aload_n 0, 1) := op_aload_n0 (gk (k := 0) (t := 21) ck_P_init_0 rfl)
theorem d_P_init_22 : decode y_P_init.2.1 22 = .ok (.bipush 67, 2) := op_bipush (gk (k := 0) (t := 22) ck_P_init_0 rfl) (gk (k := 0) (t := 23) ck_P_init_0 rfl) rfl
theorem d_P_init_24 : decode y_P_init.2.1 24 = .ok (.newarray .int, 2) := by decide +kernel
theorem d_P_init_26 : decode y_P_init.2.1 26 = .ok (.putfield 18, 3) := op_putfield (gk (k := 0) (t := 26) ck_P_init_0 rfl) (gk (k := 0) (t := 27) ck_P_init_0 rfl) (gk (k := 0) (t := 28) ck_P_init_0 rfl) rfl
theorem fp_P_18 : FLp "SinglesUp$Packer" 18 6 3 := ⟨"SinglesUp$Packer", zT6, 7, rfl, by decide, rfl, tw_c2 73 (by decide +kernel) rfl⟩
theorem d_P_init_29 : decode y_P_init.2.1 29 = .ok (.aload_n 0, 1) := op_aload_n0 (gk (k := 0) (t := 29) ck_P_init_0 rfl)
theorem ck_P_init_1 : (y_P_init.2.1.data.toList.drop 32).take 32 = [16, 188, 10, 181, 0, 21, 42, 16, 9, 188, 10, 181, 0, 24, 42, 2, 181, 0, 27, 42, 16, 8, 16, 8, 3, 182, 0, 31, 177] := by decide +kernel
theorem d_P_init_30 : decode y_P_init.2.1 30 = .ok (.sipush 1296, 3) := op_sipush (gk (k := 0) (t := 30) ck_P_init_0 rfl) (gk (k := 0) (t := 31) ck_P_init_0 rfl) (gk (k := 32) (t := 0) ck_P_init_1 rfl) (by decide +kernel)
theorem d_P_init_33 : decode y_P_init.2.1 33 = .ok (.newarray .int, 2) := by decide +kernel
theorem d_P_init_35 : decode y_P_init.2.1 35 = .ok (.putfield 21, 3) := op_putfield (gk (k := 32) (t := 3) ck_P_init_1 rfl) (gk (k := 32) (t := 4) ck_P_init_1 rfl) (gk (k := 32) (t := 5) ck_P_init_1 rfl) rfl
theorem fp_P_21 : FLp "SinglesUp$Packer" 21 6 4 := ⟨"SinglesUp$Packer", zT6, 7, rfl, by decide, rfl, tw_c2 74 (by decide +kernel) rfl⟩
theorem d_P_init_38 : decode y_P_init.2.1 38 = .ok (.aload_n 0, 1) := op_aload_n0 (gk (k := 32) (t := 6) ck_P_init_1 rfl)
theorem d_P_init_39 : decode y_P_init.2.1 39 = .ok (.bipush 9, 2) := op_bipush (gk (k := 32) (t := 7) ck_P_init_1 rfl) (gk (k := 32) (t := 8) ck_P_init_1 rfl) rfl
theorem d_P_init_41 : decode y_P_init.2.1 41 = .ok (.newarray .int, 2) := by decide +kernel
theorem d_P_init_43 : decode y_P_init.2.1 43 = .ok (.putfield 24, 3) := op_putfield (gk (k := 32) (t := 11) ck_P_init_1 rfl) (gk (k := 32) (t := 12) ck_P_init_1 rfl) (gk (k := 32) (t := 13) ck_P_init_1 rfl) rfl
theorem fp_P_24 : FLp "SinglesUp$Packer" 24 6 5 := ⟨"SinglesUp$Packer", zT6, 7, rfl, by decide, rfl, tw_c2 75 (by decide +kernel) rfl⟩
theorem d_P_init_46 : decode y_P_init.2.1 46 = .ok (.aload_n 0, 1) := op_aload_n0 (gk (k := 32) (t := 14) ck_P_init_1 rfl)
theorem d_P_init_47 : decode y_P_init.2.1 47 = .ok (.iconst (-1), 1) := op_iconstm1 (gk (k := 32) (t := 15) ck_P_init_1 rfl)
theorem d_P_init_48 : decode y_P_init.2.1 48 = .ok (.putfield 27, 3) := op_putfield (gk (k := 32) (t := 16) ck_P_init_1 rfl) (gk (k := 32) (t := 17) ck_P_init_1 rfl) (gk (k := 32) (t := 18) ck_P_init_1 rfl) rfl
theorem d_P_init_51 : decode y_P_init.2.1 51 = .ok (.aload_n 0, 1) := op_aload_n0 (gk (k := 32) (t := 19) ck_P_init_1 rfl)
theorem d_P_init_52 : decode y_P_init.2.1 52 = .ok (.bipush 8, 2) := op_bipush (gk (k := 32) (t := 20) ck_P_init_1 rfl) (gk (k := 32) (t := 21) ck_P_init_1 rfl) rfl
theorem d_P_init_54 : decode y_P_init.2.1 54 = .ok (.bipush 8, 2) := op_bipush (gk (k := 32) (t := 22) ck_P_init_1 rfl) (gk (k := 32) (t := 23) ck_P_init_1 rfl) rfl
theorem d_P_init_56 : decode y_P_init.2.1 56 = .ok (.iconst 0, 1) := op_iconst0 (gk (k := 32) (t := 24) ck_P_init_1 rfl)
theorem d_P_init_57 : decode y_P_init.2.1 57 = .ok (.invokevirtual 31, 3) := op_invokevirtual (gk (k := 32) (t := 25) ck_P_init_1 rfl) (gk (k := 32) (t := 26) ck_P_init_1 rfl) (gk (k := 32) (t := 27) ck_P_init_1 rfl) rfl
abbrev y_P_addWays : MI := (⟨"SinglesUp$Packer", "addWays", "(III)V"⟩, prog_8_method_2_code, 5, none)
theorem lk_P_31 : LkV "SinglesUp$Packer" 31 y_P_addWays := ⟨tw_c2 61 (by decide +kernel) rfl, tw_in 0 (by decide +kernel) rfl, Or.inl (tw_c2 59 (by decide +kernel) rfl)⟩
set_option maxRecDepth 100000 in
theorem mo_P_addWays : MOk y_P_addWays 3 := ⟨by decide +kernel, tw_c2 62 rfl rfl, tw_c1 10 (by decide +kernel) rfl, by decide +kernel, by decide +kernel, by decide +kernel⟩
theorem d_P_init_60 : decode y_P_init.2.1 60 = .ok (.return_, 1) := op_return_ (gk (k := 32) (t := 28) ck_P_init_1 rfl)
theorem d_S_init_89 : decode y_S_init.2.1 89 = .ok (.putfield 53, 3) := op_putfield (gk (k := 64) (t := 25) ck_S_init_2 rfl) (gk (k := 64) (t := 26) ck_S_init_2 rfl) (gk (k := 64) (t := 27) ck_S_init_2 rfl) rfl
theorem fp_S_53 : FLp "SinglesUp" 53 8 7 := ⟨"SinglesUp", zT8, 9, rfl, by decide, rfl, tw_c2 99 (by decide +kernel) rfl⟩
theorem d_S_init_92 : decode y_S_init.2.1 92 = .ok (.return_, 1) := op_return_ (gk (k := 64) (t := 28) ck_S_init_2 rfl)
abbrev y_X_init : MI := (⟨"SinglesUpModel", "<init>", "()V"⟩, prog_11_method_1_code, 2, none)
theorem ck_X_init_0 : (y_X_init.2.1.data.toList.drop 0).take 32 = [42, 183, 0, 1, 42, 17, 24, 46, 188, 10, 181, 0, 7, 42, 17, 24, 46, 188, 10, 181, 0, 13, 42, 17, 24, 46, 188, 10, 181, 0, 16, 42] := by decide +kernel
theorem d_X_init_0 : decode y_X_init.2.1 0 = .ok (.aload_n 0, 1) := op_aload_n0 (gk (k := 0) (t := 0) ck_X_init_0 rfl)
theorem d_X_init_1 : decode y_X_init.2.1 1 = .ok (.invokespecial 1, 3) := op_invokespecial (gk (k := 0) (t := 1) ck_X_init_0 rfl) (gk (k := 0) (t := 2) ck_X_init_0 rfl) (gk (k := 0) (t := 3) ck_X_init_0 rfl) rfl
theorem oi_X_1 : Cond.methodLink "SinglesUpModel" 1 Lib.objectInit ∈ TW := tw_c5 92 (by decide +kernel) rfl
theorem d_X_init_4 : decode y_X_init.2.1 4 = .ok (.aload_n 0, 1) := op_aload_n0 (gk (k := 0) (t := 4) ck_X_init_0 rfl)
theorem d_X_init_5 : decode y_X_init.2.1 5 = .ok (.sipush 6190, 3) := op_sipush (gk (k := 0) (t := 5) ck_X_init_0 rfl) (gk (k := 0) (t := 6) ck_X_init_0 rfl) (gk (k := 0) (t := 7) ck_X_init_0 rfl) (by decide +kernel)
theorem d_X_init_8 : decode y_X_init.2.1 8 = .ok (.newarray .int, 2) := by decide +kernel
theorem d_X_init_10 : decode y_X_init.2.1 10 = .ok (.putfield 7, 3) := op_putfield (gk (k := 0) (t := 10) ck_X_init_0 rfl) (gk (k := 0) (t := 11) ck_X_init_0 rfl) (gk (k := 0) (t := 12) ck_X_init_0 rfl) rfl
theorem fp_X_7 : FLp "SinglesUpModel" 7 9 0 := ⟨"SinglesUpModel", zT9, 51, rfl, by decide, rfl, tw_c5 93 (by decide +kernel) rfl⟩
theorem d_X_init_13 : decode y_X_init.2.1 13 = .ok (.aload_n 0, 1) := op_aload_n0 (gk (k := 0) (t := 13) ck_X_init_0 rfl)
theorem d_X_init_14 : decode y_X_init.2.1 14 = .ok (.sipush 6190, 3) := op_sipush (gk (k := 0) (t := 14) ck_X_init_0 rfl) (gk (k := 0) (t := 15) ck_X_init_0 rfl) (gk (k := 0) (t := 16) ck_X_init_0 rfl) (by decide +kernel)
theorem d_X_init_17 : decode y_X_init.2.1 17 = .ok (.newarray .int, 2) := by decide +kernel
theorem d_X_init_19 : decode y_X_init.2.1 19 = .ok (.putfield 13, 3) := op_putfield (gk (k := 0) (t := 19) ck_X_init_0 rfl) (gk (k := 0) (t := 20) ck_X_init_0 rfl) (gk (k := 0) (t := 21) ck_X_init_0 rfl) rfl
theorem fp_X_13 : FLp "SinglesUpModel" 13 9 1 := ⟨"SinglesUpModel", zT9, 51, rfl, by decide, rfl, tw_c5 94 (by decide +kernel) rfl⟩
theorem d_X_init_22 : decode y_X_init.2.1 22 = .ok (.aload_n 0, 1) := op_aload_n0 (gk (k := 0) (t := 22) ck_X_init_0 rfl)
theorem d_X_init_23 : decode y_X_init.2.1 23 = .ok (.sipush 6190, 3) := op_sipush (gk (k := 0) (t := 23) ck_X_init_0 rfl) (gk (k := 0) (t := 24) ck_X_init_0 rfl) (gk (k := 0) (t := 25) ck_X_init_0 rfl) (by decide +kernel)
theorem d_X_init_26 : decode y_X_init.2.1 26 = .ok (.newarray .int, 2) := by decide +kernel
theorem d_X_init_28 : decode y_X_init.2.1 28 = .ok (.putfield 16, 3) := op_putfield (gk (k := 0) (t := 28) ck_X_init_0 rfl) (gk (k := 0) (t := 29) ck_X_init_0 rfl) (gk (k := 0) (t := 30) ck_X_init_0 rfl) rfl
theorem fp_X_16 : FLp "SinglesUpModel" 16 9 2 := ⟨"SinglesUpModel", zT9, 51, rfl, by decide, rfl, tw_c5 95 (by decide +kernel) rfl⟩
theorem d_X_init_31 : decode y_X_init.2.1 31 = .ok (.aload_n 0, 1) := op_aload_n0 (gk (k := 0) (t := 31) ck_X_init_0 rfl)
theorem ck_X_init_1 : (y_X_init.2.1.data.toList.drop 32).take 32 = [16, 64, 188, 10, 181, 0, 19, 42, 17, 3, 52, 188, 10, 181, 0, 22, 42, 17, 1, 144, 188, 10, 181, 0, 25, 42, 17, 1, 164, 188, 10, 181] := by decide +kernel
theorem d_X_init_32 : decode y_X_init.2.1 32 = .ok (.bipush 64, 2) := op_bipush (gk (k := 32) (t := 0) ck_X_init_1 rfl) (gk (k := 32) (t := 1) ck_X_init_1 rfl) rfl
theorem d_X_init_34 : decode y_X_init.2.1 34 = .ok (.newarray .int, 2) := by decide +kernel
theorem km_4 : KM[4]? = some (0, 64) := by decide +kernel
theorem d_X_init_36 : decode y_X_init.2.1 36 = .ok (.putfield 19, 3) := op_putfield (gk (k := 32) (t := 4) ck_X_init_1 rfl) (gk (k := 32) (t := 5) ck_X_init_1 rfl) (gk (k := 32) (t := 6) ck_X_init_1 rfl) rfl
theorem fp_X_19 : FLp "SinglesUpModel" 19 9 4 := ⟨"SinglesUpModel", zT9, 51, rfl, by decide, rfl, tw_c5 97 (by decide +kernel) rfl⟩
theorem d_X_init_39 : decode y_X_init.2.1 39 = .ok (.aload_n 0, 1) := op_aload_n0 (gk (k := 32) (t := 7) ck_X_init_1 rfl)
theorem d_X_init_40 : decode y_X_init.2.1 40 = .ok (.sipush 820, 3) := op_sipush (gk (k := 32) (t := 8) ck_X_init_1 rfl) (gk (k := 32) (t := 9) ck_X_init_1 rfl) (gk (k := 32) (t := 10) ck_X_init_1 rfl) (by decide +kernel)
theorem q1_cs_820 : (Int16.ofInt 820).toInt32 = nI 820 := by decide +kernel
theorem d_X_init_43 : decode y_X_init.2.1 43 = .ok (.newarray .int, 2) := by decide +kernel
theorem km_5 : KM[5]? = some (0, 820) := by decide +kernel
theorem d_X_init_45 : decode y_X_init.2.1 45 = .ok (.putfield 22, 3) := op_putfield (gk (k := 32) (t := 13) ck_X_init_1 rfl) (gk (k := 32) (t := 14) ck_X_init_1 rfl) (gk (k := 32) (t := 15) ck_X_init_1 rfl) rfl
theorem fp_X_22 : FLp "SinglesUpModel" 22 9 5 := ⟨"SinglesUpModel", zT9, 51, rfl, by decide, rfl, tw_c5 98 (by decide +kernel) rfl⟩
theorem d_X_init_48 : decode y_X_init.2.1 48 = .ok (.aload_n 0, 1) := op_aload_n0 (gk (k := 32) (t := 16) ck_X_init_1 rfl)
theorem d_X_init_49 : decode y_X_init.2.1 49 = .ok (.sipush 400, 3) := op_sipush (gk (k := 32) (t := 17) ck_X_init_1 rfl) (gk (k := 32) (t := 18) ck_X_init_1 rfl) (gk (k := 32) (t := 19) ck_X_init_1 rfl) (by decide +kernel)
theorem d_X_init_52 : decode y_X_init.2.1 52 = .ok (.newarray .int, 2) := by decide +kernel
theorem d_X_init_54 : decode y_X_init.2.1 54 = .ok (.putfield 25, 3) := op_putfield (gk (k := 32) (t := 22) ck_X_init_1 rfl) (gk (k := 32) (t := 23) ck_X_init_1 rfl) (gk (k := 32) (t := 24) ck_X_init_1 rfl) rfl
theorem fp_X_25 : FLp "SinglesUpModel" 25 9 6 := ⟨"SinglesUpModel", zT9, 51, rfl, by decide, rfl, tw_c5 99 (by decide +kernel) rfl⟩
theorem d_X_init_57 : decode y_X_init.2.1 57 = .ok (.aload_n 0, 1) := op_aload_n0 (gk (k := 32) (t := 25) ck_X_init_1 rfl)
theorem d_X_init_58 : decode y_X_init.2.1 58 = .ok (.sipush 420, 3) := op_sipush (gk (k := 32) (t := 26) ck_X_init_1 rfl) (gk (k := 32) (t := 27) ck_X_init_1 rfl) (gk (k := 32) (t := 28) ck_X_init_1 rfl) (by decide +kernel)
theorem cs_420 : (Int16.ofInt 420).toInt32 = nI 420 := by decide +kernel
theorem d_X_init_61 : decode y_X_init.2.1 61 = .ok (.newarray .int, 2) := by decide +kernel
theorem km_7 : KM[7]? = some (0, 420) := by decide +kernel
theorem ck_X_init_2 : (y_X_init.2.1.data.toList.drop 64).take 32 = [0, 28, 42, 16, 12, 188, 10, 181, 0, 31, 42, 2, 181, 0, 34, 42, 2, 181, 0, 38, 42, 2, 181, 0, 41, 42, 17, 0, 240, 188, 10, 181] := by decide +kernel
theorem d_X_init_63 : decode y_X_init.2.1 63 = .ok (.putfield 28, 3) := op_putfield (gk (k := 32) (t := 31) ck_X_init_1 rfl) (gk (k := 64) (t := 0) ck_X_init_2 rfl) (gk (k := 64) (t := 1) ck_X_init_2 rfl) rfl
theorem fp_X_28 : FLp "SinglesUpModel" 28 9 7 := ⟨"SinglesUpModel", zT9, 51, rfl, by decide, rfl, tw_c5 100 (by decide +kernel) rfl⟩
theorem d_X_init_66 : decode y_X_init.2.1 66 = .ok (.aload_n 0, 1) := op_aload_n0 (gk (k := 64) (t := 2) ck_X_init_2 rfl)
theorem d_X_init_67 : decode y_X_init.2.1 67 = .ok (.bipush 12, 2) := op_bipush (gk (k := 64) (t := 3) ck_X_init_2 rfl) (gk (k := 64) (t := 4) ck_X_init_2 rfl) rfl
theorem d_X_init_69 : decode y_X_init.2.1 69 = .ok (.newarray .int, 2) := by decide +kernel
theorem d_X_init_71 : decode y_X_init.2.1 71 = .ok (.putfield 31, 3) := op_putfield (gk (k := 64) (t := 7) ck_X_init_2 rfl) (gk (k := 64) (t := 8) ck_X_init_2 rfl) (gk (k := 64) (t := 9) ck_X_init_2 rfl) rfl
theorem fp_X_31 : FLp "SinglesUpModel" 31 9 8 := ⟨"SinglesUpModel", zT9, 51, rfl, by decide, rfl, tw_c5 101 (by decide +kernel) rfl⟩
theorem d_X_init_74 : decode y_X_init.2.1 74 = .ok (.aload_n 0, 1) := op_aload_n0 (gk (k := 64) (t := 10) ck_X_init_2 rfl)
theorem d_X_init_75 : decode y_X_init.2.1 75 = .ok (.iconst (-1), 1) := op_iconstm1 (gk (k := 64) (t := 11) ck_X_init_2 rfl)
theorem d_X_init_76 : decode y_X_init.2.1 76 = .ok (.putfield 34, 3) := op_putfield (gk (k := 64) (t := 12) ck_X_init_2 rfl) (gk (k := 64) (t := 13) ck_X_init_2 rfl) (gk (k := 64) (t := 14) ck_X_init_2 rfl) rfl
theorem d_X_init_79 : decode y_X_init.2.1 79 = .ok (.aload_n 0, 1) := op_aload_n0 (gk (k := 64) (t := 15) ck_X_init_2 rfl)
theorem d_X_init_80 : decode y_X_init.2.1 80 = .ok (.iconst (-1), 1) := op_iconstm1 (gk (k := 64) (t := 16) ck_X_init_2 rfl)
theorem d_X_init_81 : decode y_X_init.2.1 81 = .ok (.putfield 38, 3) := op_putfield (gk (k := 64) (t := 17) ck_X_init_2 rfl) (gk (k := 64) (t := 18) ck_X_init_2 rfl) (gk (k := 64) (t := 19) ck_X_init_2 rfl) rfl
theorem d_X_init_84 : decode y_X_init.2.1 84 = .ok (.aload_n 0, 1) := op_aload_n0 (gk (k := 64) (t := 20) ck_X_init_2 rfl)
theorem d_X_init_85 : decode y_X_init.2.1 85 = .ok (.iconst (-1), 1) := op_iconstm1 (gk (k := 64) (t := 21) ck_X_init_2 rfl)
theorem d_X_init_86 : decode y_X_init.2.1 86 = .ok (.putfield 41, 3) := op_putfield (gk (k := 64) (t := 22) ck_X_init_2 rfl) (gk (k := 64) (t := 23) ck_X_init_2 rfl) (gk (k := 64) (t := 24) ck_X_init_2 rfl) rfl
theorem d_X_init_89 : decode y_X_init.2.1 89 = .ok (.aload_n 0, 1) := op_aload_n0 (gk (k := 64) (t := 25) ck_X_init_2 rfl)
theorem d_X_init_90 : decode y_X_init.2.1 90 = .ok (.sipush 240, 3) := op_sipush (gk (k := 64) (t := 26) ck_X_init_2 rfl) (gk (k := 64) (t := 27) ck_X_init_2 rfl) (gk (k := 64) (t := 28) ck_X_init_2 rfl) (by decide +kernel)
theorem d_X_init_93 : decode y_X_init.2.1 93 = .ok (.newarray .int, 2) := by decide +kernel
theorem ck_X_init_3 : (y_X_init.2.1.data.toList.drop 96).take 32 = [0, 44, 42, 17, 0, 240, 188, 10, 181, 0, 47, 42, 16, 8, 188, 10, 181, 0, 50, 42, 17, 0, 240, 188, 4, 181, 0, 53, 42, 17, 0, 240] := by decide +kernel
theorem d_X_init_95 : decode y_X_init.2.1 95 = .ok (.putfield 44, 3) := op_putfield (gk (k := 64) (t := 31) ck_X_init_2 rfl) (gk (k := 96) (t := 0) ck_X_init_3 rfl) (gk (k := 96) (t := 1) ck_X_init_3 rfl) rfl
theorem fp_X_44 : FLp "SinglesUpModel" 44 9 25 := ⟨"SinglesUpModel", zT9, 51, rfl, by decide, rfl, tw_c5 118 (by decide +kernel) rfl⟩
theorem d_X_init_98 : decode y_X_init.2.1 98 = .ok (.aload_n 0, 1) := op_aload_n0 (gk (k := 96) (t := 2) ck_X_init_3 rfl)
theorem d_X_init_99 : decode y_X_init.2.1 99 = .ok (.sipush 240, 3) := op_sipush (gk (k := 96) (t := 3) ck_X_init_3 rfl) (gk (k := 96) (t := 4) ck_X_init_3 rfl) (gk (k := 96) (t := 5) ck_X_init_3 rfl) (by decide +kernel)
theorem d_X_init_102 : decode y_X_init.2.1 102 = .ok (.newarray .int, 2) := by decide +kernel
theorem km_10 : KM[10]? = some (0, 240) := by decide +kernel
theorem d_X_init_104 : decode y_X_init.2.1 104 = .ok (.putfield 47, 3) := op_putfield (gk (k := 96) (t := 8) ck_X_init_3 rfl) (gk (k := 96) (t := 9) ck_X_init_3 rfl) (gk (k := 96) (t := 10) ck_X_init_3 rfl) rfl
theorem fp_X_47 : FLp "SinglesUpModel" 47 9 26 := ⟨"SinglesUpModel", zT9, 51, rfl, by decide, rfl, tw_c5 119 (by decide +kernel) rfl⟩
theorem d_X_init_107 : decode y_X_init.2.1 107 = .ok (.aload_n 0, 1) := op_aload_n0 (gk (k := 96) (t := 11) ck_X_init_3 rfl)
theorem d_X_init_108 : decode y_X_init.2.1 108 = .ok (.bipush 8, 2) := op_bipush (gk (k := 96) (t := 12) ck_X_init_3 rfl) (gk (k := 96) (t := 13) ck_X_init_3 rfl) rfl
theorem d_X_init_110 : decode y_X_init.2.1 110 = .ok (.newarray .int, 2) := by decide +kernel
theorem km_11 : KM[11]? = some (0, 8) := by decide +kernel
theorem d_X_init_112 : decode y_X_init.2.1 112 = .ok (.putfield 50, 3) := op_putfield (gk (k := 96) (t := 16) ck_X_init_3 rfl) (gk (k := 96) (t := 17) ck_X_init_3 rfl) (gk (k := 96) (t := 18) ck_X_init_3 rfl) rfl
theorem fp_X_50 : FLp "SinglesUpModel" 50 9 27 := ⟨"SinglesUpModel", zT9, 51, rfl, by decide, rfl, tw_c5 120 (by decide +kernel) rfl⟩
theorem d_X_init_115 : decode y_X_init.2.1 115 = .ok (.aload_n 0, 1) := op_aload_n0 (gk (k := 96) (t := 19) ck_X_init_3 rfl)
theorem d_X_init_116 : decode y_X_init.2.1 116 = .ok (.sipush 240, 3) := op_sipush (gk (k := 96) (t := 20) ck_X_init_3 rfl) (gk (k := 96) (t := 21) ck_X_init_3 rfl) (gk (k := 96) (t := 22) ck_X_init_3 rfl) (by decide +kernel)
theorem d_X_init_119 : decode y_X_init.2.1 119 = .ok (.newarray .boolean, 2) := by decide +kernel
theorem ca_1 : Cond.arrayClass (newarray.typeOf .boolean) ∈ TW := tw_c6 6 (by decide +kernel) rfl
theorem d_X_init_121 : decode y_X_init.2.1 121 = .ok (.putfield 53, 3) := op_putfield (gk (k := 96) (t := 25) ck_X_init_3 rfl) (gk (k := 96) (t := 26) ck_X_init_3 rfl) (gk (k := 96) (t := 27) ck_X_init_3 rfl) rfl
theorem fp_X_53 : FLp "SinglesUpModel" 53 9 28 := ⟨"SinglesUpModel", zT9, 51, rfl, by decide, rfl, tw_c5 121 (by decide +kernel) rfl⟩
theorem d_X_init_124 : decode y_X_init.2.1 124 = .ok (.aload_n 0, 1) := op_aload_n0 (gk (k := 96) (t := 28) ck_X_init_3 rfl)
theorem d_X_init_125 : decode y_X_init.2.1 125 = .ok (.sipush 240, 3) := op_sipush (gk (k := 96) (t := 29) ck_X_init_3 rfl) (gk (k := 96) (t := 30) ck_X_init_3 rfl) (gk (k := 96) (t := 31) ck_X_init_3 rfl) (by decide +kernel)
theorem d_X_init_128 : decode y_X_init.2.1 128 = .ok (.newarray .boolean, 2) := by decide +kernel
theorem ck_X_init_4 : (y_X_init.2.1.data.toList.drop 128).take 32 = [188, 4, 181, 0, 57, 42, 17, 5, 160, 188, 10, 181, 0, 60, 42, 16, 8, 188, 10, 181, 0, 63, 42, 17, 0, 150, 188, 10, 181, 0, 66, 42] := by decide +kernel
theorem d_X_init_130 : decode y_X_init.2.1 130 = .ok (.putfield 57, 3) := op_putfield (gk (k := 128) (t := 2) ck_X_init_4 rfl) (gk (k := 128) (t := 3) ck_X_init_4 rfl) (gk (k := 128) (t := 4) ck_X_init_4 rfl) rfl
theorem fp_X_57 : FLp "SinglesUpModel" 57 9 29 := ⟨"SinglesUpModel", zT9, 51, rfl, by decide, rfl, tw_c5 122 (by decide +kernel) rfl⟩
theorem d_X_init_133 : decode y_X_init.2.1 133 = .ok (.aload_n 0, 1) := op_aload_n0 (gk (k := 128) (t := 5) ck_X_init_4 rfl)
theorem d_X_init_134 : decode y_X_init.2.1 134 = .ok (.sipush 1440, 3) := op_sipush (gk (k := 128) (t := 6) ck_X_init_4 rfl) (gk (k := 128) (t := 7) ck_X_init_4 rfl) (gk (k := 128) (t := 8) ck_X_init_4 rfl) (by decide +kernel)
theorem d_X_init_137 : decode y_X_init.2.1 137 = .ok (.newarray .int, 2) := by decide +kernel
theorem km_14 : KM[14]? = some (0, 1440) := by decide +kernel
theorem d_X_init_139 : decode y_X_init.2.1 139 = .ok (.putfield 60, 3) := op_putfield (gk (k := 128) (t := 11) ck_X_init_4 rfl) (gk (k := 128) (t := 12) ck_X_init_4 rfl) (gk (k := 128) (t := 13) ck_X_init_4 rfl) rfl
theorem fp_X_60 : FLp "SinglesUpModel" 60 9 36 := ⟨"SinglesUpModel", zT9, 51, rfl, by decide, rfl, tw_c5 129 (by decide +kernel) rfl⟩
theorem d_X_init_142 : decode y_X_init.2.1 142 = .ok (.aload_n 0, 1) := op_aload_n0 (gk (k := 128) (t := 14) ck_X_init_4 rfl)
theorem d_X_init_143 : decode y_X_init.2.1 143 = .ok (.bipush 8, 2) := op_bipush (gk (k := 128) (t := 15) ck_X_init_4 rfl) (gk (k := 128) (t := 16) ck_X_init_4 rfl) rfl
theorem d_X_init_145 : decode y_X_init.2.1 145 = .ok (.newarray .int, 2) := by decide +kernel
theorem d_X_init_147 : decode y_X_init.2.1 147 = .ok (.putfield 63, 3) := op_putfield (gk (k := 128) (t := 19) ck_X_init_4 rfl) (gk (k := 128) (t := 20) ck_X_init_4 rfl) (gk (k := 128) (t := 21) ck_X_init_4 rfl) rfl
theorem fp_X_63 : FLp "SinglesUpModel" 63 9 37 := ⟨"SinglesUpModel", zT9, 51, rfl, by decide, rfl, tw_c5 130 (by decide +kernel) rfl⟩
theorem d_X_init_150 : decode y_X_init.2.1 150 = .ok (.aload_n 0, 1) := op_aload_n0 (gk (k := 128) (t := 22) ck_X_init_4 rfl)
theorem d_X_init_151 : decode y_X_init.2.1 151 = .ok (.sipush 150, 3) := op_sipush (gk (k := 128) (t := 23) ck_X_init_4 rfl) (gk (k := 128) (t := 24) ck_X_init_4 rfl) (gk (k := 128) (t := 25) ck_X_init_4 rfl) (by decide +kernel)
theorem cs_150 : (Int16.ofInt 150).toInt32 = nI 150 := by decide +kernel
theorem d_X_init_154 : decode y_X_init.2.1 154 = .ok (.newarray .int, 2) := by decide +kernel
theorem km_16 : KM[16]? = some (0, 150) := by decide +kernel
theorem d_X_init_156 : decode y_X_init.2.1 156 = .ok (.putfield 66, 3) := op_putfield (gk (k := 128) (t := 28) ck_X_init_4 rfl) (gk (k := 128) (t := 29) ck_X_init_4 rfl) (gk (k := 128) (t := 30) ck_X_init_4 rfl) rfl
theorem fp_X_66 : FLp "SinglesUpModel" 66 9 38 := ⟨"SinglesUpModel", zT9, 51, rfl, by decide, rfl, tw_c5 131 (by decide +kernel) rfl⟩
theorem d_X_init_159 : decode y_X_init.2.1 159 = .ok (.aload_n 0, 1) := op_aload_n0 (gk (k := 128) (t := 31) ck_X_init_4 rfl)
theorem ck_X_init_5 : (y_X_init.2.1.data.toList.drop 160).take 32 = [17, 21, 64, 188, 10, 181, 0, 69, 42, 17, 16, 4, 188, 10, 181, 0, 72, 42, 16, 9, 188, 10, 181, 0, 75, 42, 16, 9, 188, 10, 181, 0] := by decide +kernel
theorem d_X_init_160 : decode y_X_init.2.1 160 = .ok (.sipush 5440, 3) := op_sipush (gk (k := 160) (t := 0) ck_X_init_5 rfl) (gk (k := 160) (t := 1) ck_X_init_5 rfl) (gk (k := 160) (t := 2) ck_X_init_5 rfl) (by decide +kernel)
theorem cs_5440 : (Int16.ofInt 5440).toInt32 = nI 5440 := by decide +kernel
theorem d_X_init_163 : decode y_X_init.2.1 163 = .ok (.newarray .int, 2) := by decide +kernel
theorem d_X_init_165 : decode y_X_init.2.1 165 = .ok (.putfield 69, 3) := op_putfield (gk (k := 160) (t := 5) ck_X_init_5 rfl) (gk (k := 160) (t := 6) ck_X_init_5 rfl) (gk (k := 160) (t := 7) ck_X_init_5 rfl) rfl
theorem fp_X_69 : FLp "SinglesUpModel" 69 9 39 := ⟨"SinglesUpModel", zT9, 51, rfl, by decide, rfl, tw_c5 132 (by decide +kernel) rfl⟩
theorem d_X_init_168 : decode y_X_init.2.1 168 = .ok (.aload_n 0, 1) := op_aload_n0 (gk (k := 160) (t := 8) ck_X_init_5 rfl)
theorem d_X_init_169 : decode y_X_init.2.1 169 = .ok (.sipush 4100, 3) := op_sipush (gk (k := 160) (t := 9) ck_X_init_5 rfl) (gk (k := 160) (t := 10) ck_X_init_5 rfl) (gk (k := 160) (t := 11) ck_X_init_5 rfl) (by decide +kernel)
theorem cs_4100 : (Int16.ofInt 4100).toInt32 = nI 4100 := by decide +kernel
theorem d_X_init_172 : decode y_X_init.2.1 172 = .ok (.newarray .int, 2) := by decide +kernel
theorem d_X_init_174 : decode y_X_init.2.1 174 = .ok (.putfield 72, 3) := op_putfield (gk (k := 160) (t := 14) ck_X_init_5 rfl) (gk (k := 160) (t := 15) ck_X_init_5 rfl) (gk (k := 160) (t := 16) ck_X_init_5 rfl) rfl
theorem fp_X_72 : FLp "SinglesUpModel" 72 9 41 := ⟨"SinglesUpModel", zT9, 51, rfl, by decide, rfl, tw_c5 134 (by decide +kernel) rfl⟩
theorem d_X_init_177 : decode y_X_init.2.1 177 = .ok (.aload_n 0, 1) := op_aload_n0 (gk (k := 160) (t := 17) ck_X_init_5 rfl)
theorem d_X_init_178 : decode y_X_init.2.1 178 = .ok (.bipush 9, 2) := op_bipush (gk (k := 160) (t := 18) ck_X_init_5 rfl) (gk (k := 160) (t := 19) ck_X_init_5 rfl) rfl
theorem d_X_init_180 : decode y_X_init.2.1 180 = .ok (.newarray .int, 2) := by decide +kernel
theorem d_X_init_182 : decode y_X_init.2.1 182 = .ok (.putfield 75, 3) := op_putfield (gk (k := 160) (t := 22) ck_X_init_5 rfl) (gk (k := 160) (t := 23) ck_X_init_5 rfl) (gk (k := 160) (t := 24) ck_X_init_5 rfl) rfl
theorem fp_X_75 : FLp "SinglesUpModel" 75 9 42 := ⟨"SinglesUpModel", zT9, 51, rfl, by decide, rfl, tw_c5 135 (by decide +kernel) rfl⟩
theorem d_X_init_185 : decode y_X_init.2.1 185 = .ok (.aload_n 0, 1) := op_aload_n0 (gk (k := 160) (t := 25) ck_X_init_5 rfl)
theorem d_X_init_186 : decode y_X_init.2.1 186 = .ok (.bipush 9, 2) := op_bipush (gk (k := 160) (t := 26) ck_X_init_5 rfl) (gk (k := 160) (t := 27) ck_X_init_5 rfl) rfl
theorem d_X_init_188 : decode y_X_init.2.1 188 = .ok (.newarray .int, 2) := by decide +kernel
theorem ck_X_init_6 : (y_X_init.2.1.data.toList.drop 192).take 32 = [78, 42, 16, 9, 188, 10, 181, 0, 81, 42, 16, 9, 188, 10, 181, 0, 84, 42, 17, 0, 240, 188, 4, 181, 0, 87, 42, 16, 8, 188, 10, 181] := by decide +kernel
theorem d_X_init_190 : decode y_X_init.2.1 190 = .ok (.putfield 78, 3) := op_putfield (gk (k := 160) (t := 30) ck_X_init_5 rfl) (gk (k := 160) (t := 31) ck_X_init_5 rfl) (gk (k := 192) (t := 0) ck_X_init_6 rfl) rfl
theorem fp_X_78 : FLp "SinglesUpModel" 78 9 43 := ⟨"SinglesUpModel", zT9, 51, rfl, by decide, rfl, tw_c5 136 (by decide +kernel) rfl⟩
theorem d_X_init_193 : decode y_X_init.2.1 193 = .ok (.aload_n 0, 1) := op_aload_n0 (gk (k := 192) (t := 1) ck_X_init_6 rfl)
theorem d_X_init_194 : decode y_X_init.2.1 194 = .ok (.bipush 9, 2) := op_bipush (gk (k := 192) (t := 2) ck_X_init_6 rfl) (gk (k := 192) (t := 3) ck_X_init_6 rfl) rfl
theorem d_X_init_196 : decode y_X_init.2.1 196 = .ok (.newarray .int, 2) := by decide +kernel
theorem d_X_init_198 : decode y_X_init.2.1 198 = .ok (.putfield 81, 3) := op_putfield (gk (k := 192) (t := 6) ck_X_init_6 rfl) (gk (k := 192) (t := 7) ck_X_init_6 rfl) (gk (k := 192) (t := 8) ck_X_init_6 rfl) rfl
theorem fp_X_81 : FLp "SinglesUpModel" 81 9 44 := ⟨"SinglesUpModel", zT9, 51, rfl, by decide, rfl, tw_c5 137 (by decide +kernel) rfl⟩
theorem d_X_init_201 : decode y_X_init.2.1 201 = .ok (.aload_n 0, 1) := op_aload_n0 (gk (k := 192) (t := 9) ck_X_init_6 rfl)
theorem d_X_init_202 : decode y_X_init.2.1 202 = .ok (.bipush 9, 2) := op_bipush (gk (k := 192) (t := 10) ck_X_init_6 rfl) (gk (k := 192) (t := 11) ck_X_init_6 rfl) rfl
theorem d_X_init_204 : decode y_X_init.2.1 204 = .ok (.newarray .int, 2) := by decide +kernel
theorem km_22 : KM[22]? = some (0, 9) := by decide +kernel
theorem d_X_init_206 : decode y_X_init.2.1 206 = .ok (.putfield 84, 3) := op_putfield (gk (k := 192) (t := 14) ck_X_init_6 rfl) (gk (k := 192) (t := 15) ck_X_init_6 rfl) (gk (k := 192) (t := 16) ck_X_init_6 rfl) rfl
theorem fp_X_84 : FLp "SinglesUpModel" 84 9 45 := ⟨"SinglesUpModel", zT9, 51, rfl, by decide, rfl, tw_c5 138 (by decide +kernel) rfl⟩
theorem d_X_init_209 : decode y_X_init.2.1 209 = .ok (.aload_n 0, 1) := op_aload_n0 (gk (k := 192) (t := 17) ck_X_init_6 rfl)
theorem d_X_init_210 : decode y_X_init.2.1 210 = .ok (.sipush 240, 3) := op_sipush (gk (k := 192) (t := 18) ck_X_init_6 rfl) (gk (k := 192) (t := 19) ck_X_init_6 rfl) (gk (k := 192) (t := 20) ck_X_init_6 rfl) (by decide +kernel)
theorem d_X_init_213 : decode y_X_init.2.1 213 = .ok (.newarray .boolean, 2) := by decide +kernel
theorem d_X_init_215 : decode y_X_init.2.1 215 = .ok (.putfield 87, 3) := op_putfield (gk (k := 192) (t := 23) ck_X_init_6 rfl) (gk (k := 192) (t := 24) ck_X_init_6 rfl) (gk (k := 192) (t := 25) ck_X_init_6 rfl) rfl
theorem fp_X_87 : FLp "SinglesUpModel" 87 9 47 := ⟨"SinglesUpModel", zT9, 51, rfl, by decide, rfl, tw_c5 139 (by decide +kernel) rfl⟩
theorem d_X_init_218 : decode y_X_init.2.1 218 = .ok (.aload_n 0, 1) := op_aload_n0 (gk (k := 192) (t := 26) ck_X_init_6 rfl)
theorem d_X_init_219 : decode y_X_init.2.1 219 = .ok (.bipush 8, 2) := op_bipush (gk (k := 192) (t := 27) ck_X_init_6 rfl) (gk (k := 192) (t := 28) ck_X_init_6 rfl) rfl
theorem d_X_init_221 : decode y_X_init.2.1 221 = .ok (.newarray .int, 2) := by decide +kernel
theorem ck_X_init_7 : (y_X_init.2.1.data.toList.drop 224).take 32 = [0, 90, 42, 16, 6, 188, 10, 181, 0, 93, 42, 180, 0, 7, 4, 7, 79, 42, 180, 0, 7, 5, 16, 6, 79, 42, 180, 0, 7, 6, 16, 40] := by decide +kernel
theorem d_X_init_223 : decode y_X_init.2.1 223 = .ok (.putfield 90, 3) := op_putfield (gk (k := 192) (t := 31) ck_X_init_6 rfl) (gk (k := 224) (t := 0) ck_X_init_7 rfl) (gk (k := 224) (t := 1) ck_X_init_7 rfl) rfl
theorem fp_X_90 : FLp "SinglesUpModel" 90 9 48 := ⟨"SinglesUpModel", zT9, 51, rfl, by decide, rfl, tw_c5 140 (by decide +kernel) rfl⟩
theorem d_X_init_226 : decode y_X_init.2.1 226 = .ok (.aload_n 0, 1) := op_aload_n0 (gk (k := 224) (t := 2) ck_X_init_7 rfl)
theorem d_X_init_227 : decode y_X_init.2.1 227 = .ok (.bipush 6, 2) := op_bipush (gk (k := 224) (t := 3) ck_X_init_7 rfl) (gk (k := 224) (t := 4) ck_X_init_7 rfl) rfl
theorem d_X_init_229 : decode y_X_init.2.1 229 = .ok (.newarray .int, 2) := by decide +kernel
theorem d_X_init_231 : decode y_X_init.2.1 231 = .ok (.putfield 93, 3) := op_putfield (gk (k := 224) (t := 7) ck_X_init_7 rfl) (gk (k := 224) (t := 8) ck_X_init_7 rfl) (gk (k := 224) (t := 9) ck_X_init_7 rfl) rfl
theorem fp_X_93 : FLp "SinglesUpModel" 93 9 49 := ⟨"SinglesUpModel", zT9, 51, rfl, by decide, rfl, tw_c5 141 (by decide +kernel) rfl⟩
theorem d_X_init_234 : decode y_X_init.2.1 234 = .ok (.aload_n 0, 1) := op_aload_n0 (gk (k := 224) (t := 10) ck_X_init_7 rfl)
theorem d_X_init_235 : decode y_X_init.2.1 235 = .ok (.getfield 7, 3) := op_getfield (gk (k := 224) (t := 11) ck_X_init_7 rfl) (gk (k := 224) (t := 12) ck_X_init_7 rfl) (gk (k := 224) (t := 13) ck_X_init_7 rfl) rfl
theorem d_X_init_238 : decode y_X_init.2.1 238 = .ok (.iconst 1, 1) := op_iconst1 (gk (k := 224) (t := 14) ck_X_init_7 rfl)
theorem d_X_init_239 : decode y_X_init.2.1 239 = .ok (.iconst 4, 1) := op_iconst4 (gk (k := 224) (t := 15) ck_X_init_7 rfl)
theorem d_X_init_240 : decode y_X_init.2.1 240 = .ok (.iastore, 1) := op_iastore (gk (k := 224) (t := 16) ck_X_init_7 rfl)
theorem d_X_init_241 : decode y_X_init.2.1 241 = .ok (.aload_n 0, 1) := op_aload_n0 (gk (k := 224) (t := 17) ck_X_init_7 rfl)
theorem d_X_init_242 : decode y_X_init.2.1 242 = .ok (.getfield 7, 3) := op_getfield (gk (k := 224) (t := 18) ck_X_init_7 rfl) (gk (k := 224) (t := 19) ck_X_init_7 rfl) (gk (k := 224) (t := 20) ck_X_init_7 rfl) rfl
theorem d_X_init_245 : decode y_X_init.2.1 245 = .ok (.iconst 2, 1) := op_iconst2 (gk (k := 224) (t := 21) ck_X_init_7 rfl)
theorem d_X_init_246 : decode y_X_init.2.1 246 = .ok (.bipush 6, 2) := op_bipush (gk (k := 224) (t := 22) ck_X_init_7 rfl) (gk (k := 224) (t := 23) ck_X_init_7 rfl) rfl
theorem d_X_init_248 : decode y_X_init.2.1 248 = .ok (.iastore, 1) := op_iastore (gk (k := 224) (t := 24) ck_X_init_7 rfl)
theorem d_X_init_249 : decode y_X_init.2.1 249 = .ok (.aload_n 0, 1) := op_aload_n0 (gk (k := 224) (t := 25) ck_X_init_7 rfl)
theorem d_X_init_250 : decode y_X_init.2.1 250 = .ok (.getfield 7, 3) := op_getfield (gk (k := 224) (t := 26) ck_X_init_7 rfl) (gk (k := 224) (t := 27) ck_X_init_7 rfl) (gk (k := 224) (t := 28) ck_X_init_7 rfl) rfl
theorem d_X_init_253 : decode y_X_init.2.1 253 = .ok (.iconst 3, 1) := op_iconst3 (gk (k := 224) (t := 29) ck_X_init_7 rfl)
theorem d_X_init_254 : decode y_X_init.2.1 254 = .ok (.bipush 40, 2) := op_bipush (gk (k := 224) (t := 30) ck_X_init_7 rfl) (gk (k := 224) (t := 31) ck_X_init_7 rfl) rfl
theorem ck_X_init_8 : (y_X_init.2.1.data.toList.drop 256).take 32 = [79, 42, 180, 0, 7, 16, 110, 2, 79, 3, 60, 27, 16, 6, 162, 0, 20, 42, 180, 0, 7, 16, 10, 27, 96, 16, 9, 79, 132, 1, 1, 167] := by decide +kernel
theorem d_X_init_256 : decode y_X_init.2.1 256 = .ok (.iastore, 1) := op_iastore (gk (k := 256) (t := 0) ck_X_init_8 rfl)
theorem d_X_init_257 : decode y_X_init.2.1 257 = .ok (.aload_n 0, 1) := op_aload_n0 (gk (k := 256) (t := 1) ck_X_init_8 rfl)
theorem d_X_init_258 : decode y_X_init.2.1 258 = .ok (.getfield 7, 3) := op_getfield (gk (k := 256) (t := 2) ck_X_init_8 rfl) (gk (k := 256) (t := 3) ck_X_init_8 rfl) (gk (k := 256) (t := 4) ck_X_init_8 rfl) rfl
theorem d_X_init_261 : decode y_X_init.2.1 261 = .ok (.bipush 110, 2) := op_bipush (gk (k := 256) (t := 5) ck_X_init_8 rfl) (gk (k := 256) (t := 6) ck_X_init_8 rfl) rfl
theorem d_X_init_263 : decode y_X_init.2.1 263 = .ok (.iconst (-1), 1) := op_iconstm1 (gk (k := 256) (t := 7) ck_X_init_8 rfl)
theorem d_X_init_264 : decode y_X_init.2.1 264 = .ok (.iastore, 1) := op_iastore (gk (k := 256) (t := 8) ck_X_init_8 rfl)
theorem d_X_init_265 : decode y_X_init.2.1 265 = .ok (.iconst 0, 1) := op_iconst0 (gk (k := 256) (t := 9) ck_X_init_8 rfl)
theorem d_X_init_266 : decode y_X_init.2.1 266 = .ok (.istore_n 1, 1) := op_istore_n1 (gk (k := 256) (t := 10) ck_X_init_8 rfl)
theorem d_X_init_267 : decode y_X_init.2.1 267 = .ok (.iload_n 1, 1) := op_iload_n1 (gk (k := 256) (t := 11) ck_X_init_8 rfl)
theorem d_X_init_268 : decode y_X_init.2.1 268 = .ok (.bipush 6, 2) := op_bipush (gk (k := 256) (t := 12) ck_X_init_8 rfl) (gk (k := 256) (t := 13) ck_X_init_8 rfl) rfl
theorem d_X_init_270 : decode y_X_init.2.1 270 = .ok (.if_icmp .ge 20, 3) := op_icmp_ge (gk (k := 256) (t := 14) ck_X_init_8 rfl) (gk (k := 256) (t := 15) ck_X_init_8 rfl) (gk (k := 256) (t := 16) ck_X_init_8 rfl) (by decide +kernel)
theorem d_X_init_273 : decode y_X_init.2.1 273 = .ok (.aload_n 0, 1) := op_aload_n0 (gk (k := 256) (t := 17) ck_X_init_8 rfl)
theorem d_X_init_274 : decode y_X_init.2.1 274 = .ok (.getfield 7, 3) := op_getfield (gk (k := 256) (t := 18) ck_X_init_8 rfl) (gk (k := 256) (t := 19) ck_X_init_8 rfl) (gk (k := 256) (t := 20) ck_X_init_8 rfl) rfl
theorem d_X_init_277 : decode y_X_init.2.1 277 = .ok (.bipush 10, 2) := op_bipush (gk (k := 256) (t := 21) ck_X_init_8 rfl) (gk (k := 256) (t := 22) ck_X_init_8 rfl) rfl
theorem d_X_init_279 : decode y_X_init.2.1 279 = .ok (.iload_n 1, 1) := op_iload_n1 (gk (k := 256) (t := 23) ck_X_init_8 rfl)
theorem d_X_init_280 : decode y_X_init.2.1 280 = .ok (.iadd, 1) := op_iadd (gk (k := 256) (t := 24) ck_X_init_8 rfl)
theorem d_X_init_281 : decode y_X_init.2.1 281 = .ok (.bipush 9, 2) := op_bipush (gk (k := 256) (t := 25) ck_X_init_8 rfl) (gk (k := 256) (t := 26) ck_X_init_8 rfl) rfl
theorem d_X_init_283 : decode y_X_init.2.1 283 = .ok (.iastore, 1) := op_iastore (gk (k := 256) (t := 27) ck_X_init_8 rfl)
theorem d_X_init_284 : decode y_X_init.2.1 284 = .ok (.iinc 1 1, 3) := op_iinc (gk (k := 256) (t := 28) ck_X_init_8 rfl) (gk (k := 256) (t := 29) ck_X_init_8 rfl) (gk (k := 256) (t := 30) ck_X_init_8 rfl) rfl rfl
theorem ck_X_init_9 : (y_X_init.2.1.data.toList.drop 288).take 32 = [255, 236, 177] := by decide +kernel
theorem d_X_init_287 : decode y_X_init.2.1 287 = .ok (.goto (-20), 3) := op_goto (gk (k := 256) (t := 31) ck_X_init_8 rfl) (gk (k := 288) (t := 0) ck_X_init_9 rfl) (gk (k := 288) (t := 1) ck_X_init_9 rfl) (by decide +kernel)
theorem d_X_init_290 : decode y_X_init.2.1 290 = .ok (.return_, 1) := op_return_ (gk (k := 288) (t := 2) ck_X_init_9 rfl)
/-- the constructors' writes, in their order: ints, then references -/
def WIc : List (Nat × Nat × Int32) := [(2, 0, nI 4), (2, 1, nI 6), (2, 2, nI 40), (2, 3, nI 0), (2, 4, nI 0), (2, 5, nI 0), (10, 0, nI 9), (10, 1, nI 9), (10, 2, nI 9), (10, 3, nI 9), (10, 4, nI 9), (10, 5, nI 9), (1, 11, (-1 : Int32)), (42, 0, nI 4), (42, 1, nI 6), (42, 2, nI 40), (42, 3, nI 0), (42, 4, nI 0), (42, 5, nI 0), (50, 0, nI 9), (50, 1, nI 9), (50, 2, nI 9), (50, 3, nI 9), (50, 4, nI 9), (50, 5, nI 9), (41, 11, (-1 : Int32)), (83, 0, nI 4), (83, 1, nI 6), (83, 2, nI 40), (83, 3, nI 0), (83, 4, nI 0), (83, 5, nI 0), (91, 0, nI 9), (91, 1, nI 9), (91, 2, nI 9), (91, 3, nI 9), (91, 4, nI 9), (91, 5, nI 9), (82, 11, (-1 : Int32)), (122, 7, nI 4), (130, 7, nI 4), (137, 7, nI 4), (144, 11, (-1 : Int32)), (160, 6, (-1 : Int32))]
def WGc : List (Nat × Nat × Nat) := [(1, 0, 2), (1, 1, 3), (1, 2, 4), (1, 3, 5), (1, 4, 6), (7, 0, 8), (7, 1, 9), (7, 2, 10), (1, 5, 7), (1, 8, 11), (1, 9, 12), (1, 10, 13), (1, 12, 14), (1, 13, 15), (16, 0, 17), (16, 2, 18), (16, 3, 19), (16, 5, 20), (3, 0, 16), (21, 0, 22), (21, 2, 23), (21, 3, 24), (21, 5, 25), (3, 1, 21), (26, 0, 27), (26, 2, 28), (26, 3, 29), (26, 5, 30), (3, 2, 26), (31, 0, 32), (31, 2, 33), (31, 3, 34), (31, 5, 35), (3, 3, 31), (36, 0, 37), (36, 2, 38), (36, 3, 39), (36, 5, 40), (3, 4, 36), (0, 0, 1), (41, 0, 42), (41, 1, 43), (41, 2, 44), (41, 3, 45), (41, 4, 46), (47, 0, 48), (47, 1, 49), (47, 2, 50), (41, 5, 47), (41, 8, 51), (41, 9, 52), (41, 10, 53), (41, 12, 54), (41, 13, 55), (56, 0, 57), (56, 2, 58), (56, 3, 59), (56, 5, 60), (43, 0, 56), (61, 0, 62), (61, 2, 63), (61, 3, 64), (61, 5, 65), (43, 1, 61), (66, 0, 67), (66, 2, 68), (66, 3, 69), (66, 5, 70), (43, 2, 66), (71, 0, 72), (71, 2, 73), (71, 3, 74), (71, 5, 75), (43, 3, 71), (76, 0, 77), (76, 2, 78), (76, 3, 79), (76, 5, 80), (43, 4, 76), (0, 1, 41), (82, 0, 83), (82, 1, 84), (82, 2, 85), (82, 3, 86), (82, 4, 87), (88, 0, 89), (88, 1, 90), (88, 2, 91), (82, 5, 88), (82, 8, 92), (82, 9, 93), (82, 10, 94), (82, 12, 95), (82, 13, 96), (97, 0, 98), (97, 2, 99), (97, 3, 100), (97, 5, 101), (84, 0, 97), (102, 0, 103), (102, 2, 104), (102, 3, 105), (102, 5, 106), (84, 1, 102), (107, 0, 108), (107, 2, 109), (107, 3, 110), (107, 5, 111), (84, 2, 107), (112, 0, 113), (112, 2, 114), (112, 3, 115), (112, 5, 116), (84, 3, 112), (117, 0, 118), (117, 2, 119), (117, 3, 120), (117, 5, 121), (84, 4, 117), (81, 0, 82), (122, 0, 123), (122, 1, 124), (122, 2, 125), (122, 3, 126), (122, 4, 127), (122, 6, 128), (81, 1, 122), (81, 2, 129), (0, 2, 81), (130, 0, 131), (130, 1, 132), (130, 2, 133), (130, 3, 134), (130, 4, 135), (130, 6, 136), (0, 3, 130), (137, 0, 138), (137, 1, 139), (137, 2, 140), (137, 3, 141), (137, 4, 142), (137, 6, 143), (0, 4, 137), (144, 0, 145), (144, 2, 146), (144, 3, 147), (144, 4, 148), (149, 0, 150), (149, 2, 151), (149, 3, 152), (149, 5, 153), (144, 12, 149), (0, 5, 144), (154, 0, 155), (154, 1, 156), (154, 2, 157), (154, 4, 158), (154, 5, 159), (0, 6, 154), (160, 0, 161), (160, 1, 162), (160, 3, 163), (160, 4, 164), (160, 5, 165), (0, 7, 160)]
def WIm : List (Nat × Nat × Int32) := [(0, 21, (-1 : Int32)), (0, 22, (-1 : Int32)), (0, 23, (-1 : Int32)), (1, 1, nI 4), (1, 2, nI 6), (1, 3, nI 40), (1, 110, (-1 : Int32)), (1, 10, nI 9), (1, 11, nI 9), (1, 12, nI 9), (1, 13, nI 9), (1, 14, nI 9), (1, 15, nI 9)]
def WGm : List (Nat × Nat × Nat) := [(0, 0, 1), (0, 1, 2), (0, 2, 3), (0, 4, 4), (0, 5, 5), (0, 6, 6), (0, 7, 7), (0, 8, 8), (0, 25, 9), (0, 26, 10), (0, 27, 11), (0, 28, 12), (0, 29, 13), (0, 36, 14), (0, 37, 15), (0, 38, 16), (0, 39, 17), (0, 41, 18), (0, 42, 19), (0, 43, 20), (0, 44, 21), (0, 45, 22), (0, 47, 23), (0, 48, 24), (0, 49, 25)]
/-- the graph while the ways are laid -/
def GP : Nat → Nat → Option Nat := GSx WGc 164
def KP (I : Nat → Nat → Int32) : Prop := ∃ w : Nat, w ≤ 67 ∧ I 160 2 = nI w
abbrev y_P_keepWay : MI := (⟨"SinglesUp$Packer", "keepWay", "(II)V"⟩, prog_8_method_3_code, 3, none)
theorem ck_P_keepWay_0 : (y_P_keepWay.2.1.data.toList.drop 0).take 32 = [42, 180, 0, 39, 155, 0, 60, 42, 180, 0, 39, 16, 67, 162, 0, 51, 42, 180, 0, 24, 3, 27, 79, 42, 180, 0, 24, 3, 42, 180, 0, 11] := by decide +kernel
theorem d_P_keepWay_0 : decode y_P_keepWay.2.1 0 = .ok (.aload_n 0, 1) := op_aload_n0 (gk (k := 0) (t := 0) ck_P_keepWay_0 rfl)
theorem d_P_keepWay_1 : decode y_P_keepWay.2.1 1 = .ok (.getfield 39, 3) := op_getfield (gk (k := 0) (t := 1) ck_P_keepWay_0 rfl) (gk (k := 0) (t := 2) ck_P_keepWay_0 rfl) (gk (k := 0) (t := 3) ck_P_keepWay_0 rfl) rfl
theorem kp_160 : KC[160]? = some (9, 7) := by decide +kernel
theorem d_P_keepWay_4 : decode y_P_keepWay.2.1 4 = .ok (.ifCond .lt 60, 3) := op_if_lt (gk (k := 0) (t := 4) ck_P_keepWay_0 rfl) (gk (k := 0) (t := 5) ck_P_keepWay_0 rfl) (gk (k := 0) (t := 6) ck_P_keepWay_0 rfl) (by decide +kernel)
theorem d_P_keepWay_7 : decode y_P_keepWay.2.1 7 = .ok (.aload_n 0, 1) := op_aload_n0 (gk (k := 0) (t := 7) ck_P_keepWay_0 rfl)
theorem d_P_keepWay_8 : decode y_P_keepWay.2.1 8 = .ok (.getfield 39, 3) := op_getfield (gk (k := 0) (t := 8) ck_P_keepWay_0 rfl) (gk (k := 0) (t := 9) ck_P_keepWay_0 rfl) (gk (k := 0) (t := 10) ck_P_keepWay_0 rfl) rfl
theorem d_P_keepWay_11 : decode y_P_keepWay.2.1 11 = .ok (.bipush 67, 2) := op_bipush (gk (k := 0) (t := 11) ck_P_keepWay_0 rfl) (gk (k := 0) (t := 12) ck_P_keepWay_0 rfl) rfl
theorem d_P_keepWay_13 : decode y_P_keepWay.2.1 13 = .ok (.if_icmp .ge 51, 3) := op_icmp_ge (gk (k := 0) (t := 13) ck_P_keepWay_0 rfl) (gk (k := 0) (t := 14) ck_P_keepWay_0 rfl) (gk (k := 0) (t := 15) ck_P_keepWay_0 rfl) (by decide +kernel)
theorem ck_P_keepWay_2 : (y_P_keepWay.2.1.data.toList.drop 64).take 32 = [177] := by decide +kernel
theorem d_P_keepWay_64 : decode y_P_keepWay.2.1 64 = .ok (.return_, 1) := op_return_ (gk (k := 64) (t := 0) ck_P_keepWay_2 rfl)
theorem d_P_keepWay_16 : decode y_P_keepWay.2.1 16 = .ok (.aload_n 0, 1) := op_aload_n0 (gk (k := 0) (t := 16) ck_P_keepWay_0 rfl)
theorem d_P_keepWay_17 : decode y_P_keepWay.2.1 17 = .ok (.getfield 24, 3) := op_getfield (gk (k := 0) (t := 17) ck_P_keepWay_0 rfl) (gk (k := 0) (t := 18) ck_P_keepWay_0 rfl) (gk (k := 0) (t := 19) ck_P_keepWay_0 rfl) rfl
theorem rp_160_5 : GP 160 5 = some 165 := by decide +kernel
theorem d_P_keepWay_20 : decode y_P_keepWay.2.1 20 = .ok (.iconst 0, 1) := op_iconst0 (gk (k := 0) (t := 20) ck_P_keepWay_0 rfl)
theorem d_P_keepWay_21 : decode y_P_keepWay.2.1 21 = .ok (.iload_n 1, 1) := op_iload_n1 (gk (k := 0) (t := 21) ck_P_keepWay_0 rfl)
theorem d_P_keepWay_22 : decode y_P_keepWay.2.1 22 = .ok (.iastore, 1) := op_iastore (gk (k := 0) (t := 22) ck_P_keepWay_0 rfl)
theorem kp_165 : KC[165]? = some (0, 9) := by decide +kernel
theorem d_P_keepWay_23 : decode y_P_keepWay.2.1 23 = .ok (.aload_n 0, 1) := op_aload_n0 (gk (k := 0) (t := 23) ck_P_keepWay_0 rfl)
theorem d_P_keepWay_24 : decode y_P_keepWay.2.1 24 = .ok (.getfield 24, 3) := op_getfield (gk (k := 0) (t := 24) ck_P_keepWay_0 rfl) (gk (k := 0) (t := 25) ck_P_keepWay_0 rfl) (gk (k := 0) (t := 26) ck_P_keepWay_0 rfl) rfl
theorem d_P_keepWay_27 : decode y_P_keepWay.2.1 27 = .ok (.iconst 0, 1) := op_iconst0 (gk (k := 0) (t := 27) ck_P_keepWay_0 rfl)
theorem d_P_keepWay_28 : decode y_P_keepWay.2.1 28 = .ok (.aload_n 0, 1) := op_aload_n0 (gk (k := 0) (t := 28) ck_P_keepWay_0 rfl)
theorem d_P_keepWay_29 : decode y_P_keepWay.2.1 29 = .ok (.getfield 11, 3) := op_getfield (gk (k := 0) (t := 29) ck_P_keepWay_0 rfl) (gk (k := 0) (t := 30) ck_P_keepWay_0 rfl) (gk (k := 0) (t := 31) ck_P_keepWay_0 rfl) rfl
theorem rp_160_0 : GP 160 0 = some 161 := by decide +kernel
theorem ck_P_keepWay_1 : (y_P_keepWay.2.1.data.toList.drop 32).take 32 = [42, 180, 0, 39, 16, 9, 104, 16, 9, 184, 0, 42, 42, 180, 0, 15, 42, 180, 0, 39, 28, 79, 42, 89, 180, 0, 39, 4, 96, 181, 0, 39] := by decide +kernel
theorem d_P_keepWay_32 : decode y_P_keepWay.2.1 32 = .ok (.aload_n 0, 1) := op_aload_n0 (gk (k := 32) (t := 0) ck_P_keepWay_1 rfl)
theorem d_P_keepWay_33 : decode y_P_keepWay.2.1 33 = .ok (.getfield 39, 3) := op_getfield (gk (k := 32) (t := 1) ck_P_keepWay_1 rfl) (gk (k := 32) (t := 2) ck_P_keepWay_1 rfl) (gk (k := 32) (t := 3) ck_P_keepWay_1 rfl) rfl
theorem d_P_keepWay_36 : decode y_P_keepWay.2.1 36 = .ok (.bipush 9, 2) := op_bipush (gk (k := 32) (t := 4) ck_P_keepWay_1 rfl) (gk (k := 32) (t := 5) ck_P_keepWay_1 rfl) rfl
theorem d_P_keepWay_38 : decode y_P_keepWay.2.1 38 = .ok (.imul, 1) := op_imul (gk (k := 32) (t := 6) ck_P_keepWay_1 rfl)
theorem d_P_keepWay_39 : decode y_P_keepWay.2.1 39 = .ok (.bipush 9, 2) := op_bipush (gk (k := 32) (t := 7) ck_P_keepWay_1 rfl) (gk (k := 32) (t := 8) ck_P_keepWay_1 rfl) rfl
theorem d_P_keepWay_41 : decode y_P_keepWay.2.1 41 = .ok (.invokestatic 42, 3) := op_invokestatic (gk (k := 32) (t := 9) ck_P_keepWay_1 rfl) (gk (k := 32) (t := 10) ck_P_keepWay_1 rfl) (gk (k := 32) (t := 11) ck_P_keepWay_1 rfl) rfl
theorem lka_P_42 : Cond.methodLink "SinglesUp$Packer" 42 arraycopyName ∈ TW := tw_c2 67 (by decide +kernel) rfl
theorem kp_161 : KC[161]? = some (0, 603) := by decide +kernel
theorem d_P_keepWay_44 : decode y_P_keepWay.2.1 44 = .ok (.aload_n 0, 1) := op_aload_n0 (gk (k := 32) (t := 12) ck_P_keepWay_1 rfl)
theorem d_P_keepWay_45 : decode y_P_keepWay.2.1 45 = .ok (.getfield 15, 3) := op_getfield (gk (k := 32) (t := 13) ck_P_keepWay_1 rfl) (gk (k := 32) (t := 14) ck_P_keepWay_1 rfl) (gk (k := 32) (t := 15) ck_P_keepWay_1 rfl) rfl
theorem rp_160_1 : GP 160 1 = some 162 := by decide +kernel
theorem d_P_keepWay_48 : decode y_P_keepWay.2.1 48 = .ok (.aload_n 0, 1) := op_aload_n0 (gk (k := 32) (t := 16) ck_P_keepWay_1 rfl)
theorem d_P_keepWay_49 : decode y_P_keepWay.2.1 49 = .ok (.getfield 39, 3) := op_getfield (gk (k := 32) (t := 17) ck_P_keepWay_1 rfl) (gk (k := 32) (t := 18) ck_P_keepWay_1 rfl) (gk (k := 32) (t := 19) ck_P_keepWay_1 rfl) rfl
theorem d_P_keepWay_52 : decode y_P_keepWay.2.1 52 = .ok (.iload_n 2, 1) := op_iload_n2 (gk (k := 32) (t := 20) ck_P_keepWay_1 rfl)
theorem d_P_keepWay_53 : decode y_P_keepWay.2.1 53 = .ok (.iastore, 1) := op_iastore (gk (k := 32) (t := 21) ck_P_keepWay_1 rfl)
theorem kp_162 : KC[162]? = some (0, 67) := by decide +kernel
theorem d_P_keepWay_54 : decode y_P_keepWay.2.1 54 = .ok (.aload_n 0, 1) := op_aload_n0 (gk (k := 32) (t := 22) ck_P_keepWay_1 rfl)
theorem d_P_keepWay_55 : decode y_P_keepWay.2.1 55 = .ok (.dup, 1) := op_dup (gk (k := 32) (t := 23) ck_P_keepWay_1 rfl)
theorem d_P_keepWay_56 : decode y_P_keepWay.2.1 56 = .ok (.getfield 39, 3) := op_getfield (gk (k := 32) (t := 24) ck_P_keepWay_1 rfl) (gk (k := 32) (t := 25) ck_P_keepWay_1 rfl) (gk (k := 32) (t := 26) ck_P_keepWay_1 rfl) rfl
theorem d_P_keepWay_59 : decode y_P_keepWay.2.1 59 = .ok (.iconst 1, 1) := op_iconst1 (gk (k := 32) (t := 27) ck_P_keepWay_1 rfl)
theorem d_P_keepWay_60 : decode y_P_keepWay.2.1 60 = .ok (.iadd, 1) := op_iadd (gk (k := 32) (t := 28) ck_P_keepWay_1 rfl)
theorem d_P_keepWay_61 : decode y_P_keepWay.2.1 61 = .ok (.putfield 39, 3) := op_putfield (gk (k := 32) (t := 29) ck_P_keepWay_1 rfl) (gk (k := 32) (t := 30) ck_P_keepWay_1 rfl) (gk (k := 32) (t := 31) ck_P_keepWay_1 rfl) rfl
theorem ck_P_addWays_0 : (y_P_addWays.2.1.data.toList.drop 0).take 32 = [27, 4, 161, 0, 9, 27, 16, 8, 164, 0, 13, 42, 16, 8, 28, 100, 29, 182, 0, 35, 177, 28, 27, 108, 54, 4, 21, 4, 155, 0, 44, 42] := by decide +kernel
theorem d_P_addWays_0 : decode y_P_addWays.2.1 0 = .ok (.iload_n 1, 1) := op_iload_n1 (gk (k := 0) (t := 0) ck_P_addWays_0 rfl)
theorem d_P_addWays_1 : decode y_P_addWays.2.1 1 = .ok (.iconst 1, 1) := op_iconst1 (gk (k := 0) (t := 1) ck_P_addWays_0 rfl)
theorem d_P_addWays_2 : decode y_P_addWays.2.1 2 = .ok (.if_icmp .lt 9, 3) := op_icmp_lt (gk (k := 0) (t := 2) ck_P_addWays_0 rfl) (gk (k := 0) (t := 3) ck_P_addWays_0 rfl) (gk (k := 0) (t := 4) ck_P_addWays_0 rfl) (by decide +kernel)
theorem d_P_addWays_11 : decode y_P_addWays.2.1 11 = .ok (.aload_n 0, 1) := op_aload_n0 (gk (k := 0) (t := 11) ck_P_addWays_0 rfl)
theorem d_P_addWays_12 : decode y_P_addWays.2.1 12 = .ok (.bipush 8, 2) := op_bipush (gk (k := 0) (t := 12) ck_P_addWays_0 rfl) (gk (k := 0) (t := 13) ck_P_addWays_0 rfl) rfl
theorem d_P_addWays_14 : decode y_P_addWays.2.1 14 = .ok (.iload_n 2, 1) := op_iload_n2 (gk (k := 0) (t := 14) ck_P_addWays_0 rfl)
theorem d_P_addWays_15 : decode y_P_addWays.2.1 15 = .ok (.isub, 1) := op_isub (gk (k := 0) (t := 15) ck_P_addWays_0 rfl)
theorem d_P_addWays_16 : decode y_P_addWays.2.1 16 = .ok (.iload_n 3, 1) := op_iload_n3 (gk (k := 0) (t := 16) ck_P_addWays_0 rfl)
theorem d_P_addWays_17 : decode y_P_addWays.2.1 17 = .ok (.invokevirtual 35, 3) := op_invokevirtual (gk (k := 0) (t := 17) ck_P_addWays_0 rfl) (gk (k := 0) (t := 18) ck_P_addWays_0 rfl) (gk (k := 0) (t := 19) ck_P_addWays_0 rfl) rfl
theorem lk_P_35 : LkV "SinglesUp$Packer" 35 y_P_keepWay := ⟨tw_c2 65 (by decide +kernel) rfl, tw_in 1 (by decide +kernel) rfl, Or.inl (tw_c2 63 (by decide +kernel) rfl)⟩
set_option maxRecDepth 100000 in
theorem mo_P_keepWay : MOk y_P_keepWay 2 := ⟨by decide +kernel, tw_c2 66 rfl rfl, tw_c1 10 (by decide +kernel) rfl, by decide +kernel, by decide +kernel, by decide +kernel⟩
theorem d_P_addWays_20 : decode y_P_addWays.2.1 20 = .ok (.return_, 1) := op_return_ (gk (k := 0) (t := 20) ck_P_addWays_0 rfl)
theorem d_P_addWays_26 : decode y_P_addWays.2.1 26 = .ok (.iload 4, 2) := op_iload (gk (k := 0) (t := 26) ck_P_addWays_0 rfl) (gk (k := 0) (t := 27) ck_P_addWays_0 rfl) rfl
theorem d_P_addWays_28 : decode y_P_addWays.2.1 28 = .ok (.ifCond .lt 44, 3) := op_if_lt (gk (k := 0) (t := 28) ck_P_addWays_0 rfl) (gk (k := 0) (t := 29) ck_P_addWays_0 rfl) (gk (k := 0) (t := 30) ck_P_addWays_0 rfl) (by decide +kernel)
theorem d_P_addWays_31 : decode y_P_addWays.2.1 31 = .ok (.aload_n 0, 1) := op_aload_n0 (gk (k := 0) (t := 31) ck_P_addWays_0 rfl)
theorem ck_P_addWays_1 : (y_P_addWays.2.1.data.toList.drop 32).take 32 = [180, 0, 24, 27, 21, 4, 79, 42, 27, 4, 100, 28, 21, 4, 27, 104, 100, 29, 154, 0, 12, 21, 4, 158, 0, 7, 27, 167, 0, 4, 29, 182] := by decide +kernel
theorem d_P_addWays_32 : decode y_P_addWays.2.1 32 = .ok (.getfield 24, 3) := op_getfield (gk (k := 32) (t := 0) ck_P_addWays_1 rfl) (gk (k := 32) (t := 1) ck_P_addWays_1 rfl) (gk (k := 32) (t := 2) ck_P_addWays_1 rfl) rfl
theorem d_P_addWays_35 : decode y_P_addWays.2.1 35 = .ok (.iload_n 1, 1) := op_iload_n1 (gk (k := 32) (t := 3) ck_P_addWays_1 rfl)
theorem d_P_addWays_36 : decode y_P_addWays.2.1 36 = .ok (.iload 4, 2) := op_iload (gk (k := 32) (t := 4) ck_P_addWays_1 rfl) (gk (k := 32) (t := 5) ck_P_addWays_1 rfl) rfl
theorem d_P_addWays_38 : decode y_P_addWays.2.1 38 = .ok (.iastore, 1) := op_iastore (gk (k := 32) (t := 6) ck_P_addWays_1 rfl)
theorem d_P_addWays_39 : decode y_P_addWays.2.1 39 = .ok (.aload_n 0, 1) := op_aload_n0 (gk (k := 32) (t := 7) ck_P_addWays_1 rfl)
theorem d_P_addWays_40 : decode y_P_addWays.2.1 40 = .ok (.iload_n 1, 1) := op_iload_n1 (gk (k := 32) (t := 8) ck_P_addWays_1 rfl)
theorem d_P_addWays_41 : decode y_P_addWays.2.1 41 = .ok (.iconst 1, 1) := op_iconst1 (gk (k := 32) (t := 9) ck_P_addWays_1 rfl)
theorem d_P_addWays_42 : decode y_P_addWays.2.1 42 = .ok (.isub, 1) := op_isub (gk (k := 32) (t := 10) ck_P_addWays_1 rfl)
theorem d_P_addWays_43 : decode y_P_addWays.2.1 43 = .ok (.iload_n 2, 1) := op_iload_n2 (gk (k := 32) (t := 11) ck_P_addWays_1 rfl)
theorem d_P_addWays_44 : decode y_P_addWays.2.1 44 = .ok (.iload 4, 2) := op_iload (gk (k := 32) (t := 12) ck_P_addWays_1 rfl) (gk (k := 32) (t := 13) ck_P_addWays_1 rfl) rfl
theorem d_P_addWays_46 : decode y_P_addWays.2.1 46 = .ok (.iload_n 1, 1) := op_iload_n1 (gk (k := 32) (t := 14) ck_P_addWays_1 rfl)
theorem d_P_addWays_47 : decode y_P_addWays.2.1 47 = .ok (.imul, 1) := op_imul (gk (k := 32) (t := 15) ck_P_addWays_1 rfl)
theorem d_P_addWays_48 : decode y_P_addWays.2.1 48 = .ok (.isub, 1) := op_isub (gk (k := 32) (t := 16) ck_P_addWays_1 rfl)
theorem d_P_addWays_49 : decode y_P_addWays.2.1 49 = .ok (.iload_n 3, 1) := op_iload_n3 (gk (k := 32) (t := 17) ck_P_addWays_1 rfl)
theorem d_P_addWays_50 : decode y_P_addWays.2.1 50 = .ok (.ifCond .ne 12, 3) := op_if_ne (gk (k := 32) (t := 18) ck_P_addWays_1 rfl) (gk (k := 32) (t := 19) ck_P_addWays_1 rfl) (gk (k := 32) (t := 20) ck_P_addWays_1 rfl) (by decide +kernel)
theorem d_P_addWays_62 : decode y_P_addWays.2.1 62 = .ok (.iload_n 3, 1) := op_iload_n3 (gk (k := 32) (t := 30) ck_P_addWays_1 rfl)
theorem ck_P_addWays_2 : (y_P_addWays.2.1.data.toList.drop 64).take 32 = [0, 31, 132, 4, 255, 167, 255, 213, 177] := by decide +kernel
theorem d_P_addWays_63 : decode y_P_addWays.2.1 63 = .ok (.invokevirtual 31, 3) := op_invokevirtual (gk (k := 32) (t := 31) ck_P_addWays_1 rfl) (gk (k := 64) (t := 0) ck_P_addWays_2 rfl) (gk (k := 64) (t := 1) ck_P_addWays_2 rfl) rfl
theorem d_P_addWays_66 : decode y_P_addWays.2.1 66 = .ok (.iinc 4 (-1), 3) := op_iinc (gk (k := 64) (t := 2) ck_P_addWays_2 rfl) (gk (k := 64) (t := 3) ck_P_addWays_2 rfl) (gk (k := 64) (t := 4) ck_P_addWays_2 rfl) rfl rfl
theorem d_P_addWays_69 : decode y_P_addWays.2.1 69 = .ok (.goto (-43), 3) := op_goto (gk (k := 64) (t := 5) ck_P_addWays_2 rfl) (gk (k := 64) (t := 6) ck_P_addWays_2 rfl) (gk (k := 64) (t := 7) ck_P_addWays_2 rfl) (by decide +kernel)
theorem d_P_addWays_72 : decode y_P_addWays.2.1 72 = .ok (.return_, 1) := op_return_ (gk (k := 64) (t := 8) ck_P_addWays_2 rfl)
theorem d_P_addWays_53 : decode y_P_addWays.2.1 53 = .ok (.iload 4, 2) := op_iload (gk (k := 32) (t := 21) ck_P_addWays_1 rfl) (gk (k := 32) (t := 22) ck_P_addWays_1 rfl) rfl
theorem d_P_addWays_55 : decode y_P_addWays.2.1 55 = .ok (.ifCond .le 7, 3) := op_if_le (gk (k := 32) (t := 23) ck_P_addWays_1 rfl) (gk (k := 32) (t := 24) ck_P_addWays_1 rfl) (gk (k := 32) (t := 25) ck_P_addWays_1 rfl) (by decide +kernel)
theorem d_P_addWays_58 : decode y_P_addWays.2.1 58 = .ok (.iload_n 1, 1) := op_iload_n1 (gk (k := 32) (t := 26) ck_P_addWays_1 rfl)
theorem d_P_addWays_59 : decode y_P_addWays.2.1 59 = .ok (.goto 4, 3) := op_goto (gk (k := 32) (t := 27) ck_P_addWays_1 rfl) (gk (k := 32) (t := 28) ck_P_addWays_1 rfl) (gk (k := 32) (t := 29) ck_P_addWays_1 rfl) (by decide +kernel)
theorem d_P_addWays_5 : decode y_P_addWays.2.1 5 = .ok (.iload_n 1, 1) := op_iload_n1 (gk (k := 0) (t := 5) ck_P_addWays_0 rfl)
theorem d_P_addWays_6 : decode y_P_addWays.2.1 6 = .ok (.bipush 8, 2) := op_bipush (gk (k := 0) (t := 6) ck_P_addWays_0 rfl) (gk (k := 0) (t := 7) ck_P_addWays_0 rfl) rfl
theorem d_P_addWays_8 : decode y_P_addWays.2.1 8 = .ok (.if_icmp .le 13, 3) := op_icmp_le (gk (k := 0) (t := 8) ck_P_addWays_0 rfl) (gk (k := 0) (t := 9) ck_P_addWays_0 rfl) (gk (k := 0) (t := 10) ck_P_addWays_0 rfl) (by decide +kernel)
theorem d_P_addWays_21 : decode y_P_addWays.2.1 21 = .ok (.iload_n 2, 1) := op_iload_n2 (gk (k := 0) (t := 21) ck_P_addWays_0 rfl)
theorem d_P_addWays_22 : decode y_P_addWays.2.1 22 = .ok (.iload_n 1, 1) := op_iload_n1 (gk (k := 0) (t := 22) ck_P_addWays_0 rfl)
theorem d_P_addWays_23 : decode y_P_addWays.2.1 23 = .ok (.idiv, 1) := op_idiv (gk (k := 0) (t := 23) ck_P_addWays_0 rfl)
theorem d_P_addWays_24 : decode y_P_addWays.2.1 24 = .ok (.istore 4, 2) := op_istore (gk (k := 0) (t := 24) ck_P_addWays_0 rfl) (gk (k := 0) (t := 25) ck_P_addWays_0 rfl) rfl
section
variable {l : Launch} {b : PB}
theorem nI_m1 (m : Nat) : nI (m + 1) + Int32.ofInt (-1) = nI m := by
  rw [← nI_add m 1, Int32.add_assoc, show nI 1 + Int32.ofInt (-1) = 0 by decide +kernel, Int32.add_zero]
theorem KP_up {I : Nat → Nat → Int32} {o j : Nat} {x : Int32} (h : 160 ≠ o) (hP : KP I) : KP (upd2 I o j x) := by
  obtain ⟨w9, h9, e9⟩ := hP
  exact ⟨w9, h9, (congrFun (upd2_ne h) _).trans e9⟩
set_option maxRecDepth 20000 in
theorem sp_keepWay {K2 : K2T} {I : Nat → Nat → Int32} {sx gx : Int32} (hP : KP I) (hK : ∀ J, KP J → (∀ q, q ≠ 160 ∧ q ≠ 161 ∧ q ≠ 162 ∧ q ≠ 165 → J q = I q) → K2 none J) : Ss l b 2 y_P_keepWay KC GP [.ref 160, .int (sx), .int (gx)] (I) K2 := by
  obtain ⟨w0, hw, ew⟩ := hP
  refine Ss.of (show As l b 2 y_P_keepWay KC GP K2 (I) 0 [.ref 160, .int (sx), .int (gx)] [] from ?_)
  refine aw_aload_n rfl rfl d_P_keepWay_0 ?_
  refine aw_geti fl_P_39 kp_160 (by decide) rfl d_P_keepWay_1 ?_
  refine aw_top (x2 := nI (w0)) (ew) ?_
  refine aw_if_ltI (tgt := 64) ((w0 : Nat) : Int) (nI_toInt (by omega)) (by decide) d_P_keepWay_4 (fun q => absurd q (by omega)) (fun _ => ?_)
  refine aw_aload_n rfl rfl d_P_keepWay_7 ?_
  refine aw_geti fl_P_39 kp_160 (by decide) rfl d_P_keepWay_8 ?_
  refine aw_top (x2 := nI (w0)) (ew) ?_
  refine aw_bipush (v := nI 67) q1_cb_67 d_P_keepWay_11 ?_
  refine aw_icmp_geI (tgt := 64) ((w0 : Nat) : Int) (67) (nI_toInt (by omega)) (by decide +kernel) (by decide) d_P_keepWay_13 (fun c1 => ?_) (fun c1 => ?_)
  · exact as_retv rfl d_P_keepWay_64 (hK _ ⟨w0, by omega, (ew)⟩ (fun q hq => rfl))
  · refine aw_aload_n rfl rfl d_P_keepWay_16 ?_
    refine aw_getr fl_P_24 kp_160 (by decide) rfl rp_160_5 d_P_keepWay_17 ?_
    refine aw_iconst (v := nI 0) ci_0 d_P_keepWay_20 ?_
    refine aw_iload_n rfl rfl d_P_keepWay_21 ?_
    refine aw_iast (j := 0) kp_165 (vp_in_nI (by decide) (by decide)) (nI_clamp (by decide)) d_P_keepWay_22 ?_
    refine aw_aload_n rfl rfl d_P_keepWay_23 ?_
    refine aw_getr fl_P_24 kp_160 (by decide) rfl rp_160_5 d_P_keepWay_24 ?_
    refine aw_iconst (v := nI 0) ci_0 d_P_keepWay_27 ?_
    refine aw_aload_n rfl rfl d_P_keepWay_28 ?_
    refine aw_getr fl_P_11 kp_160 (by decide) rfl rp_160_0 d_P_keepWay_29 ?_
    refine aw_aload_n rfl rfl d_P_keepWay_32 ?_
    refine aw_geti fl_P_39 kp_160 (by decide) rfl d_P_keepWay_33 ?_
    refine aw_top (x2 := nI (w0)) (Eq.trans (congrFun (upd2_ne (by decide)) (2)) (ew)) ?_
    refine aw_bipush (v := nI 9) q1_cb_9 d_P_keepWay_36 ?_
    refine aw_imulN d_P_keepWay_38 ?_
    refine aw_bipush (v := nI 9) q1_cb_9 d_P_keepWay_39 ?_
    refine as_copyE (sp := 0) (dp := (w0 * 9)) (n := 9) lka_P_42 ac_nat ac_sta ac_ini kp_165 kp_161 (by omega) (by omega) (by omega) (by decide) rfl d_P_keepWay_41 (fun J2 e3 e4 e5 => ?_)
    refine aw_aload_n rfl rfl d_P_keepWay_44 ?_
    refine aw_getr fl_P_15 kp_160 (by decide) rfl rp_160_1 d_P_keepWay_45 ?_
    refine aw_aload_n rfl rfl d_P_keepWay_48 ?_
    refine aw_geti fl_P_39 kp_160 (by decide) rfl d_P_keepWay_49 ?_
    refine aw_top (x2 := nI (w0)) (((congrFun (e3 160 (by decide)) (2)).trans (Eq.trans (congrFun (upd2_ne (by decide)) (2)) (ew)))) ?_
    refine aw_iload_n rfl rfl d_P_keepWay_52 ?_
    refine aw_iast (j := w0) kp_162 (vp_in_nI (by omega) (by decide)) (nI_clamp (by omega)) d_P_keepWay_53 ?_
    refine aw_aload_n rfl rfl d_P_keepWay_54 ?_
    refine aw_dup rfl d_P_keepWay_55 ?_
    refine aw_geti fl_P_39 kp_160 (by decide) rfl d_P_keepWay_56 ?_
    refine aw_top (x2 := nI (w0)) (Eq.trans (congrFun (upd2_ne (by decide)) (2)) (((congrFun (e3 160 (by decide)) (2)).trans (Eq.trans (congrFun (upd2_ne (by decide)) (2)) (ew))))) ?_
    refine aw_iconst (v := nI 1) ci_1 d_P_keepWay_59 ?_
    refine aw_iaddN d_P_keepWay_60 ?_
    refine aw_puti fl_P_39 kp_160 (by decide) rfl rfl rfl rfl d_P_keepWay_61 ?_
    exact as_retv rfl d_P_keepWay_64 (hK _ ⟨(w0 + 1), by omega, (upd2_eq)⟩ (fun q hq => (upd2_ne hq.1).trans ((upd2_ne hq.2.2.1).trans ((e3 q hq.2.1).trans (upd2_ne hq.2.2.2)))))
set_option maxRecDepth 20000 in
theorem sp_add_0 {K2 : K2T} {I : Nat → Nat → Int32} {lf0 : Nat} {gx : Int32} (hl : lf0 ≤ 8) (hP : KP I) (hK : ∀ J, KP J → (∀ q, q ≠ 160 ∧ q ≠ 161 ∧ q ≠ 162 ∧ q ≠ 165 → J q = I q) → K2 none J) : Ss l b 3 y_P_addWays KC GP [.ref 160, .int (nI 0), .int (nI (lf0)), .int (gx)] (I) K2 := by
  refine Ss.of (show As l b 3 y_P_addWays KC GP K2 (I) 0 [.ref 160, .int (nI 0), .int (nI (lf0)), .int (gx), uu] [] from ?_)
  refine aw_iload_n rfl rfl d_P_addWays_0 ?_
  refine aw_iconst (v := nI 1) ci_1 d_P_addWays_1 ?_
  refine aw_icmp_ltI (tgt := 11) (0) (1) (by decide +kernel) (by decide +kernel) (by decide) d_P_addWays_2 (fun _ => ?_) (fun q => absurd q (by decide))
  refine aw_aload_n rfl rfl d_P_addWays_11 ?_
  refine aw_bipush (v := nI 8) q1_cb_8 d_P_addWays_12 ?_
  refine aw_iload_n rfl rfl d_P_addWays_14 ?_
  refine aw_isubN (by omega) d_P_addWays_15 ?_
  refine aw_iload_n rfl rfl d_P_addWays_16 ?_
  refine as_callV (as := [.int (nI ((8 - lf0))), .int (gx)]) (d' := 2) (q := ("SinglesUp$Packer", zT6, 7)) mo_P_keepWay lk_P_35 kp_160 rfl rfl rfl ⟨by decide, by decide⟩ rfl rfl (by decide) d_P_addWays_17 (sp_keepWay (I := I) (sx := nI ((8 - lf0))) (gx := gx) hP (fun J1 kp2 fq3 => ?_))
  have F4 : ∀ q, q ≠ 160 ∧ q ≠ 161 ∧ q ≠ 162 ∧ q ≠ 165 → J1 q = I q := fun q hq => (fq3 q hq).trans (rfl)
  refine (show As l b 3 y_P_addWays KC GP K2 (J1) 20 [.ref 160, .int (nI 0), .int (nI (lf0)), .int (gx), uu] [] from ?_)
  exact as_retv rfl d_P_addWays_20 (hK _ kp2 (fun q hq => F4 q hq))
set_option maxRecDepth 20000 in
theorem lp_add_1 {K2 : K2T} {I0 : Nat → Nat → Int32} {lf0 : Nat} {gx : Int32} (hl : lf0 ≤ 8) (hK : ∀ J, KP J → (∀ q, q ≠ 160 ∧ q ≠ 161 ∧ q ≠ 162 ∧ q ≠ 165 → J q = I0 q) → K2 none J) : ∀ (m : Nat) (I : Nat → Nat → Int32), m * 1 ≤ lf0 → KP I → (∀ q, q ≠ 160 ∧ q ≠ 161 ∧ q ≠ 162 ∧ q ≠ 165 → I q = I0 q) → As l b 4 y_P_addWays KC GP K2 (I) 26 [.ref 160, .int (nI 1), .int (nI (lf0)), .int (gx), .int (nI (m))] [] := by
  intro m
  induction m with
  | zero =>
    intro I hm hP hfr
    refine aw_iload rfl d_P_addWays_26 ?_
    refine aw_if_ltI (tgt := 72) (0) (by decide +kernel) (by decide) d_P_addWays_28 (fun q => absurd q (by decide)) (fun _ => ?_)
    refine aw_aload_n rfl rfl d_P_addWays_31 ?_
    refine aw_getr fl_P_24 kp_160 (by decide) rfl rp_160_5 d_P_addWays_32 ?_
    refine aw_iload_n rfl rfl d_P_addWays_35 ?_
    refine aw_iload rfl d_P_addWays_36 ?_
    refine aw_iast (j := 1) kp_165 (vp_in_nI (by decide) (by decide)) (nI_clamp (by decide)) d_P_addWays_38 ?_
    refine aw_aload_n rfl rfl d_P_addWays_39 ?_
    refine aw_iload_n rfl rfl d_P_addWays_40 ?_
    refine aw_iconst (v := nI 1) ci_1 d_P_addWays_41 ?_
    refine aw_isub d_P_addWays_42 ?_
    refine aw_top (x2 := nI 0) (by decide +kernel) ?_
    refine aw_iload_n rfl rfl d_P_addWays_43 ?_
    refine aw_iload rfl d_P_addWays_44 ?_
    refine aw_iload_n rfl rfl d_P_addWays_46 ?_
    refine aw_imul d_P_addWays_47 ?_
    refine aw_top (x2 := nI 0) (by decide +kernel) ?_
    refine aw_isubN (by omega) d_P_addWays_48 ?_
    refine aw_iload_n rfl rfl d_P_addWays_49 ?_
    refine aw_if_neI (tgt := 62) (gx).toInt rfl (by decide) d_P_addWays_50 (fun c1 => ?_) (fun c1 => ?_)
    · refine aw_iload_n rfl rfl d_P_addWays_62 ?_
      refine as_callV (as := [.int (nI 0), .int (nI ((lf0 - 0))), .int (gx)]) (d' := 3) (q := ("SinglesUp$Packer", zT6, 7)) mo_P_addWays lk_P_31 kp_160 rfl rfl rfl ⟨by decide, by decide⟩ rfl rfl (by decide) d_P_addWays_63 (sp_add_0 (I := upd2 I 165 (1) (nI 0)) (lf0 := (lf0 - 0)) (gx := gx) (by omega) (KP_up (by decide) hP) (fun J2 kp3 fq4 => ?_))
      have F5 : ∀ q, q ≠ 160 ∧ q ≠ 161 ∧ q ≠ 162 ∧ q ≠ 165 → J2 q = I0 q := fun q hq => (fq4 q hq).trans ((upd2_ne hq.2.2.2).trans (hfr q hq))
      refine (show As l b 4 y_P_addWays KC GP K2 (J2) 66 [.ref 160, .int (nI 1), .int (nI (lf0)), .int (gx), .int (nI 0)] [] from ?_)
      refine aw_iinc (v := (-1 : Int32)) (lv2 := [.ref 160, .int (nI 1), .int (nI (lf0)), .int (gx), .int ((-1 : Int32))]) rfl (by decide +kernel) (by decide) rfl d_P_addWays_66 ?_
      refine aw_goto (tgt := 26) (by decide) d_P_addWays_69 ?_
      refine aw_iload rfl d_P_addWays_26 ?_
      refine aw_if_ltI (tgt := 72) (-1) (by decide +kernel) (by decide) d_P_addWays_28 (fun _ => ?_) (fun q => absurd q (by decide))
      exact as_retv rfl d_P_addWays_72 (hK _ kp3 (fun q hq => F5 q hq))
    · refine aw_iload rfl d_P_addWays_53 ?_
      refine aw_if_leI (tgt := 62) (0) (by decide +kernel) (by decide) d_P_addWays_55 (fun _ => ?_) (fun q => absurd q (by decide))
      refine aw_iload_n rfl rfl d_P_addWays_62 ?_
      refine as_callV (as := [.int (nI 0), .int (nI ((lf0 - 0))), .int (gx)]) (d' := 3) (q := ("SinglesUp$Packer", zT6, 7)) mo_P_addWays lk_P_31 kp_160 rfl rfl rfl ⟨by decide, by decide⟩ rfl rfl (by decide) d_P_addWays_63 (sp_add_0 (I := upd2 I 165 (1) (nI 0)) (lf0 := (lf0 - 0)) (gx := gx) (by omega) (KP_up (by decide) hP) (fun J6 kp7 fq8 => ?_))
      have F9 : ∀ q, q ≠ 160 ∧ q ≠ 161 ∧ q ≠ 162 ∧ q ≠ 165 → J6 q = I0 q := fun q hq => (fq8 q hq).trans ((upd2_ne hq.2.2.2).trans (hfr q hq))
      refine (show As l b 4 y_P_addWays KC GP K2 (J6) 66 [.ref 160, .int (nI 1), .int (nI (lf0)), .int (gx), .int (nI 0)] [] from ?_)
      refine aw_iinc (v := (-1 : Int32)) (lv2 := [.ref 160, .int (nI 1), .int (nI (lf0)), .int (gx), .int ((-1 : Int32))]) rfl (by decide +kernel) (by decide) rfl d_P_addWays_66 ?_
      refine aw_goto (tgt := 26) (by decide) d_P_addWays_69 ?_
      refine aw_iload rfl d_P_addWays_26 ?_
      refine aw_if_ltI (tgt := 72) (-1) (by decide +kernel) (by decide) d_P_addWays_28 (fun _ => ?_) (fun q => absurd q (by decide))
      exact as_retv rfl d_P_addWays_72 (hK _ kp7 (fun q hq => F9 q hq))
  | succ m ih =>
    intro I hm hP hfr
    refine aw_iload rfl d_P_addWays_26 ?_
    refine aw_if_ltI (tgt := 72) (((m + 1) : Nat) : Int) (nI_toInt (by omega)) (by decide) d_P_addWays_28 (fun q => absurd q (by omega)) (fun _ => ?_)
    refine aw_aload_n rfl rfl d_P_addWays_31 ?_
    refine aw_getr fl_P_24 kp_160 (by decide) rfl rp_160_5 d_P_addWays_32 ?_
    refine aw_iload_n rfl rfl d_P_addWays_35 ?_
    refine aw_iload rfl d_P_addWays_36 ?_
    refine aw_iast (j := 1) kp_165 (vp_in_nI (by decide) (by decide)) (nI_clamp (by decide)) d_P_addWays_38 ?_
    refine aw_aload_n rfl rfl d_P_addWays_39 ?_
    refine aw_iload_n rfl rfl d_P_addWays_40 ?_
    refine aw_iconst (v := nI 1) ci_1 d_P_addWays_41 ?_
    refine aw_isub d_P_addWays_42 ?_
    refine aw_top (x2 := nI 0) (by decide +kernel) ?_
    refine aw_iload_n rfl rfl d_P_addWays_43 ?_
    refine aw_iload rfl d_P_addWays_44 ?_
    refine aw_iload_n rfl rfl d_P_addWays_46 ?_
    refine aw_imulN d_P_addWays_47 ?_
    refine aw_isubN (by omega) d_P_addWays_48 ?_
    refine aw_iload_n rfl rfl d_P_addWays_49 ?_
    refine aw_if_neI (tgt := 62) (gx).toInt rfl (by decide) d_P_addWays_50 (fun c1 => ?_) (fun c1 => ?_)
    · refine aw_iload_n rfl rfl d_P_addWays_62 ?_
      refine as_callV (as := [.int (nI 0), .int (nI ((lf0 - ((m + 1) * 1)))), .int (gx)]) (d' := 3) (q := ("SinglesUp$Packer", zT6, 7)) mo_P_addWays lk_P_31 kp_160 rfl rfl rfl ⟨by decide, by decide⟩ rfl rfl (by decide) d_P_addWays_63 (sp_add_0 (I := upd2 I 165 (1) (nI ((m + 1)))) (lf0 := (lf0 - ((m + 1) * 1))) (gx := gx) (by omega) (KP_up (by decide) hP) (fun J2 kp3 fq4 => ?_))
      have F5 : ∀ q, q ≠ 160 ∧ q ≠ 161 ∧ q ≠ 162 ∧ q ≠ 165 → J2 q = I0 q := fun q hq => (fq4 q hq).trans ((upd2_ne hq.2.2.2).trans (hfr q hq))
      refine (show As l b 4 y_P_addWays KC GP K2 (J2) 66 [.ref 160, .int (nI 1), .int (nI (lf0)), .int (gx), .int (nI ((m + 1)))] [] from ?_)
      refine aw_iinc (v := nI (m)) (lv2 := [.ref 160, .int (nI 1), .int (nI (lf0)), .int (gx), .int (nI (m))]) rfl (nI_m1 m) (by decide) rfl d_P_addWays_66 ?_
      refine aw_goto (tgt := 26) (by decide) d_P_addWays_69 ?_
      exact ih _ (by omega) kp3 (fun q hq => F5 q hq)
    · refine aw_iload rfl d_P_addWays_53 ?_
      refine aw_if_leI (tgt := 62) (((m + 1) : Nat) : Int) (nI_toInt (by omega)) (by decide) d_P_addWays_55 (fun c6 => ?_) (fun c6 => ?_)
      · refine aw_iload_n rfl rfl d_P_addWays_62 ?_
        refine as_callV (as := [.int (nI 0), .int (nI ((lf0 - ((m + 1) * 1)))), .int (gx)]) (d' := 3) (q := ("SinglesUp$Packer", zT6, 7)) mo_P_addWays lk_P_31 kp_160 rfl rfl rfl ⟨by decide, by decide⟩ rfl rfl (by decide) d_P_addWays_63 (sp_add_0 (I := upd2 I 165 (1) (nI ((m + 1)))) (lf0 := (lf0 - ((m + 1) * 1))) (gx := gx) (by omega) (KP_up (by decide) hP) (fun J7 kp8 fq9 => ?_))
        have F10 : ∀ q, q ≠ 160 ∧ q ≠ 161 ∧ q ≠ 162 ∧ q ≠ 165 → J7 q = I0 q := fun q hq => (fq9 q hq).trans ((upd2_ne hq.2.2.2).trans (hfr q hq))
        refine (show As l b 4 y_P_addWays KC GP K2 (J7) 66 [.ref 160, .int (nI 1), .int (nI (lf0)), .int (gx), .int (nI ((m + 1)))] [] from ?_)
        refine aw_iinc (v := nI (m)) (lv2 := [.ref 160, .int (nI 1), .int (nI (lf0)), .int (gx), .int (nI (m))]) rfl (nI_m1 m) (by decide) rfl d_P_addWays_66 ?_
        refine aw_goto (tgt := 26) (by decide) d_P_addWays_69 ?_
        exact ih _ (by omega) kp8 (fun q hq => F10 q hq)
      · refine aw_iload_n rfl rfl d_P_addWays_58 ?_
        refine aw_goto (tgt := 63) (by decide) d_P_addWays_59 ?_
        refine as_callV (as := [.int (nI 0), .int (nI ((lf0 - ((m + 1) * 1)))), .int (nI 1)]) (d' := 3) (q := ("SinglesUp$Packer", zT6, 7)) mo_P_addWays lk_P_31 kp_160 rfl rfl rfl ⟨by decide, by decide⟩ rfl rfl (by decide) d_P_addWays_63 (sp_add_0 (I := upd2 I 165 (1) (nI ((m + 1)))) (lf0 := (lf0 - ((m + 1) * 1))) (gx := nI 1) (by omega) (KP_up (by decide) hP) (fun J11 kp12 fq13 => ?_))
        have F14 : ∀ q, q ≠ 160 ∧ q ≠ 161 ∧ q ≠ 162 ∧ q ≠ 165 → J11 q = I0 q := fun q hq => (fq13 q hq).trans ((upd2_ne hq.2.2.2).trans (hfr q hq))
        refine (show As l b 4 y_P_addWays KC GP K2 (J11) 66 [.ref 160, .int (nI 1), .int (nI (lf0)), .int (gx), .int (nI ((m + 1)))] [] from ?_)
        refine aw_iinc (v := nI (m)) (lv2 := [.ref 160, .int (nI 1), .int (nI (lf0)), .int (gx), .int (nI (m))]) rfl (nI_m1 m) (by decide) rfl d_P_addWays_66 ?_
        refine aw_goto (tgt := 26) (by decide) d_P_addWays_69 ?_
        exact ih _ (by omega) kp12 (fun q hq => F14 q hq)
set_option maxRecDepth 20000 in
theorem sp_add_1 {K2 : K2T} {I : Nat → Nat → Int32} {lf0 : Nat} {gx : Int32} (hl : lf0 ≤ 8) (hP : KP I) (hK : ∀ J, KP J → (∀ q, q ≠ 160 ∧ q ≠ 161 ∧ q ≠ 162 ∧ q ≠ 165 → J q = I q) → K2 none J) : Ss l b 4 y_P_addWays KC GP [.ref 160, .int (nI 1), .int (nI (lf0)), .int (gx)] (I) K2 := by
  refine Ss.of (show As l b 4 y_P_addWays KC GP K2 (I) 0 [.ref 160, .int (nI 1), .int (nI (lf0)), .int (gx), uu] [] from ?_)
  refine aw_iload_n rfl rfl d_P_addWays_0 ?_
  refine aw_iconst (v := nI 1) ci_1 d_P_addWays_1 ?_
  refine aw_icmp_ltI (tgt := 11) (1) (1) (by decide +kernel) (by decide +kernel) (by decide) d_P_addWays_2 (fun q => absurd q (by decide)) (fun _ => ?_)
  refine aw_iload_n rfl rfl d_P_addWays_5 ?_
  refine aw_bipush (v := nI 8) q1_cb_8 d_P_addWays_6 ?_
  refine aw_icmp_leI (tgt := 21) (1) (8) (by decide +kernel) (by decide +kernel) (by decide) d_P_addWays_8 (fun _ => ?_) (fun q => absurd q (by decide))
  refine aw_iload_n rfl rfl d_P_addWays_21 ?_
  refine aw_iload_n rfl rfl d_P_addWays_22 ?_
  refine aw_idivN (by omega) (by omega) (by omega) d_P_addWays_23 ?_
  refine aw_istore (lv2 := [.ref 160, .int (nI 1), .int (nI (lf0)), .int (gx), .int (nI ((lf0 / 1)))]) (by decide) rfl d_P_addWays_24 ?_
  exact lp_add_1 hl hK (lf0 / 1) I (by omega) hP (fun q hq => rfl)
set_option maxRecDepth 20000 in
theorem lp_add_2 {K2 : K2T} {I0 : Nat → Nat → Int32} {lf0 : Nat} {gx : Int32} (hl : lf0 ≤ 8) (hK : ∀ J, KP J → (∀ q, q ≠ 160 ∧ q ≠ 161 ∧ q ≠ 162 ∧ q ≠ 165 → J q = I0 q) → K2 none J) : ∀ (m : Nat) (I : Nat → Nat → Int32), m * 2 ≤ lf0 → KP I → (∀ q, q ≠ 160 ∧ q ≠ 161 ∧ q ≠ 162 ∧ q ≠ 165 → I q = I0 q) → As l b 5 y_P_addWays KC GP K2 (I) 26 [.ref 160, .int (nI 2), .int (nI (lf0)), .int (gx), .int (nI (m))] [] := by
  intro m
  induction m with
  | zero =>
    intro I hm hP hfr
    refine aw_iload rfl d_P_addWays_26 ?_
    refine aw_if_ltI (tgt := 72) (0) (by decide +kernel) (by decide) d_P_addWays_28 (fun q => absurd q (by decide)) (fun _ => ?_)
    refine aw_aload_n rfl rfl d_P_addWays_31 ?_
    refine aw_getr fl_P_24 kp_160 (by decide) rfl rp_160_5 d_P_addWays_32 ?_
    refine aw_iload_n rfl rfl d_P_addWays_35 ?_
    refine aw_iload rfl d_P_addWays_36 ?_
    refine aw_iast (j := 2) kp_165 (vp_in_nI (by decide) (by decide)) (nI_clamp (by decide)) d_P_addWays_38 ?_
    refine aw_aload_n rfl rfl d_P_addWays_39 ?_
    refine aw_iload_n rfl rfl d_P_addWays_40 ?_
    refine aw_iconst (v := nI 1) ci_1 d_P_addWays_41 ?_
    refine aw_isub d_P_addWays_42 ?_
    refine aw_top (x2 := nI 1) (by decide +kernel) ?_
    refine aw_iload_n rfl rfl d_P_addWays_43 ?_
    refine aw_iload rfl d_P_addWays_44 ?_
    refine aw_iload_n rfl rfl d_P_addWays_46 ?_
    refine aw_imul d_P_addWays_47 ?_
    refine aw_top (x2 := nI 0) (by decide +kernel) ?_
    refine aw_isubN (by omega) d_P_addWays_48 ?_
    refine aw_iload_n rfl rfl d_P_addWays_49 ?_
    refine aw_if_neI (tgt := 62) (gx).toInt rfl (by decide) d_P_addWays_50 (fun c1 => ?_) (fun c1 => ?_)
    · refine aw_iload_n rfl rfl d_P_addWays_62 ?_
      refine as_callV (as := [.int (nI 1), .int (nI ((lf0 - 0))), .int (gx)]) (d' := 4) (q := ("SinglesUp$Packer", zT6, 7)) mo_P_addWays lk_P_31 kp_160 rfl rfl rfl ⟨by decide, by decide⟩ rfl rfl (by decide) d_P_addWays_63 (sp_add_1 (I := upd2 I 165 (2) (nI 0)) (lf0 := (lf0 - 0)) (gx := gx) (by omega) (KP_up (by decide) hP) (fun J2 kp3 fq4 => ?_))
      have F5 : ∀ q, q ≠ 160 ∧ q ≠ 161 ∧ q ≠ 162 ∧ q ≠ 165 → J2 q = I0 q := fun q hq => (fq4 q hq).trans ((upd2_ne hq.2.2.2).trans (hfr q hq))
      refine (show As l b 5 y_P_addWays KC GP K2 (J2) 66 [.ref 160, .int (nI 2), .int (nI (lf0)), .int (gx), .int (nI 0)] [] from ?_)
      refine aw_iinc (v := (-1 : Int32)) (lv2 := [.ref 160, .int (nI 2), .int (nI (lf0)), .int (gx), .int ((-1 : Int32))]) rfl (by decide +kernel) (by decide) rfl d_P_addWays_66 ?_
      refine aw_goto (tgt := 26) (by decide) d_P_addWays_69 ?_
      refine aw_iload rfl d_P_addWays_26 ?_
      refine aw_if_ltI (tgt := 72) (-1) (by decide +kernel) (by decide) d_P_addWays_28 (fun _ => ?_) (fun q => absurd q (by decide))
      exact as_retv rfl d_P_addWays_72 (hK _ kp3 (fun q hq => F5 q hq))
    · refine aw_iload rfl d_P_addWays_53 ?_
      refine aw_if_leI (tgt := 62) (0) (by decide +kernel) (by decide) d_P_addWays_55 (fun _ => ?_) (fun q => absurd q (by decide))
      refine aw_iload_n rfl rfl d_P_addWays_62 ?_
      refine as_callV (as := [.int (nI 1), .int (nI ((lf0 - 0))), .int (gx)]) (d' := 4) (q := ("SinglesUp$Packer", zT6, 7)) mo_P_addWays lk_P_31 kp_160 rfl rfl rfl ⟨by decide, by decide⟩ rfl rfl (by decide) d_P_addWays_63 (sp_add_1 (I := upd2 I 165 (2) (nI 0)) (lf0 := (lf0 - 0)) (gx := gx) (by omega) (KP_up (by decide) hP) (fun J6 kp7 fq8 => ?_))
      have F9 : ∀ q, q ≠ 160 ∧ q ≠ 161 ∧ q ≠ 162 ∧ q ≠ 165 → J6 q = I0 q := fun q hq => (fq8 q hq).trans ((upd2_ne hq.2.2.2).trans (hfr q hq))
      refine (show As l b 5 y_P_addWays KC GP K2 (J6) 66 [.ref 160, .int (nI 2), .int (nI (lf0)), .int (gx), .int (nI 0)] [] from ?_)
      refine aw_iinc (v := (-1 : Int32)) (lv2 := [.ref 160, .int (nI 2), .int (nI (lf0)), .int (gx), .int ((-1 : Int32))]) rfl (by decide +kernel) (by decide) rfl d_P_addWays_66 ?_
      refine aw_goto (tgt := 26) (by decide) d_P_addWays_69 ?_
      refine aw_iload rfl d_P_addWays_26 ?_
      refine aw_if_ltI (tgt := 72) (-1) (by decide +kernel) (by decide) d_P_addWays_28 (fun _ => ?_) (fun q => absurd q (by decide))
      exact as_retv rfl d_P_addWays_72 (hK _ kp7 (fun q hq => F9 q hq))
  | succ m ih =>
    intro I hm hP hfr
    refine aw_iload rfl d_P_addWays_26 ?_
    refine aw_if_ltI (tgt := 72) (((m + 1) : Nat) : Int) (nI_toInt (by omega)) (by decide) d_P_addWays_28 (fun q => absurd q (by omega)) (fun _ => ?_)
    refine aw_aload_n rfl rfl d_P_addWays_31 ?_
    refine aw_getr fl_P_24 kp_160 (by decide) rfl rp_160_5 d_P_addWays_32 ?_
    refine aw_iload_n rfl rfl d_P_addWays_35 ?_
    refine aw_iload rfl d_P_addWays_36 ?_
    refine aw_iast (j := 2) kp_165 (vp_in_nI (by decide) (by decide)) (nI_clamp (by decide)) d_P_addWays_38 ?_
    refine aw_aload_n rfl rfl d_P_addWays_39 ?_
    refine aw_iload_n rfl rfl d_P_addWays_40 ?_
    refine aw_iconst (v := nI 1) ci_1 d_P_addWays_41 ?_
    refine aw_isub d_P_addWays_42 ?_
    refine aw_top (x2 := nI 1) (by decide +kernel) ?_
    refine aw_iload_n rfl rfl d_P_addWays_43 ?_
    refine aw_iload rfl d_P_addWays_44 ?_
    refine aw_iload_n rfl rfl d_P_addWays_46 ?_
    refine aw_imulN d_P_addWays_47 ?_
    refine aw_isubN (by omega) d_P_addWays_48 ?_
    refine aw_iload_n rfl rfl d_P_addWays_49 ?_
    refine aw_if_neI (tgt := 62) (gx).toInt rfl (by decide) d_P_addWays_50 (fun c1 => ?_) (fun c1 => ?_)
    · refine aw_iload_n rfl rfl d_P_addWays_62 ?_
      refine as_callV (as := [.int (nI 1), .int (nI ((lf0 - ((m + 1) * 2)))), .int (gx)]) (d' := 4) (q := ("SinglesUp$Packer", zT6, 7)) mo_P_addWays lk_P_31 kp_160 rfl rfl rfl ⟨by decide, by decide⟩ rfl rfl (by decide) d_P_addWays_63 (sp_add_1 (I := upd2 I 165 (2) (nI ((m + 1)))) (lf0 := (lf0 - ((m + 1) * 2))) (gx := gx) (by omega) (KP_up (by decide) hP) (fun J2 kp3 fq4 => ?_))
      have F5 : ∀ q, q ≠ 160 ∧ q ≠ 161 ∧ q ≠ 162 ∧ q ≠ 165 → J2 q = I0 q := fun q hq => (fq4 q hq).trans ((upd2_ne hq.2.2.2).trans (hfr q hq))
      refine (show As l b 5 y_P_addWays KC GP K2 (J2) 66 [.ref 160, .int (nI 2), .int (nI (lf0)), .int (gx), .int (nI ((m + 1)))] [] from ?_)
      refine aw_iinc (v := nI (m)) (lv2 := [.ref 160, .int (nI 2), .int (nI (lf0)), .int (gx), .int (nI (m))]) rfl (nI_m1 m) (by decide) rfl d_P_addWays_66 ?_
      refine aw_goto (tgt := 26) (by decide) d_P_addWays_69 ?_
      exact ih _ (by omega) kp3 (fun q hq => F5 q hq)
    · refine aw_iload rfl d_P_addWays_53 ?_
      refine aw_if_leI (tgt := 62) (((m + 1) : Nat) : Int) (nI_toInt (by omega)) (by decide) d_P_addWays_55 (fun c6 => ?_) (fun c6 => ?_)
      · refine aw_iload_n rfl rfl d_P_addWays_62 ?_
        refine as_callV (as := [.int (nI 1), .int (nI ((lf0 - ((m + 1) * 2)))), .int (gx)]) (d' := 4) (q := ("SinglesUp$Packer", zT6, 7)) mo_P_addWays lk_P_31 kp_160 rfl rfl rfl ⟨by decide, by decide⟩ rfl rfl (by decide) d_P_addWays_63 (sp_add_1 (I := upd2 I 165 (2) (nI ((m + 1)))) (lf0 := (lf0 - ((m + 1) * 2))) (gx := gx) (by omega) (KP_up (by decide) hP) (fun J7 kp8 fq9 => ?_))
        have F10 : ∀ q, q ≠ 160 ∧ q ≠ 161 ∧ q ≠ 162 ∧ q ≠ 165 → J7 q = I0 q := fun q hq => (fq9 q hq).trans ((upd2_ne hq.2.2.2).trans (hfr q hq))
        refine (show As l b 5 y_P_addWays KC GP K2 (J7) 66 [.ref 160, .int (nI 2), .int (nI (lf0)), .int (gx), .int (nI ((m + 1)))] [] from ?_)
        refine aw_iinc (v := nI (m)) (lv2 := [.ref 160, .int (nI 2), .int (nI (lf0)), .int (gx), .int (nI (m))]) rfl (nI_m1 m) (by decide) rfl d_P_addWays_66 ?_
        refine aw_goto (tgt := 26) (by decide) d_P_addWays_69 ?_
        exact ih _ (by omega) kp8 (fun q hq => F10 q hq)
      · refine aw_iload_n rfl rfl d_P_addWays_58 ?_
        refine aw_goto (tgt := 63) (by decide) d_P_addWays_59 ?_
        refine as_callV (as := [.int (nI 1), .int (nI ((lf0 - ((m + 1) * 2)))), .int (nI 2)]) (d' := 4) (q := ("SinglesUp$Packer", zT6, 7)) mo_P_addWays lk_P_31 kp_160 rfl rfl rfl ⟨by decide, by decide⟩ rfl rfl (by decide) d_P_addWays_63 (sp_add_1 (I := upd2 I 165 (2) (nI ((m + 1)))) (lf0 := (lf0 - ((m + 1) * 2))) (gx := nI 2) (by omega) (KP_up (by decide) hP) (fun J11 kp12 fq13 => ?_))
        have F14 : ∀ q, q ≠ 160 ∧ q ≠ 161 ∧ q ≠ 162 ∧ q ≠ 165 → J11 q = I0 q := fun q hq => (fq13 q hq).trans ((upd2_ne hq.2.2.2).trans (hfr q hq))
        refine (show As l b 5 y_P_addWays KC GP K2 (J11) 66 [.ref 160, .int (nI 2), .int (nI (lf0)), .int (gx), .int (nI ((m + 1)))] [] from ?_)
        refine aw_iinc (v := nI (m)) (lv2 := [.ref 160, .int (nI 2), .int (nI (lf0)), .int (gx), .int (nI (m))]) rfl (nI_m1 m) (by decide) rfl d_P_addWays_66 ?_
        refine aw_goto (tgt := 26) (by decide) d_P_addWays_69 ?_
        exact ih _ (by omega) kp12 (fun q hq => F14 q hq)
set_option maxRecDepth 20000 in
theorem sp_add_2 {K2 : K2T} {I : Nat → Nat → Int32} {lf0 : Nat} {gx : Int32} (hl : lf0 ≤ 8) (hP : KP I) (hK : ∀ J, KP J → (∀ q, q ≠ 160 ∧ q ≠ 161 ∧ q ≠ 162 ∧ q ≠ 165 → J q = I q) → K2 none J) : Ss l b 5 y_P_addWays KC GP [.ref 160, .int (nI 2), .int (nI (lf0)), .int (gx)] (I) K2 := by
  refine Ss.of (show As l b 5 y_P_addWays KC GP K2 (I) 0 [.ref 160, .int (nI 2), .int (nI (lf0)), .int (gx), uu] [] from ?_)
  refine aw_iload_n rfl rfl d_P_addWays_0 ?_
  refine aw_iconst (v := nI 1) ci_1 d_P_addWays_1 ?_
  refine aw_icmp_ltI (tgt := 11) (2) (1) (by decide +kernel) (by decide +kernel) (by decide) d_P_addWays_2 (fun q => absurd q (by decide)) (fun _ => ?_)
  refine aw_iload_n rfl rfl d_P_addWays_5 ?_
  refine aw_bipush (v := nI 8) q1_cb_8 d_P_addWays_6 ?_
  refine aw_icmp_leI (tgt := 21) (2) (8) (by decide +kernel) (by decide +kernel) (by decide) d_P_addWays_8 (fun _ => ?_) (fun q => absurd q (by decide))
  refine aw_iload_n rfl rfl d_P_addWays_21 ?_
  refine aw_iload_n rfl rfl d_P_addWays_22 ?_
  refine aw_idivN (by omega) (by omega) (by omega) d_P_addWays_23 ?_
  refine aw_istore (lv2 := [.ref 160, .int (nI 2), .int (nI (lf0)), .int (gx), .int (nI ((lf0 / 2)))]) (by decide) rfl d_P_addWays_24 ?_
  exact lp_add_2 hl hK (lf0 / 2) I (by omega) hP (fun q hq => rfl)
set_option maxRecDepth 20000 in
theorem lp_add_3 {K2 : K2T} {I0 : Nat → Nat → Int32} {lf0 : Nat} {gx : Int32} (hl : lf0 ≤ 8) (hK : ∀ J, KP J → (∀ q, q ≠ 160 ∧ q ≠ 161 ∧ q ≠ 162 ∧ q ≠ 165 → J q = I0 q) → K2 none J) : ∀ (m : Nat) (I : Nat → Nat → Int32), m * 3 ≤ lf0 → KP I → (∀ q, q ≠ 160 ∧ q ≠ 161 ∧ q ≠ 162 ∧ q ≠ 165 → I q = I0 q) → As l b 6 y_P_addWays KC GP K2 (I) 26 [.ref 160, .int (nI 3), .int (nI (lf0)), .int (gx), .int (nI (m))] [] := by
  intro m
  induction m with
  | zero =>
    intro I hm hP hfr
    refine aw_iload rfl d_P_addWays_26 ?_
    refine aw_if_ltI (tgt := 72) (0) (by decide +kernel) (by decide) d_P_addWays_28 (fun q => absurd q (by decide)) (fun _ => ?_)
    refine aw_aload_n rfl rfl d_P_addWays_31 ?_
    refine aw_getr fl_P_24 kp_160 (by decide) rfl rp_160_5 d_P_addWays_32 ?_
    refine aw_iload_n rfl rfl d_P_addWays_35 ?_
    refine aw_iload rfl d_P_addWays_36 ?_
    refine aw_iast (j := 3) kp_165 (vp_in_nI (by decide) (by decide)) (nI_clamp (by decide)) d_P_addWays_38 ?_
    refine aw_aload_n rfl rfl d_P_addWays_39 ?_
    refine aw_iload_n rfl rfl d_P_addWays_40 ?_
    refine aw_iconst (v := nI 1) ci_1 d_P_addWays_41 ?_
    refine aw_isub d_P_addWays_42 ?_
    refine aw_top (x2 := nI 2) (by decide +kernel) ?_
    refine aw_iload_n rfl rfl d_P_addWays_43 ?_
    refine aw_iload rfl d_P_addWays_44 ?_
    refine aw_iload_n rfl rfl d_P_addWays_46 ?_
    refine aw_imul d_P_addWays_47 ?_
    refine aw_top (x2 := nI 0) (by decide +kernel) ?_
    refine aw_isubN (by omega) d_P_addWays_48 ?_
    refine aw_iload_n rfl rfl d_P_addWays_49 ?_
    refine aw_if_neI (tgt := 62) (gx).toInt rfl (by decide) d_P_addWays_50 (fun c1 => ?_) (fun c1 => ?_)
    · refine aw_iload_n rfl rfl d_P_addWays_62 ?_
      refine as_callV (as := [.int (nI 2), .int (nI ((lf0 - 0))), .int (gx)]) (d' := 5) (q := ("SinglesUp$Packer", zT6, 7)) mo_P_addWays lk_P_31 kp_160 rfl rfl rfl ⟨by decide, by decide⟩ rfl rfl (by decide) d_P_addWays_63 (sp_add_2 (I := upd2 I 165 (3) (nI 0)) (lf0 := (lf0 - 0)) (gx := gx) (by omega) (KP_up (by decide) hP) (fun J2 kp3 fq4 => ?_))
      have F5 : ∀ q, q ≠ 160 ∧ q ≠ 161 ∧ q ≠ 162 ∧ q ≠ 165 → J2 q = I0 q := fun q hq => (fq4 q hq).trans ((upd2_ne hq.2.2.2).trans (hfr q hq))
      refine (show As l b 6 y_P_addWays KC GP K2 (J2) 66 [.ref 160, .int (nI 3), .int (nI (lf0)), .int (gx), .int (nI 0)] [] from ?_)
      refine aw_iinc (v := (-1 : Int32)) (lv2 := [.ref 160, .int (nI 3), .int (nI (lf0)), .int (gx), .int ((-1 : Int32))]) rfl (by decide +kernel) (by decide) rfl d_P_addWays_66 ?_
      refine aw_goto (tgt := 26) (by decide) d_P_addWays_69 ?_
      refine aw_iload rfl d_P_addWays_26 ?_
      refine aw_if_ltI (tgt := 72) (-1) (by decide +kernel) (by decide) d_P_addWays_28 (fun _ => ?_) (fun q => absurd q (by decide))
      exact as_retv rfl d_P_addWays_72 (hK _ kp3 (fun q hq => F5 q hq))
    · refine aw_iload rfl d_P_addWays_53 ?_
      refine aw_if_leI (tgt := 62) (0) (by decide +kernel) (by decide) d_P_addWays_55 (fun _ => ?_) (fun q => absurd q (by decide))
      refine aw_iload_n rfl rfl d_P_addWays_62 ?_
      refine as_callV (as := [.int (nI 2), .int (nI ((lf0 - 0))), .int (gx)]) (d' := 5) (q := ("SinglesUp$Packer", zT6, 7)) mo_P_addWays lk_P_31 kp_160 rfl rfl rfl ⟨by decide, by decide⟩ rfl rfl (by decide) d_P_addWays_63 (sp_add_2 (I := upd2 I 165 (3) (nI 0)) (lf0 := (lf0 - 0)) (gx := gx) (by omega) (KP_up (by decide) hP) (fun J6 kp7 fq8 => ?_))
      have F9 : ∀ q, q ≠ 160 ∧ q ≠ 161 ∧ q ≠ 162 ∧ q ≠ 165 → J6 q = I0 q := fun q hq => (fq8 q hq).trans ((upd2_ne hq.2.2.2).trans (hfr q hq))
      refine (show As l b 6 y_P_addWays KC GP K2 (J6) 66 [.ref 160, .int (nI 3), .int (nI (lf0)), .int (gx), .int (nI 0)] [] from ?_)
      refine aw_iinc (v := (-1 : Int32)) (lv2 := [.ref 160, .int (nI 3), .int (nI (lf0)), .int (gx), .int ((-1 : Int32))]) rfl (by decide +kernel) (by decide) rfl d_P_addWays_66 ?_
      refine aw_goto (tgt := 26) (by decide) d_P_addWays_69 ?_
      refine aw_iload rfl d_P_addWays_26 ?_
      refine aw_if_ltI (tgt := 72) (-1) (by decide +kernel) (by decide) d_P_addWays_28 (fun _ => ?_) (fun q => absurd q (by decide))
      exact as_retv rfl d_P_addWays_72 (hK _ kp7 (fun q hq => F9 q hq))
  | succ m ih =>
    intro I hm hP hfr
    refine aw_iload rfl d_P_addWays_26 ?_
    refine aw_if_ltI (tgt := 72) (((m + 1) : Nat) : Int) (nI_toInt (by omega)) (by decide) d_P_addWays_28 (fun q => absurd q (by omega)) (fun _ => ?_)
    refine aw_aload_n rfl rfl d_P_addWays_31 ?_
    refine aw_getr fl_P_24 kp_160 (by decide) rfl rp_160_5 d_P_addWays_32 ?_
    refine aw_iload_n rfl rfl d_P_addWays_35 ?_
    refine aw_iload rfl d_P_addWays_36 ?_
    refine aw_iast (j := 3) kp_165 (vp_in_nI (by decide) (by decide)) (nI_clamp (by decide)) d_P_addWays_38 ?_
    refine aw_aload_n rfl rfl d_P_addWays_39 ?_
    refine aw_iload_n rfl rfl d_P_addWays_40 ?_
    refine aw_iconst (v := nI 1) ci_1 d_P_addWays_41 ?_
    refine aw_isub d_P_addWays_42 ?_
    refine aw_top (x2 := nI 2) (by decide +kernel) ?_
    refine aw_iload_n rfl rfl d_P_addWays_43 ?_
    refine aw_iload rfl d_P_addWays_44 ?_
    refine aw_iload_n rfl rfl d_P_addWays_46 ?_
    refine aw_imulN d_P_addWays_47 ?_
    refine aw_isubN (by omega) d_P_addWays_48 ?_
    refine aw_iload_n rfl rfl d_P_addWays_49 ?_
    refine aw_if_neI (tgt := 62) (gx).toInt rfl (by decide) d_P_addWays_50 (fun c1 => ?_) (fun c1 => ?_)
    · refine aw_iload_n rfl rfl d_P_addWays_62 ?_
      refine as_callV (as := [.int (nI 2), .int (nI ((lf0 - ((m + 1) * 3)))), .int (gx)]) (d' := 5) (q := ("SinglesUp$Packer", zT6, 7)) mo_P_addWays lk_P_31 kp_160 rfl rfl rfl ⟨by decide, by decide⟩ rfl rfl (by decide) d_P_addWays_63 (sp_add_2 (I := upd2 I 165 (3) (nI ((m + 1)))) (lf0 := (lf0 - ((m + 1) * 3))) (gx := gx) (by omega) (KP_up (by decide) hP) (fun J2 kp3 fq4 => ?_))
      have F5 : ∀ q, q ≠ 160 ∧ q ≠ 161 ∧ q ≠ 162 ∧ q ≠ 165 → J2 q = I0 q := fun q hq => (fq4 q hq).trans ((upd2_ne hq.2.2.2).trans (hfr q hq))
      refine (show As l b 6 y_P_addWays KC GP K2 (J2) 66 [.ref 160, .int (nI 3), .int (nI (lf0)), .int (gx), .int (nI ((m + 1)))] [] from ?_)
      refine aw_iinc (v := nI (m)) (lv2 := [.ref 160, .int (nI 3), .int (nI (lf0)), .int (gx), .int (nI (m))]) rfl (nI_m1 m) (by decide) rfl d_P_addWays_66 ?_
      refine aw_goto (tgt := 26) (by decide) d_P_addWays_69 ?_
      exact ih _ (by omega) kp3 (fun q hq => F5 q hq)
    · refine aw_iload rfl d_P_addWays_53 ?_
      refine aw_if_leI (tgt := 62) (((m + 1) : Nat) : Int) (nI_toInt (by omega)) (by decide) d_P_addWays_55 (fun c6 => ?_) (fun c6 => ?_)
      · refine aw_iload_n rfl rfl d_P_addWays_62 ?_
        refine as_callV (as := [.int (nI 2), .int (nI ((lf0 - ((m + 1) * 3)))), .int (gx)]) (d' := 5) (q := ("SinglesUp$Packer", zT6, 7)) mo_P_addWays lk_P_31 kp_160 rfl rfl rfl ⟨by decide, by decide⟩ rfl rfl (by decide) d_P_addWays_63 (sp_add_2 (I := upd2 I 165 (3) (nI ((m + 1)))) (lf0 := (lf0 - ((m + 1) * 3))) (gx := gx) (by omega) (KP_up (by decide) hP) (fun J7 kp8 fq9 => ?_))
        have F10 : ∀ q, q ≠ 160 ∧ q ≠ 161 ∧ q ≠ 162 ∧ q ≠ 165 → J7 q = I0 q := fun q hq => (fq9 q hq).trans ((upd2_ne hq.2.2.2).trans (hfr q hq))
        refine (show As l b 6 y_P_addWays KC GP K2 (J7) 66 [.ref 160, .int (nI 3), .int (nI (lf0)), .int (gx), .int (nI ((m + 1)))] [] from ?_)
        refine aw_iinc (v := nI (m)) (lv2 := [.ref 160, .int (nI 3), .int (nI (lf0)), .int (gx), .int (nI (m))]) rfl (nI_m1 m) (by decide) rfl d_P_addWays_66 ?_
        refine aw_goto (tgt := 26) (by decide) d_P_addWays_69 ?_
        exact ih _ (by omega) kp8 (fun q hq => F10 q hq)
      · refine aw_iload_n rfl rfl d_P_addWays_58 ?_
        refine aw_goto (tgt := 63) (by decide) d_P_addWays_59 ?_
        refine as_callV (as := [.int (nI 2), .int (nI ((lf0 - ((m + 1) * 3)))), .int (nI 3)]) (d' := 5) (q := ("SinglesUp$Packer", zT6, 7)) mo_P_addWays lk_P_31 kp_160 rfl rfl rfl ⟨by decide, by decide⟩ rfl rfl (by decide) d_P_addWays_63 (sp_add_2 (I := upd2 I 165 (3) (nI ((m + 1)))) (lf0 := (lf0 - ((m + 1) * 3))) (gx := nI 3) (by omega) (KP_up (by decide) hP) (fun J11 kp12 fq13 => ?_))
        have F14 : ∀ q, q ≠ 160 ∧ q ≠ 161 ∧ q ≠ 162 ∧ q ≠ 165 → J11 q = I0 q := fun q hq => (fq13 q hq).trans ((upd2_ne hq.2.2.2).trans (hfr q hq))
        refine (show As l b 6 y_P_addWays KC GP K2 (J11) 66 [.ref 160, .int (nI 3), .int (nI (lf0)), .int (gx), .int (nI ((m + 1)))] [] from ?_)
        refine aw_iinc (v := nI (m)) (lv2 := [.ref 160, .int (nI 3), .int (nI (lf0)), .int (gx), .int (nI (m))]) rfl (nI_m1 m) (by decide) rfl d_P_addWays_66 ?_
        refine aw_goto (tgt := 26) (by decide) d_P_addWays_69 ?_
        exact ih _ (by omega) kp12 (fun q hq => F14 q hq)
set_option maxRecDepth 20000 in
theorem sp_add_3 {K2 : K2T} {I : Nat → Nat → Int32} {lf0 : Nat} {gx : Int32} (hl : lf0 ≤ 8) (hP : KP I) (hK : ∀ J, KP J → (∀ q, q ≠ 160 ∧ q ≠ 161 ∧ q ≠ 162 ∧ q ≠ 165 → J q = I q) → K2 none J) : Ss l b 6 y_P_addWays KC GP [.ref 160, .int (nI 3), .int (nI (lf0)), .int (gx)] (I) K2 := by
  refine Ss.of (show As l b 6 y_P_addWays KC GP K2 (I) 0 [.ref 160, .int (nI 3), .int (nI (lf0)), .int (gx), uu] [] from ?_)
  refine aw_iload_n rfl rfl d_P_addWays_0 ?_
  refine aw_iconst (v := nI 1) ci_1 d_P_addWays_1 ?_
  refine aw_icmp_ltI (tgt := 11) (3) (1) (by decide +kernel) (by decide +kernel) (by decide) d_P_addWays_2 (fun q => absurd q (by decide)) (fun _ => ?_)
  refine aw_iload_n rfl rfl d_P_addWays_5 ?_
  refine aw_bipush (v := nI 8) q1_cb_8 d_P_addWays_6 ?_
  refine aw_icmp_leI (tgt := 21) (3) (8) (by decide +kernel) (by decide +kernel) (by decide) d_P_addWays_8 (fun _ => ?_) (fun q => absurd q (by decide))
  refine aw_iload_n rfl rfl d_P_addWays_21 ?_
  refine aw_iload_n rfl rfl d_P_addWays_22 ?_
  refine aw_idivN (by omega) (by omega) (by omega) d_P_addWays_23 ?_
  refine aw_istore (lv2 := [.ref 160, .int (nI 3), .int (nI (lf0)), .int (gx), .int (nI ((lf0 / 3)))]) (by decide) rfl d_P_addWays_24 ?_
  exact lp_add_3 hl hK (lf0 / 3) I (by omega) hP (fun q hq => rfl)
set_option maxRecDepth 20000 in
theorem lp_add_4 {K2 : K2T} {I0 : Nat → Nat → Int32} {lf0 : Nat} {gx : Int32} (hl : lf0 ≤ 8) (hK : ∀ J, KP J → (∀ q, q ≠ 160 ∧ q ≠ 161 ∧ q ≠ 162 ∧ q ≠ 165 → J q = I0 q) → K2 none J) : ∀ (m : Nat) (I : Nat → Nat → Int32), m * 4 ≤ lf0 → KP I → (∀ q, q ≠ 160 ∧ q ≠ 161 ∧ q ≠ 162 ∧ q ≠ 165 → I q = I0 q) → As l b 7 y_P_addWays KC GP K2 (I) 26 [.ref 160, .int (nI 4), .int (nI (lf0)), .int (gx), .int (nI (m))] [] := by
  intro m
  induction m with
  | zero =>
    intro I hm hP hfr
    refine aw_iload rfl d_P_addWays_26 ?_
    refine aw_if_ltI (tgt := 72) (0) (by decide +kernel) (by decide) d_P_addWays_28 (fun q => absurd q (by decide)) (fun _ => ?_)
    refine aw_aload_n rfl rfl d_P_addWays_31 ?_
    refine aw_getr fl_P_24 kp_160 (by decide) rfl rp_160_5 d_P_addWays_32 ?_
    refine aw_iload_n rfl rfl d_P_addWays_35 ?_
    refine aw_iload rfl d_P_addWays_36 ?_
    refine aw_iast (j := 4) kp_165 (vp_in_nI (by decide) (by decide)) (nI_clamp (by decide)) d_P_addWays_38 ?_
    refine aw_aload_n rfl rfl d_P_addWays_39 ?_
    refine aw_iload_n rfl rfl d_P_addWays_40 ?_
    refine aw_iconst (v := nI 1) ci_1 d_P_addWays_41 ?_
    refine aw_isub d_P_addWays_42 ?_
    refine aw_top (x2 := nI 3) (by decide +kernel) ?_
    refine aw_iload_n rfl rfl d_P_addWays_43 ?_
    refine aw_iload rfl d_P_addWays_44 ?_
    refine aw_iload_n rfl rfl d_P_addWays_46 ?_
    refine aw_imul d_P_addWays_47 ?_
    refine aw_top (x2 := nI 0) (by decide +kernel) ?_
    refine aw_isubN (by omega) d_P_addWays_48 ?_
    refine aw_iload_n rfl rfl d_P_addWays_49 ?_
    refine aw_if_neI (tgt := 62) (gx).toInt rfl (by decide) d_P_addWays_50 (fun c1 => ?_) (fun c1 => ?_)
    · refine aw_iload_n rfl rfl d_P_addWays_62 ?_
      refine as_callV (as := [.int (nI 3), .int (nI ((lf0 - 0))), .int (gx)]) (d' := 6) (q := ("SinglesUp$Packer", zT6, 7)) mo_P_addWays lk_P_31 kp_160 rfl rfl rfl ⟨by decide, by decide⟩ rfl rfl (by decide) d_P_addWays_63 (sp_add_3 (I := upd2 I 165 (4) (nI 0)) (lf0 := (lf0 - 0)) (gx := gx) (by omega) (KP_up (by decide) hP) (fun J2 kp3 fq4 => ?_))
      have F5 : ∀ q, q ≠ 160 ∧ q ≠ 161 ∧ q ≠ 162 ∧ q ≠ 165 → J2 q = I0 q := fun q hq => (fq4 q hq).trans ((upd2_ne hq.2.2.2).trans (hfr q hq))
      refine (show As l b 7 y_P_addWays KC GP K2 (J2) 66 [.ref 160, .int (nI 4), .int (nI (lf0)), .int (gx), .int (nI 0)] [] from ?_)
      refine aw_iinc (v := (-1 : Int32)) (lv2 := [.ref 160, .int (nI 4), .int (nI (lf0)), .int (gx), .int ((-1 : Int32))]) rfl (by decide +kernel) (by decide) rfl d_P_addWays_66 ?_
      refine aw_goto (tgt := 26) (by decide) d_P_addWays_69 ?_
      refine aw_iload rfl d_P_addWays_26 ?_
      refine aw_if_ltI (tgt := 72) (-1) (by decide +kernel) (by decide) d_P_addWays_28 (fun _ => ?_) (fun q => absurd q (by decide))
      exact as_retv rfl d_P_addWays_72 (hK _ kp3 (fun q hq => F5 q hq))
    · refine aw_iload rfl d_P_addWays_53 ?_
      refine aw_if_leI (tgt := 62) (0) (by decide +kernel) (by decide) d_P_addWays_55 (fun _ => ?_) (fun q => absurd q (by decide))
      refine aw_iload_n rfl rfl d_P_addWays_62 ?_
      refine as_callV (as := [.int (nI 3), .int (nI ((lf0 - 0))), .int (gx)]) (d' := 6) (q := ("SinglesUp$Packer", zT6, 7)) mo_P_addWays lk_P_31 kp_160 rfl rfl rfl ⟨by decide, by decide⟩ rfl rfl (by decide) d_P_addWays_63 (sp_add_3 (I := upd2 I 165 (4) (nI 0)) (lf0 := (lf0 - 0)) (gx := gx) (by omega) (KP_up (by decide) hP) (fun J6 kp7 fq8 => ?_))
      have F9 : ∀ q, q ≠ 160 ∧ q ≠ 161 ∧ q ≠ 162 ∧ q ≠ 165 → J6 q = I0 q := fun q hq => (fq8 q hq).trans ((upd2_ne hq.2.2.2).trans (hfr q hq))
      refine (show As l b 7 y_P_addWays KC GP K2 (J6) 66 [.ref 160, .int (nI 4), .int (nI (lf0)), .int (gx), .int (nI 0)] [] from ?_)
      refine aw_iinc (v := (-1 : Int32)) (lv2 := [.ref 160, .int (nI 4), .int (nI (lf0)), .int (gx), .int ((-1 : Int32))]) rfl (by decide +kernel) (by decide) rfl d_P_addWays_66 ?_
      refine aw_goto (tgt := 26) (by decide) d_P_addWays_69 ?_
      refine aw_iload rfl d_P_addWays_26 ?_
      refine aw_if_ltI (tgt := 72) (-1) (by decide +kernel) (by decide) d_P_addWays_28 (fun _ => ?_) (fun q => absurd q (by decide))
      exact as_retv rfl d_P_addWays_72 (hK _ kp7 (fun q hq => F9 q hq))
  | succ m ih =>
    intro I hm hP hfr
    refine aw_iload rfl d_P_addWays_26 ?_
    refine aw_if_ltI (tgt := 72) (((m + 1) : Nat) : Int) (nI_toInt (by omega)) (by decide) d_P_addWays_28 (fun q => absurd q (by omega)) (fun _ => ?_)
    refine aw_aload_n rfl rfl d_P_addWays_31 ?_
    refine aw_getr fl_P_24 kp_160 (by decide) rfl rp_160_5 d_P_addWays_32 ?_
    refine aw_iload_n rfl rfl d_P_addWays_35 ?_
    refine aw_iload rfl d_P_addWays_36 ?_
    refine aw_iast (j := 4) kp_165 (vp_in_nI (by decide) (by decide)) (nI_clamp (by decide)) d_P_addWays_38 ?_
    refine aw_aload_n rfl rfl d_P_addWays_39 ?_
    refine aw_iload_n rfl rfl d_P_addWays_40 ?_
    refine aw_iconst (v := nI 1) ci_1 d_P_addWays_41 ?_
    refine aw_isub d_P_addWays_42 ?_
    refine aw_top (x2 := nI 3) (by decide +kernel) ?_
    refine aw_iload_n rfl rfl d_P_addWays_43 ?_
    refine aw_iload rfl d_P_addWays_44 ?_
    refine aw_iload_n rfl rfl d_P_addWays_46 ?_
    refine aw_imulN d_P_addWays_47 ?_
    refine aw_isubN (by omega) d_P_addWays_48 ?_
    refine aw_iload_n rfl rfl d_P_addWays_49 ?_
    refine aw_if_neI (tgt := 62) (gx).toInt rfl (by decide) d_P_addWays_50 (fun c1 => ?_) (fun c1 => ?_)
    · refine aw_iload_n rfl rfl d_P_addWays_62 ?_
      refine as_callV (as := [.int (nI 3), .int (nI ((lf0 - ((m + 1) * 4)))), .int (gx)]) (d' := 6) (q := ("SinglesUp$Packer", zT6, 7)) mo_P_addWays lk_P_31 kp_160 rfl rfl rfl ⟨by decide, by decide⟩ rfl rfl (by decide) d_P_addWays_63 (sp_add_3 (I := upd2 I 165 (4) (nI ((m + 1)))) (lf0 := (lf0 - ((m + 1) * 4))) (gx := gx) (by omega) (KP_up (by decide) hP) (fun J2 kp3 fq4 => ?_))
      have F5 : ∀ q, q ≠ 160 ∧ q ≠ 161 ∧ q ≠ 162 ∧ q ≠ 165 → J2 q = I0 q := fun q hq => (fq4 q hq).trans ((upd2_ne hq.2.2.2).trans (hfr q hq))
      refine (show As l b 7 y_P_addWays KC GP K2 (J2) 66 [.ref 160, .int (nI 4), .int (nI (lf0)), .int (gx), .int (nI ((m + 1)))] [] from ?_)
      refine aw_iinc (v := nI (m)) (lv2 := [.ref 160, .int (nI 4), .int (nI (lf0)), .int (gx), .int (nI (m))]) rfl (nI_m1 m) (by decide) rfl d_P_addWays_66 ?_
      refine aw_goto (tgt := 26) (by decide) d_P_addWays_69 ?_
      exact ih _ (by omega) kp3 (fun q hq => F5 q hq)
    · refine aw_iload rfl d_P_addWays_53 ?_
      refine aw_if_leI (tgt := 62) (((m + 1) : Nat) : Int) (nI_toInt (by omega)) (by decide) d_P_addWays_55 (fun c6 => ?_) (fun c6 => ?_)
      · refine aw_iload_n rfl rfl d_P_addWays_62 ?_
        refine as_callV (as := [.int (nI 3), .int (nI ((lf0 - ((m + 1) * 4)))), .int (gx)]) (d' := 6) (q := ("SinglesUp$Packer", zT6, 7)) mo_P_addWays lk_P_31 kp_160 rfl rfl rfl ⟨by decide, by decide⟩ rfl rfl (by decide) d_P_addWays_63 (sp_add_3 (I := upd2 I 165 (4) (nI ((m + 1)))) (lf0 := (lf0 - ((m + 1) * 4))) (gx := gx) (by omega) (KP_up (by decide) hP) (fun J7 kp8 fq9 => ?_))
        have F10 : ∀ q, q ≠ 160 ∧ q ≠ 161 ∧ q ≠ 162 ∧ q ≠ 165 → J7 q = I0 q := fun q hq => (fq9 q hq).trans ((upd2_ne hq.2.2.2).trans (hfr q hq))
        refine (show As l b 7 y_P_addWays KC GP K2 (J7) 66 [.ref 160, .int (nI 4), .int (nI (lf0)), .int (gx), .int (nI ((m + 1)))] [] from ?_)
        refine aw_iinc (v := nI (m)) (lv2 := [.ref 160, .int (nI 4), .int (nI (lf0)), .int (gx), .int (nI (m))]) rfl (nI_m1 m) (by decide) rfl d_P_addWays_66 ?_
        refine aw_goto (tgt := 26) (by decide) d_P_addWays_69 ?_
        exact ih _ (by omega) kp8 (fun q hq => F10 q hq)
      · refine aw_iload_n rfl rfl d_P_addWays_58 ?_
        refine aw_goto (tgt := 63) (by decide) d_P_addWays_59 ?_
        refine as_callV (as := [.int (nI 3), .int (nI ((lf0 - ((m + 1) * 4)))), .int (nI 4)]) (d' := 6) (q := ("SinglesUp$Packer", zT6, 7)) mo_P_addWays lk_P_31 kp_160 rfl rfl rfl ⟨by decide, by decide⟩ rfl rfl (by decide) d_P_addWays_63 (sp_add_3 (I := upd2 I 165 (4) (nI ((m + 1)))) (lf0 := (lf0 - ((m + 1) * 4))) (gx := nI 4) (by omega) (KP_up (by decide) hP) (fun J11 kp12 fq13 => ?_))
        have F14 : ∀ q, q ≠ 160 ∧ q ≠ 161 ∧ q ≠ 162 ∧ q ≠ 165 → J11 q = I0 q := fun q hq => (fq13 q hq).trans ((upd2_ne hq.2.2.2).trans (hfr q hq))
        refine (show As l b 7 y_P_addWays KC GP K2 (J11) 66 [.ref 160, .int (nI 4), .int (nI (lf0)), .int (gx), .int (nI ((m + 1)))] [] from ?_)
        refine aw_iinc (v := nI (m)) (lv2 := [.ref 160, .int (nI 4), .int (nI (lf0)), .int (gx), .int (nI (m))]) rfl (nI_m1 m) (by decide) rfl d_P_addWays_66 ?_
        refine aw_goto (tgt := 26) (by decide) d_P_addWays_69 ?_
        exact ih _ (by omega) kp12 (fun q hq => F14 q hq)
set_option maxRecDepth 20000 in
theorem sp_add_4 {K2 : K2T} {I : Nat → Nat → Int32} {lf0 : Nat} {gx : Int32} (hl : lf0 ≤ 8) (hP : KP I) (hK : ∀ J, KP J → (∀ q, q ≠ 160 ∧ q ≠ 161 ∧ q ≠ 162 ∧ q ≠ 165 → J q = I q) → K2 none J) : Ss l b 7 y_P_addWays KC GP [.ref 160, .int (nI 4), .int (nI (lf0)), .int (gx)] (I) K2 := by
  refine Ss.of (show As l b 7 y_P_addWays KC GP K2 (I) 0 [.ref 160, .int (nI 4), .int (nI (lf0)), .int (gx), uu] [] from ?_)
  refine aw_iload_n rfl rfl d_P_addWays_0 ?_
  refine aw_iconst (v := nI 1) ci_1 d_P_addWays_1 ?_
  refine aw_icmp_ltI (tgt := 11) (4) (1) (by decide +kernel) (by decide +kernel) (by decide) d_P_addWays_2 (fun q => absurd q (by decide)) (fun _ => ?_)
  refine aw_iload_n rfl rfl d_P_addWays_5 ?_
  refine aw_bipush (v := nI 8) q1_cb_8 d_P_addWays_6 ?_
  refine aw_icmp_leI (tgt := 21) (4) (8) (by decide +kernel) (by decide +kernel) (by decide) d_P_addWays_8 (fun _ => ?_) (fun q => absurd q (by decide))
  refine aw_iload_n rfl rfl d_P_addWays_21 ?_
  refine aw_iload_n rfl rfl d_P_addWays_22 ?_
  refine aw_idivN (by omega) (by omega) (by omega) d_P_addWays_23 ?_
  refine aw_istore (lv2 := [.ref 160, .int (nI 4), .int (nI (lf0)), .int (gx), .int (nI ((lf0 / 4)))]) (by decide) rfl d_P_addWays_24 ?_
  exact lp_add_4 hl hK (lf0 / 4) I (by omega) hP (fun q hq => rfl)
set_option maxRecDepth 20000 in
theorem lp_add_5 {K2 : K2T} {I0 : Nat → Nat → Int32} {lf0 : Nat} {gx : Int32} (hl : lf0 ≤ 8) (hK : ∀ J, KP J → (∀ q, q ≠ 160 ∧ q ≠ 161 ∧ q ≠ 162 ∧ q ≠ 165 → J q = I0 q) → K2 none J) : ∀ (m : Nat) (I : Nat → Nat → Int32), m * 5 ≤ lf0 → KP I → (∀ q, q ≠ 160 ∧ q ≠ 161 ∧ q ≠ 162 ∧ q ≠ 165 → I q = I0 q) → As l b 8 y_P_addWays KC GP K2 (I) 26 [.ref 160, .int (nI 5), .int (nI (lf0)), .int (gx), .int (nI (m))] [] := by
  intro m
  induction m with
  | zero =>
    intro I hm hP hfr
    refine aw_iload rfl d_P_addWays_26 ?_
    refine aw_if_ltI (tgt := 72) (0) (by decide +kernel) (by decide) d_P_addWays_28 (fun q => absurd q (by decide)) (fun _ => ?_)
    refine aw_aload_n rfl rfl d_P_addWays_31 ?_
    refine aw_getr fl_P_24 kp_160 (by decide) rfl rp_160_5 d_P_addWays_32 ?_
    refine aw_iload_n rfl rfl d_P_addWays_35 ?_
    refine aw_iload rfl d_P_addWays_36 ?_
    refine aw_iast (j := 5) kp_165 (vp_in_nI (by decide) (by decide)) (nI_clamp (by decide)) d_P_addWays_38 ?_
    refine aw_aload_n rfl rfl d_P_addWays_39 ?_
    refine aw_iload_n rfl rfl d_P_addWays_40 ?_
    refine aw_iconst (v := nI 1) ci_1 d_P_addWays_41 ?_
    refine aw_isub d_P_addWays_42 ?_
    refine aw_top (x2 := nI 4) (by decide +kernel) ?_
    refine aw_iload_n rfl rfl d_P_addWays_43 ?_
    refine aw_iload rfl d_P_addWays_44 ?_
    refine aw_iload_n rfl rfl d_P_addWays_46 ?_
    refine aw_imul d_P_addWays_47 ?_
    refine aw_top (x2 := nI 0) (by decide +kernel) ?_
    refine aw_isubN (by omega) d_P_addWays_48 ?_
    refine aw_iload_n rfl rfl d_P_addWays_49 ?_
    refine aw_if_neI (tgt := 62) (gx).toInt rfl (by decide) d_P_addWays_50 (fun c1 => ?_) (fun c1 => ?_)
    · refine aw_iload_n rfl rfl d_P_addWays_62 ?_
      refine as_callV (as := [.int (nI 4), .int (nI ((lf0 - 0))), .int (gx)]) (d' := 7) (q := ("SinglesUp$Packer", zT6, 7)) mo_P_addWays lk_P_31 kp_160 rfl rfl rfl ⟨by decide, by decide⟩ rfl rfl (by decide) d_P_addWays_63 (sp_add_4 (I := upd2 I 165 (5) (nI 0)) (lf0 := (lf0 - 0)) (gx := gx) (by omega) (KP_up (by decide) hP) (fun J2 kp3 fq4 => ?_))
      have F5 : ∀ q, q ≠ 160 ∧ q ≠ 161 ∧ q ≠ 162 ∧ q ≠ 165 → J2 q = I0 q := fun q hq => (fq4 q hq).trans ((upd2_ne hq.2.2.2).trans (hfr q hq))
      refine (show As l b 8 y_P_addWays KC GP K2 (J2) 66 [.ref 160, .int (nI 5), .int (nI (lf0)), .int (gx), .int (nI 0)] [] from ?_)
      refine aw_iinc (v := (-1 : Int32)) (lv2 := [.ref 160, .int (nI 5), .int (nI (lf0)), .int (gx), .int ((-1 : Int32))]) rfl (by decide +kernel) (by decide) rfl d_P_addWays_66 ?_
      refine aw_goto (tgt := 26) (by decide) d_P_addWays_69 ?_
      refine aw_iload rfl d_P_addWays_26 ?_
      refine aw_if_ltI (tgt := 72) (-1) (by decide +kernel) (by decide) d_P_addWays_28 (fun _ => ?_) (fun q => absurd q (by decide))
      exact as_retv rfl d_P_addWays_72 (hK _ kp3 (fun q hq => F5 q hq))
    · refine aw_iload rfl d_P_addWays_53 ?_
      refine aw_if_leI (tgt := 62) (0) (by decide +kernel) (by decide) d_P_addWays_55 (fun _ => ?_) (fun q => absurd q (by decide))
      refine aw_iload_n rfl rfl d_P_addWays_62 ?_
      refine as_callV (as := [.int (nI 4), .int (nI ((lf0 - 0))), .int (gx)]) (d' := 7) (q := ("SinglesUp$Packer", zT6, 7)) mo_P_addWays lk_P_31 kp_160 rfl rfl rfl ⟨by decide, by decide⟩ rfl rfl (by decide) d_P_addWays_63 (sp_add_4 (I := upd2 I 165 (5) (nI 0)) (lf0 := (lf0 - 0)) (gx := gx) (by omega) (KP_up (by decide) hP) (fun J6 kp7 fq8 => ?_))
      have F9 : ∀ q, q ≠ 160 ∧ q ≠ 161 ∧ q ≠ 162 ∧ q ≠ 165 → J6 q = I0 q := fun q hq => (fq8 q hq).trans ((upd2_ne hq.2.2.2).trans (hfr q hq))
      refine (show As l b 8 y_P_addWays KC GP K2 (J6) 66 [.ref 160, .int (nI 5), .int (nI (lf0)), .int (gx), .int (nI 0)] [] from ?_)
      refine aw_iinc (v := (-1 : Int32)) (lv2 := [.ref 160, .int (nI 5), .int (nI (lf0)), .int (gx), .int ((-1 : Int32))]) rfl (by decide +kernel) (by decide) rfl d_P_addWays_66 ?_
      refine aw_goto (tgt := 26) (by decide) d_P_addWays_69 ?_
      refine aw_iload rfl d_P_addWays_26 ?_
      refine aw_if_ltI (tgt := 72) (-1) (by decide +kernel) (by decide) d_P_addWays_28 (fun _ => ?_) (fun q => absurd q (by decide))
      exact as_retv rfl d_P_addWays_72 (hK _ kp7 (fun q hq => F9 q hq))
  | succ m ih =>
    intro I hm hP hfr
    refine aw_iload rfl d_P_addWays_26 ?_
    refine aw_if_ltI (tgt := 72) (((m + 1) : Nat) : Int) (nI_toInt (by omega)) (by decide) d_P_addWays_28 (fun q => absurd q (by omega)) (fun _ => ?_)
    refine aw_aload_n rfl rfl d_P_addWays_31 ?_
    refine aw_getr fl_P_24 kp_160 (by decide) rfl rp_160_5 d_P_addWays_32 ?_
    refine aw_iload_n rfl rfl d_P_addWays_35 ?_
    refine aw_iload rfl d_P_addWays_36 ?_
    refine aw_iast (j := 5) kp_165 (vp_in_nI (by decide) (by decide)) (nI_clamp (by decide)) d_P_addWays_38 ?_
    refine aw_aload_n rfl rfl d_P_addWays_39 ?_
    refine aw_iload_n rfl rfl d_P_addWays_40 ?_
    refine aw_iconst (v := nI 1) ci_1 d_P_addWays_41 ?_
    refine aw_isub d_P_addWays_42 ?_
    refine aw_top (x2 := nI 4) (by decide +kernel) ?_
    refine aw_iload_n rfl rfl d_P_addWays_43 ?_
    refine aw_iload rfl d_P_addWays_44 ?_
    refine aw_iload_n rfl rfl d_P_addWays_46 ?_
    refine aw_imulN d_P_addWays_47 ?_
    refine aw_isubN (by omega) d_P_addWays_48 ?_
    refine aw_iload_n rfl rfl d_P_addWays_49 ?_
    refine aw_if_neI (tgt := 62) (gx).toInt rfl (by decide) d_P_addWays_50 (fun c1 => ?_) (fun c1 => ?_)
    · refine aw_iload_n rfl rfl d_P_addWays_62 ?_
      refine as_callV (as := [.int (nI 4), .int (nI ((lf0 - ((m + 1) * 5)))), .int (gx)]) (d' := 7) (q := ("SinglesUp$Packer", zT6, 7)) mo_P_addWays lk_P_31 kp_160 rfl rfl rfl ⟨by decide, by decide⟩ rfl rfl (by decide) d_P_addWays_63 (sp_add_4 (I := upd2 I 165 (5) (nI ((m + 1)))) (lf0 := (lf0 - ((m + 1) * 5))) (gx := gx) (by omega) (KP_up (by decide) hP) (fun J2 kp3 fq4 => ?_))
      have F5 : ∀ q, q ≠ 160 ∧ q ≠ 161 ∧ q ≠ 162 ∧ q ≠ 165 → J2 q = I0 q := fun q hq => (fq4 q hq).trans ((upd2_ne hq.2.2.2).trans (hfr q hq))
      refine (show As l b 8 y_P_addWays KC GP K2 (J2) 66 [.ref 160, .int (nI 5), .int (nI (lf0)), .int (gx), .int (nI ((m + 1)))] [] from ?_)
      refine aw_iinc (v := nI (m)) (lv2 := [.ref 160, .int (nI 5), .int (nI (lf0)), .int (gx), .int (nI (m))]) rfl (nI_m1 m) (by decide) rfl d_P_addWays_66 ?_
      refine aw_goto (tgt := 26) (by decide) d_P_addWays_69 ?_
      exact ih _ (by omega) kp3 (fun q hq => F5 q hq)
    · refine aw_iload rfl d_P_addWays_53 ?_
      refine aw_if_leI (tgt := 62) (((m + 1) : Nat) : Int) (nI_toInt (by omega)) (by decide) d_P_addWays_55 (fun c6 => ?_) (fun c6 => ?_)
      · refine aw_iload_n rfl rfl d_P_addWays_62 ?_
        refine as_callV (as := [.int (nI 4), .int (nI ((lf0 - ((m + 1) * 5)))), .int (gx)]) (d' := 7) (q := ("SinglesUp$Packer", zT6, 7)) mo_P_addWays lk_P_31 kp_160 rfl rfl rfl ⟨by decide, by decide⟩ rfl rfl (by decide) d_P_addWays_63 (sp_add_4 (I := upd2 I 165 (5) (nI ((m + 1)))) (lf0 := (lf0 - ((m + 1) * 5))) (gx := gx) (by omega) (KP_up (by decide) hP) (fun J7 kp8 fq9 => ?_))
        have F10 : ∀ q, q ≠ 160 ∧ q ≠ 161 ∧ q ≠ 162 ∧ q ≠ 165 → J7 q = I0 q := fun q hq => (fq9 q hq).trans ((upd2_ne hq.2.2.2).trans (hfr q hq))
        refine (show As l b 8 y_P_addWays KC GP K2 (J7) 66 [.ref 160, .int (nI 5), .int (nI (lf0)), .int (gx), .int (nI ((m + 1)))] [] from ?_)
        refine aw_iinc (v := nI (m)) (lv2 := [.ref 160, .int (nI 5), .int (nI (lf0)), .int (gx), .int (nI (m))]) rfl (nI_m1 m) (by decide) rfl d_P_addWays_66 ?_
        refine aw_goto (tgt := 26) (by decide) d_P_addWays_69 ?_
        exact ih _ (by omega) kp8 (fun q hq => F10 q hq)
      · refine aw_iload_n rfl rfl d_P_addWays_58 ?_
        refine aw_goto (tgt := 63) (by decide) d_P_addWays_59 ?_
        refine as_callV (as := [.int (nI 4), .int (nI ((lf0 - ((m + 1) * 5)))), .int (nI 5)]) (d' := 7) (q := ("SinglesUp$Packer", zT6, 7)) mo_P_addWays lk_P_31 kp_160 rfl rfl rfl ⟨by decide, by decide⟩ rfl rfl (by decide) d_P_addWays_63 (sp_add_4 (I := upd2 I 165 (5) (nI ((m + 1)))) (lf0 := (lf0 - ((m + 1) * 5))) (gx := nI 5) (by omega) (KP_up (by decide) hP) (fun J11 kp12 fq13 => ?_))
        have F14 : ∀ q, q ≠ 160 ∧ q ≠ 161 ∧ q ≠ 162 ∧ q ≠ 165 → J11 q = I0 q := fun q hq => (fq13 q hq).trans ((upd2_ne hq.2.2.2).trans (hfr q hq))
        refine (show As l b 8 y_P_addWays KC GP K2 (J11) 66 [.ref 160, .int (nI 5), .int (nI (lf0)), .int (gx), .int (nI ((m + 1)))] [] from ?_)
        refine aw_iinc (v := nI (m)) (lv2 := [.ref 160, .int (nI 5), .int (nI (lf0)), .int (gx), .int (nI (m))]) rfl (nI_m1 m) (by decide) rfl d_P_addWays_66 ?_
        refine aw_goto (tgt := 26) (by decide) d_P_addWays_69 ?_
        exact ih _ (by omega) kp12 (fun q hq => F14 q hq)
set_option maxRecDepth 20000 in
theorem sp_add_5 {K2 : K2T} {I : Nat → Nat → Int32} {lf0 : Nat} {gx : Int32} (hl : lf0 ≤ 8) (hP : KP I) (hK : ∀ J, KP J → (∀ q, q ≠ 160 ∧ q ≠ 161 ∧ q ≠ 162 ∧ q ≠ 165 → J q = I q) → K2 none J) : Ss l b 8 y_P_addWays KC GP [.ref 160, .int (nI 5), .int (nI (lf0)), .int (gx)] (I) K2 := by
  refine Ss.of (show As l b 8 y_P_addWays KC GP K2 (I) 0 [.ref 160, .int (nI 5), .int (nI (lf0)), .int (gx), uu] [] from ?_)
  refine aw_iload_n rfl rfl d_P_addWays_0 ?_
  refine aw_iconst (v := nI 1) ci_1 d_P_addWays_1 ?_
  refine aw_icmp_ltI (tgt := 11) (5) (1) (by decide +kernel) (by decide +kernel) (by decide) d_P_addWays_2 (fun q => absurd q (by decide)) (fun _ => ?_)
  refine aw_iload_n rfl rfl d_P_addWays_5 ?_
  refine aw_bipush (v := nI 8) q1_cb_8 d_P_addWays_6 ?_
  refine aw_icmp_leI (tgt := 21) (5) (8) (by decide +kernel) (by decide +kernel) (by decide) d_P_addWays_8 (fun _ => ?_) (fun q => absurd q (by decide))
  refine aw_iload_n rfl rfl d_P_addWays_21 ?_
  refine aw_iload_n rfl rfl d_P_addWays_22 ?_
  refine aw_idivN (by omega) (by omega) (by omega) d_P_addWays_23 ?_
  refine aw_istore (lv2 := [.ref 160, .int (nI 5), .int (nI (lf0)), .int (gx), .int (nI ((lf0 / 5)))]) (by decide) rfl d_P_addWays_24 ?_
  exact lp_add_5 hl hK (lf0 / 5) I (by omega) hP (fun q hq => rfl)
set_option maxRecDepth 20000 in
theorem lp_add_6 {K2 : K2T} {I0 : Nat → Nat → Int32} {lf0 : Nat} {gx : Int32} (hl : lf0 ≤ 8) (hK : ∀ J, KP J → (∀ q, q ≠ 160 ∧ q ≠ 161 ∧ q ≠ 162 ∧ q ≠ 165 → J q = I0 q) → K2 none J) : ∀ (m : Nat) (I : Nat → Nat → Int32), m * 6 ≤ lf0 → KP I → (∀ q, q ≠ 160 ∧ q ≠ 161 ∧ q ≠ 162 ∧ q ≠ 165 → I q = I0 q) → As l b 9 y_P_addWays KC GP K2 (I) 26 [.ref 160, .int (nI 6), .int (nI (lf0)), .int (gx), .int (nI (m))] [] := by
  intro m
  induction m with
  | zero =>
    intro I hm hP hfr
    refine aw_iload rfl d_P_addWays_26 ?_
    refine aw_if_ltI (tgt := 72) (0) (by decide +kernel) (by decide) d_P_addWays_28 (fun q => absurd q (by decide)) (fun _ => ?_)
    refine aw_aload_n rfl rfl d_P_addWays_31 ?_
    refine aw_getr fl_P_24 kp_160 (by decide) rfl rp_160_5 d_P_addWays_32 ?_
    refine aw_iload_n rfl rfl d_P_addWays_35 ?_
    refine aw_iload rfl d_P_addWays_36 ?_
    refine aw_iast (j := 6) kp_165 (vp_in_nI (by decide) (by decide)) (nI_clamp (by decide)) d_P_addWays_38 ?_
    refine aw_aload_n rfl rfl d_P_addWays_39 ?_
    refine aw_iload_n rfl rfl d_P_addWays_40 ?_
    refine aw_iconst (v := nI 1) ci_1 d_P_addWays_41 ?_
    refine aw_isub d_P_addWays_42 ?_
    refine aw_top (x2 := nI 5) (by decide +kernel) ?_
    refine aw_iload_n rfl rfl d_P_addWays_43 ?_
    refine aw_iload rfl d_P_addWays_44 ?_
    refine aw_iload_n rfl rfl d_P_addWays_46 ?_
    refine aw_imul d_P_addWays_47 ?_
    refine aw_top (x2 := nI 0) (by decide +kernel) ?_
    refine aw_isubN (by omega) d_P_addWays_48 ?_
    refine aw_iload_n rfl rfl d_P_addWays_49 ?_
    refine aw_if_neI (tgt := 62) (gx).toInt rfl (by decide) d_P_addWays_50 (fun c1 => ?_) (fun c1 => ?_)
    · refine aw_iload_n rfl rfl d_P_addWays_62 ?_
      refine as_callV (as := [.int (nI 5), .int (nI ((lf0 - 0))), .int (gx)]) (d' := 8) (q := ("SinglesUp$Packer", zT6, 7)) mo_P_addWays lk_P_31 kp_160 rfl rfl rfl ⟨by decide, by decide⟩ rfl rfl (by decide) d_P_addWays_63 (sp_add_5 (I := upd2 I 165 (6) (nI 0)) (lf0 := (lf0 - 0)) (gx := gx) (by omega) (KP_up (by decide) hP) (fun J2 kp3 fq4 => ?_))
      have F5 : ∀ q, q ≠ 160 ∧ q ≠ 161 ∧ q ≠ 162 ∧ q ≠ 165 → J2 q = I0 q := fun q hq => (fq4 q hq).trans ((upd2_ne hq.2.2.2).trans (hfr q hq))
      refine (show As l b 9 y_P_addWays KC GP K2 (J2) 66 [.ref 160, .int (nI 6), .int (nI (lf0)), .int (gx), .int (nI 0)] [] from ?_)
      refine aw_iinc (v := (-1 : Int32)) (lv2 := [.ref 160, .int (nI 6), .int (nI (lf0)), .int (gx), .int ((-1 : Int32))]) rfl (by decide +kernel) (by decide) rfl d_P_addWays_66 ?_
      refine aw_goto (tgt := 26) (by decide) d_P_addWays_69 ?_
      refine aw_iload rfl d_P_addWays_26 ?_
      refine aw_if_ltI (tgt := 72) (-1) (by decide +kernel) (by decide) d_P_addWays_28 (fun _ => ?_) (fun q => absurd q (by decide))
      exact as_retv rfl d_P_addWays_72 (hK _ kp3 (fun q hq => F5 q hq))
    · refine aw_iload rfl d_P_addWays_53 ?_
      refine aw_if_leI (tgt := 62) (0) (by decide +kernel) (by decide) d_P_addWays_55 (fun _ => ?_) (fun q => absurd q (by decide))
      refine aw_iload_n rfl rfl d_P_addWays_62 ?_
      refine as_callV (as := [.int (nI 5), .int (nI ((lf0 - 0))), .int (gx)]) (d' := 8) (q := ("SinglesUp$Packer", zT6, 7)) mo_P_addWays lk_P_31 kp_160 rfl rfl rfl ⟨by decide, by decide⟩ rfl rfl (by decide) d_P_addWays_63 (sp_add_5 (I := upd2 I 165 (6) (nI 0)) (lf0 := (lf0 - 0)) (gx := gx) (by omega) (KP_up (by decide) hP) (fun J6 kp7 fq8 => ?_))
      have F9 : ∀ q, q ≠ 160 ∧ q ≠ 161 ∧ q ≠ 162 ∧ q ≠ 165 → J6 q = I0 q := fun q hq => (fq8 q hq).trans ((upd2_ne hq.2.2.2).trans (hfr q hq))
      refine (show As l b 9 y_P_addWays KC GP K2 (J6) 66 [.ref 160, .int (nI 6), .int (nI (lf0)), .int (gx), .int (nI 0)] [] from ?_)
      refine aw_iinc (v := (-1 : Int32)) (lv2 := [.ref 160, .int (nI 6), .int (nI (lf0)), .int (gx), .int ((-1 : Int32))]) rfl (by decide +kernel) (by decide) rfl d_P_addWays_66 ?_
      refine aw_goto (tgt := 26) (by decide) d_P_addWays_69 ?_
      refine aw_iload rfl d_P_addWays_26 ?_
      refine aw_if_ltI (tgt := 72) (-1) (by decide +kernel) (by decide) d_P_addWays_28 (fun _ => ?_) (fun q => absurd q (by decide))
      exact as_retv rfl d_P_addWays_72 (hK _ kp7 (fun q hq => F9 q hq))
  | succ m ih =>
    intro I hm hP hfr
    refine aw_iload rfl d_P_addWays_26 ?_
    refine aw_if_ltI (tgt := 72) (((m + 1) : Nat) : Int) (nI_toInt (by omega)) (by decide) d_P_addWays_28 (fun q => absurd q (by omega)) (fun _ => ?_)
    refine aw_aload_n rfl rfl d_P_addWays_31 ?_
    refine aw_getr fl_P_24 kp_160 (by decide) rfl rp_160_5 d_P_addWays_32 ?_
    refine aw_iload_n rfl rfl d_P_addWays_35 ?_
    refine aw_iload rfl d_P_addWays_36 ?_
    refine aw_iast (j := 6) kp_165 (vp_in_nI (by decide) (by decide)) (nI_clamp (by decide)) d_P_addWays_38 ?_
    refine aw_aload_n rfl rfl d_P_addWays_39 ?_
    refine aw_iload_n rfl rfl d_P_addWays_40 ?_
    refine aw_iconst (v := nI 1) ci_1 d_P_addWays_41 ?_
    refine aw_isub d_P_addWays_42 ?_
    refine aw_top (x2 := nI 5) (by decide +kernel) ?_
    refine aw_iload_n rfl rfl d_P_addWays_43 ?_
    refine aw_iload rfl d_P_addWays_44 ?_
    refine aw_iload_n rfl rfl d_P_addWays_46 ?_
    refine aw_imulN d_P_addWays_47 ?_
    refine aw_isubN (by omega) d_P_addWays_48 ?_
    refine aw_iload_n rfl rfl d_P_addWays_49 ?_
    refine aw_if_neI (tgt := 62) (gx).toInt rfl (by decide) d_P_addWays_50 (fun c1 => ?_) (fun c1 => ?_)
    · refine aw_iload_n rfl rfl d_P_addWays_62 ?_
      refine as_callV (as := [.int (nI 5), .int (nI ((lf0 - ((m + 1) * 6)))), .int (gx)]) (d' := 8) (q := ("SinglesUp$Packer", zT6, 7)) mo_P_addWays lk_P_31 kp_160 rfl rfl rfl ⟨by decide, by decide⟩ rfl rfl (by decide) d_P_addWays_63 (sp_add_5 (I := upd2 I 165 (6) (nI ((m + 1)))) (lf0 := (lf0 - ((m + 1) * 6))) (gx := gx) (by omega) (KP_up (by decide) hP) (fun J2 kp3 fq4 => ?_))
      have F5 : ∀ q, q ≠ 160 ∧ q ≠ 161 ∧ q ≠ 162 ∧ q ≠ 165 → J2 q = I0 q := fun q hq => (fq4 q hq).trans ((upd2_ne hq.2.2.2).trans (hfr q hq))
      refine (show As l b 9 y_P_addWays KC GP K2 (J2) 66 [.ref 160, .int (nI 6), .int (nI (lf0)), .int (gx), .int (nI ((m + 1)))] [] from ?_)
      refine aw_iinc (v := nI (m)) (lv2 := [.ref 160, .int (nI 6), .int (nI (lf0)), .int (gx), .int (nI (m))]) rfl (nI_m1 m) (by decide) rfl d_P_addWays_66 ?_
      refine aw_goto (tgt := 26) (by decide) d_P_addWays_69 ?_
      exact ih _ (by omega) kp3 (fun q hq => F5 q hq)
    · refine aw_iload rfl d_P_addWays_53 ?_
      refine aw_if_leI (tgt := 62) (((m + 1) : Nat) : Int) (nI_toInt (by omega)) (by decide) d_P_addWays_55 (fun c6 => ?_) (fun c6 => ?_)
      · refine aw_iload_n rfl rfl d_P_addWays_62 ?_
        refine as_callV (as := [.int (nI 5), .int (nI ((lf0 - ((m + 1) * 6)))), .int (gx)]) (d' := 8) (q := ("SinglesUp$Packer", zT6, 7)) mo_P_addWays lk_P_31 kp_160 rfl rfl rfl ⟨by decide, by decide⟩ rfl rfl (by decide) d_P_addWays_63 (sp_add_5 (I := upd2 I 165 (6) (nI ((m + 1)))) (lf0 := (lf0 - ((m + 1) * 6))) (gx := gx) (by omega) (KP_up (by decide) hP) (fun J7 kp8 fq9 => ?_))
        have F10 : ∀ q, q ≠ 160 ∧ q ≠ 161 ∧ q ≠ 162 ∧ q ≠ 165 → J7 q = I0 q := fun q hq => (fq9 q hq).trans ((upd2_ne hq.2.2.2).trans (hfr q hq))
        refine (show As l b 9 y_P_addWays KC GP K2 (J7) 66 [.ref 160, .int (nI 6), .int (nI (lf0)), .int (gx), .int (nI ((m + 1)))] [] from ?_)
        refine aw_iinc (v := nI (m)) (lv2 := [.ref 160, .int (nI 6), .int (nI (lf0)), .int (gx), .int (nI (m))]) rfl (nI_m1 m) (by decide) rfl d_P_addWays_66 ?_
        refine aw_goto (tgt := 26) (by decide) d_P_addWays_69 ?_
        exact ih _ (by omega) kp8 (fun q hq => F10 q hq)
      · refine aw_iload_n rfl rfl d_P_addWays_58 ?_
        refine aw_goto (tgt := 63) (by decide) d_P_addWays_59 ?_
        refine as_callV (as := [.int (nI 5), .int (nI ((lf0 - ((m + 1) * 6)))), .int (nI 6)]) (d' := 8) (q := ("SinglesUp$Packer", zT6, 7)) mo_P_addWays lk_P_31 kp_160 rfl rfl rfl ⟨by decide, by decide⟩ rfl rfl (by decide) d_P_addWays_63 (sp_add_5 (I := upd2 I 165 (6) (nI ((m + 1)))) (lf0 := (lf0 - ((m + 1) * 6))) (gx := nI 6) (by omega) (KP_up (by decide) hP) (fun J11 kp12 fq13 => ?_))
        have F14 : ∀ q, q ≠ 160 ∧ q ≠ 161 ∧ q ≠ 162 ∧ q ≠ 165 → J11 q = I0 q := fun q hq => (fq13 q hq).trans ((upd2_ne hq.2.2.2).trans (hfr q hq))
        refine (show As l b 9 y_P_addWays KC GP K2 (J11) 66 [.ref 160, .int (nI 6), .int (nI (lf0)), .int (gx), .int (nI ((m + 1)))] [] from ?_)
        refine aw_iinc (v := nI (m)) (lv2 := [.ref 160, .int (nI 6), .int (nI (lf0)), .int (gx), .int (nI (m))]) rfl (nI_m1 m) (by decide) rfl d_P_addWays_66 ?_
        refine aw_goto (tgt := 26) (by decide) d_P_addWays_69 ?_
        exact ih _ (by omega) kp12 (fun q hq => F14 q hq)
set_option maxRecDepth 20000 in
theorem sp_add_6 {K2 : K2T} {I : Nat → Nat → Int32} {lf0 : Nat} {gx : Int32} (hl : lf0 ≤ 8) (hP : KP I) (hK : ∀ J, KP J → (∀ q, q ≠ 160 ∧ q ≠ 161 ∧ q ≠ 162 ∧ q ≠ 165 → J q = I q) → K2 none J) : Ss l b 9 y_P_addWays KC GP [.ref 160, .int (nI 6), .int (nI (lf0)), .int (gx)] (I) K2 := by
  refine Ss.of (show As l b 9 y_P_addWays KC GP K2 (I) 0 [.ref 160, .int (nI 6), .int (nI (lf0)), .int (gx), uu] [] from ?_)
  refine aw_iload_n rfl rfl d_P_addWays_0 ?_
  refine aw_iconst (v := nI 1) ci_1 d_P_addWays_1 ?_
  refine aw_icmp_ltI (tgt := 11) (6) (1) (by decide +kernel) (by decide +kernel) (by decide) d_P_addWays_2 (fun q => absurd q (by decide)) (fun _ => ?_)
  refine aw_iload_n rfl rfl d_P_addWays_5 ?_
  refine aw_bipush (v := nI 8) q1_cb_8 d_P_addWays_6 ?_
  refine aw_icmp_leI (tgt := 21) (6) (8) (by decide +kernel) (by decide +kernel) (by decide) d_P_addWays_8 (fun _ => ?_) (fun q => absurd q (by decide))
  refine aw_iload_n rfl rfl d_P_addWays_21 ?_
  refine aw_iload_n rfl rfl d_P_addWays_22 ?_
  refine aw_idivN (by omega) (by omega) (by omega) d_P_addWays_23 ?_
  refine aw_istore (lv2 := [.ref 160, .int (nI 6), .int (nI (lf0)), .int (gx), .int (nI ((lf0 / 6)))]) (by decide) rfl d_P_addWays_24 ?_
  exact lp_add_6 hl hK (lf0 / 6) I (by omega) hP (fun q hq => rfl)
set_option maxRecDepth 20000 in
theorem lp_add_7 {K2 : K2T} {I0 : Nat → Nat → Int32} {lf0 : Nat} {gx : Int32} (hl : lf0 ≤ 8) (hK : ∀ J, KP J → (∀ q, q ≠ 160 ∧ q ≠ 161 ∧ q ≠ 162 ∧ q ≠ 165 → J q = I0 q) → K2 none J) : ∀ (m : Nat) (I : Nat → Nat → Int32), m * 7 ≤ lf0 → KP I → (∀ q, q ≠ 160 ∧ q ≠ 161 ∧ q ≠ 162 ∧ q ≠ 165 → I q = I0 q) → As l b 10 y_P_addWays KC GP K2 (I) 26 [.ref 160, .int (nI 7), .int (nI (lf0)), .int (gx), .int (nI (m))] [] := by
  intro m
  induction m with
  | zero =>
    intro I hm hP hfr
    refine aw_iload rfl d_P_addWays_26 ?_
    refine aw_if_ltI (tgt := 72) (0) (by decide +kernel) (by decide) d_P_addWays_28 (fun q => absurd q (by decide)) (fun _ => ?_)
    refine aw_aload_n rfl rfl d_P_addWays_31 ?_
    refine aw_getr fl_P_24 kp_160 (by decide) rfl rp_160_5 d_P_addWays_32 ?_
    refine aw_iload_n rfl rfl d_P_addWays_35 ?_
    refine aw_iload rfl d_P_addWays_36 ?_
    refine aw_iast (j := 7) kp_165 (vp_in_nI (by decide) (by decide)) (nI_clamp (by decide)) d_P_addWays_38 ?_
    refine aw_aload_n rfl rfl d_P_addWays_39 ?_
    refine aw_iload_n rfl rfl d_P_addWays_40 ?_
    refine aw_iconst (v := nI 1) ci_1 d_P_addWays_41 ?_
    refine aw_isub d_P_addWays_42 ?_
    refine aw_top (x2 := nI 6) (by decide +kernel) ?_
    refine aw_iload_n rfl rfl d_P_addWays_43 ?_
    refine aw_iload rfl d_P_addWays_44 ?_
    refine aw_iload_n rfl rfl d_P_addWays_46 ?_
    refine aw_imul d_P_addWays_47 ?_
    refine aw_top (x2 := nI 0) (by decide +kernel) ?_
    refine aw_isubN (by omega) d_P_addWays_48 ?_
    refine aw_iload_n rfl rfl d_P_addWays_49 ?_
    refine aw_if_neI (tgt := 62) (gx).toInt rfl (by decide) d_P_addWays_50 (fun c1 => ?_) (fun c1 => ?_)
    · refine aw_iload_n rfl rfl d_P_addWays_62 ?_
      refine as_callV (as := [.int (nI 6), .int (nI ((lf0 - 0))), .int (gx)]) (d' := 9) (q := ("SinglesUp$Packer", zT6, 7)) mo_P_addWays lk_P_31 kp_160 rfl rfl rfl ⟨by decide, by decide⟩ rfl rfl (by decide) d_P_addWays_63 (sp_add_6 (I := upd2 I 165 (7) (nI 0)) (lf0 := (lf0 - 0)) (gx := gx) (by omega) (KP_up (by decide) hP) (fun J2 kp3 fq4 => ?_))
      have F5 : ∀ q, q ≠ 160 ∧ q ≠ 161 ∧ q ≠ 162 ∧ q ≠ 165 → J2 q = I0 q := fun q hq => (fq4 q hq).trans ((upd2_ne hq.2.2.2).trans (hfr q hq))
      refine (show As l b 10 y_P_addWays KC GP K2 (J2) 66 [.ref 160, .int (nI 7), .int (nI (lf0)), .int (gx), .int (nI 0)] [] from ?_)
      refine aw_iinc (v := (-1 : Int32)) (lv2 := [.ref 160, .int (nI 7), .int (nI (lf0)), .int (gx), .int ((-1 : Int32))]) rfl (by decide +kernel) (by decide) rfl d_P_addWays_66 ?_
      refine aw_goto (tgt := 26) (by decide) d_P_addWays_69 ?_
      refine aw_iload rfl d_P_addWays_26 ?_
      refine aw_if_ltI (tgt := 72) (-1) (by decide +kernel) (by decide) d_P_addWays_28 (fun _ => ?_) (fun q => absurd q (by decide))
      exact as_retv rfl d_P_addWays_72 (hK _ kp3 (fun q hq => F5 q hq))
    · refine aw_iload rfl d_P_addWays_53 ?_
      refine aw_if_leI (tgt := 62) (0) (by decide +kernel) (by decide) d_P_addWays_55 (fun _ => ?_) (fun q => absurd q (by decide))
      refine aw_iload_n rfl rfl d_P_addWays_62 ?_
      refine as_callV (as := [.int (nI 6), .int (nI ((lf0 - 0))), .int (gx)]) (d' := 9) (q := ("SinglesUp$Packer", zT6, 7)) mo_P_addWays lk_P_31 kp_160 rfl rfl rfl ⟨by decide, by decide⟩ rfl rfl (by decide) d_P_addWays_63 (sp_add_6 (I := upd2 I 165 (7) (nI 0)) (lf0 := (lf0 - 0)) (gx := gx) (by omega) (KP_up (by decide) hP) (fun J6 kp7 fq8 => ?_))
      have F9 : ∀ q, q ≠ 160 ∧ q ≠ 161 ∧ q ≠ 162 ∧ q ≠ 165 → J6 q = I0 q := fun q hq => (fq8 q hq).trans ((upd2_ne hq.2.2.2).trans (hfr q hq))
      refine (show As l b 10 y_P_addWays KC GP K2 (J6) 66 [.ref 160, .int (nI 7), .int (nI (lf0)), .int (gx), .int (nI 0)] [] from ?_)
      refine aw_iinc (v := (-1 : Int32)) (lv2 := [.ref 160, .int (nI 7), .int (nI (lf0)), .int (gx), .int ((-1 : Int32))]) rfl (by decide +kernel) (by decide) rfl d_P_addWays_66 ?_
      refine aw_goto (tgt := 26) (by decide) d_P_addWays_69 ?_
      refine aw_iload rfl d_P_addWays_26 ?_
      refine aw_if_ltI (tgt := 72) (-1) (by decide +kernel) (by decide) d_P_addWays_28 (fun _ => ?_) (fun q => absurd q (by decide))
      exact as_retv rfl d_P_addWays_72 (hK _ kp7 (fun q hq => F9 q hq))
  | succ m ih =>
    intro I hm hP hfr
    refine aw_iload rfl d_P_addWays_26 ?_
    refine aw_if_ltI (tgt := 72) (((m + 1) : Nat) : Int) (nI_toInt (by omega)) (by decide) d_P_addWays_28 (fun q => absurd q (by omega)) (fun _ => ?_)
    refine aw_aload_n rfl rfl d_P_addWays_31 ?_
    refine aw_getr fl_P_24 kp_160 (by decide) rfl rp_160_5 d_P_addWays_32 ?_
    refine aw_iload_n rfl rfl d_P_addWays_35 ?_
    refine aw_iload rfl d_P_addWays_36 ?_
    refine aw_iast (j := 7) kp_165 (vp_in_nI (by decide) (by decide)) (nI_clamp (by decide)) d_P_addWays_38 ?_
    refine aw_aload_n rfl rfl d_P_addWays_39 ?_
    refine aw_iload_n rfl rfl d_P_addWays_40 ?_
    refine aw_iconst (v := nI 1) ci_1 d_P_addWays_41 ?_
    refine aw_isub d_P_addWays_42 ?_
    refine aw_top (x2 := nI 6) (by decide +kernel) ?_
    refine aw_iload_n rfl rfl d_P_addWays_43 ?_
    refine aw_iload rfl d_P_addWays_44 ?_
    refine aw_iload_n rfl rfl d_P_addWays_46 ?_
    refine aw_imulN d_P_addWays_47 ?_
    refine aw_isubN (by omega) d_P_addWays_48 ?_
    refine aw_iload_n rfl rfl d_P_addWays_49 ?_
    refine aw_if_neI (tgt := 62) (gx).toInt rfl (by decide) d_P_addWays_50 (fun c1 => ?_) (fun c1 => ?_)
    · refine aw_iload_n rfl rfl d_P_addWays_62 ?_
      refine as_callV (as := [.int (nI 6), .int (nI ((lf0 - ((m + 1) * 7)))), .int (gx)]) (d' := 9) (q := ("SinglesUp$Packer", zT6, 7)) mo_P_addWays lk_P_31 kp_160 rfl rfl rfl ⟨by decide, by decide⟩ rfl rfl (by decide) d_P_addWays_63 (sp_add_6 (I := upd2 I 165 (7) (nI ((m + 1)))) (lf0 := (lf0 - ((m + 1) * 7))) (gx := gx) (by omega) (KP_up (by decide) hP) (fun J2 kp3 fq4 => ?_))
      have F5 : ∀ q, q ≠ 160 ∧ q ≠ 161 ∧ q ≠ 162 ∧ q ≠ 165 → J2 q = I0 q := fun q hq => (fq4 q hq).trans ((upd2_ne hq.2.2.2).trans (hfr q hq))
      refine (show As l b 10 y_P_addWays KC GP K2 (J2) 66 [.ref 160, .int (nI 7), .int (nI (lf0)), .int (gx), .int (nI ((m + 1)))] [] from ?_)
      refine aw_iinc (v := nI (m)) (lv2 := [.ref 160, .int (nI 7), .int (nI (lf0)), .int (gx), .int (nI (m))]) rfl (nI_m1 m) (by decide) rfl d_P_addWays_66 ?_
      refine aw_goto (tgt := 26) (by decide) d_P_addWays_69 ?_
      exact ih _ (by omega) kp3 (fun q hq => F5 q hq)
    · refine aw_iload rfl d_P_addWays_53 ?_
      refine aw_if_leI (tgt := 62) (((m + 1) : Nat) : Int) (nI_toInt (by omega)) (by decide) d_P_addWays_55 (fun c6 => ?_) (fun c6 => ?_)
      · refine aw_iload_n rfl rfl d_P_addWays_62 ?_
        refine as_callV (as := [.int (nI 6), .int (nI ((lf0 - ((m + 1) * 7)))), .int (gx)]) (d' := 9) (q := ("SinglesUp$Packer", zT6, 7)) mo_P_addWays lk_P_31 kp_160 rfl rfl rfl ⟨by decide, by decide⟩ rfl rfl (by decide) d_P_addWays_63 (sp_add_6 (I := upd2 I 165 (7) (nI ((m + 1)))) (lf0 := (lf0 - ((m + 1) * 7))) (gx := gx) (by omega) (KP_up (by decide) hP) (fun J7 kp8 fq9 => ?_))
        have F10 : ∀ q, q ≠ 160 ∧ q ≠ 161 ∧ q ≠ 162 ∧ q ≠ 165 → J7 q = I0 q := fun q hq => (fq9 q hq).trans ((upd2_ne hq.2.2.2).trans (hfr q hq))
        refine (show As l b 10 y_P_addWays KC GP K2 (J7) 66 [.ref 160, .int (nI 7), .int (nI (lf0)), .int (gx), .int (nI ((m + 1)))] [] from ?_)
        refine aw_iinc (v := nI (m)) (lv2 := [.ref 160, .int (nI 7), .int (nI (lf0)), .int (gx), .int (nI (m))]) rfl (nI_m1 m) (by decide) rfl d_P_addWays_66 ?_
        refine aw_goto (tgt := 26) (by decide) d_P_addWays_69 ?_
        exact ih _ (by omega) kp8 (fun q hq => F10 q hq)
      · refine aw_iload_n rfl rfl d_P_addWays_58 ?_
        refine aw_goto (tgt := 63) (by decide) d_P_addWays_59 ?_
        refine as_callV (as := [.int (nI 6), .int (nI ((lf0 - ((m + 1) * 7)))), .int (nI 7)]) (d' := 9) (q := ("SinglesUp$Packer", zT6, 7)) mo_P_addWays lk_P_31 kp_160 rfl rfl rfl ⟨by decide, by decide⟩ rfl rfl (by decide) d_P_addWays_63 (sp_add_6 (I := upd2 I 165 (7) (nI ((m + 1)))) (lf0 := (lf0 - ((m + 1) * 7))) (gx := nI 7) (by omega) (KP_up (by decide) hP) (fun J11 kp12 fq13 => ?_))
        have F14 : ∀ q, q ≠ 160 ∧ q ≠ 161 ∧ q ≠ 162 ∧ q ≠ 165 → J11 q = I0 q := fun q hq => (fq13 q hq).trans ((upd2_ne hq.2.2.2).trans (hfr q hq))
        refine (show As l b 10 y_P_addWays KC GP K2 (J11) 66 [.ref 160, .int (nI 7), .int (nI (lf0)), .int (gx), .int (nI ((m + 1)))] [] from ?_)
        refine aw_iinc (v := nI (m)) (lv2 := [.ref 160, .int (nI 7), .int (nI (lf0)), .int (gx), .int (nI (m))]) rfl (nI_m1 m) (by decide) rfl d_P_addWays_66 ?_
        refine aw_goto (tgt := 26) (by decide) d_P_addWays_69 ?_
        exact ih _ (by omega) kp12 (fun q hq => F14 q hq)
set_option maxRecDepth 20000 in
theorem sp_add_7 {K2 : K2T} {I : Nat → Nat → Int32} {lf0 : Nat} {gx : Int32} (hl : lf0 ≤ 8) (hP : KP I) (hK : ∀ J, KP J → (∀ q, q ≠ 160 ∧ q ≠ 161 ∧ q ≠ 162 ∧ q ≠ 165 → J q = I q) → K2 none J) : Ss l b 10 y_P_addWays KC GP [.ref 160, .int (nI 7), .int (nI (lf0)), .int (gx)] (I) K2 := by
  refine Ss.of (show As l b 10 y_P_addWays KC GP K2 (I) 0 [.ref 160, .int (nI 7), .int (nI (lf0)), .int (gx), uu] [] from ?_)
  refine aw_iload_n rfl rfl d_P_addWays_0 ?_
  refine aw_iconst (v := nI 1) ci_1 d_P_addWays_1 ?_
  refine aw_icmp_ltI (tgt := 11) (7) (1) (by decide +kernel) (by decide +kernel) (by decide) d_P_addWays_2 (fun q => absurd q (by decide)) (fun _ => ?_)
  refine aw_iload_n rfl rfl d_P_addWays_5 ?_
  refine aw_bipush (v := nI 8) q1_cb_8 d_P_addWays_6 ?_
  refine aw_icmp_leI (tgt := 21) (7) (8) (by decide +kernel) (by decide +kernel) (by decide) d_P_addWays_8 (fun _ => ?_) (fun q => absurd q (by decide))
  refine aw_iload_n rfl rfl d_P_addWays_21 ?_
  refine aw_iload_n rfl rfl d_P_addWays_22 ?_
  refine aw_idivN (by omega) (by omega) (by omega) d_P_addWays_23 ?_
  refine aw_istore (lv2 := [.ref 160, .int (nI 7), .int (nI (lf0)), .int (gx), .int (nI ((lf0 / 7)))]) (by decide) rfl d_P_addWays_24 ?_
  exact lp_add_7 hl hK (lf0 / 7) I (by omega) hP (fun q hq => rfl)
set_option maxRecDepth 20000 in
theorem lp_add_8 {K2 : K2T} {I0 : Nat → Nat → Int32} {lf0 : Nat} {gx : Int32} (hl : lf0 ≤ 8) (hK : ∀ J, KP J → (∀ q, q ≠ 160 ∧ q ≠ 161 ∧ q ≠ 162 ∧ q ≠ 165 → J q = I0 q) → K2 none J) : ∀ (m : Nat) (I : Nat → Nat → Int32), m * 8 ≤ lf0 → KP I → (∀ q, q ≠ 160 ∧ q ≠ 161 ∧ q ≠ 162 ∧ q ≠ 165 → I q = I0 q) → As l b 11 y_P_addWays KC GP K2 (I) 26 [.ref 160, .int (nI 8), .int (nI (lf0)), .int (gx), .int (nI (m))] [] := by
  intro m
  induction m with
  | zero =>
    intro I hm hP hfr
    refine aw_iload rfl d_P_addWays_26 ?_
    refine aw_if_ltI (tgt := 72) (0) (by decide +kernel) (by decide) d_P_addWays_28 (fun q => absurd q (by decide)) (fun _ => ?_)
    refine aw_aload_n rfl rfl d_P_addWays_31 ?_
    refine aw_getr fl_P_24 kp_160 (by decide) rfl rp_160_5 d_P_addWays_32 ?_
    refine aw_iload_n rfl rfl d_P_addWays_35 ?_
    refine aw_iload rfl d_P_addWays_36 ?_
    refine aw_iast (j := 8) kp_165 (vp_in_nI (by decide) (by decide)) (nI_clamp (by decide)) d_P_addWays_38 ?_
    refine aw_aload_n rfl rfl d_P_addWays_39 ?_
    refine aw_iload_n rfl rfl d_P_addWays_40 ?_
    refine aw_iconst (v := nI 1) ci_1 d_P_addWays_41 ?_
    refine aw_isub d_P_addWays_42 ?_
    refine aw_top (x2 := nI 7) (by decide +kernel) ?_
    refine aw_iload_n rfl rfl d_P_addWays_43 ?_
    refine aw_iload rfl d_P_addWays_44 ?_
    refine aw_iload_n rfl rfl d_P_addWays_46 ?_
    refine aw_imul d_P_addWays_47 ?_
    refine aw_top (x2 := nI 0) (by decide +kernel) ?_
    refine aw_isubN (by omega) d_P_addWays_48 ?_
    refine aw_iload_n rfl rfl d_P_addWays_49 ?_
    refine aw_if_neI (tgt := 62) (gx).toInt rfl (by decide) d_P_addWays_50 (fun c1 => ?_) (fun c1 => ?_)
    · refine aw_iload_n rfl rfl d_P_addWays_62 ?_
      refine as_callV (as := [.int (nI 7), .int (nI ((lf0 - 0))), .int (gx)]) (d' := 10) (q := ("SinglesUp$Packer", zT6, 7)) mo_P_addWays lk_P_31 kp_160 rfl rfl rfl ⟨by decide, by decide⟩ rfl rfl (by decide) d_P_addWays_63 (sp_add_7 (I := upd2 I 165 (8) (nI 0)) (lf0 := (lf0 - 0)) (gx := gx) (by omega) (KP_up (by decide) hP) (fun J2 kp3 fq4 => ?_))
      have F5 : ∀ q, q ≠ 160 ∧ q ≠ 161 ∧ q ≠ 162 ∧ q ≠ 165 → J2 q = I0 q := fun q hq => (fq4 q hq).trans ((upd2_ne hq.2.2.2).trans (hfr q hq))
      refine (show As l b 11 y_P_addWays KC GP K2 (J2) 66 [.ref 160, .int (nI 8), .int (nI (lf0)), .int (gx), .int (nI 0)] [] from ?_)
      refine aw_iinc (v := (-1 : Int32)) (lv2 := [.ref 160, .int (nI 8), .int (nI (lf0)), .int (gx), .int ((-1 : Int32))]) rfl (by decide +kernel) (by decide) rfl d_P_addWays_66 ?_
      refine aw_goto (tgt := 26) (by decide) d_P_addWays_69 ?_
      refine aw_iload rfl d_P_addWays_26 ?_
      refine aw_if_ltI (tgt := 72) (-1) (by decide +kernel) (by decide) d_P_addWays_28 (fun _ => ?_) (fun q => absurd q (by decide))
      exact as_retv rfl d_P_addWays_72 (hK _ kp3 (fun q hq => F5 q hq))
    · refine aw_iload rfl d_P_addWays_53 ?_
      refine aw_if_leI (tgt := 62) (0) (by decide +kernel) (by decide) d_P_addWays_55 (fun _ => ?_) (fun q => absurd q (by decide))
      refine aw_iload_n rfl rfl d_P_addWays_62 ?_
      refine as_callV (as := [.int (nI 7), .int (nI ((lf0 - 0))), .int (gx)]) (d' := 10) (q := ("SinglesUp$Packer", zT6, 7)) mo_P_addWays lk_P_31 kp_160 rfl rfl rfl ⟨by decide, by decide⟩ rfl rfl (by decide) d_P_addWays_63 (sp_add_7 (I := upd2 I 165 (8) (nI 0)) (lf0 := (lf0 - 0)) (gx := gx) (by omega) (KP_up (by decide) hP) (fun J6 kp7 fq8 => ?_))
      have F9 : ∀ q, q ≠ 160 ∧ q ≠ 161 ∧ q ≠ 162 ∧ q ≠ 165 → J6 q = I0 q := fun q hq => (fq8 q hq).trans ((upd2_ne hq.2.2.2).trans (hfr q hq))
      refine (show As l b 11 y_P_addWays KC GP K2 (J6) 66 [.ref 160, .int (nI 8), .int (nI (lf0)), .int (gx), .int (nI 0)] [] from ?_)
      refine aw_iinc (v := (-1 : Int32)) (lv2 := [.ref 160, .int (nI 8), .int (nI (lf0)), .int (gx), .int ((-1 : Int32))]) rfl (by decide +kernel) (by decide) rfl d_P_addWays_66 ?_
      refine aw_goto (tgt := 26) (by decide) d_P_addWays_69 ?_
      refine aw_iload rfl d_P_addWays_26 ?_
      refine aw_if_ltI (tgt := 72) (-1) (by decide +kernel) (by decide) d_P_addWays_28 (fun _ => ?_) (fun q => absurd q (by decide))
      exact as_retv rfl d_P_addWays_72 (hK _ kp7 (fun q hq => F9 q hq))
  | succ m ih =>
    intro I hm hP hfr
    refine aw_iload rfl d_P_addWays_26 ?_
    refine aw_if_ltI (tgt := 72) (((m + 1) : Nat) : Int) (nI_toInt (by omega)) (by decide) d_P_addWays_28 (fun q => absurd q (by omega)) (fun _ => ?_)
    refine aw_aload_n rfl rfl d_P_addWays_31 ?_
    refine aw_getr fl_P_24 kp_160 (by decide) rfl rp_160_5 d_P_addWays_32 ?_
    refine aw_iload_n rfl rfl d_P_addWays_35 ?_
    refine aw_iload rfl d_P_addWays_36 ?_
    refine aw_iast (j := 8) kp_165 (vp_in_nI (by decide) (by decide)) (nI_clamp (by decide)) d_P_addWays_38 ?_
    refine aw_aload_n rfl rfl d_P_addWays_39 ?_
    refine aw_iload_n rfl rfl d_P_addWays_40 ?_
    refine aw_iconst (v := nI 1) ci_1 d_P_addWays_41 ?_
    refine aw_isub d_P_addWays_42 ?_
    refine aw_top (x2 := nI 7) (by decide +kernel) ?_
    refine aw_iload_n rfl rfl d_P_addWays_43 ?_
    refine aw_iload rfl d_P_addWays_44 ?_
    refine aw_iload_n rfl rfl d_P_addWays_46 ?_
    refine aw_imulN d_P_addWays_47 ?_
    refine aw_isubN (by omega) d_P_addWays_48 ?_
    refine aw_iload_n rfl rfl d_P_addWays_49 ?_
    refine aw_if_neI (tgt := 62) (gx).toInt rfl (by decide) d_P_addWays_50 (fun c1 => ?_) (fun c1 => ?_)
    · refine aw_iload_n rfl rfl d_P_addWays_62 ?_
      refine as_callV (as := [.int (nI 7), .int (nI ((lf0 - ((m + 1) * 8)))), .int (gx)]) (d' := 10) (q := ("SinglesUp$Packer", zT6, 7)) mo_P_addWays lk_P_31 kp_160 rfl rfl rfl ⟨by decide, by decide⟩ rfl rfl (by decide) d_P_addWays_63 (sp_add_7 (I := upd2 I 165 (8) (nI ((m + 1)))) (lf0 := (lf0 - ((m + 1) * 8))) (gx := gx) (by omega) (KP_up (by decide) hP) (fun J2 kp3 fq4 => ?_))
      have F5 : ∀ q, q ≠ 160 ∧ q ≠ 161 ∧ q ≠ 162 ∧ q ≠ 165 → J2 q = I0 q := fun q hq => (fq4 q hq).trans ((upd2_ne hq.2.2.2).trans (hfr q hq))
      refine (show As l b 11 y_P_addWays KC GP K2 (J2) 66 [.ref 160, .int (nI 8), .int (nI (lf0)), .int (gx), .int (nI ((m + 1)))] [] from ?_)
      refine aw_iinc (v := nI (m)) (lv2 := [.ref 160, .int (nI 8), .int (nI (lf0)), .int (gx), .int (nI (m))]) rfl (nI_m1 m) (by decide) rfl d_P_addWays_66 ?_
      refine aw_goto (tgt := 26) (by decide) d_P_addWays_69 ?_
      exact ih _ (by omega) kp3 (fun q hq => F5 q hq)
    · refine aw_iload rfl d_P_addWays_53 ?_
      refine aw_if_leI (tgt := 62) (((m + 1) : Nat) : Int) (nI_toInt (by omega)) (by decide) d_P_addWays_55 (fun c6 => ?_) (fun c6 => ?_)
      · refine aw_iload_n rfl rfl d_P_addWays_62 ?_
        refine as_callV (as := [.int (nI 7), .int (nI ((lf0 - ((m + 1) * 8)))), .int (gx)]) (d' := 10) (q := ("SinglesUp$Packer", zT6, 7)) mo_P_addWays lk_P_31 kp_160 rfl rfl rfl ⟨by decide, by decide⟩ rfl rfl (by decide) d_P_addWays_63 (sp_add_7 (I := upd2 I 165 (8) (nI ((m + 1)))) (lf0 := (lf0 - ((m + 1) * 8))) (gx := gx) (by omega) (KP_up (by decide) hP) (fun J7 kp8 fq9 => ?_))
        have F10 : ∀ q, q ≠ 160 ∧ q ≠ 161 ∧ q ≠ 162 ∧ q ≠ 165 → J7 q = I0 q := fun q hq => (fq9 q hq).trans ((upd2_ne hq.2.2.2).trans (hfr q hq))
        refine (show As l b 11 y_P_addWays KC GP K2 (J7) 66 [.ref 160, .int (nI 8), .int (nI (lf0)), .int (gx), .int (nI ((m + 1)))] [] from ?_)
        refine aw_iinc (v := nI (m)) (lv2 := [.ref 160, .int (nI 8), .int (nI (lf0)), .int (gx), .int (nI (m))]) rfl (nI_m1 m) (by decide) rfl d_P_addWays_66 ?_
        refine aw_goto (tgt := 26) (by decide) d_P_addWays_69 ?_
        exact ih _ (by omega) kp8 (fun q hq => F10 q hq)
      · refine aw_iload_n rfl rfl d_P_addWays_58 ?_
        refine aw_goto (tgt := 63) (by decide) d_P_addWays_59 ?_
        refine as_callV (as := [.int (nI 7), .int (nI ((lf0 - ((m + 1) * 8)))), .int (nI 8)]) (d' := 10) (q := ("SinglesUp$Packer", zT6, 7)) mo_P_addWays lk_P_31 kp_160 rfl rfl rfl ⟨by decide, by decide⟩ rfl rfl (by decide) d_P_addWays_63 (sp_add_7 (I := upd2 I 165 (8) (nI ((m + 1)))) (lf0 := (lf0 - ((m + 1) * 8))) (gx := nI 8) (by omega) (KP_up (by decide) hP) (fun J11 kp12 fq13 => ?_))
        have F14 : ∀ q, q ≠ 160 ∧ q ≠ 161 ∧ q ≠ 162 ∧ q ≠ 165 → J11 q = I0 q := fun q hq => (fq13 q hq).trans ((upd2_ne hq.2.2.2).trans (hfr q hq))
        refine (show As l b 11 y_P_addWays KC GP K2 (J11) 66 [.ref 160, .int (nI 8), .int (nI (lf0)), .int (gx), .int (nI ((m + 1)))] [] from ?_)
        refine aw_iinc (v := nI (m)) (lv2 := [.ref 160, .int (nI 8), .int (nI (lf0)), .int (gx), .int (nI (m))]) rfl (nI_m1 m) (by decide) rfl d_P_addWays_66 ?_
        refine aw_goto (tgt := 26) (by decide) d_P_addWays_69 ?_
        exact ih _ (by omega) kp12 (fun q hq => F14 q hq)
set_option maxRecDepth 20000 in
theorem sp_add_8 {K2 : K2T} {I : Nat → Nat → Int32} {lf0 : Nat} {gx : Int32} (hl : lf0 ≤ 8) (hP : KP I) (hK : ∀ J, KP J → (∀ q, q ≠ 160 ∧ q ≠ 161 ∧ q ≠ 162 ∧ q ≠ 165 → J q = I q) → K2 none J) : Ss l b 11 y_P_addWays KC GP [.ref 160, .int (nI 8), .int (nI (lf0)), .int (gx)] (I) K2 := by
  refine Ss.of (show As l b 11 y_P_addWays KC GP K2 (I) 0 [.ref 160, .int (nI 8), .int (nI (lf0)), .int (gx), uu] [] from ?_)
  refine aw_iload_n rfl rfl d_P_addWays_0 ?_
  refine aw_iconst (v := nI 1) ci_1 d_P_addWays_1 ?_
  refine aw_icmp_ltI (tgt := 11) (8) (1) (by decide +kernel) (by decide +kernel) (by decide) d_P_addWays_2 (fun q => absurd q (by decide)) (fun _ => ?_)
  refine aw_iload_n rfl rfl d_P_addWays_5 ?_
  refine aw_bipush (v := nI 8) q1_cb_8 d_P_addWays_6 ?_
  refine aw_icmp_leI (tgt := 21) (8) (8) (by decide +kernel) (by decide +kernel) (by decide) d_P_addWays_8 (fun _ => ?_) (fun q => absurd q (by decide))
  refine aw_iload_n rfl rfl d_P_addWays_21 ?_
  refine aw_iload_n rfl rfl d_P_addWays_22 ?_
  refine aw_idivN (by omega) (by omega) (by omega) d_P_addWays_23 ?_
  refine aw_istore (lv2 := [.ref 160, .int (nI 8), .int (nI (lf0)), .int (gx), .int (nI ((lf0 / 8)))]) (by decide) rfl d_P_addWays_24 ?_
  exact lp_add_8 hl hK (lf0 / 8) I (by omega) hP (fun q hq => rfl)
end
