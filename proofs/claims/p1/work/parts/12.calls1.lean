/-! calls on a fresh object -/
abbrev y_S_state : MI := (⟨"SinglesUp", "state", "(I)I"⟩, prog_1_method_2_code, 3, some .int)
theorem d_S_state_0 : decode y_S_state.2.1 0 = .ok (.aload_n 0, 1) := by decide +kernel
theorem d_S_state_1 : decode y_S_state.2.1 1 = .ok (.getfield 12, 3) := by decide +kernel
theorem fl_S_12 : FL "SinglesUp" 12 8 0 := ⟨"SinglesUp", zT8, 9, rfl, by decide, rfl, Or.inl (tw_in 428 (by decide +kernel) rfl)⟩
theorem kc_0 : KC[0]? = some (11, 9) := by decide +kernel
theorem rc_0_0 : RC 0 0 = some 1 := by decide +kernel
theorem d_S_state_4 : decode y_S_state.2.1 4 = .ok (.getfield 57, 3) := by decide +kernel
theorem fl_S_57 : FL "SinglesUp" 57 2 6 := ⟨"SinglesUp$Hill", zT2, 14, rfl, by decide, rfl, Or.inr ⟨"SinglesUp", nw_in 102 (by decide +kernel) rfl⟩⟩
theorem d_S_state_7 : decode y_S_state.2.1 7 = .ok (.istore_n 2, 1) := by decide +kernel
theorem d_S_state_8 : decode y_S_state.2.1 8 = .ok (.aload_n 0, 1) := by decide +kernel
theorem d_S_state_9 : decode y_S_state.2.1 9 = .ok (.getfield 12, 3) := by decide +kernel
theorem d_S_state_12 : decode y_S_state.2.1 12 = .ok (.iload_n 1, 1) := by decide +kernel
theorem d_S_state_13 : decode y_S_state.2.1 13 = .ok (.putfield 57, 3) := by decide +kernel
theorem d_S_state_16 : decode y_S_state.2.1 16 = .ok (.iload_n 2, 1) := by decide +kernel
theorem d_S_state_17 : decode y_S_state.2.1 17 = .ok (.ireturn, 1) := by decide +kernel
abbrev y_S_seen : MI := (⟨"SinglesUp", "seen", "(II)Z"⟩, prog_1_method_4_code, 3, some .boolean)
theorem d_S_seen_0 : decode y_S_seen.2.1 0 = .ok (.iload_n 1, 1) := by decide +kernel
theorem d_S_seen_1 : decode y_S_seen.2.1 1 = .ok (.invokestatic 73, 3) := by decide +kernel
theorem lk_S_73 : LkS "SinglesUp" 73 y_S_isLine := ⟨tw_in 481 (by decide +kernel) rfl, Or.inl (tw_in 480 (by decide +kernel) rfl)⟩
theorem mo_S_isLine : MOk y_S_isLine 1 := ⟨by decide +kernel, tw_in 482 (by decide +kernel) rfl, tw_in 97 (by decide +kernel) rfl, by decide +kernel, by decide +kernel, by decide +kernel⟩
theorem d_S_seen_4 : decode y_S_seen.2.1 4 = .ok (.ifCond .eq 14, 3) := by decide +kernel
theorem d_S_seen_7 : decode y_S_seen.2.1 7 = .ok (.iload_n 2, 1) := by decide +kernel
theorem d_S_seen_8 : decode y_S_seen.2.1 8 = .ok (.iconst 1, 1) := by decide +kernel
theorem d_S_seen_9 : decode y_S_seen.2.1 9 = .ok (.if_icmp .lt 9, 3) := by decide +kernel
theorem d_S_seen_18 : decode y_S_seen.2.1 18 = .ok (.iconst 0, 1) := by decide +kernel
theorem d_S_seen_19 : decode y_S_seen.2.1 19 = .ok (.ireturn, 1) := by decide +kernel
theorem d_S_seen_12 : decode y_S_seen.2.1 12 = .ok (.iload_n 2, 1) := by decide +kernel
theorem d_S_seen_13 : decode y_S_seen.2.1 13 = .ok (.bipush 24, 2) := by decide +kernel
theorem cb_24 : (Int8.ofInt 24).toInt32 = nI 24 := by decide +kernel
theorem d_S_seen_15 : decode y_S_seen.2.1 15 = .ok (.if_icmp .le 5, 3) := by decide +kernel
theorem d_S_seen_20 : decode y_S_seen.2.1 20 = .ok (.aload_n 0, 1) := by decide +kernel
theorem d_S_seen_21 : decode y_S_seen.2.1 21 = .ok (.getfield 12, 3) := by decide +kernel
theorem d_S_seen_24 : decode y_S_seen.2.1 24 = .ok (.getfield 77, 3) := by decide +kernel
theorem fl_S_77 : FL "SinglesUp" 77 2 5 := ⟨"SinglesUp$Hill", zT2, 14, rfl, by decide, rfl, Or.inr ⟨"SinglesUp", nw_in 99 (by decide +kernel) rfl⟩⟩
theorem d_S_seen_27 : decode y_S_seen.2.1 27 = .ok (.getfield 81, 3) := by decide +kernel
theorem fl_S_81 : FL "SinglesUp" 81 4 2 := ⟨"SinglesUp$Lines", zT4, 3, rfl, by decide, rfl, Or.inr ⟨"SinglesUp", nw_in 50 (by decide +kernel) rfl⟩⟩
theorem d_S_seen_30 : decode y_S_seen.2.1 30 = .ok (.iload_n 1, 1) := by decide +kernel
theorem d_S_seen_31 : decode y_S_seen.2.1 31 = .ok (.iload_n 2, 1) := by decide +kernel
theorem d_S_seen_32 : decode y_S_seen.2.1 32 = .ok (.iastore, 1) := by decide +kernel
theorem d_S_seen_33 : decode y_S_seen.2.1 33 = .ok (.iconst 1, 1) := by decide +kernel
theorem d_S_seen_34 : decode y_S_seen.2.1 34 = .ok (.ireturn, 1) := by decide +kernel
abbrev y_S_parts : MI := (⟨"SinglesUp", "parts", "(II)Z"⟩, prog_1_method_5_code, 3, some .boolean)
theorem d_S_parts_0 : decode y_S_parts.2.1 0 = .ok (.iload_n 1, 1) := by decide +kernel
theorem d_S_parts_1 : decode y_S_parts.2.1 1 = .ok (.iconst 2, 1) := by decide +kernel
theorem d_S_parts_2 : decode y_S_parts.2.1 2 = .ok (.if_icmp .lt 18, 3) := by decide +kernel
theorem d_S_parts_20 : decode y_S_parts.2.1 20 = .ok (.iconst 0, 1) := by decide +kernel
theorem d_S_parts_21 : decode y_S_parts.2.1 21 = .ok (.ireturn, 1) := by decide +kernel
theorem d_S_parts_5 : decode y_S_parts.2.1 5 = .ok (.iload_n 1, 1) := by decide +kernel
theorem d_S_parts_6 : decode y_S_parts.2.1 6 = .ok (.bipush 8, 2) := by decide +kernel
theorem d_S_parts_8 : decode y_S_parts.2.1 8 = .ok (.if_icmp .gt 12, 3) := by decide +kernel
theorem d_S_parts_11 : decode y_S_parts.2.1 11 = .ok (.iload_n 2, 1) := by decide +kernel
theorem d_S_parts_12 : decode y_S_parts.2.1 12 = .ok (.ifCond .lt 8, 3) := by decide +kernel
theorem d_S_parts_15 : decode y_S_parts.2.1 15 = .ok (.iload_n 2, 1) := by decide +kernel
theorem d_S_parts_16 : decode y_S_parts.2.1 16 = .ok (.iload_n 1, 1) := by decide +kernel
theorem d_S_parts_17 : decode y_S_parts.2.1 17 = .ok (.if_icmp .lt 5, 3) := by decide +kernel
theorem d_S_parts_22 : decode y_S_parts.2.1 22 = .ok (.aload_n 0, 1) := by decide +kernel
theorem d_S_parts_23 : decode y_S_parts.2.1 23 = .ok (.getfield 12, 3) := by decide +kernel
theorem d_S_parts_26 : decode y_S_parts.2.1 26 = .ok (.getfield 86, 3) := by decide +kernel
theorem fl_S_86 : FL "SinglesUp" 86 2 2 := ⟨"SinglesUp$Hill", zT2, 14, rfl, by decide, rfl, Or.inr ⟨"SinglesUp", nw_in 92 (by decide +kernel) rfl⟩⟩
theorem rc_1_2 : RC 1 2 = some 4 := by decide +kernel
theorem d_S_parts_29 : decode y_S_parts.2.1 29 = .ok (.iload_n 1, 1) := by decide +kernel
theorem d_S_parts_30 : decode y_S_parts.2.1 30 = .ok (.iload_n 2, 1) := by decide +kernel
theorem d_S_parts_31 : decode y_S_parts.2.1 31 = .ok (.iastore, 1) := by decide +kernel
theorem kc_4 : KC[4]? = some (0, 9) := by decide +kernel
theorem d_S_parts_32 : decode y_S_parts.2.1 32 = .ok (.iconst 1, 1) := by decide +kernel
theorem d_S_parts_33 : decode y_S_parts.2.1 33 = .ok (.ireturn, 1) := by decide +kernel
section
variable {l : Launch} {b : PB}
/-- what a fresh object holds -/
def FRc (I : Nat → Nat → Int32) : Prop :=
  FH 1 I 4 0 0 0 ∧ I 1 6 = nI 0 ∧ I 1 7 = nI 0 ∧ I 1 11 = (-1) ∧ I 2 1 = nI 6 ∧ I 2 2 = nI 40 ∧ I 2 4 = nI 0 ∧ (∀ j, j < 9 → I 6 j = nI 0) ∧ I 11 3 = nI 0 ∧ I 137 7 = nI 4 ∧ I 137 8 = nI 0 ∧ I 137 9 = nI 0 ∧ I 144 1 = nI 0 ∧ I 144 10 = nI 0 ∧ I 144 11 = (-1) ∧ I 0 8 = nI 0 ∧ I 164 0 = nI 0
set_option maxRecDepth 20000 in
theorem cs_state {K2 : K2T} {I : Nat → Nat → Int32} (hR : FRc I) {v : Int32} (hK : ∀ I', K2 (some (.int (nI 0))) I') : Ss l b 14 y_S_state KC RC [.ref 0, .int (v)] (I) K2 := by
  obtain ⟨hF, r6, r7, r11, t1, t2, t4, hh, tm, h7, h8, h9, q1, q10, q11, im, p0⟩ := hR
  have hF0 := hF
  obtain ⟨f0, f1, f2, f3, f4, f5, f6, f7, f8, f9, f10, f11, f12, f13, fb⟩ := hF
  have f0 : ∀ j, j < 32 → I 5 j = nI 0 := f0
  have f1 : ∀ j, j < 6 → I 9 j = nI 0 := f1
  have f2 : ∀ j, j < 6 → I 10 j = nI 9 := f2
  have f3 : I 2 0 = nI (4) := f3
  have f4 : I 2 3 = nI 0 := f4
  have f5 : I 2 5 = nI (0) := f5
  have f6 : I 11 1 = nI (0) := f6
  have f7 : I 11 0 = nI (0) := f7
  have f8 : ∀ j, j < 40 → j ≠ 0 → j ≠ 1 → j ≠ 3 → I 11 j = nI 0 := f8
  have f9 : I 16 4 = nI 0 := f9
  have f10 : I 21 4 = nI 0 := f10
  have f11 : I 26 4 = nI 0 := f11
  have f12 : I 31 4 = nI 0 := f12
  have f13 : I 36 4 = nI 0 := f13
  refine Ss.of (show As l b 14 y_S_state KC RC K2 (I) 0 [.ref 0, .int (v), uu] [] from ?_)
  refine aw_aload_n rfl rfl d_S_state_0 ?_
  refine aw_getr fl_S_12 kc_0 (by decide) rfl rc_0_0 d_S_state_1 ?_
  refine aw_geti fl_S_57 kc_1 (by decide) rfl d_S_state_4 ?_
  refine aw_top (x2 := nI 0) (r6) ?_
  refine aw_istore_n (lv2 := [.ref 0, .int (v), .int (nI 0)]) rfl (by decide) rfl d_S_state_7 ?_
  refine aw_aload_n rfl rfl d_S_state_8 ?_
  refine aw_getr fl_S_12 kc_0 (by decide) rfl rc_0_0 d_S_state_9 ?_
  refine aw_iload_n rfl rfl d_S_state_12 ?_
  refine aw_puti fl_S_57 kc_1 (by decide) rfl rfl rfl rfl d_S_state_13 ?_
  refine aw_iload_n rfl rfl d_S_state_16 ?_
  exact as_reti rfl d_S_state_17 (hK _)
set_option maxRecDepth 20000 in
theorem cs_seen {K2 : K2T} {I : Nat → Nat → Int32} (hR : FRc I) {x n : Int32} (h1 : 0 ≤ x.toInt ∧ x.toInt < 6 ∧ 1 ≤ n.toInt ∧ n.toInt ≤ 24 → ∀ I', K2 (some (.int (nI 1))) I') (h0 : ¬ (0 ≤ x.toInt ∧ x.toInt < 6 ∧ 1 ≤ n.toInt ∧ n.toInt ≤ 24) → ∀ I', K2 (some (.int (nI 0))) I') : Ss l b 14 y_S_seen KC RC [.ref 0, .int (x), .int (n)] (I) K2 := by
  obtain ⟨hF, r6, r7, r11, t1, t2, t4, hh, tm, h7, h8, h9, q1, q10, q11, im, p0⟩ := hR
  have hF0 := hF
  obtain ⟨f0, f1, f2, f3, f4, f5, f6, f7, f8, f9, f10, f11, f12, f13, fb⟩ := hF
  have f0 : ∀ j, j < 32 → I 5 j = nI 0 := f0
  have f1 : ∀ j, j < 6 → I 9 j = nI 0 := f1
  have f2 : ∀ j, j < 6 → I 10 j = nI 9 := f2
  have f3 : I 2 0 = nI (4) := f3
  have f4 : I 2 3 = nI 0 := f4
  have f5 : I 2 5 = nI (0) := f5
  have f6 : I 11 1 = nI (0) := f6
  have f7 : I 11 0 = nI (0) := f7
  have f8 : ∀ j, j < 40 → j ≠ 0 → j ≠ 1 → j ≠ 3 → I 11 j = nI 0 := f8
  have f9 : I 16 4 = nI 0 := f9
  have f10 : I 21 4 = nI 0 := f10
  have f11 : I 26 4 = nI 0 := f11
  have f12 : I 31 4 = nI 0 := f12
  have f13 : I 36 4 = nI 0 := f13
  refine Ss.of (show As l b 14 y_S_seen KC RC K2 (I) 0 [.ref 0, .int (x), .int (n)] [] from ?_)
  refine aw_iload_n rfl rfl d_S_seen_0 ?_
  refine as_callS (as := [.int (x)]) (d' := 1) mo_S_isLine lk_S_73 rfl ⟨by decide, by decide⟩ rfl rfl (by decide) d_S_seen_1 (sp_isLine (I := I) (x := x) (X := (x).toInt) rfl (fun c1 => ?_) (fun c2 => ?_))
  · refine (show As l b 14 y_S_seen KC RC K2 (I) 4 [.ref 0, .int (x), .int (n)] [.int (nI 1)] from ?_)
    refine aw_if_eqI (tgt := 18) (1) (by decide +kernel) (by decide) d_S_seen_4 (fun q => absurd q (by decide)) (fun _ => ?_)
    refine aw_iload_n rfl rfl d_S_seen_7 ?_
    refine aw_iconst (v := nI 1) ci_1 d_S_seen_8 ?_
    refine aw_icmp_ltI (tgt := 18) (n).toInt (1) rfl (by decide +kernel) (by decide) d_S_seen_9 (fun c3 => ?_) (fun c3 => ?_)
    · refine aw_iconst (v := nI 0) ci_0 d_S_seen_18 ?_
      exact as_retz rfl (by decide +kernel) d_S_seen_19 (h0 (by omega) _)
    · refine aw_iload_n rfl rfl d_S_seen_12 ?_
      refine aw_bipush (v := nI 24) cb_24 d_S_seen_13 ?_
      refine aw_icmp_leI (tgt := 20) (n).toInt (24) rfl (by decide +kernel) (by decide) d_S_seen_15 (fun c4 => ?_) (fun c4 => ?_)
      · refine aw_aload_n rfl rfl d_S_seen_20 ?_
        refine aw_getr fl_S_12 kc_0 (by decide) rfl rc_0_0 d_S_seen_21 ?_
        refine aw_getr fl_S_77 kc_1 (by decide) rfl rc_1_5 d_S_seen_24 ?_
        refine aw_getr fl_S_81 kc_7 (by decide) rfl rc_7_2 d_S_seen_27 ?_
        refine aw_iload_n rfl rfl d_S_seen_30 ?_
        refine aw_iload_n rfl rfl d_S_seen_31 ?_
        refine aw_iast (j := x.toInt.toNat) kc_10 (vp_in_iff.mpr ⟨by omega, by omega⟩) rfl d_S_seen_32 ?_
        refine aw_iconst (v := nI 1) ci_1 d_S_seen_33 ?_
        exact as_retz rfl (by decide +kernel) d_S_seen_34 (h1 (by omega) _)
      · refine aw_iconst (v := nI 0) ci_0 d_S_seen_18 ?_
        exact as_retz rfl (by decide +kernel) d_S_seen_19 (h0 (by omega) _)
  · refine (show As l b 14 y_S_seen KC RC K2 (I) 4 [.ref 0, .int (x), .int (n)] [.int (nI 0)] from ?_)
    refine aw_if_eqI (tgt := 18) (0) (by decide +kernel) (by decide) d_S_seen_4 (fun _ => ?_) (fun q => absurd q (by decide))
    refine aw_iconst (v := nI 0) ci_0 d_S_seen_18 ?_
    exact as_retz rfl (by decide +kernel) d_S_seen_19 (h0 (by omega) _)
set_option maxRecDepth 20000 in
theorem cs_parts {K2 : K2T} {I : Nat → Nat → Int32} (hR : FRc I) {x n : Int32} (h1 : 2 ≤ x.toInt ∧ x.toInt ≤ 8 ∧ 0 ≤ n.toInt ∧ n.toInt < x.toInt → ∀ I', K2 (some (.int (nI 1))) I') (h0 : ¬ (2 ≤ x.toInt ∧ x.toInt ≤ 8 ∧ 0 ≤ n.toInt ∧ n.toInt < x.toInt) → ∀ I', K2 (some (.int (nI 0))) I') : Ss l b 14 y_S_parts KC RC [.ref 0, .int (x), .int (n)] (I) K2 := by
  obtain ⟨hF, r6, r7, r11, t1, t2, t4, hh, tm, h7, h8, h9, q1, q10, q11, im, p0⟩ := hR
  have hF0 := hF
  obtain ⟨f0, f1, f2, f3, f4, f5, f6, f7, f8, f9, f10, f11, f12, f13, fb⟩ := hF
  have f0 : ∀ j, j < 32 → I 5 j = nI 0 := f0
  have f1 : ∀ j, j < 6 → I 9 j = nI 0 := f1
  have f2 : ∀ j, j < 6 → I 10 j = nI 9 := f2
  have f3 : I 2 0 = nI (4) := f3
  have f4 : I 2 3 = nI 0 := f4
  have f5 : I 2 5 = nI (0) := f5
  have f6 : I 11 1 = nI (0) := f6
  have f7 : I 11 0 = nI (0) := f7
  have f8 : ∀ j, j < 40 → j ≠ 0 → j ≠ 1 → j ≠ 3 → I 11 j = nI 0 := f8
  have f9 : I 16 4 = nI 0 := f9
  have f10 : I 21 4 = nI 0 := f10
  have f11 : I 26 4 = nI 0 := f11
  have f12 : I 31 4 = nI 0 := f12
  have f13 : I 36 4 = nI 0 := f13
  refine Ss.of (show As l b 14 y_S_parts KC RC K2 (I) 0 [.ref 0, .int (x), .int (n)] [] from ?_)
  refine aw_iload_n rfl rfl d_S_parts_0 ?_
  refine aw_iconst (v := nI 2) ci_2 d_S_parts_1 ?_
  refine aw_icmp_ltI (tgt := 20) (x).toInt (2) rfl (by decide +kernel) (by decide) d_S_parts_2 (fun c1 => ?_) (fun c1 => ?_)
  · refine aw_iconst (v := nI 0) ci_0 d_S_parts_20 ?_
    exact as_retz rfl (by decide +kernel) d_S_parts_21 (h0 (by omega) _)
  · refine aw_iload_n rfl rfl d_S_parts_5 ?_
    refine aw_bipush (v := nI 8) cb_8 d_S_parts_6 ?_
    refine aw_icmp_gtI (tgt := 20) (x).toInt (8) rfl (by decide +kernel) (by decide) d_S_parts_8 (fun c2 => ?_) (fun c2 => ?_)
    · refine aw_iconst (v := nI 0) ci_0 d_S_parts_20 ?_
      exact as_retz rfl (by decide +kernel) d_S_parts_21 (h0 (by omega) _)
    · refine aw_iload_n rfl rfl d_S_parts_11 ?_
      refine aw_if_ltI (tgt := 20) (n).toInt rfl (by decide) d_S_parts_12 (fun c3 => ?_) (fun c3 => ?_)
      · refine aw_iconst (v := nI 0) ci_0 d_S_parts_20 ?_
        exact as_retz rfl (by decide +kernel) d_S_parts_21 (h0 (by omega) _)
      · refine aw_iload_n rfl rfl d_S_parts_15 ?_
        refine aw_iload_n rfl rfl d_S_parts_16 ?_
        refine aw_icmp_ltI (tgt := 22) (n).toInt (x).toInt rfl rfl (by decide) d_S_parts_17 (fun c4 => ?_) (fun c4 => ?_)
        · refine aw_aload_n rfl rfl d_S_parts_22 ?_
          refine aw_getr fl_S_12 kc_0 (by decide) rfl rc_0_0 d_S_parts_23 ?_
          refine aw_getr fl_S_86 kc_1 (by decide) rfl rc_1_2 d_S_parts_26 ?_
          refine aw_iload_n rfl rfl d_S_parts_29 ?_
          refine aw_iload_n rfl rfl d_S_parts_30 ?_
          refine aw_iast (j := x.toInt.toNat) kc_4 (vp_in_iff.mpr ⟨by omega, by omega⟩) rfl d_S_parts_31 ?_
          refine aw_iconst (v := nI 1) ci_1 d_S_parts_32 ?_
          exact as_retz rfl (by decide +kernel) d_S_parts_33 (h1 (by omega) _)
        · refine aw_iconst (v := nI 0) ci_0 d_S_parts_20 ?_
          exact as_retz rfl (by decide +kernel) d_S_parts_21 (h0 (by omega) _)
end
