/-! the dream hill -/
theorem kc_122 : KC[122]? = some (3, 12) := by decide +kernel
theorem rc_122_0 : RC 122 0 = some 123 := by decide +kernel
theorem kc_123 : KC[123]? = some (0, 240) := by decide +kernel
theorem kc_88 : KC[88]? = some (7, 3) := by decide +kernel
theorem rc_88_1 : RC 88 1 = some 90 := by decide +kernel
theorem kc_90 : KC[90]? = some (0, 6) := by decide +kernel
theorem rc_88_2 : RC 88 2 = some 91 := by decide +kernel
theorem kc_91 : KC[91]? = some (0, 6) := by decide +kernel
theorem kc_82 : KC[82]? = some (5, 14) := by decide +kernel
theorem rc_82_0 : RC 82 0 = some 83 := by decide +kernel
theorem kc_83 : KC[83]? = some (0, 6) := by decide +kernel
theorem rc_82_1 : RC 82 1 = some 84 := by decide +kernel
theorem kc_84 : KC[84]? = some (2, 5) := by decide +kernel
theorem rc_84_0 : RC 84 0 = some 97 := by decide +kernel
theorem rc_84_1 : RC 84 1 = some 102 := by decide +kernel
theorem rc_84_2 : RC 84 2 = some 107 := by decide +kernel
theorem rc_84_3 : RC 84 3 = some 112 := by decide +kernel
theorem rc_82_5 : RC 82 5 = some 88 := by decide +kernel
theorem rc_122_4 : RC 122 4 = some 127 := by decide +kernel
theorem rc_82_8 : RC 82 8 = some 92 := by decide +kernel
theorem kc_92 : KC[92]? = some (0, 40) := by decide +kernel
theorem rc_82_9 : RC 82 9 = some 93 := by decide +kernel
theorem kc_93 : KC[93]? = some (0, 30) := by decide +kernel
theorem rc_82_10 : RC 82 10 = some 94 := by decide +kernel
theorem kc_94 : KC[94]? = some (0, 180) := by decide +kernel
theorem rc_82_3 : RC 82 3 = some 86 := by decide +kernel
theorem kc_86 : KC[86]? = some (0, 32) := by decide +kernel
section
variable {l : Launch} {b : PB}
set_option maxRecDepth 20000 in
theorem lp_fill_c123 {K2 : K2T} {I : Nat → Nat → Int32} {v : Int32} (hK : K2 none (updA I 123 (fun j => if j < 240 then v else I 123 j))) : ∀ (n i : Nat), i + n = 240 → As l b 1 y_JA_fill KC RC K2 (updA I 123 (fun j => if j < i then v else I 123 j)) 5 [.ref 123, .int (v), .int (nI (i)), .int (nI 240)] [] := by
  intro n
  induction n with
  | zero =>
    intro i hi
    refine aw_iload_n rfl rfl d_JA_fill_5 ?_
    refine aw_iload_n rfl rfl d_JA_fill_6 ?_
    refine aw_icmp_geI (tgt := 20) ((i : Nat) : Int) (240) (nI_toInt (by omega)) (by decide +kernel) (by decide) d_JA_fill_7 (fun _ => ?_) (fun q => absurd q (by omega))
    exact as_retv rfl d_JA_fill_20 (by rw [show i = 240 by omega]; exact hK)
  | succ n ih =>
    intro i hi
    refine aw_iload_n rfl rfl d_JA_fill_5 ?_
    refine aw_iload_n rfl rfl d_JA_fill_6 ?_
    refine aw_icmp_geI (tgt := 20) ((i : Nat) : Int) (240) (nI_toInt (by omega)) (by decide +kernel) (by decide) d_JA_fill_7 (fun q => absurd q (by omega)) (fun _ => ?_)
    refine aw_aload_n rfl rfl d_JA_fill_10 ?_
    refine aw_iload_n rfl rfl d_JA_fill_11 ?_
    refine aw_iload_n rfl rfl d_JA_fill_12 ?_
    refine aw_iast (j := i) kc_123 (vp_in_nI (by omega) (by decide)) (nI_clamp (by omega)) d_JA_fill_13 ?_
    refine aw_iinc (v := nI (i + 1)) (lv2 := [.ref 123, .int (v), .int (nI (i + 1)), .int (nI 240)]) rfl (inc_1 _) (by decide) rfl d_JA_fill_14 ?_
    refine aw_goto (tgt := 5) (by decide) d_JA_fill_17 ?_
    rw [fill_s]; exact ih (i + 1) (by omega)
set_option maxRecDepth 20000 in
theorem sp_fill_c123 {K2 : K2T} {I : Nat → Nat → Int32} {v : Int32} (hK : K2 none (updA I 123 (fun j => if j < 240 then v else I 123 j))) : Ss l b 1 y_JA_fill KC RC [.ref 123, .int (v)] (I) K2 := by
  refine Ss.of (show As l b 1 y_JA_fill KC RC K2 (I) 0 [.ref 123, .int (v), uu, uu] [] from ?_)
  refine aw_iconst (v := nI 0) ci_0 d_JA_fill_0 ?_
  refine aw_istore_n (lv2 := [.ref 123, .int (v), .int (nI 0), uu]) rfl (by decide) rfl d_JA_fill_1 ?_
  refine aw_aload_n rfl rfl d_JA_fill_2 ?_
  refine aw_alen kc_123 (by decide) d_JA_fill_3 ?_
  refine aw_istore_n (lv2 := [.ref 123, .int (v), .int (nI 0), .int (nI 240)]) rfl (by decide) rfl d_JA_fill_4 ?_
  have h0 := lp_fill_c123 (l := l) (b := b) hK 240 0 (by omega); rw [fill_0] at h0; exact h0
set_option maxRecDepth 20000 in
theorem sp_clear_122 {K2 : K2T} {I : Nat → Nat → Int32} {v : Int32} (hK : K2 none (upd2 (upd2 (upd2 (upd2 (upd2 (updA I 123 (fun j => if j < 240 then nI 0 else I 123 j)) 122 7 (v)) 122 8 (nI 0)) 122 9 (nI 0)) 122 10 (nI 0)) 122 11 (nI 0))) : Ss l b 2 y_C_clear KC RC [.ref 122, .int (v)] (I) K2 := by
  refine Ss.of (show As l b 2 y_C_clear KC RC K2 (I) 0 [.ref 122, .int (v)] [] from ?_)
  refine aw_aload_n rfl rfl d_C_clear_0 ?_
  refine aw_getr fl_C_9 kc_122 (by decide) rfl rc_122_0 d_C_clear_1 ?_
  refine aw_iconst (v := nI 0) ci_0 d_C_clear_4 ?_
  refine as_callS (as := [.ref 123, .int (nI 0)]) (d' := 1) mo_JA_fill lk_C_34 rfl ⟨by decide, by decide⟩ rfl rfl (by decide) d_C_clear_5 (sp_fill_c123 (I := I) (v := nI 0) ?_)
  refine (show As l b 2 y_C_clear KC RC K2 (updA (I) 123 (fun j => if j < 240 then nI 0 else (I) 123 j)) 8 [.ref 122, .int (v)] [] from ?_)
  refine aw_aload_n rfl rfl d_C_clear_8 ?_
  refine aw_iload_n rfl rfl d_C_clear_9 ?_
  refine aw_puti fl_C_30 kc_122 (by decide) rfl rfl rfl rfl d_C_clear_10 ?_
  refine aw_aload_n rfl rfl d_C_clear_13 ?_
  refine aw_iconst (v := nI 0) ci_0 d_C_clear_14 ?_
  refine aw_puti fl_C_40 kc_122 (by decide) rfl rfl rfl rfl d_C_clear_15 ?_
  refine aw_aload_n rfl rfl d_C_clear_18 ?_
  refine aw_iconst (v := nI 0) ci_0 d_C_clear_19 ?_
  refine aw_puti fl_C_43 kc_122 (by decide) rfl rfl rfl rfl d_C_clear_20 ?_
  refine aw_aload_n rfl rfl d_C_clear_23 ?_
  refine aw_iconst (v := nI 0) ci_0 d_C_clear_24 ?_
  refine aw_puti fl_C_46 kc_122 (by decide) rfl (by decide +kernel) (by decide +kernel) rfl d_C_clear_25 ?_
  refine aw_aload_n rfl rfl d_C_clear_28 ?_
  refine aw_iconst (v := nI 0) ci_0 d_C_clear_29 ?_
  refine aw_puti fl_C_50 kc_122 (by decide) rfl (by decide +kernel) (by decide +kernel) rfl d_C_clear_30 ?_
  exact as_retv rfl d_C_clear_33 hK
set_option maxRecDepth 20000 in
theorem sp_listSeen_88_127_n {K2 : K2T} {I : Nat → Nat → Int32} (d1 : ∀ j, j < 6 → I 90 j = nI 0) (d2 : ∀ j, j < 6 → I 91 j = nI 9) (hK : K2 (some (.int (nI 0))) I) : Ss l b 2 y_L_listSeen KC RC [.ref 88, .ref 127, .int ((-1 : Int32))] (I) K2 := by
  refine Ss.of (show As l b 2 y_L_listSeen KC RC K2 (I) 0 [.ref 88, .ref 127, .int ((-1 : Int32)), uu, uu, uu, uu] [] from ?_)
  refine aw_iconst (v := nI 0) ci_0 d_L_listSeen_0 ?_
  refine aw_istore_n (lv2 := [.ref 88, .ref 127, .int ((-1 : Int32)), .int (nI 0), uu, uu, uu]) rfl (by decide) rfl d_L_listSeen_1 ?_
  refine aw_iconst (v := nI 0) ci_0 d_L_listSeen_2 ?_
  refine aw_istore (lv2 := [.ref 88, .ref 127, .int ((-1 : Int32)), .int (nI 0), .int (nI 0), uu, uu]) (by decide) rfl d_L_listSeen_3 ?_
  refine aw_iload rfl d_L_listSeen_5 ?_
  refine aw_bipush (v := nI 6) cb_6 d_L_listSeen_7 ?_
  refine aw_icmp_geI (tgt := 85) (0) (6) (by decide +kernel) (by decide +kernel) (by decide) d_L_listSeen_9 (fun q => absurd q (by decide)) (fun _ => ?_)
  refine aw_aload_n rfl rfl d_L_listSeen_12 ?_
  refine aw_getr fl_L_15 kc_88 (by decide) rfl rc_88_1 d_L_listSeen_13 ?_
  refine aw_iload rfl d_L_listSeen_16 ?_
  refine aw_iald (j := 0) kc_90 (vp_in_nI (by decide) (by decide)) (nI_clamp (by decide)) d_L_listSeen_18 ?_
  refine aw_top (x2 := nI 0) (d1 (0) (by omega)) ?_
  refine aw_aload_n rfl rfl d_L_listSeen_19 ?_
  refine aw_getr fl_L_18 kc_88 (by decide) rfl rc_88_2 d_L_listSeen_20 ?_
  refine aw_iload rfl d_L_listSeen_23 ?_
  refine aw_iald (j := 0) kc_91 (vp_in_nI (by decide) (by decide)) (nI_clamp (by decide)) d_L_listSeen_25 ?_
  refine aw_top (x2 := nI 9) (d2 (0) (by omega)) ?_
  refine aw_iload rfl d_L_listSeen_26 ?_
  refine aw_iload_n rfl rfl d_L_listSeen_28 ?_
  refine aw_icmp_neI (tgt := 36) (0) (-1) (by decide +kernel) (by decide +kernel) (by decide) d_L_listSeen_29 (fun _ => ?_) (fun q => absurd q (by decide))
  refine aw_iconst (v := nI 0) ci_0 d_L_listSeen_36 ?_
  refine aw_iadd d_L_listSeen_37 ?_
  refine aw_top (x2 := nI 9) (by decide +kernel) ?_
  refine as_callS (as := [.int (nI 0), .int (nI 9)]) (d' := 1) mo_JM_min lk_L_37 rfl ⟨by decide, by decide⟩ rfl rfl (by decide) d_L_listSeen_38 (sp_min_c (I := I) (x := nI 0) (z := nI 9) (X := (0)) (Z := (9)) (by decide +kernel) (by decide +kernel) (fun _ => ?_) (fun q => absurd q (by decide)) )
  refine (show As l b 2 y_L_listSeen KC RC K2 (I) 41 [.ref 88, .ref 127, .int ((-1 : Int32)), .int (nI 0), .int (nI 0), uu, uu] [.int (nI 0)] from ?_)
  refine aw_istore (lv2 := [.ref 88, .ref 127, .int ((-1 : Int32)), .int (nI 0), .int (nI 0), .int (nI 0), uu]) (by decide) rfl d_L_listSeen_41 ?_
  refine aw_iconst (v := nI 0) ci_0 d_L_listSeen_43 ?_
  refine aw_istore (lv2 := [.ref 88, .ref 127, .int ((-1 : Int32)), .int (nI 0), .int (nI 0), .int (nI 0), .int (nI 0)]) (by decide) rfl d_L_listSeen_44 ?_
  refine aw_iload rfl d_L_listSeen_46 ?_
  refine aw_iload rfl d_L_listSeen_48 ?_
  refine aw_icmp_geI (tgt := 79) (0) (0) (by decide +kernel) (by decide +kernel) (by decide) d_L_listSeen_50 (fun _ => ?_) (fun q => absurd q (by decide))
  refine aw_iinc (v := nI 1) (lv2 := [.ref 88, .ref 127, .int ((-1 : Int32)), .int (nI 0), .int (nI 1), .int (nI 0), .int (nI 0)]) rfl (by decide +kernel) (by decide) rfl d_L_listSeen_79 ?_
  refine aw_goto (tgt := 5) (by decide) d_L_listSeen_82 ?_
  refine aw_iload rfl d_L_listSeen_5 ?_
  refine aw_bipush (v := nI 6) cb_6 d_L_listSeen_7 ?_
  refine aw_icmp_geI (tgt := 85) (1) (6) (by decide +kernel) (by decide +kernel) (by decide) d_L_listSeen_9 (fun q => absurd q (by decide)) (fun _ => ?_)
  refine aw_aload_n rfl rfl d_L_listSeen_12 ?_
  refine aw_getr fl_L_15 kc_88 (by decide) rfl rc_88_1 d_L_listSeen_13 ?_
  refine aw_iload rfl d_L_listSeen_16 ?_
  refine aw_iald (j := 1) kc_90 (vp_in_nI (by decide) (by decide)) (nI_clamp (by decide)) d_L_listSeen_18 ?_
  refine aw_top (x2 := nI 0) (d1 (1) (by omega)) ?_
  refine aw_aload_n rfl rfl d_L_listSeen_19 ?_
  refine aw_getr fl_L_18 kc_88 (by decide) rfl rc_88_2 d_L_listSeen_20 ?_
  refine aw_iload rfl d_L_listSeen_23 ?_
  refine aw_iald (j := 1) kc_91 (vp_in_nI (by decide) (by decide)) (nI_clamp (by decide)) d_L_listSeen_25 ?_
  refine aw_top (x2 := nI 9) (d2 (1) (by omega)) ?_
  refine aw_iload rfl d_L_listSeen_26 ?_
  refine aw_iload_n rfl rfl d_L_listSeen_28 ?_
  refine aw_icmp_neI (tgt := 36) (1) (-1) (by decide +kernel) (by decide +kernel) (by decide) d_L_listSeen_29 (fun _ => ?_) (fun q => absurd q (by decide))
  refine aw_iconst (v := nI 0) ci_0 d_L_listSeen_36 ?_
  refine aw_iadd d_L_listSeen_37 ?_
  refine aw_top (x2 := nI 9) (by decide +kernel) ?_
  refine as_callS (as := [.int (nI 0), .int (nI 9)]) (d' := 1) mo_JM_min lk_L_37 rfl ⟨by decide, by decide⟩ rfl rfl (by decide) d_L_listSeen_38 (sp_min_c (I := I) (x := nI 0) (z := nI 9) (X := (0)) (Z := (9)) (by decide +kernel) (by decide +kernel) (fun _ => ?_) (fun q => absurd q (by decide)) )
  refine (show As l b 2 y_L_listSeen KC RC K2 (I) 41 [.ref 88, .ref 127, .int ((-1 : Int32)), .int (nI 0), .int (nI 1), .int (nI 0), .int (nI 0)] [.int (nI 0)] from ?_)
  refine aw_istore (lv2 := [.ref 88, .ref 127, .int ((-1 : Int32)), .int (nI 0), .int (nI 1), .int (nI 0), .int (nI 0)]) (by decide) rfl d_L_listSeen_41 ?_
  refine aw_iconst (v := nI 0) ci_0 d_L_listSeen_43 ?_
  refine aw_istore (lv2 := [.ref 88, .ref 127, .int ((-1 : Int32)), .int (nI 0), .int (nI 1), .int (nI 0), .int (nI 0)]) (by decide) rfl d_L_listSeen_44 ?_
  refine aw_iload rfl d_L_listSeen_46 ?_
  refine aw_iload rfl d_L_listSeen_48 ?_
  refine aw_icmp_geI (tgt := 79) (0) (0) (by decide +kernel) (by decide +kernel) (by decide) d_L_listSeen_50 (fun _ => ?_) (fun q => absurd q (by decide))
  refine aw_iinc (v := nI 2) (lv2 := [.ref 88, .ref 127, .int ((-1 : Int32)), .int (nI 0), .int (nI 2), .int (nI 0), .int (nI 0)]) rfl (by decide +kernel) (by decide) rfl d_L_listSeen_79 ?_
  refine aw_goto (tgt := 5) (by decide) d_L_listSeen_82 ?_
  refine aw_iload rfl d_L_listSeen_5 ?_
  refine aw_bipush (v := nI 6) cb_6 d_L_listSeen_7 ?_
  refine aw_icmp_geI (tgt := 85) (2) (6) (by decide +kernel) (by decide +kernel) (by decide) d_L_listSeen_9 (fun q => absurd q (by decide)) (fun _ => ?_)
  refine aw_aload_n rfl rfl d_L_listSeen_12 ?_
  refine aw_getr fl_L_15 kc_88 (by decide) rfl rc_88_1 d_L_listSeen_13 ?_
  refine aw_iload rfl d_L_listSeen_16 ?_
  refine aw_iald (j := 2) kc_90 (vp_in_nI (by decide) (by decide)) (nI_clamp (by decide)) d_L_listSeen_18 ?_
  refine aw_top (x2 := nI 0) (d1 (2) (by omega)) ?_
  refine aw_aload_n rfl rfl d_L_listSeen_19 ?_
  refine aw_getr fl_L_18 kc_88 (by decide) rfl rc_88_2 d_L_listSeen_20 ?_
  refine aw_iload rfl d_L_listSeen_23 ?_
  refine aw_iald (j := 2) kc_91 (vp_in_nI (by decide) (by decide)) (nI_clamp (by decide)) d_L_listSeen_25 ?_
  refine aw_top (x2 := nI 9) (d2 (2) (by omega)) ?_
  refine aw_iload rfl d_L_listSeen_26 ?_
  refine aw_iload_n rfl rfl d_L_listSeen_28 ?_
  refine aw_icmp_neI (tgt := 36) (2) (-1) (by decide +kernel) (by decide +kernel) (by decide) d_L_listSeen_29 (fun _ => ?_) (fun q => absurd q (by decide))
  refine aw_iconst (v := nI 0) ci_0 d_L_listSeen_36 ?_
  refine aw_iadd d_L_listSeen_37 ?_
  refine aw_top (x2 := nI 9) (by decide +kernel) ?_
  refine as_callS (as := [.int (nI 0), .int (nI 9)]) (d' := 1) mo_JM_min lk_L_37 rfl ⟨by decide, by decide⟩ rfl rfl (by decide) d_L_listSeen_38 (sp_min_c (I := I) (x := nI 0) (z := nI 9) (X := (0)) (Z := (9)) (by decide +kernel) (by decide +kernel) (fun _ => ?_) (fun q => absurd q (by decide)) )
  refine (show As l b 2 y_L_listSeen KC RC K2 (I) 41 [.ref 88, .ref 127, .int ((-1 : Int32)), .int (nI 0), .int (nI 2), .int (nI 0), .int (nI 0)] [.int (nI 0)] from ?_)
  refine aw_istore (lv2 := [.ref 88, .ref 127, .int ((-1 : Int32)), .int (nI 0), .int (nI 2), .int (nI 0), .int (nI 0)]) (by decide) rfl d_L_listSeen_41 ?_
  refine aw_iconst (v := nI 0) ci_0 d_L_listSeen_43 ?_
  refine aw_istore (lv2 := [.ref 88, .ref 127, .int ((-1 : Int32)), .int (nI 0), .int (nI 2), .int (nI 0), .int (nI 0)]) (by decide) rfl d_L_listSeen_44 ?_
  refine aw_iload rfl d_L_listSeen_46 ?_
  refine aw_iload rfl d_L_listSeen_48 ?_
  refine aw_icmp_geI (tgt := 79) (0) (0) (by decide +kernel) (by decide +kernel) (by decide) d_L_listSeen_50 (fun _ => ?_) (fun q => absurd q (by decide))
  refine aw_iinc (v := nI 3) (lv2 := [.ref 88, .ref 127, .int ((-1 : Int32)), .int (nI 0), .int (nI 3), .int (nI 0), .int (nI 0)]) rfl (by decide +kernel) (by decide) rfl d_L_listSeen_79 ?_
  refine aw_goto (tgt := 5) (by decide) d_L_listSeen_82 ?_
  refine aw_iload rfl d_L_listSeen_5 ?_
  refine aw_bipush (v := nI 6) cb_6 d_L_listSeen_7 ?_
  refine aw_icmp_geI (tgt := 85) (3) (6) (by decide +kernel) (by decide +kernel) (by decide) d_L_listSeen_9 (fun q => absurd q (by decide)) (fun _ => ?_)
  refine aw_aload_n rfl rfl d_L_listSeen_12 ?_
  refine aw_getr fl_L_15 kc_88 (by decide) rfl rc_88_1 d_L_listSeen_13 ?_
  refine aw_iload rfl d_L_listSeen_16 ?_
  refine aw_iald (j := 3) kc_90 (vp_in_nI (by decide) (by decide)) (nI_clamp (by decide)) d_L_listSeen_18 ?_
  refine aw_top (x2 := nI 0) (d1 (3) (by omega)) ?_
  refine aw_aload_n rfl rfl d_L_listSeen_19 ?_
  refine aw_getr fl_L_18 kc_88 (by decide) rfl rc_88_2 d_L_listSeen_20 ?_
  refine aw_iload rfl d_L_listSeen_23 ?_
  refine aw_iald (j := 3) kc_91 (vp_in_nI (by decide) (by decide)) (nI_clamp (by decide)) d_L_listSeen_25 ?_
  refine aw_top (x2 := nI 9) (d2 (3) (by omega)) ?_
  refine aw_iload rfl d_L_listSeen_26 ?_
  refine aw_iload_n rfl rfl d_L_listSeen_28 ?_
  refine aw_icmp_neI (tgt := 36) (3) (-1) (by decide +kernel) (by decide +kernel) (by decide) d_L_listSeen_29 (fun _ => ?_) (fun q => absurd q (by decide))
  refine aw_iconst (v := nI 0) ci_0 d_L_listSeen_36 ?_
  refine aw_iadd d_L_listSeen_37 ?_
  refine aw_top (x2 := nI 9) (by decide +kernel) ?_
  refine as_callS (as := [.int (nI 0), .int (nI 9)]) (d' := 1) mo_JM_min lk_L_37 rfl ⟨by decide, by decide⟩ rfl rfl (by decide) d_L_listSeen_38 (sp_min_c (I := I) (x := nI 0) (z := nI 9) (X := (0)) (Z := (9)) (by decide +kernel) (by decide +kernel) (fun _ => ?_) (fun q => absurd q (by decide)) )
  refine (show As l b 2 y_L_listSeen KC RC K2 (I) 41 [.ref 88, .ref 127, .int ((-1 : Int32)), .int (nI 0), .int (nI 3), .int (nI 0), .int (nI 0)] [.int (nI 0)] from ?_)
  refine aw_istore (lv2 := [.ref 88, .ref 127, .int ((-1 : Int32)), .int (nI 0), .int (nI 3), .int (nI 0), .int (nI 0)]) (by decide) rfl d_L_listSeen_41 ?_
  refine aw_iconst (v := nI 0) ci_0 d_L_listSeen_43 ?_
  refine aw_istore (lv2 := [.ref 88, .ref 127, .int ((-1 : Int32)), .int (nI 0), .int (nI 3), .int (nI 0), .int (nI 0)]) (by decide) rfl d_L_listSeen_44 ?_
  refine aw_iload rfl d_L_listSeen_46 ?_
  refine aw_iload rfl d_L_listSeen_48 ?_
  refine aw_icmp_geI (tgt := 79) (0) (0) (by decide +kernel) (by decide +kernel) (by decide) d_L_listSeen_50 (fun _ => ?_) (fun q => absurd q (by decide))
  refine aw_iinc (v := nI 4) (lv2 := [.ref 88, .ref 127, .int ((-1 : Int32)), .int (nI 0), .int (nI 4), .int (nI 0), .int (nI 0)]) rfl (by decide +kernel) (by decide) rfl d_L_listSeen_79 ?_
  refine aw_goto (tgt := 5) (by decide) d_L_listSeen_82 ?_
  refine aw_iload rfl d_L_listSeen_5 ?_
  refine aw_bipush (v := nI 6) cb_6 d_L_listSeen_7 ?_
  refine aw_icmp_geI (tgt := 85) (4) (6) (by decide +kernel) (by decide +kernel) (by decide) d_L_listSeen_9 (fun q => absurd q (by decide)) (fun _ => ?_)
  refine aw_aload_n rfl rfl d_L_listSeen_12 ?_
  refine aw_getr fl_L_15 kc_88 (by decide) rfl rc_88_1 d_L_listSeen_13 ?_
  refine aw_iload rfl d_L_listSeen_16 ?_
  refine aw_iald (j := 4) kc_90 (vp_in_nI (by decide) (by decide)) (nI_clamp (by decide)) d_L_listSeen_18 ?_
  refine aw_top (x2 := nI 0) (d1 (4) (by omega)) ?_
  refine aw_aload_n rfl rfl d_L_listSeen_19 ?_
  refine aw_getr fl_L_18 kc_88 (by decide) rfl rc_88_2 d_L_listSeen_20 ?_
  refine aw_iload rfl d_L_listSeen_23 ?_
  refine aw_iald (j := 4) kc_91 (vp_in_nI (by decide) (by decide)) (nI_clamp (by decide)) d_L_listSeen_25 ?_
  refine aw_top (x2 := nI 9) (d2 (4) (by omega)) ?_
  refine aw_iload rfl d_L_listSeen_26 ?_
  refine aw_iload_n rfl rfl d_L_listSeen_28 ?_
  refine aw_icmp_neI (tgt := 36) (4) (-1) (by decide +kernel) (by decide +kernel) (by decide) d_L_listSeen_29 (fun _ => ?_) (fun q => absurd q (by decide))
  refine aw_iconst (v := nI 0) ci_0 d_L_listSeen_36 ?_
  refine aw_iadd d_L_listSeen_37 ?_
  refine aw_top (x2 := nI 9) (by decide +kernel) ?_
  refine as_callS (as := [.int (nI 0), .int (nI 9)]) (d' := 1) mo_JM_min lk_L_37 rfl ⟨by decide, by decide⟩ rfl rfl (by decide) d_L_listSeen_38 (sp_min_c (I := I) (x := nI 0) (z := nI 9) (X := (0)) (Z := (9)) (by decide +kernel) (by decide +kernel) (fun _ => ?_) (fun q => absurd q (by decide)) )
  refine (show As l b 2 y_L_listSeen KC RC K2 (I) 41 [.ref 88, .ref 127, .int ((-1 : Int32)), .int (nI 0), .int (nI 4), .int (nI 0), .int (nI 0)] [.int (nI 0)] from ?_)
  refine aw_istore (lv2 := [.ref 88, .ref 127, .int ((-1 : Int32)), .int (nI 0), .int (nI 4), .int (nI 0), .int (nI 0)]) (by decide) rfl d_L_listSeen_41 ?_
  refine aw_iconst (v := nI 0) ci_0 d_L_listSeen_43 ?_
  refine aw_istore (lv2 := [.ref 88, .ref 127, .int ((-1 : Int32)), .int (nI 0), .int (nI 4), .int (nI 0), .int (nI 0)]) (by decide) rfl d_L_listSeen_44 ?_
  refine aw_iload rfl d_L_listSeen_46 ?_
  refine aw_iload rfl d_L_listSeen_48 ?_
  refine aw_icmp_geI (tgt := 79) (0) (0) (by decide +kernel) (by decide +kernel) (by decide) d_L_listSeen_50 (fun _ => ?_) (fun q => absurd q (by decide))
  refine aw_iinc (v := nI 5) (lv2 := [.ref 88, .ref 127, .int ((-1 : Int32)), .int (nI 0), .int (nI 5), .int (nI 0), .int (nI 0)]) rfl (by decide +kernel) (by decide) rfl d_L_listSeen_79 ?_
  refine aw_goto (tgt := 5) (by decide) d_L_listSeen_82 ?_
  refine aw_iload rfl d_L_listSeen_5 ?_
  refine aw_bipush (v := nI 6) cb_6 d_L_listSeen_7 ?_
  refine aw_icmp_geI (tgt := 85) (5) (6) (by decide +kernel) (by decide +kernel) (by decide) d_L_listSeen_9 (fun q => absurd q (by decide)) (fun _ => ?_)
  refine aw_aload_n rfl rfl d_L_listSeen_12 ?_
  refine aw_getr fl_L_15 kc_88 (by decide) rfl rc_88_1 d_L_listSeen_13 ?_
  refine aw_iload rfl d_L_listSeen_16 ?_
  refine aw_iald (j := 5) kc_90 (vp_in_nI (by decide) (by decide)) (nI_clamp (by decide)) d_L_listSeen_18 ?_
  refine aw_top (x2 := nI 0) (d1 (5) (by omega)) ?_
  refine aw_aload_n rfl rfl d_L_listSeen_19 ?_
  refine aw_getr fl_L_18 kc_88 (by decide) rfl rc_88_2 d_L_listSeen_20 ?_
  refine aw_iload rfl d_L_listSeen_23 ?_
  refine aw_iald (j := 5) kc_91 (vp_in_nI (by decide) (by decide)) (nI_clamp (by decide)) d_L_listSeen_25 ?_
  refine aw_top (x2 := nI 9) (d2 (5) (by omega)) ?_
  refine aw_iload rfl d_L_listSeen_26 ?_
  refine aw_iload_n rfl rfl d_L_listSeen_28 ?_
  refine aw_icmp_neI (tgt := 36) (5) (-1) (by decide +kernel) (by decide +kernel) (by decide) d_L_listSeen_29 (fun _ => ?_) (fun q => absurd q (by decide))
  refine aw_iconst (v := nI 0) ci_0 d_L_listSeen_36 ?_
  refine aw_iadd d_L_listSeen_37 ?_
  refine aw_top (x2 := nI 9) (by decide +kernel) ?_
  refine as_callS (as := [.int (nI 0), .int (nI 9)]) (d' := 1) mo_JM_min lk_L_37 rfl ⟨by decide, by decide⟩ rfl rfl (by decide) d_L_listSeen_38 (sp_min_c (I := I) (x := nI 0) (z := nI 9) (X := (0)) (Z := (9)) (by decide +kernel) (by decide +kernel) (fun _ => ?_) (fun q => absurd q (by decide)) )
  refine (show As l b 2 y_L_listSeen KC RC K2 (I) 41 [.ref 88, .ref 127, .int ((-1 : Int32)), .int (nI 0), .int (nI 5), .int (nI 0), .int (nI 0)] [.int (nI 0)] from ?_)
  refine aw_istore (lv2 := [.ref 88, .ref 127, .int ((-1 : Int32)), .int (nI 0), .int (nI 5), .int (nI 0), .int (nI 0)]) (by decide) rfl d_L_listSeen_41 ?_
  refine aw_iconst (v := nI 0) ci_0 d_L_listSeen_43 ?_
  refine aw_istore (lv2 := [.ref 88, .ref 127, .int ((-1 : Int32)), .int (nI 0), .int (nI 5), .int (nI 0), .int (nI 0)]) (by decide) rfl d_L_listSeen_44 ?_
  refine aw_iload rfl d_L_listSeen_46 ?_
  refine aw_iload rfl d_L_listSeen_48 ?_
  refine aw_icmp_geI (tgt := 79) (0) (0) (by decide +kernel) (by decide +kernel) (by decide) d_L_listSeen_50 (fun _ => ?_) (fun q => absurd q (by decide))
  refine aw_iinc (v := nI 6) (lv2 := [.ref 88, .ref 127, .int ((-1 : Int32)), .int (nI 0), .int (nI 6), .int (nI 0), .int (nI 0)]) rfl (by decide +kernel) (by decide) rfl d_L_listSeen_79 ?_
  refine aw_goto (tgt := 5) (by decide) d_L_listSeen_82 ?_
  refine aw_iload rfl d_L_listSeen_5 ?_
  refine aw_bipush (v := nI 6) cb_6 d_L_listSeen_7 ?_
  refine aw_icmp_geI (tgt := 85) (6) (6) (by decide +kernel) (by decide +kernel) (by decide) d_L_listSeen_9 (fun _ => ?_) (fun q => absurd q (by decide))
  refine aw_iload_n rfl rfl d_L_listSeen_85 ?_
  exact as_reti rfl d_L_listSeen_86 hK
set_option maxRecDepth 20000 in
theorem sp_mostPassed_122 {K2 : K2T} {I : Nat → Nat → Int32} (fs : I 122 5 = nI 0) (hK : K2 (some (.int (-1))) I) : Ss l b 2 y_C_mostPassed KC RC [.ref 122, .ref 82] (I) K2 := by
  refine Ss.of (show As l b 2 y_C_mostPassed KC RC K2 (I) 0 [.ref 122, .ref 82, uu, uu, uu, uu, uu] [] from ?_)
  refine aw_aload_n rfl rfl d_C_mostPassed_0 ?_
  refine aw_getr fl_C_65 kc_82 (by decide) rfl rc_82_0 d_C_mostPassed_1 ?_
  refine aw_iconst (v := nI 4) ci_4 d_C_mostPassed_4 ?_
  refine aw_iald (j := 4) kc_83 (vp_in_nI (by decide) (by decide)) (nI_clamp (by decide)) d_C_mostPassed_5 ?_
  refine aw_istore_n (lv2 := [.ref 122, .ref 82, .int ((I) 83 4), uu, uu, uu, uu]) rfl (by decide) rfl d_C_mostPassed_6 ?_
  refine aw_iload_n rfl rfl d_C_mostPassed_7 ?_
  refine aw_iconst (v := nI 1) ci_1 d_C_mostPassed_8 ?_
  refine aw_isub d_C_mostPassed_9 ?_
  refine aw_istore_n (lv2 := [.ref 122, .ref 82, .int ((I) 83 4), .int (((I) 83 4 - nI 1)), uu, uu, uu]) rfl (by decide) rfl d_C_mostPassed_10 ?_
  refine aw_iconst (v := (-1 : Int32)) rfl d_C_mostPassed_11 ?_
  refine aw_istore (lv2 := [.ref 122, .ref 82, .int ((I) 83 4), .int (((I) 83 4 - nI 1)), .int ((-1 : Int32)), uu, uu]) (by decide) rfl d_C_mostPassed_12 ?_
  refine aw_iconst (v := nI 0) ci_0 d_C_mostPassed_14 ?_
  refine aw_istore (lv2 := [.ref 122, .ref 82, .int ((I) 83 4), .int (((I) 83 4 - nI 1)), .int ((-1 : Int32)), .int (nI 0), uu]) (by decide) rfl d_C_mostPassed_15 ?_
  refine aw_iload rfl d_C_mostPassed_17 ?_
  refine aw_aload_n rfl rfl d_C_mostPassed_19 ?_
  refine aw_geti fl_C_82 kc_122 (by decide) rfl d_C_mostPassed_20 ?_
  refine aw_top (x2 := nI 0) (fs) ?_
  refine aw_icmp_geI (tgt := 94) (0) (0) (by decide +kernel) (by decide +kernel) (by decide) d_C_mostPassed_23 (fun _ => ?_) (fun q => absurd q (by decide))
  refine aw_iload rfl d_C_mostPassed_94 ?_
  exact as_reti rfl d_C_mostPassed_96 hK
set_option maxRecDepth 20000 in
theorem sp_lawInForce_82_0 {K2 : K2T} {I : Nat → Nat → Int32} (f5 : I 83 5 = nI 0) (hK : ∀ r, K2 (some (.ref r)) I) : Ss l b 1 y_H_lawInForce KC RC [.ref 82] (I) K2 := by
  refine Ss.of (show As l b 1 y_H_lawInForce KC RC K2 (I) 0 [.ref 82, uu] [] from ?_)
  refine aw_aload_n rfl rfl d_H_lawInForce_0 ?_
  refine aw_getr fl_H_9 kc_82 (by decide) rfl rc_82_0 d_H_lawInForce_1 ?_
  refine aw_iconst (v := nI 5) ci_5 d_H_lawInForce_4 ?_
  refine aw_iald (j := 5) kc_83 (vp_in_nI (by decide) (by decide)) (nI_clamp (by decide)) d_H_lawInForce_5 ?_
  refine aw_top (x2 := nI 0) (f5) ?_
  refine aw_istore_n (lv2 := [.ref 82, .int (nI 0)]) rfl (by decide) rfl d_H_lawInForce_6 ?_
  refine aw_aload_n rfl rfl d_H_lawInForce_7 ?_
  refine aw_getr fl_H_17 kc_82 (by decide) rfl rc_82_1 d_H_lawInForce_8 ?_
  refine aw_iload_n rfl rfl d_H_lawInForce_11 ?_
  refine aw_if_ltI (tgt := 24) (0) (by decide +kernel) (by decide) d_H_lawInForce_12 (fun q => absurd q (by decide)) (fun _ => ?_)
  refine aw_iload_n rfl rfl d_H_lawInForce_15 ?_
  refine aw_iconst (v := nI 4) ci_4 d_H_lawInForce_16 ?_
  refine aw_icmp_geI (tgt := 24) (0) (4) (by decide +kernel) (by decide +kernel) (by decide) d_H_lawInForce_17 (fun q => absurd q (by decide)) (fun _ => ?_)
  refine aw_iload_n rfl rfl d_H_lawInForce_20 ?_
  refine aw_goto (tgt := 25) (by decide) d_H_lawInForce_21 ?_
  refine aw_aald (j := 0) kc_84 (vp_in_nI (by decide) (by decide)) (nI_clamp (by decide)) rc_84_0 d_H_lawInForce_25 ?_
  exact as_reta rfl d_H_lawInForce_26 (hK _)
set_option maxRecDepth 20000 in
theorem sp_lawInForce_82_1 {K2 : K2T} {I : Nat → Nat → Int32} (f5 : I 83 5 = nI 1) (hK : ∀ r, K2 (some (.ref r)) I) : Ss l b 1 y_H_lawInForce KC RC [.ref 82] (I) K2 := by
  refine Ss.of (show As l b 1 y_H_lawInForce KC RC K2 (I) 0 [.ref 82, uu] [] from ?_)
  refine aw_aload_n rfl rfl d_H_lawInForce_0 ?_
  refine aw_getr fl_H_9 kc_82 (by decide) rfl rc_82_0 d_H_lawInForce_1 ?_
  refine aw_iconst (v := nI 5) ci_5 d_H_lawInForce_4 ?_
  refine aw_iald (j := 5) kc_83 (vp_in_nI (by decide) (by decide)) (nI_clamp (by decide)) d_H_lawInForce_5 ?_
  refine aw_top (x2 := nI 1) (f5) ?_
  refine aw_istore_n (lv2 := [.ref 82, .int (nI 1)]) rfl (by decide) rfl d_H_lawInForce_6 ?_
  refine aw_aload_n rfl rfl d_H_lawInForce_7 ?_
  refine aw_getr fl_H_17 kc_82 (by decide) rfl rc_82_1 d_H_lawInForce_8 ?_
  refine aw_iload_n rfl rfl d_H_lawInForce_11 ?_
  refine aw_if_ltI (tgt := 24) (1) (by decide +kernel) (by decide) d_H_lawInForce_12 (fun q => absurd q (by decide)) (fun _ => ?_)
  refine aw_iload_n rfl rfl d_H_lawInForce_15 ?_
  refine aw_iconst (v := nI 4) ci_4 d_H_lawInForce_16 ?_
  refine aw_icmp_geI (tgt := 24) (1) (4) (by decide +kernel) (by decide +kernel) (by decide) d_H_lawInForce_17 (fun q => absurd q (by decide)) (fun _ => ?_)
  refine aw_iload_n rfl rfl d_H_lawInForce_20 ?_
  refine aw_goto (tgt := 25) (by decide) d_H_lawInForce_21 ?_
  refine aw_aald (j := 1) kc_84 (vp_in_nI (by decide) (by decide)) (nI_clamp (by decide)) rc_84_1 d_H_lawInForce_25 ?_
  exact as_reta rfl d_H_lawInForce_26 (hK _)
set_option maxRecDepth 20000 in
theorem sp_lawInForce_82_2 {K2 : K2T} {I : Nat → Nat → Int32} (f5 : I 83 5 = nI 2) (hK : ∀ r, K2 (some (.ref r)) I) : Ss l b 1 y_H_lawInForce KC RC [.ref 82] (I) K2 := by
  refine Ss.of (show As l b 1 y_H_lawInForce KC RC K2 (I) 0 [.ref 82, uu] [] from ?_)
  refine aw_aload_n rfl rfl d_H_lawInForce_0 ?_
  refine aw_getr fl_H_9 kc_82 (by decide) rfl rc_82_0 d_H_lawInForce_1 ?_
  refine aw_iconst (v := nI 5) ci_5 d_H_lawInForce_4 ?_
  refine aw_iald (j := 5) kc_83 (vp_in_nI (by decide) (by decide)) (nI_clamp (by decide)) d_H_lawInForce_5 ?_
  refine aw_top (x2 := nI 2) (f5) ?_
  refine aw_istore_n (lv2 := [.ref 82, .int (nI 2)]) rfl (by decide) rfl d_H_lawInForce_6 ?_
  refine aw_aload_n rfl rfl d_H_lawInForce_7 ?_
  refine aw_getr fl_H_17 kc_82 (by decide) rfl rc_82_1 d_H_lawInForce_8 ?_
  refine aw_iload_n rfl rfl d_H_lawInForce_11 ?_
  refine aw_if_ltI (tgt := 24) (2) (by decide +kernel) (by decide) d_H_lawInForce_12 (fun q => absurd q (by decide)) (fun _ => ?_)
  refine aw_iload_n rfl rfl d_H_lawInForce_15 ?_
  refine aw_iconst (v := nI 4) ci_4 d_H_lawInForce_16 ?_
  refine aw_icmp_geI (tgt := 24) (2) (4) (by decide +kernel) (by decide +kernel) (by decide) d_H_lawInForce_17 (fun q => absurd q (by decide)) (fun _ => ?_)
  refine aw_iload_n rfl rfl d_H_lawInForce_20 ?_
  refine aw_goto (tgt := 25) (by decide) d_H_lawInForce_21 ?_
  refine aw_aald (j := 2) kc_84 (vp_in_nI (by decide) (by decide)) (nI_clamp (by decide)) rc_84_2 d_H_lawInForce_25 ?_
  exact as_reta rfl d_H_lawInForce_26 (hK _)
set_option maxRecDepth 20000 in
theorem sp_lawInForce_82_3 {K2 : K2T} {I : Nat → Nat → Int32} (f5 : I 83 5 = nI 3) (hK : ∀ r, K2 (some (.ref r)) I) : Ss l b 1 y_H_lawInForce KC RC [.ref 82] (I) K2 := by
  refine Ss.of (show As l b 1 y_H_lawInForce KC RC K2 (I) 0 [.ref 82, uu] [] from ?_)
  refine aw_aload_n rfl rfl d_H_lawInForce_0 ?_
  refine aw_getr fl_H_9 kc_82 (by decide) rfl rc_82_0 d_H_lawInForce_1 ?_
  refine aw_iconst (v := nI 5) ci_5 d_H_lawInForce_4 ?_
  refine aw_iald (j := 5) kc_83 (vp_in_nI (by decide) (by decide)) (nI_clamp (by decide)) d_H_lawInForce_5 ?_
  refine aw_top (x2 := nI 3) (f5) ?_
  refine aw_istore_n (lv2 := [.ref 82, .int (nI 3)]) rfl (by decide) rfl d_H_lawInForce_6 ?_
  refine aw_aload_n rfl rfl d_H_lawInForce_7 ?_
  refine aw_getr fl_H_17 kc_82 (by decide) rfl rc_82_1 d_H_lawInForce_8 ?_
  refine aw_iload_n rfl rfl d_H_lawInForce_11 ?_
  refine aw_if_ltI (tgt := 24) (3) (by decide +kernel) (by decide) d_H_lawInForce_12 (fun q => absurd q (by decide)) (fun _ => ?_)
  refine aw_iload_n rfl rfl d_H_lawInForce_15 ?_
  refine aw_iconst (v := nI 4) ci_4 d_H_lawInForce_16 ?_
  refine aw_icmp_geI (tgt := 24) (3) (4) (by decide +kernel) (by decide +kernel) (by decide) d_H_lawInForce_17 (fun q => absurd q (by decide)) (fun _ => ?_)
  refine aw_iload_n rfl rfl d_H_lawInForce_20 ?_
  refine aw_goto (tgt := 25) (by decide) d_H_lawInForce_21 ?_
  refine aw_aald (j := 3) kc_84 (vp_in_nI (by decide) (by decide)) (nI_clamp (by decide)) rc_84_3 d_H_lawInForce_25 ?_
  exact as_reta rfl d_H_lawInForce_26 (hK _)
theorem sp_lawInForce_82 {K2 : K2T} {I : Nat → Nat → Int32} {ru : Nat} (hru : ru < 4) (f5 : I 83 5 = nI ru) (hK : ∀ r, K2 (some (.ref r)) I) : Ss l b 1 y_H_lawInForce KC RC [.ref 82] (I) K2 := by
  rcases (show ru = 0 ∨ ru = 1 ∨ ru = 2 ∨ ru = 3 by omega) with rfl | rfl | rfl | rfl
  · exact sp_lawInForce_82_0 f5 hK
  · exact sp_lawInForce_82_1 f5 hK
  · exact sp_lawInForce_82_2 f5 hK
  · exact sp_lawInForce_82_3 f5 hK
set_option maxRecDepth 20000 in
theorem sp_worthiest_122 {K2 : K2T} {I : Nat → Nat → Int32} {ru : Nat} (hru : ru < 4) (d5 : I 83 5 = nI ru) (fs : I 122 5 = nI 0) (hK : K2 (some (.int (-1))) I) : Ss l b 2 y_C_worthiest KC RC [.ref 122, .ref 82, .int (nI 1)] (I) K2 := by
  refine Ss.of (show As l b 2 y_C_worthiest KC RC K2 (I) 0 [.ref 122, .ref 82, .int (nI 1), uu, uu, uu, uu] [] from ?_)
  refine aw_aload_n rfl rfl d_C_worthiest_0 ?_
  refine as_callV (as := []) (d' := 1) (q := ("SinglesUp$Hill", zT2, 14)) mo_H_lawInForce lk_C_115 kc_82 rfl rfl rfl ⟨by decide, by decide⟩ rfl rfl (by decide) d_C_worthiest_1 (sp_lawInForce_82 (I := I) (ru := ru) hru d5 (fun r1 => ?_))
  refine (show As l b 2 y_C_worthiest KC RC K2 (I) 4 [.ref 122, .ref 82, .int (nI 1), uu, uu, uu, uu] [.ref r1] from ?_)
  refine aw_astore_n (lv2 := [.ref 122, .ref 82, .int (nI 1), .ref r1, uu, uu, uu]) rfl (by decide) rfl d_C_worthiest_4 ?_
  refine aw_iconst (v := nI 0) ci_0 d_C_worthiest_5 ?_
  refine aw_istore (lv2 := [.ref 122, .ref 82, .int (nI 1), .ref r1, .int (nI 0), uu, uu]) (by decide) rfl d_C_worthiest_6 ?_
  refine aw_iconst (v := (-1 : Int32)) rfl d_C_worthiest_8 ?_
  refine aw_istore (lv2 := [.ref 122, .ref 82, .int (nI 1), .ref r1, .int (nI 0), .int ((-1 : Int32)), uu]) (by decide) rfl d_C_worthiest_9 ?_
  refine aw_iconst (v := nI 0) ci_0 d_C_worthiest_11 ?_
  refine aw_istore (lv2 := [.ref 122, .ref 82, .int (nI 1), .ref r1, .int (nI 0), .int ((-1 : Int32)), .int (nI 0)]) (by decide) rfl d_C_worthiest_12 ?_
  refine aw_iload rfl d_C_worthiest_14 ?_
  refine aw_aload_n rfl rfl d_C_worthiest_16 ?_
  refine aw_geti fl_C_82 kc_122 (by decide) rfl d_C_worthiest_17 ?_
  refine aw_top (x2 := nI 0) (fs) ?_
  refine aw_icmp_geI (tgt := 120) (0) (0) (by decide +kernel) (by decide +kernel) (by decide) d_C_worthiest_20 (fun _ => ?_) (fun q => absurd q (by decide))
  refine aw_iload rfl d_C_worthiest_120 ?_
  exact as_reti rfl d_C_worthiest_122 hK
set_option maxRecDepth 20000 in
theorem sp_partOne_122 {K2 : K2T} {I : Nat → Nat → Int32} (fs : I 122 5 = nI 0) (hK : K2 none I) : Ss l b 2 y_C_partOne KC RC [.ref 122, .ref 82] (I) K2 := by
  refine Ss.of (show As l b 2 y_C_partOne KC RC K2 (I) 0 [.ref 122, .ref 82, uu, uu, uu, uu] [] from ?_)
  refine aw_iconst (v := nI 0) ci_0 d_C_partOne_0 ?_
  refine aw_istore_n (lv2 := [.ref 122, .ref 82, .int (nI 0), uu, uu, uu]) rfl (by decide) rfl d_C_partOne_1 ?_
  refine aw_iload_n rfl rfl d_C_partOne_2 ?_
  refine aw_aload_n rfl rfl d_C_partOne_3 ?_
  refine aw_geti fl_C_82 kc_122 (by decide) rfl d_C_partOne_4 ?_
  refine aw_top (x2 := nI 0) (fs) ?_
  refine aw_icmp_geI (tgt := 123) (0) (0) (by decide +kernel) (by decide +kernel) (by decide) d_C_partOne_7 (fun _ => ?_) (fun q => absurd q (by decide))
  exact as_retv rfl d_C_partOne_123 hK
set_option maxRecDepth 20000 in
theorem sp_fill_122 {K2 : K2T} {I : Nat → Nat → Int32} {s ru e k : Nat} (hF : FH 82 I s ru e k) (hK : ∀ I', FH 82 I' s ru e k → I' 122 7 = nI s → I' 122 8 = nI 0 → I' 122 9 = nI 0 → (∀ q, (q < 82 ∨ 122 < q) ∧ (q < 122 ∨ 128 < q) → I' q = I q) → K2 none I') : Ss l b 3 y_C_fill KC RC [.ref 122, .ref 82] (I) K2 := by
  obtain ⟨d0, d1, d2, d3, d4, d5, d6, d7, d8, d9, d10, d11, d12, d13, db⟩ := hF
  have d0 : ∀ j, j < 32 → I 86 j = nI 0 := d0
  have d1 : ∀ j, j < 6 → I 90 j = nI 0 := d1
  have d2 : ∀ j, j < 6 → I 91 j = nI 9 := d2
  have d3 : I 83 0 = nI s := d3
  have d4 : I 83 3 = nI 0 := d4
  have d5 : I 83 5 = nI ru := d5
  have d6 : I 92 1 = nI e := d6
  have d7 : I 92 0 = nI k := d7
  have d8 : ∀ j, j < 40 → j ≠ 0 → j ≠ 1 → j ≠ 3 → I 92 j = nI 0 := d8
  have d9 : I 97 4 = nI 0 := d9
  have d10 : I 102 4 = nI 0 := d10
  have d11 : I 107 4 = nI 0 := d11
  have d12 : I 112 4 = nI 0 := d12
  have d13 : I 117 4 = nI 0 := d13
  have hru : ru < 4 := db.2.1
  refine Ss.of (show As l b 3 y_C_fill KC RC K2 (I) 0 [.ref 122, .ref 82, uu, uu, uu, uu] [] from ?_)
  refine aw_aload_n rfl rfl d_C_fill_0 ?_
  refine aw_aload_n rfl rfl d_C_fill_1 ?_
  refine aw_getr fl_C_65 kc_82 (by decide) rfl rc_82_0 d_C_fill_2 ?_
  refine aw_iconst (v := nI 0) ci_0 d_C_fill_5 ?_
  refine aw_iald (j := 0) kc_83 (vp_in_nI (by decide) (by decide)) (nI_clamp (by decide)) d_C_fill_6 ?_
  refine aw_top (x2 := nI (s)) (d3) ?_
  refine as_callV (as := [.int (nI (s))]) (d' := 2) (q := ("SinglesUp$Chair", zT0, 12)) mo_C_clear lk_C_68 kc_122 rfl rfl rfl ⟨by decide, by decide⟩ rfl rfl (by decide) d_C_fill_7 (sp_clear_122 (I := I) (v := nI (s)) ?_)
  refine (show As l b 3 y_C_fill KC RC K2 (upd2 (upd2 (upd2 (upd2 (upd2 (updA (I) 123 (fun j => if j < 240 then nI 0 else (I) 123 j)) 122 7 (nI (s))) 122 8 (nI 0)) 122 9 (nI 0)) 122 10 (nI 0)) 122 11 (nI 0)) 10 [.ref 122, .ref 82, uu, uu, uu, uu] [] from ?_)
  refine aw_aload_n rfl rfl d_C_fill_10 ?_
  refine aw_aload_n rfl rfl d_C_fill_11 ?_
  refine aw_getr fl_C_72 kc_82 (by decide) rfl rc_82_5 d_C_fill_12 ?_
  refine aw_aload_n rfl rfl d_C_fill_15 ?_
  refine aw_getr fl_C_24 kc_122 (by decide) rfl rc_122_4 d_C_fill_16 ?_
  refine aw_iconst (v := (-1 : Int32)) rfl d_C_fill_19 ?_
  refine as_callV (as := [.ref 127, .int ((-1 : Int32))]) (d' := 2) (q := ("SinglesUp$Lines", zT4, 3)) mo_L_listSeen lk_C_76 kc_88 rfl rfl rfl ⟨by decide, by decide⟩ rfl rfl (by decide) d_C_fill_20 (sp_listSeen_88_127_n (I := upd2 (upd2 (upd2 (upd2 (upd2 (updA (I) 123 (fun j => if j < 240 then nI 0 else (I) 123 j)) 122 7 (nI (s))) 122 8 (nI 0)) 122 9 (nI 0)) 122 10 (nI 0)) 122 11 (nI 0)) (fun j hj => by simp [upd2, upd, updA, d1 j hj]) (fun j hj => by simp [upd2, upd, updA, d2 j hj]) ?_)
  refine (show As l b 3 y_C_fill KC RC K2 (upd2 (upd2 (upd2 (upd2 (upd2 (updA (I) 123 (fun j => if j < 240 then nI 0 else (I) 123 j)) 122 7 (nI (s))) 122 8 (nI 0)) 122 9 (nI 0)) 122 10 (nI 0)) 122 11 (nI 0)) 23 [.ref 122, .ref 82, uu, uu, uu, uu] [.int (nI 0), .ref 122] from ?_)
  refine aw_puti fl_C_82 kc_122 (by decide) rfl rfl rfl rfl d_C_fill_23 ?_
  refine aw_iconst (v := nI 1) ci_1 d_C_fill_26 ?_
  refine aw_istore_n (lv2 := [.ref 122, .ref 82, .int (nI 1), uu, uu, uu]) rfl (by decide) rfl d_C_fill_27 ?_
  refine aw_iconst (v := nI 0) ci_0 d_C_fill_28 ?_
  refine aw_istore_n (lv2 := [.ref 122, .ref 82, .int (nI 1), .int (nI 0), uu, uu]) rfl (by decide) rfl d_C_fill_29 ?_
  refine aw_iload_n rfl rfl d_C_fill_30 ?_
  refine aw_sipush (v := nI 144) cs_144 d_C_fill_31 ?_
  refine aw_icmp_gtI (tgt := 127) (0) (144) (by decide +kernel) (by decide +kernel) (by decide) d_C_fill_34 (fun q => absurd q (by decide)) (fun _ => ?_)
  refine aw_aload_n rfl rfl d_C_fill_37 ?_
  refine aw_aload_n rfl rfl d_C_fill_38 ?_
  refine as_callV (as := [.ref 82]) (d' := 2) (q := ("SinglesUp$Chair", zT0, 12)) mo_C_mostPassed lk_C_85 kc_122 rfl rfl rfl ⟨by decide, by decide⟩ rfl rfl (by decide) d_C_fill_39 (sp_mostPassed_122 (I := upd2 (upd2 (upd2 (upd2 (upd2 (upd2 (updA (I) 123 (fun j => if j < 240 then nI 0 else (I) 123 j)) 122 7 (nI (s))) 122 8 (nI 0)) 122 9 (nI 0)) 122 10 (nI 0)) 122 11 (nI 0)) 122 5 (nI 0)) (by simp [upd2, upd, updA]) ?_)
  refine (show As l b 3 y_C_fill KC RC K2 (upd2 (upd2 (upd2 (upd2 (upd2 (upd2 (updA (I) 123 (fun j => if j < 240 then nI 0 else (I) 123 j)) 122 7 (nI (s))) 122 8 (nI 0)) 122 9 (nI 0)) 122 10 (nI 0)) 122 11 (nI 0)) 122 5 (nI 0)) 42 [.ref 122, .ref 82, .int (nI 1), .int (nI 0), uu, uu] [.int ((-1 : Int32))] from ?_)
  refine aw_istore (lv2 := [.ref 122, .ref 82, .int (nI 1), .int (nI 0), .int ((-1 : Int32)), uu]) (by decide) rfl d_C_fill_42 ?_
  refine aw_iload rfl d_C_fill_44 ?_
  refine aw_iconst (v := (-1 : Int32)) rfl d_C_fill_46 ?_
  refine aw_icmp_neI (tgt := 60) (-1) (-1) (by decide +kernel) (by decide +kernel) (by decide) d_C_fill_47 (fun q => absurd q (by decide)) (fun _ => ?_)
  refine aw_aload_n rfl rfl d_C_fill_50 ?_
  refine aw_aload_n rfl rfl d_C_fill_51 ?_
  refine aw_iload_n rfl rfl d_C_fill_52 ?_
  refine as_callV (as := [.ref 82, .int (nI 1)]) (d' := 2) (q := ("SinglesUp$Chair", zT0, 12)) mo_C_worthiest lk_C_88 kc_122 rfl rfl rfl ⟨by decide, by decide⟩ rfl rfl (by decide) d_C_fill_53 (sp_worthiest_122 (I := upd2 (upd2 (upd2 (upd2 (upd2 (upd2 (updA (I) 123 (fun j => if j < 240 then nI 0 else (I) 123 j)) 122 7 (nI (s))) 122 8 (nI 0)) 122 9 (nI 0)) 122 10 (nI 0)) 122 11 (nI 0)) 122 5 (nI 0)) (ru := ru) (by omega) (by simp [upd2, upd, updA, d5]) (by simp [upd2, upd, updA]) ?_)
  refine (show As l b 3 y_C_fill KC RC K2 (upd2 (upd2 (upd2 (upd2 (upd2 (upd2 (updA (I) 123 (fun j => if j < 240 then nI 0 else (I) 123 j)) 122 7 (nI (s))) 122 8 (nI 0)) 122 9 (nI 0)) 122 10 (nI 0)) 122 11 (nI 0)) 122 5 (nI 0)) 56 [.ref 122, .ref 82, .int (nI 1), .int (nI 0), .int ((-1 : Int32)), uu] [.int ((-1 : Int32))] from ?_)
  refine aw_istore (lv2 := [.ref 122, .ref 82, .int (nI 1), .int (nI 0), .int ((-1 : Int32)), uu]) (by decide) rfl d_C_fill_56 ?_
  refine aw_iconst (v := nI 0) ci_0 d_C_fill_58 ?_
  refine aw_istore_n (lv2 := [.ref 122, .ref 82, .int (nI 0), .int (nI 0), .int ((-1 : Int32)), uu]) rfl (by decide) rfl d_C_fill_59 ?_
  refine aw_iload rfl d_C_fill_60 ?_
  refine aw_iconst (v := (-1 : Int32)) rfl d_C_fill_62 ?_
  refine aw_icmp_neI (tgt := 69) (-1) (-1) (by decide +kernel) (by decide +kernel) (by decide) d_C_fill_63 (fun q => absurd q (by decide)) (fun _ => ?_)
  refine aw_goto (tgt := 127) (by decide) d_C_fill_66 ?_
  refine aw_aload_n rfl rfl d_C_fill_127 ?_
  refine aw_aload_n rfl rfl d_C_fill_128 ?_
  refine as_callV (as := [.ref 82]) (d' := 2) (q := ("SinglesUp$Chair", zT0, 12)) mo_C_partOne lk_C_104 kc_122 rfl rfl rfl ⟨by decide, by decide⟩ rfl rfl (by decide) d_C_fill_129 (sp_partOne_122 (I := upd2 (upd2 (upd2 (upd2 (upd2 (upd2 (updA (I) 123 (fun j => if j < 240 then nI 0 else (I) 123 j)) 122 7 (nI (s))) 122 8 (nI 0)) 122 9 (nI 0)) 122 10 (nI 0)) 122 11 (nI 0)) 122 5 (nI 0)) (by simp [upd2, upd, updA]) ?_)
  refine (show As l b 3 y_C_fill KC RC K2 (upd2 (upd2 (upd2 (upd2 (upd2 (upd2 (updA (I) 123 (fun j => if j < 240 then nI 0 else (I) 123 j)) 122 7 (nI (s))) 122 8 (nI 0)) 122 9 (nI 0)) 122 10 (nI 0)) 122 11 (nI 0)) 122 5 (nI 0)) 132 [.ref 122, .ref 82, .int (nI 0), .int (nI 0), .int ((-1 : Int32)), uu] [] from ?_)
  exact as_retv rfl d_C_fill_132 (hK _ ⟨fun j hj => by simp [upd2, upd, updA, d0 j hj], fun j hj => by simp [upd2, upd, updA, d1 j hj], fun j hj => by simp [upd2, upd, updA, d2 j hj], by simp [upd2, upd, updA, d3], by simp [upd2, upd, updA, d4], by simp [upd2, upd, updA, d5], by simp [upd2, upd, updA, d6, nI_add], by simp [upd2, upd, updA, d7, nI_1], fun j hj a1 a2 a3 => by simp [upd2, upd, updA, d8 j hj a1 a2 a3, a1, a2, a3], by simp [upd2, upd, updA, d9], by simp [upd2, upd, updA, d10], by simp [upd2, upd, updA, d11], by simp [upd2, upd, updA, d12], by simp [upd2, upd, updA, d13], by omega⟩ (by simp [upd2, upd, updA]) (by simp [upd2, upd, updA]) (by simp [upd2, upd, updA]) (fun q hq => by have n122 : q ≠ 122 := (by omega); have n123 : q ≠ 123 := (by omega); simp [upd2, updA, n122, n123]))
set_option maxRecDepth 20000 in
theorem sp_rearmost_82_122_0 {K2 : K2T} {I : Nat → Nat → Int32} (d1 : ∀ j, j < 6 → I 90 j = nI 0) (hK : K2 (some (.int (-1))) I) : Ss l b 1 y_L_rearmostSitting KC RC [.ref 88, .ref 123, .int (nI 0)] (I) K2 := by
  refine Ss.of (show As l b 1 y_L_rearmostSitting KC RC K2 (I) 0 [.ref 88, .ref 123, .int (nI 0), uu, uu] [] from ?_)
  refine aw_aload_n rfl rfl d_L_rearmostSitting_0 ?_
  refine aw_getr fl_L_15 kc_88 (by decide) rfl rc_88_1 d_L_rearmostSitting_1 ?_
  refine aw_iload_n rfl rfl d_L_rearmostSitting_4 ?_
  refine aw_iald (j := 0) kc_90 (vp_in_nI (by decide) (by decide)) (nI_clamp (by decide)) d_L_rearmostSitting_5 ?_
  refine aw_top (x2 := nI 0) (d1 (0) (by omega)) ?_
  refine aw_iconst (v := nI 1) ci_1 d_L_rearmostSitting_6 ?_
  refine aw_isub d_L_rearmostSitting_7 ?_
  refine aw_top (x2 := (-1 : Int32)) (by decide +kernel) ?_
  refine aw_istore_n (lv2 := [.ref 88, .ref 123, .int (nI 0), .int ((-1 : Int32)), uu]) rfl (by decide) rfl d_L_rearmostSitting_8 ?_
  refine aw_iload_n rfl rfl d_L_rearmostSitting_9 ?_
  refine aw_if_ltI (tgt := 52) (-1) (by decide +kernel) (by decide) d_L_rearmostSitting_10 (fun _ => ?_) (fun q => absurd q (by decide))
  refine aw_iconst (v := (-1 : Int32)) rfl d_L_rearmostSitting_52 ?_
  exact as_reti rfl d_L_rearmostSitting_53 hK
set_option maxRecDepth 20000 in
theorem sp_rearmost_82_122_1 {K2 : K2T} {I : Nat → Nat → Int32} (d1 : ∀ j, j < 6 → I 90 j = nI 0) (hK : K2 (some (.int (-1))) I) : Ss l b 1 y_L_rearmostSitting KC RC [.ref 88, .ref 123, .int (nI 1)] (I) K2 := by
  refine Ss.of (show As l b 1 y_L_rearmostSitting KC RC K2 (I) 0 [.ref 88, .ref 123, .int (nI 1), uu, uu] [] from ?_)
  refine aw_aload_n rfl rfl d_L_rearmostSitting_0 ?_
  refine aw_getr fl_L_15 kc_88 (by decide) rfl rc_88_1 d_L_rearmostSitting_1 ?_
  refine aw_iload_n rfl rfl d_L_rearmostSitting_4 ?_
  refine aw_iald (j := 1) kc_90 (vp_in_nI (by decide) (by decide)) (nI_clamp (by decide)) d_L_rearmostSitting_5 ?_
  refine aw_top (x2 := nI 0) (d1 (1) (by omega)) ?_
  refine aw_iconst (v := nI 1) ci_1 d_L_rearmostSitting_6 ?_
  refine aw_isub d_L_rearmostSitting_7 ?_
  refine aw_top (x2 := (-1 : Int32)) (by decide +kernel) ?_
  refine aw_istore_n (lv2 := [.ref 88, .ref 123, .int (nI 1), .int ((-1 : Int32)), uu]) rfl (by decide) rfl d_L_rearmostSitting_8 ?_
  refine aw_iload_n rfl rfl d_L_rearmostSitting_9 ?_
  refine aw_if_ltI (tgt := 52) (-1) (by decide +kernel) (by decide) d_L_rearmostSitting_10 (fun _ => ?_) (fun q => absurd q (by decide))
  refine aw_iconst (v := (-1 : Int32)) rfl d_L_rearmostSitting_52 ?_
  exact as_reti rfl d_L_rearmostSitting_53 hK
set_option maxRecDepth 20000 in
theorem sp_rearmost_82_122_2 {K2 : K2T} {I : Nat → Nat → Int32} (d1 : ∀ j, j < 6 → I 90 j = nI 0) (hK : K2 (some (.int (-1))) I) : Ss l b 1 y_L_rearmostSitting KC RC [.ref 88, .ref 123, .int (nI 2)] (I) K2 := by
  refine Ss.of (show As l b 1 y_L_rearmostSitting KC RC K2 (I) 0 [.ref 88, .ref 123, .int (nI 2), uu, uu] [] from ?_)
  refine aw_aload_n rfl rfl d_L_rearmostSitting_0 ?_
  refine aw_getr fl_L_15 kc_88 (by decide) rfl rc_88_1 d_L_rearmostSitting_1 ?_
  refine aw_iload_n rfl rfl d_L_rearmostSitting_4 ?_
  refine aw_iald (j := 2) kc_90 (vp_in_nI (by decide) (by decide)) (nI_clamp (by decide)) d_L_rearmostSitting_5 ?_
  refine aw_top (x2 := nI 0) (d1 (2) (by omega)) ?_
  refine aw_iconst (v := nI 1) ci_1 d_L_rearmostSitting_6 ?_
  refine aw_isub d_L_rearmostSitting_7 ?_
  refine aw_top (x2 := (-1 : Int32)) (by decide +kernel) ?_
  refine aw_istore_n (lv2 := [.ref 88, .ref 123, .int (nI 2), .int ((-1 : Int32)), uu]) rfl (by decide) rfl d_L_rearmostSitting_8 ?_
  refine aw_iload_n rfl rfl d_L_rearmostSitting_9 ?_
  refine aw_if_ltI (tgt := 52) (-1) (by decide +kernel) (by decide) d_L_rearmostSitting_10 (fun _ => ?_) (fun q => absurd q (by decide))
  refine aw_iconst (v := (-1 : Int32)) rfl d_L_rearmostSitting_52 ?_
  exact as_reti rfl d_L_rearmostSitting_53 hK
set_option maxRecDepth 20000 in
theorem sp_rearmost_82_122_3 {K2 : K2T} {I : Nat → Nat → Int32} (d1 : ∀ j, j < 6 → I 90 j = nI 0) (hK : K2 (some (.int (-1))) I) : Ss l b 1 y_L_rearmostSitting KC RC [.ref 88, .ref 123, .int (nI 3)] (I) K2 := by
  refine Ss.of (show As l b 1 y_L_rearmostSitting KC RC K2 (I) 0 [.ref 88, .ref 123, .int (nI 3), uu, uu] [] from ?_)
  refine aw_aload_n rfl rfl d_L_rearmostSitting_0 ?_
  refine aw_getr fl_L_15 kc_88 (by decide) rfl rc_88_1 d_L_rearmostSitting_1 ?_
  refine aw_iload_n rfl rfl d_L_rearmostSitting_4 ?_
  refine aw_iald (j := 3) kc_90 (vp_in_nI (by decide) (by decide)) (nI_clamp (by decide)) d_L_rearmostSitting_5 ?_
  refine aw_top (x2 := nI 0) (d1 (3) (by omega)) ?_
  refine aw_iconst (v := nI 1) ci_1 d_L_rearmostSitting_6 ?_
  refine aw_isub d_L_rearmostSitting_7 ?_
  refine aw_top (x2 := (-1 : Int32)) (by decide +kernel) ?_
  refine aw_istore_n (lv2 := [.ref 88, .ref 123, .int (nI 3), .int ((-1 : Int32)), uu]) rfl (by decide) rfl d_L_rearmostSitting_8 ?_
  refine aw_iload_n rfl rfl d_L_rearmostSitting_9 ?_
  refine aw_if_ltI (tgt := 52) (-1) (by decide +kernel) (by decide) d_L_rearmostSitting_10 (fun _ => ?_) (fun q => absurd q (by decide))
  refine aw_iconst (v := (-1 : Int32)) rfl d_L_rearmostSitting_52 ?_
  exact as_reti rfl d_L_rearmostSitting_53 hK
set_option maxRecDepth 20000 in
theorem sp_rearmost_82_122_4 {K2 : K2T} {I : Nat → Nat → Int32} (d1 : ∀ j, j < 6 → I 90 j = nI 0) (hK : K2 (some (.int (-1))) I) : Ss l b 1 y_L_rearmostSitting KC RC [.ref 88, .ref 123, .int (nI 4)] (I) K2 := by
  refine Ss.of (show As l b 1 y_L_rearmostSitting KC RC K2 (I) 0 [.ref 88, .ref 123, .int (nI 4), uu, uu] [] from ?_)
  refine aw_aload_n rfl rfl d_L_rearmostSitting_0 ?_
  refine aw_getr fl_L_15 kc_88 (by decide) rfl rc_88_1 d_L_rearmostSitting_1 ?_
  refine aw_iload_n rfl rfl d_L_rearmostSitting_4 ?_
  refine aw_iald (j := 4) kc_90 (vp_in_nI (by decide) (by decide)) (nI_clamp (by decide)) d_L_rearmostSitting_5 ?_
  refine aw_top (x2 := nI 0) (d1 (4) (by omega)) ?_
  refine aw_iconst (v := nI 1) ci_1 d_L_rearmostSitting_6 ?_
  refine aw_isub d_L_rearmostSitting_7 ?_
  refine aw_top (x2 := (-1 : Int32)) (by decide +kernel) ?_
  refine aw_istore_n (lv2 := [.ref 88, .ref 123, .int (nI 4), .int ((-1 : Int32)), uu]) rfl (by decide) rfl d_L_rearmostSitting_8 ?_
  refine aw_iload_n rfl rfl d_L_rearmostSitting_9 ?_
  refine aw_if_ltI (tgt := 52) (-1) (by decide +kernel) (by decide) d_L_rearmostSitting_10 (fun _ => ?_) (fun q => absurd q (by decide))
  refine aw_iconst (v := (-1 : Int32)) rfl d_L_rearmostSitting_52 ?_
  exact as_reti rfl d_L_rearmostSitting_53 hK
set_option maxRecDepth 20000 in
theorem sp_rearmost_82_122_5 {K2 : K2T} {I : Nat → Nat → Int32} (d1 : ∀ j, j < 6 → I 90 j = nI 0) (hK : K2 (some (.int (-1))) I) : Ss l b 1 y_L_rearmostSitting KC RC [.ref 88, .ref 123, .int (nI 5)] (I) K2 := by
  refine Ss.of (show As l b 1 y_L_rearmostSitting KC RC K2 (I) 0 [.ref 88, .ref 123, .int (nI 5), uu, uu] [] from ?_)
  refine aw_aload_n rfl rfl d_L_rearmostSitting_0 ?_
  refine aw_getr fl_L_15 kc_88 (by decide) rfl rc_88_1 d_L_rearmostSitting_1 ?_
  refine aw_iload_n rfl rfl d_L_rearmostSitting_4 ?_
  refine aw_iald (j := 5) kc_90 (vp_in_nI (by decide) (by decide)) (nI_clamp (by decide)) d_L_rearmostSitting_5 ?_
  refine aw_top (x2 := nI 0) (d1 (5) (by omega)) ?_
  refine aw_iconst (v := nI 1) ci_1 d_L_rearmostSitting_6 ?_
  refine aw_isub d_L_rearmostSitting_7 ?_
  refine aw_top (x2 := (-1 : Int32)) (by decide +kernel) ?_
  refine aw_istore_n (lv2 := [.ref 88, .ref 123, .int (nI 5), .int ((-1 : Int32)), uu]) rfl (by decide) rfl d_L_rearmostSitting_8 ?_
  refine aw_iload_n rfl rfl d_L_rearmostSitting_9 ?_
  refine aw_if_ltI (tgt := 52) (-1) (by decide +kernel) (by decide) d_L_rearmostSitting_10 (fun _ => ?_) (fun q => absurd q (by decide))
  refine aw_iconst (v := (-1 : Int32)) rfl d_L_rearmostSitting_52 ?_
  exact as_reti rfl d_L_rearmostSitting_53 hK
set_option maxRecDepth 20000 in
theorem sp_depart_82_122 {K2 : K2T} {I : Nat → Nat → Int32} (d1 : ∀ j, j < 6 → I 90 j = nI 0) (hK : K2 none I) : Ss l b 2 y_L_depart KC RC [.ref 88, .ref 123] (I) K2 := by
  refine Ss.of (show As l b 2 y_L_depart KC RC K2 (I) 0 [.ref 88, .ref 123, uu, uu, uu, uu, uu, uu, uu] [] from ?_)
  refine aw_iconst (v := nI 0) ci_0 d_L_depart_0 ?_
  refine aw_istore_n (lv2 := [.ref 88, .ref 123, .int (nI 0), uu, uu, uu, uu, uu, uu]) rfl (by decide) rfl d_L_depart_1 ?_
  refine aw_iload_n rfl rfl d_L_depart_2 ?_
  refine aw_bipush (v := nI 6) cb_6 d_L_depart_3 ?_
  refine aw_icmp_geI (tgt := 173) (0) (6) (by decide +kernel) (by decide +kernel) (by decide) d_L_depart_5 (fun q => absurd q (by decide)) (fun _ => ?_)
  refine aw_aload_n rfl rfl d_L_depart_8 ?_
  refine aw_aload_n rfl rfl d_L_depart_9 ?_
  refine aw_iload_n rfl rfl d_L_depart_10 ?_
  refine as_callV (as := [.ref 123, .int (nI 0)]) (d' := 1) (q := ("SinglesUp$Lines", zT4, 3)) mo_L_rearmostSitting lk_L_47 kc_88 rfl rfl rfl ⟨by decide, by decide⟩ rfl rfl (by decide) d_L_depart_11 (sp_rearmost_82_122_0 (I := I) d1 ?_)
  refine (show As l b 2 y_L_depart KC RC K2 (I) 14 [.ref 88, .ref 123, .int (nI 0), uu, uu, uu, uu, uu, uu] [.int ((-1 : Int32))] from ?_)
  refine aw_istore_n (lv2 := [.ref 88, .ref 123, .int (nI 0), .int ((-1 : Int32)), uu, uu, uu, uu, uu]) rfl (by decide) rfl d_L_depart_14 ?_
  refine aw_iconst (v := nI 0) ci_0 d_L_depart_15 ?_
  refine aw_istore (lv2 := [.ref 88, .ref 123, .int (nI 0), .int ((-1 : Int32)), .int (nI 0), uu, uu, uu, uu]) (by decide) rfl d_L_depart_16 ?_
  refine aw_iconst (v := nI 0) ci_0 d_L_depart_18 ?_
  refine aw_istore (lv2 := [.ref 88, .ref 123, .int (nI 0), .int ((-1 : Int32)), .int (nI 0), .int (nI 0), uu, uu, uu]) (by decide) rfl d_L_depart_19 ?_
  refine aw_iload rfl d_L_depart_21 ?_
  refine aw_aload_n rfl rfl d_L_depart_23 ?_
  refine aw_getr fl_L_15 kc_88 (by decide) rfl rc_88_1 d_L_depart_24 ?_
  refine aw_iload_n rfl rfl d_L_depart_27 ?_
  refine aw_iald (j := 0) kc_90 (vp_in_nI (by decide) (by decide)) (nI_clamp (by decide)) d_L_depart_28 ?_
  refine aw_top (x2 := nI 0) (d1 (0) (by omega)) ?_
  refine aw_icmp_geI (tgt := 159) (0) (0) (by decide +kernel) (by decide +kernel) (by decide) d_L_depart_29 (fun _ => ?_) (fun q => absurd q (by decide))
  refine aw_aload_n rfl rfl d_L_depart_159 ?_
  refine aw_getr fl_L_15 kc_88 (by decide) rfl rc_88_1 d_L_depart_160 ?_
  refine aw_iload_n rfl rfl d_L_depart_163 ?_
  refine aw_iload rfl d_L_depart_164 ?_
  refine aw_iast (j := 0) kc_90 (vp_in_nI (by decide) (by decide)) (nI_clamp (by decide)) d_L_depart_166 ?_
  rw [upd2_id (d1 (0) (by omega))]
  refine aw_iinc (v := nI 1) (lv2 := [.ref 88, .ref 123, .int (nI 1), .int ((-1 : Int32)), .int (nI 0), .int (nI 0), uu, uu, uu]) rfl (by decide +kernel) (by decide) rfl d_L_depart_167 ?_
  refine aw_goto (tgt := 2) (by decide) d_L_depart_170 ?_
  refine aw_iload_n rfl rfl d_L_depart_2 ?_
  refine aw_bipush (v := nI 6) cb_6 d_L_depart_3 ?_
  refine aw_icmp_geI (tgt := 173) (1) (6) (by decide +kernel) (by decide +kernel) (by decide) d_L_depart_5 (fun q => absurd q (by decide)) (fun _ => ?_)
  refine aw_aload_n rfl rfl d_L_depart_8 ?_
  refine aw_aload_n rfl rfl d_L_depart_9 ?_
  refine aw_iload_n rfl rfl d_L_depart_10 ?_
  refine as_callV (as := [.ref 123, .int (nI 1)]) (d' := 1) (q := ("SinglesUp$Lines", zT4, 3)) mo_L_rearmostSitting lk_L_47 kc_88 rfl rfl rfl ⟨by decide, by decide⟩ rfl rfl (by decide) d_L_depart_11 (sp_rearmost_82_122_1 (I := I) d1 ?_)
  refine (show As l b 2 y_L_depart KC RC K2 (I) 14 [.ref 88, .ref 123, .int (nI 1), .int ((-1 : Int32)), .int (nI 0), .int (nI 0), uu, uu, uu] [.int ((-1 : Int32))] from ?_)
  refine aw_istore_n (lv2 := [.ref 88, .ref 123, .int (nI 1), .int ((-1 : Int32)), .int (nI 0), .int (nI 0), uu, uu, uu]) rfl (by decide) rfl d_L_depart_14 ?_
  refine aw_iconst (v := nI 0) ci_0 d_L_depart_15 ?_
  refine aw_istore (lv2 := [.ref 88, .ref 123, .int (nI 1), .int ((-1 : Int32)), .int (nI 0), .int (nI 0), uu, uu, uu]) (by decide) rfl d_L_depart_16 ?_
  refine aw_iconst (v := nI 0) ci_0 d_L_depart_18 ?_
  refine aw_istore (lv2 := [.ref 88, .ref 123, .int (nI 1), .int ((-1 : Int32)), .int (nI 0), .int (nI 0), uu, uu, uu]) (by decide) rfl d_L_depart_19 ?_
  refine aw_iload rfl d_L_depart_21 ?_
  refine aw_aload_n rfl rfl d_L_depart_23 ?_
  refine aw_getr fl_L_15 kc_88 (by decide) rfl rc_88_1 d_L_depart_24 ?_
  refine aw_iload_n rfl rfl d_L_depart_27 ?_
  refine aw_iald (j := 1) kc_90 (vp_in_nI (by decide) (by decide)) (nI_clamp (by decide)) d_L_depart_28 ?_
  refine aw_top (x2 := nI 0) (d1 (1) (by omega)) ?_
  refine aw_icmp_geI (tgt := 159) (0) (0) (by decide +kernel) (by decide +kernel) (by decide) d_L_depart_29 (fun _ => ?_) (fun q => absurd q (by decide))
  refine aw_aload_n rfl rfl d_L_depart_159 ?_
  refine aw_getr fl_L_15 kc_88 (by decide) rfl rc_88_1 d_L_depart_160 ?_
  refine aw_iload_n rfl rfl d_L_depart_163 ?_
  refine aw_iload rfl d_L_depart_164 ?_
  refine aw_iast (j := 1) kc_90 (vp_in_nI (by decide) (by decide)) (nI_clamp (by decide)) d_L_depart_166 ?_
  rw [upd2_id (d1 (1) (by omega))]
  refine aw_iinc (v := nI 2) (lv2 := [.ref 88, .ref 123, .int (nI 2), .int ((-1 : Int32)), .int (nI 0), .int (nI 0), uu, uu, uu]) rfl (by decide +kernel) (by decide) rfl d_L_depart_167 ?_
  refine aw_goto (tgt := 2) (by decide) d_L_depart_170 ?_
  refine aw_iload_n rfl rfl d_L_depart_2 ?_
  refine aw_bipush (v := nI 6) cb_6 d_L_depart_3 ?_
  refine aw_icmp_geI (tgt := 173) (2) (6) (by decide +kernel) (by decide +kernel) (by decide) d_L_depart_5 (fun q => absurd q (by decide)) (fun _ => ?_)
  refine aw_aload_n rfl rfl d_L_depart_8 ?_
  refine aw_aload_n rfl rfl d_L_depart_9 ?_
  refine aw_iload_n rfl rfl d_L_depart_10 ?_
  refine as_callV (as := [.ref 123, .int (nI 2)]) (d' := 1) (q := ("SinglesUp$Lines", zT4, 3)) mo_L_rearmostSitting lk_L_47 kc_88 rfl rfl rfl ⟨by decide, by decide⟩ rfl rfl (by decide) d_L_depart_11 (sp_rearmost_82_122_2 (I := I) d1 ?_)
  refine (show As l b 2 y_L_depart KC RC K2 (I) 14 [.ref 88, .ref 123, .int (nI 2), .int ((-1 : Int32)), .int (nI 0), .int (nI 0), uu, uu, uu] [.int ((-1 : Int32))] from ?_)
  refine aw_istore_n (lv2 := [.ref 88, .ref 123, .int (nI 2), .int ((-1 : Int32)), .int (nI 0), .int (nI 0), uu, uu, uu]) rfl (by decide) rfl d_L_depart_14 ?_
  refine aw_iconst (v := nI 0) ci_0 d_L_depart_15 ?_
  refine aw_istore (lv2 := [.ref 88, .ref 123, .int (nI 2), .int ((-1 : Int32)), .int (nI 0), .int (nI 0), uu, uu, uu]) (by decide) rfl d_L_depart_16 ?_
  refine aw_iconst (v := nI 0) ci_0 d_L_depart_18 ?_
  refine aw_istore (lv2 := [.ref 88, .ref 123, .int (nI 2), .int ((-1 : Int32)), .int (nI 0), .int (nI 0), uu, uu, uu]) (by decide) rfl d_L_depart_19 ?_
  refine aw_iload rfl d_L_depart_21 ?_
  refine aw_aload_n rfl rfl d_L_depart_23 ?_
  refine aw_getr fl_L_15 kc_88 (by decide) rfl rc_88_1 d_L_depart_24 ?_
  refine aw_iload_n rfl rfl d_L_depart_27 ?_
  refine aw_iald (j := 2) kc_90 (vp_in_nI (by decide) (by decide)) (nI_clamp (by decide)) d_L_depart_28 ?_
  refine aw_top (x2 := nI 0) (d1 (2) (by omega)) ?_
  refine aw_icmp_geI (tgt := 159) (0) (0) (by decide +kernel) (by decide +kernel) (by decide) d_L_depart_29 (fun _ => ?_) (fun q => absurd q (by decide))
  refine aw_aload_n rfl rfl d_L_depart_159 ?_
  refine aw_getr fl_L_15 kc_88 (by decide) rfl rc_88_1 d_L_depart_160 ?_
  refine aw_iload_n rfl rfl d_L_depart_163 ?_
  refine aw_iload rfl d_L_depart_164 ?_
  refine aw_iast (j := 2) kc_90 (vp_in_nI (by decide) (by decide)) (nI_clamp (by decide)) d_L_depart_166 ?_
  rw [upd2_id (d1 (2) (by omega))]
  refine aw_iinc (v := nI 3) (lv2 := [.ref 88, .ref 123, .int (nI 3), .int ((-1 : Int32)), .int (nI 0), .int (nI 0), uu, uu, uu]) rfl (by decide +kernel) (by decide) rfl d_L_depart_167 ?_
  refine aw_goto (tgt := 2) (by decide) d_L_depart_170 ?_
  refine aw_iload_n rfl rfl d_L_depart_2 ?_
  refine aw_bipush (v := nI 6) cb_6 d_L_depart_3 ?_
  refine aw_icmp_geI (tgt := 173) (3) (6) (by decide +kernel) (by decide +kernel) (by decide) d_L_depart_5 (fun q => absurd q (by decide)) (fun _ => ?_)
  refine aw_aload_n rfl rfl d_L_depart_8 ?_
  refine aw_aload_n rfl rfl d_L_depart_9 ?_
  refine aw_iload_n rfl rfl d_L_depart_10 ?_
  refine as_callV (as := [.ref 123, .int (nI 3)]) (d' := 1) (q := ("SinglesUp$Lines", zT4, 3)) mo_L_rearmostSitting lk_L_47 kc_88 rfl rfl rfl ⟨by decide, by decide⟩ rfl rfl (by decide) d_L_depart_11 (sp_rearmost_82_122_3 (I := I) d1 ?_)
  refine (show As l b 2 y_L_depart KC RC K2 (I) 14 [.ref 88, .ref 123, .int (nI 3), .int ((-1 : Int32)), .int (nI 0), .int (nI 0), uu, uu, uu] [.int ((-1 : Int32))] from ?_)
  refine aw_istore_n (lv2 := [.ref 88, .ref 123, .int (nI 3), .int ((-1 : Int32)), .int (nI 0), .int (nI 0), uu, uu, uu]) rfl (by decide) rfl d_L_depart_14 ?_
  refine aw_iconst (v := nI 0) ci_0 d_L_depart_15 ?_
  refine aw_istore (lv2 := [.ref 88, .ref 123, .int (nI 3), .int ((-1 : Int32)), .int (nI 0), .int (nI 0), uu, uu, uu]) (by decide) rfl d_L_depart_16 ?_
  refine aw_iconst (v := nI 0) ci_0 d_L_depart_18 ?_
  refine aw_istore (lv2 := [.ref 88, .ref 123, .int (nI 3), .int ((-1 : Int32)), .int (nI 0), .int (nI 0), uu, uu, uu]) (by decide) rfl d_L_depart_19 ?_
  refine aw_iload rfl d_L_depart_21 ?_
  refine aw_aload_n rfl rfl d_L_depart_23 ?_
  refine aw_getr fl_L_15 kc_88 (by decide) rfl rc_88_1 d_L_depart_24 ?_
  refine aw_iload_n rfl rfl d_L_depart_27 ?_
  refine aw_iald (j := 3) kc_90 (vp_in_nI (by decide) (by decide)) (nI_clamp (by decide)) d_L_depart_28 ?_
  refine aw_top (x2 := nI 0) (d1 (3) (by omega)) ?_
  refine aw_icmp_geI (tgt := 159) (0) (0) (by decide +kernel) (by decide +kernel) (by decide) d_L_depart_29 (fun _ => ?_) (fun q => absurd q (by decide))
  refine aw_aload_n rfl rfl d_L_depart_159 ?_
  refine aw_getr fl_L_15 kc_88 (by decide) rfl rc_88_1 d_L_depart_160 ?_
  refine aw_iload_n rfl rfl d_L_depart_163 ?_
  refine aw_iload rfl d_L_depart_164 ?_
  refine aw_iast (j := 3) kc_90 (vp_in_nI (by decide) (by decide)) (nI_clamp (by decide)) d_L_depart_166 ?_
  rw [upd2_id (d1 (3) (by omega))]
  refine aw_iinc (v := nI 4) (lv2 := [.ref 88, .ref 123, .int (nI 4), .int ((-1 : Int32)), .int (nI 0), .int (nI 0), uu, uu, uu]) rfl (by decide +kernel) (by decide) rfl d_L_depart_167 ?_
  refine aw_goto (tgt := 2) (by decide) d_L_depart_170 ?_
  refine aw_iload_n rfl rfl d_L_depart_2 ?_
  refine aw_bipush (v := nI 6) cb_6 d_L_depart_3 ?_
  refine aw_icmp_geI (tgt := 173) (4) (6) (by decide +kernel) (by decide +kernel) (by decide) d_L_depart_5 (fun q => absurd q (by decide)) (fun _ => ?_)
  refine aw_aload_n rfl rfl d_L_depart_8 ?_
  refine aw_aload_n rfl rfl d_L_depart_9 ?_
  refine aw_iload_n rfl rfl d_L_depart_10 ?_
  refine as_callV (as := [.ref 123, .int (nI 4)]) (d' := 1) (q := ("SinglesUp$Lines", zT4, 3)) mo_L_rearmostSitting lk_L_47 kc_88 rfl rfl rfl ⟨by decide, by decide⟩ rfl rfl (by decide) d_L_depart_11 (sp_rearmost_82_122_4 (I := I) d1 ?_)
  refine (show As l b 2 y_L_depart KC RC K2 (I) 14 [.ref 88, .ref 123, .int (nI 4), .int ((-1 : Int32)), .int (nI 0), .int (nI 0), uu, uu, uu] [.int ((-1 : Int32))] from ?_)
  refine aw_istore_n (lv2 := [.ref 88, .ref 123, .int (nI 4), .int ((-1 : Int32)), .int (nI 0), .int (nI 0), uu, uu, uu]) rfl (by decide) rfl d_L_depart_14 ?_
  refine aw_iconst (v := nI 0) ci_0 d_L_depart_15 ?_
  refine aw_istore (lv2 := [.ref 88, .ref 123, .int (nI 4), .int ((-1 : Int32)), .int (nI 0), .int (nI 0), uu, uu, uu]) (by decide) rfl d_L_depart_16 ?_
  refine aw_iconst (v := nI 0) ci_0 d_L_depart_18 ?_
  refine aw_istore (lv2 := [.ref 88, .ref 123, .int (nI 4), .int ((-1 : Int32)), .int (nI 0), .int (nI 0), uu, uu, uu]) (by decide) rfl d_L_depart_19 ?_
  refine aw_iload rfl d_L_depart_21 ?_
  refine aw_aload_n rfl rfl d_L_depart_23 ?_
  refine aw_getr fl_L_15 kc_88 (by decide) rfl rc_88_1 d_L_depart_24 ?_
  refine aw_iload_n rfl rfl d_L_depart_27 ?_
  refine aw_iald (j := 4) kc_90 (vp_in_nI (by decide) (by decide)) (nI_clamp (by decide)) d_L_depart_28 ?_
  refine aw_top (x2 := nI 0) (d1 (4) (by omega)) ?_
  refine aw_icmp_geI (tgt := 159) (0) (0) (by decide +kernel) (by decide +kernel) (by decide) d_L_depart_29 (fun _ => ?_) (fun q => absurd q (by decide))
  refine aw_aload_n rfl rfl d_L_depart_159 ?_
  refine aw_getr fl_L_15 kc_88 (by decide) rfl rc_88_1 d_L_depart_160 ?_
  refine aw_iload_n rfl rfl d_L_depart_163 ?_
  refine aw_iload rfl d_L_depart_164 ?_
  refine aw_iast (j := 4) kc_90 (vp_in_nI (by decide) (by decide)) (nI_clamp (by decide)) d_L_depart_166 ?_
  rw [upd2_id (d1 (4) (by omega))]
  refine aw_iinc (v := nI 5) (lv2 := [.ref 88, .ref 123, .int (nI 5), .int ((-1 : Int32)), .int (nI 0), .int (nI 0), uu, uu, uu]) rfl (by decide +kernel) (by decide) rfl d_L_depart_167 ?_
  refine aw_goto (tgt := 2) (by decide) d_L_depart_170 ?_
  refine aw_iload_n rfl rfl d_L_depart_2 ?_
  refine aw_bipush (v := nI 6) cb_6 d_L_depart_3 ?_
  refine aw_icmp_geI (tgt := 173) (5) (6) (by decide +kernel) (by decide +kernel) (by decide) d_L_depart_5 (fun q => absurd q (by decide)) (fun _ => ?_)
  refine aw_aload_n rfl rfl d_L_depart_8 ?_
  refine aw_aload_n rfl rfl d_L_depart_9 ?_
  refine aw_iload_n rfl rfl d_L_depart_10 ?_
  refine as_callV (as := [.ref 123, .int (nI 5)]) (d' := 1) (q := ("SinglesUp$Lines", zT4, 3)) mo_L_rearmostSitting lk_L_47 kc_88 rfl rfl rfl ⟨by decide, by decide⟩ rfl rfl (by decide) d_L_depart_11 (sp_rearmost_82_122_5 (I := I) d1 ?_)
  refine (show As l b 2 y_L_depart KC RC K2 (I) 14 [.ref 88, .ref 123, .int (nI 5), .int ((-1 : Int32)), .int (nI 0), .int (nI 0), uu, uu, uu] [.int ((-1 : Int32))] from ?_)
  refine aw_istore_n (lv2 := [.ref 88, .ref 123, .int (nI 5), .int ((-1 : Int32)), .int (nI 0), .int (nI 0), uu, uu, uu]) rfl (by decide) rfl d_L_depart_14 ?_
  refine aw_iconst (v := nI 0) ci_0 d_L_depart_15 ?_
  refine aw_istore (lv2 := [.ref 88, .ref 123, .int (nI 5), .int ((-1 : Int32)), .int (nI 0), .int (nI 0), uu, uu, uu]) (by decide) rfl d_L_depart_16 ?_
  refine aw_iconst (v := nI 0) ci_0 d_L_depart_18 ?_
  refine aw_istore (lv2 := [.ref 88, .ref 123, .int (nI 5), .int ((-1 : Int32)), .int (nI 0), .int (nI 0), uu, uu, uu]) (by decide) rfl d_L_depart_19 ?_
  refine aw_iload rfl d_L_depart_21 ?_
  refine aw_aload_n rfl rfl d_L_depart_23 ?_
  refine aw_getr fl_L_15 kc_88 (by decide) rfl rc_88_1 d_L_depart_24 ?_
  refine aw_iload_n rfl rfl d_L_depart_27 ?_
  refine aw_iald (j := 5) kc_90 (vp_in_nI (by decide) (by decide)) (nI_clamp (by decide)) d_L_depart_28 ?_
  refine aw_top (x2 := nI 0) (d1 (5) (by omega)) ?_
  refine aw_icmp_geI (tgt := 159) (0) (0) (by decide +kernel) (by decide +kernel) (by decide) d_L_depart_29 (fun _ => ?_) (fun q => absurd q (by decide))
  refine aw_aload_n rfl rfl d_L_depart_159 ?_
  refine aw_getr fl_L_15 kc_88 (by decide) rfl rc_88_1 d_L_depart_160 ?_
  refine aw_iload_n rfl rfl d_L_depart_163 ?_
  refine aw_iload rfl d_L_depart_164 ?_
  refine aw_iast (j := 5) kc_90 (vp_in_nI (by decide) (by decide)) (nI_clamp (by decide)) d_L_depart_166 ?_
  rw [upd2_id (d1 (5) (by omega))]
  refine aw_iinc (v := nI 6) (lv2 := [.ref 88, .ref 123, .int (nI 6), .int ((-1 : Int32)), .int (nI 0), .int (nI 0), uu, uu, uu]) rfl (by decide +kernel) (by decide) rfl d_L_depart_167 ?_
  refine aw_goto (tgt := 2) (by decide) d_L_depart_170 ?_
  refine aw_iload_n rfl rfl d_L_depart_2 ?_
  refine aw_bipush (v := nI 6) cb_6 d_L_depart_3 ?_
  refine aw_icmp_geI (tgt := 173) (6) (6) (by decide +kernel) (by decide +kernel) (by decide) d_L_depart_5 (fun _ => ?_) (fun q => absurd q (by decide))
  exact as_retv rfl d_L_depart_173 hK
set_option maxRecDepth 20000 in
theorem sp_close_82 {K2 : K2T} {I : Nat → Nat → Int32} {s ru e k : Nat} (hF : FH 82 I s ru e k) (hb : e + s < 100000 ∧ k + 1 < 100000) (hK : ∀ I', FH 82 I' s ru (e + s) (k + 1) → (∀ q, (q < 82 ∨ 122 < q) ∧ (q < 122 ∨ 128 < q) → I' q = I q) → K2 none I') : Ss l b 3 y_H_close KC RC [.ref 82, .int (nI (s)), .int (nI 0)] (I) K2 := by
  obtain ⟨d0, d1, d2, d3, d4, d5, d6, d7, d8, d9, d10, d11, d12, d13, db⟩ := hF
  have d0 : ∀ j, j < 32 → I 86 j = nI 0 := d0
  have d1 : ∀ j, j < 6 → I 90 j = nI 0 := d1
  have d2 : ∀ j, j < 6 → I 91 j = nI 9 := d2
  have d3 : I 83 0 = nI s := d3
  have d4 : I 83 3 = nI 0 := d4
  have d5 : I 83 5 = nI ru := d5
  have d6 : I 92 1 = nI e := d6
  have d7 : I 92 0 = nI k := d7
  have d8 : ∀ j, j < 40 → j ≠ 0 → j ≠ 1 → j ≠ 3 → I 92 j = nI 0 := d8
  have d9 : I 97 4 = nI 0 := d9
  have d10 : I 102 4 = nI 0 := d10
  have d11 : I 107 4 = nI 0 := d11
  have d12 : I 112 4 = nI 0 := d12
  have d13 : I 117 4 = nI 0 := d13
  refine Ss.of (show As l b 3 y_H_close KC RC K2 (I) 0 [.ref 82, .int (nI (s)), .int (nI 0), uu] [] from ?_)
  refine aw_aload_n rfl rfl d_H_close_0 ?_
  refine aw_getr fl_H_37 kc_82 (by decide) rfl rc_82_8 d_H_close_1 ?_
  refine aw_iconst (v := nI 1) ci_1 d_H_close_4 ?_
  refine aw_dup2 rfl rfl d_H_close_5 ?_
  refine aw_iald (j := 1) kc_92 (vp_in_nI (by decide) (by decide)) (nI_clamp (by decide)) d_H_close_6 ?_
  refine aw_top (x2 := nI (e)) (d6) ?_
  refine aw_iload_n rfl rfl d_H_close_7 ?_
  refine aw_iaddN d_H_close_8 ?_
  refine aw_iast (j := 1) kc_92 (vp_in_nI (by decide) (by decide)) (nI_clamp (by decide)) d_H_close_9 ?_
  refine aw_aload_n rfl rfl d_H_close_10 ?_
  refine aw_getr fl_H_37 kc_82 (by decide) rfl rc_82_8 d_H_close_11 ?_
  refine aw_iconst (v := nI 3) ci_3 d_H_close_14 ?_
  refine aw_dup2 rfl rfl d_H_close_15 ?_
  refine aw_iald (j := 3) kc_92 (vp_in_nI (by decide) (by decide)) (nI_clamp (by decide)) d_H_close_16 ?_
  refine aw_aload_n rfl rfl d_H_close_17 ?_
  refine aw_getr fl_H_9 kc_82 (by decide) rfl rc_82_0 d_H_close_18 ?_
  refine aw_iconst (v := nI 1) ci_1 d_H_close_21 ?_
  refine aw_iald (j := 1) kc_83 (vp_in_nI (by decide) (by decide)) (nI_clamp (by decide)) d_H_close_22 ?_
  refine aw_iadd d_H_close_23 ?_
  refine aw_iast (j := 3) kc_92 (vp_in_nI (by decide) (by decide)) (nI_clamp (by decide)) d_H_close_24 ?_
  refine aw_aload_n rfl rfl d_H_close_25 ?_
  refine aw_getr fl_H_9 kc_82 (by decide) rfl rc_82_0 d_H_close_26 ?_
  refine aw_iconst (v := nI 3) ci_3 d_H_close_29 ?_
  refine aw_iald (j := 3) kc_83 (vp_in_nI (by decide) (by decide)) (nI_clamp (by decide)) d_H_close_30 ?_
  refine aw_top (x2 := nI 0) (Eq.trans (congrFun (upd2_ne (by decide)) (3)) (Eq.trans (congrFun (upd2_ne (by decide)) (3)) (d4))) ?_
  refine aw_if_leI (tgt := 75) (0) (by decide +kernel) (by decide) d_H_close_31 (fun _ => ?_) (fun q => absurd q (by decide))
  refine aw_aload_n rfl rfl d_H_close_75 ?_
  refine aw_getr fl_H_40 kc_82 (by decide) rfl rc_82_9 d_H_close_76 ?_
  refine aw_iconst (v := nI 0) ci_0 d_H_close_79 ?_
  refine aw_iload_n rfl rfl d_H_close_80 ?_
  refine aw_iast (j := 0) kc_93 (vp_in_nI (by decide) (by decide)) (nI_clamp (by decide)) d_H_close_81 ?_
  refine aw_aload_n rfl rfl d_H_close_82 ?_
  refine aw_getr fl_H_40 kc_82 (by decide) rfl rc_82_9 d_H_close_83 ?_
  refine aw_iconst (v := nI 1) ci_1 d_H_close_86 ?_
  refine aw_iload_n rfl rfl d_H_close_87 ?_
  refine aw_iast (j := 1) kc_93 (vp_in_nI (by decide) (by decide)) (nI_clamp (by decide)) d_H_close_88 ?_
  refine aw_aload_n rfl rfl d_H_close_89 ?_
  refine aw_getr fl_H_37 kc_82 (by decide) rfl rc_82_8 d_H_close_90 ?_
  refine aw_iconst (v := nI 0) ci_0 d_H_close_93 ?_
  refine aw_iald (j := 0) kc_92 (vp_in_nI (by decide) (by decide)) (nI_clamp (by decide)) d_H_close_94 ?_
  refine aw_top (x2 := nI (k)) (Eq.trans (congrFun (upd2_ne (by decide)) (0)) (Eq.trans (congrFun (upd2_ne (by decide)) (0)) (Eq.trans (upd2_nx (by omega)) (Eq.trans (upd2_nx (by omega)) (d7))))) ?_
  refine as_callS (as := [.int (nI (k))]) (d' := 2) mo_H_pastAt lk_H_116 rfl ⟨by decide, by decide⟩ rfl rfl (by decide) d_H_close_95 (sp_pastAt (I := upd2 (upd2 (upd2 (upd2 I 92 (1) (nI ((e + s)))) 92 (3) (((upd2 I 92 (1) (nI ((e + s)))) 92 3 + (upd2 I 92 (1) (nI ((e + s)))) 83 1))) 93 (0) (nI 0)) 93 (1) (nI (s))) (k := k) (by omega) ?_)
  refine (show As l b 3 y_H_close KC RC K2 (upd2 (upd2 (upd2 (upd2 I 92 (1) (nI ((e + s)))) 92 (3) (((upd2 I 92 (1) (nI ((e + s)))) 92 3 + (upd2 I 92 (1) (nI ((e + s)))) 83 1))) 93 (0) (nI 0)) 93 (1) (nI (s))) 98 [.ref 82, .int (nI (s)), .int (nI 0), uu] [.int (nI ((k % 60 * 3)))] from ?_)
  refine aw_istore_n (lv2 := [.ref 82, .int (nI (s)), .int (nI 0), .int (nI ((k % 60 * 3)))]) rfl (by decide) rfl d_H_close_98 ?_
  refine aw_aload_n rfl rfl d_H_close_99 ?_
  refine aw_getr fl_H_43 kc_82 (by decide) rfl rc_82_10 d_H_close_100 ?_
  refine aw_iload_n rfl rfl d_H_close_103 ?_
  refine aw_iload_n rfl rfl d_H_close_104 ?_
  refine aw_iast (j := (k % 60 * 3)) kc_94 (vp_in_nI (by omega) (by decide)) (nI_clamp (by omega)) d_H_close_105 ?_
  refine aw_aload_n rfl rfl d_H_close_106 ?_
  refine aw_getr fl_H_43 kc_82 (by decide) rfl rc_82_10 d_H_close_107 ?_
  refine aw_iload_n rfl rfl d_H_close_110 ?_
  refine aw_iconst (v := nI 1) ci_1 d_H_close_111 ?_
  refine aw_iaddN d_H_close_112 ?_
  refine aw_iload_n rfl rfl d_H_close_113 ?_
  refine aw_iast (j := ((k % 60 * 3) + 1)) kc_94 (vp_in_nI (by omega) (by decide)) (nI_clamp (by omega)) d_H_close_114 ?_
  refine aw_aload_n rfl rfl d_H_close_115 ?_
  refine aw_getr fl_H_43 kc_82 (by decide) rfl rc_82_10 d_H_close_116 ?_
  refine aw_iload_n rfl rfl d_H_close_119 ?_
  refine aw_iconst (v := nI 2) ci_2 d_H_close_120 ?_
  refine aw_iaddN d_H_close_121 ?_
  refine aw_aload_n rfl rfl d_H_close_122 ?_
  refine aw_getr fl_H_37 kc_82 (by decide) rfl rc_82_8 d_H_close_123 ?_
  refine aw_iconst (v := nI 3) ci_3 d_H_close_126 ?_
  refine aw_iald (j := 3) kc_92 (vp_in_nI (by decide) (by decide)) (nI_clamp (by decide)) d_H_close_127 ?_
  refine aw_top (x2 := ((upd2 I 92 (1) (nI ((e + s)))) 92 3 + (upd2 I 92 (1) (nI ((e + s)))) 83 1)) (Eq.trans (congrFun (upd2_ne (by decide)) (3)) (Eq.trans (congrFun (upd2_ne (by decide)) (3)) (Eq.trans (congrFun (upd2_ne (by decide)) (3)) (Eq.trans (congrFun (upd2_ne (by decide)) (3)) (upd2_eq))))) ?_
  refine aw_iast (j := ((k % 60 * 3) + 2)) kc_94 (vp_in_nI (by omega) (by decide)) (nI_clamp (by omega)) d_H_close_128 ?_
  refine aw_aload_n rfl rfl d_H_close_129 ?_
  refine aw_getr fl_H_37 kc_82 (by decide) rfl rc_82_8 d_H_close_130 ?_
  refine aw_iconst (v := nI 0) ci_0 d_H_close_133 ?_
  refine aw_dup2 rfl rfl d_H_close_134 ?_
  refine aw_iald (j := 0) kc_92 (vp_in_nI (by decide) (by decide)) (nI_clamp (by decide)) d_H_close_135 ?_
  refine aw_top (x2 := nI (k)) (Eq.trans (congrFun (upd2_ne (by decide)) (0)) (Eq.trans (congrFun (upd2_ne (by decide)) (0)) (Eq.trans (congrFun (upd2_ne (by decide)) (0)) (Eq.trans (congrFun (upd2_ne (by decide)) (0)) (Eq.trans (congrFun (upd2_ne (by decide)) (0)) (Eq.trans (upd2_nx (by omega)) (Eq.trans (upd2_nx (by omega)) (d7)))))))) ?_
  refine aw_iconst (v := nI 1) ci_1 d_H_close_136 ?_
  refine aw_iaddN d_H_close_137 ?_
  refine aw_iast (j := 0) kc_92 (vp_in_nI (by decide) (by decide)) (nI_clamp (by decide)) d_H_close_138 ?_
  exact as_retv rfl d_H_close_139 (hK _ ⟨fun j hj => by simp [upd2, upd, updA, d0 j hj], fun j hj => by simp [upd2, upd, updA, d1 j hj], fun j hj => by simp [upd2, upd, updA, d2 j hj], by simp [upd2, upd, updA, d3], by simp [upd2, upd, updA, d4], by simp [upd2, upd, updA, d5], by simp [upd2, upd, updA, d6, nI_add], by simp [upd2, upd, updA, d7, nI_1], fun j hj a1 a2 a3 => by simp [upd2, upd, updA, d8 j hj a1 a2 a3, a1, a2, a3], by simp [upd2, upd, updA, d9], by simp [upd2, upd, updA, d10], by simp [upd2, upd, updA, d11], by simp [upd2, upd, updA, d12], by simp [upd2, upd, updA, d13], by omega⟩ (fun q hq => by have n92 : q ≠ 92 := (by omega); have n93 : q ≠ 93 := (by omega); have n94 : q ≠ 94 := (by omega); simp [upd2, updA, n92, n93, n94]))
set_option maxRecDepth 20000 in
theorem sp_leave_122 {K2 : K2T} {I : Nat → Nat → Int32} {s ru e k : Nat} (hF : FH 82 I s ru e k) (g7 : I 122 7 = nI s) (g8 : I 122 8 = nI 0) (g9 : I 122 9 = nI 0) (hb : e + s < 100000 ∧ k + 1 < 100000) (hK : ∀ I', FH 82 I' s ru (e + s) (k + 1) → (∀ q, (q < 82 ∨ 122 < q) ∧ (q < 122 ∨ 128 < q) → I' q = I q) → K2 (some (.int (nI 0))) I') : Ss l b 4 y_C_leave KC RC [.ref 122, .ref 82] (I) K2 := by
  have hF0 := hF
  obtain ⟨d0, d1, d2, d3, d4, d5, d6, d7, d8, d9, d10, d11, d12, d13, db⟩ := hF
  have d0 : ∀ j, j < 32 → I 86 j = nI 0 := d0
  have d1 : ∀ j, j < 6 → I 90 j = nI 0 := d1
  have d2 : ∀ j, j < 6 → I 91 j = nI 9 := d2
  have d3 : I 83 0 = nI s := d3
  have d4 : I 83 3 = nI 0 := d4
  have d5 : I 83 5 = nI ru := d5
  have d6 : I 92 1 = nI e := d6
  have d7 : I 92 0 = nI k := d7
  have d8 : ∀ j, j < 40 → j ≠ 0 → j ≠ 1 → j ≠ 3 → I 92 j = nI 0 := d8
  have d9 : I 97 4 = nI 0 := d9
  have d10 : I 102 4 = nI 0 := d10
  have d11 : I 107 4 = nI 0 := d11
  have d12 : I 112 4 = nI 0 := d12
  have d13 : I 117 4 = nI 0 := d13
  refine Ss.of (show As l b 4 y_C_leave KC RC K2 (I) 0 [.ref 122, .ref 82, uu, uu] [] from ?_)
  refine aw_aload_n rfl rfl d_C_leave_0 ?_
  refine aw_getr fl_C_141 kc_82 (by decide) rfl rc_82_8 d_C_leave_1 ?_
  refine aw_iconst (v := nI 2) ci_2 d_C_leave_4 ?_
  refine aw_iald (j := 2) kc_92 (vp_in_nI (by decide) (by decide)) (nI_clamp (by decide)) d_C_leave_5 ?_
  refine aw_top (x2 := nI 0) (d8 2 (by decide) (by decide) (by decide) (by decide)) ?_
  refine aw_istore_n (lv2 := [.ref 122, .ref 82, .int (nI 0), uu]) rfl (by decide) rfl d_C_leave_6 ?_
  refine aw_iconst (v := nI 0) ci_0 d_C_leave_7 ?_
  refine aw_istore_n (lv2 := [.ref 122, .ref 82, .int (nI 0), .int (nI 0)]) rfl (by decide) rfl d_C_leave_8 ?_
  refine aw_iload_n rfl rfl d_C_leave_9 ?_
  refine aw_aload_n rfl rfl d_C_leave_10 ?_
  refine aw_geti fl_C_40 kc_122 (by decide) rfl d_C_leave_11 ?_
  refine aw_top (x2 := nI 0) (g8) ?_
  refine aw_icmp_geI (tgt := 46) (0) (0) (by decide +kernel) (by decide +kernel) (by decide) d_C_leave_14 (fun _ => ?_) (fun q => absurd q (by decide))
  refine aw_aload_n rfl rfl d_C_leave_46 ?_
  refine aw_getr fl_C_72 kc_82 (by decide) rfl rc_82_5 d_C_leave_47 ?_
  refine aw_aload_n rfl rfl d_C_leave_50 ?_
  refine aw_getr fl_C_9 kc_122 (by decide) rfl rc_122_0 d_C_leave_51 ?_
  refine as_callV (as := [.ref 123]) (d' := 2) (q := ("SinglesUp$Lines", zT4, 3)) mo_L_depart lk_C_165 kc_88 rfl rfl rfl ⟨by decide, by decide⟩ rfl rfl (by decide) d_C_leave_54 (sp_depart_82_122 (I := I) d1 ?_)
  refine (show As l b 4 y_C_leave KC RC K2 (I) 57 [.ref 122, .ref 82, .int (nI 0), .int (nI 0)] [] from ?_)
  refine aw_iconst (v := nI 0) ci_0 d_C_leave_57 ?_
  refine aw_istore_n (lv2 := [.ref 122, .ref 82, .int (nI 0), .int (nI 0)]) rfl (by decide) rfl d_C_leave_58 ?_
  refine aw_iload_n rfl rfl d_C_leave_59 ?_
  refine aw_aload_n rfl rfl d_C_leave_60 ?_
  refine aw_geti fl_C_43 kc_122 (by decide) rfl d_C_leave_61 ?_
  refine aw_top (x2 := nI 0) (g9) ?_
  refine aw_icmp_geI (tgt := 103) (0) (0) (by decide +kernel) (by decide +kernel) (by decide) d_C_leave_64 (fun _ => ?_) (fun q => absurd q (by decide))
  refine aw_aload_n rfl rfl d_C_leave_103 ?_
  refine aw_aload_n rfl rfl d_C_leave_104 ?_
  refine aw_geti fl_C_30 kc_122 (by decide) rfl d_C_leave_105 ?_
  refine aw_top (x2 := nI (s)) (g7) ?_
  refine aw_aload_n rfl rfl d_C_leave_108 ?_
  refine aw_geti fl_C_40 kc_122 (by decide) rfl d_C_leave_109 ?_
  refine aw_top (x2 := nI 0) (g8) ?_
  refine as_callV (as := [.int (nI (s)), .int (nI 0)]) (d' := 3) (q := ("SinglesUp$Hill", zT2, 14)) mo_H_close lk_C_173 kc_82 rfl rfl rfl ⟨by decide, by decide⟩ rfl rfl (by decide) d_C_leave_112 (sp_close_82 (I := I) (s := s) (ru := ru) (e := e) (k := k) hF0 (by omega) (fun I1 hF2 fr3 => ?_))
  have hF := hF2
  obtain ⟨d0, d1, d2, d3, d4, d5, d6, d7, d8, d9, d10, d11, d12, d13, db⟩ := hF
  have d0 : ∀ j, j < 32 → I1 86 j = nI 0 := d0
  have d1 : ∀ j, j < 6 → I1 90 j = nI 0 := d1
  have d2 : ∀ j, j < 6 → I1 91 j = nI 9 := d2
  have d3 : I1 83 0 = nI (s) := d3
  have d4 : I1 83 3 = nI 0 := d4
  have d5 : I1 83 5 = nI (ru) := d5
  have d6 : I1 92 1 = nI ((e + s)) := d6
  have d7 : I1 92 0 = nI ((k + 1)) := d7
  have d8 : ∀ j, j < 40 → j ≠ 0 → j ≠ 1 → j ≠ 3 → I1 92 j = nI 0 := d8
  have d9 : I1 97 4 = nI 0 := d9
  have d10 : I1 102 4 = nI 0 := d10
  have d11 : I1 107 4 = nI 0 := d11
  have d12 : I1 112 4 = nI 0 := d12
  have d13 : I1 117 4 = nI 0 := d13
  refine (show As l b 4 y_C_leave KC RC K2 (I1) 115 [.ref 122, .ref 82, .int (nI 0), .int (nI 0)] [] from ?_)
  refine aw_aload_n rfl rfl d_C_leave_115 ?_
  refine aw_getr fl_C_141 kc_82 (by decide) rfl rc_82_8 d_C_leave_116 ?_
  refine aw_iconst (v := nI 2) ci_2 d_C_leave_119 ?_
  refine aw_iald (j := 2) kc_92 (vp_in_nI (by decide) (by decide)) (nI_clamp (by decide)) d_C_leave_120 ?_
  refine aw_top (x2 := nI 0) (d8 2 (by decide) (by decide) (by decide) (by decide)) ?_
  refine aw_iload_n rfl rfl d_C_leave_121 ?_
  refine aw_isub d_C_leave_122 ?_
  refine aw_top (x2 := nI 0) (by decide +kernel) ?_
  exact as_reti rfl d_C_leave_123 (hK _ hF2 (fun q hq => fr3 q hq))
set_option maxRecDepth 20000 in
theorem sp_ride_122 {K2 : K2T} {I : Nat → Nat → Int32} {s ru e k : Nat} (hF : FH 82 I s ru e k) (hb : e + s < 100000 ∧ k + 1 < 100000) (hK : ∀ I', FH 82 I' s ru (e + s) (k + 1) → (∀ q, (q < 82 ∨ 122 < q) ∧ (q < 122 ∨ 128 < q) → I' q = I q) → K2 (some (.int (nI 0))) I') : Ss l b 5 y_C_ride KC RC [.ref 122, .ref 82] (I) K2 := by
  have hF0 := hF
  obtain ⟨d0, d1, d2, d3, d4, d5, d6, d7, d8, d9, d10, d11, d12, d13, db⟩ := hF
  have d0 : ∀ j, j < 32 → I 86 j = nI 0 := d0
  have d1 : ∀ j, j < 6 → I 90 j = nI 0 := d1
  have d2 : ∀ j, j < 6 → I 91 j = nI 9 := d2
  have d3 : I 83 0 = nI s := d3
  have d4 : I 83 3 = nI 0 := d4
  have d5 : I 83 5 = nI ru := d5
  have d6 : I 92 1 = nI e := d6
  have d7 : I 92 0 = nI k := d7
  have d8 : ∀ j, j < 40 → j ≠ 0 → j ≠ 1 → j ≠ 3 → I 92 j = nI 0 := d8
  have d9 : I 97 4 = nI 0 := d9
  have d10 : I 102 4 = nI 0 := d10
  have d11 : I 107 4 = nI 0 := d11
  have d12 : I 112 4 = nI 0 := d12
  have d13 : I 117 4 = nI 0 := d13
  refine Ss.of (show As l b 5 y_C_ride KC RC K2 (I) 0 [.ref 122, .ref 82] [] from ?_)
  refine aw_aload_n rfl rfl d_C_ride_0 ?_
  refine aw_aload_n rfl rfl d_C_ride_1 ?_
  refine as_callV (as := [.ref 82]) (d' := 3) (q := ("SinglesUp$Chair", zT0, 12)) mo_C_fill lk_C_58 kc_122 rfl rfl rfl ⟨by decide, by decide⟩ rfl rfl (by decide) d_C_ride_2 (sp_fill_122 (I := I) (s := s) (ru := ru) (e := e) (k := k) hF0 (fun I1 hF2 g4a g4b g4c fr3 => ?_))
  have hF := hF2
  obtain ⟨d0, d1, d2, d3, d4, d5, d6, d7, d8, d9, d10, d11, d12, d13, db⟩ := hF
  have d0 : ∀ j, j < 32 → I1 86 j = nI 0 := d0
  have d1 : ∀ j, j < 6 → I1 90 j = nI 0 := d1
  have d2 : ∀ j, j < 6 → I1 91 j = nI 9 := d2
  have d3 : I1 83 0 = nI (s) := d3
  have d4 : I1 83 3 = nI 0 := d4
  have d5 : I1 83 5 = nI (ru) := d5
  have d6 : I1 92 1 = nI (e) := d6
  have d7 : I1 92 0 = nI (k) := d7
  have d8 : ∀ j, j < 40 → j ≠ 0 → j ≠ 1 → j ≠ 3 → I1 92 j = nI 0 := d8
  have d9 : I1 97 4 = nI 0 := d9
  have d10 : I1 102 4 = nI 0 := d10
  have d11 : I1 107 4 = nI 0 := d11
  have d12 : I1 112 4 = nI 0 := d12
  have d13 : I1 117 4 = nI 0 := d13
  refine (show As l b 5 y_C_ride KC RC K2 (I1) 5 [.ref 122, .ref 82] [] from ?_)
  refine aw_aload_n rfl rfl d_C_ride_5 ?_
  refine aw_aload_n rfl rfl d_C_ride_6 ?_
  refine as_callV (as := [.ref 82]) (d' := 4) (q := ("SinglesUp$Chair", zT0, 12)) mo_C_leave lk_C_61 kc_122 rfl rfl rfl ⟨by decide, by decide⟩ rfl rfl (by decide) d_C_ride_7 (sp_leave_122 (I := I1) (s := s) (ru := ru) (e := e) (k := k) hF2 g4a g4b g4c (by omega) (fun I5 hF6 fr7 => ?_))
  have hF := hF6
  obtain ⟨d0, d1, d2, d3, d4, d5, d6, d7, d8, d9, d10, d11, d12, d13, db⟩ := hF
  have d0 : ∀ j, j < 32 → I5 86 j = nI 0 := d0
  have d1 : ∀ j, j < 6 → I5 90 j = nI 0 := d1
  have d2 : ∀ j, j < 6 → I5 91 j = nI 9 := d2
  have d3 : I5 83 0 = nI (s) := d3
  have d4 : I5 83 3 = nI 0 := d4
  have d5 : I5 83 5 = nI (ru) := d5
  have d6 : I5 92 1 = nI ((e + s)) := d6
  have d7 : I5 92 0 = nI ((k + 1)) := d7
  have d8 : ∀ j, j < 40 → j ≠ 0 → j ≠ 1 → j ≠ 3 → I5 92 j = nI 0 := d8
  have d9 : I5 97 4 = nI 0 := d9
  have d10 : I5 102 4 = nI 0 := d10
  have d11 : I5 107 4 = nI 0 := d11
  have d12 : I5 112 4 = nI 0 := d12
  have d13 : I5 117 4 = nI 0 := d13
  refine (show As l b 5 y_C_ride KC RC K2 (I5) 10 [.ref 122, .ref 82] [.int (nI 0)] from ?_)
  exact as_reti rfl d_C_ride_10 (hK _ hF6 (fun q hq => (fun q hq => (fr7 q hq).trans (fr3 q hq)) q hq))
set_option maxRecDepth 20000 in
theorem sp_comers_82 {K2 : K2T} {I : Nat → Nat → Int32} (d0 : ∀ j, j < 32 → I 86 j = nI 0) (hK : K2 none I) : Ss l b 2 y_H_letComersEnter KC RC [.ref 82] (I) K2 := by
  refine Ss.of (show As l b 2 y_H_letComersEnter KC RC K2 (I) 0 [.ref 82, uu, uu] [] from ?_)
  refine aw_iconst (v := nI 0) ci_0 d_H_letComersEnter_0 ?_
  refine aw_istore_n (lv2 := [.ref 82, .int (nI 0), uu]) rfl (by decide) rfl d_H_letComersEnter_1 ?_
  refine aw_iload_n rfl rfl d_H_letComersEnter_2 ?_
  refine aw_iconst (v := nI 3) ci_3 d_H_letComersEnter_3 ?_
  refine aw_iadd d_H_letComersEnter_4 ?_
  refine aw_top (x2 := nI 3) (by decide +kernel) ?_
  refine aw_aload_n rfl rfl d_H_letComersEnter_5 ?_
  refine aw_getr fl_H_24 kc_82 (by decide) rfl rc_82_3 d_H_letComersEnter_6 ?_
  refine aw_alen kc_86 (by decide) d_H_letComersEnter_9 ?_
  refine aw_icmp_geI (tgt := 70) (3) (32) (by decide +kernel) (by decide +kernel) (by decide) d_H_letComersEnter_10 (fun q => absurd q (by decide)) (fun _ => ?_)
  refine aw_aload_n rfl rfl d_H_letComersEnter_13 ?_
  refine aw_getr fl_H_24 kc_82 (by decide) rfl rc_82_3 d_H_letComersEnter_14 ?_
  refine aw_iload_n rfl rfl d_H_letComersEnter_17 ?_
  refine aw_iconst (v := nI 3) ci_3 d_H_letComersEnter_18 ?_
  refine aw_iadd d_H_letComersEnter_19 ?_
  refine aw_top (x2 := nI 3) (by decide +kernel) ?_
  refine aw_iald (j := 3) kc_86 (vp_in_nI (by decide) (by decide)) (nI_clamp (by decide)) d_H_letComersEnter_20 ?_
  refine aw_top (x2 := nI 0) (d0 3 (by omega)) ?_
  refine aw_istore_n (lv2 := [.ref 82, .int (nI 0), .int (nI 0)]) rfl (by decide) rfl d_H_letComersEnter_21 ?_
  refine aw_iload_n rfl rfl d_H_letComersEnter_22 ?_
  refine aw_if_leI (tgt := 64) (0) (by decide +kernel) (by decide) d_H_letComersEnter_23 (fun _ => ?_) (fun q => absurd q (by decide))
  refine aw_iinc (v := nI 4) (lv2 := [.ref 82, .int (nI 4), .int (nI 0)]) rfl (by decide +kernel) (by decide) rfl d_H_letComersEnter_64 ?_
  refine aw_goto (tgt := 2) (by decide) d_H_letComersEnter_67 ?_
  refine aw_iload_n rfl rfl d_H_letComersEnter_2 ?_
  refine aw_iconst (v := nI 3) ci_3 d_H_letComersEnter_3 ?_
  refine aw_iadd d_H_letComersEnter_4 ?_
  refine aw_top (x2 := nI 7) (by decide +kernel) ?_
  refine aw_aload_n rfl rfl d_H_letComersEnter_5 ?_
  refine aw_getr fl_H_24 kc_82 (by decide) rfl rc_82_3 d_H_letComersEnter_6 ?_
  refine aw_alen kc_86 (by decide) d_H_letComersEnter_9 ?_
  refine aw_icmp_geI (tgt := 70) (7) (32) (by decide +kernel) (by decide +kernel) (by decide) d_H_letComersEnter_10 (fun q => absurd q (by decide)) (fun _ => ?_)
  refine aw_aload_n rfl rfl d_H_letComersEnter_13 ?_
  refine aw_getr fl_H_24 kc_82 (by decide) rfl rc_82_3 d_H_letComersEnter_14 ?_
  refine aw_iload_n rfl rfl d_H_letComersEnter_17 ?_
  refine aw_iconst (v := nI 3) ci_3 d_H_letComersEnter_18 ?_
  refine aw_iadd d_H_letComersEnter_19 ?_
  refine aw_top (x2 := nI 7) (by decide +kernel) ?_
  refine aw_iald (j := 7) kc_86 (vp_in_nI (by decide) (by decide)) (nI_clamp (by decide)) d_H_letComersEnter_20 ?_
  refine aw_top (x2 := nI 0) (d0 7 (by omega)) ?_
  refine aw_istore_n (lv2 := [.ref 82, .int (nI 4), .int (nI 0)]) rfl (by decide) rfl d_H_letComersEnter_21 ?_
  refine aw_iload_n rfl rfl d_H_letComersEnter_22 ?_
  refine aw_if_leI (tgt := 64) (0) (by decide +kernel) (by decide) d_H_letComersEnter_23 (fun _ => ?_) (fun q => absurd q (by decide))
  refine aw_iinc (v := nI 8) (lv2 := [.ref 82, .int (nI 8), .int (nI 0)]) rfl (by decide +kernel) (by decide) rfl d_H_letComersEnter_64 ?_
  refine aw_goto (tgt := 2) (by decide) d_H_letComersEnter_67 ?_
  refine aw_iload_n rfl rfl d_H_letComersEnter_2 ?_
  refine aw_iconst (v := nI 3) ci_3 d_H_letComersEnter_3 ?_
  refine aw_iadd d_H_letComersEnter_4 ?_
  refine aw_top (x2 := nI 11) (by decide +kernel) ?_
  refine aw_aload_n rfl rfl d_H_letComersEnter_5 ?_
  refine aw_getr fl_H_24 kc_82 (by decide) rfl rc_82_3 d_H_letComersEnter_6 ?_
  refine aw_alen kc_86 (by decide) d_H_letComersEnter_9 ?_
  refine aw_icmp_geI (tgt := 70) (11) (32) (by decide +kernel) (by decide +kernel) (by decide) d_H_letComersEnter_10 (fun q => absurd q (by decide)) (fun _ => ?_)
  refine aw_aload_n rfl rfl d_H_letComersEnter_13 ?_
  refine aw_getr fl_H_24 kc_82 (by decide) rfl rc_82_3 d_H_letComersEnter_14 ?_
  refine aw_iload_n rfl rfl d_H_letComersEnter_17 ?_
  refine aw_iconst (v := nI 3) ci_3 d_H_letComersEnter_18 ?_
  refine aw_iadd d_H_letComersEnter_19 ?_
  refine aw_top (x2 := nI 11) (by decide +kernel) ?_
  refine aw_iald (j := 11) kc_86 (vp_in_nI (by decide) (by decide)) (nI_clamp (by decide)) d_H_letComersEnter_20 ?_
  refine aw_top (x2 := nI 0) (d0 11 (by omega)) ?_
  refine aw_istore_n (lv2 := [.ref 82, .int (nI 8), .int (nI 0)]) rfl (by decide) rfl d_H_letComersEnter_21 ?_
  refine aw_iload_n rfl rfl d_H_letComersEnter_22 ?_
  refine aw_if_leI (tgt := 64) (0) (by decide +kernel) (by decide) d_H_letComersEnter_23 (fun _ => ?_) (fun q => absurd q (by decide))
  refine aw_iinc (v := nI 12) (lv2 := [.ref 82, .int (nI 12), .int (nI 0)]) rfl (by decide +kernel) (by decide) rfl d_H_letComersEnter_64 ?_
  refine aw_goto (tgt := 2) (by decide) d_H_letComersEnter_67 ?_
  refine aw_iload_n rfl rfl d_H_letComersEnter_2 ?_
  refine aw_iconst (v := nI 3) ci_3 d_H_letComersEnter_3 ?_
  refine aw_iadd d_H_letComersEnter_4 ?_
  refine aw_top (x2 := nI 15) (by decide +kernel) ?_
  refine aw_aload_n rfl rfl d_H_letComersEnter_5 ?_
  refine aw_getr fl_H_24 kc_82 (by decide) rfl rc_82_3 d_H_letComersEnter_6 ?_
  refine aw_alen kc_86 (by decide) d_H_letComersEnter_9 ?_
  refine aw_icmp_geI (tgt := 70) (15) (32) (by decide +kernel) (by decide +kernel) (by decide) d_H_letComersEnter_10 (fun q => absurd q (by decide)) (fun _ => ?_)
  refine aw_aload_n rfl rfl d_H_letComersEnter_13 ?_
  refine aw_getr fl_H_24 kc_82 (by decide) rfl rc_82_3 d_H_letComersEnter_14 ?_
  refine aw_iload_n rfl rfl d_H_letComersEnter_17 ?_
  refine aw_iconst (v := nI 3) ci_3 d_H_letComersEnter_18 ?_
  refine aw_iadd d_H_letComersEnter_19 ?_
  refine aw_top (x2 := nI 15) (by decide +kernel) ?_
  refine aw_iald (j := 15) kc_86 (vp_in_nI (by decide) (by decide)) (nI_clamp (by decide)) d_H_letComersEnter_20 ?_
  refine aw_top (x2 := nI 0) (d0 15 (by omega)) ?_
  refine aw_istore_n (lv2 := [.ref 82, .int (nI 12), .int (nI 0)]) rfl (by decide) rfl d_H_letComersEnter_21 ?_
  refine aw_iload_n rfl rfl d_H_letComersEnter_22 ?_
  refine aw_if_leI (tgt := 64) (0) (by decide +kernel) (by decide) d_H_letComersEnter_23 (fun _ => ?_) (fun q => absurd q (by decide))
  refine aw_iinc (v := nI 16) (lv2 := [.ref 82, .int (nI 16), .int (nI 0)]) rfl (by decide +kernel) (by decide) rfl d_H_letComersEnter_64 ?_
  refine aw_goto (tgt := 2) (by decide) d_H_letComersEnter_67 ?_
  refine aw_iload_n rfl rfl d_H_letComersEnter_2 ?_
  refine aw_iconst (v := nI 3) ci_3 d_H_letComersEnter_3 ?_
  refine aw_iadd d_H_letComersEnter_4 ?_
  refine aw_top (x2 := nI 19) (by decide +kernel) ?_
  refine aw_aload_n rfl rfl d_H_letComersEnter_5 ?_
  refine aw_getr fl_H_24 kc_82 (by decide) rfl rc_82_3 d_H_letComersEnter_6 ?_
  refine aw_alen kc_86 (by decide) d_H_letComersEnter_9 ?_
  refine aw_icmp_geI (tgt := 70) (19) (32) (by decide +kernel) (by decide +kernel) (by decide) d_H_letComersEnter_10 (fun q => absurd q (by decide)) (fun _ => ?_)
  refine aw_aload_n rfl rfl d_H_letComersEnter_13 ?_
  refine aw_getr fl_H_24 kc_82 (by decide) rfl rc_82_3 d_H_letComersEnter_14 ?_
  refine aw_iload_n rfl rfl d_H_letComersEnter_17 ?_
  refine aw_iconst (v := nI 3) ci_3 d_H_letComersEnter_18 ?_
  refine aw_iadd d_H_letComersEnter_19 ?_
  refine aw_top (x2 := nI 19) (by decide +kernel) ?_
  refine aw_iald (j := 19) kc_86 (vp_in_nI (by decide) (by decide)) (nI_clamp (by decide)) d_H_letComersEnter_20 ?_
  refine aw_top (x2 := nI 0) (d0 19 (by omega)) ?_
  refine aw_istore_n (lv2 := [.ref 82, .int (nI 16), .int (nI 0)]) rfl (by decide) rfl d_H_letComersEnter_21 ?_
  refine aw_iload_n rfl rfl d_H_letComersEnter_22 ?_
  refine aw_if_leI (tgt := 64) (0) (by decide +kernel) (by decide) d_H_letComersEnter_23 (fun _ => ?_) (fun q => absurd q (by decide))
  refine aw_iinc (v := nI 20) (lv2 := [.ref 82, .int (nI 20), .int (nI 0)]) rfl (by decide +kernel) (by decide) rfl d_H_letComersEnter_64 ?_
  refine aw_goto (tgt := 2) (by decide) d_H_letComersEnter_67 ?_
  refine aw_iload_n rfl rfl d_H_letComersEnter_2 ?_
  refine aw_iconst (v := nI 3) ci_3 d_H_letComersEnter_3 ?_
  refine aw_iadd d_H_letComersEnter_4 ?_
  refine aw_top (x2 := nI 23) (by decide +kernel) ?_
  refine aw_aload_n rfl rfl d_H_letComersEnter_5 ?_
  refine aw_getr fl_H_24 kc_82 (by decide) rfl rc_82_3 d_H_letComersEnter_6 ?_
  refine aw_alen kc_86 (by decide) d_H_letComersEnter_9 ?_
  refine aw_icmp_geI (tgt := 70) (23) (32) (by decide +kernel) (by decide +kernel) (by decide) d_H_letComersEnter_10 (fun q => absurd q (by decide)) (fun _ => ?_)
  refine aw_aload_n rfl rfl d_H_letComersEnter_13 ?_
  refine aw_getr fl_H_24 kc_82 (by decide) rfl rc_82_3 d_H_letComersEnter_14 ?_
  refine aw_iload_n rfl rfl d_H_letComersEnter_17 ?_
  refine aw_iconst (v := nI 3) ci_3 d_H_letComersEnter_18 ?_
  refine aw_iadd d_H_letComersEnter_19 ?_
  refine aw_top (x2 := nI 23) (by decide +kernel) ?_
  refine aw_iald (j := 23) kc_86 (vp_in_nI (by decide) (by decide)) (nI_clamp (by decide)) d_H_letComersEnter_20 ?_
  refine aw_top (x2 := nI 0) (d0 23 (by omega)) ?_
  refine aw_istore_n (lv2 := [.ref 82, .int (nI 20), .int (nI 0)]) rfl (by decide) rfl d_H_letComersEnter_21 ?_
  refine aw_iload_n rfl rfl d_H_letComersEnter_22 ?_
  refine aw_if_leI (tgt := 64) (0) (by decide +kernel) (by decide) d_H_letComersEnter_23 (fun _ => ?_) (fun q => absurd q (by decide))
  refine aw_iinc (v := nI 24) (lv2 := [.ref 82, .int (nI 24), .int (nI 0)]) rfl (by decide +kernel) (by decide) rfl d_H_letComersEnter_64 ?_
  refine aw_goto (tgt := 2) (by decide) d_H_letComersEnter_67 ?_
  refine aw_iload_n rfl rfl d_H_letComersEnter_2 ?_
  refine aw_iconst (v := nI 3) ci_3 d_H_letComersEnter_3 ?_
  refine aw_iadd d_H_letComersEnter_4 ?_
  refine aw_top (x2 := nI 27) (by decide +kernel) ?_
  refine aw_aload_n rfl rfl d_H_letComersEnter_5 ?_
  refine aw_getr fl_H_24 kc_82 (by decide) rfl rc_82_3 d_H_letComersEnter_6 ?_
  refine aw_alen kc_86 (by decide) d_H_letComersEnter_9 ?_
  refine aw_icmp_geI (tgt := 70) (27) (32) (by decide +kernel) (by decide +kernel) (by decide) d_H_letComersEnter_10 (fun q => absurd q (by decide)) (fun _ => ?_)
  refine aw_aload_n rfl rfl d_H_letComersEnter_13 ?_
  refine aw_getr fl_H_24 kc_82 (by decide) rfl rc_82_3 d_H_letComersEnter_14 ?_
  refine aw_iload_n rfl rfl d_H_letComersEnter_17 ?_
  refine aw_iconst (v := nI 3) ci_3 d_H_letComersEnter_18 ?_
  refine aw_iadd d_H_letComersEnter_19 ?_
  refine aw_top (x2 := nI 27) (by decide +kernel) ?_
  refine aw_iald (j := 27) kc_86 (vp_in_nI (by decide) (by decide)) (nI_clamp (by decide)) d_H_letComersEnter_20 ?_
  refine aw_top (x2 := nI 0) (d0 27 (by omega)) ?_
  refine aw_istore_n (lv2 := [.ref 82, .int (nI 24), .int (nI 0)]) rfl (by decide) rfl d_H_letComersEnter_21 ?_
  refine aw_iload_n rfl rfl d_H_letComersEnter_22 ?_
  refine aw_if_leI (tgt := 64) (0) (by decide +kernel) (by decide) d_H_letComersEnter_23 (fun _ => ?_) (fun q => absurd q (by decide))
  refine aw_iinc (v := nI 28) (lv2 := [.ref 82, .int (nI 28), .int (nI 0)]) rfl (by decide +kernel) (by decide) rfl d_H_letComersEnter_64 ?_
  refine aw_goto (tgt := 2) (by decide) d_H_letComersEnter_67 ?_
  refine aw_iload_n rfl rfl d_H_letComersEnter_2 ?_
  refine aw_iconst (v := nI 3) ci_3 d_H_letComersEnter_3 ?_
  refine aw_iadd d_H_letComersEnter_4 ?_
  refine aw_top (x2 := nI 31) (by decide +kernel) ?_
  refine aw_aload_n rfl rfl d_H_letComersEnter_5 ?_
  refine aw_getr fl_H_24 kc_82 (by decide) rfl rc_82_3 d_H_letComersEnter_6 ?_
  refine aw_alen kc_86 (by decide) d_H_letComersEnter_9 ?_
  refine aw_icmp_geI (tgt := 70) (31) (32) (by decide +kernel) (by decide +kernel) (by decide) d_H_letComersEnter_10 (fun q => absurd q (by decide)) (fun _ => ?_)
  refine aw_aload_n rfl rfl d_H_letComersEnter_13 ?_
  refine aw_getr fl_H_24 kc_82 (by decide) rfl rc_82_3 d_H_letComersEnter_14 ?_
  refine aw_iload_n rfl rfl d_H_letComersEnter_17 ?_
  refine aw_iconst (v := nI 3) ci_3 d_H_letComersEnter_18 ?_
  refine aw_iadd d_H_letComersEnter_19 ?_
  refine aw_top (x2 := nI 31) (by decide +kernel) ?_
  refine aw_iald (j := 31) kc_86 (vp_in_nI (by decide) (by decide)) (nI_clamp (by decide)) d_H_letComersEnter_20 ?_
  refine aw_top (x2 := nI 0) (d0 31 (by omega)) ?_
  refine aw_istore_n (lv2 := [.ref 82, .int (nI 28), .int (nI 0)]) rfl (by decide) rfl d_H_letComersEnter_21 ?_
  refine aw_iload_n rfl rfl d_H_letComersEnter_22 ?_
  refine aw_if_leI (tgt := 64) (0) (by decide +kernel) (by decide) d_H_letComersEnter_23 (fun _ => ?_) (fun q => absurd q (by decide))
  refine aw_iinc (v := nI 32) (lv2 := [.ref 82, .int (nI 32), .int (nI 0)]) rfl (by decide +kernel) (by decide) rfl d_H_letComersEnter_64 ?_
  refine aw_goto (tgt := 2) (by decide) d_H_letComersEnter_67 ?_
  refine aw_iload_n rfl rfl d_H_letComersEnter_2 ?_
  refine aw_iconst (v := nI 3) ci_3 d_H_letComersEnter_3 ?_
  refine aw_iadd d_H_letComersEnter_4 ?_
  refine aw_top (x2 := nI 35) (by decide +kernel) ?_
  refine aw_aload_n rfl rfl d_H_letComersEnter_5 ?_
  refine aw_getr fl_H_24 kc_82 (by decide) rfl rc_82_3 d_H_letComersEnter_6 ?_
  refine aw_alen kc_86 (by decide) d_H_letComersEnter_9 ?_
  refine aw_icmp_geI (tgt := 70) (35) (32) (by decide +kernel) (by decide +kernel) (by decide) d_H_letComersEnter_10 (fun _ => ?_) (fun q => absurd q (by decide))
  exact as_retv rfl d_H_letComersEnter_70 hK
set_option maxRecDepth 20000 in
theorem lp_turns_122 {K2 : K2T} {I0 : Nat → Nat → Int32} {s ru e k n0 : Nat} (hn0 : n0 ≤ 60) (hb : e + 600 < 100000 ∧ k + 60 < 100000) (hK : ∀ I', FH 82 I' s ru (e + n0 * s) (k + n0) → (∀ q, (q < 82 ∨ 122 < q) ∧ (q < 122 ∨ 128 < q) → I' q = I0 q) → K2 (some (.int (nI 0))) I') : ∀ (n i : Nat) (I : Nat → Nat → Int32), i + n = n0 → FH 82 I s ru (e + i * s) (k + i) → (∀ q, (q < 82 ∨ 122 < q) ∧ (q < 122 ∨ 128 < q) → I q = I0 q) → As l b 6 y_C_turns KC RC K2 (I) 5 [.ref 122, .ref 82, .int (nI (n0)), .int (nI 0), .int (nI (i))] [] := by
  intro n
  induction n with
  | zero =>
    intro i I hi hF hfr
    have hF0 := hF
    obtain ⟨d0, d1, d2, d3, d4, d5, d6, d7, d8, d9, d10, d11, d12, d13, db⟩ := hF
    have d0 : ∀ j, j < 32 → I 86 j = nI 0 := d0
    have d1 : ∀ j, j < 6 → I 90 j = nI 0 := d1
    have d2 : ∀ j, j < 6 → I 91 j = nI 9 := d2
    have d3 : I 83 0 = nI (s) := d3
    have d4 : I 83 3 = nI 0 := d4
    have d5 : I 83 5 = nI (ru) := d5
    have d6 : I 92 1 = nI ((e + i * s)) := d6
    have d7 : I 92 0 = nI ((k + i)) := d7
    have d8 : ∀ j, j < 40 → j ≠ 0 → j ≠ 1 → j ≠ 3 → I 92 j = nI 0 := d8
    have d9 : I 97 4 = nI 0 := d9
    have d10 : I 102 4 = nI 0 := d10
    have d11 : I 107 4 = nI 0 := d11
    have d12 : I 112 4 = nI 0 := d12
    have d13 : I 117 4 = nI 0 := d13
    have hbi : i * s ≤ 60 * 9 := Nat.mul_le_mul (by omega) (by omega)
    refine aw_iload rfl d_C_turns_5 ?_
    refine aw_iload_n rfl rfl d_C_turns_7 ?_
    refine aw_icmp_geI (tgt := 34) ((i : Nat) : Int) ((n0 : Nat) : Int) (nI_toInt (by omega)) (nI_toInt (by omega)) (by decide) d_C_turns_8 (fun _ => ?_) (fun q => absurd q (by omega))
    refine aw_iload_n rfl rfl d_C_turns_34 ?_
    exact as_reti rfl d_C_turns_35 (hK _ (by rw [show n0 = i by omega]; exact hF0) hfr)
  | succ n ih =>
    intro i I hi hF hfr
    have hF0 := hF
    obtain ⟨d0, d1, d2, d3, d4, d5, d6, d7, d8, d9, d10, d11, d12, d13, db⟩ := hF
    have d0 : ∀ j, j < 32 → I 86 j = nI 0 := d0
    have d1 : ∀ j, j < 6 → I 90 j = nI 0 := d1
    have d2 : ∀ j, j < 6 → I 91 j = nI 9 := d2
    have d3 : I 83 0 = nI (s) := d3
    have d4 : I 83 3 = nI 0 := d4
    have d5 : I 83 5 = nI (ru) := d5
    have d6 : I 92 1 = nI ((e + i * s)) := d6
    have d7 : I 92 0 = nI ((k + i)) := d7
    have d8 : ∀ j, j < 40 → j ≠ 0 → j ≠ 1 → j ≠ 3 → I 92 j = nI 0 := d8
    have d9 : I 97 4 = nI 0 := d9
    have d10 : I 102 4 = nI 0 := d10
    have d11 : I 107 4 = nI 0 := d11
    have d12 : I 112 4 = nI 0 := d12
    have d13 : I 117 4 = nI 0 := d13
    have hbi : i * s ≤ 60 * 9 := Nat.mul_le_mul (by omega) (by omega)
    refine aw_iload rfl d_C_turns_5 ?_
    refine aw_iload_n rfl rfl d_C_turns_7 ?_
    refine aw_icmp_geI (tgt := 34) ((i : Nat) : Int) ((n0 : Nat) : Int) (nI_toInt (by omega)) (nI_toInt (by omega)) (by decide) d_C_turns_8 (fun q => absurd q (by omega)) (fun _ => ?_)
    refine aw_aload_n rfl rfl d_C_turns_11 ?_
    refine as_callV (as := []) (d' := 2) (q := ("SinglesUp$Hill", zT2, 14)) mo_H_letComersEnter lk_C_53 kc_82 rfl rfl rfl ⟨by decide, by decide⟩ rfl rfl (by decide) d_C_turns_12 (sp_comers_82 (I := I) d0 ?_)
    refine (show As l b 6 y_C_turns KC RC K2 (I) 15 [.ref 122, .ref 82, .int (nI (n0)), .int (nI 0), .int (nI (i))] [] from ?_)
    refine aw_aload_n rfl rfl d_C_turns_15 ?_
    refine aw_aload_n rfl rfl d_C_turns_16 ?_
    refine as_callV (as := [.ref 82]) (d' := 3) (q := ("SinglesUp$Chair", zT0, 12)) mo_C_fill lk_C_58 kc_122 rfl rfl rfl ⟨by decide, by decide⟩ rfl rfl (by decide) d_C_turns_17 (sp_fill_122 (I := I) (s := s) (ru := ru) (e := (e + i * s)) (k := (k + i)) hF0 (fun I1 hF2 g4a g4b g4c fr3 => ?_))
    have hF := hF2
    obtain ⟨d0, d1, d2, d3, d4, d5, d6, d7, d8, d9, d10, d11, d12, d13, db⟩ := hF
    have d0 : ∀ j, j < 32 → I1 86 j = nI 0 := d0
    have d1 : ∀ j, j < 6 → I1 90 j = nI 0 := d1
    have d2 : ∀ j, j < 6 → I1 91 j = nI 9 := d2
    have d3 : I1 83 0 = nI (s) := d3
    have d4 : I1 83 3 = nI 0 := d4
    have d5 : I1 83 5 = nI (ru) := d5
    have d6 : I1 92 1 = nI ((e + i * s)) := d6
    have d7 : I1 92 0 = nI ((k + i)) := d7
    have d8 : ∀ j, j < 40 → j ≠ 0 → j ≠ 1 → j ≠ 3 → I1 92 j = nI 0 := d8
    have d9 : I1 97 4 = nI 0 := d9
    have d10 : I1 102 4 = nI 0 := d10
    have d11 : I1 107 4 = nI 0 := d11
    have d12 : I1 112 4 = nI 0 := d12
    have d13 : I1 117 4 = nI 0 := d13
    refine (show As l b 6 y_C_turns KC RC K2 (I1) 20 [.ref 122, .ref 82, .int (nI (n0)), .int (nI 0), .int (nI (i))] [] from ?_)
    refine aw_iload_n rfl rfl d_C_turns_20 ?_
    refine aw_aload_n rfl rfl d_C_turns_21 ?_
    refine aw_aload_n rfl rfl d_C_turns_22 ?_
    refine as_callV (as := [.ref 82]) (d' := 4) (q := ("SinglesUp$Chair", zT0, 12)) mo_C_leave lk_C_61 kc_122 rfl rfl rfl ⟨by decide, by decide⟩ rfl rfl (by decide) d_C_turns_23 (sp_leave_122 (I := I1) (s := s) (ru := ru) (e := (e + i * s)) (k := (k + i)) hF2 g4a g4b g4c (by omega) (fun I5 hF6 fr7 => ?_))
    have hF := hF6
    obtain ⟨d0, d1, d2, d3, d4, d5, d6, d7, d8, d9, d10, d11, d12, d13, db⟩ := hF
    have d0 : ∀ j, j < 32 → I5 86 j = nI 0 := d0
    have d1 : ∀ j, j < 6 → I5 90 j = nI 0 := d1
    have d2 : ∀ j, j < 6 → I5 91 j = nI 9 := d2
    have d3 : I5 83 0 = nI (s) := d3
    have d4 : I5 83 3 = nI 0 := d4
    have d5 : I5 83 5 = nI (ru) := d5
    have d6 : I5 92 1 = nI (((e + i * s) + s)) := d6
    have d7 : I5 92 0 = nI (((k + i) + 1)) := d7
    have d8 : ∀ j, j < 40 → j ≠ 0 → j ≠ 1 → j ≠ 3 → I5 92 j = nI 0 := d8
    have d9 : I5 97 4 = nI 0 := d9
    have d10 : I5 102 4 = nI 0 := d10
    have d11 : I5 107 4 = nI 0 := d11
    have d12 : I5 112 4 = nI 0 := d12
    have d13 : I5 117 4 = nI 0 := d13
    refine (show As l b 6 y_C_turns KC RC K2 (I5) 26 [.ref 122, .ref 82, .int (nI (n0)), .int (nI 0), .int (nI (i))] [.int (nI 0), .int (nI 0)] from ?_)
    refine aw_iadd d_C_turns_26 ?_
    refine aw_top (x2 := nI 0) (by decide +kernel) ?_
    refine aw_istore_n (lv2 := [.ref 122, .ref 82, .int (nI (n0)), .int (nI 0), .int (nI (i))]) rfl (by decide) rfl d_C_turns_27 ?_
    refine aw_iinc (v := nI (i + 1)) (lv2 := [.ref 122, .ref 82, .int (nI (n0)), .int (nI 0), .int (nI (i + 1))]) rfl (inc_1 _) (by decide) rfl d_C_turns_28 ?_
    refine aw_goto (tgt := 5) (by decide) d_C_turns_31 ?_
    exact ih (i + 1) _ (by omega) (by rw [show e + (i + 1) * s = e + i * s + s by rw [Nat.succ_mul]; omega, show k + (i + 1) = k + i + 1 by omega]; exact hF6) (fun q hq => ((fun q hq => (fr7 q hq).trans (fr3 q hq)) q hq).trans (hfr q hq))
set_option maxRecDepth 20000 in
theorem sp_turns_122 {K2 : K2T} {I : Nat → Nat → Int32} {s ru e k n0 : Nat} (hF : FH 82 I s ru e k) (hn0 : n0 ≤ 60) (hb : e + 600 < 100000 ∧ k + 60 < 100000) (hK : ∀ I', FH 82 I' s ru (e + n0 * s) (k + n0) → (∀ q, (q < 82 ∨ 122 < q) ∧ (q < 122 ∨ 128 < q) → I' q = I q) → K2 (some (.int (nI 0))) I') : Ss l b 6 y_C_turns KC RC [.ref 122, .ref 82, .int (nI (n0))] (I) K2 := by
  refine Ss.of (show As l b 6 y_C_turns KC RC K2 (I) 0 [.ref 122, .ref 82, .int (nI (n0)), uu, uu] [] from ?_)
  refine aw_iconst (v := nI 0) ci_0 d_C_turns_0 ?_
  refine aw_istore_n (lv2 := [.ref 122, .ref 82, .int (nI (n0)), .int (nI 0), uu]) rfl (by decide) rfl d_C_turns_1 ?_
  refine aw_iconst (v := nI 0) ci_0 d_C_turns_2 ?_
  refine aw_istore (lv2 := [.ref 122, .ref 82, .int (nI (n0)), .int (nI 0), .int (nI 0)]) (by decide) rfl d_C_turns_3 ?_
  exact lp_turns_122 hn0 hb hK n0 0 I (by omega) (by rw [Nat.zero_mul]; exact hF) (fun _ _ => rfl)
end
