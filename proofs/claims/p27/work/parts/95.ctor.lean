/-! the constructors -/
section
variable {l : Launch} {b : PB}
theorem q1_cb_6 : (Int8.ofInt 6).toInt32 = nI 6 := by decide +kernel
theorem ci_3 : Int32.ofInt 3 = nI 3 := by decide +kernel
theorem kc_130 : KC[130]? = some (3, 12) := by decide +kernel
theorem kc_131 : KC[131]? = some (0, 240) := by decide +kernel
theorem kc_7 : KC[7]? = some (7, 3) := by decide +kernel
theorem kc_9 : KC[9]? = some (0, 6) := by decide +kernel
theorem kc_10 : KC[10]? = some (0, 6) := by decide +kernel
theorem kc_1 : KC[1]? = some (5, 14) := by decide +kernel
theorem ci_4 : Int32.ofInt 4 = nI 4 := by decide +kernel
theorem kc_2 : KC[2]? = some (0, 6) := by decide +kernel
theorem ci_5 : Int32.ofInt 5 = nI 5 := by decide +kernel
theorem kc_3 : KC[3]? = some (2, 5) := by decide +kernel
theorem q1_cs_144 : (Int16.ofInt 144).toInt32 = nI 144 := by decide +kernel
theorem kc_11 : KC[11]? = some (0, 40) := by decide +kernel
theorem kc_12 : KC[12]? = some (0, 30) := by decide +kernel
theorem kc_13 : KC[13]? = some (0, 180) := by decide +kernel
theorem ci_2 : Int32.ofInt 2 = nI 2 := by decide +kernel
theorem kc_5 : KC[5]? = some (0, 32) := by decide +kernel
theorem kc_122 : KC[122]? = some (3, 12) := by decide +kernel
theorem kc_123 : KC[123]? = some (0, 240) := by decide +kernel
theorem kc_88 : KC[88]? = some (7, 3) := by decide +kernel
theorem kc_90 : KC[90]? = some (0, 6) := by decide +kernel
theorem kc_91 : KC[91]? = some (0, 6) := by decide +kernel
theorem kc_82 : KC[82]? = some (5, 14) := by decide +kernel
theorem kc_83 : KC[83]? = some (0, 6) := by decide +kernel
theorem kc_84 : KC[84]? = some (2, 5) := by decide +kernel
theorem kc_92 : KC[92]? = some (0, 40) := by decide +kernel
theorem kc_93 : KC[93]? = some (0, 30) := by decide +kernel
theorem kc_94 : KC[94]? = some (0, 180) := by decide +kernel
theorem kc_86 : KC[86]? = some (0, 32) := by decide +kernel
theorem kc_137 : KC[137]? = some (3, 12) := by decide +kernel
theorem kc_138 : KC[138]? = some (0, 240) := by decide +kernel
theorem kc_0 : KC[0]? = some (11, 9) := by decide +kernel
theorem kc_4 : KC[4]? = some (0, 9) := by decide +kernel
theorem kc_144 : KC[144]? = some (10, 13) := by decide +kernel
theorem q1_cs_400 : (Int16.ofInt 400).toInt32 = nI 400 := by decide +kernel
theorem kc_145 : KC[145]? = some (0, 400) := by decide +kernel
theorem q1_cb_17 : (Int8.ofInt 17).toInt32 = nI 17 := by decide +kernel
theorem kc_146 : KC[146]? = some (0, 401) := by decide +kernel
theorem kc_147 : KC[147]? = some (0, 401) := by decide +kernel
theorem kc_148 : KC[148]? = some (0, 401) := by decide +kernel
theorem kc_149 : KC[149]? = some (6, 6) := by decide +kernel
theorem kc_16 : KC[16]? = some (6, 6) := by decide +kernel
theorem kc_150 : KC[150]? = some (0, 400) := by decide +kernel
theorem kc_17 : KC[17]? = some (0, 400) := by decide +kernel
theorem kc_151 : KC[151]? = some (0, 17) := by decide +kernel
theorem kc_18 : KC[18]? = some (0, 17) := by decide +kernel
theorem q1_cb_16 : (Int8.ofInt 16).toInt32 = nI 16 := by decide +kernel
theorem kc_152 : KC[152]? = some (0, 16) := by decide +kernel
theorem kc_19 : KC[19]? = some (0, 16) := by decide +kernel
theorem kc_21 : KC[21]? = some (6, 6) := by decide +kernel
theorem kc_22 : KC[22]? = some (0, 400) := by decide +kernel
theorem kc_23 : KC[23]? = some (0, 17) := by decide +kernel
theorem kc_24 : KC[24]? = some (0, 16) := by decide +kernel
theorem kc_26 : KC[26]? = some (6, 6) := by decide +kernel
theorem kc_27 : KC[27]? = some (0, 400) := by decide +kernel
theorem kc_28 : KC[28]? = some (0, 17) := by decide +kernel
theorem kc_29 : KC[29]? = some (0, 16) := by decide +kernel
theorem kc_31 : KC[31]? = some (6, 6) := by decide +kernel
theorem kc_32 : KC[32]? = some (0, 400) := by decide +kernel
theorem kc_33 : KC[33]? = some (0, 17) := by decide +kernel
theorem kc_34 : KC[34]? = some (0, 16) := by decide +kernel
theorem kc_36 : KC[36]? = some (6, 6) := by decide +kernel
theorem kc_37 : KC[37]? = some (0, 400) := by decide +kernel
theorem kc_38 : KC[38]? = some (0, 17) := by decide +kernel
theorem kc_39 : KC[39]? = some (0, 16) := by decide +kernel
theorem kc_15 : KC[15]? = some (0, 6) := by decide +kernel
theorem kc_14 : KC[14]? = some (0, 16) := by decide +kernel
theorem q1_cb_40 : (Int8.ofInt 40).toInt32 = nI 40 := by decide +kernel
theorem kc_8 : KC[8]? = some (0, 1440) := by decide +kernel
theorem q1_cb_10 : (Int8.ofInt 10).toInt32 = nI 10 := by decide +kernel
theorem kc_154 : KC[154]? = some (4, 7) := by decide +kernel
theorem kc_158 : KC[158]? = some (0, 3915) := by decide +kernel
theorem kc_6 : KC[6]? = some (0, 9) := by decide +kernel
theorem q1_cb_12 : (Int8.ofInt 12).toInt32 = nI 12 := by decide +kernel
theorem kc_160 : KC[160]? = some (9, 7) := by decide +kernel
theorem kc_163 : KC[163]? = some (0, 67) := by decide +kernel
theorem kc_161 : KC[161]? = some (0, 603) := by decide +kernel
theorem kc_165 : KC[165]? = some (0, 9) := by decide +kernel
theorem q1_cs_1296 : (Int16.ofInt 1296).toInt32 = nI 1296 := by decide +kernel
theorem kc_164 : KC[164]? = some (0, 1296) := by decide +kernel
theorem kc_41 : KC[41]? = some (5, 14) := by decide +kernel
theorem kc_43 : KC[43]? = some (2, 5) := by decide +kernel
theorem kc_56 : KC[56]? = some (6, 6) := by decide +kernel
theorem kc_57 : KC[57]? = some (0, 400) := by decide +kernel
theorem kc_58 : KC[58]? = some (0, 17) := by decide +kernel
theorem kc_59 : KC[59]? = some (0, 16) := by decide +kernel
theorem kc_61 : KC[61]? = some (6, 6) := by decide +kernel
theorem kc_62 : KC[62]? = some (0, 400) := by decide +kernel
theorem kc_63 : KC[63]? = some (0, 17) := by decide +kernel
theorem kc_64 : KC[64]? = some (0, 16) := by decide +kernel
theorem kc_66 : KC[66]? = some (6, 6) := by decide +kernel
theorem kc_67 : KC[67]? = some (0, 400) := by decide +kernel
theorem kc_68 : KC[68]? = some (0, 17) := by decide +kernel
theorem kc_69 : KC[69]? = some (0, 16) := by decide +kernel
theorem kc_71 : KC[71]? = some (6, 6) := by decide +kernel
theorem kc_72 : KC[72]? = some (0, 400) := by decide +kernel
theorem kc_73 : KC[73]? = some (0, 17) := by decide +kernel
theorem kc_74 : KC[74]? = some (0, 16) := by decide +kernel
theorem kc_76 : KC[76]? = some (6, 6) := by decide +kernel
theorem kc_77 : KC[77]? = some (0, 400) := by decide +kernel
theorem kc_78 : KC[78]? = some (0, 17) := by decide +kernel
theorem kc_79 : KC[79]? = some (0, 16) := by decide +kernel
theorem kc_47 : KC[47]? = some (7, 3) := by decide +kernel
theorem kc_48 : KC[48]? = some (0, 1440) := by decide +kernel
theorem kc_49 : KC[49]? = some (0, 6) := by decide +kernel
theorem kc_50 : KC[50]? = some (0, 6) := by decide +kernel
theorem kc_42 : KC[42]? = some (0, 6) := by decide +kernel
theorem kc_44 : KC[44]? = some (0, 9) := by decide +kernel
theorem kc_45 : KC[45]? = some (0, 32) := by decide +kernel
theorem kc_46 : KC[46]? = some (0, 9) := by decide +kernel
theorem kc_51 : KC[51]? = some (0, 40) := by decide +kernel
theorem kc_52 : KC[52]? = some (0, 30) := by decide +kernel
theorem kc_53 : KC[53]? = some (0, 180) := by decide +kernel
theorem kc_81 : KC[81]? = some (8, 3) := by decide +kernel
theorem kc_97 : KC[97]? = some (6, 6) := by decide +kernel
theorem kc_98 : KC[98]? = some (0, 400) := by decide +kernel
theorem kc_99 : KC[99]? = some (0, 17) := by decide +kernel
theorem kc_100 : KC[100]? = some (0, 16) := by decide +kernel
theorem kc_102 : KC[102]? = some (6, 6) := by decide +kernel
theorem kc_103 : KC[103]? = some (0, 400) := by decide +kernel
theorem kc_104 : KC[104]? = some (0, 17) := by decide +kernel
theorem kc_105 : KC[105]? = some (0, 16) := by decide +kernel
theorem kc_107 : KC[107]? = some (6, 6) := by decide +kernel
theorem kc_108 : KC[108]? = some (0, 400) := by decide +kernel
theorem kc_109 : KC[109]? = some (0, 17) := by decide +kernel
theorem kc_110 : KC[110]? = some (0, 16) := by decide +kernel
theorem kc_112 : KC[112]? = some (6, 6) := by decide +kernel
theorem kc_113 : KC[113]? = some (0, 400) := by decide +kernel
theorem kc_114 : KC[114]? = some (0, 17) := by decide +kernel
theorem kc_115 : KC[115]? = some (0, 16) := by decide +kernel
theorem kc_117 : KC[117]? = some (6, 6) := by decide +kernel
theorem kc_118 : KC[118]? = some (0, 400) := by decide +kernel
theorem kc_119 : KC[119]? = some (0, 17) := by decide +kernel
theorem kc_120 : KC[120]? = some (0, 16) := by decide +kernel
theorem kc_89 : KC[89]? = some (0, 1440) := by decide +kernel
theorem kc_85 : KC[85]? = some (0, 9) := by decide +kernel
theorem kc_87 : KC[87]? = some (0, 9) := by decide +kernel
theorem q1_cb_30 : (Int8.ofInt 30).toInt32 = nI 30 := by decide +kernel
theorem kc_129 : KC[129]? = some (0, 3) := by decide +kernel
theorem q1_cs_240 : (Int16.ofInt 240).toInt32 = nI 240 := by decide +kernel
theorem km_0 : KM[0]? = some (12, 51) := by decide +kernel
theorem km_9 : KM[9]? = some (0, 240) := by decide +kernel
theorem km_12 : KM[12]? = some (1, 240) := by decide +kernel
theorem km_1 : KM[1]? = some (0, 6190) := by decide +kernel
theorem km_13 : KM[13]? = some (1, 240) := by decide +kernel
theorem q1_cb_110 : (Int8.ofInt 110).toInt32 = nI 110 := by decide +kernel
theorem km_6 : KM[6]? = some (0, 400) := by decide +kernel
theorem q1_cb_32 : (Int8.ofInt 32).toInt32 = nI 32 := by decide +kernel
theorem km_8 : KM[8]? = some (0, 12) := by decide +kernel
theorem km_19 : KM[19]? = some (0, 9) := by decide +kernel
theorem km_21 : KM[21]? = some (0, 9) := by decide +kernel
theorem km_20 : KM[20]? = some (0, 9) := by decide +kernel
theorem km_18 : KM[18]? = some (0, 4100) := by decide +kernel
theorem km_15 : KM[15]? = some (0, 8) := by decide +kernel
theorem km_24 : KM[24]? = some (0, 8) := by decide +kernel
theorem km_23 : KM[23]? = some (1, 240) := by decide +kernel
theorem q1_cs_6190 : (Int16.ofInt 6190).toInt32 = nI 6190 := by decide +kernel
theorem km_3 : KM[3]? = some (0, 6190) := by decide +kernel
theorem km_25 : KM[25]? = some (0, 6) := by decide +kernel
theorem km_17 : KM[17]? = some (0, 5440) := by decide +kernel
theorem km_2 : KM[2]? = some (0, 6190) := by decide +kernel
end
section
variable {l : Launch} {b : PB}
theorem take166 : KC.take 166 = KC := by decide +kernel
theorem takeM : KM.take 26 = KM := by decide +kernel
theorem row_none {t : List (List Nat)} {o j : Nat} (h : t.length ≤ o ∨ ∀ r ∈ t, r.length ≤ j) : (t.getD o []).getD j 999 = 999 := by
  cases hk : t[o]? with
  | none => simp [List.getD, hk]
  | some r =>
    have h2 : r.length ≤ j := by
      rcases h with h | h
      · rw [List.getElem?_eq_none h] at hk
        cases hk
      · exact h r (List.mem_of_getElem? hk)
    simp [List.getD, hk, List.getElem?_eq_none h2]
theorem GS_mem {w : List (Nat × Nat × Nat)} : ∀ {k o j r : Nat}, GSx w k o j = some r → (o, j, r) ∈ w := by
  intro k
  induction k with
  | zero => intro o j r h; cases h
  | succ k ih =>
    intro o j r h
    have h : (match w[k]? with
      | some x => updR (GSx w k) x.1 x.2.1 (some x.2.2)
      | none => GSx w k) o j = some r := h
    cases hk : w[k]? with
    | none => rw [hk] at h; exact ih h
    | some x =>
      rw [hk] at h
      have h : updR (GSx w k) x.1 x.2.1 (some x.2.2) o j = some r := h
      unfold updR at h
      by_cases ho : o = x.1
      · rw [if_pos ho] at h
        by_cases hj : j = x.2.1
        · rw [if_pos hj] at h
          have e : x = (o, j, r) := by
            rw [ho, hj, ← Option.some.inj h]
          rw [← e]
          exact List.mem_of_getElem? hk
        · rw [if_neg hj] at h; exact ih h
      · rw [if_neg ho] at h; exact ih h
theorem GS_non {w : List (Nat × Nat × Nat)} : ∀ {k o j : Nat}, GSx w k o j = none → ∀ i, i < k → ∀ x, w[i]? = some x → ¬ (x.1 = o ∧ x.2.1 = j) := by
  intro k
  induction k with
  | zero => intro o j h i hi; omega
  | succ k ih =>
    intro o j h i hi x hx hc
    have h : (match w[k]? with
      | some x => updR (GSx w k) x.1 x.2.1 (some x.2.2)
      | none => GSx w k) o j = none := h
    cases hk : w[k]? with
    | none =>
      rw [hk] at h
      by_cases e : i = k
      · rw [e, hk] at hx; cases hx
      · exact ih h i (by omega) x hx hc
    | some z =>
      rw [hk] at h
      have h : updR (GSx w k) z.1 z.2.1 (some z.2.2) o j = none := h
      unfold updR at h
      by_cases e : i = k
      · rw [e, hk] at hx
        have e2 := Option.some.inj hx
        rw [e2] at h
        rw [if_pos hc.1.symm, if_pos hc.2.symm] at h
        cases h
      · by_cases ho : o = z.1
        · rw [if_pos ho] at h
          by_cases hj : j = z.2.1
          · rw [if_pos hj] at h; cases h
          · rw [if_neg hj] at h; exact ih h i (by omega) x hx hc
        · rw [if_neg ho] at h; exact ih h i (by omega) x hx hc
theorem G_eq {w : List (Nat × Nat × Nat)} {N c k : Nat} {RX : Nat → Nat → Option Nat} (hk : w.length = k) (h1 : w.all (fun x => RX x.1 x.2.1 == some x.2.2) = true) (h3 : ((List.range N).all fun o => (List.range c).all fun j => (RX o j).isNone || w.any (fun x => x.1 == o && x.2.1 == j)) = true) (h4 : ∀ o j, N ≤ o → RX o j = none) (h5 : ∀ o j, c ≤ j → RX o j = none) : GSx w k = RX := by
  funext o j
  cases hg : GSx w k o j with
  | some r =>
    have h := List.all_eq_true.mp h1 _ (GS_mem hg)
    exact (eq_of_beq h).symm
  | none =>
    by_cases ho : o < N
    · by_cases hj : j < c
      · have h := List.all_eq_true.mp (List.all_eq_true.mp h3 o (List.mem_range.mpr ho)) j (List.mem_range.mpr hj)
        rcases Bool.or_eq_true _ _ |>.mp h with h | h
        · exact (Option.isNone_iff_eq_none.mp h).symm
        · obtain ⟨x, hx, hc⟩ := List.any_eq_true.mp h
          obtain ⟨i, hi⟩ := List.getElem?_of_mem hx
          have hc := (Bool.and_eq_true _ _).mp hc
          have hlt : i < w.length := (List.getElem?_eq_some_iff.mp hi).1
          exact absurd ⟨eq_of_beq hc.1, eq_of_beq hc.2⟩ (GS_non hg i (by omega) x hi)
      · exact (h5 o j (by omega)).symm
    · exact (h4 o j (by omega)).symm
theorem GC_eq : GSx WGc 165 = RC := by
  refine G_eq (N := 166) (c := 20) (by decide +kernel) (by decide +kernel) (by decide +kernel) (fun o j h => ?_) (fun o j h => ?_)
  · exact if_pos (row_none (Or.inl h))
  · exact if_pos (row_none (Or.inr (fun r hr => Nat.le_trans ((by decide +kernel : ∀ r ∈ RCt, r.length ≤ 20) r hr) h)))
theorem GMo_eq : GSx WGm 25 = RM := by
  refine G_eq (N := 26) (c := 60) (by decide +kernel) (by decide +kernel) (by decide +kernel) (fun o j h => ?_) (fun o j h => ?_)
  · exact if_pos (row_none (Or.inl h))
  · exact if_pos (row_none (Or.inr (fun r hr => Nat.le_trans ((by decide +kernel : ∀ r ∈ RMt, r.length ≤ 60) r hr) h)))
set_option maxRecDepth 20000 in
theorem ctor_c {K : Kont} (hg : gp b = 0) (hK : ∀ J, (∀ q, q < 160 → J q = ISx WIc 44 q) → K none (KC, J, RC)) : AW l b (rmm 14 165 25747) y_S_init K 166 25756 (KC.take 1, ISx WIc 0, GSx WGc 0) 0 [.ref 0] [] := by
  refine aw_aload_n rfl rfl d_S_init_0 ?_
  refine aw_objInit oi_S_3 oi_z.1 oi_z.2 ⟨by decide, by decide⟩ (by decide) d_S_init_1 ?_
  refine aw_aload_n rfl rfl d_S_init_4 ?_
  refine cw_new (n := 1) (ci := 2) (N := 14) (q := ("SinglesUp$Hill", zT2, 14)) rfl rfl cl_S_9 cz_2.1 cz_2.2 kc_1 (by decide +kernel) (by decide +kernel) hg (by decide) (by decide +kernel) (by decide) d_S_init_5 ?_
  refine aw_dup rfl d_S_init_8 ?_
  refine cw_callI (as := []) (d' := 13) (lf2 := 41) (sf2 := 4326) 39 4303 mo_H_init lk_S_11 rfl ⟨by decide, by decide⟩ rfl rfl (by decide) hg (by decide +kernel) (by decide +kernel) (by decide) d_S_init_9 ?_
  refine aw_aload_n rfl rfl d_H_init_0 ?_
  refine aw_objInit oi_H_3 oi_z.1 oi_z.2 ⟨by decide, by decide⟩ (by decide) d_H_init_1 ?_
  refine aw_aload_n rfl rfl d_H_init_4 ?_
  refine aw_bipush (v := nI 6) q1_cb_6 d_H_init_5 ?_
  refine cw_newa (n := 2) (N := 6) 0 .int (by simp) rfl (by decide) ca_0 kc_2 (by decide +kernel) hg (by decide) (by decide +kernel) (by decide) d_H_init_7 ?_
  refine aw_dup rfl d_H_init_9 ?_
  refine aw_iconst (v := nI 0) ci_0 d_H_init_10 ?_
  refine aw_iconst (v := nI 4) ci_4 d_H_init_11 ?_
  refine aw_iast (j := 0) (tk_at kc_2 (by decide)) (vp_in_nI (by decide) (by decide)) (nI_clamp (by decide)) d_H_init_12 ?_
  refine cw_I (k := 0) (by decide +kernel) ?_
  refine aw_dup rfl d_H_init_13 ?_
  refine aw_iconst (v := nI 1) ci_1 d_H_init_14 ?_
  refine aw_bipush (v := nI 6) q1_cb_6 d_H_init_15 ?_
  refine aw_iast (j := 1) (tk_at kc_2 (by decide)) (vp_in_nI (by decide) (by decide)) (nI_clamp (by decide)) d_H_init_17 ?_
  refine cw_I (k := 1) (by decide +kernel) ?_
  refine aw_dup rfl d_H_init_18 ?_
  refine aw_iconst (v := nI 2) ci_2 d_H_init_19 ?_
  refine aw_bipush (v := nI 40) q1_cb_40 d_H_init_20 ?_
  refine aw_iast (j := 2) (tk_at kc_2 (by decide)) (vp_in_nI (by decide) (by decide)) (nI_clamp (by decide)) d_H_init_22 ?_
  refine cw_I (k := 2) (by decide +kernel) ?_
  refine aw_dup rfl d_H_init_23 ?_
  refine aw_iconst (v := nI 3) ci_3 d_H_init_24 ?_
  refine aw_iconst (v := nI 0) ci_0 d_H_init_25 ?_
  refine aw_iast (j := 3) (tk_at kc_2 (by decide)) (vp_in_nI (by decide) (by decide)) (nI_clamp (by decide)) d_H_init_26 ?_
  refine cw_I (k := 3) (by decide +kernel) ?_
  refine aw_dup rfl d_H_init_27 ?_
  refine aw_iconst (v := nI 4) ci_4 d_H_init_28 ?_
  refine aw_iconst (v := nI 0) ci_0 d_H_init_29 ?_
  refine aw_iast (j := 4) (tk_at kc_2 (by decide)) (vp_in_nI (by decide) (by decide)) (nI_clamp (by decide)) d_H_init_30 ?_
  refine cw_I (k := 4) (by decide +kernel) ?_
  refine aw_dup rfl d_H_init_31 ?_
  refine aw_iconst (v := nI 5) ci_5 d_H_init_32 ?_
  refine aw_iconst (v := nI 0) ci_0 d_H_init_33 ?_
  refine aw_iast (j := 5) (tk_at kc_2 (by decide)) (vp_in_nI (by decide) (by decide)) (nI_clamp (by decide)) d_H_init_34 ?_
  refine cw_I (k := 5) (by decide +kernel) ?_
  refine aw_putr fp_H_9 (tk_at kc_1 (by decide)) (by decide) rfl (fun _ => rfl) (fun _ => rfl) rfl rfl d_H_init_35 ?_
  refine cw_G (g := 0) (by decide +kernel) ?_
  refine aw_aload_n rfl rfl d_H_init_38 ?_
  refine aw_iconst (v := nI 5) ci_5 d_H_init_39 ?_
  refine cw_newq (n := 3) (N := 5) rfl (by decide) cl_H_15 kc_3 (by decide +kernel) hg (by decide) (by decide +kernel) (by decide) d_H_init_40 ?_
  refine aw_putr fp_H_17 (tk_at kc_1 (by decide)) (by decide) rfl (fun _ => rfl) (fun _ => rfl) rfl rfl d_H_init_43 ?_
  refine cw_G (g := 1) (by decide +kernel) ?_
  refine aw_aload_n rfl rfl d_H_init_46 ?_
  refine aw_bipush (v := nI 9) q1_cb_9 d_H_init_47 ?_
  refine cw_newa (n := 4) (N := 9) 0 .int (by simp) rfl (by decide) ca_0 kc_4 (by decide +kernel) hg (by decide) (by decide +kernel) (by decide) d_H_init_49 ?_
  refine aw_putr fp_H_21 (tk_at kc_1 (by decide)) (by decide) rfl (fun _ => rfl) (fun _ => rfl) rfl rfl d_H_init_51 ?_
  refine cw_G (g := 2) (by decide +kernel) ?_
  refine aw_aload_n rfl rfl d_H_init_54 ?_
  refine aw_bipush (v := nI 32) q1_cb_32 d_H_init_55 ?_
  refine cw_newa (n := 5) (N := 32) 0 .int (by simp) rfl (by decide) ca_0 kc_5 (by decide +kernel) hg (by decide) (by decide +kernel) (by decide) d_H_init_57 ?_
  refine aw_putr fp_H_24 (tk_at kc_1 (by decide)) (by decide) rfl (fun _ => rfl) (fun _ => rfl) rfl rfl d_H_init_59 ?_
  refine cw_G (g := 3) (by decide +kernel) ?_
  refine aw_aload_n rfl rfl d_H_init_62 ?_
  refine aw_bipush (v := nI 9) q1_cb_9 d_H_init_63 ?_
  refine cw_newa (n := 6) (N := 9) 0 .int (by simp) rfl (by decide) ca_0 kc_6 (by decide +kernel) hg (by decide) (by decide +kernel) (by decide) d_H_init_65 ?_
  refine aw_putr fp_H_27 (tk_at kc_1 (by decide)) (by decide) rfl (fun _ => rfl) (fun _ => rfl) rfl rfl d_H_init_67 ?_
  refine cw_G (g := 4) (by decide +kernel) ?_
  refine aw_aload_n rfl rfl d_H_init_70 ?_
  refine cw_new (n := 7) (ci := 4) (N := 3) (q := ("SinglesUp$Lines", zT4, 3)) rfl rfl cl_H_30 cz_4.1 cz_4.2 kc_7 (by decide +kernel) (by decide +kernel) hg (by decide) (by decide +kernel) (by decide) d_H_init_71 ?_
  refine aw_dup rfl d_H_init_74 ?_
  refine cw_callI (as := []) (d' := 12) (lf2 := 11) (sf2 := 1539) 3 1452 mo_L_init lk_H_32 rfl ⟨by decide, by decide⟩ rfl rfl (by decide) hg (by decide +kernel) (by decide +kernel) (by decide) d_H_init_75 ?_
  refine aw_aload_n rfl rfl d_L_init_0 ?_
  refine aw_objInit oi_L_3 oi_z.1 oi_z.2 ⟨by decide, by decide⟩ (by decide) d_L_init_1 ?_
  refine aw_aload_n rfl rfl d_L_init_4 ?_
  refine aw_sipush (v := nI 1440) cs_1440 d_L_init_5 ?_
  refine cw_newa (n := 8) (N := 1440) 0 .int (by simp) rfl (by decide) ca_0 kc_8 (by decide +kernel) hg (by decide) (by decide +kernel) (by decide) d_L_init_8 ?_
  refine aw_putr fp_L_9 (tk_at kc_7 (by decide)) (by decide) rfl (fun _ => rfl) (fun _ => rfl) rfl rfl d_L_init_10 ?_
  refine cw_G (g := 5) (by decide +kernel) ?_
  refine aw_aload_n rfl rfl d_L_init_13 ?_
  refine aw_bipush (v := nI 6) q1_cb_6 d_L_init_14 ?_
  refine cw_newa (n := 9) (N := 6) 0 .int (by simp) rfl (by decide) ca_0 kc_9 (by decide +kernel) hg (by decide) (by decide +kernel) (by decide) d_L_init_16 ?_
  refine aw_putr fp_L_15 (tk_at kc_7 (by decide)) (by decide) rfl (fun _ => rfl) (fun _ => rfl) rfl rfl d_L_init_18 ?_
  refine cw_G (g := 6) (by decide +kernel) ?_
  refine aw_aload_n rfl rfl d_L_init_21 ?_
  refine aw_bipush (v := nI 6) q1_cb_6 d_L_init_22 ?_
  refine cw_newa (n := 10) (N := 6) 0 .int (by simp) rfl (by decide) ca_0 kc_10 (by decide +kernel) hg (by decide) (by decide +kernel) (by decide) d_L_init_24 ?_
  refine aw_putr fp_L_18 (tk_at kc_7 (by decide)) (by decide) rfl (fun _ => rfl) (fun _ => rfl) rfl rfl d_L_init_26 ?_
  refine cw_G (g := 7) (by decide +kernel) ?_
  refine aw_aload_n rfl rfl d_L_init_29 ?_
  refine aw_getr fl_L_18 (tk_at kc_7 (by decide)) (by decide) rfl (r := 10) (by decide +kernel) d_L_init_30 ?_
  refine aw_bipush (v := nI 9) q1_cb_9 d_L_init_33 ?_
  refine cw_callS (as := [.ref 10, .int (nI 9)]) (d' := 11) (lf2 := 11) (sf2 := 1539) 0 0 mo_JA_fill lk_L_21 rfl ⟨by decide, by decide⟩ rfl rfl (by decide) hg (by decide +kernel) (by decide +kernel) (by decide) d_L_init_35 ?_
  refine aw_iconst (v := nI 0) ci_0 d_JA_fill_0 ?_
  refine aw_istore_n (lv2 := [.ref 10, .int (nI 9), .int (nI 0), uu]) rfl (by decide) rfl d_JA_fill_1 ?_
  refine aw_aload_n rfl rfl d_JA_fill_2 ?_
  refine aw_alen (tk_at kc_10 (by decide)) (by decide) d_JA_fill_3 ?_
  refine aw_istore_n (lv2 := [.ref 10, .int (nI 9), .int (nI 0), .int (nI 6)]) rfl (by decide) rfl d_JA_fill_4 ?_
  refine aw_iload_n rfl rfl d_JA_fill_5 ?_
  refine aw_iload_n rfl rfl d_JA_fill_6 ?_
  refine aw_icmp_geI (tgt := 20) (0) (6) (by decide +kernel) (by decide +kernel) (by decide) d_JA_fill_7 (fun q => absurd q (by decide)) (fun _ => ?_)
  refine aw_aload_n rfl rfl d_JA_fill_10 ?_
  refine aw_iload_n rfl rfl d_JA_fill_11 ?_
  refine aw_iload_n rfl rfl d_JA_fill_12 ?_
  refine aw_iast (j := 0) (tk_at kc_10 (by decide)) (vp_in_nI (by decide) (by decide)) (nI_clamp (by decide)) d_JA_fill_13 ?_
  refine cw_I (k := 6) (by decide +kernel) ?_
  refine aw_iinc (v := nI 1) (lv2 := [.ref 10, .int (nI 9), .int (nI 1), .int (nI 6)]) rfl (by decide +kernel) (by decide) rfl d_JA_fill_14 ?_
  refine aw_goto (tgt := 5) (by decide) d_JA_fill_17 ?_
  refine aw_iload_n rfl rfl d_JA_fill_5 ?_
  refine aw_iload_n rfl rfl d_JA_fill_6 ?_
  refine aw_icmp_geI (tgt := 20) (1) (6) (by decide +kernel) (by decide +kernel) (by decide) d_JA_fill_7 (fun q => absurd q (by decide)) (fun _ => ?_)
  refine aw_aload_n rfl rfl d_JA_fill_10 ?_
  refine aw_iload_n rfl rfl d_JA_fill_11 ?_
  refine aw_iload_n rfl rfl d_JA_fill_12 ?_
  refine aw_iast (j := 1) (tk_at kc_10 (by decide)) (vp_in_nI (by decide) (by decide)) (nI_clamp (by decide)) d_JA_fill_13 ?_
  refine cw_I (k := 7) (by decide +kernel) ?_
  refine aw_iinc (v := nI 2) (lv2 := [.ref 10, .int (nI 9), .int (nI 2), .int (nI 6)]) rfl (by decide +kernel) (by decide) rfl d_JA_fill_14 ?_
  refine aw_goto (tgt := 5) (by decide) d_JA_fill_17 ?_
  refine aw_iload_n rfl rfl d_JA_fill_5 ?_
  refine aw_iload_n rfl rfl d_JA_fill_6 ?_
  refine aw_icmp_geI (tgt := 20) (2) (6) (by decide +kernel) (by decide +kernel) (by decide) d_JA_fill_7 (fun q => absurd q (by decide)) (fun _ => ?_)
  refine aw_aload_n rfl rfl d_JA_fill_10 ?_
  refine aw_iload_n rfl rfl d_JA_fill_11 ?_
  refine aw_iload_n rfl rfl d_JA_fill_12 ?_
  refine aw_iast (j := 2) (tk_at kc_10 (by decide)) (vp_in_nI (by decide) (by decide)) (nI_clamp (by decide)) d_JA_fill_13 ?_
  refine cw_I (k := 8) (by decide +kernel) ?_
  refine aw_iinc (v := nI 3) (lv2 := [.ref 10, .int (nI 9), .int (nI 3), .int (nI 6)]) rfl (by decide +kernel) (by decide) rfl d_JA_fill_14 ?_
  refine aw_goto (tgt := 5) (by decide) d_JA_fill_17 ?_
  refine aw_iload_n rfl rfl d_JA_fill_5 ?_
  refine aw_iload_n rfl rfl d_JA_fill_6 ?_
  refine aw_icmp_geI (tgt := 20) (3) (6) (by decide +kernel) (by decide +kernel) (by decide) d_JA_fill_7 (fun q => absurd q (by decide)) (fun _ => ?_)
  refine aw_aload_n rfl rfl d_JA_fill_10 ?_
  refine aw_iload_n rfl rfl d_JA_fill_11 ?_
  refine aw_iload_n rfl rfl d_JA_fill_12 ?_
  refine aw_iast (j := 3) (tk_at kc_10 (by decide)) (vp_in_nI (by decide) (by decide)) (nI_clamp (by decide)) d_JA_fill_13 ?_
  refine cw_I (k := 9) (by decide +kernel) ?_
  refine aw_iinc (v := nI 4) (lv2 := [.ref 10, .int (nI 9), .int (nI 4), .int (nI 6)]) rfl (by decide +kernel) (by decide) rfl d_JA_fill_14 ?_
  refine aw_goto (tgt := 5) (by decide) d_JA_fill_17 ?_
  refine aw_iload_n rfl rfl d_JA_fill_5 ?_
  refine aw_iload_n rfl rfl d_JA_fill_6 ?_
  refine aw_icmp_geI (tgt := 20) (4) (6) (by decide +kernel) (by decide +kernel) (by decide) d_JA_fill_7 (fun q => absurd q (by decide)) (fun _ => ?_)
  refine aw_aload_n rfl rfl d_JA_fill_10 ?_
  refine aw_iload_n rfl rfl d_JA_fill_11 ?_
  refine aw_iload_n rfl rfl d_JA_fill_12 ?_
  refine aw_iast (j := 4) (tk_at kc_10 (by decide)) (vp_in_nI (by decide) (by decide)) (nI_clamp (by decide)) d_JA_fill_13 ?_
  refine cw_I (k := 10) (by decide +kernel) ?_
  refine aw_iinc (v := nI 5) (lv2 := [.ref 10, .int (nI 9), .int (nI 5), .int (nI 6)]) rfl (by decide +kernel) (by decide) rfl d_JA_fill_14 ?_
  refine aw_goto (tgt := 5) (by decide) d_JA_fill_17 ?_
  refine aw_iload_n rfl rfl d_JA_fill_5 ?_
  refine aw_iload_n rfl rfl d_JA_fill_6 ?_
  refine aw_icmp_geI (tgt := 20) (5) (6) (by decide +kernel) (by decide +kernel) (by decide) d_JA_fill_7 (fun q => absurd q (by decide)) (fun _ => ?_)
  refine aw_aload_n rfl rfl d_JA_fill_10 ?_
  refine aw_iload_n rfl rfl d_JA_fill_11 ?_
  refine aw_iload_n rfl rfl d_JA_fill_12 ?_
  refine aw_iast (j := 5) (tk_at kc_10 (by decide)) (vp_in_nI (by decide) (by decide)) (nI_clamp (by decide)) d_JA_fill_13 ?_
  refine cw_I (k := 11) (by decide +kernel) ?_
  refine aw_iinc (v := nI 6) (lv2 := [.ref 10, .int (nI 9), .int (nI 6), .int (nI 6)]) rfl (by decide +kernel) (by decide) rfl d_JA_fill_14 ?_
  refine aw_goto (tgt := 5) (by decide) d_JA_fill_17 ?_
  refine aw_iload_n rfl rfl d_JA_fill_5 ?_
  refine aw_iload_n rfl rfl d_JA_fill_6 ?_
  refine aw_icmp_geI (tgt := 20) (6) (6) (by decide +kernel) (by decide +kernel) (by decide) d_JA_fill_7 (fun _ => ?_) (fun q => absurd q (by decide))
  refine cw_retv rfl d_JA_fill_20 (by decide +kernel) (by decide +kernel) ?_
  refine cw_retv rfl d_L_init_38 (by decide +kernel) (by decide +kernel) ?_
  refine aw_putr fp_H_33 (tk_at kc_1 (by decide)) (by decide) rfl (fun _ => rfl) (fun _ => rfl) rfl rfl d_H_init_78 ?_
  refine cw_G (g := 8) (by decide +kernel) ?_
  refine aw_aload_n rfl rfl d_H_init_81 ?_
  refine aw_bipush (v := nI 40) q1_cb_40 d_H_init_82 ?_
  refine cw_newa (n := 11) (N := 40) 0 .int (by simp) rfl (by decide) ca_0 kc_11 (by decide +kernel) hg (by decide) (by decide +kernel) (by decide) d_H_init_84 ?_
  refine aw_putr fp_H_37 (tk_at kc_1 (by decide)) (by decide) rfl (fun _ => rfl) (fun _ => rfl) rfl rfl d_H_init_86 ?_
  refine cw_G (g := 9) (by decide +kernel) ?_
  refine aw_aload_n rfl rfl d_H_init_89 ?_
  refine aw_bipush (v := nI 30) q1_cb_30 d_H_init_90 ?_
  refine cw_newa (n := 12) (N := 30) 0 .int (by simp) rfl (by decide) ca_0 kc_12 (by decide +kernel) hg (by decide) (by decide +kernel) (by decide) d_H_init_92 ?_
  refine aw_putr fp_H_40 (tk_at kc_1 (by decide)) (by decide) rfl (fun _ => rfl) (fun _ => rfl) rfl rfl d_H_init_94 ?_
  refine cw_G (g := 10) (by decide +kernel) ?_
  refine aw_aload_n rfl rfl d_H_init_97 ?_
  refine aw_sipush (v := nI 180) cs_180 d_H_init_98 ?_
  refine cw_newa (n := 13) (N := 180) 0 .int (by simp) rfl (by decide) ca_0 kc_13 (by decide +kernel) hg (by decide) (by decide +kernel) (by decide) d_H_init_101 ?_
  refine aw_putr fp_H_43 (tk_at kc_1 (by decide)) (by decide) rfl (fun _ => rfl) (fun _ => rfl) rfl rfl d_H_init_103 ?_
  refine cw_G (g := 11) (by decide +kernel) ?_
  refine aw_aload_n rfl rfl d_H_init_106 ?_
  refine aw_iconst (v := (-1 : Int32)) rfl d_H_init_107 ?_
  refine aw_puti fl_H_46 (tk_at kc_1 (by decide)) (by decide) rfl rfl rfl rfl d_H_init_108 ?_
  refine cw_I (k := 12) (by decide +kernel) ?_
  refine aw_aload_n rfl rfl d_H_init_111 ?_
  refine aw_bipush (v := nI 16) q1_cb_16 d_H_init_112 ?_
  refine cw_newa (n := 14) (N := 16) 0 .int (by simp) rfl (by decide) ca_0 kc_14 (by decide +kernel) hg (by decide) (by decide +kernel) (by decide) d_H_init_114 ?_
  refine aw_putr fp_H_50 (tk_at kc_1 (by decide)) (by decide) rfl (fun _ => rfl) (fun _ => rfl) rfl rfl d_H_init_116 ?_
  refine cw_G (g := 12) (by decide +kernel) ?_
  refine aw_aload_n rfl rfl d_H_init_119 ?_
  refine aw_bipush (v := nI 6) q1_cb_6 d_H_init_120 ?_
  refine cw_newa (n := 15) (N := 6) 0 .int (by simp) rfl (by decide) ca_0 kc_15 (by decide +kernel) hg (by decide) (by decide +kernel) (by decide) d_H_init_122 ?_
  refine aw_putr fp_H_53 (tk_at kc_1 (by decide)) (by decide) rfl (fun _ => rfl) (fun _ => rfl) rfl rfl d_H_init_124 ?_
  refine cw_G (g := 13) (by decide +kernel) ?_
  refine aw_iconst (v := nI 0) ci_0 d_H_init_127 ?_
  refine aw_istore_n (lv2 := [.ref 1, .int (nI 0)]) rfl (by decide) rfl d_H_init_128 ?_
  refine aw_iload_n rfl rfl d_H_init_129 ?_
  refine aw_aload_n rfl rfl d_H_init_130 ?_
  refine aw_getr fl_H_17 (tk_at kc_1 (by decide)) (by decide) rfl (r := 3) (by decide +kernel) d_H_init_131 ?_
  refine aw_alen (tk_at kc_3 (by decide)) (by decide) d_H_init_134 ?_
  refine aw_icmp_geI (tgt := 157) (0) (5) (by decide +kernel) (by decide +kernel) (by decide) d_H_init_135 (fun q => absurd q (by decide)) (fun _ => ?_)
  refine aw_aload_n rfl rfl d_H_init_138 ?_
  refine aw_getr fl_H_17 (tk_at kc_1 (by decide)) (by decide) rfl (r := 3) (by decide +kernel) d_H_init_139 ?_
  refine aw_iload_n rfl rfl d_H_init_142 ?_
  refine cw_new (n := 16) (ci := 3) (N := 6) (q := ("SinglesUp$Law", zT3, 6)) rfl rfl cl_H_15 cz_3.1 cz_3.2 kc_16 (by decide +kernel) (by decide +kernel) hg (by decide) (by decide +kernel) (by decide) d_H_init_143 ?_
  refine aw_dup rfl d_H_init_146 ?_
  refine cw_callI (as := []) (d' := 12) (lf2 := 21) (sf2 := 2314) 4 497 mo_W_init lk_H_56 rfl ⟨by decide, by decide⟩ rfl rfl (by decide) hg (by decide +kernel) (by decide +kernel) (by decide) d_H_init_147 ?_
  refine aw_aload_n rfl rfl d_W_init_0 ?_
  refine aw_objInit oi_W_1 oi_z.1 oi_z.2 ⟨by decide, by decide⟩ (by decide) d_W_init_1 ?_
  refine aw_aload_n rfl rfl d_W_init_4 ?_
  refine aw_sipush (v := nI 400) q1_cs_400 d_W_init_5 ?_
  refine cw_newa (n := 17) (N := 400) 0 .int (by simp) rfl (by decide) ca_0 kc_17 (by decide +kernel) hg (by decide) (by decide +kernel) (by decide) d_W_init_8 ?_
  refine aw_putr fp_W_9 (tk_at kc_16 (by decide)) (by decide) rfl (fun _ => rfl) (fun _ => rfl) rfl rfl d_W_init_10 ?_
  refine cw_G (g := 14) (by decide +kernel) ?_
  refine aw_aload_n rfl rfl d_W_init_13 ?_
  refine aw_bipush (v := nI 17) q1_cb_17 d_W_init_14 ?_
  refine cw_newa (n := 18) (N := 17) 0 .int (by simp) rfl (by decide) ca_0 kc_18 (by decide +kernel) hg (by decide) (by decide +kernel) (by decide) d_W_init_16 ?_
  refine aw_putr fp_W_13 (tk_at kc_16 (by decide)) (by decide) rfl (fun _ => rfl) (fun _ => rfl) rfl rfl d_W_init_18 ?_
  refine cw_G (g := 15) (by decide +kernel) ?_
  refine aw_aload_n rfl rfl d_W_init_21 ?_
  refine aw_bipush (v := nI 16) q1_cb_16 d_W_init_22 ?_
  refine cw_newa (n := 19) (N := 16) 0 .int (by simp) rfl (by decide) ca_0 kc_19 (by decide +kernel) hg (by decide) (by decide +kernel) (by decide) d_W_init_24 ?_
  refine aw_putr fp_W_16 (tk_at kc_16 (by decide)) (by decide) rfl (fun _ => rfl) (fun _ => rfl) rfl rfl d_W_init_26 ?_
  refine cw_G (g := 16) (by decide +kernel) ?_
  refine aw_aload_n rfl rfl d_W_init_29 ?_
  refine aw_bipush (v := nI 64) cb_64 d_W_init_30 ?_
  refine cw_newa (n := 20) (N := 64) 0 .int (by simp) rfl (by decide) ca_0 kc_20 (by decide +kernel) hg (by decide) (by decide +kernel) (by decide) d_W_init_32 ?_
  refine aw_putr fp_W_19 (tk_at kc_16 (by decide)) (by decide) rfl (fun _ => rfl) (fun _ => rfl) rfl rfl d_W_init_34 ?_
  refine cw_G (g := 17) (by decide +kernel) ?_
  refine cw_retv rfl d_W_init_37 (by decide +kernel) (by decide +kernel) ?_
  refine aw_aast (j := 0) (ci := 3) (q := ("SinglesUp$Law", zT3, 6)) (tk_at kc_3 (by decide)) (vp_in_nI (by decide) (by decide)) (nI_clamp (by decide)) (tk_at kc_16 (by decide)) rfl rfl d_H_init_150 ?_
  refine cw_G (g := 18) (by decide +kernel) ?_
  refine aw_iinc (v := nI 1) (lv2 := [.ref 1, .int (nI 1)]) rfl (by decide +kernel) (by decide) rfl d_H_init_151 ?_
  refine aw_goto (tgt := 129) (by decide) d_H_init_154 ?_
  refine aw_iload_n rfl rfl d_H_init_129 ?_
  refine aw_aload_n rfl rfl d_H_init_130 ?_
  refine aw_getr fl_H_17 (tk_at kc_1 (by decide)) (by decide) rfl (r := 3) (by decide +kernel) d_H_init_131 ?_
  refine aw_alen (tk_at kc_3 (by decide)) (by decide) d_H_init_134 ?_
  refine aw_icmp_geI (tgt := 157) (1) (5) (by decide +kernel) (by decide +kernel) (by decide) d_H_init_135 (fun q => absurd q (by decide)) (fun _ => ?_)
  refine aw_aload_n rfl rfl d_H_init_138 ?_
  refine aw_getr fl_H_17 (tk_at kc_1 (by decide)) (by decide) rfl (r := 3) (by decide +kernel) d_H_init_139 ?_
  refine aw_iload_n rfl rfl d_H_init_142 ?_
  refine cw_new (n := 21) (ci := 3) (N := 6) (q := ("SinglesUp$Law", zT3, 6)) rfl rfl cl_H_15 cz_3.1 cz_3.2 kc_21 (by decide +kernel) (by decide +kernel) hg (by decide) (by decide +kernel) (by decide) d_H_init_143 ?_
  refine aw_dup rfl d_H_init_146 ?_
  refine cw_callI (as := []) (d' := 12) (lf2 := 26) (sf2 := 2817) 4 497 mo_W_init lk_H_56 rfl ⟨by decide, by decide⟩ rfl rfl (by decide) hg (by decide +kernel) (by decide +kernel) (by decide) d_H_init_147 ?_
  refine aw_aload_n rfl rfl d_W_init_0 ?_
  refine aw_objInit oi_W_1 oi_z.1 oi_z.2 ⟨by decide, by decide⟩ (by decide) d_W_init_1 ?_
  refine aw_aload_n rfl rfl d_W_init_4 ?_
  refine aw_sipush (v := nI 400) q1_cs_400 d_W_init_5 ?_
  refine cw_newa (n := 22) (N := 400) 0 .int (by simp) rfl (by decide) ca_0 kc_22 (by decide +kernel) hg (by decide) (by decide +kernel) (by decide) d_W_init_8 ?_
  refine aw_putr fp_W_9 (tk_at kc_21 (by decide)) (by decide) rfl (fun _ => rfl) (fun _ => rfl) rfl rfl d_W_init_10 ?_
  refine cw_G (g := 19) (by decide +kernel) ?_
  refine aw_aload_n rfl rfl d_W_init_13 ?_
  refine aw_bipush (v := nI 17) q1_cb_17 d_W_init_14 ?_
  refine cw_newa (n := 23) (N := 17) 0 .int (by simp) rfl (by decide) ca_0 kc_23 (by decide +kernel) hg (by decide) (by decide +kernel) (by decide) d_W_init_16 ?_
  refine aw_putr fp_W_13 (tk_at kc_21 (by decide)) (by decide) rfl (fun _ => rfl) (fun _ => rfl) rfl rfl d_W_init_18 ?_
  refine cw_G (g := 20) (by decide +kernel) ?_
  refine aw_aload_n rfl rfl d_W_init_21 ?_
  refine aw_bipush (v := nI 16) q1_cb_16 d_W_init_22 ?_
  refine cw_newa (n := 24) (N := 16) 0 .int (by simp) rfl (by decide) ca_0 kc_24 (by decide +kernel) hg (by decide) (by decide +kernel) (by decide) d_W_init_24 ?_
  refine aw_putr fp_W_16 (tk_at kc_21 (by decide)) (by decide) rfl (fun _ => rfl) (fun _ => rfl) rfl rfl d_W_init_26 ?_
  refine cw_G (g := 21) (by decide +kernel) ?_
  refine aw_aload_n rfl rfl d_W_init_29 ?_
  refine aw_bipush (v := nI 64) cb_64 d_W_init_30 ?_
  refine cw_newa (n := 25) (N := 64) 0 .int (by simp) rfl (by decide) ca_0 kc_25 (by decide +kernel) hg (by decide) (by decide +kernel) (by decide) d_W_init_32 ?_
  refine aw_putr fp_W_19 (tk_at kc_21 (by decide)) (by decide) rfl (fun _ => rfl) (fun _ => rfl) rfl rfl d_W_init_34 ?_
  refine cw_G (g := 22) (by decide +kernel) ?_
  refine cw_retv rfl d_W_init_37 (by decide +kernel) (by decide +kernel) ?_
  refine aw_aast (j := 1) (ci := 3) (q := ("SinglesUp$Law", zT3, 6)) (tk_at kc_3 (by decide)) (vp_in_nI (by decide) (by decide)) (nI_clamp (by decide)) (tk_at kc_21 (by decide)) rfl rfl d_H_init_150 ?_
  refine cw_G (g := 23) (by decide +kernel) ?_
  refine aw_iinc (v := nI 2) (lv2 := [.ref 1, .int (nI 2)]) rfl (by decide +kernel) (by decide) rfl d_H_init_151 ?_
  refine aw_goto (tgt := 129) (by decide) d_H_init_154 ?_
  refine aw_iload_n rfl rfl d_H_init_129 ?_
  refine aw_aload_n rfl rfl d_H_init_130 ?_
  refine aw_getr fl_H_17 (tk_at kc_1 (by decide)) (by decide) rfl (r := 3) (by decide +kernel) d_H_init_131 ?_
  refine aw_alen (tk_at kc_3 (by decide)) (by decide) d_H_init_134 ?_
  refine aw_icmp_geI (tgt := 157) (2) (5) (by decide +kernel) (by decide +kernel) (by decide) d_H_init_135 (fun q => absurd q (by decide)) (fun _ => ?_)
  refine aw_aload_n rfl rfl d_H_init_138 ?_
  refine aw_getr fl_H_17 (tk_at kc_1 (by decide)) (by decide) rfl (r := 3) (by decide +kernel) d_H_init_139 ?_
  refine aw_iload_n rfl rfl d_H_init_142 ?_
  refine cw_new (n := 26) (ci := 3) (N := 6) (q := ("SinglesUp$Law", zT3, 6)) rfl rfl cl_H_15 cz_3.1 cz_3.2 kc_26 (by decide +kernel) (by decide +kernel) hg (by decide) (by decide +kernel) (by decide) d_H_init_143 ?_
  refine aw_dup rfl d_H_init_146 ?_
  refine cw_callI (as := []) (d' := 12) (lf2 := 31) (sf2 := 3320) 4 497 mo_W_init lk_H_56 rfl ⟨by decide, by decide⟩ rfl rfl (by decide) hg (by decide +kernel) (by decide +kernel) (by decide) d_H_init_147 ?_
  refine aw_aload_n rfl rfl d_W_init_0 ?_
  refine aw_objInit oi_W_1 oi_z.1 oi_z.2 ⟨by decide, by decide⟩ (by decide) d_W_init_1 ?_
  refine aw_aload_n rfl rfl d_W_init_4 ?_
  refine aw_sipush (v := nI 400) q1_cs_400 d_W_init_5 ?_
  refine cw_newa (n := 27) (N := 400) 0 .int (by simp) rfl (by decide) ca_0 kc_27 (by decide +kernel) hg (by decide) (by decide +kernel) (by decide) d_W_init_8 ?_
  refine aw_putr fp_W_9 (tk_at kc_26 (by decide)) (by decide) rfl (fun _ => rfl) (fun _ => rfl) rfl rfl d_W_init_10 ?_
  refine cw_G (g := 24) (by decide +kernel) ?_
  refine aw_aload_n rfl rfl d_W_init_13 ?_
  refine aw_bipush (v := nI 17) q1_cb_17 d_W_init_14 ?_
  refine cw_newa (n := 28) (N := 17) 0 .int (by simp) rfl (by decide) ca_0 kc_28 (by decide +kernel) hg (by decide) (by decide +kernel) (by decide) d_W_init_16 ?_
  refine aw_putr fp_W_13 (tk_at kc_26 (by decide)) (by decide) rfl (fun _ => rfl) (fun _ => rfl) rfl rfl d_W_init_18 ?_
  refine cw_G (g := 25) (by decide +kernel) ?_
  refine aw_aload_n rfl rfl d_W_init_21 ?_
  refine aw_bipush (v := nI 16) q1_cb_16 d_W_init_22 ?_
  refine cw_newa (n := 29) (N := 16) 0 .int (by simp) rfl (by decide) ca_0 kc_29 (by decide +kernel) hg (by decide) (by decide +kernel) (by decide) d_W_init_24 ?_
  refine aw_putr fp_W_16 (tk_at kc_26 (by decide)) (by decide) rfl (fun _ => rfl) (fun _ => rfl) rfl rfl d_W_init_26 ?_
  refine cw_G (g := 26) (by decide +kernel) ?_
  refine aw_aload_n rfl rfl d_W_init_29 ?_
  refine aw_bipush (v := nI 64) cb_64 d_W_init_30 ?_
  refine cw_newa (n := 30) (N := 64) 0 .int (by simp) rfl (by decide) ca_0 kc_30 (by decide +kernel) hg (by decide) (by decide +kernel) (by decide) d_W_init_32 ?_
  refine aw_putr fp_W_19 (tk_at kc_26 (by decide)) (by decide) rfl (fun _ => rfl) (fun _ => rfl) rfl rfl d_W_init_34 ?_
  refine cw_G (g := 27) (by decide +kernel) ?_
  refine cw_retv rfl d_W_init_37 (by decide +kernel) (by decide +kernel) ?_
  refine aw_aast (j := 2) (ci := 3) (q := ("SinglesUp$Law", zT3, 6)) (tk_at kc_3 (by decide)) (vp_in_nI (by decide) (by decide)) (nI_clamp (by decide)) (tk_at kc_26 (by decide)) rfl rfl d_H_init_150 ?_
  refine cw_G (g := 28) (by decide +kernel) ?_
  refine aw_iinc (v := nI 3) (lv2 := [.ref 1, .int (nI 3)]) rfl (by decide +kernel) (by decide) rfl d_H_init_151 ?_
  refine aw_goto (tgt := 129) (by decide) d_H_init_154 ?_
  refine aw_iload_n rfl rfl d_H_init_129 ?_
  refine aw_aload_n rfl rfl d_H_init_130 ?_
  refine aw_getr fl_H_17 (tk_at kc_1 (by decide)) (by decide) rfl (r := 3) (by decide +kernel) d_H_init_131 ?_
  refine aw_alen (tk_at kc_3 (by decide)) (by decide) d_H_init_134 ?_
  refine aw_icmp_geI (tgt := 157) (3) (5) (by decide +kernel) (by decide +kernel) (by decide) d_H_init_135 (fun q => absurd q (by decide)) (fun _ => ?_)
  refine aw_aload_n rfl rfl d_H_init_138 ?_
  refine aw_getr fl_H_17 (tk_at kc_1 (by decide)) (by decide) rfl (r := 3) (by decide +kernel) d_H_init_139 ?_
  refine aw_iload_n rfl rfl d_H_init_142 ?_
  refine cw_new (n := 31) (ci := 3) (N := 6) (q := ("SinglesUp$Law", zT3, 6)) rfl rfl cl_H_15 cz_3.1 cz_3.2 kc_31 (by decide +kernel) (by decide +kernel) hg (by decide) (by decide +kernel) (by decide) d_H_init_143 ?_
  refine aw_dup rfl d_H_init_146 ?_
  refine cw_callI (as := []) (d' := 12) (lf2 := 36) (sf2 := 3823) 4 497 mo_W_init lk_H_56 rfl ⟨by decide, by decide⟩ rfl rfl (by decide) hg (by decide +kernel) (by decide +kernel) (by decide) d_H_init_147 ?_
  refine aw_aload_n rfl rfl d_W_init_0 ?_
  refine aw_objInit oi_W_1 oi_z.1 oi_z.2 ⟨by decide, by decide⟩ (by decide) d_W_init_1 ?_
  refine aw_aload_n rfl rfl d_W_init_4 ?_
  refine aw_sipush (v := nI 400) q1_cs_400 d_W_init_5 ?_
  refine cw_newa (n := 32) (N := 400) 0 .int (by simp) rfl (by decide) ca_0 kc_32 (by decide +kernel) hg (by decide) (by decide +kernel) (by decide) d_W_init_8 ?_
  refine aw_putr fp_W_9 (tk_at kc_31 (by decide)) (by decide) rfl (fun _ => rfl) (fun _ => rfl) rfl rfl d_W_init_10 ?_
  refine cw_G (g := 29) (by decide +kernel) ?_
  refine aw_aload_n rfl rfl d_W_init_13 ?_
  refine aw_bipush (v := nI 17) q1_cb_17 d_W_init_14 ?_
  refine cw_newa (n := 33) (N := 17) 0 .int (by simp) rfl (by decide) ca_0 kc_33 (by decide +kernel) hg (by decide) (by decide +kernel) (by decide) d_W_init_16 ?_
  refine aw_putr fp_W_13 (tk_at kc_31 (by decide)) (by decide) rfl (fun _ => rfl) (fun _ => rfl) rfl rfl d_W_init_18 ?_
  refine cw_G (g := 30) (by decide +kernel) ?_
  refine aw_aload_n rfl rfl d_W_init_21 ?_
  refine aw_bipush (v := nI 16) q1_cb_16 d_W_init_22 ?_
  refine cw_newa (n := 34) (N := 16) 0 .int (by simp) rfl (by decide) ca_0 kc_34 (by decide +kernel) hg (by decide) (by decide +kernel) (by decide) d_W_init_24 ?_
  refine aw_putr fp_W_16 (tk_at kc_31 (by decide)) (by decide) rfl (fun _ => rfl) (fun _ => rfl) rfl rfl d_W_init_26 ?_
  refine cw_G (g := 31) (by decide +kernel) ?_
  refine aw_aload_n rfl rfl d_W_init_29 ?_
  refine aw_bipush (v := nI 64) cb_64 d_W_init_30 ?_
  refine cw_newa (n := 35) (N := 64) 0 .int (by simp) rfl (by decide) ca_0 kc_35 (by decide +kernel) hg (by decide) (by decide +kernel) (by decide) d_W_init_32 ?_
  refine aw_putr fp_W_19 (tk_at kc_31 (by decide)) (by decide) rfl (fun _ => rfl) (fun _ => rfl) rfl rfl d_W_init_34 ?_
  refine cw_G (g := 32) (by decide +kernel) ?_
  refine cw_retv rfl d_W_init_37 (by decide +kernel) (by decide +kernel) ?_
  refine aw_aast (j := 3) (ci := 3) (q := ("SinglesUp$Law", zT3, 6)) (tk_at kc_3 (by decide)) (vp_in_nI (by decide) (by decide)) (nI_clamp (by decide)) (tk_at kc_31 (by decide)) rfl rfl d_H_init_150 ?_
  refine cw_G (g := 33) (by decide +kernel) ?_
  refine aw_iinc (v := nI 4) (lv2 := [.ref 1, .int (nI 4)]) rfl (by decide +kernel) (by decide) rfl d_H_init_151 ?_
  refine aw_goto (tgt := 129) (by decide) d_H_init_154 ?_
  refine aw_iload_n rfl rfl d_H_init_129 ?_
  refine aw_aload_n rfl rfl d_H_init_130 ?_
  refine aw_getr fl_H_17 (tk_at kc_1 (by decide)) (by decide) rfl (r := 3) (by decide +kernel) d_H_init_131 ?_
  refine aw_alen (tk_at kc_3 (by decide)) (by decide) d_H_init_134 ?_
  refine aw_icmp_geI (tgt := 157) (4) (5) (by decide +kernel) (by decide +kernel) (by decide) d_H_init_135 (fun q => absurd q (by decide)) (fun _ => ?_)
  refine aw_aload_n rfl rfl d_H_init_138 ?_
  refine aw_getr fl_H_17 (tk_at kc_1 (by decide)) (by decide) rfl (r := 3) (by decide +kernel) d_H_init_139 ?_
  refine aw_iload_n rfl rfl d_H_init_142 ?_
  refine cw_new (n := 36) (ci := 3) (N := 6) (q := ("SinglesUp$Law", zT3, 6)) rfl rfl cl_H_15 cz_3.1 cz_3.2 kc_36 (by decide +kernel) (by decide +kernel) hg (by decide) (by decide +kernel) (by decide) d_H_init_143 ?_
  refine aw_dup rfl d_H_init_146 ?_
  refine cw_callI (as := []) (d' := 12) (lf2 := 41) (sf2 := 4326) 4 497 mo_W_init lk_H_56 rfl ⟨by decide, by decide⟩ rfl rfl (by decide) hg (by decide +kernel) (by decide +kernel) (by decide) d_H_init_147 ?_
  refine aw_aload_n rfl rfl d_W_init_0 ?_
  refine aw_objInit oi_W_1 oi_z.1 oi_z.2 ⟨by decide, by decide⟩ (by decide) d_W_init_1 ?_
  refine aw_aload_n rfl rfl d_W_init_4 ?_
  refine aw_sipush (v := nI 400) q1_cs_400 d_W_init_5 ?_
  refine cw_newa (n := 37) (N := 400) 0 .int (by simp) rfl (by decide) ca_0 kc_37 (by decide +kernel) hg (by decide) (by decide +kernel) (by decide) d_W_init_8 ?_
  refine aw_putr fp_W_9 (tk_at kc_36 (by decide)) (by decide) rfl (fun _ => rfl) (fun _ => rfl) rfl rfl d_W_init_10 ?_
  refine cw_G (g := 34) (by decide +kernel) ?_
  refine aw_aload_n rfl rfl d_W_init_13 ?_
  refine aw_bipush (v := nI 17) q1_cb_17 d_W_init_14 ?_
  refine cw_newa (n := 38) (N := 17) 0 .int (by simp) rfl (by decide) ca_0 kc_38 (by decide +kernel) hg (by decide) (by decide +kernel) (by decide) d_W_init_16 ?_
  refine aw_putr fp_W_13 (tk_at kc_36 (by decide)) (by decide) rfl (fun _ => rfl) (fun _ => rfl) rfl rfl d_W_init_18 ?_
  refine cw_G (g := 35) (by decide +kernel) ?_
  refine aw_aload_n rfl rfl d_W_init_21 ?_
  refine aw_bipush (v := nI 16) q1_cb_16 d_W_init_22 ?_
  refine cw_newa (n := 39) (N := 16) 0 .int (by simp) rfl (by decide) ca_0 kc_39 (by decide +kernel) hg (by decide) (by decide +kernel) (by decide) d_W_init_24 ?_
  refine aw_putr fp_W_16 (tk_at kc_36 (by decide)) (by decide) rfl (fun _ => rfl) (fun _ => rfl) rfl rfl d_W_init_26 ?_
  refine cw_G (g := 36) (by decide +kernel) ?_
  refine aw_aload_n rfl rfl d_W_init_29 ?_
  refine aw_bipush (v := nI 64) cb_64 d_W_init_30 ?_
  refine cw_newa (n := 40) (N := 64) 0 .int (by simp) rfl (by decide) ca_0 kc_40 (by decide +kernel) hg (by decide) (by decide +kernel) (by decide) d_W_init_32 ?_
  refine aw_putr fp_W_19 (tk_at kc_36 (by decide)) (by decide) rfl (fun _ => rfl) (fun _ => rfl) rfl rfl d_W_init_34 ?_
  refine cw_G (g := 37) (by decide +kernel) ?_
  refine cw_retv rfl d_W_init_37 (by decide +kernel) (by decide +kernel) ?_
  refine aw_aast (j := 4) (ci := 3) (q := ("SinglesUp$Law", zT3, 6)) (tk_at kc_3 (by decide)) (vp_in_nI (by decide) (by decide)) (nI_clamp (by decide)) (tk_at kc_36 (by decide)) rfl rfl d_H_init_150 ?_
  refine cw_G (g := 38) (by decide +kernel) ?_
  refine aw_iinc (v := nI 5) (lv2 := [.ref 1, .int (nI 5)]) rfl (by decide +kernel) (by decide) rfl d_H_init_151 ?_
  refine aw_goto (tgt := 129) (by decide) d_H_init_154 ?_
  refine aw_iload_n rfl rfl d_H_init_129 ?_
  refine aw_aload_n rfl rfl d_H_init_130 ?_
  refine aw_getr fl_H_17 (tk_at kc_1 (by decide)) (by decide) rfl (r := 3) (by decide +kernel) d_H_init_131 ?_
  refine aw_alen (tk_at kc_3 (by decide)) (by decide) d_H_init_134 ?_
  refine aw_icmp_geI (tgt := 157) (5) (5) (by decide +kernel) (by decide +kernel) (by decide) d_H_init_135 (fun _ => ?_) (fun q => absurd q (by decide))
  refine cw_retv rfl d_H_init_157 (by decide +kernel) (by decide +kernel) ?_
  refine aw_putr fp_S_12 (tk_at kc_0 (by decide)) (by decide) rfl (fun _ => rfl) (fun _ => rfl) rfl rfl d_S_init_12 ?_
  refine cw_G (g := 39) (by decide +kernel) ?_
  refine aw_aload_n rfl rfl d_S_init_15 ?_
  refine cw_new (n := 41) (ci := 2) (N := 14) (q := ("SinglesUp$Hill", zT2, 14)) rfl rfl cl_S_9 cz_2.1 cz_2.2 kc_41 (by decide +kernel) (by decide +kernel) hg (by decide) (by decide +kernel) (by decide) d_S_init_16 ?_
  refine aw_dup rfl d_S_init_19 ?_
  refine cw_callI (as := []) (d' := 13) (lf2 := 81) (sf2 := 8643) 39 4303 mo_H_init lk_S_11 rfl ⟨by decide, by decide⟩ rfl rfl (by decide) hg (by decide +kernel) (by decide +kernel) (by decide) d_S_init_20 ?_
  refine aw_aload_n rfl rfl d_H_init_0 ?_
  refine aw_objInit oi_H_3 oi_z.1 oi_z.2 ⟨by decide, by decide⟩ (by decide) d_H_init_1 ?_
  refine aw_aload_n rfl rfl d_H_init_4 ?_
  refine aw_bipush (v := nI 6) q1_cb_6 d_H_init_5 ?_
  refine cw_newa (n := 42) (N := 6) 0 .int (by simp) rfl (by decide) ca_0 kc_42 (by decide +kernel) hg (by decide) (by decide +kernel) (by decide) d_H_init_7 ?_
  refine aw_dup rfl d_H_init_9 ?_
  refine aw_iconst (v := nI 0) ci_0 d_H_init_10 ?_
  refine aw_iconst (v := nI 4) ci_4 d_H_init_11 ?_
  refine aw_iast (j := 0) (tk_at kc_42 (by decide)) (vp_in_nI (by decide) (by decide)) (nI_clamp (by decide)) d_H_init_12 ?_
  refine cw_I (k := 13) (by decide +kernel) ?_
  refine aw_dup rfl d_H_init_13 ?_
  refine aw_iconst (v := nI 1) ci_1 d_H_init_14 ?_
  refine aw_bipush (v := nI 6) q1_cb_6 d_H_init_15 ?_
  refine aw_iast (j := 1) (tk_at kc_42 (by decide)) (vp_in_nI (by decide) (by decide)) (nI_clamp (by decide)) d_H_init_17 ?_
  refine cw_I (k := 14) (by decide +kernel) ?_
  refine aw_dup rfl d_H_init_18 ?_
  refine aw_iconst (v := nI 2) ci_2 d_H_init_19 ?_
  refine aw_bipush (v := nI 40) q1_cb_40 d_H_init_20 ?_
  refine aw_iast (j := 2) (tk_at kc_42 (by decide)) (vp_in_nI (by decide) (by decide)) (nI_clamp (by decide)) d_H_init_22 ?_
  refine cw_I (k := 15) (by decide +kernel) ?_
  refine aw_dup rfl d_H_init_23 ?_
  refine aw_iconst (v := nI 3) ci_3 d_H_init_24 ?_
  refine aw_iconst (v := nI 0) ci_0 d_H_init_25 ?_
  refine aw_iast (j := 3) (tk_at kc_42 (by decide)) (vp_in_nI (by decide) (by decide)) (nI_clamp (by decide)) d_H_init_26 ?_
  refine cw_I (k := 16) (by decide +kernel) ?_
  refine aw_dup rfl d_H_init_27 ?_
  refine aw_iconst (v := nI 4) ci_4 d_H_init_28 ?_
  refine aw_iconst (v := nI 0) ci_0 d_H_init_29 ?_
  refine aw_iast (j := 4) (tk_at kc_42 (by decide)) (vp_in_nI (by decide) (by decide)) (nI_clamp (by decide)) d_H_init_30 ?_
  refine cw_I (k := 17) (by decide +kernel) ?_
  refine aw_dup rfl d_H_init_31 ?_
  refine aw_iconst (v := nI 5) ci_5 d_H_init_32 ?_
  refine aw_iconst (v := nI 0) ci_0 d_H_init_33 ?_
  refine aw_iast (j := 5) (tk_at kc_42 (by decide)) (vp_in_nI (by decide) (by decide)) (nI_clamp (by decide)) d_H_init_34 ?_
  refine cw_I (k := 18) (by decide +kernel) ?_
  refine aw_putr fp_H_9 (tk_at kc_41 (by decide)) (by decide) rfl (fun _ => rfl) (fun _ => rfl) rfl rfl d_H_init_35 ?_
  refine cw_G (g := 40) (by decide +kernel) ?_
  refine aw_aload_n rfl rfl d_H_init_38 ?_
  refine aw_iconst (v := nI 5) ci_5 d_H_init_39 ?_
  refine cw_newq (n := 43) (N := 5) rfl (by decide) cl_H_15 kc_43 (by decide +kernel) hg (by decide) (by decide +kernel) (by decide) d_H_init_40 ?_
  refine aw_putr fp_H_17 (tk_at kc_41 (by decide)) (by decide) rfl (fun _ => rfl) (fun _ => rfl) rfl rfl d_H_init_43 ?_
  refine cw_G (g := 41) (by decide +kernel) ?_
  refine aw_aload_n rfl rfl d_H_init_46 ?_
  refine aw_bipush (v := nI 9) q1_cb_9 d_H_init_47 ?_
  refine cw_newa (n := 44) (N := 9) 0 .int (by simp) rfl (by decide) ca_0 kc_44 (by decide +kernel) hg (by decide) (by decide +kernel) (by decide) d_H_init_49 ?_
  refine aw_putr fp_H_21 (tk_at kc_41 (by decide)) (by decide) rfl (fun _ => rfl) (fun _ => rfl) rfl rfl d_H_init_51 ?_
  refine cw_G (g := 42) (by decide +kernel) ?_
  refine aw_aload_n rfl rfl d_H_init_54 ?_
  refine aw_bipush (v := nI 32) q1_cb_32 d_H_init_55 ?_
  refine cw_newa (n := 45) (N := 32) 0 .int (by simp) rfl (by decide) ca_0 kc_45 (by decide +kernel) hg (by decide) (by decide +kernel) (by decide) d_H_init_57 ?_
  refine aw_putr fp_H_24 (tk_at kc_41 (by decide)) (by decide) rfl (fun _ => rfl) (fun _ => rfl) rfl rfl d_H_init_59 ?_
  refine cw_G (g := 43) (by decide +kernel) ?_
  refine aw_aload_n rfl rfl d_H_init_62 ?_
  refine aw_bipush (v := nI 9) q1_cb_9 d_H_init_63 ?_
  refine cw_newa (n := 46) (N := 9) 0 .int (by simp) rfl (by decide) ca_0 kc_46 (by decide +kernel) hg (by decide) (by decide +kernel) (by decide) d_H_init_65 ?_
  refine aw_putr fp_H_27 (tk_at kc_41 (by decide)) (by decide) rfl (fun _ => rfl) (fun _ => rfl) rfl rfl d_H_init_67 ?_
  refine cw_G (g := 44) (by decide +kernel) ?_
  refine aw_aload_n rfl rfl d_H_init_70 ?_
  refine cw_new (n := 47) (ci := 4) (N := 3) (q := ("SinglesUp$Lines", zT4, 3)) rfl rfl cl_H_30 cz_4.1 cz_4.2 kc_47 (by decide +kernel) (by decide +kernel) hg (by decide) (by decide +kernel) (by decide) d_H_init_71 ?_
  refine aw_dup rfl d_H_init_74 ?_
  refine cw_callI (as := []) (d' := 12) (lf2 := 51) (sf2 := 5856) 3 1452 mo_L_init lk_H_32 rfl ⟨by decide, by decide⟩ rfl rfl (by decide) hg (by decide +kernel) (by decide +kernel) (by decide) d_H_init_75 ?_
  refine aw_aload_n rfl rfl d_L_init_0 ?_
  refine aw_objInit oi_L_3 oi_z.1 oi_z.2 ⟨by decide, by decide⟩ (by decide) d_L_init_1 ?_
  refine aw_aload_n rfl rfl d_L_init_4 ?_
  refine aw_sipush (v := nI 1440) cs_1440 d_L_init_5 ?_
  refine cw_newa (n := 48) (N := 1440) 0 .int (by simp) rfl (by decide) ca_0 kc_48 (by decide +kernel) hg (by decide) (by decide +kernel) (by decide) d_L_init_8 ?_
  refine aw_putr fp_L_9 (tk_at kc_47 (by decide)) (by decide) rfl (fun _ => rfl) (fun _ => rfl) rfl rfl d_L_init_10 ?_
  refine cw_G (g := 45) (by decide +kernel) ?_
  refine aw_aload_n rfl rfl d_L_init_13 ?_
  refine aw_bipush (v := nI 6) q1_cb_6 d_L_init_14 ?_
  refine cw_newa (n := 49) (N := 6) 0 .int (by simp) rfl (by decide) ca_0 kc_49 (by decide +kernel) hg (by decide) (by decide +kernel) (by decide) d_L_init_16 ?_
  refine aw_putr fp_L_15 (tk_at kc_47 (by decide)) (by decide) rfl (fun _ => rfl) (fun _ => rfl) rfl rfl d_L_init_18 ?_
  refine cw_G (g := 46) (by decide +kernel) ?_
  refine aw_aload_n rfl rfl d_L_init_21 ?_
  refine aw_bipush (v := nI 6) q1_cb_6 d_L_init_22 ?_
  refine cw_newa (n := 50) (N := 6) 0 .int (by simp) rfl (by decide) ca_0 kc_50 (by decide +kernel) hg (by decide) (by decide +kernel) (by decide) d_L_init_24 ?_
  refine aw_putr fp_L_18 (tk_at kc_47 (by decide)) (by decide) rfl (fun _ => rfl) (fun _ => rfl) rfl rfl d_L_init_26 ?_
  refine cw_G (g := 47) (by decide +kernel) ?_
  refine aw_aload_n rfl rfl d_L_init_29 ?_
  refine aw_getr fl_L_18 (tk_at kc_47 (by decide)) (by decide) rfl (r := 50) (by decide +kernel) d_L_init_30 ?_
  refine aw_bipush (v := nI 9) q1_cb_9 d_L_init_33 ?_
  refine cw_callS (as := [.ref 50, .int (nI 9)]) (d' := 11) (lf2 := 51) (sf2 := 5856) 0 0 mo_JA_fill lk_L_21 rfl ⟨by decide, by decide⟩ rfl rfl (by decide) hg (by decide +kernel) (by decide +kernel) (by decide) d_L_init_35 ?_
  refine aw_iconst (v := nI 0) ci_0 d_JA_fill_0 ?_
  refine aw_istore_n (lv2 := [.ref 50, .int (nI 9), .int (nI 0), uu]) rfl (by decide) rfl d_JA_fill_1 ?_
  refine aw_aload_n rfl rfl d_JA_fill_2 ?_
  refine aw_alen (tk_at kc_50 (by decide)) (by decide) d_JA_fill_3 ?_
  refine aw_istore_n (lv2 := [.ref 50, .int (nI 9), .int (nI 0), .int (nI 6)]) rfl (by decide) rfl d_JA_fill_4 ?_
  refine aw_iload_n rfl rfl d_JA_fill_5 ?_
  refine aw_iload_n rfl rfl d_JA_fill_6 ?_
  refine aw_icmp_geI (tgt := 20) (0) (6) (by decide +kernel) (by decide +kernel) (by decide) d_JA_fill_7 (fun q => absurd q (by decide)) (fun _ => ?_)
  refine aw_aload_n rfl rfl d_JA_fill_10 ?_
  refine aw_iload_n rfl rfl d_JA_fill_11 ?_
  refine aw_iload_n rfl rfl d_JA_fill_12 ?_
  refine aw_iast (j := 0) (tk_at kc_50 (by decide)) (vp_in_nI (by decide) (by decide)) (nI_clamp (by decide)) d_JA_fill_13 ?_
  refine cw_I (k := 19) (by decide +kernel) ?_
  refine aw_iinc (v := nI 1) (lv2 := [.ref 50, .int (nI 9), .int (nI 1), .int (nI 6)]) rfl (by decide +kernel) (by decide) rfl d_JA_fill_14 ?_
  refine aw_goto (tgt := 5) (by decide) d_JA_fill_17 ?_
  refine aw_iload_n rfl rfl d_JA_fill_5 ?_
  refine aw_iload_n rfl rfl d_JA_fill_6 ?_
  refine aw_icmp_geI (tgt := 20) (1) (6) (by decide +kernel) (by decide +kernel) (by decide) d_JA_fill_7 (fun q => absurd q (by decide)) (fun _ => ?_)
  refine aw_aload_n rfl rfl d_JA_fill_10 ?_
  refine aw_iload_n rfl rfl d_JA_fill_11 ?_
  refine aw_iload_n rfl rfl d_JA_fill_12 ?_
  refine aw_iast (j := 1) (tk_at kc_50 (by decide)) (vp_in_nI (by decide) (by decide)) (nI_clamp (by decide)) d_JA_fill_13 ?_
  refine cw_I (k := 20) (by decide +kernel) ?_
  refine aw_iinc (v := nI 2) (lv2 := [.ref 50, .int (nI 9), .int (nI 2), .int (nI 6)]) rfl (by decide +kernel) (by decide) rfl d_JA_fill_14 ?_
  refine aw_goto (tgt := 5) (by decide) d_JA_fill_17 ?_
  refine aw_iload_n rfl rfl d_JA_fill_5 ?_
  refine aw_iload_n rfl rfl d_JA_fill_6 ?_
  refine aw_icmp_geI (tgt := 20) (2) (6) (by decide +kernel) (by decide +kernel) (by decide) d_JA_fill_7 (fun q => absurd q (by decide)) (fun _ => ?_)
  refine aw_aload_n rfl rfl d_JA_fill_10 ?_
  refine aw_iload_n rfl rfl d_JA_fill_11 ?_
  refine aw_iload_n rfl rfl d_JA_fill_12 ?_
  refine aw_iast (j := 2) (tk_at kc_50 (by decide)) (vp_in_nI (by decide) (by decide)) (nI_clamp (by decide)) d_JA_fill_13 ?_
  refine cw_I (k := 21) (by decide +kernel) ?_
  refine aw_iinc (v := nI 3) (lv2 := [.ref 50, .int (nI 9), .int (nI 3), .int (nI 6)]) rfl (by decide +kernel) (by decide) rfl d_JA_fill_14 ?_
  refine aw_goto (tgt := 5) (by decide) d_JA_fill_17 ?_
  refine aw_iload_n rfl rfl d_JA_fill_5 ?_
  refine aw_iload_n rfl rfl d_JA_fill_6 ?_
  refine aw_icmp_geI (tgt := 20) (3) (6) (by decide +kernel) (by decide +kernel) (by decide) d_JA_fill_7 (fun q => absurd q (by decide)) (fun _ => ?_)
  refine aw_aload_n rfl rfl d_JA_fill_10 ?_
  refine aw_iload_n rfl rfl d_JA_fill_11 ?_
  refine aw_iload_n rfl rfl d_JA_fill_12 ?_
  refine aw_iast (j := 3) (tk_at kc_50 (by decide)) (vp_in_nI (by decide) (by decide)) (nI_clamp (by decide)) d_JA_fill_13 ?_
  refine cw_I (k := 22) (by decide +kernel) ?_
  refine aw_iinc (v := nI 4) (lv2 := [.ref 50, .int (nI 9), .int (nI 4), .int (nI 6)]) rfl (by decide +kernel) (by decide) rfl d_JA_fill_14 ?_
  refine aw_goto (tgt := 5) (by decide) d_JA_fill_17 ?_
  refine aw_iload_n rfl rfl d_JA_fill_5 ?_
  refine aw_iload_n rfl rfl d_JA_fill_6 ?_
  refine aw_icmp_geI (tgt := 20) (4) (6) (by decide +kernel) (by decide +kernel) (by decide) d_JA_fill_7 (fun q => absurd q (by decide)) (fun _ => ?_)
  refine aw_aload_n rfl rfl d_JA_fill_10 ?_
  refine aw_iload_n rfl rfl d_JA_fill_11 ?_
  refine aw_iload_n rfl rfl d_JA_fill_12 ?_
  refine aw_iast (j := 4) (tk_at kc_50 (by decide)) (vp_in_nI (by decide) (by decide)) (nI_clamp (by decide)) d_JA_fill_13 ?_
  refine cw_I (k := 23) (by decide +kernel) ?_
  refine aw_iinc (v := nI 5) (lv2 := [.ref 50, .int (nI 9), .int (nI 5), .int (nI 6)]) rfl (by decide +kernel) (by decide) rfl d_JA_fill_14 ?_
  refine aw_goto (tgt := 5) (by decide) d_JA_fill_17 ?_
  refine aw_iload_n rfl rfl d_JA_fill_5 ?_
  refine aw_iload_n rfl rfl d_JA_fill_6 ?_
  refine aw_icmp_geI (tgt := 20) (5) (6) (by decide +kernel) (by decide +kernel) (by decide) d_JA_fill_7 (fun q => absurd q (by decide)) (fun _ => ?_)
  refine aw_aload_n rfl rfl d_JA_fill_10 ?_
  refine aw_iload_n rfl rfl d_JA_fill_11 ?_
  refine aw_iload_n rfl rfl d_JA_fill_12 ?_
  refine aw_iast (j := 5) (tk_at kc_50 (by decide)) (vp_in_nI (by decide) (by decide)) (nI_clamp (by decide)) d_JA_fill_13 ?_
  refine cw_I (k := 24) (by decide +kernel) ?_
  refine aw_iinc (v := nI 6) (lv2 := [.ref 50, .int (nI 9), .int (nI 6), .int (nI 6)]) rfl (by decide +kernel) (by decide) rfl d_JA_fill_14 ?_
  refine aw_goto (tgt := 5) (by decide) d_JA_fill_17 ?_
  refine aw_iload_n rfl rfl d_JA_fill_5 ?_
  refine aw_iload_n rfl rfl d_JA_fill_6 ?_
  refine aw_icmp_geI (tgt := 20) (6) (6) (by decide +kernel) (by decide +kernel) (by decide) d_JA_fill_7 (fun _ => ?_) (fun q => absurd q (by decide))
  refine cw_retv rfl d_JA_fill_20 (by decide +kernel) (by decide +kernel) ?_
  refine cw_retv rfl d_L_init_38 (by decide +kernel) (by decide +kernel) ?_
  refine aw_putr fp_H_33 (tk_at kc_41 (by decide)) (by decide) rfl (fun _ => rfl) (fun _ => rfl) rfl rfl d_H_init_78 ?_
  refine cw_G (g := 48) (by decide +kernel) ?_
  refine aw_aload_n rfl rfl d_H_init_81 ?_
  refine aw_bipush (v := nI 40) q1_cb_40 d_H_init_82 ?_
  refine cw_newa (n := 51) (N := 40) 0 .int (by simp) rfl (by decide) ca_0 kc_51 (by decide +kernel) hg (by decide) (by decide +kernel) (by decide) d_H_init_84 ?_
  refine aw_putr fp_H_37 (tk_at kc_41 (by decide)) (by decide) rfl (fun _ => rfl) (fun _ => rfl) rfl rfl d_H_init_86 ?_
  refine cw_G (g := 49) (by decide +kernel) ?_
  refine aw_aload_n rfl rfl d_H_init_89 ?_
  refine aw_bipush (v := nI 30) q1_cb_30 d_H_init_90 ?_
  refine cw_newa (n := 52) (N := 30) 0 .int (by simp) rfl (by decide) ca_0 kc_52 (by decide +kernel) hg (by decide) (by decide +kernel) (by decide) d_H_init_92 ?_
  refine aw_putr fp_H_40 (tk_at kc_41 (by decide)) (by decide) rfl (fun _ => rfl) (fun _ => rfl) rfl rfl d_H_init_94 ?_
  refine cw_G (g := 50) (by decide +kernel) ?_
  refine aw_aload_n rfl rfl d_H_init_97 ?_
  refine aw_sipush (v := nI 180) cs_180 d_H_init_98 ?_
  refine cw_newa (n := 53) (N := 180) 0 .int (by simp) rfl (by decide) ca_0 kc_53 (by decide +kernel) hg (by decide) (by decide +kernel) (by decide) d_H_init_101 ?_
  refine aw_putr fp_H_43 (tk_at kc_41 (by decide)) (by decide) rfl (fun _ => rfl) (fun _ => rfl) rfl rfl d_H_init_103 ?_
  refine cw_G (g := 51) (by decide +kernel) ?_
  refine aw_aload_n rfl rfl d_H_init_106 ?_
  refine aw_iconst (v := (-1 : Int32)) rfl d_H_init_107 ?_
  refine aw_puti fl_H_46 (tk_at kc_41 (by decide)) (by decide) rfl rfl rfl rfl d_H_init_108 ?_
  refine cw_I (k := 25) (by decide +kernel) ?_
  refine aw_aload_n rfl rfl d_H_init_111 ?_
  refine aw_bipush (v := nI 16) q1_cb_16 d_H_init_112 ?_
  refine cw_newa (n := 54) (N := 16) 0 .int (by simp) rfl (by decide) ca_0 kc_54 (by decide +kernel) hg (by decide) (by decide +kernel) (by decide) d_H_init_114 ?_
  refine aw_putr fp_H_50 (tk_at kc_41 (by decide)) (by decide) rfl (fun _ => rfl) (fun _ => rfl) rfl rfl d_H_init_116 ?_
  refine cw_G (g := 52) (by decide +kernel) ?_
  refine aw_aload_n rfl rfl d_H_init_119 ?_
  refine aw_bipush (v := nI 6) q1_cb_6 d_H_init_120 ?_
  refine cw_newa (n := 55) (N := 6) 0 .int (by simp) rfl (by decide) ca_0 kc_55 (by decide +kernel) hg (by decide) (by decide +kernel) (by decide) d_H_init_122 ?_
  refine aw_putr fp_H_53 (tk_at kc_41 (by decide)) (by decide) rfl (fun _ => rfl) (fun _ => rfl) rfl rfl d_H_init_124 ?_
  refine cw_G (g := 53) (by decide +kernel) ?_
  refine aw_iconst (v := nI 0) ci_0 d_H_init_127 ?_
  refine aw_istore_n (lv2 := [.ref 41, .int (nI 0)]) rfl (by decide) rfl d_H_init_128 ?_
  refine aw_iload_n rfl rfl d_H_init_129 ?_
  refine aw_aload_n rfl rfl d_H_init_130 ?_
  refine aw_getr fl_H_17 (tk_at kc_41 (by decide)) (by decide) rfl (r := 43) (by decide +kernel) d_H_init_131 ?_
  refine aw_alen (tk_at kc_43 (by decide)) (by decide) d_H_init_134 ?_
  refine aw_icmp_geI (tgt := 157) (0) (5) (by decide +kernel) (by decide +kernel) (by decide) d_H_init_135 (fun q => absurd q (by decide)) (fun _ => ?_)
  refine aw_aload_n rfl rfl d_H_init_138 ?_
  refine aw_getr fl_H_17 (tk_at kc_41 (by decide)) (by decide) rfl (r := 43) (by decide +kernel) d_H_init_139 ?_
  refine aw_iload_n rfl rfl d_H_init_142 ?_
  refine cw_new (n := 56) (ci := 3) (N := 6) (q := ("SinglesUp$Law", zT3, 6)) rfl rfl cl_H_15 cz_3.1 cz_3.2 kc_56 (by decide +kernel) (by decide +kernel) hg (by decide) (by decide +kernel) (by decide) d_H_init_143 ?_
  refine aw_dup rfl d_H_init_146 ?_
  refine cw_callI (as := []) (d' := 12) (lf2 := 61) (sf2 := 6631) 4 497 mo_W_init lk_H_56 rfl ⟨by decide, by decide⟩ rfl rfl (by decide) hg (by decide +kernel) (by decide +kernel) (by decide) d_H_init_147 ?_
  refine aw_aload_n rfl rfl d_W_init_0 ?_
  refine aw_objInit oi_W_1 oi_z.1 oi_z.2 ⟨by decide, by decide⟩ (by decide) d_W_init_1 ?_
  refine aw_aload_n rfl rfl d_W_init_4 ?_
  refine aw_sipush (v := nI 400) q1_cs_400 d_W_init_5 ?_
  refine cw_newa (n := 57) (N := 400) 0 .int (by simp) rfl (by decide) ca_0 kc_57 (by decide +kernel) hg (by decide) (by decide +kernel) (by decide) d_W_init_8 ?_
  refine aw_putr fp_W_9 (tk_at kc_56 (by decide)) (by decide) rfl (fun _ => rfl) (fun _ => rfl) rfl rfl d_W_init_10 ?_
  refine cw_G (g := 54) (by decide +kernel) ?_
  refine aw_aload_n rfl rfl d_W_init_13 ?_
  refine aw_bipush (v := nI 17) q1_cb_17 d_W_init_14 ?_
  refine cw_newa (n := 58) (N := 17) 0 .int (by simp) rfl (by decide) ca_0 kc_58 (by decide +kernel) hg (by decide) (by decide +kernel) (by decide) d_W_init_16 ?_
  refine aw_putr fp_W_13 (tk_at kc_56 (by decide)) (by decide) rfl (fun _ => rfl) (fun _ => rfl) rfl rfl d_W_init_18 ?_
  refine cw_G (g := 55) (by decide +kernel) ?_
  refine aw_aload_n rfl rfl d_W_init_21 ?_
  refine aw_bipush (v := nI 16) q1_cb_16 d_W_init_22 ?_
  refine cw_newa (n := 59) (N := 16) 0 .int (by simp) rfl (by decide) ca_0 kc_59 (by decide +kernel) hg (by decide) (by decide +kernel) (by decide) d_W_init_24 ?_
  refine aw_putr fp_W_16 (tk_at kc_56 (by decide)) (by decide) rfl (fun _ => rfl) (fun _ => rfl) rfl rfl d_W_init_26 ?_
  refine cw_G (g := 56) (by decide +kernel) ?_
  refine aw_aload_n rfl rfl d_W_init_29 ?_
  refine aw_bipush (v := nI 64) cb_64 d_W_init_30 ?_
  refine cw_newa (n := 60) (N := 64) 0 .int (by simp) rfl (by decide) ca_0 kc_60 (by decide +kernel) hg (by decide) (by decide +kernel) (by decide) d_W_init_32 ?_
  refine aw_putr fp_W_19 (tk_at kc_56 (by decide)) (by decide) rfl (fun _ => rfl) (fun _ => rfl) rfl rfl d_W_init_34 ?_
  refine cw_G (g := 57) (by decide +kernel) ?_
  refine cw_retv rfl d_W_init_37 (by decide +kernel) (by decide +kernel) ?_
  refine aw_aast (j := 0) (ci := 3) (q := ("SinglesUp$Law", zT3, 6)) (tk_at kc_43 (by decide)) (vp_in_nI (by decide) (by decide)) (nI_clamp (by decide)) (tk_at kc_56 (by decide)) rfl rfl d_H_init_150 ?_
  refine cw_G (g := 58) (by decide +kernel) ?_
  refine aw_iinc (v := nI 1) (lv2 := [.ref 41, .int (nI 1)]) rfl (by decide +kernel) (by decide) rfl d_H_init_151 ?_
  refine aw_goto (tgt := 129) (by decide) d_H_init_154 ?_
  refine aw_iload_n rfl rfl d_H_init_129 ?_
  refine aw_aload_n rfl rfl d_H_init_130 ?_
  refine aw_getr fl_H_17 (tk_at kc_41 (by decide)) (by decide) rfl (r := 43) (by decide +kernel) d_H_init_131 ?_
  refine aw_alen (tk_at kc_43 (by decide)) (by decide) d_H_init_134 ?_
  refine aw_icmp_geI (tgt := 157) (1) (5) (by decide +kernel) (by decide +kernel) (by decide) d_H_init_135 (fun q => absurd q (by decide)) (fun _ => ?_)
  refine aw_aload_n rfl rfl d_H_init_138 ?_
  refine aw_getr fl_H_17 (tk_at kc_41 (by decide)) (by decide) rfl (r := 43) (by decide +kernel) d_H_init_139 ?_
  refine aw_iload_n rfl rfl d_H_init_142 ?_
  refine cw_new (n := 61) (ci := 3) (N := 6) (q := ("SinglesUp$Law", zT3, 6)) rfl rfl cl_H_15 cz_3.1 cz_3.2 kc_61 (by decide +kernel) (by decide +kernel) hg (by decide) (by decide +kernel) (by decide) d_H_init_143 ?_
  refine aw_dup rfl d_H_init_146 ?_
  refine cw_callI (as := []) (d' := 12) (lf2 := 66) (sf2 := 7134) 4 497 mo_W_init lk_H_56 rfl ⟨by decide, by decide⟩ rfl rfl (by decide) hg (by decide +kernel) (by decide +kernel) (by decide) d_H_init_147 ?_
  refine aw_aload_n rfl rfl d_W_init_0 ?_
  refine aw_objInit oi_W_1 oi_z.1 oi_z.2 ⟨by decide, by decide⟩ (by decide) d_W_init_1 ?_
  refine aw_aload_n rfl rfl d_W_init_4 ?_
  refine aw_sipush (v := nI 400) q1_cs_400 d_W_init_5 ?_
  refine cw_newa (n := 62) (N := 400) 0 .int (by simp) rfl (by decide) ca_0 kc_62 (by decide +kernel) hg (by decide) (by decide +kernel) (by decide) d_W_init_8 ?_
  refine aw_putr fp_W_9 (tk_at kc_61 (by decide)) (by decide) rfl (fun _ => rfl) (fun _ => rfl) rfl rfl d_W_init_10 ?_
  refine cw_G (g := 59) (by decide +kernel) ?_
  refine aw_aload_n rfl rfl d_W_init_13 ?_
  refine aw_bipush (v := nI 17) q1_cb_17 d_W_init_14 ?_
  refine cw_newa (n := 63) (N := 17) 0 .int (by simp) rfl (by decide) ca_0 kc_63 (by decide +kernel) hg (by decide) (by decide +kernel) (by decide) d_W_init_16 ?_
  refine aw_putr fp_W_13 (tk_at kc_61 (by decide)) (by decide) rfl (fun _ => rfl) (fun _ => rfl) rfl rfl d_W_init_18 ?_
  refine cw_G (g := 60) (by decide +kernel) ?_
  refine aw_aload_n rfl rfl d_W_init_21 ?_
  refine aw_bipush (v := nI 16) q1_cb_16 d_W_init_22 ?_
  refine cw_newa (n := 64) (N := 16) 0 .int (by simp) rfl (by decide) ca_0 kc_64 (by decide +kernel) hg (by decide) (by decide +kernel) (by decide) d_W_init_24 ?_
  refine aw_putr fp_W_16 (tk_at kc_61 (by decide)) (by decide) rfl (fun _ => rfl) (fun _ => rfl) rfl rfl d_W_init_26 ?_
  refine cw_G (g := 61) (by decide +kernel) ?_
  refine aw_aload_n rfl rfl d_W_init_29 ?_
  refine aw_bipush (v := nI 64) cb_64 d_W_init_30 ?_
  refine cw_newa (n := 65) (N := 64) 0 .int (by simp) rfl (by decide) ca_0 kc_65 (by decide +kernel) hg (by decide) (by decide +kernel) (by decide) d_W_init_32 ?_
  refine aw_putr fp_W_19 (tk_at kc_61 (by decide)) (by decide) rfl (fun _ => rfl) (fun _ => rfl) rfl rfl d_W_init_34 ?_
  refine cw_G (g := 62) (by decide +kernel) ?_
  refine cw_retv rfl d_W_init_37 (by decide +kernel) (by decide +kernel) ?_
  refine aw_aast (j := 1) (ci := 3) (q := ("SinglesUp$Law", zT3, 6)) (tk_at kc_43 (by decide)) (vp_in_nI (by decide) (by decide)) (nI_clamp (by decide)) (tk_at kc_61 (by decide)) rfl rfl d_H_init_150 ?_
  refine cw_G (g := 63) (by decide +kernel) ?_
  refine aw_iinc (v := nI 2) (lv2 := [.ref 41, .int (nI 2)]) rfl (by decide +kernel) (by decide) rfl d_H_init_151 ?_
  refine aw_goto (tgt := 129) (by decide) d_H_init_154 ?_
  refine aw_iload_n rfl rfl d_H_init_129 ?_
  refine aw_aload_n rfl rfl d_H_init_130 ?_
  refine aw_getr fl_H_17 (tk_at kc_41 (by decide)) (by decide) rfl (r := 43) (by decide +kernel) d_H_init_131 ?_
  refine aw_alen (tk_at kc_43 (by decide)) (by decide) d_H_init_134 ?_
  refine aw_icmp_geI (tgt := 157) (2) (5) (by decide +kernel) (by decide +kernel) (by decide) d_H_init_135 (fun q => absurd q (by decide)) (fun _ => ?_)
  refine aw_aload_n rfl rfl d_H_init_138 ?_
  refine aw_getr fl_H_17 (tk_at kc_41 (by decide)) (by decide) rfl (r := 43) (by decide +kernel) d_H_init_139 ?_
  refine aw_iload_n rfl rfl d_H_init_142 ?_
  refine cw_new (n := 66) (ci := 3) (N := 6) (q := ("SinglesUp$Law", zT3, 6)) rfl rfl cl_H_15 cz_3.1 cz_3.2 kc_66 (by decide +kernel) (by decide +kernel) hg (by decide) (by decide +kernel) (by decide) d_H_init_143 ?_
  refine aw_dup rfl d_H_init_146 ?_
  refine cw_callI (as := []) (d' := 12) (lf2 := 71) (sf2 := 7637) 4 497 mo_W_init lk_H_56 rfl ⟨by decide, by decide⟩ rfl rfl (by decide) hg (by decide +kernel) (by decide +kernel) (by decide) d_H_init_147 ?_
  refine aw_aload_n rfl rfl d_W_init_0 ?_
  refine aw_objInit oi_W_1 oi_z.1 oi_z.2 ⟨by decide, by decide⟩ (by decide) d_W_init_1 ?_
  refine aw_aload_n rfl rfl d_W_init_4 ?_
  refine aw_sipush (v := nI 400) q1_cs_400 d_W_init_5 ?_
  refine cw_newa (n := 67) (N := 400) 0 .int (by simp) rfl (by decide) ca_0 kc_67 (by decide +kernel) hg (by decide) (by decide +kernel) (by decide) d_W_init_8 ?_
  refine aw_putr fp_W_9 (tk_at kc_66 (by decide)) (by decide) rfl (fun _ => rfl) (fun _ => rfl) rfl rfl d_W_init_10 ?_
  refine cw_G (g := 64) (by decide +kernel) ?_
  refine aw_aload_n rfl rfl d_W_init_13 ?_
  refine aw_bipush (v := nI 17) q1_cb_17 d_W_init_14 ?_
  refine cw_newa (n := 68) (N := 17) 0 .int (by simp) rfl (by decide) ca_0 kc_68 (by decide +kernel) hg (by decide) (by decide +kernel) (by decide) d_W_init_16 ?_
  refine aw_putr fp_W_13 (tk_at kc_66 (by decide)) (by decide) rfl (fun _ => rfl) (fun _ => rfl) rfl rfl d_W_init_18 ?_
  refine cw_G (g := 65) (by decide +kernel) ?_
  refine aw_aload_n rfl rfl d_W_init_21 ?_
  refine aw_bipush (v := nI 16) q1_cb_16 d_W_init_22 ?_
  refine cw_newa (n := 69) (N := 16) 0 .int (by simp) rfl (by decide) ca_0 kc_69 (by decide +kernel) hg (by decide) (by decide +kernel) (by decide) d_W_init_24 ?_
  refine aw_putr fp_W_16 (tk_at kc_66 (by decide)) (by decide) rfl (fun _ => rfl) (fun _ => rfl) rfl rfl d_W_init_26 ?_
  refine cw_G (g := 66) (by decide +kernel) ?_
  refine aw_aload_n rfl rfl d_W_init_29 ?_
  refine aw_bipush (v := nI 64) cb_64 d_W_init_30 ?_
  refine cw_newa (n := 70) (N := 64) 0 .int (by simp) rfl (by decide) ca_0 kc_70 (by decide +kernel) hg (by decide) (by decide +kernel) (by decide) d_W_init_32 ?_
  refine aw_putr fp_W_19 (tk_at kc_66 (by decide)) (by decide) rfl (fun _ => rfl) (fun _ => rfl) rfl rfl d_W_init_34 ?_
  refine cw_G (g := 67) (by decide +kernel) ?_
  refine cw_retv rfl d_W_init_37 (by decide +kernel) (by decide +kernel) ?_
  refine aw_aast (j := 2) (ci := 3) (q := ("SinglesUp$Law", zT3, 6)) (tk_at kc_43 (by decide)) (vp_in_nI (by decide) (by decide)) (nI_clamp (by decide)) (tk_at kc_66 (by decide)) rfl rfl d_H_init_150 ?_
  refine cw_G (g := 68) (by decide +kernel) ?_
  refine aw_iinc (v := nI 3) (lv2 := [.ref 41, .int (nI 3)]) rfl (by decide +kernel) (by decide) rfl d_H_init_151 ?_
  refine aw_goto (tgt := 129) (by decide) d_H_init_154 ?_
  refine aw_iload_n rfl rfl d_H_init_129 ?_
  refine aw_aload_n rfl rfl d_H_init_130 ?_
  refine aw_getr fl_H_17 (tk_at kc_41 (by decide)) (by decide) rfl (r := 43) (by decide +kernel) d_H_init_131 ?_
  refine aw_alen (tk_at kc_43 (by decide)) (by decide) d_H_init_134 ?_
  refine aw_icmp_geI (tgt := 157) (3) (5) (by decide +kernel) (by decide +kernel) (by decide) d_H_init_135 (fun q => absurd q (by decide)) (fun _ => ?_)
  refine aw_aload_n rfl rfl d_H_init_138 ?_
  refine aw_getr fl_H_17 (tk_at kc_41 (by decide)) (by decide) rfl (r := 43) (by decide +kernel) d_H_init_139 ?_
  refine aw_iload_n rfl rfl d_H_init_142 ?_
  refine cw_new (n := 71) (ci := 3) (N := 6) (q := ("SinglesUp$Law", zT3, 6)) rfl rfl cl_H_15 cz_3.1 cz_3.2 kc_71 (by decide +kernel) (by decide +kernel) hg (by decide) (by decide +kernel) (by decide) d_H_init_143 ?_
  refine aw_dup rfl d_H_init_146 ?_
  refine cw_callI (as := []) (d' := 12) (lf2 := 76) (sf2 := 8140) 4 497 mo_W_init lk_H_56 rfl ⟨by decide, by decide⟩ rfl rfl (by decide) hg (by decide +kernel) (by decide +kernel) (by decide) d_H_init_147 ?_
  refine aw_aload_n rfl rfl d_W_init_0 ?_
  refine aw_objInit oi_W_1 oi_z.1 oi_z.2 ⟨by decide, by decide⟩ (by decide) d_W_init_1 ?_
  refine aw_aload_n rfl rfl d_W_init_4 ?_
  refine aw_sipush (v := nI 400) q1_cs_400 d_W_init_5 ?_
  refine cw_newa (n := 72) (N := 400) 0 .int (by simp) rfl (by decide) ca_0 kc_72 (by decide +kernel) hg (by decide) (by decide +kernel) (by decide) d_W_init_8 ?_
  refine aw_putr fp_W_9 (tk_at kc_71 (by decide)) (by decide) rfl (fun _ => rfl) (fun _ => rfl) rfl rfl d_W_init_10 ?_
  refine cw_G (g := 69) (by decide +kernel) ?_
  refine aw_aload_n rfl rfl d_W_init_13 ?_
  refine aw_bipush (v := nI 17) q1_cb_17 d_W_init_14 ?_
  refine cw_newa (n := 73) (N := 17) 0 .int (by simp) rfl (by decide) ca_0 kc_73 (by decide +kernel) hg (by decide) (by decide +kernel) (by decide) d_W_init_16 ?_
  refine aw_putr fp_W_13 (tk_at kc_71 (by decide)) (by decide) rfl (fun _ => rfl) (fun _ => rfl) rfl rfl d_W_init_18 ?_
  refine cw_G (g := 70) (by decide +kernel) ?_
  refine aw_aload_n rfl rfl d_W_init_21 ?_
  refine aw_bipush (v := nI 16) q1_cb_16 d_W_init_22 ?_
  refine cw_newa (n := 74) (N := 16) 0 .int (by simp) rfl (by decide) ca_0 kc_74 (by decide +kernel) hg (by decide) (by decide +kernel) (by decide) d_W_init_24 ?_
  refine aw_putr fp_W_16 (tk_at kc_71 (by decide)) (by decide) rfl (fun _ => rfl) (fun _ => rfl) rfl rfl d_W_init_26 ?_
  refine cw_G (g := 71) (by decide +kernel) ?_
  refine aw_aload_n rfl rfl d_W_init_29 ?_
  refine aw_bipush (v := nI 64) cb_64 d_W_init_30 ?_
  refine cw_newa (n := 75) (N := 64) 0 .int (by simp) rfl (by decide) ca_0 kc_75 (by decide +kernel) hg (by decide) (by decide +kernel) (by decide) d_W_init_32 ?_
  refine aw_putr fp_W_19 (tk_at kc_71 (by decide)) (by decide) rfl (fun _ => rfl) (fun _ => rfl) rfl rfl d_W_init_34 ?_
  refine cw_G (g := 72) (by decide +kernel) ?_
  refine cw_retv rfl d_W_init_37 (by decide +kernel) (by decide +kernel) ?_
  refine aw_aast (j := 3) (ci := 3) (q := ("SinglesUp$Law", zT3, 6)) (tk_at kc_43 (by decide)) (vp_in_nI (by decide) (by decide)) (nI_clamp (by decide)) (tk_at kc_71 (by decide)) rfl rfl d_H_init_150 ?_
  refine cw_G (g := 73) (by decide +kernel) ?_
  refine aw_iinc (v := nI 4) (lv2 := [.ref 41, .int (nI 4)]) rfl (by decide +kernel) (by decide) rfl d_H_init_151 ?_
  refine aw_goto (tgt := 129) (by decide) d_H_init_154 ?_
  refine aw_iload_n rfl rfl d_H_init_129 ?_
  refine aw_aload_n rfl rfl d_H_init_130 ?_
  refine aw_getr fl_H_17 (tk_at kc_41 (by decide)) (by decide) rfl (r := 43) (by decide +kernel) d_H_init_131 ?_
  refine aw_alen (tk_at kc_43 (by decide)) (by decide) d_H_init_134 ?_
  refine aw_icmp_geI (tgt := 157) (4) (5) (by decide +kernel) (by decide +kernel) (by decide) d_H_init_135 (fun q => absurd q (by decide)) (fun _ => ?_)
  refine aw_aload_n rfl rfl d_H_init_138 ?_
  refine aw_getr fl_H_17 (tk_at kc_41 (by decide)) (by decide) rfl (r := 43) (by decide +kernel) d_H_init_139 ?_
  refine aw_iload_n rfl rfl d_H_init_142 ?_
  refine cw_new (n := 76) (ci := 3) (N := 6) (q := ("SinglesUp$Law", zT3, 6)) rfl rfl cl_H_15 cz_3.1 cz_3.2 kc_76 (by decide +kernel) (by decide +kernel) hg (by decide) (by decide +kernel) (by decide) d_H_init_143 ?_
  refine aw_dup rfl d_H_init_146 ?_
  refine cw_callI (as := []) (d' := 12) (lf2 := 81) (sf2 := 8643) 4 497 mo_W_init lk_H_56 rfl ⟨by decide, by decide⟩ rfl rfl (by decide) hg (by decide +kernel) (by decide +kernel) (by decide) d_H_init_147 ?_
  refine aw_aload_n rfl rfl d_W_init_0 ?_
  refine aw_objInit oi_W_1 oi_z.1 oi_z.2 ⟨by decide, by decide⟩ (by decide) d_W_init_1 ?_
  refine aw_aload_n rfl rfl d_W_init_4 ?_
  refine aw_sipush (v := nI 400) q1_cs_400 d_W_init_5 ?_
  refine cw_newa (n := 77) (N := 400) 0 .int (by simp) rfl (by decide) ca_0 kc_77 (by decide +kernel) hg (by decide) (by decide +kernel) (by decide) d_W_init_8 ?_
  refine aw_putr fp_W_9 (tk_at kc_76 (by decide)) (by decide) rfl (fun _ => rfl) (fun _ => rfl) rfl rfl d_W_init_10 ?_
  refine cw_G (g := 74) (by decide +kernel) ?_
  refine aw_aload_n rfl rfl d_W_init_13 ?_
  refine aw_bipush (v := nI 17) q1_cb_17 d_W_init_14 ?_
  refine cw_newa (n := 78) (N := 17) 0 .int (by simp) rfl (by decide) ca_0 kc_78 (by decide +kernel) hg (by decide) (by decide +kernel) (by decide) d_W_init_16 ?_
  refine aw_putr fp_W_13 (tk_at kc_76 (by decide)) (by decide) rfl (fun _ => rfl) (fun _ => rfl) rfl rfl d_W_init_18 ?_
  refine cw_G (g := 75) (by decide +kernel) ?_
  refine aw_aload_n rfl rfl d_W_init_21 ?_
  refine aw_bipush (v := nI 16) q1_cb_16 d_W_init_22 ?_
  refine cw_newa (n := 79) (N := 16) 0 .int (by simp) rfl (by decide) ca_0 kc_79 (by decide +kernel) hg (by decide) (by decide +kernel) (by decide) d_W_init_24 ?_
  refine aw_putr fp_W_16 (tk_at kc_76 (by decide)) (by decide) rfl (fun _ => rfl) (fun _ => rfl) rfl rfl d_W_init_26 ?_
  refine cw_G (g := 76) (by decide +kernel) ?_
  refine aw_aload_n rfl rfl d_W_init_29 ?_
  refine aw_bipush (v := nI 64) cb_64 d_W_init_30 ?_
  refine cw_newa (n := 80) (N := 64) 0 .int (by simp) rfl (by decide) ca_0 kc_80 (by decide +kernel) hg (by decide) (by decide +kernel) (by decide) d_W_init_32 ?_
  refine aw_putr fp_W_19 (tk_at kc_76 (by decide)) (by decide) rfl (fun _ => rfl) (fun _ => rfl) rfl rfl d_W_init_34 ?_
  refine cw_G (g := 77) (by decide +kernel) ?_
  refine cw_retv rfl d_W_init_37 (by decide +kernel) (by decide +kernel) ?_
  refine aw_aast (j := 4) (ci := 3) (q := ("SinglesUp$Law", zT3, 6)) (tk_at kc_43 (by decide)) (vp_in_nI (by decide) (by decide)) (nI_clamp (by decide)) (tk_at kc_76 (by decide)) rfl rfl d_H_init_150 ?_
  refine cw_G (g := 78) (by decide +kernel) ?_
  refine aw_iinc (v := nI 5) (lv2 := [.ref 41, .int (nI 5)]) rfl (by decide +kernel) (by decide) rfl d_H_init_151 ?_
  refine aw_goto (tgt := 129) (by decide) d_H_init_154 ?_
  refine aw_iload_n rfl rfl d_H_init_129 ?_
  refine aw_aload_n rfl rfl d_H_init_130 ?_
  refine aw_getr fl_H_17 (tk_at kc_41 (by decide)) (by decide) rfl (r := 43) (by decide +kernel) d_H_init_131 ?_
  refine aw_alen (tk_at kc_43 (by decide)) (by decide) d_H_init_134 ?_
  refine aw_icmp_geI (tgt := 157) (5) (5) (by decide +kernel) (by decide +kernel) (by decide) d_H_init_135 (fun _ => ?_) (fun q => absurd q (by decide))
  refine cw_retv rfl d_H_init_157 (by decide +kernel) (by decide +kernel) ?_
  refine aw_putr fp_S_16 (tk_at kc_0 (by decide)) (by decide) rfl (fun _ => rfl) (fun _ => rfl) rfl rfl d_S_init_23 ?_
  refine cw_G (g := 79) (by decide +kernel) ?_
  refine aw_aload_n rfl rfl d_S_init_26 ?_
  refine cw_new (n := 81) (ci := 5) (N := 3) (q := ("SinglesUp$Mind", zT5, 3)) rfl rfl cl_S_19 cz_5.1 cz_5.2 kc_81 (by decide +kernel) (by decide +kernel) hg (by decide) (by decide +kernel) (by decide) d_S_init_27 ?_
  refine aw_dup rfl d_S_init_30 ?_
  refine cw_callI (as := []) (d' := 13) (lf2 := 130) (sf2 := 14386) 48 5740 mo_M_init lk_S_21 rfl ⟨by decide, by decide⟩ rfl rfl (by decide) hg (by decide +kernel) (by decide +kernel) (by decide) d_S_init_31 ?_
  refine aw_aload_n rfl rfl d_M_init_0 ?_
  refine aw_objInit oi_M_3 oi_z.1 oi_z.2 ⟨by decide, by decide⟩ (by decide) d_M_init_1 ?_
  refine aw_aload_n rfl rfl d_M_init_4 ?_
  refine cw_new (n := 82) (ci := 2) (N := 14) (q := ("SinglesUp$Hill", zT2, 14)) rfl rfl cl_M_9 cz_2.1 cz_2.2 kc_82 (by decide +kernel) (by decide +kernel) hg (by decide) (by decide +kernel) (by decide) d_M_init_5 ?_
  refine aw_dup rfl d_M_init_8 ?_
  refine cw_callI (as := []) (d' := 12) (lf2 := 122) (sf2 := 12963) 39 4303 mo_H_init lk_M_11 rfl ⟨by decide, by decide⟩ rfl rfl (by decide) hg (by decide +kernel) (by decide +kernel) (by decide) d_M_init_9 ?_
  refine aw_aload_n rfl rfl d_H_init_0 ?_
  refine aw_objInit oi_H_3 oi_z.1 oi_z.2 ⟨by decide, by decide⟩ (by decide) d_H_init_1 ?_
  refine aw_aload_n rfl rfl d_H_init_4 ?_
  refine aw_bipush (v := nI 6) q1_cb_6 d_H_init_5 ?_
  refine cw_newa (n := 83) (N := 6) 0 .int (by simp) rfl (by decide) ca_0 kc_83 (by decide +kernel) hg (by decide) (by decide +kernel) (by decide) d_H_init_7 ?_
  refine aw_dup rfl d_H_init_9 ?_
  refine aw_iconst (v := nI 0) ci_0 d_H_init_10 ?_
  refine aw_iconst (v := nI 4) ci_4 d_H_init_11 ?_
  refine aw_iast (j := 0) (tk_at kc_83 (by decide)) (vp_in_nI (by decide) (by decide)) (nI_clamp (by decide)) d_H_init_12 ?_
  refine cw_I (k := 26) (by decide +kernel) ?_
  refine aw_dup rfl d_H_init_13 ?_
  refine aw_iconst (v := nI 1) ci_1 d_H_init_14 ?_
  refine aw_bipush (v := nI 6) q1_cb_6 d_H_init_15 ?_
  refine aw_iast (j := 1) (tk_at kc_83 (by decide)) (vp_in_nI (by decide) (by decide)) (nI_clamp (by decide)) d_H_init_17 ?_
  refine cw_I (k := 27) (by decide +kernel) ?_
  refine aw_dup rfl d_H_init_18 ?_
  refine aw_iconst (v := nI 2) ci_2 d_H_init_19 ?_
  refine aw_bipush (v := nI 40) q1_cb_40 d_H_init_20 ?_
  refine aw_iast (j := 2) (tk_at kc_83 (by decide)) (vp_in_nI (by decide) (by decide)) (nI_clamp (by decide)) d_H_init_22 ?_
  refine cw_I (k := 28) (by decide +kernel) ?_
  refine aw_dup rfl d_H_init_23 ?_
  refine aw_iconst (v := nI 3) ci_3 d_H_init_24 ?_
  refine aw_iconst (v := nI 0) ci_0 d_H_init_25 ?_
  refine aw_iast (j := 3) (tk_at kc_83 (by decide)) (vp_in_nI (by decide) (by decide)) (nI_clamp (by decide)) d_H_init_26 ?_
  refine cw_I (k := 29) (by decide +kernel) ?_
  refine aw_dup rfl d_H_init_27 ?_
  refine aw_iconst (v := nI 4) ci_4 d_H_init_28 ?_
  refine aw_iconst (v := nI 0) ci_0 d_H_init_29 ?_
  refine aw_iast (j := 4) (tk_at kc_83 (by decide)) (vp_in_nI (by decide) (by decide)) (nI_clamp (by decide)) d_H_init_30 ?_
  refine cw_I (k := 30) (by decide +kernel) ?_
  refine aw_dup rfl d_H_init_31 ?_
  refine aw_iconst (v := nI 5) ci_5 d_H_init_32 ?_
  refine aw_iconst (v := nI 0) ci_0 d_H_init_33 ?_
  refine aw_iast (j := 5) (tk_at kc_83 (by decide)) (vp_in_nI (by decide) (by decide)) (nI_clamp (by decide)) d_H_init_34 ?_
  refine cw_I (k := 31) (by decide +kernel) ?_
  refine aw_putr fp_H_9 (tk_at kc_82 (by decide)) (by decide) rfl (fun _ => rfl) (fun _ => rfl) rfl rfl d_H_init_35 ?_
  refine cw_G (g := 80) (by decide +kernel) ?_
  refine aw_aload_n rfl rfl d_H_init_38 ?_
  refine aw_iconst (v := nI 5) ci_5 d_H_init_39 ?_
  refine cw_newq (n := 84) (N := 5) rfl (by decide) cl_H_15 kc_84 (by decide +kernel) hg (by decide) (by decide +kernel) (by decide) d_H_init_40 ?_
  refine aw_putr fp_H_17 (tk_at kc_82 (by decide)) (by decide) rfl (fun _ => rfl) (fun _ => rfl) rfl rfl d_H_init_43 ?_
  refine cw_G (g := 81) (by decide +kernel) ?_
  refine aw_aload_n rfl rfl d_H_init_46 ?_
  refine aw_bipush (v := nI 9) q1_cb_9 d_H_init_47 ?_
  refine cw_newa (n := 85) (N := 9) 0 .int (by simp) rfl (by decide) ca_0 kc_85 (by decide +kernel) hg (by decide) (by decide +kernel) (by decide) d_H_init_49 ?_
  refine aw_putr fp_H_21 (tk_at kc_82 (by decide)) (by decide) rfl (fun _ => rfl) (fun _ => rfl) rfl rfl d_H_init_51 ?_
  refine cw_G (g := 82) (by decide +kernel) ?_
  refine aw_aload_n rfl rfl d_H_init_54 ?_
  refine aw_bipush (v := nI 32) q1_cb_32 d_H_init_55 ?_
  refine cw_newa (n := 86) (N := 32) 0 .int (by simp) rfl (by decide) ca_0 kc_86 (by decide +kernel) hg (by decide) (by decide +kernel) (by decide) d_H_init_57 ?_
  refine aw_putr fp_H_24 (tk_at kc_82 (by decide)) (by decide) rfl (fun _ => rfl) (fun _ => rfl) rfl rfl d_H_init_59 ?_
  refine cw_G (g := 83) (by decide +kernel) ?_
  refine aw_aload_n rfl rfl d_H_init_62 ?_
  refine aw_bipush (v := nI 9) q1_cb_9 d_H_init_63 ?_
  refine cw_newa (n := 87) (N := 9) 0 .int (by simp) rfl (by decide) ca_0 kc_87 (by decide +kernel) hg (by decide) (by decide +kernel) (by decide) d_H_init_65 ?_
  refine aw_putr fp_H_27 (tk_at kc_82 (by decide)) (by decide) rfl (fun _ => rfl) (fun _ => rfl) rfl rfl d_H_init_67 ?_
  refine cw_G (g := 84) (by decide +kernel) ?_
  refine aw_aload_n rfl rfl d_H_init_70 ?_
  refine cw_new (n := 88) (ci := 4) (N := 3) (q := ("SinglesUp$Lines", zT4, 3)) rfl rfl cl_H_30 cz_4.1 cz_4.2 kc_88 (by decide +kernel) (by decide +kernel) hg (by decide) (by decide +kernel) (by decide) d_H_init_71 ?_
  refine aw_dup rfl d_H_init_74 ?_
  refine cw_callI (as := []) (d' := 11) (lf2 := 92) (sf2 := 10176) 3 1452 mo_L_init lk_H_32 rfl ⟨by decide, by decide⟩ rfl rfl (by decide) hg (by decide +kernel) (by decide +kernel) (by decide) d_H_init_75 ?_
  refine aw_aload_n rfl rfl d_L_init_0 ?_
  refine aw_objInit oi_L_3 oi_z.1 oi_z.2 ⟨by decide, by decide⟩ (by decide) d_L_init_1 ?_
  refine aw_aload_n rfl rfl d_L_init_4 ?_
  refine aw_sipush (v := nI 1440) cs_1440 d_L_init_5 ?_
  refine cw_newa (n := 89) (N := 1440) 0 .int (by simp) rfl (by decide) ca_0 kc_89 (by decide +kernel) hg (by decide) (by decide +kernel) (by decide) d_L_init_8 ?_
  refine aw_putr fp_L_9 (tk_at kc_88 (by decide)) (by decide) rfl (fun _ => rfl) (fun _ => rfl) rfl rfl d_L_init_10 ?_
  refine cw_G (g := 85) (by decide +kernel) ?_
  refine aw_aload_n rfl rfl d_L_init_13 ?_
  refine aw_bipush (v := nI 6) q1_cb_6 d_L_init_14 ?_
  refine cw_newa (n := 90) (N := 6) 0 .int (by simp) rfl (by decide) ca_0 kc_90 (by decide +kernel) hg (by decide) (by decide +kernel) (by decide) d_L_init_16 ?_
  refine aw_putr fp_L_15 (tk_at kc_88 (by decide)) (by decide) rfl (fun _ => rfl) (fun _ => rfl) rfl rfl d_L_init_18 ?_
  refine cw_G (g := 86) (by decide +kernel) ?_
  refine aw_aload_n rfl rfl d_L_init_21 ?_
  refine aw_bipush (v := nI 6) q1_cb_6 d_L_init_22 ?_
  refine cw_newa (n := 91) (N := 6) 0 .int (by simp) rfl (by decide) ca_0 kc_91 (by decide +kernel) hg (by decide) (by decide +kernel) (by decide) d_L_init_24 ?_
  refine aw_putr fp_L_18 (tk_at kc_88 (by decide)) (by decide) rfl (fun _ => rfl) (fun _ => rfl) rfl rfl d_L_init_26 ?_
  refine cw_G (g := 87) (by decide +kernel) ?_
  refine aw_aload_n rfl rfl d_L_init_29 ?_
  refine aw_getr fl_L_18 (tk_at kc_88 (by decide)) (by decide) rfl (r := 91) (by decide +kernel) d_L_init_30 ?_
  refine aw_bipush (v := nI 9) q1_cb_9 d_L_init_33 ?_
  refine cw_callS (as := [.ref 91, .int (nI 9)]) (d' := 10) (lf2 := 92) (sf2 := 10176) 0 0 mo_JA_fill lk_L_21 rfl ⟨by decide, by decide⟩ rfl rfl (by decide) hg (by decide +kernel) (by decide +kernel) (by decide) d_L_init_35 ?_
  refine aw_iconst (v := nI 0) ci_0 d_JA_fill_0 ?_
  refine aw_istore_n (lv2 := [.ref 91, .int (nI 9), .int (nI 0), uu]) rfl (by decide) rfl d_JA_fill_1 ?_
  refine aw_aload_n rfl rfl d_JA_fill_2 ?_
  refine aw_alen (tk_at kc_91 (by decide)) (by decide) d_JA_fill_3 ?_
  refine aw_istore_n (lv2 := [.ref 91, .int (nI 9), .int (nI 0), .int (nI 6)]) rfl (by decide) rfl d_JA_fill_4 ?_
  refine aw_iload_n rfl rfl d_JA_fill_5 ?_
  refine aw_iload_n rfl rfl d_JA_fill_6 ?_
  refine aw_icmp_geI (tgt := 20) (0) (6) (by decide +kernel) (by decide +kernel) (by decide) d_JA_fill_7 (fun q => absurd q (by decide)) (fun _ => ?_)
  refine aw_aload_n rfl rfl d_JA_fill_10 ?_
  refine aw_iload_n rfl rfl d_JA_fill_11 ?_
  refine aw_iload_n rfl rfl d_JA_fill_12 ?_
  refine aw_iast (j := 0) (tk_at kc_91 (by decide)) (vp_in_nI (by decide) (by decide)) (nI_clamp (by decide)) d_JA_fill_13 ?_
  refine cw_I (k := 32) (by decide +kernel) ?_
  refine aw_iinc (v := nI 1) (lv2 := [.ref 91, .int (nI 9), .int (nI 1), .int (nI 6)]) rfl (by decide +kernel) (by decide) rfl d_JA_fill_14 ?_
  refine aw_goto (tgt := 5) (by decide) d_JA_fill_17 ?_
  refine aw_iload_n rfl rfl d_JA_fill_5 ?_
  refine aw_iload_n rfl rfl d_JA_fill_6 ?_
  refine aw_icmp_geI (tgt := 20) (1) (6) (by decide +kernel) (by decide +kernel) (by decide) d_JA_fill_7 (fun q => absurd q (by decide)) (fun _ => ?_)
  refine aw_aload_n rfl rfl d_JA_fill_10 ?_
  refine aw_iload_n rfl rfl d_JA_fill_11 ?_
  refine aw_iload_n rfl rfl d_JA_fill_12 ?_
  refine aw_iast (j := 1) (tk_at kc_91 (by decide)) (vp_in_nI (by decide) (by decide)) (nI_clamp (by decide)) d_JA_fill_13 ?_
  refine cw_I (k := 33) (by decide +kernel) ?_
  refine aw_iinc (v := nI 2) (lv2 := [.ref 91, .int (nI 9), .int (nI 2), .int (nI 6)]) rfl (by decide +kernel) (by decide) rfl d_JA_fill_14 ?_
  refine aw_goto (tgt := 5) (by decide) d_JA_fill_17 ?_
  refine aw_iload_n rfl rfl d_JA_fill_5 ?_
  refine aw_iload_n rfl rfl d_JA_fill_6 ?_
  refine aw_icmp_geI (tgt := 20) (2) (6) (by decide +kernel) (by decide +kernel) (by decide) d_JA_fill_7 (fun q => absurd q (by decide)) (fun _ => ?_)
  refine aw_aload_n rfl rfl d_JA_fill_10 ?_
  refine aw_iload_n rfl rfl d_JA_fill_11 ?_
  refine aw_iload_n rfl rfl d_JA_fill_12 ?_
  refine aw_iast (j := 2) (tk_at kc_91 (by decide)) (vp_in_nI (by decide) (by decide)) (nI_clamp (by decide)) d_JA_fill_13 ?_
  refine cw_I (k := 34) (by decide +kernel) ?_
  refine aw_iinc (v := nI 3) (lv2 := [.ref 91, .int (nI 9), .int (nI 3), .int (nI 6)]) rfl (by decide +kernel) (by decide) rfl d_JA_fill_14 ?_
  refine aw_goto (tgt := 5) (by decide) d_JA_fill_17 ?_
  refine aw_iload_n rfl rfl d_JA_fill_5 ?_
  refine aw_iload_n rfl rfl d_JA_fill_6 ?_
  refine aw_icmp_geI (tgt := 20) (3) (6) (by decide +kernel) (by decide +kernel) (by decide) d_JA_fill_7 (fun q => absurd q (by decide)) (fun _ => ?_)
  refine aw_aload_n rfl rfl d_JA_fill_10 ?_
  refine aw_iload_n rfl rfl d_JA_fill_11 ?_
  refine aw_iload_n rfl rfl d_JA_fill_12 ?_
  refine aw_iast (j := 3) (tk_at kc_91 (by decide)) (vp_in_nI (by decide) (by decide)) (nI_clamp (by decide)) d_JA_fill_13 ?_
  refine cw_I (k := 35) (by decide +kernel) ?_
  refine aw_iinc (v := nI 4) (lv2 := [.ref 91, .int (nI 9), .int (nI 4), .int (nI 6)]) rfl (by decide +kernel) (by decide) rfl d_JA_fill_14 ?_
  refine aw_goto (tgt := 5) (by decide) d_JA_fill_17 ?_
  refine aw_iload_n rfl rfl d_JA_fill_5 ?_
  refine aw_iload_n rfl rfl d_JA_fill_6 ?_
  refine aw_icmp_geI (tgt := 20) (4) (6) (by decide +kernel) (by decide +kernel) (by decide) d_JA_fill_7 (fun q => absurd q (by decide)) (fun _ => ?_)
  refine aw_aload_n rfl rfl d_JA_fill_10 ?_
  refine aw_iload_n rfl rfl d_JA_fill_11 ?_
  refine aw_iload_n rfl rfl d_JA_fill_12 ?_
  refine aw_iast (j := 4) (tk_at kc_91 (by decide)) (vp_in_nI (by decide) (by decide)) (nI_clamp (by decide)) d_JA_fill_13 ?_
  refine cw_I (k := 36) (by decide +kernel) ?_
  refine aw_iinc (v := nI 5) (lv2 := [.ref 91, .int (nI 9), .int (nI 5), .int (nI 6)]) rfl (by decide +kernel) (by decide) rfl d_JA_fill_14 ?_
  refine aw_goto (tgt := 5) (by decide) d_JA_fill_17 ?_
  refine aw_iload_n rfl rfl d_JA_fill_5 ?_
  refine aw_iload_n rfl rfl d_JA_fill_6 ?_
  refine aw_icmp_geI (tgt := 20) (5) (6) (by decide +kernel) (by decide +kernel) (by decide) d_JA_fill_7 (fun q => absurd q (by decide)) (fun _ => ?_)
  refine aw_aload_n rfl rfl d_JA_fill_10 ?_
  refine aw_iload_n rfl rfl d_JA_fill_11 ?_
  refine aw_iload_n rfl rfl d_JA_fill_12 ?_
  refine aw_iast (j := 5) (tk_at kc_91 (by decide)) (vp_in_nI (by decide) (by decide)) (nI_clamp (by decide)) d_JA_fill_13 ?_
  refine cw_I (k := 37) (by decide +kernel) ?_
  refine aw_iinc (v := nI 6) (lv2 := [.ref 91, .int (nI 9), .int (nI 6), .int (nI 6)]) rfl (by decide +kernel) (by decide) rfl d_JA_fill_14 ?_
  refine aw_goto (tgt := 5) (by decide) d_JA_fill_17 ?_
  refine aw_iload_n rfl rfl d_JA_fill_5 ?_
  refine aw_iload_n rfl rfl d_JA_fill_6 ?_
  refine aw_icmp_geI (tgt := 20) (6) (6) (by decide +kernel) (by decide +kernel) (by decide) d_JA_fill_7 (fun _ => ?_) (fun q => absurd q (by decide))
  refine cw_retv rfl d_JA_fill_20 (by decide +kernel) (by decide +kernel) ?_
  refine cw_retv rfl d_L_init_38 (by decide +kernel) (by decide +kernel) ?_
  refine aw_putr fp_H_33 (tk_at kc_82 (by decide)) (by decide) rfl (fun _ => rfl) (fun _ => rfl) rfl rfl d_H_init_78 ?_
  refine cw_G (g := 88) (by decide +kernel) ?_
  refine aw_aload_n rfl rfl d_H_init_81 ?_
  refine aw_bipush (v := nI 40) q1_cb_40 d_H_init_82 ?_
  refine cw_newa (n := 92) (N := 40) 0 .int (by simp) rfl (by decide) ca_0 kc_92 (by decide +kernel) hg (by decide) (by decide +kernel) (by decide) d_H_init_84 ?_
  refine aw_putr fp_H_37 (tk_at kc_82 (by decide)) (by decide) rfl (fun _ => rfl) (fun _ => rfl) rfl rfl d_H_init_86 ?_
  refine cw_G (g := 89) (by decide +kernel) ?_
  refine aw_aload_n rfl rfl d_H_init_89 ?_
  refine aw_bipush (v := nI 30) q1_cb_30 d_H_init_90 ?_
  refine cw_newa (n := 93) (N := 30) 0 .int (by simp) rfl (by decide) ca_0 kc_93 (by decide +kernel) hg (by decide) (by decide +kernel) (by decide) d_H_init_92 ?_
  refine aw_putr fp_H_40 (tk_at kc_82 (by decide)) (by decide) rfl (fun _ => rfl) (fun _ => rfl) rfl rfl d_H_init_94 ?_
  refine cw_G (g := 90) (by decide +kernel) ?_
  refine aw_aload_n rfl rfl d_H_init_97 ?_
  refine aw_sipush (v := nI 180) cs_180 d_H_init_98 ?_
  refine cw_newa (n := 94) (N := 180) 0 .int (by simp) rfl (by decide) ca_0 kc_94 (by decide +kernel) hg (by decide) (by decide +kernel) (by decide) d_H_init_101 ?_
  refine aw_putr fp_H_43 (tk_at kc_82 (by decide)) (by decide) rfl (fun _ => rfl) (fun _ => rfl) rfl rfl d_H_init_103 ?_
  refine cw_G (g := 91) (by decide +kernel) ?_
  refine aw_aload_n rfl rfl d_H_init_106 ?_
  refine aw_iconst (v := (-1 : Int32)) rfl d_H_init_107 ?_
  refine aw_puti fl_H_46 (tk_at kc_82 (by decide)) (by decide) rfl rfl rfl rfl d_H_init_108 ?_
  refine cw_I (k := 38) (by decide +kernel) ?_
  refine aw_aload_n rfl rfl d_H_init_111 ?_
  refine aw_bipush (v := nI 16) q1_cb_16 d_H_init_112 ?_
  refine cw_newa (n := 95) (N := 16) 0 .int (by simp) rfl (by decide) ca_0 kc_95 (by decide +kernel) hg (by decide) (by decide +kernel) (by decide) d_H_init_114 ?_
  refine aw_putr fp_H_50 (tk_at kc_82 (by decide)) (by decide) rfl (fun _ => rfl) (fun _ => rfl) rfl rfl d_H_init_116 ?_
  refine cw_G (g := 92) (by decide +kernel) ?_
  refine aw_aload_n rfl rfl d_H_init_119 ?_
  refine aw_bipush (v := nI 6) q1_cb_6 d_H_init_120 ?_
  refine cw_newa (n := 96) (N := 6) 0 .int (by simp) rfl (by decide) ca_0 kc_96 (by decide +kernel) hg (by decide) (by decide +kernel) (by decide) d_H_init_122 ?_
  refine aw_putr fp_H_53 (tk_at kc_82 (by decide)) (by decide) rfl (fun _ => rfl) (fun _ => rfl) rfl rfl d_H_init_124 ?_
  refine cw_G (g := 93) (by decide +kernel) ?_
  refine aw_iconst (v := nI 0) ci_0 d_H_init_127 ?_
  refine aw_istore_n (lv2 := [.ref 82, .int (nI 0)]) rfl (by decide) rfl d_H_init_128 ?_
  refine aw_iload_n rfl rfl d_H_init_129 ?_
  refine aw_aload_n rfl rfl d_H_init_130 ?_
  refine aw_getr fl_H_17 (tk_at kc_82 (by decide)) (by decide) rfl (r := 84) (by decide +kernel) d_H_init_131 ?_
  refine aw_alen (tk_at kc_84 (by decide)) (by decide) d_H_init_134 ?_
  refine aw_icmp_geI (tgt := 157) (0) (5) (by decide +kernel) (by decide +kernel) (by decide) d_H_init_135 (fun q => absurd q (by decide)) (fun _ => ?_)
  refine aw_aload_n rfl rfl d_H_init_138 ?_
  refine aw_getr fl_H_17 (tk_at kc_82 (by decide)) (by decide) rfl (r := 84) (by decide +kernel) d_H_init_139 ?_
  refine aw_iload_n rfl rfl d_H_init_142 ?_
  refine cw_new (n := 97) (ci := 3) (N := 6) (q := ("SinglesUp$Law", zT3, 6)) rfl rfl cl_H_15 cz_3.1 cz_3.2 kc_97 (by decide +kernel) (by decide +kernel) hg (by decide) (by decide +kernel) (by decide) d_H_init_143 ?_
  refine aw_dup rfl d_H_init_146 ?_
  refine cw_callI (as := []) (d' := 11) (lf2 := 102) (sf2 := 10951) 4 497 mo_W_init lk_H_56 rfl ⟨by decide, by decide⟩ rfl rfl (by decide) hg (by decide +kernel) (by decide +kernel) (by decide) d_H_init_147 ?_
  refine aw_aload_n rfl rfl d_W_init_0 ?_
  refine aw_objInit oi_W_1 oi_z.1 oi_z.2 ⟨by decide, by decide⟩ (by decide) d_W_init_1 ?_
  refine aw_aload_n rfl rfl d_W_init_4 ?_
  refine aw_sipush (v := nI 400) q1_cs_400 d_W_init_5 ?_
  refine cw_newa (n := 98) (N := 400) 0 .int (by simp) rfl (by decide) ca_0 kc_98 (by decide +kernel) hg (by decide) (by decide +kernel) (by decide) d_W_init_8 ?_
  refine aw_putr fp_W_9 (tk_at kc_97 (by decide)) (by decide) rfl (fun _ => rfl) (fun _ => rfl) rfl rfl d_W_init_10 ?_
  refine cw_G (g := 94) (by decide +kernel) ?_
  refine aw_aload_n rfl rfl d_W_init_13 ?_
  refine aw_bipush (v := nI 17) q1_cb_17 d_W_init_14 ?_
  refine cw_newa (n := 99) (N := 17) 0 .int (by simp) rfl (by decide) ca_0 kc_99 (by decide +kernel) hg (by decide) (by decide +kernel) (by decide) d_W_init_16 ?_
  refine aw_putr fp_W_13 (tk_at kc_97 (by decide)) (by decide) rfl (fun _ => rfl) (fun _ => rfl) rfl rfl d_W_init_18 ?_
  refine cw_G (g := 95) (by decide +kernel) ?_
  refine aw_aload_n rfl rfl d_W_init_21 ?_
  refine aw_bipush (v := nI 16) q1_cb_16 d_W_init_22 ?_
  refine cw_newa (n := 100) (N := 16) 0 .int (by simp) rfl (by decide) ca_0 kc_100 (by decide +kernel) hg (by decide) (by decide +kernel) (by decide) d_W_init_24 ?_
  refine aw_putr fp_W_16 (tk_at kc_97 (by decide)) (by decide) rfl (fun _ => rfl) (fun _ => rfl) rfl rfl d_W_init_26 ?_
  refine cw_G (g := 96) (by decide +kernel) ?_
  refine aw_aload_n rfl rfl d_W_init_29 ?_
  refine aw_bipush (v := nI 64) cb_64 d_W_init_30 ?_
  refine cw_newa (n := 101) (N := 64) 0 .int (by simp) rfl (by decide) ca_0 kc_101 (by decide +kernel) hg (by decide) (by decide +kernel) (by decide) d_W_init_32 ?_
  refine aw_putr fp_W_19 (tk_at kc_97 (by decide)) (by decide) rfl (fun _ => rfl) (fun _ => rfl) rfl rfl d_W_init_34 ?_
  refine cw_G (g := 97) (by decide +kernel) ?_
  refine cw_retv rfl d_W_init_37 (by decide +kernel) (by decide +kernel) ?_
  refine aw_aast (j := 0) (ci := 3) (q := ("SinglesUp$Law", zT3, 6)) (tk_at kc_84 (by decide)) (vp_in_nI (by decide) (by decide)) (nI_clamp (by decide)) (tk_at kc_97 (by decide)) rfl rfl d_H_init_150 ?_
  refine cw_G (g := 98) (by decide +kernel) ?_
  refine aw_iinc (v := nI 1) (lv2 := [.ref 82, .int (nI 1)]) rfl (by decide +kernel) (by decide) rfl d_H_init_151 ?_
  refine aw_goto (tgt := 129) (by decide) d_H_init_154 ?_
  refine aw_iload_n rfl rfl d_H_init_129 ?_
  refine aw_aload_n rfl rfl d_H_init_130 ?_
  refine aw_getr fl_H_17 (tk_at kc_82 (by decide)) (by decide) rfl (r := 84) (by decide +kernel) d_H_init_131 ?_
  refine aw_alen (tk_at kc_84 (by decide)) (by decide) d_H_init_134 ?_
  refine aw_icmp_geI (tgt := 157) (1) (5) (by decide +kernel) (by decide +kernel) (by decide) d_H_init_135 (fun q => absurd q (by decide)) (fun _ => ?_)
  refine aw_aload_n rfl rfl d_H_init_138 ?_
  refine aw_getr fl_H_17 (tk_at kc_82 (by decide)) (by decide) rfl (r := 84) (by decide +kernel) d_H_init_139 ?_
  refine aw_iload_n rfl rfl d_H_init_142 ?_
  refine cw_new (n := 102) (ci := 3) (N := 6) (q := ("SinglesUp$Law", zT3, 6)) rfl rfl cl_H_15 cz_3.1 cz_3.2 kc_102 (by decide +kernel) (by decide +kernel) hg (by decide) (by decide +kernel) (by decide) d_H_init_143 ?_
  refine aw_dup rfl d_H_init_146 ?_
  refine cw_callI (as := []) (d' := 11) (lf2 := 107) (sf2 := 11454) 4 497 mo_W_init lk_H_56 rfl ⟨by decide, by decide⟩ rfl rfl (by decide) hg (by decide +kernel) (by decide +kernel) (by decide) d_H_init_147 ?_
  refine aw_aload_n rfl rfl d_W_init_0 ?_
  refine aw_objInit oi_W_1 oi_z.1 oi_z.2 ⟨by decide, by decide⟩ (by decide) d_W_init_1 ?_
  refine aw_aload_n rfl rfl d_W_init_4 ?_
  refine aw_sipush (v := nI 400) q1_cs_400 d_W_init_5 ?_
  refine cw_newa (n := 103) (N := 400) 0 .int (by simp) rfl (by decide) ca_0 kc_103 (by decide +kernel) hg (by decide) (by decide +kernel) (by decide) d_W_init_8 ?_
  refine aw_putr fp_W_9 (tk_at kc_102 (by decide)) (by decide) rfl (fun _ => rfl) (fun _ => rfl) rfl rfl d_W_init_10 ?_
  refine cw_G (g := 99) (by decide +kernel) ?_
  refine aw_aload_n rfl rfl d_W_init_13 ?_
  refine aw_bipush (v := nI 17) q1_cb_17 d_W_init_14 ?_
  refine cw_newa (n := 104) (N := 17) 0 .int (by simp) rfl (by decide) ca_0 kc_104 (by decide +kernel) hg (by decide) (by decide +kernel) (by decide) d_W_init_16 ?_
  refine aw_putr fp_W_13 (tk_at kc_102 (by decide)) (by decide) rfl (fun _ => rfl) (fun _ => rfl) rfl rfl d_W_init_18 ?_
  refine cw_G (g := 100) (by decide +kernel) ?_
  refine aw_aload_n rfl rfl d_W_init_21 ?_
  refine aw_bipush (v := nI 16) q1_cb_16 d_W_init_22 ?_
  refine cw_newa (n := 105) (N := 16) 0 .int (by simp) rfl (by decide) ca_0 kc_105 (by decide +kernel) hg (by decide) (by decide +kernel) (by decide) d_W_init_24 ?_
  refine aw_putr fp_W_16 (tk_at kc_102 (by decide)) (by decide) rfl (fun _ => rfl) (fun _ => rfl) rfl rfl d_W_init_26 ?_
  refine cw_G (g := 101) (by decide +kernel) ?_
  refine aw_aload_n rfl rfl d_W_init_29 ?_
  refine aw_bipush (v := nI 64) cb_64 d_W_init_30 ?_
  refine cw_newa (n := 106) (N := 64) 0 .int (by simp) rfl (by decide) ca_0 kc_106 (by decide +kernel) hg (by decide) (by decide +kernel) (by decide) d_W_init_32 ?_
  refine aw_putr fp_W_19 (tk_at kc_102 (by decide)) (by decide) rfl (fun _ => rfl) (fun _ => rfl) rfl rfl d_W_init_34 ?_
  refine cw_G (g := 102) (by decide +kernel) ?_
  refine cw_retv rfl d_W_init_37 (by decide +kernel) (by decide +kernel) ?_
  refine aw_aast (j := 1) (ci := 3) (q := ("SinglesUp$Law", zT3, 6)) (tk_at kc_84 (by decide)) (vp_in_nI (by decide) (by decide)) (nI_clamp (by decide)) (tk_at kc_102 (by decide)) rfl rfl d_H_init_150 ?_
  refine cw_G (g := 103) (by decide +kernel) ?_
  refine aw_iinc (v := nI 2) (lv2 := [.ref 82, .int (nI 2)]) rfl (by decide +kernel) (by decide) rfl d_H_init_151 ?_
  refine aw_goto (tgt := 129) (by decide) d_H_init_154 ?_
  refine aw_iload_n rfl rfl d_H_init_129 ?_
  refine aw_aload_n rfl rfl d_H_init_130 ?_
  refine aw_getr fl_H_17 (tk_at kc_82 (by decide)) (by decide) rfl (r := 84) (by decide +kernel) d_H_init_131 ?_
  refine aw_alen (tk_at kc_84 (by decide)) (by decide) d_H_init_134 ?_
  refine aw_icmp_geI (tgt := 157) (2) (5) (by decide +kernel) (by decide +kernel) (by decide) d_H_init_135 (fun q => absurd q (by decide)) (fun _ => ?_)
  refine aw_aload_n rfl rfl d_H_init_138 ?_
  refine aw_getr fl_H_17 (tk_at kc_82 (by decide)) (by decide) rfl (r := 84) (by decide +kernel) d_H_init_139 ?_
  refine aw_iload_n rfl rfl d_H_init_142 ?_
  refine cw_new (n := 107) (ci := 3) (N := 6) (q := ("SinglesUp$Law", zT3, 6)) rfl rfl cl_H_15 cz_3.1 cz_3.2 kc_107 (by decide +kernel) (by decide +kernel) hg (by decide) (by decide +kernel) (by decide) d_H_init_143 ?_
  refine aw_dup rfl d_H_init_146 ?_
  refine cw_callI (as := []) (d' := 11) (lf2 := 112) (sf2 := 11957) 4 497 mo_W_init lk_H_56 rfl ⟨by decide, by decide⟩ rfl rfl (by decide) hg (by decide +kernel) (by decide +kernel) (by decide) d_H_init_147 ?_
  refine aw_aload_n rfl rfl d_W_init_0 ?_
  refine aw_objInit oi_W_1 oi_z.1 oi_z.2 ⟨by decide, by decide⟩ (by decide) d_W_init_1 ?_
  refine aw_aload_n rfl rfl d_W_init_4 ?_
  refine aw_sipush (v := nI 400) q1_cs_400 d_W_init_5 ?_
  refine cw_newa (n := 108) (N := 400) 0 .int (by simp) rfl (by decide) ca_0 kc_108 (by decide +kernel) hg (by decide) (by decide +kernel) (by decide) d_W_init_8 ?_
  refine aw_putr fp_W_9 (tk_at kc_107 (by decide)) (by decide) rfl (fun _ => rfl) (fun _ => rfl) rfl rfl d_W_init_10 ?_
  refine cw_G (g := 104) (by decide +kernel) ?_
  refine aw_aload_n rfl rfl d_W_init_13 ?_
  refine aw_bipush (v := nI 17) q1_cb_17 d_W_init_14 ?_
  refine cw_newa (n := 109) (N := 17) 0 .int (by simp) rfl (by decide) ca_0 kc_109 (by decide +kernel) hg (by decide) (by decide +kernel) (by decide) d_W_init_16 ?_
  refine aw_putr fp_W_13 (tk_at kc_107 (by decide)) (by decide) rfl (fun _ => rfl) (fun _ => rfl) rfl rfl d_W_init_18 ?_
  refine cw_G (g := 105) (by decide +kernel) ?_
  refine aw_aload_n rfl rfl d_W_init_21 ?_
  refine aw_bipush (v := nI 16) q1_cb_16 d_W_init_22 ?_
  refine cw_newa (n := 110) (N := 16) 0 .int (by simp) rfl (by decide) ca_0 kc_110 (by decide +kernel) hg (by decide) (by decide +kernel) (by decide) d_W_init_24 ?_
  refine aw_putr fp_W_16 (tk_at kc_107 (by decide)) (by decide) rfl (fun _ => rfl) (fun _ => rfl) rfl rfl d_W_init_26 ?_
  refine cw_G (g := 106) (by decide +kernel) ?_
  refine aw_aload_n rfl rfl d_W_init_29 ?_
  refine aw_bipush (v := nI 64) cb_64 d_W_init_30 ?_
  refine cw_newa (n := 111) (N := 64) 0 .int (by simp) rfl (by decide) ca_0 kc_111 (by decide +kernel) hg (by decide) (by decide +kernel) (by decide) d_W_init_32 ?_
  refine aw_putr fp_W_19 (tk_at kc_107 (by decide)) (by decide) rfl (fun _ => rfl) (fun _ => rfl) rfl rfl d_W_init_34 ?_
  refine cw_G (g := 107) (by decide +kernel) ?_
  refine cw_retv rfl d_W_init_37 (by decide +kernel) (by decide +kernel) ?_
  refine aw_aast (j := 2) (ci := 3) (q := ("SinglesUp$Law", zT3, 6)) (tk_at kc_84 (by decide)) (vp_in_nI (by decide) (by decide)) (nI_clamp (by decide)) (tk_at kc_107 (by decide)) rfl rfl d_H_init_150 ?_
  refine cw_G (g := 108) (by decide +kernel) ?_
  refine aw_iinc (v := nI 3) (lv2 := [.ref 82, .int (nI 3)]) rfl (by decide +kernel) (by decide) rfl d_H_init_151 ?_
  refine aw_goto (tgt := 129) (by decide) d_H_init_154 ?_
  refine aw_iload_n rfl rfl d_H_init_129 ?_
  refine aw_aload_n rfl rfl d_H_init_130 ?_
  refine aw_getr fl_H_17 (tk_at kc_82 (by decide)) (by decide) rfl (r := 84) (by decide +kernel) d_H_init_131 ?_
  refine aw_alen (tk_at kc_84 (by decide)) (by decide) d_H_init_134 ?_
  refine aw_icmp_geI (tgt := 157) (3) (5) (by decide +kernel) (by decide +kernel) (by decide) d_H_init_135 (fun q => absurd q (by decide)) (fun _ => ?_)
  refine aw_aload_n rfl rfl d_H_init_138 ?_
  refine aw_getr fl_H_17 (tk_at kc_82 (by decide)) (by decide) rfl (r := 84) (by decide +kernel) d_H_init_139 ?_
  refine aw_iload_n rfl rfl d_H_init_142 ?_
  refine cw_new (n := 112) (ci := 3) (N := 6) (q := ("SinglesUp$Law", zT3, 6)) rfl rfl cl_H_15 cz_3.1 cz_3.2 kc_112 (by decide +kernel) (by decide +kernel) hg (by decide) (by decide +kernel) (by decide) d_H_init_143 ?_
  refine aw_dup rfl d_H_init_146 ?_
  refine cw_callI (as := []) (d' := 11) (lf2 := 117) (sf2 := 12460) 4 497 mo_W_init lk_H_56 rfl ⟨by decide, by decide⟩ rfl rfl (by decide) hg (by decide +kernel) (by decide +kernel) (by decide) d_H_init_147 ?_
  refine aw_aload_n rfl rfl d_W_init_0 ?_
  refine aw_objInit oi_W_1 oi_z.1 oi_z.2 ⟨by decide, by decide⟩ (by decide) d_W_init_1 ?_
  refine aw_aload_n rfl rfl d_W_init_4 ?_
  refine aw_sipush (v := nI 400) q1_cs_400 d_W_init_5 ?_
  refine cw_newa (n := 113) (N := 400) 0 .int (by simp) rfl (by decide) ca_0 kc_113 (by decide +kernel) hg (by decide) (by decide +kernel) (by decide) d_W_init_8 ?_
  refine aw_putr fp_W_9 (tk_at kc_112 (by decide)) (by decide) rfl (fun _ => rfl) (fun _ => rfl) rfl rfl d_W_init_10 ?_
  refine cw_G (g := 109) (by decide +kernel) ?_
  refine aw_aload_n rfl rfl d_W_init_13 ?_
  refine aw_bipush (v := nI 17) q1_cb_17 d_W_init_14 ?_
  refine cw_newa (n := 114) (N := 17) 0 .int (by simp) rfl (by decide) ca_0 kc_114 (by decide +kernel) hg (by decide) (by decide +kernel) (by decide) d_W_init_16 ?_
  refine aw_putr fp_W_13 (tk_at kc_112 (by decide)) (by decide) rfl (fun _ => rfl) (fun _ => rfl) rfl rfl d_W_init_18 ?_
  refine cw_G (g := 110) (by decide +kernel) ?_
  refine aw_aload_n rfl rfl d_W_init_21 ?_
  refine aw_bipush (v := nI 16) q1_cb_16 d_W_init_22 ?_
  refine cw_newa (n := 115) (N := 16) 0 .int (by simp) rfl (by decide) ca_0 kc_115 (by decide +kernel) hg (by decide) (by decide +kernel) (by decide) d_W_init_24 ?_
  refine aw_putr fp_W_16 (tk_at kc_112 (by decide)) (by decide) rfl (fun _ => rfl) (fun _ => rfl) rfl rfl d_W_init_26 ?_
  refine cw_G (g := 111) (by decide +kernel) ?_
  refine aw_aload_n rfl rfl d_W_init_29 ?_
  refine aw_bipush (v := nI 64) cb_64 d_W_init_30 ?_
  refine cw_newa (n := 116) (N := 64) 0 .int (by simp) rfl (by decide) ca_0 kc_116 (by decide +kernel) hg (by decide) (by decide +kernel) (by decide) d_W_init_32 ?_
  refine aw_putr fp_W_19 (tk_at kc_112 (by decide)) (by decide) rfl (fun _ => rfl) (fun _ => rfl) rfl rfl d_W_init_34 ?_
  refine cw_G (g := 112) (by decide +kernel) ?_
  refine cw_retv rfl d_W_init_37 (by decide +kernel) (by decide +kernel) ?_
  refine aw_aast (j := 3) (ci := 3) (q := ("SinglesUp$Law", zT3, 6)) (tk_at kc_84 (by decide)) (vp_in_nI (by decide) (by decide)) (nI_clamp (by decide)) (tk_at kc_112 (by decide)) rfl rfl d_H_init_150 ?_
  refine cw_G (g := 113) (by decide +kernel) ?_
  refine aw_iinc (v := nI 4) (lv2 := [.ref 82, .int (nI 4)]) rfl (by decide +kernel) (by decide) rfl d_H_init_151 ?_
  refine aw_goto (tgt := 129) (by decide) d_H_init_154 ?_
  refine aw_iload_n rfl rfl d_H_init_129 ?_
  refine aw_aload_n rfl rfl d_H_init_130 ?_
  refine aw_getr fl_H_17 (tk_at kc_82 (by decide)) (by decide) rfl (r := 84) (by decide +kernel) d_H_init_131 ?_
  refine aw_alen (tk_at kc_84 (by decide)) (by decide) d_H_init_134 ?_
  refine aw_icmp_geI (tgt := 157) (4) (5) (by decide +kernel) (by decide +kernel) (by decide) d_H_init_135 (fun q => absurd q (by decide)) (fun _ => ?_)
  refine aw_aload_n rfl rfl d_H_init_138 ?_
  refine aw_getr fl_H_17 (tk_at kc_82 (by decide)) (by decide) rfl (r := 84) (by decide +kernel) d_H_init_139 ?_
  refine aw_iload_n rfl rfl d_H_init_142 ?_
  refine cw_new (n := 117) (ci := 3) (N := 6) (q := ("SinglesUp$Law", zT3, 6)) rfl rfl cl_H_15 cz_3.1 cz_3.2 kc_117 (by decide +kernel) (by decide +kernel) hg (by decide) (by decide +kernel) (by decide) d_H_init_143 ?_
  refine aw_dup rfl d_H_init_146 ?_
  refine cw_callI (as := []) (d' := 11) (lf2 := 122) (sf2 := 12963) 4 497 mo_W_init lk_H_56 rfl ⟨by decide, by decide⟩ rfl rfl (by decide) hg (by decide +kernel) (by decide +kernel) (by decide) d_H_init_147 ?_
  refine aw_aload_n rfl rfl d_W_init_0 ?_
  refine aw_objInit oi_W_1 oi_z.1 oi_z.2 ⟨by decide, by decide⟩ (by decide) d_W_init_1 ?_
  refine aw_aload_n rfl rfl d_W_init_4 ?_
  refine aw_sipush (v := nI 400) q1_cs_400 d_W_init_5 ?_
  refine cw_newa (n := 118) (N := 400) 0 .int (by simp) rfl (by decide) ca_0 kc_118 (by decide +kernel) hg (by decide) (by decide +kernel) (by decide) d_W_init_8 ?_
  refine aw_putr fp_W_9 (tk_at kc_117 (by decide)) (by decide) rfl (fun _ => rfl) (fun _ => rfl) rfl rfl d_W_init_10 ?_
  refine cw_G (g := 114) (by decide +kernel) ?_
  refine aw_aload_n rfl rfl d_W_init_13 ?_
  refine aw_bipush (v := nI 17) q1_cb_17 d_W_init_14 ?_
  refine cw_newa (n := 119) (N := 17) 0 .int (by simp) rfl (by decide) ca_0 kc_119 (by decide +kernel) hg (by decide) (by decide +kernel) (by decide) d_W_init_16 ?_
  refine aw_putr fp_W_13 (tk_at kc_117 (by decide)) (by decide) rfl (fun _ => rfl) (fun _ => rfl) rfl rfl d_W_init_18 ?_
  refine cw_G (g := 115) (by decide +kernel) ?_
  refine aw_aload_n rfl rfl d_W_init_21 ?_
  refine aw_bipush (v := nI 16) q1_cb_16 d_W_init_22 ?_
  refine cw_newa (n := 120) (N := 16) 0 .int (by simp) rfl (by decide) ca_0 kc_120 (by decide +kernel) hg (by decide) (by decide +kernel) (by decide) d_W_init_24 ?_
  refine aw_putr fp_W_16 (tk_at kc_117 (by decide)) (by decide) rfl (fun _ => rfl) (fun _ => rfl) rfl rfl d_W_init_26 ?_
  refine cw_G (g := 116) (by decide +kernel) ?_
  refine aw_aload_n rfl rfl d_W_init_29 ?_
  refine aw_bipush (v := nI 64) cb_64 d_W_init_30 ?_
  refine cw_newa (n := 121) (N := 64) 0 .int (by simp) rfl (by decide) ca_0 kc_121 (by decide +kernel) hg (by decide) (by decide +kernel) (by decide) d_W_init_32 ?_
  refine aw_putr fp_W_19 (tk_at kc_117 (by decide)) (by decide) rfl (fun _ => rfl) (fun _ => rfl) rfl rfl d_W_init_34 ?_
  refine cw_G (g := 117) (by decide +kernel) ?_
  refine cw_retv rfl d_W_init_37 (by decide +kernel) (by decide +kernel) ?_
  refine aw_aast (j := 4) (ci := 3) (q := ("SinglesUp$Law", zT3, 6)) (tk_at kc_84 (by decide)) (vp_in_nI (by decide) (by decide)) (nI_clamp (by decide)) (tk_at kc_117 (by decide)) rfl rfl d_H_init_150 ?_
  refine cw_G (g := 118) (by decide +kernel) ?_
  refine aw_iinc (v := nI 5) (lv2 := [.ref 82, .int (nI 5)]) rfl (by decide +kernel) (by decide) rfl d_H_init_151 ?_
  refine aw_goto (tgt := 129) (by decide) d_H_init_154 ?_
  refine aw_iload_n rfl rfl d_H_init_129 ?_
  refine aw_aload_n rfl rfl d_H_init_130 ?_
  refine aw_getr fl_H_17 (tk_at kc_82 (by decide)) (by decide) rfl (r := 84) (by decide +kernel) d_H_init_131 ?_
  refine aw_alen (tk_at kc_84 (by decide)) (by decide) d_H_init_134 ?_
  refine aw_icmp_geI (tgt := 157) (5) (5) (by decide +kernel) (by decide +kernel) (by decide) d_H_init_135 (fun _ => ?_) (fun q => absurd q (by decide))
  refine cw_retv rfl d_H_init_157 (by decide +kernel) (by decide +kernel) ?_
  refine aw_putr fp_M_12 (tk_at kc_81 (by decide)) (by decide) rfl (fun _ => rfl) (fun _ => rfl) rfl rfl d_M_init_12 ?_
  refine cw_G (g := 119) (by decide +kernel) ?_
  refine aw_aload_n rfl rfl d_M_init_15 ?_
  refine cw_new (n := 122) (ci := 0) (N := 12) (q := ("SinglesUp$Chair", zT0, 12)) rfl rfl cl_M_18 cz_0.1 cz_0.2 kc_122 (by decide +kernel) (by decide +kernel) hg (by decide) (by decide +kernel) (by decide) d_M_init_16 ?_
  refine aw_dup rfl d_M_init_19 ?_
  refine cw_callI (as := []) (d' := 12) (lf2 := 129) (sf2 := 14383) 6 1408 mo_C_init lk_M_20 rfl ⟨by decide, by decide⟩ rfl rfl (by decide) hg (by decide +kernel) (by decide +kernel) (by decide) d_M_init_20 ?_
  refine aw_aload_n rfl rfl d_C_init_0 ?_
  refine aw_objInit oi_C_3 oi_z.1 oi_z.2 ⟨by decide, by decide⟩ (by decide) d_C_init_1 ?_
  refine aw_aload_n rfl rfl d_C_init_4 ?_
  refine aw_sipush (v := nI 240) q1_cs_240 d_C_init_5 ?_
  refine cw_newa (n := 123) (N := 240) 0 .int (by simp) rfl (by decide) ca_0 kc_123 (by decide +kernel) hg (by decide) (by decide +kernel) (by decide) d_C_init_8 ?_
  refine aw_putr fp_C_9 (tk_at kc_122 (by decide)) (by decide) rfl (fun _ => rfl) (fun _ => rfl) rfl rfl d_C_init_10 ?_
  refine cw_G (g := 120) (by decide +kernel) ?_
  refine aw_aload_n rfl rfl d_C_init_13 ?_
  refine aw_bipush (v := nI 8) q1_cb_8 d_C_init_14 ?_
  refine cw_newa (n := 124) (N := 8) 0 .int (by simp) rfl (by decide) ca_0 kc_124 (by decide +kernel) hg (by decide) (by decide +kernel) (by decide) d_C_init_16 ?_
  refine aw_putr fp_C_15 (tk_at kc_122 (by decide)) (by decide) rfl (fun _ => rfl) (fun _ => rfl) rfl rfl d_C_init_18 ?_
  refine cw_G (g := 121) (by decide +kernel) ?_
  refine aw_aload_n rfl rfl d_C_init_21 ?_
  refine aw_bipush (v := nI 8) q1_cb_8 d_C_init_22 ?_
  refine cw_newa (n := 125) (N := 8) 0 .int (by simp) rfl (by decide) ca_0 kc_125 (by decide +kernel) hg (by decide) (by decide +kernel) (by decide) d_C_init_24 ?_
  refine aw_putr fp_C_18 (tk_at kc_122 (by decide)) (by decide) rfl (fun _ => rfl) (fun _ => rfl) rfl rfl d_C_init_26 ?_
  refine cw_G (g := 122) (by decide +kernel) ?_
  refine aw_aload_n rfl rfl d_C_init_29 ?_
  refine aw_sipush (v := nI 864) cs_864 d_C_init_30 ?_
  refine cw_newa (n := 126) (N := 864) 0 .int (by simp) rfl (by decide) ca_0 kc_126 (by decide +kernel) hg (by decide) (by decide +kernel) (by decide) d_C_init_33 ?_
  refine aw_putr fp_C_21 (tk_at kc_122 (by decide)) (by decide) rfl (fun _ => rfl) (fun _ => rfl) rfl rfl d_C_init_35 ?_
  refine cw_G (g := 123) (by decide +kernel) ?_
  refine aw_aload_n rfl rfl d_C_init_38 ?_
  refine aw_sipush (v := nI 144) q1_cs_144 d_C_init_39 ?_
  refine cw_newa (n := 127) (N := 144) 0 .int (by simp) rfl (by decide) ca_0 kc_127 (by decide +kernel) hg (by decide) (by decide +kernel) (by decide) d_C_init_42 ?_
  refine aw_putr fp_C_24 (tk_at kc_122 (by decide)) (by decide) rfl (fun _ => rfl) (fun _ => rfl) rfl rfl d_C_init_44 ?_
  refine cw_G (g := 124) (by decide +kernel) ?_
  refine aw_aload_n rfl rfl d_C_init_47 ?_
  refine aw_sipush (v := nI 144) q1_cs_144 d_C_init_48 ?_
  refine cw_newa (n := 128) (N := 144) 0 .int (by simp) rfl (by decide) ca_0 kc_128 (by decide +kernel) hg (by decide) (by decide +kernel) (by decide) d_C_init_51 ?_
  refine aw_putr fp_C_27 (tk_at kc_122 (by decide)) (by decide) rfl (fun _ => rfl) (fun _ => rfl) rfl rfl d_C_init_53 ?_
  refine cw_G (g := 125) (by decide +kernel) ?_
  refine aw_aload_n rfl rfl d_C_init_56 ?_
  refine aw_iconst (v := nI 4) ci_4 d_C_init_57 ?_
  refine aw_puti fl_C_30 (tk_at kc_122 (by decide)) (by decide) rfl rfl rfl rfl d_C_init_58 ?_
  refine cw_I (k := 39) (by decide +kernel) ?_
  refine cw_retv rfl d_C_init_61 (by decide +kernel) (by decide +kernel) ?_
  refine aw_putr fp_M_21 (tk_at kc_81 (by decide)) (by decide) rfl (fun _ => rfl) (fun _ => rfl) rfl rfl d_M_init_23 ?_
  refine cw_G (g := 126) (by decide +kernel) ?_
  refine aw_aload_n rfl rfl d_M_init_26 ?_
  refine aw_iconst (v := nI 3) ci_3 d_M_init_27 ?_
  refine cw_newa (n := 129) (N := 3) 0 .int (by simp) rfl (by decide) ca_0 kc_129 (by decide +kernel) hg (by decide) (by decide +kernel) (by decide) d_M_init_28 ?_
  refine aw_putr fp_M_25 (tk_at kc_81 (by decide)) (by decide) rfl (fun _ => rfl) (fun _ => rfl) rfl rfl d_M_init_30 ?_
  refine cw_G (g := 127) (by decide +kernel) ?_
  refine cw_retv rfl d_M_init_33 (by decide +kernel) (by decide +kernel) ?_
  refine aw_putr fp_S_22 (tk_at kc_0 (by decide)) (by decide) rfl (fun _ => rfl) (fun _ => rfl) rfl rfl d_S_init_34 ?_
  refine cw_G (g := 128) (by decide +kernel) ?_
  refine aw_aload_n rfl rfl d_S_init_37 ?_
  refine cw_new (n := 130) (ci := 0) (N := 12) (q := ("SinglesUp$Chair", zT0, 12)) rfl rfl cl_S_26 cz_0.1 cz_0.2 kc_130 (by decide +kernel) (by decide +kernel) hg (by decide) (by decide +kernel) (by decide) d_S_init_38 ?_
  refine aw_dup rfl d_S_init_41 ?_
  refine cw_callI (as := []) (d' := 13) (lf2 := 137) (sf2 := 15806) 6 1408 mo_C_init lk_S_28 rfl ⟨by decide, by decide⟩ rfl rfl (by decide) hg (by decide +kernel) (by decide +kernel) (by decide) d_S_init_42 ?_
  refine aw_aload_n rfl rfl d_C_init_0 ?_
  refine aw_objInit oi_C_3 oi_z.1 oi_z.2 ⟨by decide, by decide⟩ (by decide) d_C_init_1 ?_
  refine aw_aload_n rfl rfl d_C_init_4 ?_
  refine aw_sipush (v := nI 240) q1_cs_240 d_C_init_5 ?_
  refine cw_newa (n := 131) (N := 240) 0 .int (by simp) rfl (by decide) ca_0 kc_131 (by decide +kernel) hg (by decide) (by decide +kernel) (by decide) d_C_init_8 ?_
  refine aw_putr fp_C_9 (tk_at kc_130 (by decide)) (by decide) rfl (fun _ => rfl) (fun _ => rfl) rfl rfl d_C_init_10 ?_
  refine cw_G (g := 129) (by decide +kernel) ?_
  refine aw_aload_n rfl rfl d_C_init_13 ?_
  refine aw_bipush (v := nI 8) q1_cb_8 d_C_init_14 ?_
  refine cw_newa (n := 132) (N := 8) 0 .int (by simp) rfl (by decide) ca_0 kc_132 (by decide +kernel) hg (by decide) (by decide +kernel) (by decide) d_C_init_16 ?_
  refine aw_putr fp_C_15 (tk_at kc_130 (by decide)) (by decide) rfl (fun _ => rfl) (fun _ => rfl) rfl rfl d_C_init_18 ?_
  refine cw_G (g := 130) (by decide +kernel) ?_
  refine aw_aload_n rfl rfl d_C_init_21 ?_
  refine aw_bipush (v := nI 8) q1_cb_8 d_C_init_22 ?_
  refine cw_newa (n := 133) (N := 8) 0 .int (by simp) rfl (by decide) ca_0 kc_133 (by decide +kernel) hg (by decide) (by decide +kernel) (by decide) d_C_init_24 ?_
  refine aw_putr fp_C_18 (tk_at kc_130 (by decide)) (by decide) rfl (fun _ => rfl) (fun _ => rfl) rfl rfl d_C_init_26 ?_
  refine cw_G (g := 131) (by decide +kernel) ?_
  refine aw_aload_n rfl rfl d_C_init_29 ?_
  refine aw_sipush (v := nI 864) cs_864 d_C_init_30 ?_
  refine cw_newa (n := 134) (N := 864) 0 .int (by simp) rfl (by decide) ca_0 kc_134 (by decide +kernel) hg (by decide) (by decide +kernel) (by decide) d_C_init_33 ?_
  refine aw_putr fp_C_21 (tk_at kc_130 (by decide)) (by decide) rfl (fun _ => rfl) (fun _ => rfl) rfl rfl d_C_init_35 ?_
  refine cw_G (g := 132) (by decide +kernel) ?_
  refine aw_aload_n rfl rfl d_C_init_38 ?_
  refine aw_sipush (v := nI 144) q1_cs_144 d_C_init_39 ?_
  refine cw_newa (n := 135) (N := 144) 0 .int (by simp) rfl (by decide) ca_0 kc_135 (by decide +kernel) hg (by decide) (by decide +kernel) (by decide) d_C_init_42 ?_
  refine aw_putr fp_C_24 (tk_at kc_130 (by decide)) (by decide) rfl (fun _ => rfl) (fun _ => rfl) rfl rfl d_C_init_44 ?_
  refine cw_G (g := 133) (by decide +kernel) ?_
  refine aw_aload_n rfl rfl d_C_init_47 ?_
  refine aw_sipush (v := nI 144) q1_cs_144 d_C_init_48 ?_
  refine cw_newa (n := 136) (N := 144) 0 .int (by simp) rfl (by decide) ca_0 kc_136 (by decide +kernel) hg (by decide) (by decide +kernel) (by decide) d_C_init_51 ?_
  refine aw_putr fp_C_27 (tk_at kc_130 (by decide)) (by decide) rfl (fun _ => rfl) (fun _ => rfl) rfl rfl d_C_init_53 ?_
  refine cw_G (g := 134) (by decide +kernel) ?_
  refine aw_aload_n rfl rfl d_C_init_56 ?_
  refine aw_iconst (v := nI 4) ci_4 d_C_init_57 ?_
  refine aw_puti fl_C_30 (tk_at kc_130 (by decide)) (by decide) rfl rfl rfl rfl d_C_init_58 ?_
  refine cw_I (k := 40) (by decide +kernel) ?_
  refine cw_retv rfl d_C_init_61 (by decide +kernel) (by decide +kernel) ?_
  refine aw_putr fp_S_29 (tk_at kc_0 (by decide)) (by decide) rfl (fun _ => rfl) (fun _ => rfl) rfl rfl d_S_init_45 ?_
  refine cw_G (g := 135) (by decide +kernel) ?_
  refine aw_aload_n rfl rfl d_S_init_48 ?_
  refine cw_new (n := 137) (ci := 0) (N := 12) (q := ("SinglesUp$Chair", zT0, 12)) rfl rfl cl_S_26 cz_0.1 cz_0.2 kc_137 (by decide +kernel) (by decide +kernel) hg (by decide) (by decide +kernel) (by decide) d_S_init_49 ?_
  refine aw_dup rfl d_S_init_52 ?_
  refine cw_callI (as := []) (d' := 13) (lf2 := 144) (sf2 := 17226) 6 1408 mo_C_init lk_S_28 rfl ⟨by decide, by decide⟩ rfl rfl (by decide) hg (by decide +kernel) (by decide +kernel) (by decide) d_S_init_53 ?_
  refine aw_aload_n rfl rfl d_C_init_0 ?_
  refine aw_objInit oi_C_3 oi_z.1 oi_z.2 ⟨by decide, by decide⟩ (by decide) d_C_init_1 ?_
  refine aw_aload_n rfl rfl d_C_init_4 ?_
  refine aw_sipush (v := nI 240) q1_cs_240 d_C_init_5 ?_
  refine cw_newa (n := 138) (N := 240) 0 .int (by simp) rfl (by decide) ca_0 kc_138 (by decide +kernel) hg (by decide) (by decide +kernel) (by decide) d_C_init_8 ?_
  refine aw_putr fp_C_9 (tk_at kc_137 (by decide)) (by decide) rfl (fun _ => rfl) (fun _ => rfl) rfl rfl d_C_init_10 ?_
  refine cw_G (g := 136) (by decide +kernel) ?_
  refine aw_aload_n rfl rfl d_C_init_13 ?_
  refine aw_bipush (v := nI 8) q1_cb_8 d_C_init_14 ?_
  refine cw_newa (n := 139) (N := 8) 0 .int (by simp) rfl (by decide) ca_0 kc_139 (by decide +kernel) hg (by decide) (by decide +kernel) (by decide) d_C_init_16 ?_
  refine aw_putr fp_C_15 (tk_at kc_137 (by decide)) (by decide) rfl (fun _ => rfl) (fun _ => rfl) rfl rfl d_C_init_18 ?_
  refine cw_G (g := 137) (by decide +kernel) ?_
  refine aw_aload_n rfl rfl d_C_init_21 ?_
  refine aw_bipush (v := nI 8) q1_cb_8 d_C_init_22 ?_
  refine cw_newa (n := 140) (N := 8) 0 .int (by simp) rfl (by decide) ca_0 kc_140 (by decide +kernel) hg (by decide) (by decide +kernel) (by decide) d_C_init_24 ?_
  refine aw_putr fp_C_18 (tk_at kc_137 (by decide)) (by decide) rfl (fun _ => rfl) (fun _ => rfl) rfl rfl d_C_init_26 ?_
  refine cw_G (g := 138) (by decide +kernel) ?_
  refine aw_aload_n rfl rfl d_C_init_29 ?_
  refine aw_sipush (v := nI 864) cs_864 d_C_init_30 ?_
  refine cw_newa (n := 141) (N := 864) 0 .int (by simp) rfl (by decide) ca_0 kc_141 (by decide +kernel) hg (by decide) (by decide +kernel) (by decide) d_C_init_33 ?_
  refine aw_putr fp_C_21 (tk_at kc_137 (by decide)) (by decide) rfl (fun _ => rfl) (fun _ => rfl) rfl rfl d_C_init_35 ?_
  refine cw_G (g := 139) (by decide +kernel) ?_
  refine aw_aload_n rfl rfl d_C_init_38 ?_
  refine aw_sipush (v := nI 144) q1_cs_144 d_C_init_39 ?_
  refine cw_newa (n := 142) (N := 144) 0 .int (by simp) rfl (by decide) ca_0 kc_142 (by decide +kernel) hg (by decide) (by decide +kernel) (by decide) d_C_init_42 ?_
  refine aw_putr fp_C_24 (tk_at kc_137 (by decide)) (by decide) rfl (fun _ => rfl) (fun _ => rfl) rfl rfl d_C_init_44 ?_
  refine cw_G (g := 140) (by decide +kernel) ?_
  refine aw_aload_n rfl rfl d_C_init_47 ?_
  refine aw_sipush (v := nI 144) q1_cs_144 d_C_init_48 ?_
  refine cw_newa (n := 143) (N := 144) 0 .int (by simp) rfl (by decide) ca_0 kc_143 (by decide +kernel) hg (by decide) (by decide +kernel) (by decide) d_C_init_51 ?_
  refine aw_putr fp_C_27 (tk_at kc_137 (by decide)) (by decide) rfl (fun _ => rfl) (fun _ => rfl) rfl rfl d_C_init_53 ?_
  refine cw_G (g := 141) (by decide +kernel) ?_
  refine aw_aload_n rfl rfl d_C_init_56 ?_
  refine aw_iconst (v := nI 4) ci_4 d_C_init_57 ?_
  refine aw_puti fl_C_30 (tk_at kc_137 (by decide)) (by decide) rfl rfl rfl rfl d_C_init_58 ?_
  refine cw_I (k := 41) (by decide +kernel) ?_
  refine cw_retv rfl d_C_init_61 (by decide +kernel) (by decide +kernel) ?_
  refine aw_putr fp_S_33 (tk_at kc_0 (by decide)) (by decide) rfl (fun _ => rfl) (fun _ => rfl) rfl rfl d_S_init_56 ?_
  refine cw_G (g := 142) (by decide +kernel) ?_
  refine aw_aload_n rfl rfl d_S_init_59 ?_
  refine cw_new (n := 144) (ci := 7) (N := 13) (q := ("SinglesUp$Reader", zT7, 13)) rfl rfl cl_S_36 cz_7.1 cz_7.2 kc_144 (by decide +kernel) (by decide +kernel) hg (by decide) (by decide +kernel) (by decide) d_S_init_60 ?_
  refine aw_dup rfl d_S_init_63 ?_
  refine cw_callI (as := []) (d' := 13) (lf2 := 154) (sf2 := 19345) 9 2106 mo_R_init lk_S_38 rfl ⟨by decide, by decide⟩ rfl rfl (by decide) hg (by decide +kernel) (by decide +kernel) (by decide) d_S_init_64 ?_
  refine aw_aload_n rfl rfl d_R_init_0 ?_
  refine aw_objInit oi_R_3 oi_z.1 oi_z.2 ⟨by decide, by decide⟩ (by decide) d_R_init_1 ?_
  refine aw_aload_n rfl rfl d_R_init_4 ?_
  refine aw_sipush (v := nI 400) q1_cs_400 d_R_init_5 ?_
  refine cw_newa (n := 145) (N := 400) 0 .int (by simp) rfl (by decide) ca_0 kc_145 (by decide +kernel) hg (by decide) (by decide +kernel) (by decide) d_R_init_8 ?_
  refine aw_putr fp_R_11 (tk_at kc_144 (by decide)) (by decide) rfl (fun _ => rfl) (fun _ => rfl) rfl rfl d_R_init_10 ?_
  refine cw_G (g := 143) (by decide +kernel) ?_
  refine aw_aload_n rfl rfl d_R_init_13 ?_
  refine aw_sipush (v := nI 401) cs_401 d_R_init_14 ?_
  refine cw_newa (n := 146) (N := 401) 0 .int (by simp) rfl (by decide) ca_0 kc_146 (by decide +kernel) hg (by decide) (by decide +kernel) (by decide) d_R_init_17 ?_
  refine aw_putr fp_R_15 (tk_at kc_144 (by decide)) (by decide) rfl (fun _ => rfl) (fun _ => rfl) rfl rfl d_R_init_19 ?_
  refine cw_G (g := 144) (by decide +kernel) ?_
  refine aw_aload_n rfl rfl d_R_init_22 ?_
  refine aw_sipush (v := nI 401) cs_401 d_R_init_23 ?_
  refine cw_newa (n := 147) (N := 401) 0 .int (by simp) rfl (by decide) ca_0 kc_147 (by decide +kernel) hg (by decide) (by decide +kernel) (by decide) d_R_init_26 ?_
  refine aw_putr fp_R_18 (tk_at kc_144 (by decide)) (by decide) rfl (fun _ => rfl) (fun _ => rfl) rfl rfl d_R_init_28 ?_
  refine cw_G (g := 145) (by decide +kernel) ?_
  refine aw_aload_n rfl rfl d_R_init_31 ?_
  refine aw_sipush (v := nI 401) cs_401 d_R_init_32 ?_
  refine cw_newa (n := 148) (N := 401) 0 .int (by simp) rfl (by decide) ca_0 kc_148 (by decide +kernel) hg (by decide) (by decide +kernel) (by decide) d_R_init_35 ?_
  refine aw_putr fp_R_21 (tk_at kc_144 (by decide)) (by decide) rfl (fun _ => rfl) (fun _ => rfl) rfl rfl d_R_init_37 ?_
  refine cw_G (g := 146) (by decide +kernel) ?_
  refine aw_aload_n rfl rfl d_R_init_40 ?_
  refine aw_iconst (v := (-1 : Int32)) rfl d_R_init_41 ?_
  refine aw_puti fl_R_24 (tk_at kc_144 (by decide)) (by decide) rfl rfl rfl rfl d_R_init_42 ?_
  refine cw_I (k := 42) (by decide +kernel) ?_
  refine aw_aload_n rfl rfl d_R_init_45 ?_
  refine cw_new (n := 149) (ci := 3) (N := 6) (q := ("SinglesUp$Law", zT3, 6)) rfl rfl cl_R_28 cz_3.1 cz_3.2 kc_149 (by decide +kernel) (by decide +kernel) hg (by decide) (by decide +kernel) (by decide) d_R_init_46 ?_
  refine aw_dup rfl d_R_init_49 ?_
  refine cw_callI (as := []) (d' := 12) (lf2 := 154) (sf2 := 19345) 4 497 mo_W_init lk_R_30 rfl ⟨by decide, by decide⟩ rfl rfl (by decide) hg (by decide +kernel) (by decide +kernel) (by decide) d_R_init_50 ?_
  refine aw_aload_n rfl rfl d_W_init_0 ?_
  refine aw_objInit oi_W_1 oi_z.1 oi_z.2 ⟨by decide, by decide⟩ (by decide) d_W_init_1 ?_
  refine aw_aload_n rfl rfl d_W_init_4 ?_
  refine aw_sipush (v := nI 400) q1_cs_400 d_W_init_5 ?_
  refine cw_newa (n := 150) (N := 400) 0 .int (by simp) rfl (by decide) ca_0 kc_150 (by decide +kernel) hg (by decide) (by decide +kernel) (by decide) d_W_init_8 ?_
  refine aw_putr fp_W_9 (tk_at kc_149 (by decide)) (by decide) rfl (fun _ => rfl) (fun _ => rfl) rfl rfl d_W_init_10 ?_
  refine cw_G (g := 147) (by decide +kernel) ?_
  refine aw_aload_n rfl rfl d_W_init_13 ?_
  refine aw_bipush (v := nI 17) q1_cb_17 d_W_init_14 ?_
  refine cw_newa (n := 151) (N := 17) 0 .int (by simp) rfl (by decide) ca_0 kc_151 (by decide +kernel) hg (by decide) (by decide +kernel) (by decide) d_W_init_16 ?_
  refine aw_putr fp_W_13 (tk_at kc_149 (by decide)) (by decide) rfl (fun _ => rfl) (fun _ => rfl) rfl rfl d_W_init_18 ?_
  refine cw_G (g := 148) (by decide +kernel) ?_
  refine aw_aload_n rfl rfl d_W_init_21 ?_
  refine aw_bipush (v := nI 16) q1_cb_16 d_W_init_22 ?_
  refine cw_newa (n := 152) (N := 16) 0 .int (by simp) rfl (by decide) ca_0 kc_152 (by decide +kernel) hg (by decide) (by decide +kernel) (by decide) d_W_init_24 ?_
  refine aw_putr fp_W_16 (tk_at kc_149 (by decide)) (by decide) rfl (fun _ => rfl) (fun _ => rfl) rfl rfl d_W_init_26 ?_
  refine cw_G (g := 149) (by decide +kernel) ?_
  refine aw_aload_n rfl rfl d_W_init_29 ?_
  refine aw_bipush (v := nI 64) cb_64 d_W_init_30 ?_
  refine cw_newa (n := 153) (N := 64) 0 .int (by simp) rfl (by decide) ca_0 kc_153 (by decide +kernel) hg (by decide) (by decide +kernel) (by decide) d_W_init_32 ?_
  refine aw_putr fp_W_19 (tk_at kc_149 (by decide)) (by decide) rfl (fun _ => rfl) (fun _ => rfl) rfl rfl d_W_init_34 ?_
  refine cw_G (g := 150) (by decide +kernel) ?_
  refine cw_retv rfl d_W_init_37 (by decide +kernel) (by decide +kernel) ?_
  refine aw_putr fp_R_31 (tk_at kc_144 (by decide)) (by decide) rfl (fun _ => rfl) (fun _ => rfl) rfl rfl d_R_init_53 ?_
  refine cw_G (g := 151) (by decide +kernel) ?_
  refine cw_retv rfl d_R_init_56 (by decide +kernel) (by decide +kernel) ?_
  refine aw_putr fp_S_39 (tk_at kc_0 (by decide)) (by decide) rfl (fun _ => rfl) (fun _ => rfl) rfl rfl d_S_init_67 ?_
  refine cw_G (g := 152) (by decide +kernel) ?_
  refine aw_aload_n rfl rfl d_S_init_70 ?_
  refine cw_new (n := 154) (ci := 1) (N := 7) (q := ("SinglesUp$Filling", zT1, 7)) rfl rfl cl_S_43 cz_1.1 cz_1.2 kc_154 (by decide +kernel) (by decide +kernel) hg (by decide) (by decide +kernel) (by decide) d_S_init_71 ?_
  refine aw_dup rfl d_S_init_74 ?_
  refine cw_callI (as := []) (d' := 13) (lf2 := 160) (sf2 := 23707) 5 4355 mo_F_init lk_S_45 rfl ⟨by decide, by decide⟩ rfl rfl (by decide) hg (by decide +kernel) (by decide +kernel) (by decide) d_S_init_75 ?_
  refine aw_aload_n rfl rfl d_F_init_0 ?_
  refine aw_objInit oi_F_3 oi_z.1 oi_z.2 ⟨by decide, by decide⟩ (by decide) d_F_init_1 ?_
  refine aw_aload_n rfl rfl d_F_init_4 ?_
  refine aw_sipush (v := nI 144) q1_cs_144 d_F_init_5 ?_
  refine cw_newa (n := 155) (N := 144) 0 .int (by simp) rfl (by decide) ca_0 kc_155 (by decide +kernel) hg (by decide) (by decide +kernel) (by decide) d_F_init_8 ?_
  refine aw_putr fp_F_9 (tk_at kc_154 (by decide)) (by decide) rfl (fun _ => rfl) (fun _ => rfl) rfl rfl d_F_init_10 ?_
  refine cw_G (g := 153) (by decide +kernel) ?_
  refine aw_aload_n rfl rfl d_F_init_13 ?_
  refine aw_sipush (v := nI 144) q1_cs_144 d_F_init_14 ?_
  refine cw_newa (n := 156) (N := 144) 0 .int (by simp) rfl (by decide) ca_0 kc_156 (by decide +kernel) hg (by decide) (by decide +kernel) (by decide) d_F_init_17 ?_
  refine aw_putr fp_F_15 (tk_at kc_154 (by decide)) (by decide) rfl (fun _ => rfl) (fun _ => rfl) rfl rfl d_F_init_19 ?_
  refine cw_G (g := 154) (by decide +kernel) ?_
  refine aw_aload_n rfl rfl d_F_init_22 ?_
  refine aw_sipush (v := nI 144) q1_cs_144 d_F_init_23 ?_
  refine cw_newa (n := 157) (N := 144) 0 .int (by simp) rfl (by decide) ca_0 kc_157 (by decide +kernel) hg (by decide) (by decide +kernel) (by decide) d_F_init_26 ?_
  refine aw_putr fp_F_18 (tk_at kc_154 (by decide)) (by decide) rfl (fun _ => rfl) (fun _ => rfl) rfl rfl d_F_init_28 ?_
  refine cw_G (g := 155) (by decide +kernel) ?_
  refine aw_aload_n rfl rfl d_F_init_31 ?_
  refine aw_sipush (v := nI 3915) cs_3915 d_F_init_32 ?_
  refine cw_newa (n := 158) (N := 3915) 0 .int (by simp) rfl (by decide) ca_0 kc_158 (by decide +kernel) hg (by decide) (by decide +kernel) (by decide) d_F_init_35 ?_
  refine aw_putr fp_F_21 (tk_at kc_154 (by decide)) (by decide) rfl (fun _ => rfl) (fun _ => rfl) rfl rfl d_F_init_37 ?_
  refine cw_G (g := 156) (by decide +kernel) ?_
  refine aw_aload_n rfl rfl d_F_init_40 ?_
  refine aw_bipush (v := nI 8) q1_cb_8 d_F_init_41 ?_
  refine cw_newa (n := 159) (N := 8) 0 .int (by simp) rfl (by decide) ca_0 kc_159 (by decide +kernel) hg (by decide) (by decide +kernel) (by decide) d_F_init_43 ?_
  refine aw_putr fp_F_24 (tk_at kc_154 (by decide)) (by decide) rfl (fun _ => rfl) (fun _ => rfl) rfl rfl d_F_init_45 ?_
  refine cw_G (g := 157) (by decide +kernel) ?_
  refine cw_retv rfl d_F_init_48 (by decide +kernel) (by decide +kernel) ?_
  refine aw_putr fp_S_46 (tk_at kc_0 (by decide)) (by decide) rfl (fun _ => rfl) (fun _ => rfl) rfl rfl d_S_init_78 ?_
  refine cw_G (g := 158) (by decide +kernel) ?_
  refine aw_aload_n rfl rfl d_S_init_81 ?_
  refine cw_new (n := 160) (ci := 6) (N := 7) (q := ("SinglesUp$Packer", zT6, 7)) rfl rfl cl_S_50 cz_6.1 cz_6.2 kc_160 (by decide +kernel) (by decide +kernel) hg (by decide) (by decide +kernel) (by decide) d_S_init_82 ?_
  refine aw_dup rfl d_S_init_85 ?_
  refine cw_callI (as := []) (d' := 13) (lf2 := 166) (sf2 := 25756) 5 2042 mo_P_init lk_S_52 rfl ⟨by decide, by decide⟩ rfl rfl (by decide) hg (by decide +kernel) (by decide +kernel) (by decide) d_S_init_86 ?_
  refine aw_aload_n rfl rfl d_P_init_0 ?_
  refine aw_objInit oi_P_3 oi_z.1 oi_z.2 ⟨by decide, by decide⟩ (by decide) d_P_init_1 ?_
  refine aw_aload_n rfl rfl d_P_init_4 ?_
  refine aw_sipush (v := nI 603) cs_603 d_P_init_5 ?_
  refine cw_newa (n := 161) (N := 603) 0 .int (by simp) rfl (by decide) ca_0 kc_161 (by decide +kernel) hg (by decide) (by decide +kernel) (by decide) d_P_init_8 ?_
  refine aw_putr fp_P_11 (tk_at kc_160 (by decide)) (by decide) rfl (fun _ => rfl) (fun _ => rfl) rfl rfl d_P_init_10 ?_
  refine cw_G (g := 159) (by decide +kernel) ?_
  refine aw_aload_n rfl rfl d_P_init_13 ?_
  refine aw_bipush (v := nI 67) q1_cb_67 d_P_init_14 ?_
  refine cw_newa (n := 162) (N := 67) 0 .int (by simp) rfl (by decide) ca_0 kc_162 (by decide +kernel) hg (by decide) (by decide +kernel) (by decide) d_P_init_16 ?_
  refine aw_putr fp_P_15 (tk_at kc_160 (by decide)) (by decide) rfl (fun _ => rfl) (fun _ => rfl) rfl rfl d_P_init_18 ?_
  refine cw_G (g := 160) (by decide +kernel) ?_
  refine aw_aload_n rfl rfl d_P_init_21 ?_
  refine aw_bipush (v := nI 67) q1_cb_67 d_P_init_22 ?_
  refine cw_newa (n := 163) (N := 67) 0 .int (by simp) rfl (by decide) ca_0 kc_163 (by decide +kernel) hg (by decide) (by decide +kernel) (by decide) d_P_init_24 ?_
  refine aw_putr fp_P_18 (tk_at kc_160 (by decide)) (by decide) rfl (fun _ => rfl) (fun _ => rfl) rfl rfl d_P_init_26 ?_
  refine cw_G (g := 161) (by decide +kernel) ?_
  refine aw_aload_n rfl rfl d_P_init_29 ?_
  refine aw_sipush (v := nI 1296) q1_cs_1296 d_P_init_30 ?_
  refine cw_newa (n := 164) (N := 1296) 0 .int (by simp) rfl (by decide) ca_0 kc_164 (by decide +kernel) hg (by decide) (by decide +kernel) (by decide) d_P_init_33 ?_
  refine aw_putr fp_P_21 (tk_at kc_160 (by decide)) (by decide) rfl (fun _ => rfl) (fun _ => rfl) rfl rfl d_P_init_35 ?_
  refine cw_G (g := 162) (by decide +kernel) ?_
  refine aw_aload_n rfl rfl d_P_init_38 ?_
  refine aw_bipush (v := nI 9) q1_cb_9 d_P_init_39 ?_
  refine cw_newa (n := 165) (N := 9) 0 .int (by simp) rfl (by decide) ca_0 kc_165 (by decide +kernel) hg (by decide) (by decide +kernel) (by decide) d_P_init_41 ?_
  refine aw_putr fp_P_24 (tk_at kc_160 (by decide)) (by decide) rfl (fun _ => rfl) (fun _ => rfl) rfl rfl d_P_init_43 ?_
  refine cw_G (g := 163) (by decide +kernel) ?_
  refine aw_aload_n rfl rfl d_P_init_46 ?_
  refine aw_iconst (v := (-1 : Int32)) rfl d_P_init_47 ?_
  refine aw_puti fl_P_27 (tk_at kc_160 (by decide)) (by decide) rfl rfl rfl rfl d_P_init_48 ?_
  refine cw_I (k := 43) (by decide +kernel) ?_
  refine aw_aload_n rfl rfl d_P_init_51 ?_
  refine aw_bipush (v := nI 8) q1_cb_8 d_P_init_52 ?_
  refine aw_bipush (v := nI 8) q1_cb_8 d_P_init_54 ?_
  refine aw_iconst (v := nI 0) ci_0 d_P_init_56 ?_
  refine cw_callV (as := [.int (nI 8), .int (nI 8), .int (nI 0)]) (d' := 11) (q := ("SinglesUp$Packer", zT6, 7)) mo_P_addWays lk_P_31 (tk_at kc_160 (by decide)) rfl rfl rfl ⟨by decide, by decide⟩ rfl rfl (by decide) hg (by decide +kernel) (by decide +kernel) (by decide +kernel) d_P_init_57 ?_
  rw [take166]
  refine sp_add_8 (by decide) ⟨0, by decide, by decide +kernel⟩ (fun J hP hJ => ?_)
  refine cw_retv rfl d_P_init_60 (show KC.length = 166 by decide +kernel) (show sl KC = 25756 by decide +kernel) ?_
  refine aw_putr fp_S_53 kc_0 (by decide) rfl (fun _ => rfl) (fun _ => rfl) rfl rfl d_S_init_89 ?_
  refine cw_G (g := 164) (by decide +kernel) ?_
  refine aw_retL (v := none) (fun _ => ?_) ⟨rfl, d_S_init_92⟩ (show KC.length ≤ 166 by decide +kernel) (show sl KC ≤ 25756 by decide +kernel)
  rw [GC_eq]
  exact hK J (fun q hq => hJ q ⟨by omega, by omega, by omega, by omega⟩)
set_option maxRecDepth 20000 in
theorem ctor_m {K : Kont} (hg : gp b = 0) (hK : K none (KM, ISx WIm 13, RM)) : AW l b (rmm 14 25 32682) y_X_init K 26 32733 (KM.take 1, ISx WIm 0, GSx WGm 0) 0 [.ref 0, uu] [] := by
  refine aw_aload_n rfl rfl d_X_init_0 ?_
  refine aw_objInit oi_X_1 oi_z.1 oi_z.2 ⟨by decide, by decide⟩ (by decide) d_X_init_1 ?_
  refine aw_aload_n rfl rfl d_X_init_4 ?_
  refine aw_sipush (v := nI 6190) q1_cs_6190 d_X_init_5 ?_
  refine cw_newa (n := 1) (N := 6190) 0 .int (by simp) rfl (by decide) ca_0 km_1 (by decide +kernel) hg (by decide) (by decide +kernel) (by decide) d_X_init_8 ?_
  refine aw_putr fp_X_7 (tk_at km_0 (by decide)) (by decide) rfl (fun _ => rfl) (fun _ => rfl) rfl rfl d_X_init_10 ?_
  refine cw_G (g := 0) (by decide +kernel) ?_
  refine aw_aload_n rfl rfl d_X_init_13 ?_
  refine aw_sipush (v := nI 6190) q1_cs_6190 d_X_init_14 ?_
  refine cw_newa (n := 2) (N := 6190) 0 .int (by simp) rfl (by decide) ca_0 km_2 (by decide +kernel) hg (by decide) (by decide +kernel) (by decide) d_X_init_17 ?_
  refine aw_putr fp_X_13 (tk_at km_0 (by decide)) (by decide) rfl (fun _ => rfl) (fun _ => rfl) rfl rfl d_X_init_19 ?_
  refine cw_G (g := 1) (by decide +kernel) ?_
  refine aw_aload_n rfl rfl d_X_init_22 ?_
  refine aw_sipush (v := nI 6190) q1_cs_6190 d_X_init_23 ?_
  refine cw_newa (n := 3) (N := 6190) 0 .int (by simp) rfl (by decide) ca_0 km_3 (by decide +kernel) hg (by decide) (by decide +kernel) (by decide) d_X_init_26 ?_
  refine aw_putr fp_X_16 (tk_at km_0 (by decide)) (by decide) rfl (fun _ => rfl) (fun _ => rfl) rfl rfl d_X_init_28 ?_
  refine cw_G (g := 2) (by decide +kernel) ?_
  refine aw_aload_n rfl rfl d_X_init_31 ?_
  refine aw_bipush (v := nI 64) cb_64 d_X_init_32 ?_
  refine cw_newa (n := 4) (N := 64) 0 .int (by simp) rfl (by decide) ca_0 km_4 (by decide +kernel) hg (by decide) (by decide +kernel) (by decide) d_X_init_34 ?_
  refine aw_putr fp_X_19 (tk_at km_0 (by decide)) (by decide) rfl (fun _ => rfl) (fun _ => rfl) rfl rfl d_X_init_36 ?_
  refine cw_G (g := 3) (by decide +kernel) ?_
  refine aw_aload_n rfl rfl d_X_init_39 ?_
  refine aw_sipush (v := nI 820) q1_cs_820 d_X_init_40 ?_
  refine cw_newa (n := 5) (N := 820) 0 .int (by simp) rfl (by decide) ca_0 km_5 (by decide +kernel) hg (by decide) (by decide +kernel) (by decide) d_X_init_43 ?_
  refine aw_putr fp_X_22 (tk_at km_0 (by decide)) (by decide) rfl (fun _ => rfl) (fun _ => rfl) rfl rfl d_X_init_45 ?_
  refine cw_G (g := 4) (by decide +kernel) ?_
  refine aw_aload_n rfl rfl d_X_init_48 ?_
  refine aw_sipush (v := nI 400) q1_cs_400 d_X_init_49 ?_
  refine cw_newa (n := 6) (N := 400) 0 .int (by simp) rfl (by decide) ca_0 km_6 (by decide +kernel) hg (by decide) (by decide +kernel) (by decide) d_X_init_52 ?_
  refine aw_putr fp_X_25 (tk_at km_0 (by decide)) (by decide) rfl (fun _ => rfl) (fun _ => rfl) rfl rfl d_X_init_54 ?_
  refine cw_G (g := 5) (by decide +kernel) ?_
  refine aw_aload_n rfl rfl d_X_init_57 ?_
  refine aw_sipush (v := nI 420) cs_420 d_X_init_58 ?_
  refine cw_newa (n := 7) (N := 420) 0 .int (by simp) rfl (by decide) ca_0 km_7 (by decide +kernel) hg (by decide) (by decide +kernel) (by decide) d_X_init_61 ?_
  refine aw_putr fp_X_28 (tk_at km_0 (by decide)) (by decide) rfl (fun _ => rfl) (fun _ => rfl) rfl rfl d_X_init_63 ?_
  refine cw_G (g := 6) (by decide +kernel) ?_
  refine aw_aload_n rfl rfl d_X_init_66 ?_
  refine aw_bipush (v := nI 12) q1_cb_12 d_X_init_67 ?_
  refine cw_newa (n := 8) (N := 12) 0 .int (by simp) rfl (by decide) ca_0 km_8 (by decide +kernel) hg (by decide) (by decide +kernel) (by decide) d_X_init_69 ?_
  refine aw_putr fp_X_31 (tk_at km_0 (by decide)) (by decide) rfl (fun _ => rfl) (fun _ => rfl) rfl rfl d_X_init_71 ?_
  refine cw_G (g := 7) (by decide +kernel) ?_
  refine aw_aload_n rfl rfl d_X_init_74 ?_
  refine aw_iconst (v := (-1 : Int32)) rfl d_X_init_75 ?_
  refine aw_puti fl_X_34 (tk_at km_0 (by decide)) (by decide) rfl rfl rfl rfl d_X_init_76 ?_
  refine cw_I (k := 0) (by decide +kernel) ?_
  refine aw_aload_n rfl rfl d_X_init_79 ?_
  refine aw_iconst (v := (-1 : Int32)) rfl d_X_init_80 ?_
  refine aw_puti fl_X_38 (tk_at km_0 (by decide)) (by decide) rfl rfl rfl rfl d_X_init_81 ?_
  refine cw_I (k := 1) (by decide +kernel) ?_
  refine aw_aload_n rfl rfl d_X_init_84 ?_
  refine aw_iconst (v := (-1 : Int32)) rfl d_X_init_85 ?_
  refine aw_puti fl_X_41 (tk_at km_0 (by decide)) (by decide) rfl rfl rfl rfl d_X_init_86 ?_
  refine cw_I (k := 2) (by decide +kernel) ?_
  refine aw_aload_n rfl rfl d_X_init_89 ?_
  refine aw_sipush (v := nI 240) q1_cs_240 d_X_init_90 ?_
  refine cw_newa (n := 9) (N := 240) 0 .int (by simp) rfl (by decide) ca_0 km_9 (by decide +kernel) hg (by decide) (by decide +kernel) (by decide) d_X_init_93 ?_
  refine aw_putr fp_X_44 (tk_at km_0 (by decide)) (by decide) rfl (fun _ => rfl) (fun _ => rfl) rfl rfl d_X_init_95 ?_
  refine cw_G (g := 8) (by decide +kernel) ?_
  refine aw_aload_n rfl rfl d_X_init_98 ?_
  refine aw_sipush (v := nI 240) q1_cs_240 d_X_init_99 ?_
  refine cw_newa (n := 10) (N := 240) 0 .int (by simp) rfl (by decide) ca_0 km_10 (by decide +kernel) hg (by decide) (by decide +kernel) (by decide) d_X_init_102 ?_
  refine aw_putr fp_X_47 (tk_at km_0 (by decide)) (by decide) rfl (fun _ => rfl) (fun _ => rfl) rfl rfl d_X_init_104 ?_
  refine cw_G (g := 9) (by decide +kernel) ?_
  refine aw_aload_n rfl rfl d_X_init_107 ?_
  refine aw_bipush (v := nI 8) q1_cb_8 d_X_init_108 ?_
  refine cw_newa (n := 11) (N := 8) 0 .int (by simp) rfl (by decide) ca_0 km_11 (by decide +kernel) hg (by decide) (by decide +kernel) (by decide) d_X_init_110 ?_
  refine aw_putr fp_X_50 (tk_at km_0 (by decide)) (by decide) rfl (fun _ => rfl) (fun _ => rfl) rfl rfl d_X_init_112 ?_
  refine cw_G (g := 10) (by decide +kernel) ?_
  refine aw_aload_n rfl rfl d_X_init_115 ?_
  refine aw_sipush (v := nI 240) q1_cs_240 d_X_init_116 ?_
  refine cw_newa (n := 12) (N := 240) 1 .boolean (by simp) rfl (by decide) ca_1 km_12 (by decide +kernel) hg (by decide) (by decide +kernel) (by decide) d_X_init_119 ?_
  refine aw_putr fp_X_53 (tk_at km_0 (by decide)) (by decide) rfl (fun _ => rfl) (fun _ => rfl) rfl rfl d_X_init_121 ?_
  refine cw_G (g := 11) (by decide +kernel) ?_
  refine aw_aload_n rfl rfl d_X_init_124 ?_
  refine aw_sipush (v := nI 240) q1_cs_240 d_X_init_125 ?_
  refine cw_newa (n := 13) (N := 240) 1 .boolean (by simp) rfl (by decide) ca_1 km_13 (by decide +kernel) hg (by decide) (by decide +kernel) (by decide) d_X_init_128 ?_
  refine aw_putr fp_X_57 (tk_at km_0 (by decide)) (by decide) rfl (fun _ => rfl) (fun _ => rfl) rfl rfl d_X_init_130 ?_
  refine cw_G (g := 12) (by decide +kernel) ?_
  refine aw_aload_n rfl rfl d_X_init_133 ?_
  refine aw_sipush (v := nI 1440) cs_1440 d_X_init_134 ?_
  refine cw_newa (n := 14) (N := 1440) 0 .int (by simp) rfl (by decide) ca_0 km_14 (by decide +kernel) hg (by decide) (by decide +kernel) (by decide) d_X_init_137 ?_
  refine aw_putr fp_X_60 (tk_at km_0 (by decide)) (by decide) rfl (fun _ => rfl) (fun _ => rfl) rfl rfl d_X_init_139 ?_
  refine cw_G (g := 13) (by decide +kernel) ?_
  refine aw_aload_n rfl rfl d_X_init_142 ?_
  refine aw_bipush (v := nI 8) q1_cb_8 d_X_init_143 ?_
  refine cw_newa (n := 15) (N := 8) 0 .int (by simp) rfl (by decide) ca_0 km_15 (by decide +kernel) hg (by decide) (by decide +kernel) (by decide) d_X_init_145 ?_
  refine aw_putr fp_X_63 (tk_at km_0 (by decide)) (by decide) rfl (fun _ => rfl) (fun _ => rfl) rfl rfl d_X_init_147 ?_
  refine cw_G (g := 14) (by decide +kernel) ?_
  refine aw_aload_n rfl rfl d_X_init_150 ?_
  refine aw_sipush (v := nI 150) cs_150 d_X_init_151 ?_
  refine cw_newa (n := 16) (N := 150) 0 .int (by simp) rfl (by decide) ca_0 km_16 (by decide +kernel) hg (by decide) (by decide +kernel) (by decide) d_X_init_154 ?_
  refine aw_putr fp_X_66 (tk_at km_0 (by decide)) (by decide) rfl (fun _ => rfl) (fun _ => rfl) rfl rfl d_X_init_156 ?_
  refine cw_G (g := 15) (by decide +kernel) ?_
  refine aw_aload_n rfl rfl d_X_init_159 ?_
  refine aw_sipush (v := nI 5440) cs_5440 d_X_init_160 ?_
  refine cw_newa (n := 17) (N := 5440) 0 .int (by simp) rfl (by decide) ca_0 km_17 (by decide +kernel) hg (by decide) (by decide +kernel) (by decide) d_X_init_163 ?_
  refine aw_putr fp_X_69 (tk_at km_0 (by decide)) (by decide) rfl (fun _ => rfl) (fun _ => rfl) rfl rfl d_X_init_165 ?_
  refine cw_G (g := 16) (by decide +kernel) ?_
  refine aw_aload_n rfl rfl d_X_init_168 ?_
  refine aw_sipush (v := nI 4100) cs_4100 d_X_init_169 ?_
  refine cw_newa (n := 18) (N := 4100) 0 .int (by simp) rfl (by decide) ca_0 km_18 (by decide +kernel) hg (by decide) (by decide +kernel) (by decide) d_X_init_172 ?_
  refine aw_putr fp_X_72 (tk_at km_0 (by decide)) (by decide) rfl (fun _ => rfl) (fun _ => rfl) rfl rfl d_X_init_174 ?_
  refine cw_G (g := 17) (by decide +kernel) ?_
  refine aw_aload_n rfl rfl d_X_init_177 ?_
  refine aw_bipush (v := nI 9) q1_cb_9 d_X_init_178 ?_
  refine cw_newa (n := 19) (N := 9) 0 .int (by simp) rfl (by decide) ca_0 km_19 (by decide +kernel) hg (by decide) (by decide +kernel) (by decide) d_X_init_180 ?_
  refine aw_putr fp_X_75 (tk_at km_0 (by decide)) (by decide) rfl (fun _ => rfl) (fun _ => rfl) rfl rfl d_X_init_182 ?_
  refine cw_G (g := 18) (by decide +kernel) ?_
  refine aw_aload_n rfl rfl d_X_init_185 ?_
  refine aw_bipush (v := nI 9) q1_cb_9 d_X_init_186 ?_
  refine cw_newa (n := 20) (N := 9) 0 .int (by simp) rfl (by decide) ca_0 km_20 (by decide +kernel) hg (by decide) (by decide +kernel) (by decide) d_X_init_188 ?_
  refine aw_putr fp_X_78 (tk_at km_0 (by decide)) (by decide) rfl (fun _ => rfl) (fun _ => rfl) rfl rfl d_X_init_190 ?_
  refine cw_G (g := 19) (by decide +kernel) ?_
  refine aw_aload_n rfl rfl d_X_init_193 ?_
  refine aw_bipush (v := nI 9) q1_cb_9 d_X_init_194 ?_
  refine cw_newa (n := 21) (N := 9) 0 .int (by simp) rfl (by decide) ca_0 km_21 (by decide +kernel) hg (by decide) (by decide +kernel) (by decide) d_X_init_196 ?_
  refine aw_putr fp_X_81 (tk_at km_0 (by decide)) (by decide) rfl (fun _ => rfl) (fun _ => rfl) rfl rfl d_X_init_198 ?_
  refine cw_G (g := 20) (by decide +kernel) ?_
  refine aw_aload_n rfl rfl d_X_init_201 ?_
  refine aw_bipush (v := nI 9) q1_cb_9 d_X_init_202 ?_
  refine cw_newa (n := 22) (N := 9) 0 .int (by simp) rfl (by decide) ca_0 km_22 (by decide +kernel) hg (by decide) (by decide +kernel) (by decide) d_X_init_204 ?_
  refine aw_putr fp_X_84 (tk_at km_0 (by decide)) (by decide) rfl (fun _ => rfl) (fun _ => rfl) rfl rfl d_X_init_206 ?_
  refine cw_G (g := 21) (by decide +kernel) ?_
  refine aw_aload_n rfl rfl d_X_init_209 ?_
  refine aw_sipush (v := nI 240) q1_cs_240 d_X_init_210 ?_
  refine cw_newa (n := 23) (N := 240) 1 .boolean (by simp) rfl (by decide) ca_1 km_23 (by decide +kernel) hg (by decide) (by decide +kernel) (by decide) d_X_init_213 ?_
  refine aw_putr fp_X_87 (tk_at km_0 (by decide)) (by decide) rfl (fun _ => rfl) (fun _ => rfl) rfl rfl d_X_init_215 ?_
  refine cw_G (g := 22) (by decide +kernel) ?_
  refine aw_aload_n rfl rfl d_X_init_218 ?_
  refine aw_bipush (v := nI 8) q1_cb_8 d_X_init_219 ?_
  refine cw_newa (n := 24) (N := 8) 0 .int (by simp) rfl (by decide) ca_0 km_24 (by decide +kernel) hg (by decide) (by decide +kernel) (by decide) d_X_init_221 ?_
  refine aw_putr fp_X_90 (tk_at km_0 (by decide)) (by decide) rfl (fun _ => rfl) (fun _ => rfl) rfl rfl d_X_init_223 ?_
  refine cw_G (g := 23) (by decide +kernel) ?_
  refine aw_aload_n rfl rfl d_X_init_226 ?_
  refine aw_bipush (v := nI 6) q1_cb_6 d_X_init_227 ?_
  refine cw_newa (n := 25) (N := 6) 0 .int (by simp) rfl (by decide) ca_0 km_25 (by decide +kernel) hg (by decide) (by decide +kernel) (by decide) d_X_init_229 ?_
  refine aw_putr fp_X_93 (tk_at km_0 (by decide)) (by decide) rfl (fun _ => rfl) (fun _ => rfl) rfl rfl d_X_init_231 ?_
  refine cw_G (g := 24) (by decide +kernel) ?_
  refine aw_aload_n rfl rfl d_X_init_234 ?_
  refine aw_getr fl_X_7 (tk_at km_0 (by decide)) (by decide) rfl (r := 1) (by decide +kernel) d_X_init_235 ?_
  refine aw_iconst (v := nI 1) ci_1 d_X_init_238 ?_
  refine aw_iconst (v := nI 4) ci_4 d_X_init_239 ?_
  refine aw_iast (j := 1) (tk_at km_1 (by decide)) (vp_in_nI (by decide) (by decide)) (nI_clamp (by decide)) d_X_init_240 ?_
  refine cw_I (k := 3) (by decide +kernel) ?_
  refine aw_aload_n rfl rfl d_X_init_241 ?_
  refine aw_getr fl_X_7 (tk_at km_0 (by decide)) (by decide) rfl (r := 1) (by decide +kernel) d_X_init_242 ?_
  refine aw_iconst (v := nI 2) ci_2 d_X_init_245 ?_
  refine aw_bipush (v := nI 6) q1_cb_6 d_X_init_246 ?_
  refine aw_iast (j := 2) (tk_at km_1 (by decide)) (vp_in_nI (by decide) (by decide)) (nI_clamp (by decide)) d_X_init_248 ?_
  refine cw_I (k := 4) (by decide +kernel) ?_
  refine aw_aload_n rfl rfl d_X_init_249 ?_
  refine aw_getr fl_X_7 (tk_at km_0 (by decide)) (by decide) rfl (r := 1) (by decide +kernel) d_X_init_250 ?_
  refine aw_iconst (v := nI 3) ci_3 d_X_init_253 ?_
  refine aw_bipush (v := nI 40) q1_cb_40 d_X_init_254 ?_
  refine aw_iast (j := 3) (tk_at km_1 (by decide)) (vp_in_nI (by decide) (by decide)) (nI_clamp (by decide)) d_X_init_256 ?_
  refine cw_I (k := 5) (by decide +kernel) ?_
  refine aw_aload_n rfl rfl d_X_init_257 ?_
  refine aw_getr fl_X_7 (tk_at km_0 (by decide)) (by decide) rfl (r := 1) (by decide +kernel) d_X_init_258 ?_
  refine aw_bipush (v := nI 110) q1_cb_110 d_X_init_261 ?_
  refine aw_iconst (v := (-1 : Int32)) rfl d_X_init_263 ?_
  refine aw_iast (j := 110) (tk_at km_1 (by decide)) (vp_in_nI (by decide) (by decide)) (nI_clamp (by decide)) d_X_init_264 ?_
  refine cw_I (k := 6) (by decide +kernel) ?_
  refine aw_iconst (v := nI 0) ci_0 d_X_init_265 ?_
  refine aw_istore_n (lv2 := [.ref 0, .int (nI 0)]) rfl (by decide) rfl d_X_init_266 ?_
  refine aw_iload_n rfl rfl d_X_init_267 ?_
  refine aw_bipush (v := nI 6) q1_cb_6 d_X_init_268 ?_
  refine aw_icmp_geI (tgt := 290) (0) (6) (by decide +kernel) (by decide +kernel) (by decide) d_X_init_270 (fun q => absurd q (by decide)) (fun _ => ?_)
  refine aw_aload_n rfl rfl d_X_init_273 ?_
  refine aw_getr fl_X_7 (tk_at km_0 (by decide)) (by decide) rfl (r := 1) (by decide +kernel) d_X_init_274 ?_
  refine aw_bipush (v := nI 10) q1_cb_10 d_X_init_277 ?_
  refine aw_iload_n rfl rfl d_X_init_279 ?_
  refine aw_iadd d_X_init_280 ?_
  refine aw_top (x2 := nI 10) (by decide +kernel) ?_
  refine aw_bipush (v := nI 9) q1_cb_9 d_X_init_281 ?_
  refine aw_iast (j := 10) (tk_at km_1 (by decide)) (vp_in_nI (by decide) (by decide)) (nI_clamp (by decide)) d_X_init_283 ?_
  refine cw_I (k := 7) (by decide +kernel) ?_
  refine aw_iinc (v := nI 1) (lv2 := [.ref 0, .int (nI 1)]) rfl (by decide +kernel) (by decide) rfl d_X_init_284 ?_
  refine aw_goto (tgt := 267) (by decide) d_X_init_287 ?_
  refine aw_iload_n rfl rfl d_X_init_267 ?_
  refine aw_bipush (v := nI 6) q1_cb_6 d_X_init_268 ?_
  refine aw_icmp_geI (tgt := 290) (1) (6) (by decide +kernel) (by decide +kernel) (by decide) d_X_init_270 (fun q => absurd q (by decide)) (fun _ => ?_)
  refine aw_aload_n rfl rfl d_X_init_273 ?_
  refine aw_getr fl_X_7 (tk_at km_0 (by decide)) (by decide) rfl (r := 1) (by decide +kernel) d_X_init_274 ?_
  refine aw_bipush (v := nI 10) q1_cb_10 d_X_init_277 ?_
  refine aw_iload_n rfl rfl d_X_init_279 ?_
  refine aw_iadd d_X_init_280 ?_
  refine aw_top (x2 := nI 11) (by decide +kernel) ?_
  refine aw_bipush (v := nI 9) q1_cb_9 d_X_init_281 ?_
  refine aw_iast (j := 11) (tk_at km_1 (by decide)) (vp_in_nI (by decide) (by decide)) (nI_clamp (by decide)) d_X_init_283 ?_
  refine cw_I (k := 8) (by decide +kernel) ?_
  refine aw_iinc (v := nI 2) (lv2 := [.ref 0, .int (nI 2)]) rfl (by decide +kernel) (by decide) rfl d_X_init_284 ?_
  refine aw_goto (tgt := 267) (by decide) d_X_init_287 ?_
  refine aw_iload_n rfl rfl d_X_init_267 ?_
  refine aw_bipush (v := nI 6) q1_cb_6 d_X_init_268 ?_
  refine aw_icmp_geI (tgt := 290) (2) (6) (by decide +kernel) (by decide +kernel) (by decide) d_X_init_270 (fun q => absurd q (by decide)) (fun _ => ?_)
  refine aw_aload_n rfl rfl d_X_init_273 ?_
  refine aw_getr fl_X_7 (tk_at km_0 (by decide)) (by decide) rfl (r := 1) (by decide +kernel) d_X_init_274 ?_
  refine aw_bipush (v := nI 10) q1_cb_10 d_X_init_277 ?_
  refine aw_iload_n rfl rfl d_X_init_279 ?_
  refine aw_iadd d_X_init_280 ?_
  refine aw_top (x2 := nI 12) (by decide +kernel) ?_
  refine aw_bipush (v := nI 9) q1_cb_9 d_X_init_281 ?_
  refine aw_iast (j := 12) (tk_at km_1 (by decide)) (vp_in_nI (by decide) (by decide)) (nI_clamp (by decide)) d_X_init_283 ?_
  refine cw_I (k := 9) (by decide +kernel) ?_
  refine aw_iinc (v := nI 3) (lv2 := [.ref 0, .int (nI 3)]) rfl (by decide +kernel) (by decide) rfl d_X_init_284 ?_
  refine aw_goto (tgt := 267) (by decide) d_X_init_287 ?_
  refine aw_iload_n rfl rfl d_X_init_267 ?_
  refine aw_bipush (v := nI 6) q1_cb_6 d_X_init_268 ?_
  refine aw_icmp_geI (tgt := 290) (3) (6) (by decide +kernel) (by decide +kernel) (by decide) d_X_init_270 (fun q => absurd q (by decide)) (fun _ => ?_)
  refine aw_aload_n rfl rfl d_X_init_273 ?_
  refine aw_getr fl_X_7 (tk_at km_0 (by decide)) (by decide) rfl (r := 1) (by decide +kernel) d_X_init_274 ?_
  refine aw_bipush (v := nI 10) q1_cb_10 d_X_init_277 ?_
  refine aw_iload_n rfl rfl d_X_init_279 ?_
  refine aw_iadd d_X_init_280 ?_
  refine aw_top (x2 := nI 13) (by decide +kernel) ?_
  refine aw_bipush (v := nI 9) q1_cb_9 d_X_init_281 ?_
  refine aw_iast (j := 13) (tk_at km_1 (by decide)) (vp_in_nI (by decide) (by decide)) (nI_clamp (by decide)) d_X_init_283 ?_
  refine cw_I (k := 10) (by decide +kernel) ?_
  refine aw_iinc (v := nI 4) (lv2 := [.ref 0, .int (nI 4)]) rfl (by decide +kernel) (by decide) rfl d_X_init_284 ?_
  refine aw_goto (tgt := 267) (by decide) d_X_init_287 ?_
  refine aw_iload_n rfl rfl d_X_init_267 ?_
  refine aw_bipush (v := nI 6) q1_cb_6 d_X_init_268 ?_
  refine aw_icmp_geI (tgt := 290) (4) (6) (by decide +kernel) (by decide +kernel) (by decide) d_X_init_270 (fun q => absurd q (by decide)) (fun _ => ?_)
  refine aw_aload_n rfl rfl d_X_init_273 ?_
  refine aw_getr fl_X_7 (tk_at km_0 (by decide)) (by decide) rfl (r := 1) (by decide +kernel) d_X_init_274 ?_
  refine aw_bipush (v := nI 10) q1_cb_10 d_X_init_277 ?_
  refine aw_iload_n rfl rfl d_X_init_279 ?_
  refine aw_iadd d_X_init_280 ?_
  refine aw_top (x2 := nI 14) (by decide +kernel) ?_
  refine aw_bipush (v := nI 9) q1_cb_9 d_X_init_281 ?_
  refine aw_iast (j := 14) (tk_at km_1 (by decide)) (vp_in_nI (by decide) (by decide)) (nI_clamp (by decide)) d_X_init_283 ?_
  refine cw_I (k := 11) (by decide +kernel) ?_
  refine aw_iinc (v := nI 5) (lv2 := [.ref 0, .int (nI 5)]) rfl (by decide +kernel) (by decide) rfl d_X_init_284 ?_
  refine aw_goto (tgt := 267) (by decide) d_X_init_287 ?_
  refine aw_iload_n rfl rfl d_X_init_267 ?_
  refine aw_bipush (v := nI 6) q1_cb_6 d_X_init_268 ?_
  refine aw_icmp_geI (tgt := 290) (5) (6) (by decide +kernel) (by decide +kernel) (by decide) d_X_init_270 (fun q => absurd q (by decide)) (fun _ => ?_)
  refine aw_aload_n rfl rfl d_X_init_273 ?_
  refine aw_getr fl_X_7 (tk_at km_0 (by decide)) (by decide) rfl (r := 1) (by decide +kernel) d_X_init_274 ?_
  refine aw_bipush (v := nI 10) q1_cb_10 d_X_init_277 ?_
  refine aw_iload_n rfl rfl d_X_init_279 ?_
  refine aw_iadd d_X_init_280 ?_
  refine aw_top (x2 := nI 15) (by decide +kernel) ?_
  refine aw_bipush (v := nI 9) q1_cb_9 d_X_init_281 ?_
  refine aw_iast (j := 15) (tk_at km_1 (by decide)) (vp_in_nI (by decide) (by decide)) (nI_clamp (by decide)) d_X_init_283 ?_
  refine cw_I (k := 12) (by decide +kernel) ?_
  refine aw_iinc (v := nI 6) (lv2 := [.ref 0, .int (nI 6)]) rfl (by decide +kernel) (by decide) rfl d_X_init_284 ?_
  refine aw_goto (tgt := 267) (by decide) d_X_init_287 ?_
  refine aw_iload_n rfl rfl d_X_init_267 ?_
  refine aw_bipush (v := nI 6) q1_cb_6 d_X_init_268 ?_
  refine aw_icmp_geI (tgt := 290) (6) (6) (by decide +kernel) (by decide +kernel) (by decide) d_X_init_270 (fun _ => ?_) (fun q => absurd q (by decide))
  refine aw_retL (v := none) (fun _ => ?_) ⟨rfl, d_X_init_290⟩ (by decide +kernel) (by decide +kernel)
  rw [GMo_eq, takeM]
  exact hK
end
