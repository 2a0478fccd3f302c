/-! the ways of the packer, by value -/
abbrev WRow : Type := List Nat × Int32
def cup (c : Nat → Nat) (s m : Nat) : Nat → Nat := fun k => if k = s then m else c k
def gup (gx : Int32) (s m : Nat) : Int32 := if gx.toInt = 0 then (if 0 < m then nI s else gx) else gx
def wlp (F : Nat → List WRow → List WRow) : Nat → List WRow → List WRow
  | 0, L => F 0 L
  | m + 1, L => wlp F m (F (m + 1) L)
def wayL : Nat → Nat → Int32 → (Nat → Nat) → List WRow → List WRow
  | 0, lf, gx, c, L => if L.length < 67 then L ++ [([8 - lf, c 1, c 2, c 3, c 4, c 5, c 6, c 7, c 8], gx)] else L
  | s + 1, lf, gx, c, L => wlp (fun m L => wayL s (lf - m * (s + 1)) (gup gx (s + 1) m) (cup c (s + 1) m) L) (lf / (s + 1)) L
def wst (s lf : Nat) (gx : Int32) (c : Nat → Nat) : Nat → List WRow → List WRow := fun m L => wayL s (lf - m * (s + 1)) (gup gx (s + 1) m) (cup c (s + 1) m) L
theorem gup_0 (gx : Int32) (s : Nat) : gup gx s 0 = gx := by
  unfold gup
  split
  · exact if_neg (Nat.lt_irrefl 0)
  · rfl
theorem gup_n {gx : Int32} (s m : Nat) (h : ¬ gx.toInt = 0) : gup gx s m = gx := if_neg h
theorem gup_p {gx : Int32} (s m : Nat) (h : gx.toInt = 0) : gup gx s (m + 1) = nI s := by
  unfold gup
  rw [if_pos h, if_pos (Nat.succ_pos m)]
def KPL (L : List WRow) (I : Nat → Nat → Int32) : Prop := L.length ≤ 67 ∧ I 160 2 = nI L.length ∧ ∀ i, i < L.length → (∀ k, k < 9 → I 161 (9 * i + k) = nI ((L.getD i ([], 0)).1.getD k 0)) ∧ I 162 i = (L.getD i ([], 0)).2
def WCC (s : Nat) (c : Nat → Nat) (I : Nat → Nat → Int32) : Prop := ∀ k, s < k → k ≤ 8 → I 165 k = nI (c k)
theorem KPL_up {L : List WRow} {I : Nat → Nat → Int32} {o j : Nat} {x : Int32} (h0 : 160 ≠ o) (h1 : 161 ≠ o) (h2 : 162 ≠ o) (h : KPL L I) : KPL L (upd2 I o j x) := by
  unfold KPL
  rw [upd2_ne h0, upd2_ne h1, upd2_ne h2]
  exact h
theorem WCC_up {s m : Nat} {c : Nat → Nat} {I : Nat → Nat → Int32} (h : WCC (s + 1) c I) : WCC s (cup c (s + 1) m) (upd2 I 165 (s + 1) (nI m)) := by
  intro k k1 k2
  unfold cup
  by_cases y : k = s + 1
  · rw [y, upd2_eq, if_pos rfl]
  · rw [upd2_nx y, if_neg y]
    exact h k (by omega) k2
theorem WCC_dn {s m : Nat} {c : Nat → Nat} {J : Nat → Nat → Int32} (h : WCC s (cup c (s + 1) m) J) : WCC (s + 1) c J := by
  intro k k1 k2
  have a := h k (by omega) k2
  unfold cup at a
  rw [if_neg (by omega)] at a
  exact a
theorem KPL_add {L : List WRow} {x : WRow} {I J : Nat → Nat → Int32} (h : KPL L I) (hl : L.length < 67) (h2 : J 160 2 = nI (L.length + 1)) (h3 : ∀ j, (j < 9 * L.length) → J 161 j = I 161 j) (h4 : ∀ k, k < 9 → J 161 (9 * L.length + k) = nI (x.1.getD k 0)) (h5 : ∀ i, i < L.length → J 162 i = I 162 i) (h6 : J 162 L.length = x.2) : KPL (L ++ [x]) J := by
  obtain ⟨a1, a2, a3⟩ := h
  refine ⟨by rw [List.length_append]; exact hl, by rw [List.length_append]; exact h2, fun i hi => ?_⟩
  rw [List.length_append] at hi
  by_cases y : i = L.length
  · have e : (L ++ [x]).getD i ([], 0) = x := by
      rw [y, List.getD_eq_getElem?_getD, List.getElem?_append_right (Nat.le_refl _), Nat.sub_self]; rfl
    rw [e, y]
    exact ⟨h4, h6⟩
  · have hi2 : i < L.length := by simp only [List.length_cons, List.length_nil] at hi; omega
    have e : (L ++ [x]).getD i ([], 0) = L.getD i ([], 0) := by
      rw [List.getD_eq_getElem?_getD, List.getD_eq_getElem?_getD, List.getElem?_append_left hi2]
    rw [e]
    refine ⟨fun k hk => ?_, ?_⟩
    · rw [h3 _ (by omega)]; exact (a3 i hi2).1 k hk
    · rw [h5 i hi2]; exact (a3 i hi2).2
section
variable {l : Launch} {b : PB}
set_option maxRecDepth 20000 in
theorem sq_keepWay {K2 : K2T} {I : Nat → Nat → Int32} {lf : Nat} {gx : Int32} {L : List WRow} {c : Nat → Nat} (hP : KPL L I) (hc : WCC 0 c I) (hK : ∀ J, KPL (wayL 0 lf gx c L) J → WCC 0 c J → (∀ q, q ≠ 160 ∧ q ≠ 161 ∧ q ≠ 162 ∧ q ≠ 165 → J q = I q) → K2 none J) : Ss l b 2 y_P_keepWay KC GP [.ref 160, .int (nI (8 - lf)), .int (gx)] (I) K2 := by
  obtain ⟨w0, hw0⟩ : ∃ w0, w0 = L.length := ⟨_, rfl⟩
  have hw : w0 ≤ 67 := by rw [hw0]; exact hP.1
  have ew : I 160 2 = nI w0 := by rw [hw0]; exact hP.2.1
  refine Ss.of (show As l b 2 y_P_keepWay KC GP K2 (I) 0 [.ref 160, .int (nI (8 - lf)), .int (gx)] [] from ?_)
  refine aw_aload_n rfl rfl d_P_keepWay_0 ?_
  refine aw_geti fl_P_39 kp_160 (by decide) rfl d_P_keepWay_1 ?_
  refine aw_top (x2 := nI (w0)) (ew) ?_
  refine aw_if_ltI (tgt := 64) ((w0 : Nat) : Int) (nI_toInt (by omega)) (by decide) d_P_keepWay_4 (fun q => absurd q (by omega)) (fun _ => ?_)
  refine aw_aload_n rfl rfl d_P_keepWay_7 ?_
  refine aw_geti fl_P_39 kp_160 (by decide) rfl d_P_keepWay_8 ?_
  refine aw_top (x2 := nI (w0)) (ew) ?_
  refine aw_bipush (v := nI 67) q1_cb_67 d_P_keepWay_11 ?_
  refine aw_icmp_geI (tgt := 64) ((w0 : Nat) : Int) (67) (nI_toInt (by omega)) (by decide +kernel) (by decide) d_P_keepWay_13 (fun c1 => ?_) (fun c1 => ?_)
  · exact as_retv rfl d_P_keepWay_64 (hK _ (by show KPL (if L.length < 67 then _ else L) I; rw [if_neg (by omega)]; exact hP) hc (fun q hq => rfl))
  · refine aw_aload_n rfl rfl d_P_keepWay_16 ?_
    refine aw_getr fl_P_24 kp_160 (by decide) rfl rp_160_5 d_P_keepWay_17 ?_
    refine aw_iconst (v := nI 0) ci_0 d_P_keepWay_20 ?_
    refine aw_iload_n rfl rfl d_P_keepWay_21 ?_
    refine aw_iast (j := 0) kp_165 (vp_in_nI (by decide) (by decide)) (nI_clamp (by decide)) d_P_keepWay_22 ?_
    refine aw_aload_n rfl rfl d_P_keepWay_23 ?_
    refine aw_getr fl_P_24 kp_160 (by decide) rfl rp_160_5 d_P_keepWay_24 ?_
    refine aw_iconst (v := nI 0) ci_0 d_P_keepWay_27 ?_
    refine aw_aload_n rfl rfl d_P_keepWay_28 ?_
    refine aw_getr fl_P_11 kp_160 (by decide) rfl rp_160_0 d_P_keepWay_29 ?_
    refine aw_aload_n rfl rfl d_P_keepWay_32 ?_
    refine aw_geti fl_P_39 kp_160 (by decide) rfl d_P_keepWay_33 ?_
    refine aw_top (x2 := nI (w0)) (Eq.trans (congrFun (upd2_ne (by decide)) (2)) (ew)) ?_
    refine aw_bipush (v := nI 9) q1_cb_9 d_P_keepWay_36 ?_
    refine aw_imulN d_P_keepWay_38 ?_
    refine aw_bipush (v := nI 9) q1_cb_9 d_P_keepWay_39 ?_
    refine as_copyE (sp := 0) (dp := (w0 * 9)) (n := 9) lka_P_42 ac_nat ac_sta ac_ini kp_165 kp_161 (by omega) (by omega) (by omega) (by decide) rfl d_P_keepWay_41 (fun J2 e3 e4 e5 => ?_)
    refine aw_aload_n rfl rfl d_P_keepWay_44 ?_
    refine aw_getr fl_P_15 kp_160 (by decide) rfl rp_160_1 d_P_keepWay_45 ?_
    refine aw_aload_n rfl rfl d_P_keepWay_48 ?_
    refine aw_geti fl_P_39 kp_160 (by decide) rfl d_P_keepWay_49 ?_
    refine aw_top (x2 := nI (w0)) (((congrFun (e3 160 (by decide)) (2)).trans (Eq.trans (congrFun (upd2_ne (by decide)) (2)) (ew)))) ?_
    refine aw_iload_n rfl rfl d_P_keepWay_52 ?_
    refine aw_iast (j := w0) kp_162 (vp_in_nI (by omega) (by decide)) (nI_clamp (by omega)) d_P_keepWay_53 ?_
    refine aw_aload_n rfl rfl d_P_keepWay_54 ?_
    refine aw_dup rfl d_P_keepWay_55 ?_
    refine aw_geti fl_P_39 kp_160 (by decide) rfl d_P_keepWay_56 ?_
    refine aw_top (x2 := nI (w0)) (Eq.trans (congrFun (upd2_ne (by decide)) (2)) (((congrFun (e3 160 (by decide)) (2)).trans (Eq.trans (congrFun (upd2_ne (by decide)) (2)) (ew))))) ?_
    refine aw_iconst (v := nI 1) ci_1 d_P_keepWay_59 ?_
    refine aw_iaddN d_P_keepWay_60 ?_
    refine aw_puti fl_P_39 kp_160 (by decide) rfl rfl rfl rfl d_P_keepWay_61 ?_
    have hl : L.length < 67 := by omega
    refine as_retv rfl d_P_keepWay_64 (hK _ ?_ ?_ (fun q hq => (upd2_ne hq.1).trans ((upd2_ne hq.2.2.1).trans ((e3 q hq.2.1).trans (upd2_ne hq.2.2.2)))))
    · show KPL (if L.length < 67 then L ++ [([8 - lf, c 1, c 2, c 3, c 4, c 5, c 6, c 7, c 8], gx)] else L) _
      rw [if_pos hl]
      refine KPL_add hP hl (by rw [upd2_eq, hw0]) (fun j hj => ?_) (fun k hk => ?_) (fun i hi => ?_) ?_
      · rw [upd2_ne (by decide), upd2_ne (by decide), e5 j (Or.inl (by omega)), upd2_ne (by decide)]
      · rw [upd2_ne (by decide), upd2_ne (by decide), show 9 * L.length + k = w0 * 9 + k by omega, e4 k hk, Nat.zero_add]
        by_cases y : k = 0
        · rw [y, upd2_eq]; rfl
        · rw [upd2_nx y, hc k (by omega) (by omega)]
          rcases (show k = 1 ∨ k = 2 ∨ k = 3 ∨ k = 4 ∨ k = 5 ∨ k = 6 ∨ k = 7 ∨ k = 8 by omega) with e | e | e | e | e | e | e | e <;> rw [e] <;> rfl
      · rw [upd2_ne (by decide), upd2_nx (by omega), e3 162 (by decide), upd2_ne (by decide)]
      · rw [upd2_ne (by decide), ← hw0, upd2_eq]
    · intro k k1 k2
      rw [upd2_ne (by decide), upd2_ne (by decide), e3 165 (by decide), upd2_nx (by omega)]
      exact hc k k1 k2
set_option maxRecDepth 20000 in
theorem sq_add_0 {K2 : K2T} {I : Nat → Nat → Int32} {lf0 : Nat} {gx : Int32} (hl : lf0 ≤ 8) {L : List WRow} {c : Nat → Nat} (hP : KPL L I) (hc : WCC 0 c I) (hK : ∀ J, KPL (wayL 0 lf0 gx c L) J → WCC 0 c J → (∀ q, q ≠ 160 ∧ q ≠ 161 ∧ q ≠ 162 ∧ q ≠ 165 → J q = I q) → K2 none J) : Ss l b 3 y_P_addWays KC GP [.ref 160, .int (nI 0), .int (nI (lf0)), .int (gx)] (I) K2 := by
  refine Ss.of (show As l b 3 y_P_addWays KC GP K2 (I) 0 [.ref 160, .int (nI 0), .int (nI (lf0)), .int (gx), uu] [] from ?_)
  refine aw_iload_n rfl rfl d_P_addWays_0 ?_
  refine aw_iconst (v := nI 1) ci_1 d_P_addWays_1 ?_
  refine aw_icmp_ltI (tgt := 11) (0) (1) (by decide +kernel) (by decide +kernel) (by decide) d_P_addWays_2 (fun _ => ?_) (fun q => absurd q (by decide))
  refine aw_aload_n rfl rfl d_P_addWays_11 ?_
  refine aw_bipush (v := nI 8) q1_cb_8 d_P_addWays_12 ?_
  refine aw_iload_n rfl rfl d_P_addWays_14 ?_
  refine aw_isubN (by omega) d_P_addWays_15 ?_
  refine aw_iload_n rfl rfl d_P_addWays_16 ?_
  refine as_callV (as := [.int (nI ((8 - lf0))), .int (gx)]) (d' := 2) (q := ("SinglesUp$Packer", zT6, 7)) mo_P_keepWay lk_P_35 kp_160 rfl rfl rfl ⟨by decide, by decide⟩ rfl rfl (by decide) d_P_addWays_17 (sq_keepWay (I := I) (lf := lf0) (gx := gx) (L := L) (c := c) hP hc (fun J1 kp2 cc2 fq3 => ?_))
  have F4 : ∀ q, q ≠ 160 ∧ q ≠ 161 ∧ q ≠ 162 ∧ q ≠ 165 → J1 q = I q := fun q hq => (fq3 q hq).trans (rfl)
  refine (show As l b 3 y_P_addWays KC GP K2 (J1) 20 [.ref 160, .int (nI 0), .int (nI (lf0)), .int (gx), uu] [] from ?_)
  exact as_retv rfl d_P_addWays_20 (hK _ kp2 cc2 (fun q hq => F4 q hq))
set_option maxRecDepth 20000 in
theorem lq_add_1 {K2 : K2T} {I0 : Nat → Nat → Int32} {lf0 : Nat} {gx : Int32} (hl : lf0 ≤ 8) {c : Nat → Nat} {LF : List WRow} (hK : ∀ J, KPL LF J → WCC 1 c J → (∀ q, q ≠ 160 ∧ q ≠ 161 ∧ q ≠ 162 ∧ q ≠ 165 → J q = I0 q) → K2 none J) : ∀ (m : Nat) (L : List WRow) (I : Nat → Nat → Int32), m * 1 ≤ lf0 → KPL L I → WCC 1 c I → wlp (wst 0 lf0 gx c) m L = LF → (∀ q, q ≠ 160 ∧ q ≠ 161 ∧ q ≠ 162 ∧ q ≠ 165 → I q = I0 q) → As l b 4 y_P_addWays KC GP K2 (I) 26 [.ref 160, .int (nI 1), .int (nI (lf0)), .int (gx), .int (nI (m))] [] := by
  intro m
  induction m with
  | zero =>
    intro L I hm hP hc hL hfr
    refine aw_iload rfl d_P_addWays_26 ?_
    refine aw_if_ltI (tgt := 72) (0) (by decide +kernel) (by decide) d_P_addWays_28 (fun q => absurd q (by decide)) (fun _ => ?_)
    refine aw_aload_n rfl rfl d_P_addWays_31 ?_
    refine aw_getr fl_P_24 kp_160 (by decide) rfl rp_160_5 d_P_addWays_32 ?_
    refine aw_iload_n rfl rfl d_P_addWays_35 ?_
    refine aw_iload rfl d_P_addWays_36 ?_
    refine aw_iast (j := 1) kp_165 (vp_in_nI (by decide) (by decide)) (nI_clamp (by decide)) d_P_addWays_38 ?_
    refine aw_aload_n rfl rfl d_P_addWays_39 ?_
    refine aw_iload_n rfl rfl d_P_addWays_40 ?_
    refine aw_iconst (v := nI 1) ci_1 d_P_addWays_41 ?_
    refine aw_isub d_P_addWays_42 ?_
    refine aw_top (x2 := nI 0) (by decide +kernel) ?_
    refine aw_iload_n rfl rfl d_P_addWays_43 ?_
    refine aw_iload rfl d_P_addWays_44 ?_
    refine aw_iload_n rfl rfl d_P_addWays_46 ?_
    refine aw_imul d_P_addWays_47 ?_
    refine aw_top (x2 := nI 0) (by decide +kernel) ?_
    refine aw_isubN (by omega) d_P_addWays_48 ?_
    refine aw_iload_n rfl rfl d_P_addWays_49 ?_
    refine aw_if_neI (tgt := 62) (gx).toInt rfl (by decide) d_P_addWays_50 (fun c1 => ?_) (fun c1 => ?_)
    · refine aw_iload_n rfl rfl d_P_addWays_62 ?_
      refine as_callV (as := [.int (nI 0), .int (nI ((lf0 - 0))), .int (gx)]) (d' := 3) (q := ("SinglesUp$Packer", zT6, 7)) mo_P_addWays lk_P_31 kp_160 rfl rfl rfl ⟨by decide, by decide⟩ rfl rfl (by decide) d_P_addWays_63 (sq_add_0 (I := upd2 I 165 (1) (nI 0)) (lf0 := (lf0 - 0)) (gx := gx) (L := L) (c := cup c 1 0) (by omega) (KPL_up (by decide) (by decide) (by decide) hP) (WCC_up (s := 0) hc) (fun J2 kp3 cc3 fq4 => ?_))
      have F5 : ∀ q, q ≠ 160 ∧ q ≠ 161 ∧ q ≠ 162 ∧ q ≠ 165 → J2 q = I0 q := fun q hq => (fq4 q hq).trans ((upd2_ne hq.2.2.2).trans (hfr q hq))
      refine (show As l b 4 y_P_addWays KC GP K2 (J2) 66 [.ref 160, .int (nI 1), .int (nI (lf0)), .int (gx), .int (nI 0)] [] from ?_)
      refine aw_iinc (v := (-1 : Int32)) (lv2 := [.ref 160, .int (nI 1), .int (nI (lf0)), .int (gx), .int ((-1 : Int32))]) rfl (by decide +kernel) (by decide) rfl d_P_addWays_66 ?_
      refine aw_goto (tgt := 26) (by decide) d_P_addWays_69 ?_
      refine aw_iload rfl d_P_addWays_26 ?_
      refine aw_if_ltI (tgt := 72) (-1) (by decide +kernel) (by decide) d_P_addWays_28 (fun _ => ?_) (fun q => absurd q (by decide))
      exact as_retv rfl d_P_addWays_72 (hK _ (show KPL LF _ by rw [← hL]; show KPL (wayL 0 (lf0 - 0 * 1) (gup gx 1 0) (cup c 1 0) L) _; rw [gup_0, Nat.zero_mul]; exact kp3) (WCC_dn (s := 0) cc3) (fun q hq => F5 q hq))
    · refine aw_iload rfl d_P_addWays_53 ?_
      refine aw_if_leI (tgt := 62) (0) (by decide +kernel) (by decide) d_P_addWays_55 (fun _ => ?_) (fun q => absurd q (by decide))
      refine aw_iload_n rfl rfl d_P_addWays_62 ?_
      refine as_callV (as := [.int (nI 0), .int (nI ((lf0 - 0))), .int (gx)]) (d' := 3) (q := ("SinglesUp$Packer", zT6, 7)) mo_P_addWays lk_P_31 kp_160 rfl rfl rfl ⟨by decide, by decide⟩ rfl rfl (by decide) d_P_addWays_63 (sq_add_0 (I := upd2 I 165 (1) (nI 0)) (lf0 := (lf0 - 0)) (gx := gx) (L := L) (c := cup c 1 0) (by omega) (KPL_up (by decide) (by decide) (by decide) hP) (WCC_up (s := 0) hc) (fun J6 kp7 cc7 fq8 => ?_))
      have F9 : ∀ q, q ≠ 160 ∧ q ≠ 161 ∧ q ≠ 162 ∧ q ≠ 165 → J6 q = I0 q := fun q hq => (fq8 q hq).trans ((upd2_ne hq.2.2.2).trans (hfr q hq))
      refine (show As l b 4 y_P_addWays KC GP K2 (J6) 66 [.ref 160, .int (nI 1), .int (nI (lf0)), .int (gx), .int (nI 0)] [] from ?_)
      refine aw_iinc (v := (-1 : Int32)) (lv2 := [.ref 160, .int (nI 1), .int (nI (lf0)), .int (gx), .int ((-1 : Int32))]) rfl (by decide +kernel) (by decide) rfl d_P_addWays_66 ?_
      refine aw_goto (tgt := 26) (by decide) d_P_addWays_69 ?_
      refine aw_iload rfl d_P_addWays_26 ?_
      refine aw_if_ltI (tgt := 72) (-1) (by decide +kernel) (by decide) d_P_addWays_28 (fun _ => ?_) (fun q => absurd q (by decide))
      exact as_retv rfl d_P_addWays_72 (hK _ (show KPL LF _ by rw [← hL]; show KPL (wayL 0 (lf0 - 0 * 1) (gup gx 1 0) (cup c 1 0) L) _; rw [gup_0, Nat.zero_mul]; exact kp7) (WCC_dn (s := 0) cc7) (fun q hq => F9 q hq))
  | succ m ih =>
    intro L I hm hP hc hL hfr
    refine aw_iload rfl d_P_addWays_26 ?_
    refine aw_if_ltI (tgt := 72) (((m + 1) : Nat) : Int) (nI_toInt (by omega)) (by decide) d_P_addWays_28 (fun q => absurd q (by omega)) (fun _ => ?_)
    refine aw_aload_n rfl rfl d_P_addWays_31 ?_
    refine aw_getr fl_P_24 kp_160 (by decide) rfl rp_160_5 d_P_addWays_32 ?_
    refine aw_iload_n rfl rfl d_P_addWays_35 ?_
    refine aw_iload rfl d_P_addWays_36 ?_
    refine aw_iast (j := 1) kp_165 (vp_in_nI (by decide) (by decide)) (nI_clamp (by decide)) d_P_addWays_38 ?_
    refine aw_aload_n rfl rfl d_P_addWays_39 ?_
    refine aw_iload_n rfl rfl d_P_addWays_40 ?_
    refine aw_iconst (v := nI 1) ci_1 d_P_addWays_41 ?_
    refine aw_isub d_P_addWays_42 ?_
    refine aw_top (x2 := nI 0) (by decide +kernel) ?_
    refine aw_iload_n rfl rfl d_P_addWays_43 ?_
    refine aw_iload rfl d_P_addWays_44 ?_
    refine aw_iload_n rfl rfl d_P_addWays_46 ?_
    refine aw_imulN d_P_addWays_47 ?_
    refine aw_isubN (by omega) d_P_addWays_48 ?_
    refine aw_iload_n rfl rfl d_P_addWays_49 ?_
    refine aw_if_neI (tgt := 62) (gx).toInt rfl (by decide) d_P_addWays_50 (fun c1 => ?_) (fun c1 => ?_)
    · refine aw_iload_n rfl rfl d_P_addWays_62 ?_
      refine as_callV (as := [.int (nI 0), .int (nI ((lf0 - ((m + 1) * 1)))), .int (gx)]) (d' := 3) (q := ("SinglesUp$Packer", zT6, 7)) mo_P_addWays lk_P_31 kp_160 rfl rfl rfl ⟨by decide, by decide⟩ rfl rfl (by decide) d_P_addWays_63 (sq_add_0 (I := upd2 I 165 (1) (nI ((m + 1)))) (lf0 := (lf0 - ((m + 1) * 1))) (gx := gx) (L := L) (c := cup c 1 (m + 1)) (by omega) (KPL_up (by decide) (by decide) (by decide) hP) (WCC_up (s := 0) hc) (fun J2 kp3 cc3 fq4 => ?_))
      have F5 : ∀ q, q ≠ 160 ∧ q ≠ 161 ∧ q ≠ 162 ∧ q ≠ 165 → J2 q = I0 q := fun q hq => (fq4 q hq).trans ((upd2_ne hq.2.2.2).trans (hfr q hq))
      refine (show As l b 4 y_P_addWays KC GP K2 (J2) 66 [.ref 160, .int (nI 1), .int (nI (lf0)), .int (gx), .int (nI ((m + 1)))] [] from ?_)
      refine aw_iinc (v := nI (m)) (lv2 := [.ref 160, .int (nI 1), .int (nI (lf0)), .int (gx), .int (nI (m))]) rfl (nI_m1 m) (by decide) rfl d_P_addWays_66 ?_
      refine aw_goto (tgt := 26) (by decide) d_P_addWays_69 ?_
      exact ih _ _ (by omega) kp3 (WCC_dn (s := 0) cc3) (show wlp (wst 0 lf0 gx c) m (wayL 0 (lf0 - (m + 1) * 1) (gx) (cup c 1 (m + 1)) L) = LF from Eq.trans (congrArg (fun g => wlp (wst 0 lf0 gx c) m (wayL 0 (lf0 - (m + 1) * 1) g (cup c 1 (m + 1)) L)) (gup_n 1 (m + 1) c1).symm) hL) (fun q hq => F5 q hq)
    · refine aw_iload rfl d_P_addWays_53 ?_
      refine aw_if_leI (tgt := 62) (((m + 1) : Nat) : Int) (nI_toInt (by omega)) (by decide) d_P_addWays_55 (fun c6 => ?_) (fun c6 => ?_)
      · exact absurd c6 (by omega)
      · refine aw_iload_n rfl rfl d_P_addWays_58 ?_
        refine aw_goto (tgt := 63) (by decide) d_P_addWays_59 ?_
        refine as_callV (as := [.int (nI 0), .int (nI ((lf0 - ((m + 1) * 1)))), .int (nI 1)]) (d' := 3) (q := ("SinglesUp$Packer", zT6, 7)) mo_P_addWays lk_P_31 kp_160 rfl rfl rfl ⟨by decide, by decide⟩ rfl rfl (by decide) d_P_addWays_63 (sq_add_0 (I := upd2 I 165 (1) (nI ((m + 1)))) (lf0 := (lf0 - ((m + 1) * 1))) (gx := nI 1) (L := L) (c := cup c 1 (m + 1)) (by omega) (KPL_up (by decide) (by decide) (by decide) hP) (WCC_up (s := 0) hc) (fun J11 kp12 cc12 fq13 => ?_))
        have F14 : ∀ q, q ≠ 160 ∧ q ≠ 161 ∧ q ≠ 162 ∧ q ≠ 165 → J11 q = I0 q := fun q hq => (fq13 q hq).trans ((upd2_ne hq.2.2.2).trans (hfr q hq))
        refine (show As l b 4 y_P_addWays KC GP K2 (J11) 66 [.ref 160, .int (nI 1), .int (nI (lf0)), .int (gx), .int (nI ((m + 1)))] [] from ?_)
        refine aw_iinc (v := nI (m)) (lv2 := [.ref 160, .int (nI 1), .int (nI (lf0)), .int (gx), .int (nI (m))]) rfl (nI_m1 m) (by decide) rfl d_P_addWays_66 ?_
        refine aw_goto (tgt := 26) (by decide) d_P_addWays_69 ?_
        exact ih _ _ (by omega) kp12 (WCC_dn (s := 0) cc12) (show wlp (wst 0 lf0 gx c) m (wayL 0 (lf0 - (m + 1) * 1) (nI 1) (cup c 1 (m + 1)) L) = LF from Eq.trans (congrArg (fun g => wlp (wst 0 lf0 gx c) m (wayL 0 (lf0 - (m + 1) * 1) g (cup c 1 (m + 1)) L)) (gup_p 1 m c1).symm) hL) (fun q hq => F14 q hq)
set_option maxRecDepth 20000 in
theorem sq_add_1 {K2 : K2T} {I : Nat → Nat → Int32} {lf0 : Nat} {gx : Int32} (hl : lf0 ≤ 8) {L : List WRow} {c : Nat → Nat} (hP : KPL L I) (hc : WCC 1 c I) (hK : ∀ J, KPL (wayL 1 lf0 gx c L) J → WCC 1 c J → (∀ q, q ≠ 160 ∧ q ≠ 161 ∧ q ≠ 162 ∧ q ≠ 165 → J q = I q) → K2 none J) : Ss l b 4 y_P_addWays KC GP [.ref 160, .int (nI 1), .int (nI (lf0)), .int (gx)] (I) K2 := by
  refine Ss.of (show As l b 4 y_P_addWays KC GP K2 (I) 0 [.ref 160, .int (nI 1), .int (nI (lf0)), .int (gx), uu] [] from ?_)
  refine aw_iload_n rfl rfl d_P_addWays_0 ?_
  refine aw_iconst (v := nI 1) ci_1 d_P_addWays_1 ?_
  refine aw_icmp_ltI (tgt := 11) (1) (1) (by decide +kernel) (by decide +kernel) (by decide) d_P_addWays_2 (fun q => absurd q (by decide)) (fun _ => ?_)
  refine aw_iload_n rfl rfl d_P_addWays_5 ?_
  refine aw_bipush (v := nI 8) q1_cb_8 d_P_addWays_6 ?_
  refine aw_icmp_leI (tgt := 21) (1) (8) (by decide +kernel) (by decide +kernel) (by decide) d_P_addWays_8 (fun _ => ?_) (fun q => absurd q (by decide))
  refine aw_iload_n rfl rfl d_P_addWays_21 ?_
  refine aw_iload_n rfl rfl d_P_addWays_22 ?_
  refine aw_idivN (by omega) (by omega) (by omega) d_P_addWays_23 ?_
  refine aw_istore (lv2 := [.ref 160, .int (nI 1), .int (nI (lf0)), .int (gx), .int (nI ((lf0 / 1)))]) (by decide) rfl d_P_addWays_24 ?_
  exact lq_add_1 hl hK (lf0 / 1) L I (by omega) hP hc rfl (fun q hq => rfl)
set_option maxRecDepth 20000 in
theorem lq_add_2 {K2 : K2T} {I0 : Nat → Nat → Int32} {lf0 : Nat} {gx : Int32} (hl : lf0 ≤ 8) {c : Nat → Nat} {LF : List WRow} (hK : ∀ J, KPL LF J → WCC 2 c J → (∀ q, q ≠ 160 ∧ q ≠ 161 ∧ q ≠ 162 ∧ q ≠ 165 → J q = I0 q) → K2 none J) : ∀ (m : Nat) (L : List WRow) (I : Nat → Nat → Int32), m * 2 ≤ lf0 → KPL L I → WCC 2 c I → wlp (wst 1 lf0 gx c) m L = LF → (∀ q, q ≠ 160 ∧ q ≠ 161 ∧ q ≠ 162 ∧ q ≠ 165 → I q = I0 q) → As l b 5 y_P_addWays KC GP K2 (I) 26 [.ref 160, .int (nI 2), .int (nI (lf0)), .int (gx), .int (nI (m))] [] := by
  intro m
  induction m with
  | zero =>
    intro L I hm hP hc hL hfr
    refine aw_iload rfl d_P_addWays_26 ?_
    refine aw_if_ltI (tgt := 72) (0) (by decide +kernel) (by decide) d_P_addWays_28 (fun q => absurd q (by decide)) (fun _ => ?_)
    refine aw_aload_n rfl rfl d_P_addWays_31 ?_
    refine aw_getr fl_P_24 kp_160 (by decide) rfl rp_160_5 d_P_addWays_32 ?_
    refine aw_iload_n rfl rfl d_P_addWays_35 ?_
    refine aw_iload rfl d_P_addWays_36 ?_
    refine aw_iast (j := 2) kp_165 (vp_in_nI (by decide) (by decide)) (nI_clamp (by decide)) d_P_addWays_38 ?_
    refine aw_aload_n rfl rfl d_P_addWays_39 ?_
    refine aw_iload_n rfl rfl d_P_addWays_40 ?_
    refine aw_iconst (v := nI 1) ci_1 d_P_addWays_41 ?_
    refine aw_isub d_P_addWays_42 ?_
    refine aw_top (x2 := nI 1) (by decide +kernel) ?_
    refine aw_iload_n rfl rfl d_P_addWays_43 ?_
    refine aw_iload rfl d_P_addWays_44 ?_
    refine aw_iload_n rfl rfl d_P_addWays_46 ?_
    refine aw_imul d_P_addWays_47 ?_
    refine aw_top (x2 := nI 0) (by decide +kernel) ?_
    refine aw_isubN (by omega) d_P_addWays_48 ?_
    refine aw_iload_n rfl rfl d_P_addWays_49 ?_
    refine aw_if_neI (tgt := 62) (gx).toInt rfl (by decide) d_P_addWays_50 (fun c1 => ?_) (fun c1 => ?_)
    · refine aw_iload_n rfl rfl d_P_addWays_62 ?_
      refine as_callV (as := [.int (nI 1), .int (nI ((lf0 - 0))), .int (gx)]) (d' := 4) (q := ("SinglesUp$Packer", zT6, 7)) mo_P_addWays lk_P_31 kp_160 rfl rfl rfl ⟨by decide, by decide⟩ rfl rfl (by decide) d_P_addWays_63 (sq_add_1 (I := upd2 I 165 (2) (nI 0)) (lf0 := (lf0 - 0)) (gx := gx) (L := L) (c := cup c 2 0) (by omega) (KPL_up (by decide) (by decide) (by decide) hP) (WCC_up (s := 1) hc) (fun J2 kp3 cc3 fq4 => ?_))
      have F5 : ∀ q, q ≠ 160 ∧ q ≠ 161 ∧ q ≠ 162 ∧ q ≠ 165 → J2 q = I0 q := fun q hq => (fq4 q hq).trans ((upd2_ne hq.2.2.2).trans (hfr q hq))
      refine (show As l b 5 y_P_addWays KC GP K2 (J2) 66 [.ref 160, .int (nI 2), .int (nI (lf0)), .int (gx), .int (nI 0)] [] from ?_)
      refine aw_iinc (v := (-1 : Int32)) (lv2 := [.ref 160, .int (nI 2), .int (nI (lf0)), .int (gx), .int ((-1 : Int32))]) rfl (by decide +kernel) (by decide) rfl d_P_addWays_66 ?_
      refine aw_goto (tgt := 26) (by decide) d_P_addWays_69 ?_
      refine aw_iload rfl d_P_addWays_26 ?_
      refine aw_if_ltI (tgt := 72) (-1) (by decide +kernel) (by decide) d_P_addWays_28 (fun _ => ?_) (fun q => absurd q (by decide))
      exact as_retv rfl d_P_addWays_72 (hK _ (show KPL LF _ by rw [← hL]; show KPL (wayL 1 (lf0 - 0 * 2) (gup gx 2 0) (cup c 2 0) L) _; rw [gup_0, Nat.zero_mul]; exact kp3) (WCC_dn (s := 1) cc3) (fun q hq => F5 q hq))
    · refine aw_iload rfl d_P_addWays_53 ?_
      refine aw_if_leI (tgt := 62) (0) (by decide +kernel) (by decide) d_P_addWays_55 (fun _ => ?_) (fun q => absurd q (by decide))
      refine aw_iload_n rfl rfl d_P_addWays_62 ?_
      refine as_callV (as := [.int (nI 1), .int (nI ((lf0 - 0))), .int (gx)]) (d' := 4) (q := ("SinglesUp$Packer", zT6, 7)) mo_P_addWays lk_P_31 kp_160 rfl rfl rfl ⟨by decide, by decide⟩ rfl rfl (by decide) d_P_addWays_63 (sq_add_1 (I := upd2 I 165 (2) (nI 0)) (lf0 := (lf0 - 0)) (gx := gx) (L := L) (c := cup c 2 0) (by omega) (KPL_up (by decide) (by decide) (by decide) hP) (WCC_up (s := 1) hc) (fun J6 kp7 cc7 fq8 => ?_))
      have F9 : ∀ q, q ≠ 160 ∧ q ≠ 161 ∧ q ≠ 162 ∧ q ≠ 165 → J6 q = I0 q := fun q hq => (fq8 q hq).trans ((upd2_ne hq.2.2.2).trans (hfr q hq))
      refine (show As l b 5 y_P_addWays KC GP K2 (J6) 66 [.ref 160, .int (nI 2), .int (nI (lf0)), .int (gx), .int (nI 0)] [] from ?_)
      refine aw_iinc (v := (-1 : Int32)) (lv2 := [.ref 160, .int (nI 2), .int (nI (lf0)), .int (gx), .int ((-1 : Int32))]) rfl (by decide +kernel) (by decide) rfl d_P_addWays_66 ?_
      refine aw_goto (tgt := 26) (by decide) d_P_addWays_69 ?_
      refine aw_iload rfl d_P_addWays_26 ?_
      refine aw_if_ltI (tgt := 72) (-1) (by decide +kernel) (by decide) d_P_addWays_28 (fun _ => ?_) (fun q => absurd q (by decide))
      exact as_retv rfl d_P_addWays_72 (hK _ (show KPL LF _ by rw [← hL]; show KPL (wayL 1 (lf0 - 0 * 2) (gup gx 2 0) (cup c 2 0) L) _; rw [gup_0, Nat.zero_mul]; exact kp7) (WCC_dn (s := 1) cc7) (fun q hq => F9 q hq))
  | succ m ih =>
    intro L I hm hP hc hL hfr
    refine aw_iload rfl d_P_addWays_26 ?_
    refine aw_if_ltI (tgt := 72) (((m + 1) : Nat) : Int) (nI_toInt (by omega)) (by decide) d_P_addWays_28 (fun q => absurd q (by omega)) (fun _ => ?_)
    refine aw_aload_n rfl rfl d_P_addWays_31 ?_
    refine aw_getr fl_P_24 kp_160 (by decide) rfl rp_160_5 d_P_addWays_32 ?_
    refine aw_iload_n rfl rfl d_P_addWays_35 ?_
    refine aw_iload rfl d_P_addWays_36 ?_
    refine aw_iast (j := 2) kp_165 (vp_in_nI (by decide) (by decide)) (nI_clamp (by decide)) d_P_addWays_38 ?_
    refine aw_aload_n rfl rfl d_P_addWays_39 ?_
    refine aw_iload_n rfl rfl d_P_addWays_40 ?_
    refine aw_iconst (v := nI 1) ci_1 d_P_addWays_41 ?_
    refine aw_isub d_P_addWays_42 ?_
    refine aw_top (x2 := nI 1) (by decide +kernel) ?_
    refine aw_iload_n rfl rfl d_P_addWays_43 ?_
    refine aw_iload rfl d_P_addWays_44 ?_
    refine aw_iload_n rfl rfl d_P_addWays_46 ?_
    refine aw_imulN d_P_addWays_47 ?_
    refine aw_isubN (by omega) d_P_addWays_48 ?_
    refine aw_iload_n rfl rfl d_P_addWays_49 ?_
    refine aw_if_neI (tgt := 62) (gx).toInt rfl (by decide) d_P_addWays_50 (fun c1 => ?_) (fun c1 => ?_)
    · refine aw_iload_n rfl rfl d_P_addWays_62 ?_
      refine as_callV (as := [.int (nI 1), .int (nI ((lf0 - ((m + 1) * 2)))), .int (gx)]) (d' := 4) (q := ("SinglesUp$Packer", zT6, 7)) mo_P_addWays lk_P_31 kp_160 rfl rfl rfl ⟨by decide, by decide⟩ rfl rfl (by decide) d_P_addWays_63 (sq_add_1 (I := upd2 I 165 (2) (nI ((m + 1)))) (lf0 := (lf0 - ((m + 1) * 2))) (gx := gx) (L := L) (c := cup c 2 (m + 1)) (by omega) (KPL_up (by decide) (by decide) (by decide) hP) (WCC_up (s := 1) hc) (fun J2 kp3 cc3 fq4 => ?_))
      have F5 : ∀ q, q ≠ 160 ∧ q ≠ 161 ∧ q ≠ 162 ∧ q ≠ 165 → J2 q = I0 q := fun q hq => (fq4 q hq).trans ((upd2_ne hq.2.2.2).trans (hfr q hq))
      refine (show As l b 5 y_P_addWays KC GP K2 (J2) 66 [.ref 160, .int (nI 2), .int (nI (lf0)), .int (gx), .int (nI ((m + 1)))] [] from ?_)
      refine aw_iinc (v := nI (m)) (lv2 := [.ref 160, .int (nI 2), .int (nI (lf0)), .int (gx), .int (nI (m))]) rfl (nI_m1 m) (by decide) rfl d_P_addWays_66 ?_
      refine aw_goto (tgt := 26) (by decide) d_P_addWays_69 ?_
      exact ih _ _ (by omega) kp3 (WCC_dn (s := 1) cc3) (show wlp (wst 1 lf0 gx c) m (wayL 1 (lf0 - (m + 1) * 2) (gx) (cup c 2 (m + 1)) L) = LF from Eq.trans (congrArg (fun g => wlp (wst 1 lf0 gx c) m (wayL 1 (lf0 - (m + 1) * 2) g (cup c 2 (m + 1)) L)) (gup_n 2 (m + 1) c1).symm) hL) (fun q hq => F5 q hq)
    · refine aw_iload rfl d_P_addWays_53 ?_
      refine aw_if_leI (tgt := 62) (((m + 1) : Nat) : Int) (nI_toInt (by omega)) (by decide) d_P_addWays_55 (fun c6 => ?_) (fun c6 => ?_)
      · exact absurd c6 (by omega)
      · refine aw_iload_n rfl rfl d_P_addWays_58 ?_
        refine aw_goto (tgt := 63) (by decide) d_P_addWays_59 ?_
        refine as_callV (as := [.int (nI 1), .int (nI ((lf0 - ((m + 1) * 2)))), .int (nI 2)]) (d' := 4) (q := ("SinglesUp$Packer", zT6, 7)) mo_P_addWays lk_P_31 kp_160 rfl rfl rfl ⟨by decide, by decide⟩ rfl rfl (by decide) d_P_addWays_63 (sq_add_1 (I := upd2 I 165 (2) (nI ((m + 1)))) (lf0 := (lf0 - ((m + 1) * 2))) (gx := nI 2) (L := L) (c := cup c 2 (m + 1)) (by omega) (KPL_up (by decide) (by decide) (by decide) hP) (WCC_up (s := 1) hc) (fun J11 kp12 cc12 fq13 => ?_))
        have F14 : ∀ q, q ≠ 160 ∧ q ≠ 161 ∧ q ≠ 162 ∧ q ≠ 165 → J11 q = I0 q := fun q hq => (fq13 q hq).trans ((upd2_ne hq.2.2.2).trans (hfr q hq))
        refine (show As l b 5 y_P_addWays KC GP K2 (J11) 66 [.ref 160, .int (nI 2), .int (nI (lf0)), .int (gx), .int (nI ((m + 1)))] [] from ?_)
        refine aw_iinc (v := nI (m)) (lv2 := [.ref 160, .int (nI 2), .int (nI (lf0)), .int (gx), .int (nI (m))]) rfl (nI_m1 m) (by decide) rfl d_P_addWays_66 ?_
        refine aw_goto (tgt := 26) (by decide) d_P_addWays_69 ?_
        exact ih _ _ (by omega) kp12 (WCC_dn (s := 1) cc12) (show wlp (wst 1 lf0 gx c) m (wayL 1 (lf0 - (m + 1) * 2) (nI 2) (cup c 2 (m + 1)) L) = LF from Eq.trans (congrArg (fun g => wlp (wst 1 lf0 gx c) m (wayL 1 (lf0 - (m + 1) * 2) g (cup c 2 (m + 1)) L)) (gup_p 2 m c1).symm) hL) (fun q hq => F14 q hq)
set_option maxRecDepth 20000 in
theorem sq_add_2 {K2 : K2T} {I : Nat → Nat → Int32} {lf0 : Nat} {gx : Int32} (hl : lf0 ≤ 8) {L : List WRow} {c : Nat → Nat} (hP : KPL L I) (hc : WCC 2 c I) (hK : ∀ J, KPL (wayL 2 lf0 gx c L) J → WCC 2 c J → (∀ q, q ≠ 160 ∧ q ≠ 161 ∧ q ≠ 162 ∧ q ≠ 165 → J q = I q) → K2 none J) : Ss l b 5 y_P_addWays KC GP [.ref 160, .int (nI 2), .int (nI (lf0)), .int (gx)] (I) K2 := by
  refine Ss.of (show As l b 5 y_P_addWays KC GP K2 (I) 0 [.ref 160, .int (nI 2), .int (nI (lf0)), .int (gx), uu] [] from ?_)
  refine aw_iload_n rfl rfl d_P_addWays_0 ?_
  refine aw_iconst (v := nI 1) ci_1 d_P_addWays_1 ?_
  refine aw_icmp_ltI (tgt := 11) (2) (1) (by decide +kernel) (by decide +kernel) (by decide) d_P_addWays_2 (fun q => absurd q (by decide)) (fun _ => ?_)
  refine aw_iload_n rfl rfl d_P_addWays_5 ?_
  refine aw_bipush (v := nI 8) q1_cb_8 d_P_addWays_6 ?_
  refine aw_icmp_leI (tgt := 21) (2) (8) (by decide +kernel) (by decide +kernel) (by decide) d_P_addWays_8 (fun _ => ?_) (fun q => absurd q (by decide))
  refine aw_iload_n rfl rfl d_P_addWays_21 ?_
  refine aw_iload_n rfl rfl d_P_addWays_22 ?_
  refine aw_idivN (by omega) (by omega) (by omega) d_P_addWays_23 ?_
  refine aw_istore (lv2 := [.ref 160, .int (nI 2), .int (nI (lf0)), .int (gx), .int (nI ((lf0 / 2)))]) (by decide) rfl d_P_addWays_24 ?_
  exact lq_add_2 hl hK (lf0 / 2) L I (by omega) hP hc rfl (fun q hq => rfl)
set_option maxRecDepth 20000 in
theorem lq_add_3 {K2 : K2T} {I0 : Nat → Nat → Int32} {lf0 : Nat} {gx : Int32} (hl : lf0 ≤ 8) {c : Nat → Nat} {LF : List WRow} (hK : ∀ J, KPL LF J → WCC 3 c J → (∀ q, q ≠ 160 ∧ q ≠ 161 ∧ q ≠ 162 ∧ q ≠ 165 → J q = I0 q) → K2 none J) : ∀ (m : Nat) (L : List WRow) (I : Nat → Nat → Int32), m * 3 ≤ lf0 → KPL L I → WCC 3 c I → wlp (wst 2 lf0 gx c) m L = LF → (∀ q, q ≠ 160 ∧ q ≠ 161 ∧ q ≠ 162 ∧ q ≠ 165 → I q = I0 q) → As l b 6 y_P_addWays KC GP K2 (I) 26 [.ref 160, .int (nI 3), .int (nI (lf0)), .int (gx), .int (nI (m))] [] := by
  intro m
  induction m with
  | zero =>
    intro L I hm hP hc hL hfr
    refine aw_iload rfl d_P_addWays_26 ?_
    refine aw_if_ltI (tgt := 72) (0) (by decide +kernel) (by decide) d_P_addWays_28 (fun q => absurd q (by decide)) (fun _ => ?_)
    refine aw_aload_n rfl rfl d_P_addWays_31 ?_
    refine aw_getr fl_P_24 kp_160 (by decide) rfl rp_160_5 d_P_addWays_32 ?_
    refine aw_iload_n rfl rfl d_P_addWays_35 ?_
    refine aw_iload rfl d_P_addWays_36 ?_
    refine aw_iast (j := 3) kp_165 (vp_in_nI (by decide) (by decide)) (nI_clamp (by decide)) d_P_addWays_38 ?_
    refine aw_aload_n rfl rfl d_P_addWays_39 ?_
    refine aw_iload_n rfl rfl d_P_addWays_40 ?_
    refine aw_iconst (v := nI 1) ci_1 d_P_addWays_41 ?_
    refine aw_isub d_P_addWays_42 ?_
    refine aw_top (x2 := nI 2) (by decide +kernel) ?_
    refine aw_iload_n rfl rfl d_P_addWays_43 ?_
    refine aw_iload rfl d_P_addWays_44 ?_
    refine aw_iload_n rfl rfl d_P_addWays_46 ?_
    refine aw_imul d_P_addWays_47 ?_
    refine aw_top (x2 := nI 0) (by decide +kernel) ?_
    refine aw_isubN (by omega) d_P_addWays_48 ?_
    refine aw_iload_n rfl rfl d_P_addWays_49 ?_
    refine aw_if_neI (tgt := 62) (gx).toInt rfl (by decide) d_P_addWays_50 (fun c1 => ?_) (fun c1 => ?_)
    · refine aw_iload_n rfl rfl d_P_addWays_62 ?_
      refine as_callV (as := [.int (nI 2), .int (nI ((lf0 - 0))), .int (gx)]) (d' := 5) (q := ("SinglesUp$Packer", zT6, 7)) mo_P_addWays lk_P_31 kp_160 rfl rfl rfl ⟨by decide, by decide⟩ rfl rfl (by decide) d_P_addWays_63 (sq_add_2 (I := upd2 I 165 (3) (nI 0)) (lf0 := (lf0 - 0)) (gx := gx) (L := L) (c := cup c 3 0) (by omega) (KPL_up (by decide) (by decide) (by decide) hP) (WCC_up (s := 2) hc) (fun J2 kp3 cc3 fq4 => ?_))
      have F5 : ∀ q, q ≠ 160 ∧ q ≠ 161 ∧ q ≠ 162 ∧ q ≠ 165 → J2 q = I0 q := fun q hq => (fq4 q hq).trans ((upd2_ne hq.2.2.2).trans (hfr q hq))
      refine (show As l b 6 y_P_addWays KC GP K2 (J2) 66 [.ref 160, .int (nI 3), .int (nI (lf0)), .int (gx), .int (nI 0)] [] from ?_)
      refine aw_iinc (v := (-1 : Int32)) (lv2 := [.ref 160, .int (nI 3), .int (nI (lf0)), .int (gx), .int ((-1 : Int32))]) rfl (by decide +kernel) (by decide) rfl d_P_addWays_66 ?_
      refine aw_goto (tgt := 26) (by decide) d_P_addWays_69 ?_
      refine aw_iload rfl d_P_addWays_26 ?_
      refine aw_if_ltI (tgt := 72) (-1) (by decide +kernel) (by decide) d_P_addWays_28 (fun _ => ?_) (fun q => absurd q (by decide))
      exact as_retv rfl d_P_addWays_72 (hK _ (show KPL LF _ by rw [← hL]; show KPL (wayL 2 (lf0 - 0 * 3) (gup gx 3 0) (cup c 3 0) L) _; rw [gup_0, Nat.zero_mul]; exact kp3) (WCC_dn (s := 2) cc3) (fun q hq => F5 q hq))
    · refine aw_iload rfl d_P_addWays_53 ?_
      refine aw_if_leI (tgt := 62) (0) (by decide +kernel) (by decide) d_P_addWays_55 (fun _ => ?_) (fun q => absurd q (by decide))
      refine aw_iload_n rfl rfl d_P_addWays_62 ?_
      refine as_callV (as := [.int (nI 2), .int (nI ((lf0 - 0))), .int (gx)]) (d' := 5) (q := ("SinglesUp$Packer", zT6, 7)) mo_P_addWays lk_P_31 kp_160 rfl rfl rfl ⟨by decide, by decide⟩ rfl rfl (by decide) d_P_addWays_63 (sq_add_2 (I := upd2 I 165 (3) (nI 0)) (lf0 := (lf0 - 0)) (gx := gx) (L := L) (c := cup c 3 0) (by omega) (KPL_up (by decide) (by decide) (by decide) hP) (WCC_up (s := 2) hc) (fun J6 kp7 cc7 fq8 => ?_))
      have F9 : ∀ q, q ≠ 160 ∧ q ≠ 161 ∧ q ≠ 162 ∧ q ≠ 165 → J6 q = I0 q := fun q hq => (fq8 q hq).trans ((upd2_ne hq.2.2.2).trans (hfr q hq))
      refine (show As l b 6 y_P_addWays KC GP K2 (J6) 66 [.ref 160, .int (nI 3), .int (nI (lf0)), .int (gx), .int (nI 0)] [] from ?_)
      refine aw_iinc (v := (-1 : Int32)) (lv2 := [.ref 160, .int (nI 3), .int (nI (lf0)), .int (gx), .int ((-1 : Int32))]) rfl (by decide +kernel) (by decide) rfl d_P_addWays_66 ?_
      refine aw_goto (tgt := 26) (by decide) d_P_addWays_69 ?_
      refine aw_iload rfl d_P_addWays_26 ?_
      refine aw_if_ltI (tgt := 72) (-1) (by decide +kernel) (by decide) d_P_addWays_28 (fun _ => ?_) (fun q => absurd q (by decide))
      exact as_retv rfl d_P_addWays_72 (hK _ (show KPL LF _ by rw [← hL]; show KPL (wayL 2 (lf0 - 0 * 3) (gup gx 3 0) (cup c 3 0) L) _; rw [gup_0, Nat.zero_mul]; exact kp7) (WCC_dn (s := 2) cc7) (fun q hq => F9 q hq))
  | succ m ih =>
    intro L I hm hP hc hL hfr
    refine aw_iload rfl d_P_addWays_26 ?_
    refine aw_if_ltI (tgt := 72) (((m + 1) : Nat) : Int) (nI_toInt (by omega)) (by decide) d_P_addWays_28 (fun q => absurd q (by omega)) (fun _ => ?_)
    refine aw_aload_n rfl rfl d_P_addWays_31 ?_
    refine aw_getr fl_P_24 kp_160 (by decide) rfl rp_160_5 d_P_addWays_32 ?_
    refine aw_iload_n rfl rfl d_P_addWays_35 ?_
    refine aw_iload rfl d_P_addWays_36 ?_
    refine aw_iast (j := 3) kp_165 (vp_in_nI (by decide) (by decide)) (nI_clamp (by decide)) d_P_addWays_38 ?_
    refine aw_aload_n rfl rfl d_P_addWays_39 ?_
    refine aw_iload_n rfl rfl d_P_addWays_40 ?_
    refine aw_iconst (v := nI 1) ci_1 d_P_addWays_41 ?_
    refine aw_isub d_P_addWays_42 ?_
    refine aw_top (x2 := nI 2) (by decide +kernel) ?_
    refine aw_iload_n rfl rfl d_P_addWays_43 ?_
    refine aw_iload rfl d_P_addWays_44 ?_
    refine aw_iload_n rfl rfl d_P_addWays_46 ?_
    refine aw_imulN d_P_addWays_47 ?_
    refine aw_isubN (by omega) d_P_addWays_48 ?_
    refine aw_iload_n rfl rfl d_P_addWays_49 ?_
    refine aw_if_neI (tgt := 62) (gx).toInt rfl (by decide) d_P_addWays_50 (fun c1 => ?_) (fun c1 => ?_)
    · refine aw_iload_n rfl rfl d_P_addWays_62 ?_
      refine as_callV (as := [.int (nI 2), .int (nI ((lf0 - ((m + 1) * 3)))), .int (gx)]) (d' := 5) (q := ("SinglesUp$Packer", zT6, 7)) mo_P_addWays lk_P_31 kp_160 rfl rfl rfl ⟨by decide, by decide⟩ rfl rfl (by decide) d_P_addWays_63 (sq_add_2 (I := upd2 I 165 (3) (nI ((m + 1)))) (lf0 := (lf0 - ((m + 1) * 3))) (gx := gx) (L := L) (c := cup c 3 (m + 1)) (by omega) (KPL_up (by decide) (by decide) (by decide) hP) (WCC_up (s := 2) hc) (fun J2 kp3 cc3 fq4 => ?_))
      have F5 : ∀ q, q ≠ 160 ∧ q ≠ 161 ∧ q ≠ 162 ∧ q ≠ 165 → J2 q = I0 q := fun q hq => (fq4 q hq).trans ((upd2_ne hq.2.2.2).trans (hfr q hq))
      refine (show As l b 6 y_P_addWays KC GP K2 (J2) 66 [.ref 160, .int (nI 3), .int (nI (lf0)), .int (gx), .int (nI ((m + 1)))] [] from ?_)
      refine aw_iinc (v := nI (m)) (lv2 := [.ref 160, .int (nI 3), .int (nI (lf0)), .int (gx), .int (nI (m))]) rfl (nI_m1 m) (by decide) rfl d_P_addWays_66 ?_
      refine aw_goto (tgt := 26) (by decide) d_P_addWays_69 ?_
      exact ih _ _ (by omega) kp3 (WCC_dn (s := 2) cc3) (show wlp (wst 2 lf0 gx c) m (wayL 2 (lf0 - (m + 1) * 3) (gx) (cup c 3 (m + 1)) L) = LF from Eq.trans (congrArg (fun g => wlp (wst 2 lf0 gx c) m (wayL 2 (lf0 - (m + 1) * 3) g (cup c 3 (m + 1)) L)) (gup_n 3 (m + 1) c1).symm) hL) (fun q hq => F5 q hq)
    · refine aw_iload rfl d_P_addWays_53 ?_
      refine aw_if_leI (tgt := 62) (((m + 1) : Nat) : Int) (nI_toInt (by omega)) (by decide) d_P_addWays_55 (fun c6 => ?_) (fun c6 => ?_)
      · exact absurd c6 (by omega)
      · refine aw_iload_n rfl rfl d_P_addWays_58 ?_
        refine aw_goto (tgt := 63) (by decide) d_P_addWays_59 ?_
        refine as_callV (as := [.int (nI 2), .int (nI ((lf0 - ((m + 1) * 3)))), .int (nI 3)]) (d' := 5) (q := ("SinglesUp$Packer", zT6, 7)) mo_P_addWays lk_P_31 kp_160 rfl rfl rfl ⟨by decide, by decide⟩ rfl rfl (by decide) d_P_addWays_63 (sq_add_2 (I := upd2 I 165 (3) (nI ((m + 1)))) (lf0 := (lf0 - ((m + 1) * 3))) (gx := nI 3) (L := L) (c := cup c 3 (m + 1)) (by omega) (KPL_up (by decide) (by decide) (by decide) hP) (WCC_up (s := 2) hc) (fun J11 kp12 cc12 fq13 => ?_))
        have F14 : ∀ q, q ≠ 160 ∧ q ≠ 161 ∧ q ≠ 162 ∧ q ≠ 165 → J11 q = I0 q := fun q hq => (fq13 q hq).trans ((upd2_ne hq.2.2.2).trans (hfr q hq))
        refine (show As l b 6 y_P_addWays KC GP K2 (J11) 66 [.ref 160, .int (nI 3), .int (nI (lf0)), .int (gx), .int (nI ((m + 1)))] [] from ?_)
        refine aw_iinc (v := nI (m)) (lv2 := [.ref 160, .int (nI 3), .int (nI (lf0)), .int (gx), .int (nI (m))]) rfl (nI_m1 m) (by decide) rfl d_P_addWays_66 ?_
        refine aw_goto (tgt := 26) (by decide) d_P_addWays_69 ?_
        exact ih _ _ (by omega) kp12 (WCC_dn (s := 2) cc12) (show wlp (wst 2 lf0 gx c) m (wayL 2 (lf0 - (m + 1) * 3) (nI 3) (cup c 3 (m + 1)) L) = LF from Eq.trans (congrArg (fun g => wlp (wst 2 lf0 gx c) m (wayL 2 (lf0 - (m + 1) * 3) g (cup c 3 (m + 1)) L)) (gup_p 3 m c1).symm) hL) (fun q hq => F14 q hq)
set_option maxRecDepth 20000 in
theorem sq_add_3 {K2 : K2T} {I : Nat → Nat → Int32} {lf0 : Nat} {gx : Int32} (hl : lf0 ≤ 8) {L : List WRow} {c : Nat → Nat} (hP : KPL L I) (hc : WCC 3 c I) (hK : ∀ J, KPL (wayL 3 lf0 gx c L) J → WCC 3 c J → (∀ q, q ≠ 160 ∧ q ≠ 161 ∧ q ≠ 162 ∧ q ≠ 165 → J q = I q) → K2 none J) : Ss l b 6 y_P_addWays KC GP [.ref 160, .int (nI 3), .int (nI (lf0)), .int (gx)] (I) K2 := by
  refine Ss.of (show As l b 6 y_P_addWays KC GP K2 (I) 0 [.ref 160, .int (nI 3), .int (nI (lf0)), .int (gx), uu] [] from ?_)
  refine aw_iload_n rfl rfl d_P_addWays_0 ?_
  refine aw_iconst (v := nI 1) ci_1 d_P_addWays_1 ?_
  refine aw_icmp_ltI (tgt := 11) (3) (1) (by decide +kernel) (by decide +kernel) (by decide) d_P_addWays_2 (fun q => absurd q (by decide)) (fun _ => ?_)
  refine aw_iload_n rfl rfl d_P_addWays_5 ?_
  refine aw_bipush (v := nI 8) q1_cb_8 d_P_addWays_6 ?_
  refine aw_icmp_leI (tgt := 21) (3) (8) (by decide +kernel) (by decide +kernel) (by decide) d_P_addWays_8 (fun _ => ?_) (fun q => absurd q (by decide))
  refine aw_iload_n rfl rfl d_P_addWays_21 ?_
  refine aw_iload_n rfl rfl d_P_addWays_22 ?_
  refine aw_idivN (by omega) (by omega) (by omega) d_P_addWays_23 ?_
  refine aw_istore (lv2 := [.ref 160, .int (nI 3), .int (nI (lf0)), .int (gx), .int (nI ((lf0 / 3)))]) (by decide) rfl d_P_addWays_24 ?_
  exact lq_add_3 hl hK (lf0 / 3) L I (by omega) hP hc rfl (fun q hq => rfl)
set_option maxRecDepth 20000 in
theorem lq_add_4 {K2 : K2T} {I0 : Nat → Nat → Int32} {lf0 : Nat} {gx : Int32} (hl : lf0 ≤ 8) {c : Nat → Nat} {LF : List WRow} (hK : ∀ J, KPL LF J → WCC 4 c J → (∀ q, q ≠ 160 ∧ q ≠ 161 ∧ q ≠ 162 ∧ q ≠ 165 → J q = I0 q) → K2 none J) : ∀ (m : Nat) (L : List WRow) (I : Nat → Nat → Int32), m * 4 ≤ lf0 → KPL L I → WCC 4 c I → wlp (wst 3 lf0 gx c) m L = LF → (∀ q, q ≠ 160 ∧ q ≠ 161 ∧ q ≠ 162 ∧ q ≠ 165 → I q = I0 q) → As l b 7 y_P_addWays KC GP K2 (I) 26 [.ref 160, .int (nI 4), .int (nI (lf0)), .int (gx), .int (nI (m))] [] := by
  intro m
  induction m with
  | zero =>
    intro L I hm hP hc hL hfr
    refine aw_iload rfl d_P_addWays_26 ?_
    refine aw_if_ltI (tgt := 72) (0) (by decide +kernel) (by decide) d_P_addWays_28 (fun q => absurd q (by decide)) (fun _ => ?_)
    refine aw_aload_n rfl rfl d_P_addWays_31 ?_
    refine aw_getr fl_P_24 kp_160 (by decide) rfl rp_160_5 d_P_addWays_32 ?_
    refine aw_iload_n rfl rfl d_P_addWays_35 ?_
    refine aw_iload rfl d_P_addWays_36 ?_
    refine aw_iast (j := 4) kp_165 (vp_in_nI (by decide) (by decide)) (nI_clamp (by decide)) d_P_addWays_38 ?_
    refine aw_aload_n rfl rfl d_P_addWays_39 ?_
    refine aw_iload_n rfl rfl d_P_addWays_40 ?_
    refine aw_iconst (v := nI 1) ci_1 d_P_addWays_41 ?_
    refine aw_isub d_P_addWays_42 ?_
    refine aw_top (x2 := nI 3) (by decide +kernel) ?_
    refine aw_iload_n rfl rfl d_P_addWays_43 ?_
    refine aw_iload rfl d_P_addWays_44 ?_
    refine aw_iload_n rfl rfl d_P_addWays_46 ?_
    refine aw_imul d_P_addWays_47 ?_
    refine aw_top (x2 := nI 0) (by decide +kernel) ?_
    refine aw_isubN (by omega) d_P_addWays_48 ?_
    refine aw_iload_n rfl rfl d_P_addWays_49 ?_
    refine aw_if_neI (tgt := 62) (gx).toInt rfl (by decide) d_P_addWays_50 (fun c1 => ?_) (fun c1 => ?_)
    · refine aw_iload_n rfl rfl d_P_addWays_62 ?_
      refine as_callV (as := [.int (nI 3), .int (nI ((lf0 - 0))), .int (gx)]) (d' := 6) (q := ("SinglesUp$Packer", zT6, 7)) mo_P_addWays lk_P_31 kp_160 rfl rfl rfl ⟨by decide, by decide⟩ rfl rfl (by decide) d_P_addWays_63 (sq_add_3 (I := upd2 I 165 (4) (nI 0)) (lf0 := (lf0 - 0)) (gx := gx) (L := L) (c := cup c 4 0) (by omega) (KPL_up (by decide) (by decide) (by decide) hP) (WCC_up (s := 3) hc) (fun J2 kp3 cc3 fq4 => ?_))
      have F5 : ∀ q, q ≠ 160 ∧ q ≠ 161 ∧ q ≠ 162 ∧ q ≠ 165 → J2 q = I0 q := fun q hq => (fq4 q hq).trans ((upd2_ne hq.2.2.2).trans (hfr q hq))
      refine (show As l b 7 y_P_addWays KC GP K2 (J2) 66 [.ref 160, .int (nI 4), .int (nI (lf0)), .int (gx), .int (nI 0)] [] from ?_)
      refine aw_iinc (v := (-1 : Int32)) (lv2 := [.ref 160, .int (nI 4), .int (nI (lf0)), .int (gx), .int ((-1 : Int32))]) rfl (by decide +kernel) (by decide) rfl d_P_addWays_66 ?_
      refine aw_goto (tgt := 26) (by decide) d_P_addWays_69 ?_
      refine aw_iload rfl d_P_addWays_26 ?_
      refine aw_if_ltI (tgt := 72) (-1) (by decide +kernel) (by decide) d_P_addWays_28 (fun _ => ?_) (fun q => absurd q (by decide))
      exact as_retv rfl d_P_addWays_72 (hK _ (show KPL LF _ by rw [← hL]; show KPL (wayL 3 (lf0 - 0 * 4) (gup gx 4 0) (cup c 4 0) L) _; rw [gup_0, Nat.zero_mul]; exact kp3) (WCC_dn (s := 3) cc3) (fun q hq => F5 q hq))
    · refine aw_iload rfl d_P_addWays_53 ?_
      refine aw_if_leI (tgt := 62) (0) (by decide +kernel) (by decide) d_P_addWays_55 (fun _ => ?_) (fun q => absurd q (by decide))
      refine aw_iload_n rfl rfl d_P_addWays_62 ?_
      refine as_callV (as := [.int (nI 3), .int (nI ((lf0 - 0))), .int (gx)]) (d' := 6) (q := ("SinglesUp$Packer", zT6, 7)) mo_P_addWays lk_P_31 kp_160 rfl rfl rfl ⟨by decide, by decide⟩ rfl rfl (by decide) d_P_addWays_63 (sq_add_3 (I := upd2 I 165 (4) (nI 0)) (lf0 := (lf0 - 0)) (gx := gx) (L := L) (c := cup c 4 0) (by omega) (KPL_up (by decide) (by decide) (by decide) hP) (WCC_up (s := 3) hc) (fun J6 kp7 cc7 fq8 => ?_))
      have F9 : ∀ q, q ≠ 160 ∧ q ≠ 161 ∧ q ≠ 162 ∧ q ≠ 165 → J6 q = I0 q := fun q hq => (fq8 q hq).trans ((upd2_ne hq.2.2.2).trans (hfr q hq))
      refine (show As l b 7 y_P_addWays KC GP K2 (J6) 66 [.ref 160, .int (nI 4), .int (nI (lf0)), .int (gx), .int (nI 0)] [] from ?_)
      refine aw_iinc (v := (-1 : Int32)) (lv2 := [.ref 160, .int (nI 4), .int (nI (lf0)), .int (gx), .int ((-1 : Int32))]) rfl (by decide +kernel) (by decide) rfl d_P_addWays_66 ?_
      refine aw_goto (tgt := 26) (by decide) d_P_addWays_69 ?_
      refine aw_iload rfl d_P_addWays_26 ?_
      refine aw_if_ltI (tgt := 72) (-1) (by decide +kernel) (by decide) d_P_addWays_28 (fun _ => ?_) (fun q => absurd q (by decide))
      exact as_retv rfl d_P_addWays_72 (hK _ (show KPL LF _ by rw [← hL]; show KPL (wayL 3 (lf0 - 0 * 4) (gup gx 4 0) (cup c 4 0) L) _; rw [gup_0, Nat.zero_mul]; exact kp7) (WCC_dn (s := 3) cc7) (fun q hq => F9 q hq))
  | succ m ih =>
    intro L I hm hP hc hL hfr
    refine aw_iload rfl d_P_addWays_26 ?_
    refine aw_if_ltI (tgt := 72) (((m + 1) : Nat) : Int) (nI_toInt (by omega)) (by decide) d_P_addWays_28 (fun q => absurd q (by omega)) (fun _ => ?_)
    refine aw_aload_n rfl rfl d_P_addWays_31 ?_
    refine aw_getr fl_P_24 kp_160 (by decide) rfl rp_160_5 d_P_addWays_32 ?_
    refine aw_iload_n rfl rfl d_P_addWays_35 ?_
    refine aw_iload rfl d_P_addWays_36 ?_
    refine aw_iast (j := 4) kp_165 (vp_in_nI (by decide) (by decide)) (nI_clamp (by decide)) d_P_addWays_38 ?_
    refine aw_aload_n rfl rfl d_P_addWays_39 ?_
    refine aw_iload_n rfl rfl d_P_addWays_40 ?_
    refine aw_iconst (v := nI 1) ci_1 d_P_addWays_41 ?_
    refine aw_isub d_P_addWays_42 ?_
    refine aw_top (x2 := nI 3) (by decide +kernel) ?_
    refine aw_iload_n rfl rfl d_P_addWays_43 ?_
    refine aw_iload rfl d_P_addWays_44 ?_
    refine aw_iload_n rfl rfl d_P_addWays_46 ?_
    refine aw_imulN d_P_addWays_47 ?_
    refine aw_isubN (by omega) d_P_addWays_48 ?_
    refine aw_iload_n rfl rfl d_P_addWays_49 ?_
    refine aw_if_neI (tgt := 62) (gx).toInt rfl (by decide) d_P_addWays_50 (fun c1 => ?_) (fun c1 => ?_)
    · refine aw_iload_n rfl rfl d_P_addWays_62 ?_
      refine as_callV (as := [.int (nI 3), .int (nI ((lf0 - ((m + 1) * 4)))), .int (gx)]) (d' := 6) (q := ("SinglesUp$Packer", zT6, 7)) mo_P_addWays lk_P_31 kp_160 rfl rfl rfl ⟨by decide, by decide⟩ rfl rfl (by decide) d_P_addWays_63 (sq_add_3 (I := upd2 I 165 (4) (nI ((m + 1)))) (lf0 := (lf0 - ((m + 1) * 4))) (gx := gx) (L := L) (c := cup c 4 (m + 1)) (by omega) (KPL_up (by decide) (by decide) (by decide) hP) (WCC_up (s := 3) hc) (fun J2 kp3 cc3 fq4 => ?_))
      have F5 : ∀ q, q ≠ 160 ∧ q ≠ 161 ∧ q ≠ 162 ∧ q ≠ 165 → J2 q = I0 q := fun q hq => (fq4 q hq).trans ((upd2_ne hq.2.2.2).trans (hfr q hq))
      refine (show As l b 7 y_P_addWays KC GP K2 (J2) 66 [.ref 160, .int (nI 4), .int (nI (lf0)), .int (gx), .int (nI ((m + 1)))] [] from ?_)
      refine aw_iinc (v := nI (m)) (lv2 := [.ref 160, .int (nI 4), .int (nI (lf0)), .int (gx), .int (nI (m))]) rfl (nI_m1 m) (by decide) rfl d_P_addWays_66 ?_
      refine aw_goto (tgt := 26) (by decide) d_P_addWays_69 ?_
      exact ih _ _ (by omega) kp3 (WCC_dn (s := 3) cc3) (show wlp (wst 3 lf0 gx c) m (wayL 3 (lf0 - (m + 1) * 4) (gx) (cup c 4 (m + 1)) L) = LF from Eq.trans (congrArg (fun g => wlp (wst 3 lf0 gx c) m (wayL 3 (lf0 - (m + 1) * 4) g (cup c 4 (m + 1)) L)) (gup_n 4 (m + 1) c1).symm) hL) (fun q hq => F5 q hq)
    · refine aw_iload rfl d_P_addWays_53 ?_
      refine aw_if_leI (tgt := 62) (((m + 1) : Nat) : Int) (nI_toInt (by omega)) (by decide) d_P_addWays_55 (fun c6 => ?_) (fun c6 => ?_)
      · exact absurd c6 (by omega)
      · refine aw_iload_n rfl rfl d_P_addWays_58 ?_
        refine aw_goto (tgt := 63) (by decide) d_P_addWays_59 ?_
        refine as_callV (as := [.int (nI 3), .int (nI ((lf0 - ((m + 1) * 4)))), .int (nI 4)]) (d' := 6) (q := ("SinglesUp$Packer", zT6, 7)) mo_P_addWays lk_P_31 kp_160 rfl rfl rfl ⟨by decide, by decide⟩ rfl rfl (by decide) d_P_addWays_63 (sq_add_3 (I := upd2 I 165 (4) (nI ((m + 1)))) (lf0 := (lf0 - ((m + 1) * 4))) (gx := nI 4) (L := L) (c := cup c 4 (m + 1)) (by omega) (KPL_up (by decide) (by decide) (by decide) hP) (WCC_up (s := 3) hc) (fun J11 kp12 cc12 fq13 => ?_))
        have F14 : ∀ q, q ≠ 160 ∧ q ≠ 161 ∧ q ≠ 162 ∧ q ≠ 165 → J11 q = I0 q := fun q hq => (fq13 q hq).trans ((upd2_ne hq.2.2.2).trans (hfr q hq))
        refine (show As l b 7 y_P_addWays KC GP K2 (J11) 66 [.ref 160, .int (nI 4), .int (nI (lf0)), .int (gx), .int (nI ((m + 1)))] [] from ?_)
        refine aw_iinc (v := nI (m)) (lv2 := [.ref 160, .int (nI 4), .int (nI (lf0)), .int (gx), .int (nI (m))]) rfl (nI_m1 m) (by decide) rfl d_P_addWays_66 ?_
        refine aw_goto (tgt := 26) (by decide) d_P_addWays_69 ?_
        exact ih _ _ (by omega) kp12 (WCC_dn (s := 3) cc12) (show wlp (wst 3 lf0 gx c) m (wayL 3 (lf0 - (m + 1) * 4) (nI 4) (cup c 4 (m + 1)) L) = LF from Eq.trans (congrArg (fun g => wlp (wst 3 lf0 gx c) m (wayL 3 (lf0 - (m + 1) * 4) g (cup c 4 (m + 1)) L)) (gup_p 4 m c1).symm) hL) (fun q hq => F14 q hq)
set_option maxRecDepth 20000 in
theorem sq_add_4 {K2 : K2T} {I : Nat → Nat → Int32} {lf0 : Nat} {gx : Int32} (hl : lf0 ≤ 8) {L : List WRow} {c : Nat → Nat} (hP : KPL L I) (hc : WCC 4 c I) (hK : ∀ J, KPL (wayL 4 lf0 gx c L) J → WCC 4 c J → (∀ q, q ≠ 160 ∧ q ≠ 161 ∧ q ≠ 162 ∧ q ≠ 165 → J q = I q) → K2 none J) : Ss l b 7 y_P_addWays KC GP [.ref 160, .int (nI 4), .int (nI (lf0)), .int (gx)] (I) K2 := by
  refine Ss.of (show As l b 7 y_P_addWays KC GP K2 (I) 0 [.ref 160, .int (nI 4), .int (nI (lf0)), .int (gx), uu] [] from ?_)
  refine aw_iload_n rfl rfl d_P_addWays_0 ?_
  refine aw_iconst (v := nI 1) ci_1 d_P_addWays_1 ?_
  refine aw_icmp_ltI (tgt := 11) (4) (1) (by decide +kernel) (by decide +kernel) (by decide) d_P_addWays_2 (fun q => absurd q (by decide)) (fun _ => ?_)
  refine aw_iload_n rfl rfl d_P_addWays_5 ?_
  refine aw_bipush (v := nI 8) q1_cb_8 d_P_addWays_6 ?_
  refine aw_icmp_leI (tgt := 21) (4) (8) (by decide +kernel) (by decide +kernel) (by decide) d_P_addWays_8 (fun _ => ?_) (fun q => absurd q (by decide))
  refine aw_iload_n rfl rfl d_P_addWays_21 ?_
  refine aw_iload_n rfl rfl d_P_addWays_22 ?_
  refine aw_idivN (by omega) (by omega) (by omega) d_P_addWays_23 ?_
  refine aw_istore (lv2 := [.ref 160, .int (nI 4), .int (nI (lf0)), .int (gx), .int (nI ((lf0 / 4)))]) (by decide) rfl d_P_addWays_24 ?_
  exact lq_add_4 hl hK (lf0 / 4) L I (by omega) hP hc rfl (fun q hq => rfl)
set_option maxRecDepth 20000 in
theorem lq_add_5 {K2 : K2T} {I0 : Nat → Nat → Int32} {lf0 : Nat} {gx : Int32} (hl : lf0 ≤ 8) {c : Nat → Nat} {LF : List WRow} (hK : ∀ J, KPL LF J → WCC 5 c J → (∀ q, q ≠ 160 ∧ q ≠ 161 ∧ q ≠ 162 ∧ q ≠ 165 → J q = I0 q) → K2 none J) : ∀ (m : Nat) (L : List WRow) (I : Nat → Nat → Int32), m * 5 ≤ lf0 → KPL L I → WCC 5 c I → wlp (wst 4 lf0 gx c) m L = LF → (∀ q, q ≠ 160 ∧ q ≠ 161 ∧ q ≠ 162 ∧ q ≠ 165 → I q = I0 q) → As l b 8 y_P_addWays KC GP K2 (I) 26 [.ref 160, .int (nI 5), .int (nI (lf0)), .int (gx), .int (nI (m))] [] := by
  intro m
  induction m with
  | zero =>
    intro L I hm hP hc hL hfr
    refine aw_iload rfl d_P_addWays_26 ?_
    refine aw_if_ltI (tgt := 72) (0) (by decide +kernel) (by decide) d_P_addWays_28 (fun q => absurd q (by decide)) (fun _ => ?_)
    refine aw_aload_n rfl rfl d_P_addWays_31 ?_
    refine aw_getr fl_P_24 kp_160 (by decide) rfl rp_160_5 d_P_addWays_32 ?_
    refine aw_iload_n rfl rfl d_P_addWays_35 ?_
    refine aw_iload rfl d_P_addWays_36 ?_
    refine aw_iast (j := 5) kp_165 (vp_in_nI (by decide) (by decide)) (nI_clamp (by decide)) d_P_addWays_38 ?_
    refine aw_aload_n rfl rfl d_P_addWays_39 ?_
    refine aw_iload_n rfl rfl d_P_addWays_40 ?_
    refine aw_iconst (v := nI 1) ci_1 d_P_addWays_41 ?_
    refine aw_isub d_P_addWays_42 ?_
    refine aw_top (x2 := nI 4) (by decide +kernel) ?_
    refine aw_iload_n rfl rfl d_P_addWays_43 ?_
    refine aw_iload rfl d_P_addWays_44 ?_
    refine aw_iload_n rfl rfl d_P_addWays_46 ?_
    refine aw_imul d_P_addWays_47 ?_
    refine aw_top (x2 := nI 0) (by decide +kernel) ?_
    refine aw_isubN (by omega) d_P_addWays_48 ?_
    refine aw_iload_n rfl rfl d_P_addWays_49 ?_
    refine aw_if_neI (tgt := 62) (gx).toInt rfl (by decide) d_P_addWays_50 (fun c1 => ?_) (fun c1 => ?_)
    · refine aw_iload_n rfl rfl d_P_addWays_62 ?_
      refine as_callV (as := [.int (nI 4), .int (nI ((lf0 - 0))), .int (gx)]) (d' := 7) (q := ("SinglesUp$Packer", zT6, 7)) mo_P_addWays lk_P_31 kp_160 rfl rfl rfl ⟨by decide, by decide⟩ rfl rfl (by decide) d_P_addWays_63 (sq_add_4 (I := upd2 I 165 (5) (nI 0)) (lf0 := (lf0 - 0)) (gx := gx) (L := L) (c := cup c 5 0) (by omega) (KPL_up (by decide) (by decide) (by decide) hP) (WCC_up (s := 4) hc) (fun J2 kp3 cc3 fq4 => ?_))
      have F5 : ∀ q, q ≠ 160 ∧ q ≠ 161 ∧ q ≠ 162 ∧ q ≠ 165 → J2 q = I0 q := fun q hq => (fq4 q hq).trans ((upd2_ne hq.2.2.2).trans (hfr q hq))
      refine (show As l b 8 y_P_addWays KC GP K2 (J2) 66 [.ref 160, .int (nI 5), .int (nI (lf0)), .int (gx), .int (nI 0)] [] from ?_)
      refine aw_iinc (v := (-1 : Int32)) (lv2 := [.ref 160, .int (nI 5), .int (nI (lf0)), .int (gx), .int ((-1 : Int32))]) rfl (by decide +kernel) (by decide) rfl d_P_addWays_66 ?_
      refine aw_goto (tgt := 26) (by decide) d_P_addWays_69 ?_
      refine aw_iload rfl d_P_addWays_26 ?_
      refine aw_if_ltI (tgt := 72) (-1) (by decide +kernel) (by decide) d_P_addWays_28 (fun _ => ?_) (fun q => absurd q (by decide))
      exact as_retv rfl d_P_addWays_72 (hK _ (show KPL LF _ by rw [← hL]; show KPL (wayL 4 (lf0 - 0 * 5) (gup gx 5 0) (cup c 5 0) L) _; rw [gup_0, Nat.zero_mul]; exact kp3) (WCC_dn (s := 4) cc3) (fun q hq => F5 q hq))
    · refine aw_iload rfl d_P_addWays_53 ?_
      refine aw_if_leI (tgt := 62) (0) (by decide +kernel) (by decide) d_P_addWays_55 (fun _ => ?_) (fun q => absurd q (by decide))
      refine aw_iload_n rfl rfl d_P_addWays_62 ?_
      refine as_callV (as := [.int (nI 4), .int (nI ((lf0 - 0))), .int (gx)]) (d' := 7) (q := ("SinglesUp$Packer", zT6, 7)) mo_P_addWays lk_P_31 kp_160 rfl rfl rfl ⟨by decide, by decide⟩ rfl rfl (by decide) d_P_addWays_63 (sq_add_4 (I := upd2 I 165 (5) (nI 0)) (lf0 := (lf0 - 0)) (gx := gx) (L := L) (c := cup c 5 0) (by omega) (KPL_up (by decide) (by decide) (by decide) hP) (WCC_up (s := 4) hc) (fun J6 kp7 cc7 fq8 => ?_))
      have F9 : ∀ q, q ≠ 160 ∧ q ≠ 161 ∧ q ≠ 162 ∧ q ≠ 165 → J6 q = I0 q := fun q hq => (fq8 q hq).trans ((upd2_ne hq.2.2.2).trans (hfr q hq))
      refine (show As l b 8 y_P_addWays KC GP K2 (J6) 66 [.ref 160, .int (nI 5), .int (nI (lf0)), .int (gx), .int (nI 0)] [] from ?_)
      refine aw_iinc (v := (-1 : Int32)) (lv2 := [.ref 160, .int (nI 5), .int (nI (lf0)), .int (gx), .int ((-1 : Int32))]) rfl (by decide +kernel) (by decide) rfl d_P_addWays_66 ?_
      refine aw_goto (tgt := 26) (by decide) d_P_addWays_69 ?_
      refine aw_iload rfl d_P_addWays_26 ?_
      refine aw_if_ltI (tgt := 72) (-1) (by decide +kernel) (by decide) d_P_addWays_28 (fun _ => ?_) (fun q => absurd q (by decide))
      exact as_retv rfl d_P_addWays_72 (hK _ (show KPL LF _ by rw [← hL]; show KPL (wayL 4 (lf0 - 0 * 5) (gup gx 5 0) (cup c 5 0) L) _; rw [gup_0, Nat.zero_mul]; exact kp7) (WCC_dn (s := 4) cc7) (fun q hq => F9 q hq))
  | succ m ih =>
    intro L I hm hP hc hL hfr
    refine aw_iload rfl d_P_addWays_26 ?_
    refine aw_if_ltI (tgt := 72) (((m + 1) : Nat) : Int) (nI_toInt (by omega)) (by decide) d_P_addWays_28 (fun q => absurd q (by omega)) (fun _ => ?_)
    refine aw_aload_n rfl rfl d_P_addWays_31 ?_
    refine aw_getr fl_P_24 kp_160 (by decide) rfl rp_160_5 d_P_addWays_32 ?_
    refine aw_iload_n rfl rfl d_P_addWays_35 ?_
    refine aw_iload rfl d_P_addWays_36 ?_
    refine aw_iast (j := 5) kp_165 (vp_in_nI (by decide) (by decide)) (nI_clamp (by decide)) d_P_addWays_38 ?_
    refine aw_aload_n rfl rfl d_P_addWays_39 ?_
    refine aw_iload_n rfl rfl d_P_addWays_40 ?_
    refine aw_iconst (v := nI 1) ci_1 d_P_addWays_41 ?_
    refine aw_isub d_P_addWays_42 ?_
    refine aw_top (x2 := nI 4) (by decide +kernel) ?_
    refine aw_iload_n rfl rfl d_P_addWays_43 ?_
    refine aw_iload rfl d_P_addWays_44 ?_
    refine aw_iload_n rfl rfl d_P_addWays_46 ?_
    refine aw_imulN d_P_addWays_47 ?_
    refine aw_isubN (by omega) d_P_addWays_48 ?_
    refine aw_iload_n rfl rfl d_P_addWays_49 ?_
    refine aw_if_neI (tgt := 62) (gx).toInt rfl (by decide) d_P_addWays_50 (fun c1 => ?_) (fun c1 => ?_)
    · refine aw_iload_n rfl rfl d_P_addWays_62 ?_
      refine as_callV (as := [.int (nI 4), .int (nI ((lf0 - ((m + 1) * 5)))), .int (gx)]) (d' := 7) (q := ("SinglesUp$Packer", zT6, 7)) mo_P_addWays lk_P_31 kp_160 rfl rfl rfl ⟨by decide, by decide⟩ rfl rfl (by decide) d_P_addWays_63 (sq_add_4 (I := upd2 I 165 (5) (nI ((m + 1)))) (lf0 := (lf0 - ((m + 1) * 5))) (gx := gx) (L := L) (c := cup c 5 (m + 1)) (by omega) (KPL_up (by decide) (by decide) (by decide) hP) (WCC_up (s := 4) hc) (fun J2 kp3 cc3 fq4 => ?_))
      have F5 : ∀ q, q ≠ 160 ∧ q ≠ 161 ∧ q ≠ 162 ∧ q ≠ 165 → J2 q = I0 q := fun q hq => (fq4 q hq).trans ((upd2_ne hq.2.2.2).trans (hfr q hq))
      refine (show As l b 8 y_P_addWays KC GP K2 (J2) 66 [.ref 160, .int (nI 5), .int (nI (lf0)), .int (gx), .int (nI ((m + 1)))] [] from ?_)
      refine aw_iinc (v := nI (m)) (lv2 := [.ref 160, .int (nI 5), .int (nI (lf0)), .int (gx), .int (nI (m))]) rfl (nI_m1 m) (by decide) rfl d_P_addWays_66 ?_
      refine aw_goto (tgt := 26) (by decide) d_P_addWays_69 ?_
      exact ih _ _ (by omega) kp3 (WCC_dn (s := 4) cc3) (show wlp (wst 4 lf0 gx c) m (wayL 4 (lf0 - (m + 1) * 5) (gx) (cup c 5 (m + 1)) L) = LF from Eq.trans (congrArg (fun g => wlp (wst 4 lf0 gx c) m (wayL 4 (lf0 - (m + 1) * 5) g (cup c 5 (m + 1)) L)) (gup_n 5 (m + 1) c1).symm) hL) (fun q hq => F5 q hq)
    · refine aw_iload rfl d_P_addWays_53 ?_
      refine aw_if_leI (tgt := 62) (((m + 1) : Nat) : Int) (nI_toInt (by omega)) (by decide) d_P_addWays_55 (fun c6 => ?_) (fun c6 => ?_)
      · exact absurd c6 (by omega)
      · refine aw_iload_n rfl rfl d_P_addWays_58 ?_
        refine aw_goto (tgt := 63) (by decide) d_P_addWays_59 ?_
        refine as_callV (as := [.int (nI 4), .int (nI ((lf0 - ((m + 1) * 5)))), .int (nI 5)]) (d' := 7) (q := ("SinglesUp$Packer", zT6, 7)) mo_P_addWays lk_P_31 kp_160 rfl rfl rfl ⟨by decide, by decide⟩ rfl rfl (by decide) d_P_addWays_63 (sq_add_4 (I := upd2 I 165 (5) (nI ((m + 1)))) (lf0 := (lf0 - ((m + 1) * 5))) (gx := nI 5) (L := L) (c := cup c 5 (m + 1)) (by omega) (KPL_up (by decide) (by decide) (by decide) hP) (WCC_up (s := 4) hc) (fun J11 kp12 cc12 fq13 => ?_))
        have F14 : ∀ q, q ≠ 160 ∧ q ≠ 161 ∧ q ≠ 162 ∧ q ≠ 165 → J11 q = I0 q := fun q hq => (fq13 q hq).trans ((upd2_ne hq.2.2.2).trans (hfr q hq))
        refine (show As l b 8 y_P_addWays KC GP K2 (J11) 66 [.ref 160, .int (nI 5), .int (nI (lf0)), .int (gx), .int (nI ((m + 1)))] [] from ?_)
        refine aw_iinc (v := nI (m)) (lv2 := [.ref 160, .int (nI 5), .int (nI (lf0)), .int (gx), .int (nI (m))]) rfl (nI_m1 m) (by decide) rfl d_P_addWays_66 ?_
        refine aw_goto (tgt := 26) (by decide) d_P_addWays_69 ?_
        exact ih _ _ (by omega) kp12 (WCC_dn (s := 4) cc12) (show wlp (wst 4 lf0 gx c) m (wayL 4 (lf0 - (m + 1) * 5) (nI 5) (cup c 5 (m + 1)) L) = LF from Eq.trans (congrArg (fun g => wlp (wst 4 lf0 gx c) m (wayL 4 (lf0 - (m + 1) * 5) g (cup c 5 (m + 1)) L)) (gup_p 5 m c1).symm) hL) (fun q hq => F14 q hq)
set_option maxRecDepth 20000 in
theorem sq_add_5 {K2 : K2T} {I : Nat → Nat → Int32} {lf0 : Nat} {gx : Int32} (hl : lf0 ≤ 8) {L : List WRow} {c : Nat → Nat} (hP : KPL L I) (hc : WCC 5 c I) (hK : ∀ J, KPL (wayL 5 lf0 gx c L) J → WCC 5 c J → (∀ q, q ≠ 160 ∧ q ≠ 161 ∧ q ≠ 162 ∧ q ≠ 165 → J q = I q) → K2 none J) : Ss l b 8 y_P_addWays KC GP [.ref 160, .int (nI 5), .int (nI (lf0)), .int (gx)] (I) K2 := by
  refine Ss.of (show As l b 8 y_P_addWays KC GP K2 (I) 0 [.ref 160, .int (nI 5), .int (nI (lf0)), .int (gx), uu] [] from ?_)
  refine aw_iload_n rfl rfl d_P_addWays_0 ?_
  refine aw_iconst (v := nI 1) ci_1 d_P_addWays_1 ?_
  refine aw_icmp_ltI (tgt := 11) (5) (1) (by decide +kernel) (by decide +kernel) (by decide) d_P_addWays_2 (fun q => absurd q (by decide)) (fun _ => ?_)
  refine aw_iload_n rfl rfl d_P_addWays_5 ?_
  refine aw_bipush (v := nI 8) q1_cb_8 d_P_addWays_6 ?_
  refine aw_icmp_leI (tgt := 21) (5) (8) (by decide +kernel) (by decide +kernel) (by decide) d_P_addWays_8 (fun _ => ?_) (fun q => absurd q (by decide))
  refine aw_iload_n rfl rfl d_P_addWays_21 ?_
  refine aw_iload_n rfl rfl d_P_addWays_22 ?_
  refine aw_idivN (by omega) (by omega) (by omega) d_P_addWays_23 ?_
  refine aw_istore (lv2 := [.ref 160, .int (nI 5), .int (nI (lf0)), .int (gx), .int (nI ((lf0 / 5)))]) (by decide) rfl d_P_addWays_24 ?_
  exact lq_add_5 hl hK (lf0 / 5) L I (by omega) hP hc rfl (fun q hq => rfl)
set_option maxRecDepth 20000 in
theorem lq_add_6 {K2 : K2T} {I0 : Nat → Nat → Int32} {lf0 : Nat} {gx : Int32} (hl : lf0 ≤ 8) {c : Nat → Nat} {LF : List WRow} (hK : ∀ J, KPL LF J → WCC 6 c J → (∀ q, q ≠ 160 ∧ q ≠ 161 ∧ q ≠ 162 ∧ q ≠ 165 → J q = I0 q) → K2 none J) : ∀ (m : Nat) (L : List WRow) (I : Nat → Nat → Int32), m * 6 ≤ lf0 → KPL L I → WCC 6 c I → wlp (wst 5 lf0 gx c) m L = LF → (∀ q, q ≠ 160 ∧ q ≠ 161 ∧ q ≠ 162 ∧ q ≠ 165 → I q = I0 q) → As l b 9 y_P_addWays KC GP K2 (I) 26 [.ref 160, .int (nI 6), .int (nI (lf0)), .int (gx), .int (nI (m))] [] := by
  intro m
  induction m with
  | zero =>
    intro L I hm hP hc hL hfr
    refine aw_iload rfl d_P_addWays_26 ?_
    refine aw_if_ltI (tgt := 72) (0) (by decide +kernel) (by decide) d_P_addWays_28 (fun q => absurd q (by decide)) (fun _ => ?_)
    refine aw_aload_n rfl rfl d_P_addWays_31 ?_
    refine aw_getr fl_P_24 kp_160 (by decide) rfl rp_160_5 d_P_addWays_32 ?_
    refine aw_iload_n rfl rfl d_P_addWays_35 ?_
    refine aw_iload rfl d_P_addWays_36 ?_
    refine aw_iast (j := 6) kp_165 (vp_in_nI (by decide) (by decide)) (nI_clamp (by decide)) d_P_addWays_38 ?_
    refine aw_aload_n rfl rfl d_P_addWays_39 ?_
    refine aw_iload_n rfl rfl d_P_addWays_40 ?_
    refine aw_iconst (v := nI 1) ci_1 d_P_addWays_41 ?_
    refine aw_isub d_P_addWays_42 ?_
    refine aw_top (x2 := nI 5) (by decide +kernel) ?_
    refine aw_iload_n rfl rfl d_P_addWays_43 ?_
    refine aw_iload rfl d_P_addWays_44 ?_
    refine aw_iload_n rfl rfl d_P_addWays_46 ?_
    refine aw_imul d_P_addWays_47 ?_
    refine aw_top (x2 := nI 0) (by decide +kernel) ?_
    refine aw_isubN (by omega) d_P_addWays_48 ?_
    refine aw_iload_n rfl rfl d_P_addWays_49 ?_
    refine aw_if_neI (tgt := 62) (gx).toInt rfl (by decide) d_P_addWays_50 (fun c1 => ?_) (fun c1 => ?_)
    · refine aw_iload_n rfl rfl d_P_addWays_62 ?_
      refine as_callV (as := [.int (nI 5), .int (nI ((lf0 - 0))), .int (gx)]) (d' := 8) (q := ("SinglesUp$Packer", zT6, 7)) mo_P_addWays lk_P_31 kp_160 rfl rfl rfl ⟨by decide, by decide⟩ rfl rfl (by decide) d_P_addWays_63 (sq_add_5 (I := upd2 I 165 (6) (nI 0)) (lf0 := (lf0 - 0)) (gx := gx) (L := L) (c := cup c 6 0) (by omega) (KPL_up (by decide) (by decide) (by decide) hP) (WCC_up (s := 5) hc) (fun J2 kp3 cc3 fq4 => ?_))
      have F5 : ∀ q, q ≠ 160 ∧ q ≠ 161 ∧ q ≠ 162 ∧ q ≠ 165 → J2 q = I0 q := fun q hq => (fq4 q hq).trans ((upd2_ne hq.2.2.2).trans (hfr q hq))
      refine (show As l b 9 y_P_addWays KC GP K2 (J2) 66 [.ref 160, .int (nI 6), .int (nI (lf0)), .int (gx), .int (nI 0)] [] from ?_)
      refine aw_iinc (v := (-1 : Int32)) (lv2 := [.ref 160, .int (nI 6), .int (nI (lf0)), .int (gx), .int ((-1 : Int32))]) rfl (by decide +kernel) (by decide) rfl d_P_addWays_66 ?_
      refine aw_goto (tgt := 26) (by decide) d_P_addWays_69 ?_
      refine aw_iload rfl d_P_addWays_26 ?_
      refine aw_if_ltI (tgt := 72) (-1) (by decide +kernel) (by decide) d_P_addWays_28 (fun _ => ?_) (fun q => absurd q (by decide))
      exact as_retv rfl d_P_addWays_72 (hK _ (show KPL LF _ by rw [← hL]; show KPL (wayL 5 (lf0 - 0 * 6) (gup gx 6 0) (cup c 6 0) L) _; rw [gup_0, Nat.zero_mul]; exact kp3) (WCC_dn (s := 5) cc3) (fun q hq => F5 q hq))
    · refine aw_iload rfl d_P_addWays_53 ?_
      refine aw_if_leI (tgt := 62) (0) (by decide +kernel) (by decide) d_P_addWays_55 (fun _ => ?_) (fun q => absurd q (by decide))
      refine aw_iload_n rfl rfl d_P_addWays_62 ?_
      refine as_callV (as := [.int (nI 5), .int (nI ((lf0 - 0))), .int (gx)]) (d' := 8) (q := ("SinglesUp$Packer", zT6, 7)) mo_P_addWays lk_P_31 kp_160 rfl rfl rfl ⟨by decide, by decide⟩ rfl rfl (by decide) d_P_addWays_63 (sq_add_5 (I := upd2 I 165 (6) (nI 0)) (lf0 := (lf0 - 0)) (gx := gx) (L := L) (c := cup c 6 0) (by omega) (KPL_up (by decide) (by decide) (by decide) hP) (WCC_up (s := 5) hc) (fun J6 kp7 cc7 fq8 => ?_))
      have F9 : ∀ q, q ≠ 160 ∧ q ≠ 161 ∧ q ≠ 162 ∧ q ≠ 165 → J6 q = I0 q := fun q hq => (fq8 q hq).trans ((upd2_ne hq.2.2.2).trans (hfr q hq))
      refine (show As l b 9 y_P_addWays KC GP K2 (J6) 66 [.ref 160, .int (nI 6), .int (nI (lf0)), .int (gx), .int (nI 0)] [] from ?_)
      refine aw_iinc (v := (-1 : Int32)) (lv2 := [.ref 160, .int (nI 6), .int (nI (lf0)), .int (gx), .int ((-1 : Int32))]) rfl (by decide +kernel) (by decide) rfl d_P_addWays_66 ?_
      refine aw_goto (tgt := 26) (by decide) d_P_addWays_69 ?_
      refine aw_iload rfl d_P_addWays_26 ?_
      refine aw_if_ltI (tgt := 72) (-1) (by decide +kernel) (by decide) d_P_addWays_28 (fun _ => ?_) (fun q => absurd q (by decide))
      exact as_retv rfl d_P_addWays_72 (hK _ (show KPL LF _ by rw [← hL]; show KPL (wayL 5 (lf0 - 0 * 6) (gup gx 6 0) (cup c 6 0) L) _; rw [gup_0, Nat.zero_mul]; exact kp7) (WCC_dn (s := 5) cc7) (fun q hq => F9 q hq))
  | succ m ih =>
    intro L I hm hP hc hL hfr
    refine aw_iload rfl d_P_addWays_26 ?_
    refine aw_if_ltI (tgt := 72) (((m + 1) : Nat) : Int) (nI_toInt (by omega)) (by decide) d_P_addWays_28 (fun q => absurd q (by omega)) (fun _ => ?_)
    refine aw_aload_n rfl rfl d_P_addWays_31 ?_
    refine aw_getr fl_P_24 kp_160 (by decide) rfl rp_160_5 d_P_addWays_32 ?_
    refine aw_iload_n rfl rfl d_P_addWays_35 ?_
    refine aw_iload rfl d_P_addWays_36 ?_
    refine aw_iast (j := 6) kp_165 (vp_in_nI (by decide) (by decide)) (nI_clamp (by decide)) d_P_addWays_38 ?_
    refine aw_aload_n rfl rfl d_P_addWays_39 ?_
    refine aw_iload_n rfl rfl d_P_addWays_40 ?_
    refine aw_iconst (v := nI 1) ci_1 d_P_addWays_41 ?_
    refine aw_isub d_P_addWays_42 ?_
    refine aw_top (x2 := nI 5) (by decide +kernel) ?_
    refine aw_iload_n rfl rfl d_P_addWays_43 ?_
    refine aw_iload rfl d_P_addWays_44 ?_
    refine aw_iload_n rfl rfl d_P_addWays_46 ?_
    refine aw_imulN d_P_addWays_47 ?_
    refine aw_isubN (by omega) d_P_addWays_48 ?_
    refine aw_iload_n rfl rfl d_P_addWays_49 ?_
    refine aw_if_neI (tgt := 62) (gx).toInt rfl (by decide) d_P_addWays_50 (fun c1 => ?_) (fun c1 => ?_)
    · refine aw_iload_n rfl rfl d_P_addWays_62 ?_
      refine as_callV (as := [.int (nI 5), .int (nI ((lf0 - ((m + 1) * 6)))), .int (gx)]) (d' := 8) (q := ("SinglesUp$Packer", zT6, 7)) mo_P_addWays lk_P_31 kp_160 rfl rfl rfl ⟨by decide, by decide⟩ rfl rfl (by decide) d_P_addWays_63 (sq_add_5 (I := upd2 I 165 (6) (nI ((m + 1)))) (lf0 := (lf0 - ((m + 1) * 6))) (gx := gx) (L := L) (c := cup c 6 (m + 1)) (by omega) (KPL_up (by decide) (by decide) (by decide) hP) (WCC_up (s := 5) hc) (fun J2 kp3 cc3 fq4 => ?_))
      have F5 : ∀ q, q ≠ 160 ∧ q ≠ 161 ∧ q ≠ 162 ∧ q ≠ 165 → J2 q = I0 q := fun q hq => (fq4 q hq).trans ((upd2_ne hq.2.2.2).trans (hfr q hq))
      refine (show As l b 9 y_P_addWays KC GP K2 (J2) 66 [.ref 160, .int (nI 6), .int (nI (lf0)), .int (gx), .int (nI ((m + 1)))] [] from ?_)
      refine aw_iinc (v := nI (m)) (lv2 := [.ref 160, .int (nI 6), .int (nI (lf0)), .int (gx), .int (nI (m))]) rfl (nI_m1 m) (by decide) rfl d_P_addWays_66 ?_
      refine aw_goto (tgt := 26) (by decide) d_P_addWays_69 ?_
      exact ih _ _ (by omega) kp3 (WCC_dn (s := 5) cc3) (show wlp (wst 5 lf0 gx c) m (wayL 5 (lf0 - (m + 1) * 6) (gx) (cup c 6 (m + 1)) L) = LF from Eq.trans (congrArg (fun g => wlp (wst 5 lf0 gx c) m (wayL 5 (lf0 - (m + 1) * 6) g (cup c 6 (m + 1)) L)) (gup_n 6 (m + 1) c1).symm) hL) (fun q hq => F5 q hq)
    · refine aw_iload rfl d_P_addWays_53 ?_
      refine aw_if_leI (tgt := 62) (((m + 1) : Nat) : Int) (nI_toInt (by omega)) (by decide) d_P_addWays_55 (fun c6 => ?_) (fun c6 => ?_)
      · exact absurd c6 (by omega)
      · refine aw_iload_n rfl rfl d_P_addWays_58 ?_
        refine aw_goto (tgt := 63) (by decide) d_P_addWays_59 ?_
        refine as_callV (as := [.int (nI 5), .int (nI ((lf0 - ((m + 1) * 6)))), .int (nI 6)]) (d' := 8) (q := ("SinglesUp$Packer", zT6, 7)) mo_P_addWays lk_P_31 kp_160 rfl rfl rfl ⟨by decide, by decide⟩ rfl rfl (by decide) d_P_addWays_63 (sq_add_5 (I := upd2 I 165 (6) (nI ((m + 1)))) (lf0 := (lf0 - ((m + 1) * 6))) (gx := nI 6) (L := L) (c := cup c 6 (m + 1)) (by omega) (KPL_up (by decide) (by decide) (by decide) hP) (WCC_up (s := 5) hc) (fun J11 kp12 cc12 fq13 => ?_))
        have F14 : ∀ q, q ≠ 160 ∧ q ≠ 161 ∧ q ≠ 162 ∧ q ≠ 165 → J11 q = I0 q := fun q hq => (fq13 q hq).trans ((upd2_ne hq.2.2.2).trans (hfr q hq))
        refine (show As l b 9 y_P_addWays KC GP K2 (J11) 66 [.ref 160, .int (nI 6), .int (nI (lf0)), .int (gx), .int (nI ((m + 1)))] [] from ?_)
        refine aw_iinc (v := nI (m)) (lv2 := [.ref 160, .int (nI 6), .int (nI (lf0)), .int (gx), .int (nI (m))]) rfl (nI_m1 m) (by decide) rfl d_P_addWays_66 ?_
        refine aw_goto (tgt := 26) (by decide) d_P_addWays_69 ?_
        exact ih _ _ (by omega) kp12 (WCC_dn (s := 5) cc12) (show wlp (wst 5 lf0 gx c) m (wayL 5 (lf0 - (m + 1) * 6) (nI 6) (cup c 6 (m + 1)) L) = LF from Eq.trans (congrArg (fun g => wlp (wst 5 lf0 gx c) m (wayL 5 (lf0 - (m + 1) * 6) g (cup c 6 (m + 1)) L)) (gup_p 6 m c1).symm) hL) (fun q hq => F14 q hq)
set_option maxRecDepth 20000 in
theorem sq_add_6 {K2 : K2T} {I : Nat → Nat → Int32} {lf0 : Nat} {gx : Int32} (hl : lf0 ≤ 8) {L : List WRow} {c : Nat → Nat} (hP : KPL L I) (hc : WCC 6 c I) (hK : ∀ J, KPL (wayL 6 lf0 gx c L) J → WCC 6 c J → (∀ q, q ≠ 160 ∧ q ≠ 161 ∧ q ≠ 162 ∧ q ≠ 165 → J q = I q) → K2 none J) : Ss l b 9 y_P_addWays KC GP [.ref 160, .int (nI 6), .int (nI (lf0)), .int (gx)] (I) K2 := by
  refine Ss.of (show As l b 9 y_P_addWays KC GP K2 (I) 0 [.ref 160, .int (nI 6), .int (nI (lf0)), .int (gx), uu] [] from ?_)
  refine aw_iload_n rfl rfl d_P_addWays_0 ?_
  refine aw_iconst (v := nI 1) ci_1 d_P_addWays_1 ?_
  refine aw_icmp_ltI (tgt := 11) (6) (1) (by decide +kernel) (by decide +kernel) (by decide) d_P_addWays_2 (fun q => absurd q (by decide)) (fun _ => ?_)
  refine aw_iload_n rfl rfl d_P_addWays_5 ?_
  refine aw_bipush (v := nI 8) q1_cb_8 d_P_addWays_6 ?_
  refine aw_icmp_leI (tgt := 21) (6) (8) (by decide +kernel) (by decide +kernel) (by decide) d_P_addWays_8 (fun _ => ?_) (fun q => absurd q (by decide))
  refine aw_iload_n rfl rfl d_P_addWays_21 ?_
  refine aw_iload_n rfl rfl d_P_addWays_22 ?_
  refine aw_idivN (by omega) (by omega) (by omega) d_P_addWays_23 ?_
  refine aw_istore (lv2 := [.ref 160, .int (nI 6), .int (nI (lf0)), .int (gx), .int (nI ((lf0 / 6)))]) (by decide) rfl d_P_addWays_24 ?_
  exact lq_add_6 hl hK (lf0 / 6) L I (by omega) hP hc rfl (fun q hq => rfl)
set_option maxRecDepth 20000 in
theorem lq_add_7 {K2 : K2T} {I0 : Nat → Nat → Int32} {lf0 : Nat} {gx : Int32} (hl : lf0 ≤ 8) {c : Nat → Nat} {LF : List WRow} (hK : ∀ J, KPL LF J → WCC 7 c J → (∀ q, q ≠ 160 ∧ q ≠ 161 ∧ q ≠ 162 ∧ q ≠ 165 → J q = I0 q) → K2 none J) : ∀ (m : Nat) (L : List WRow) (I : Nat → Nat → Int32), m * 7 ≤ lf0 → KPL L I → WCC 7 c I → wlp (wst 6 lf0 gx c) m L = LF → (∀ q, q ≠ 160 ∧ q ≠ 161 ∧ q ≠ 162 ∧ q ≠ 165 → I q = I0 q) → As l b 10 y_P_addWays KC GP K2 (I) 26 [.ref 160, .int (nI 7), .int (nI (lf0)), .int (gx), .int (nI (m))] [] := by
  intro m
  induction m with
  | zero =>
    intro L I hm hP hc hL hfr
    refine aw_iload rfl d_P_addWays_26 ?_
    refine aw_if_ltI (tgt := 72) (0) (by decide +kernel) (by decide) d_P_addWays_28 (fun q => absurd q (by decide)) (fun _ => ?_)
    refine aw_aload_n rfl rfl d_P_addWays_31 ?_
    refine aw_getr fl_P_24 kp_160 (by decide) rfl rp_160_5 d_P_addWays_32 ?_
    refine aw_iload_n rfl rfl d_P_addWays_35 ?_
    refine aw_iload rfl d_P_addWays_36 ?_
    refine aw_iast (j := 7) kp_165 (vp_in_nI (by decide) (by decide)) (nI_clamp (by decide)) d_P_addWays_38 ?_
    refine aw_aload_n rfl rfl d_P_addWays_39 ?_
    refine aw_iload_n rfl rfl d_P_addWays_40 ?_
    refine aw_iconst (v := nI 1) ci_1 d_P_addWays_41 ?_
    refine aw_isub d_P_addWays_42 ?_
    refine aw_top (x2 := nI 6) (by decide +kernel) ?_
    refine aw_iload_n rfl rfl d_P_addWays_43 ?_
    refine aw_iload rfl d_P_addWays_44 ?_
    refine aw_iload_n rfl rfl d_P_addWays_46 ?_
    refine aw_imul d_P_addWays_47 ?_
    refine aw_top (x2 := nI 0) (by decide +kernel) ?_
    refine aw_isubN (by omega) d_P_addWays_48 ?_
    refine aw_iload_n rfl rfl d_P_addWays_49 ?_
    refine aw_if_neI (tgt := 62) (gx).toInt rfl (by decide) d_P_addWays_50 (fun c1 => ?_) (fun c1 => ?_)
    · refine aw_iload_n rfl rfl d_P_addWays_62 ?_
      refine as_callV (as := [.int (nI 6), .int (nI ((lf0 - 0))), .int (gx)]) (d' := 9) (q := ("SinglesUp$Packer", zT6, 7)) mo_P_addWays lk_P_31 kp_160 rfl rfl rfl ⟨by decide, by decide⟩ rfl rfl (by decide) d_P_addWays_63 (sq_add_6 (I := upd2 I 165 (7) (nI 0)) (lf0 := (lf0 - 0)) (gx := gx) (L := L) (c := cup c 7 0) (by omega) (KPL_up (by decide) (by decide) (by decide) hP) (WCC_up (s := 6) hc) (fun J2 kp3 cc3 fq4 => ?_))
      have F5 : ∀ q, q ≠ 160 ∧ q ≠ 161 ∧ q ≠ 162 ∧ q ≠ 165 → J2 q = I0 q := fun q hq => (fq4 q hq).trans ((upd2_ne hq.2.2.2).trans (hfr q hq))
      refine (show As l b 10 y_P_addWays KC GP K2 (J2) 66 [.ref 160, .int (nI 7), .int (nI (lf0)), .int (gx), .int (nI 0)] [] from ?_)
      refine aw_iinc (v := (-1 : Int32)) (lv2 := [.ref 160, .int (nI 7), .int (nI (lf0)), .int (gx), .int ((-1 : Int32))]) rfl (by decide +kernel) (by decide) rfl d_P_addWays_66 ?_
      refine aw_goto (tgt := 26) (by decide) d_P_addWays_69 ?_
      refine aw_iload rfl d_P_addWays_26 ?_
      refine aw_if_ltI (tgt := 72) (-1) (by decide +kernel) (by decide) d_P_addWays_28 (fun _ => ?_) (fun q => absurd q (by decide))
      exact as_retv rfl d_P_addWays_72 (hK _ (show KPL LF _ by rw [← hL]; show KPL (wayL 6 (lf0 - 0 * 7) (gup gx 7 0) (cup c 7 0) L) _; rw [gup_0, Nat.zero_mul]; exact kp3) (WCC_dn (s := 6) cc3) (fun q hq => F5 q hq))
    · refine aw_iload rfl d_P_addWays_53 ?_
      refine aw_if_leI (tgt := 62) (0) (by decide +kernel) (by decide) d_P_addWays_55 (fun _ => ?_) (fun q => absurd q (by decide))
      refine aw_iload_n rfl rfl d_P_addWays_62 ?_
      refine as_callV (as := [.int (nI 6), .int (nI ((lf0 - 0))), .int (gx)]) (d' := 9) (q := ("SinglesUp$Packer", zT6, 7)) mo_P_addWays lk_P_31 kp_160 rfl rfl rfl ⟨by decide, by decide⟩ rfl rfl (by decide) d_P_addWays_63 (sq_add_6 (I := upd2 I 165 (7) (nI 0)) (lf0 := (lf0 - 0)) (gx := gx) (L := L) (c := cup c 7 0) (by omega) (KPL_up (by decide) (by decide) (by decide) hP) (WCC_up (s := 6) hc) (fun J6 kp7 cc7 fq8 => ?_))
      have F9 : ∀ q, q ≠ 160 ∧ q ≠ 161 ∧ q ≠ 162 ∧ q ≠ 165 → J6 q = I0 q := fun q hq => (fq8 q hq).trans ((upd2_ne hq.2.2.2).trans (hfr q hq))
      refine (show As l b 10 y_P_addWays KC GP K2 (J6) 66 [.ref 160, .int (nI 7), .int (nI (lf0)), .int (gx), .int (nI 0)] [] from ?_)
      refine aw_iinc (v := (-1 : Int32)) (lv2 := [.ref 160, .int (nI 7), .int (nI (lf0)), .int (gx), .int ((-1 : Int32))]) rfl (by decide +kernel) (by decide) rfl d_P_addWays_66 ?_
      refine aw_goto (tgt := 26) (by decide) d_P_addWays_69 ?_
      refine aw_iload rfl d_P_addWays_26 ?_
      refine aw_if_ltI (tgt := 72) (-1) (by decide +kernel) (by decide) d_P_addWays_28 (fun _ => ?_) (fun q => absurd q (by decide))
      exact as_retv rfl d_P_addWays_72 (hK _ (show KPL LF _ by rw [← hL]; show KPL (wayL 6 (lf0 - 0 * 7) (gup gx 7 0) (cup c 7 0) L) _; rw [gup_0, Nat.zero_mul]; exact kp7) (WCC_dn (s := 6) cc7) (fun q hq => F9 q hq))
  | succ m ih =>
    intro L I hm hP hc hL hfr
    refine aw_iload rfl d_P_addWays_26 ?_
    refine aw_if_ltI (tgt := 72) (((m + 1) : Nat) : Int) (nI_toInt (by omega)) (by decide) d_P_addWays_28 (fun q => absurd q (by omega)) (fun _ => ?_)
    refine aw_aload_n rfl rfl d_P_addWays_31 ?_
    refine aw_getr fl_P_24 kp_160 (by decide) rfl rp_160_5 d_P_addWays_32 ?_
    refine aw_iload_n rfl rfl d_P_addWays_35 ?_
    refine aw_iload rfl d_P_addWays_36 ?_
    refine aw_iast (j := 7) kp_165 (vp_in_nI (by decide) (by decide)) (nI_clamp (by decide)) d_P_addWays_38 ?_
    refine aw_aload_n rfl rfl d_P_addWays_39 ?_
    refine aw_iload_n rfl rfl d_P_addWays_40 ?_
    refine aw_iconst (v := nI 1) ci_1 d_P_addWays_41 ?_
    refine aw_isub d_P_addWays_42 ?_
    refine aw_top (x2 := nI 6) (by decide +kernel) ?_
    refine aw_iload_n rfl rfl d_P_addWays_43 ?_
    refine aw_iload rfl d_P_addWays_44 ?_
    refine aw_iload_n rfl rfl d_P_addWays_46 ?_
    refine aw_imulN d_P_addWays_47 ?_
    refine aw_isubN (by omega) d_P_addWays_48 ?_
    refine aw_iload_n rfl rfl d_P_addWays_49 ?_
    refine aw_if_neI (tgt := 62) (gx).toInt rfl (by decide) d_P_addWays_50 (fun c1 => ?_) (fun c1 => ?_)
    · refine aw_iload_n rfl rfl d_P_addWays_62 ?_
      refine as_callV (as := [.int (nI 6), .int (nI ((lf0 - ((m + 1) * 7)))), .int (gx)]) (d' := 9) (q := ("SinglesUp$Packer", zT6, 7)) mo_P_addWays lk_P_31 kp_160 rfl rfl rfl ⟨by decide, by decide⟩ rfl rfl (by decide) d_P_addWays_63 (sq_add_6 (I := upd2 I 165 (7) (nI ((m + 1)))) (lf0 := (lf0 - ((m + 1) * 7))) (gx := gx) (L := L) (c := cup c 7 (m + 1)) (by omega) (KPL_up (by decide) (by decide) (by decide) hP) (WCC_up (s := 6) hc) (fun J2 kp3 cc3 fq4 => ?_))
      have F5 : ∀ q, q ≠ 160 ∧ q ≠ 161 ∧ q ≠ 162 ∧ q ≠ 165 → J2 q = I0 q := fun q hq => (fq4 q hq).trans ((upd2_ne hq.2.2.2).trans (hfr q hq))
      refine (show As l b 10 y_P_addWays KC GP K2 (J2) 66 [.ref 160, .int (nI 7), .int (nI (lf0)), .int (gx), .int (nI ((m + 1)))] [] from ?_)
      refine aw_iinc (v := nI (m)) (lv2 := [.ref 160, .int (nI 7), .int (nI (lf0)), .int (gx), .int (nI (m))]) rfl (nI_m1 m) (by decide) rfl d_P_addWays_66 ?_
      refine aw_goto (tgt := 26) (by decide) d_P_addWays_69 ?_
      exact ih _ _ (by omega) kp3 (WCC_dn (s := 6) cc3) (show wlp (wst 6 lf0 gx c) m (wayL 6 (lf0 - (m + 1) * 7) (gx) (cup c 7 (m + 1)) L) = LF from Eq.trans (congrArg (fun g => wlp (wst 6 lf0 gx c) m (wayL 6 (lf0 - (m + 1) * 7) g (cup c 7 (m + 1)) L)) (gup_n 7 (m + 1) c1).symm) hL) (fun q hq => F5 q hq)
    · refine aw_iload rfl d_P_addWays_53 ?_
      refine aw_if_leI (tgt := 62) (((m + 1) : Nat) : Int) (nI_toInt (by omega)) (by decide) d_P_addWays_55 (fun c6 => ?_) (fun c6 => ?_)
      · exact absurd c6 (by omega)
      · refine aw_iload_n rfl rfl d_P_addWays_58 ?_
        refine aw_goto (tgt := 63) (by decide) d_P_addWays_59 ?_
        refine as_callV (as := [.int (nI 6), .int (nI ((lf0 - ((m + 1) * 7)))), .int (nI 7)]) (d' := 9) (q := ("SinglesUp$Packer", zT6, 7)) mo_P_addWays lk_P_31 kp_160 rfl rfl rfl ⟨by decide, by decide⟩ rfl rfl (by decide) d_P_addWays_63 (sq_add_6 (I := upd2 I 165 (7) (nI ((m + 1)))) (lf0 := (lf0 - ((m + 1) * 7))) (gx := nI 7) (L := L) (c := cup c 7 (m + 1)) (by omega) (KPL_up (by decide) (by decide) (by decide) hP) (WCC_up (s := 6) hc) (fun J11 kp12 cc12 fq13 => ?_))
        have F14 : ∀ q, q ≠ 160 ∧ q ≠ 161 ∧ q ≠ 162 ∧ q ≠ 165 → J11 q = I0 q := fun q hq => (fq13 q hq).trans ((upd2_ne hq.2.2.2).trans (hfr q hq))
        refine (show As l b 10 y_P_addWays KC GP K2 (J11) 66 [.ref 160, .int (nI 7), .int (nI (lf0)), .int (gx), .int (nI ((m + 1)))] [] from ?_)
        refine aw_iinc (v := nI (m)) (lv2 := [.ref 160, .int (nI 7), .int (nI (lf0)), .int (gx), .int (nI (m))]) rfl (nI_m1 m) (by decide) rfl d_P_addWays_66 ?_
        refine aw_goto (tgt := 26) (by decide) d_P_addWays_69 ?_
        exact ih _ _ (by omega) kp12 (WCC_dn (s := 6) cc12) (show wlp (wst 6 lf0 gx c) m (wayL 6 (lf0 - (m + 1) * 7) (nI 7) (cup c 7 (m + 1)) L) = LF from Eq.trans (congrArg (fun g => wlp (wst 6 lf0 gx c) m (wayL 6 (lf0 - (m + 1) * 7) g (cup c 7 (m + 1)) L)) (gup_p 7 m c1).symm) hL) (fun q hq => F14 q hq)
set_option maxRecDepth 20000 in
theorem sq_add_7 {K2 : K2T} {I : Nat → Nat → Int32} {lf0 : Nat} {gx : Int32} (hl : lf0 ≤ 8) {L : List WRow} {c : Nat → Nat} (hP : KPL L I) (hc : WCC 7 c I) (hK : ∀ J, KPL (wayL 7 lf0 gx c L) J → WCC 7 c J → (∀ q, q ≠ 160 ∧ q ≠ 161 ∧ q ≠ 162 ∧ q ≠ 165 → J q = I q) → K2 none J) : Ss l b 10 y_P_addWays KC GP [.ref 160, .int (nI 7), .int (nI (lf0)), .int (gx)] (I) K2 := by
  refine Ss.of (show As l b 10 y_P_addWays KC GP K2 (I) 0 [.ref 160, .int (nI 7), .int (nI (lf0)), .int (gx), uu] [] from ?_)
  refine aw_iload_n rfl rfl d_P_addWays_0 ?_
  refine aw_iconst (v := nI 1) ci_1 d_P_addWays_1 ?_
  refine aw_icmp_ltI (tgt := 11) (7) (1) (by decide +kernel) (by decide +kernel) (by decide) d_P_addWays_2 (fun q => absurd q (by decide)) (fun _ => ?_)
  refine aw_iload_n rfl rfl d_P_addWays_5 ?_
  refine aw_bipush (v := nI 8) q1_cb_8 d_P_addWays_6 ?_
  refine aw_icmp_leI (tgt := 21) (7) (8) (by decide +kernel) (by decide +kernel) (by decide) d_P_addWays_8 (fun _ => ?_) (fun q => absurd q (by decide))
  refine aw_iload_n rfl rfl d_P_addWays_21 ?_
  refine aw_iload_n rfl rfl d_P_addWays_22 ?_
  refine aw_idivN (by omega) (by omega) (by omega) d_P_addWays_23 ?_
  refine aw_istore (lv2 := [.ref 160, .int (nI 7), .int (nI (lf0)), .int (gx), .int (nI ((lf0 / 7)))]) (by decide) rfl d_P_addWays_24 ?_
  exact lq_add_7 hl hK (lf0 / 7) L I (by omega) hP hc rfl (fun q hq => rfl)
set_option maxRecDepth 20000 in
theorem lq_add_8 {K2 : K2T} {I0 : Nat → Nat → Int32} {lf0 : Nat} {gx : Int32} (hl : lf0 ≤ 8) {c : Nat → Nat} {LF : List WRow} (hK : ∀ J, KPL LF J → WCC 8 c J → (∀ q, q ≠ 160 ∧ q ≠ 161 ∧ q ≠ 162 ∧ q ≠ 165 → J q = I0 q) → K2 none J) : ∀ (m : Nat) (L : List WRow) (I : Nat → Nat → Int32), m * 8 ≤ lf0 → KPL L I → WCC 8 c I → wlp (wst 7 lf0 gx c) m L = LF → (∀ q, q ≠ 160 ∧ q ≠ 161 ∧ q ≠ 162 ∧ q ≠ 165 → I q = I0 q) → As l b 11 y_P_addWays KC GP K2 (I) 26 [.ref 160, .int (nI 8), .int (nI (lf0)), .int (gx), .int (nI (m))] [] := by
  intro m
  induction m with
  | zero =>
    intro L I hm hP hc hL hfr
    refine aw_iload rfl d_P_addWays_26 ?_
    refine aw_if_ltI (tgt := 72) (0) (by decide +kernel) (by decide) d_P_addWays_28 (fun q => absurd q (by decide)) (fun _ => ?_)
    refine aw_aload_n rfl rfl d_P_addWays_31 ?_
    refine aw_getr fl_P_24 kp_160 (by decide) rfl rp_160_5 d_P_addWays_32 ?_
    refine aw_iload_n rfl rfl d_P_addWays_35 ?_
    refine aw_iload rfl d_P_addWays_36 ?_
    refine aw_iast (j := 8) kp_165 (vp_in_nI (by decide) (by decide)) (nI_clamp (by decide)) d_P_addWays_38 ?_
    refine aw_aload_n rfl rfl d_P_addWays_39 ?_
    refine aw_iload_n rfl rfl d_P_addWays_40 ?_
    refine aw_iconst (v := nI 1) ci_1 d_P_addWays_41 ?_
    refine aw_isub d_P_addWays_42 ?_
    refine aw_top (x2 := nI 7) (by decide +kernel) ?_
    refine aw_iload_n rfl rfl d_P_addWays_43 ?_
    refine aw_iload rfl d_P_addWays_44 ?_
    refine aw_iload_n rfl rfl d_P_addWays_46 ?_
    refine aw_imul d_P_addWays_47 ?_
    refine aw_top (x2 := nI 0) (by decide +kernel) ?_
    refine aw_isubN (by omega) d_P_addWays_48 ?_
    refine aw_iload_n rfl rfl d_P_addWays_49 ?_
    refine aw_if_neI (tgt := 62) (gx).toInt rfl (by decide) d_P_addWays_50 (fun c1 => ?_) (fun c1 => ?_)
    · refine aw_iload_n rfl rfl d_P_addWays_62 ?_
      refine as_callV (as := [.int (nI 7), .int (nI ((lf0 - 0))), .int (gx)]) (d' := 10) (q := ("SinglesUp$Packer", zT6, 7)) mo_P_addWays lk_P_31 kp_160 rfl rfl rfl ⟨by decide, by decide⟩ rfl rfl (by decide) d_P_addWays_63 (sq_add_7 (I := upd2 I 165 (8) (nI 0)) (lf0 := (lf0 - 0)) (gx := gx) (L := L) (c := cup c 8 0) (by omega) (KPL_up (by decide) (by decide) (by decide) hP) (WCC_up (s := 7) hc) (fun J2 kp3 cc3 fq4 => ?_))
      have F5 : ∀ q, q ≠ 160 ∧ q ≠ 161 ∧ q ≠ 162 ∧ q ≠ 165 → J2 q = I0 q := fun q hq => (fq4 q hq).trans ((upd2_ne hq.2.2.2).trans (hfr q hq))
      refine (show As l b 11 y_P_addWays KC GP K2 (J2) 66 [.ref 160, .int (nI 8), .int (nI (lf0)), .int (gx), .int (nI 0)] [] from ?_)
      refine aw_iinc (v := (-1 : Int32)) (lv2 := [.ref 160, .int (nI 8), .int (nI (lf0)), .int (gx), .int ((-1 : Int32))]) rfl (by decide +kernel) (by decide) rfl d_P_addWays_66 ?_
      refine aw_goto (tgt := 26) (by decide) d_P_addWays_69 ?_
      refine aw_iload rfl d_P_addWays_26 ?_
      refine aw_if_ltI (tgt := 72) (-1) (by decide +kernel) (by decide) d_P_addWays_28 (fun _ => ?_) (fun q => absurd q (by decide))
      exact as_retv rfl d_P_addWays_72 (hK _ (show KPL LF _ by rw [← hL]; show KPL (wayL 7 (lf0 - 0 * 8) (gup gx 8 0) (cup c 8 0) L) _; rw [gup_0, Nat.zero_mul]; exact kp3) (WCC_dn (s := 7) cc3) (fun q hq => F5 q hq))
    · refine aw_iload rfl d_P_addWays_53 ?_
      refine aw_if_leI (tgt := 62) (0) (by decide +kernel) (by decide) d_P_addWays_55 (fun _ => ?_) (fun q => absurd q (by decide))
      refine aw_iload_n rfl rfl d_P_addWays_62 ?_
      refine as_callV (as := [.int (nI 7), .int (nI ((lf0 - 0))), .int (gx)]) (d' := 10) (q := ("SinglesUp$Packer", zT6, 7)) mo_P_addWays lk_P_31 kp_160 rfl rfl rfl ⟨by decide, by decide⟩ rfl rfl (by decide) d_P_addWays_63 (sq_add_7 (I := upd2 I 165 (8) (nI 0)) (lf0 := (lf0 - 0)) (gx := gx) (L := L) (c := cup c 8 0) (by omega) (KPL_up (by decide) (by decide) (by decide) hP) (WCC_up (s := 7) hc) (fun J6 kp7 cc7 fq8 => ?_))
      have F9 : ∀ q, q ≠ 160 ∧ q ≠ 161 ∧ q ≠ 162 ∧ q ≠ 165 → J6 q = I0 q := fun q hq => (fq8 q hq).trans ((upd2_ne hq.2.2.2).trans (hfr q hq))
      refine (show As l b 11 y_P_addWays KC GP K2 (J6) 66 [.ref 160, .int (nI 8), .int (nI (lf0)), .int (gx), .int (nI 0)] [] from ?_)
      refine aw_iinc (v := (-1 : Int32)) (lv2 := [.ref 160, .int (nI 8), .int (nI (lf0)), .int (gx), .int ((-1 : Int32))]) rfl (by decide +kernel) (by decide) rfl d_P_addWays_66 ?_
      refine aw_goto (tgt := 26) (by decide) d_P_addWays_69 ?_
      refine aw_iload rfl d_P_addWays_26 ?_
      refine aw_if_ltI (tgt := 72) (-1) (by decide +kernel) (by decide) d_P_addWays_28 (fun _ => ?_) (fun q => absurd q (by decide))
      exact as_retv rfl d_P_addWays_72 (hK _ (show KPL LF _ by rw [← hL]; show KPL (wayL 7 (lf0 - 0 * 8) (gup gx 8 0) (cup c 8 0) L) _; rw [gup_0, Nat.zero_mul]; exact kp7) (WCC_dn (s := 7) cc7) (fun q hq => F9 q hq))
  | succ m ih =>
    intro L I hm hP hc hL hfr
    refine aw_iload rfl d_P_addWays_26 ?_
    refine aw_if_ltI (tgt := 72) (((m + 1) : Nat) : Int) (nI_toInt (by omega)) (by decide) d_P_addWays_28 (fun q => absurd q (by omega)) (fun _ => ?_)
    refine aw_aload_n rfl rfl d_P_addWays_31 ?_
    refine aw_getr fl_P_24 kp_160 (by decide) rfl rp_160_5 d_P_addWays_32 ?_
    refine aw_iload_n rfl rfl d_P_addWays_35 ?_
    refine aw_iload rfl d_P_addWays_36 ?_
    refine aw_iast (j := 8) kp_165 (vp_in_nI (by decide) (by decide)) (nI_clamp (by decide)) d_P_addWays_38 ?_
    refine aw_aload_n rfl rfl d_P_addWays_39 ?_
    refine aw_iload_n rfl rfl d_P_addWays_40 ?_
    refine aw_iconst (v := nI 1) ci_1 d_P_addWays_41 ?_
    refine aw_isub d_P_addWays_42 ?_
    refine aw_top (x2 := nI 7) (by decide +kernel) ?_
    refine aw_iload_n rfl rfl d_P_addWays_43 ?_
    refine aw_iload rfl d_P_addWays_44 ?_
    refine aw_iload_n rfl rfl d_P_addWays_46 ?_
    refine aw_imulN d_P_addWays_47 ?_
    refine aw_isubN (by omega) d_P_addWays_48 ?_
    refine aw_iload_n rfl rfl d_P_addWays_49 ?_
    refine aw_if_neI (tgt := 62) (gx).toInt rfl (by decide) d_P_addWays_50 (fun c1 => ?_) (fun c1 => ?_)
    · refine aw_iload_n rfl rfl d_P_addWays_62 ?_
      refine as_callV (as := [.int (nI 7), .int (nI ((lf0 - ((m + 1) * 8)))), .int (gx)]) (d' := 10) (q := ("SinglesUp$Packer", zT6, 7)) mo_P_addWays lk_P_31 kp_160 rfl rfl rfl ⟨by decide, by decide⟩ rfl rfl (by decide) d_P_addWays_63 (sq_add_7 (I := upd2 I 165 (8) (nI ((m + 1)))) (lf0 := (lf0 - ((m + 1) * 8))) (gx := gx) (L := L) (c := cup c 8 (m + 1)) (by omega) (KPL_up (by decide) (by decide) (by decide) hP) (WCC_up (s := 7) hc) (fun J2 kp3 cc3 fq4 => ?_))
      have F5 : ∀ q, q ≠ 160 ∧ q ≠ 161 ∧ q ≠ 162 ∧ q ≠ 165 → J2 q = I0 q := fun q hq => (fq4 q hq).trans ((upd2_ne hq.2.2.2).trans (hfr q hq))
      refine (show As l b 11 y_P_addWays KC GP K2 (J2) 66 [.ref 160, .int (nI 8), .int (nI (lf0)), .int (gx), .int (nI ((m + 1)))] [] from ?_)
      refine aw_iinc (v := nI (m)) (lv2 := [.ref 160, .int (nI 8), .int (nI (lf0)), .int (gx), .int (nI (m))]) rfl (nI_m1 m) (by decide) rfl d_P_addWays_66 ?_
      refine aw_goto (tgt := 26) (by decide) d_P_addWays_69 ?_
      exact ih _ _ (by omega) kp3 (WCC_dn (s := 7) cc3) (show wlp (wst 7 lf0 gx c) m (wayL 7 (lf0 - (m + 1) * 8) (gx) (cup c 8 (m + 1)) L) = LF from Eq.trans (congrArg (fun g => wlp (wst 7 lf0 gx c) m (wayL 7 (lf0 - (m + 1) * 8) g (cup c 8 (m + 1)) L)) (gup_n 8 (m + 1) c1).symm) hL) (fun q hq => F5 q hq)
    · refine aw_iload rfl d_P_addWays_53 ?_
      refine aw_if_leI (tgt := 62) (((m + 1) : Nat) : Int) (nI_toInt (by omega)) (by decide) d_P_addWays_55 (fun c6 => ?_) (fun c6 => ?_)
      · exact absurd c6 (by omega)
      · refine aw_iload_n rfl rfl d_P_addWays_58 ?_
        refine aw_goto (tgt := 63) (by decide) d_P_addWays_59 ?_
        refine as_callV (as := [.int (nI 7), .int (nI ((lf0 - ((m + 1) * 8)))), .int (nI 8)]) (d' := 10) (q := ("SinglesUp$Packer", zT6, 7)) mo_P_addWays lk_P_31 kp_160 rfl rfl rfl ⟨by decide, by decide⟩ rfl rfl (by decide) d_P_addWays_63 (sq_add_7 (I := upd2 I 165 (8) (nI ((m + 1)))) (lf0 := (lf0 - ((m + 1) * 8))) (gx := nI 8) (L := L) (c := cup c 8 (m + 1)) (by omega) (KPL_up (by decide) (by decide) (by decide) hP) (WCC_up (s := 7) hc) (fun J11 kp12 cc12 fq13 => ?_))
        have F14 : ∀ q, q ≠ 160 ∧ q ≠ 161 ∧ q ≠ 162 ∧ q ≠ 165 → J11 q = I0 q := fun q hq => (fq13 q hq).trans ((upd2_ne hq.2.2.2).trans (hfr q hq))
        refine (show As l b 11 y_P_addWays KC GP K2 (J11) 66 [.ref 160, .int (nI 8), .int (nI (lf0)), .int (gx), .int (nI ((m + 1)))] [] from ?_)
        refine aw_iinc (v := nI (m)) (lv2 := [.ref 160, .int (nI 8), .int (nI (lf0)), .int (gx), .int (nI (m))]) rfl (nI_m1 m) (by decide) rfl d_P_addWays_66 ?_
        refine aw_goto (tgt := 26) (by decide) d_P_addWays_69 ?_
        exact ih _ _ (by omega) kp12 (WCC_dn (s := 7) cc12) (show wlp (wst 7 lf0 gx c) m (wayL 7 (lf0 - (m + 1) * 8) (nI 8) (cup c 8 (m + 1)) L) = LF from Eq.trans (congrArg (fun g => wlp (wst 7 lf0 gx c) m (wayL 7 (lf0 - (m + 1) * 8) g (cup c 8 (m + 1)) L)) (gup_p 8 m c1).symm) hL) (fun q hq => F14 q hq)
set_option maxRecDepth 20000 in
theorem sq_add_8 {K2 : K2T} {I : Nat → Nat → Int32} {lf0 : Nat} {gx : Int32} (hl : lf0 ≤ 8) {L : List WRow} {c : Nat → Nat} (hP : KPL L I) (hc : WCC 8 c I) (hK : ∀ J, KPL (wayL 8 lf0 gx c L) J → WCC 8 c J → (∀ q, q ≠ 160 ∧ q ≠ 161 ∧ q ≠ 162 ∧ q ≠ 165 → J q = I q) → K2 none J) : Ss l b 11 y_P_addWays KC GP [.ref 160, .int (nI 8), .int (nI (lf0)), .int (gx)] (I) K2 := by
  refine Ss.of (show As l b 11 y_P_addWays KC GP K2 (I) 0 [.ref 160, .int (nI 8), .int (nI (lf0)), .int (gx), uu] [] from ?_)
  refine aw_iload_n rfl rfl d_P_addWays_0 ?_
  refine aw_iconst (v := nI 1) ci_1 d_P_addWays_1 ?_
  refine aw_icmp_ltI (tgt := 11) (8) (1) (by decide +kernel) (by decide +kernel) (by decide) d_P_addWays_2 (fun q => absurd q (by decide)) (fun _ => ?_)
  refine aw_iload_n rfl rfl d_P_addWays_5 ?_
  refine aw_bipush (v := nI 8) q1_cb_8 d_P_addWays_6 ?_
  refine aw_icmp_leI (tgt := 21) (8) (8) (by decide +kernel) (by decide +kernel) (by decide) d_P_addWays_8 (fun _ => ?_) (fun q => absurd q (by decide))
  refine aw_iload_n rfl rfl d_P_addWays_21 ?_
  refine aw_iload_n rfl rfl d_P_addWays_22 ?_
  refine aw_idivN (by omega) (by omega) (by omega) d_P_addWays_23 ?_
  refine aw_istore (lv2 := [.ref 160, .int (nI 8), .int (nI (lf0)), .int (gx), .int (nI ((lf0 / 8)))]) (by decide) rfl d_P_addWays_24 ?_
  exact lq_add_8 hl hK (lf0 / 8) L I (by omega) hP hc rfl (fun q hq => rfl)
end
def WLL : List WRow := [([8, 0, 0, 0, 0, 0, 0, 0, 1], nI 8), ([8, 1, 0, 0, 0, 0, 0, 1, 0], nI 7), ([7, 0, 0, 0, 0, 0, 0, 1, 0], nI 7), ([8, 0, 1, 0, 0, 0, 1, 0, 0], nI 6), ([8, 2, 0, 0, 0, 0, 1, 0, 0], nI 6), ([7, 1, 0, 0, 0, 0, 1, 0, 0], nI 6), ([6, 0, 0, 0, 0, 0, 1, 0, 0], nI 6), ([8, 0, 0, 1, 0, 1, 0, 0, 0], nI 5), ([8, 1, 1, 0, 0, 1, 0, 0, 0], nI 5), ([7, 0, 1, 0, 0, 1, 0, 0, 0], nI 5), ([8, 3, 0, 0, 0, 1, 0, 0, 0], nI 5), ([7, 2, 0, 0, 0, 1, 0, 0, 0], nI 5), ([6, 1, 0, 0, 0, 1, 0, 0, 0], nI 5), ([5, 0, 0, 0, 0, 1, 0, 0, 0], nI 5), ([8, 0, 0, 0, 2, 0, 0, 0, 0], nI 4), ([8, 1, 0, 1, 1, 0, 0, 0, 0], nI 4), ([7, 0, 0, 1, 1, 0, 0, 0, 0], nI 4), ([8, 0, 2, 0, 1, 0, 0, 0, 0], nI 4), ([8, 2, 1, 0, 1, 0, 0, 0, 0], nI 4), ([7, 1, 1, 0, 1, 0, 0, 0, 0], nI 4), ([6, 0, 1, 0, 1, 0, 0, 0, 0], nI 4), ([8, 4, 0, 0, 1, 0, 0, 0, 0], nI 4), ([7, 3, 0, 0, 1, 0, 0, 0, 0], nI 4), ([6, 2, 0, 0, 1, 0, 0, 0, 0], nI 4), ([5, 1, 0, 0, 1, 0, 0, 0, 0], nI 4), ([4, 0, 0, 0, 1, 0, 0, 0, 0], nI 4), ([8, 0, 1, 2, 0, 0, 0, 0, 0], nI 3), ([8, 2, 0, 2, 0, 0, 0, 0, 0], nI 3), ([7, 1, 0, 2, 0, 0, 0, 0, 0], nI 3), ([6, 0, 0, 2, 0, 0, 0, 0, 0], nI 3), ([8, 1, 2, 1, 0, 0, 0, 0, 0], nI 3), ([7, 0, 2, 1, 0, 0, 0, 0, 0], nI 3), ([8, 3, 1, 1, 0, 0, 0, 0, 0], nI 3), ([7, 2, 1, 1, 0, 0, 0, 0, 0], nI 3), ([6, 1, 1, 1, 0, 0, 0, 0, 0], nI 3), ([5, 0, 1, 1, 0, 0, 0, 0, 0], nI 3), ([8, 5, 0, 1, 0, 0, 0, 0, 0], nI 3), ([7, 4, 0, 1, 0, 0, 0, 0, 0], nI 3), ([6, 3, 0, 1, 0, 0, 0, 0, 0], nI 3), ([5, 2, 0, 1, 0, 0, 0, 0, 0], nI 3), ([4, 1, 0, 1, 0, 0, 0, 0, 0], nI 3), ([3, 0, 0, 1, 0, 0, 0, 0, 0], nI 3), ([8, 0, 4, 0, 0, 0, 0, 0, 0], nI 2), ([8, 2, 3, 0, 0, 0, 0, 0, 0], nI 2), ([7, 1, 3, 0, 0, 0, 0, 0, 0], nI 2), ([6, 0, 3, 0, 0, 0, 0, 0, 0], nI 2), ([8, 4, 2, 0, 0, 0, 0, 0, 0], nI 2), ([7, 3, 2, 0, 0, 0, 0, 0, 0], nI 2), ([6, 2, 2, 0, 0, 0, 0, 0, 0], nI 2), ([5, 1, 2, 0, 0, 0, 0, 0, 0], nI 2), ([4, 0, 2, 0, 0, 0, 0, 0, 0], nI 2), ([8, 6, 1, 0, 0, 0, 0, 0, 0], nI 2), ([7, 5, 1, 0, 0, 0, 0, 0, 0], nI 2), ([6, 4, 1, 0, 0, 0, 0, 0, 0], nI 2), ([5, 3, 1, 0, 0, 0, 0, 0, 0], nI 2), ([4, 2, 1, 0, 0, 0, 0, 0, 0], nI 2), ([3, 1, 1, 0, 0, 0, 0, 0, 0], nI 2), ([2, 0, 1, 0, 0, 0, 0, 0, 0], nI 2), ([8, 8, 0, 0, 0, 0, 0, 0, 0], nI 1), ([7, 7, 0, 0, 0, 0, 0, 0, 0], nI 1), ([6, 6, 0, 0, 0, 0, 0, 0, 0], nI 1), ([5, 5, 0, 0, 0, 0, 0, 0, 0], nI 1), ([4, 4, 0, 0, 0, 0, 0, 0, 0], nI 1), ([3, 3, 0, 0, 0, 0, 0, 0, 0], nI 1), ([2, 2, 0, 0, 0, 0, 0, 0, 0], nI 1), ([1, 1, 0, 0, 0, 0, 0, 0, 0], nI 1), ([0, 0, 0, 0, 0, 0, 0, 0, 0], nI 0)]
set_option maxRecDepth 20000 in
theorem wll : wayL 8 8 (nI 0) (fun _ => 0) [] = WLL := by decide +kernel
/-- what the constructor leaves in the packer -/
def PKT (J : Nat → Nat → Int32) : Prop := KPL WLL J ∧ J 164 0 = nI 0
theorem kpl_0 : KPL [] (ISx WIc 44) := ⟨Nat.zero_le _, by decide +kernel, fun i h => absurd h (Nat.not_lt_zero _)⟩
