/-! safety of the class -/
theorem ok_S_fewest (fu : Nat) (o0 : Nat) (a1 : Int) (I0 : IMem) (hfu : 5000000000 < fu) (hRI0 : GC I0) (To0 : o0 = 0) (qa1 : inr a1) : sat (f_S_fewest fu o0 a1 I0) (fun v I => inr v ∧ GC I ∧ (True)) := by
  unfold f_S_fewest
  obtain ⟨aa1, ba1⟩ := qa1
  refine sat_ite (fun q_1 => ?_) (fun q_1 => ?_)
  · exact sat_zr ⟨(lit_in rfl), hRI0, trivial⟩
  · refine sat_ite (fun q_2 => ?_) (fun q_2 => ?_)
    · exact sat_zr ⟨(lit_in rfl), hRI0, trivial⟩
    · have ⟨r_4a, r_4b⟩ : -2147483648 ≤ I0 (o0 + 2) 0 ∧ I0 (o0 + 2) 0 < 2147483648 := hRI0.1 (o0 + 2) 0
      refine sat_zb (ok_P_pack fu (o0 + 160) (o0 + 6) 9 (I0 (o0 + 2) 0) I0 hfu hRI0 (by omega) (by omega) (by omega) (hRI0.1 (o0 + 2) 0)) (fun y1 I2 c_3 ⟨⟨ay1, by1⟩, hRI2, pI2⟩ => ?_)
      refine sat_ite (fun q_5 => ?_) (fun q_5 => ?_)
      · exact sat_zr ⟨⟨ay1, by1⟩, hRI2, trivial⟩
      · refine sat_ite (fun q_6 => ?_) (fun q_6 => ?_)
        · exact sat_zr ⟨⟨ay1, by1⟩, hRI2, trivial⟩
        · refine sat_zb (ok_P_inFirst fu (o0 + 160) a1 I2 hfu hRI2 (by omega) ⟨aa1, ba1⟩) (fun y4 I5 c_7 ⟨⟨ay4, by4⟩, _, pI5⟩ => ?_)
          have eI5 := pI5.1.symm; replace pI5 := pI5.2; subst eI5
          exact sat_zr ⟨⟨ay4, by4⟩, hRI2, trivial⟩
theorem ok_M_allWait_4 {Ib : IMem} (fu : Nat) (o0 : Nat) (hfu : 5000000000 < fu) (To0 : o0 = 1 ∨ o0 = 41 ∨ o0 = 82) {Q_ : Int → IMem → Prop} (hret : ∀ v I, inr v → GC I → (I = Ib ∧ (True)) → sat (zr v I) Q_) : ∀ (m : Nat) (w1 : Int) (w2 : Int) (I0 : IMem), inr w1 → inr w2 → GC I0 → (I0 = Ib ∧ (1 ≤ w2)) → (9 - w2).toNat < m → sat (f_M_allWait_4 fu o0 m w1 w2 I0) Q_ := by
  intro m
  induction m with
  | zero => intro w1 w2 I0 _ _ _ _ h0; exact absurd h0 (Nat.not_lt_zero _)
  | succ m hR_ =>
    intro w1 w2 I0 ⟨aw1, bw1⟩ ⟨aw2, bw2⟩ hRI0 hinv hmeas
    have einv := hinv.1; replace hinv := hinv.2; subst einv
    show sat (fb_M_allWait_4 fu o0 (f_M_allWait_4 fu o0 m) w1 w2 I0) Q_
    unfold fb_M_allWait_4
    refine sat_ite (fun q_1 => ?_) (fun q_1 => ?_)
    · exact hret _ _ ⟨aw1, bw1⟩ hRI0 ⟨rfl, trivial⟩
    · refine sat_zl (wr32_in _) (fun x1 hx1 ax1 bx1 => ?_)
      try simp (disch := omega) only [wr32_i2, wdiv_i2, wrem_i2] at hx1
      refine sat_zg (by first | omega | grind | grind [wr32]) (fun g_2 => ?_)
      have ⟨r_3a, r_3b⟩ : -2147483648 ≤ I0 (o0 + 10) x1.toNat ∧ I0 (o0 + 10) x1.toNat < 2147483648 := hRI0.1 (o0 + 10) x1.toNat
      refine sat_zl (wr32_in _) (fun x2 hx2 ax2 bx2 => ?_)
      try simp (disch := omega) only [wr32_i2, wdiv_i2, wrem_i2] at hx2
      refine sat_zl (wr32_in _) (fun x3 hx3 ax3 bx3 => ?_)
      try simp (disch := omega) only [wr32_i2, wdiv_i2, wrem_i2] at hx3
      exact hR_ x2 x3 I0 ⟨ax2, bx2⟩ ⟨ax3, bx3⟩ hRI0 ⟨rfl, (by first | omega | (simp (disch := omega) only [wr32_i2, wdiv_i2, wrem_i2]; omega) | grind | grind [wr32])⟩ (by first | omega | (simp (disch := omega) only [wr32_i2, wdiv_i2, wrem_i2]; omega) | grind | grind [wr32])
theorem ok_M_allWait (fu : Nat) (o0 : Nat) (I0 : IMem) (hfu : 5000000000 < fu) (hRI0 : GC I0) (To0 : o0 = 1 ∨ o0 = 41 ∨ o0 = 82) : sat (f_M_allWait fu o0 I0) (fun v I => inr v ∧ GC I ∧ (I = I0 ∧ (True))) := by
  unfold f_M_allWait
  refine ok_M_allWait_4 (Ib := I0) fu o0 hfu (by omega) (fun v I h1 h2 h3 => sat_zr ⟨h1, h2, ⟨h3.1, (by have h4 := h3.2; first | exact trivial | exact h4 | omega | grind)⟩⟩) fu 0 1 I0 (lit_in rfl) (lit_in rfl) hRI0 ⟨rfl, (by first | omega | (simp (disch := omega) only [wr32_i2, wdiv_i2, wrem_i2]; omega) | grind | grind [wr32])⟩ (by first | omega | (simp (disch := omega) only [wr32_i2, wdiv_i2, wrem_i2]; omega) | grind | grind [wr32])
theorem ok_M_longest_4 {Ib : IMem} (fu : Nat) (o0 : Nat) (hfu : 5000000000 < fu) (To0 : o0 = 81) {Q_ : Int → IMem → Prop} (hret : ∀ v I, inr v → GC I → (I = Ib ∧ (True)) → sat (zr v I) Q_) : ∀ (m : Nat) (w1 : Int) (w2 : Int) (I0 : IMem), inr w1 → inr w2 → GC I0 → (I0 = Ib ∧ (1 ≤ w2)) → (9 - w2).toNat < m → sat (f_M_longest_4 fu o0 m w1 w2 I0) Q_ := by
  intro m
  induction m with
  | zero => intro w1 w2 I0 _ _ _ _ h0; exact absurd h0 (Nat.not_lt_zero _)
  | succ m hR_ =>
    intro w1 w2 I0 ⟨aw1, bw1⟩ ⟨aw2, bw2⟩ hRI0 hinv hmeas
    have einv := hinv.1; replace hinv := hinv.2; subst einv
    show sat (fb_M_longest_4 fu o0 (f_M_longest_4 fu o0 m) w1 w2 I0) Q_
    unfold fb_M_longest_4
    refine sat_ite (fun q_1 => ?_) (fun q_1 => ?_)
    · exact hret _ _ ⟨aw1, bw1⟩ hRI0 ⟨rfl, trivial⟩
    · refine sat_zl (wr32_in _) (fun x1 hx1 ax1 bx1 => ?_)
      try simp (disch := omega) only [wr32_i2, wdiv_i2, wrem_i2] at hx1
      refine sat_zg (by first | omega | grind | grind [wr32]) (fun g_2 => ?_)
      have ⟨r_4a, r_4b⟩ : -2147483648 ≤ I0 (o0 + 11) x1.toNat ∧ I0 (o0 + 11) x1.toNat < 2147483648 := hRI0.1 (o0 + 11) x1.toNat
      refine sat_zb (ok_JM_max fu w1 (I0 (o0 + 11) x1.toNat) I0 hfu hRI0.1 ⟨aw1, bw1⟩ (hRI0.1 (o0 + 11) x1.toNat)) (fun y2 I3 c_3 ⟨⟨ay2, by2⟩, _, pI3⟩ => ?_)
      have eI3 := pI3.1.symm; replace pI3 := pI3.2; subst eI3
      refine sat_zl (wr32_in _) (fun x5 hx5 ax5 bx5 => ?_)
      try simp (disch := omega) only [wr32_i2, wdiv_i2, wrem_i2] at hx5
      exact hR_ y2 x5 I0 ⟨ay2, by2⟩ ⟨ax5, bx5⟩ hRI0 ⟨rfl, (by first | omega | (simp (disch := omega) only [wr32_i2, wdiv_i2, wrem_i2]; omega) | grind | grind [wr32])⟩ (by first | omega | (simp (disch := omega) only [wr32_i2, wdiv_i2, wrem_i2]; omega) | grind | grind [wr32])
theorem ok_M_longest (fu : Nat) (o0 : Nat) (I0 : IMem) (hfu : 5000000000 < fu) (hRI0 : GC I0) (To0 : o0 = 81) : sat (f_M_longest fu o0 I0) (fun v I => inr v ∧ GC I ∧ (I = I0 ∧ (True))) := by
  unfold f_M_longest
  refine ok_M_longest_4 (Ib := I0) fu o0 hfu (by omega) (fun v I h1 h2 h3 => sat_zr ⟨h1, h2, ⟨h3.1, (by have h4 := h3.2; first | exact trivial | exact h4 | omega | grind)⟩⟩) fu 0 1 I0 (lit_in rfl) (lit_in rfl) hRI0 ⟨rfl, (by first | omega | (simp (disch := omega) only [wr32_i2, wdiv_i2, wrem_i2]; omega) | grind | grind [wr32])⟩ (by first | omega | (simp (disch := omega) only [wr32_i2, wdiv_i2, wrem_i2]; omega) | grind | grind [wr32])
theorem ok_M_gained (fu : Nat) (o0 : Nat) (o1 : Nat) (a2 : Int) (I0 : IMem) (hfu : 5000000000 < fu) (hRI0 : GC I0) (To0 : o0 = 81) (To1 : o1 = 1 ∨ o1 = 41 ∨ o1 = 82) (qa2 : inr a2) : sat (f_M_gained fu o0 o1 a2 I0) (fun v I => inr v ∧ GC I ∧ (I = I0 ∧ (True))) := by
  unfold f_M_gained
  obtain ⟨aa2, ba2⟩ := qa2
  refine sat_ite (fun q_1 => ?_) (fun q_1 => ?_)
  · have ⟨r_2a, r_2b⟩ : -2147483648 ≤ I0 (o0 + 11) 1 ∧ I0 (o0 + 11) 1 < 2147483648 := hRI0.1 (o0 + 11) 1
    have ⟨r_3a, r_3b⟩ : -2147483648 ≤ I0 (o1 + 10) 1 ∧ I0 (o1 + 10) 1 < 2147483648 := hRI0.1 (o1 + 10) 1
    exact sat_zr ⟨(wr32_in _), hRI0, ⟨rfl, trivial⟩⟩
  · refine sat_ite (fun q_4 => ?_) (fun q_4 => ?_)
    · have ⟨r_5a, r_5b⟩ : -2147483648 ≤ I0 (o0 + 11) 2 ∧ I0 (o0 + 11) 2 < 2147483648 := hRI0.1 (o0 + 11) 2
      have ⟨r_6a, r_6b⟩ : -2147483648 ≤ I0 (o1 + 10) 2 ∧ I0 (o1 + 10) 2 < 2147483648 := hRI0.1 (o1 + 10) 2
      exact sat_zr ⟨(wr32_in _), hRI0, ⟨rfl, trivial⟩⟩
    · refine sat_ite (fun q_7 => ?_) (fun q_7 => ?_)
      · refine sat_zb (ok_M_allWait fu (o0 + 1) I0 hfu hRI0 (by omega)) (fun y4 I5 c_8 ⟨⟨ay4, by4⟩, _, pI5⟩ => ?_)
        have eI5 := pI5.1.symm; replace pI5 := pI5.2; subst eI5
        refine sat_zb (ok_M_allWait fu o1 I0 hfu hRI0 (by omega)) (fun y7 I8 c_9 ⟨⟨ay7, by7⟩, _, pI8⟩ => ?_)
        have eI8 := pI8.1.symm; replace pI8 := pI8.2; subst eI8
        exact sat_zr ⟨(wr32_in _), hRI0, ⟨rfl, trivial⟩⟩
      · refine sat_ite (fun q_10 => ?_) (fun q_10 => ?_)
        · have ⟨r_11a, r_11b⟩ : -2147483648 ≤ I0 (o0 + 11) 6 ∧ I0 (o0 + 11) 6 < 2147483648 := hRI0.1 (o0 + 11) 6
          have ⟨r_12a, r_12b⟩ : -2147483648 ≤ I0 (o1 + 10) 6 ∧ I0 (o1 + 10) 6 < 2147483648 := hRI0.1 (o1 + 10) 6
          exact sat_zr ⟨(wr32_in _), hRI0, ⟨rfl, trivial⟩⟩
        · refine sat_ite (fun q_13 => ?_) (fun q_13 => ?_)
          · have ⟨r_14a, r_14b⟩ : -2147483648 ≤ I0 (o0 + 11) 5 ∧ I0 (o0 + 11) 5 < 2147483648 := hRI0.1 (o0 + 11) 5
            have ⟨r_15a, r_15b⟩ : -2147483648 ≤ I0 (o1 + 10) 5 ∧ I0 (o1 + 10) 5 < 2147483648 := hRI0.1 (o1 + 10) 5
            exact sat_zr ⟨(wr32_in _), hRI0, ⟨rfl, trivial⟩⟩
          · refine sat_zb (ok_M_longest fu o0 I0 hfu hRI0 (by omega)) (fun y12 I13 c_16 ⟨⟨ay12, by12⟩, _, pI13⟩ => ?_)
            have eI13 := pI13.1.symm; replace pI13 := pI13.2; subst eI13
            exact sat_zr ⟨⟨ay12, by12⟩, hRI0, ⟨rfl, trivial⟩⟩
theorem ok_L_copyFrom (fu : Nat) (o0 : Nat) (o1 : Nat) (I0 : IMem) (hfu : 5000000000 < fu) (hRI0 : GC I0) (To0 : o0 = 7 ∨ o0 = 47 ∨ o0 = 88) (To1 : o1 = 7 ∨ o1 = 47 ∨ o1 = 88) : sat (f_L_copyFrom fu o0 o1 I0) (fun v I => inr v ∧ GC I ∧ (True)) := by
  unfold f_L_copyFrom
  refine sat_zg (by first | omega | grind | grind [wr32]) (fun g_1 => ?_)
  refine sat_zcC hRI0 (by omega) (fun I1 eI1 hRI1 => ?_)
  refine sat_zg (by first | omega | grind | grind [wr32]) (fun g_2 => ?_)
  refine sat_zcC hRI1 (by omega) (fun I2 eI2 hRI2 => ?_)
  refine sat_zg (by first | omega | grind | grind [wr32]) (fun g_3 => ?_)
  refine sat_zcC hRI2 (by omega) (fun I3 eI3 hRI3 => ?_)
  exact sat_zr ⟨(lit_in rfl), hRI3, trivial⟩
theorem ok_H_copyFrom_2 (fu : Nat) (k_41 : IMem → Res) (o0 : Nat) (o1 : Nat) (hfu : 5000000000 < fu) (To0 : o0 = 1 ∨ o0 = 41 ∨ o0 = 82) (To1 : o1 = 1 ∨ o1 = 41 ∨ o1 = 82) {Q_ : Int → IMem → Prop} (hk_41 : ∀ (I9 : IMem), GC I9 → (True) → sat (k_41 I9) Q_) (hret : ∀ v I, inr v → GC I → (True) → sat (zr v I) Q_) : ∀ (m : Nat) (w2 : Int) (I0 : IMem), inr w2 → GC I0 → (0 ≤ w2) → (5 - w2).toNat < m → sat (f_H_copyFrom_2 fu k_41 o0 o1 m w2 I0) Q_ := by
  intro m
  induction m with
  | zero => intro w2 I0 _ _ _ h0; exact absurd h0 (Nat.not_lt_zero _)
  | succ m hR_ =>
    intro w2 I0 ⟨aw2, bw2⟩ hRI0 hinv hmeas
    show sat (fb_H_copyFrom_2 fu k_41 o0 o1 (f_H_copyFrom_2 fu k_41 o0 o1 m) w2 I0) Q_
    unfold fb_H_copyFrom_2
    refine sat_ite (fun q_1 => ?_) (fun q_1 => ?_)
    · refine sat_ite (fun q_2 => ?_) (fun q_2 => ?_)
      · refine sat_zg (by first | omega | grind | grind [wr32]) (fun g_3 => ?_)
        refine sat_zg (by first | omega | grind | grind [wr32]) (fun g_4 => ?_)
        refine sat_zb (ok_W_copyFrom fu (o0 + 15 + 5 * w2.toNat) (o1 + 15 + 5 * w2.toNat) I0 hfu hRI0 (by omega) (by omega)) (fun u_5 I4 c_6 ⟨⟨au_5, bu_5⟩, hRI4, pI4⟩ => ?_)
        refine sat_zl (wr32_in _) (fun x6 hx6 ax6 bx6 => ?_)
        try simp (disch := omega) only [wr32_i2, wdiv_i2, wrem_i2] at hx6
        exact hR_ x6 I4 ⟨ax6, bx6⟩ hRI4 (by first | omega | (simp (disch := omega) only [wr32_i2, wdiv_i2, wrem_i2]; omega) | grind | grind [wr32]) (by first | omega | (simp (disch := omega) only [wr32_i2, wdiv_i2, wrem_i2]; omega) | grind | grind [wr32])
      · exact hk_41 I0 hRI0 trivial
    · exact hk_41 I0 hRI0 trivial
theorem ok_H_copyFrom (fu : Nat) (o0 : Nat) (o1 : Nat) (I0 : IMem) (hfu : 5000000000 < fu) (hRI0 : GC I0) (To0 : o0 = 1 ∨ o0 = 41 ∨ o0 = 82) (To1 : o1 = 1 ∨ o1 = 41 ∨ o1 = 82) : sat (f_H_copyFrom fu o0 o1 I0) (fun v I => inr v ∧ GC I ∧ (True)) := by
  unfold f_H_copyFrom
  refine ok_H_copyFrom_2 fu _ o0 o1 hfu (by omega) (by omega) ?_ (fun v I h1 h2 h3 => sat_zr ⟨h1, h2, (by first | exact trivial | exact h3 | grind)⟩) fu 0 I0 (lit_in rfl) hRI0 (by first | omega | (simp (disch := omega) only [wr32_i2, wdiv_i2, wrem_i2]; omega) | grind | grind [wr32]) (by first | omega | (simp (disch := omega) only [wr32_i2, wdiv_i2, wrem_i2]; omega) | grind | grind [wr32])
  · intro I7  hRI7 x_1
    refine sat_zb (ok_L_copyFrom fu (o0 + 6) (o1 + 6) I7 hfu hRI7 (by omega) (by omega)) (fun u_2 I9 c_3 ⟨⟨au_2, bu_2⟩, hRI9, pI9⟩ => ?_)
    refine sat_zg (by first | omega | grind | grind [wr32]) (fun g_4 => ?_)
    refine sat_zcC hRI9 (by omega) (fun I11 eI11 hRI11 => ?_)
    refine sat_zg (by first | omega | grind | grind [wr32]) (fun g_5 => ?_)
    refine sat_zcC hRI11 (by omega) (fun I12 eI12 hRI12 => ?_)
    refine sat_zg (by first | omega | grind | grind [wr32]) (fun g_6 => ?_)
    refine sat_zcC hRI12 (by omega) (fun I13 eI13 hRI13 => ?_)
    refine sat_zg (by first | omega | grind | grind [wr32]) (fun g_7 => ?_)
    refine sat_zcC hRI13 (by omega) (fun I14 eI14 hRI14 => ?_)
    refine sat_zg (by first | omega | grind | grind [wr32]) (fun g_8 => ?_)
    refine sat_zcC hRI14 (by omega) (fun I15 eI15 hRI15 => ?_)
    refine sat_zg (by first | omega | grind | grind [wr32]) (fun g_9 => ?_)
    refine sat_zcC hRI15 (by omega) (fun I16 eI16 hRI16 => ?_)
    refine sat_zg (by first | omega | grind | grind [wr32]) (fun g_10 => ?_)
    refine sat_zcC hRI16 (by omega) (fun I17 eI17 hRI17 => ?_)
    have ⟨r_11a, r_11b⟩ : -2147483648 ≤ I17 o1 6 ∧ I17 o1 6 < 2147483648 := hRI17.1 o1 6
    refine sat_zwC hRI17 (hRI17.1 o1 6) (by first | omega | grind | grind [wr32]) (fun I18 eI18 hRI18 => ?_)
    have ⟨r_12a, r_12b⟩ : -2147483648 ≤ I18 o1 7 ∧ I18 o1 7 < 2147483648 := hRI18.1 o1 7
    refine sat_zwC hRI18 (hRI18.1 o1 7) (by first | omega | grind | grind [wr32]) (fun I19 eI19 hRI19 => ?_)
    have ⟨r_13a, r_13b⟩ : -2147483648 ≤ I19 o1 11 ∧ I19 o1 11 < 2147483648 := hRI19.1 o1 11
    refine sat_zwC hRI19 (hRI19.1 o1 11) (by first | omega | grind | grind [wr32]) (fun I20 eI20 hRI20 => ?_)
    exact sat_zr ⟨(lit_in rfl), hRI20, trivial⟩
theorem ok_M_imagine (fu : Nat) (o0 : Nat) (o1 : Nat) (a2 : Int) (a3 : Int) (a4 : Int) (a5 : Int) (I0 : IMem) (hfu : 5000000000 < fu) (hRI0 : GC I0) (To0 : o0 = 81) (To1 : o1 = 1 ∨ o1 = 41 ∨ o1 = 82) (qa2 : inr a2) (qa3 : inr a3) (qa4 : inr a4) (qa5 : inr a5) : sat (f_M_imagine fu o0 o1 a2 a3 a4 a5 I0) (fun v I => inr v ∧ GC I ∧ (True)) := by
  unfold f_M_imagine
  obtain ⟨aa2, ba2⟩ := qa2
  obtain ⟨aa3, ba3⟩ := qa3
  obtain ⟨aa4, ba4⟩ := qa4
  obtain ⟨aa5, ba5⟩ := qa5
  refine sat_zb (ok_H_copyFrom fu (o0 + 1) o1 I0 hfu hRI0 (by omega) (by omega)) (fun u_1 I2 c_2 ⟨⟨au_1, bu_1⟩, hRI2, pI2⟩ => ?_)
  refine sat_zwC hRI2 ⟨aa2, ba2⟩ (by first | omega | grind | grind [wr32]) (fun I4 eI4 hRI4 => ?_)
  refine sat_zwC hRI4 ⟨aa3, ba3⟩ (by first | omega | grind | grind [wr32]) (fun I5 eI5 hRI5 => ?_)
  refine sat_zwC hRI5 ⟨aa4, ba4⟩ (by first | omega | grind | grind [wr32]) (fun I6 eI6 hRI6 => ?_)
  refine sat_zb (ok_C_turns fu (o0 + 41) (o0 + 1) a5 I6 hfu hRI6 (by omega) (by omega) ⟨aa5, ba5⟩) (fun y7 I8 c_3 ⟨⟨ay7, by7⟩, hRI8, pI8⟩ => ?_)
  exact sat_zr ⟨(lit_in rfl), hRI8, trivial⟩
theorem ok_S_thought (fu : Nat) (o0 : Nat) (a1 : Int) (a2 : Int) (a3 : Int) (a4 : Int) (a5 : Int) (I0 : IMem) (hfu : 5000000000 < fu) (hRI0 : GC I0) (To0 : o0 = 0) (qa1 : inr a1) (qa2 : inr a2) (qa3 : inr a3) (qa4 : inr a4) (qa5 : inr a5) : sat (f_S_thought fu o0 a1 a2 a3 a4 a5 I0) (fun v I => inr v ∧ GC I ∧ (True)) := by
  unfold f_S_thought
  obtain ⟨aa1, ba1⟩ := qa1
  obtain ⟨aa2, ba2⟩ := qa2
  obtain ⟨aa3, ba3⟩ := qa3
  obtain ⟨aa4, ba4⟩ := qa4
  obtain ⟨aa5, ba5⟩ := qa5
  refine sat_zb (ok_S_canTell fu 5 a1 I0 hfu hRI0 (lit_in rfl) ⟨aa1, ba1⟩) (fun y1 I2 c_1 ⟨⟨ay1, by1⟩, _, pI2⟩ => ?_)
  have eI2 := pI2.1.symm; replace pI2 := pI2.2; subst eI2
  refine sat_ite (fun q_2 => ?_) (fun q_2 => ?_)
  · exact sat_zr ⟨(lit_in rfl), hRI0, trivial⟩
  · refine sat_zb (ok_S_canTell fu 4 a2 I0 hfu hRI0 (lit_in rfl) ⟨aa2, ba2⟩) (fun y4 I5 c_3 ⟨⟨ay4, by4⟩, _, pI5⟩ => ?_)
    have eI5 := pI5.1.symm; replace pI5 := pI5.2; subst eI5
    refine sat_ite (fun q_4 => ?_) (fun q_4 => ?_)
    · exact sat_zr ⟨(lit_in rfl), hRI0, trivial⟩
    · refine sat_zb (ok_S_canTell fu 0 a3 I0 hfu hRI0 (lit_in rfl) ⟨aa3, ba3⟩) (fun y7 I8 c_5 ⟨⟨ay7, by7⟩, _, pI8⟩ => ?_)
      have eI8 := pI8.1.symm; replace pI8 := pI8.2; subst eI8
      refine sat_ite (fun q_6 => ?_) (fun q_6 => ?_)
      · exact sat_zr ⟨(lit_in rfl), hRI0, trivial⟩
      · refine sat_ite (fun q_7 => ?_) (fun q_7 => ?_)
        · exact sat_zr ⟨(lit_in rfl), hRI0, trivial⟩
        · refine sat_ite (fun q_8 => ?_) (fun q_8 => ?_)
          · exact sat_zr ⟨(lit_in rfl), hRI0, trivial⟩
          · refine sat_ite (fun q_9 => ?_) (fun q_9 => ?_)
            · exact sat_zr ⟨(lit_in rfl), hRI0, trivial⟩
            · refine sat_ite (fun q_10 => ?_) (fun q_10 => ?_)
              · exact sat_zr ⟨(lit_in rfl), hRI0, trivial⟩
              · refine sat_zb (ok_M_imagine fu (o0 + 81) (o0 + 1) a1 a2 a3 a4 I0 hfu hRI0 (by omega) (by omega) ⟨aa1, ba1⟩ ⟨aa2, ba2⟩ ⟨aa3, ba3⟩ ⟨aa4, ba4⟩) (fun u_11 I11 c_12 ⟨⟨au_11, bu_11⟩, hRI11, pI11⟩ => ?_)
                refine sat_zb (ok_M_gained fu (o0 + 81) (o0 + 1) a5 I11 hfu hRI11 (by omega) (by omega) ⟨aa5, ba5⟩) (fun y13 I14 c_13 ⟨⟨ay13, by13⟩, _, pI14⟩ => ?_)
                have eI14 := pI14.1.symm; replace pI14 := pI14.2; subst eI14
                exact sat_zr ⟨⟨ay13, by13⟩, hRI11, trivial⟩
theorem ok_S_price (fu : Nat) (o0 : Nat) (a1 : Int) (a2 : Int) (I0 : IMem) (hfu : 5000000000 < fu) (hRI0 : GC I0) (To0 : o0 = 0) (qa1 : inr a1) (qa2 : inr a2) : sat (f_S_price fu o0 a1 a2 I0) (fun v I => inr v ∧ GC I ∧ (True)) := by
  unfold f_S_price
  obtain ⟨aa1, ba1⟩ := qa1
  obtain ⟨aa2, ba2⟩ := qa2
  refine sat_zb (ok_S_canTell fu 4 a1 I0 hfu hRI0 (lit_in rfl) ⟨aa1, ba1⟩) (fun y1 I2 c_1 ⟨⟨ay1, by1⟩, _, pI2⟩ => ?_)
  have eI2 := pI2.1.symm; replace pI2 := pI2.2; subst eI2
  refine sat_ite (fun q_2 => ?_) (fun q_2 => ?_)
  · exact sat_zr ⟨(lit_in rfl), hRI0, trivial⟩
  · refine sat_ite (fun q_3 => ?_) (fun q_3 => ?_)
    · exact sat_zr ⟨(lit_in rfl), hRI0, trivial⟩
    · refine sat_ite (fun q_4 => ?_) (fun q_4 => ?_)
      · exact sat_zr ⟨(lit_in rfl), hRI0, trivial⟩
      · have ⟨r_5a, r_5b⟩ : -2147483648 ≤ I0 (o0 + 2) 5 ∧ I0 (o0 + 2) 5 < 2147483648 := hRI0.1 (o0 + 2) 5
        refine sat_zl (hRI0.1 (o0 + 2) 5) (fun x4 hx4 ax4 bx4 => ?_)
        have ⟨r_6a, r_6b⟩ : -2147483648 ≤ I0 (o0 + 2) 0 ∧ I0 (o0 + 2) 0 < 2147483648 := hRI0.1 (o0 + 2) 0
        refine sat_zl (hRI0.1 (o0 + 2) 0) (fun x5 hx5 ax5 bx5 => ?_)
        refine sat_zb (ok_M_imagine fu (o0 + 81) (o0 + 1) x4 a1 x5 a2 I0 hfu hRI0 (by omega) (by omega) ⟨ax4, bx4⟩ ⟨aa1, ba1⟩ ⟨ax5, bx5⟩ ⟨aa2, ba2⟩) (fun u_7 I7 c_8 ⟨⟨au_7, bu_7⟩, hRI7, pI7⟩ => ?_)
        refine sat_zb (ok_M_gained fu (o0 + 81) (o0 + 1) 0 I7 hfu hRI7 (by omega) (by omega) (lit_in rfl)) (fun y9 I10 c_9 ⟨⟨ay9, by9⟩, _, pI10⟩ => ?_)
        have eI10 := pI10.1.symm; replace pI10 := pI10.2; subst eI10
        refine sat_zb (ok_M_imagine fu (o0 + 81) (o0 + 1) x4 0 x5 a2 I7 hfu hRI7 (by omega) (by omega) ⟨ax4, bx4⟩ (lit_in rfl) ⟨ax5, bx5⟩ ⟨aa2, ba2⟩) (fun u_10 I13 c_11 ⟨⟨au_10, bu_10⟩, hRI13, pI13⟩ => ?_)
        refine sat_zb (ok_M_gained fu (o0 + 81) (o0 + 1) 0 I13 hfu hRI13 (by omega) (by omega) (lit_in rfl)) (fun y15 I16 c_12 ⟨⟨ay15, by15⟩, _, pI16⟩ => ?_)
        have eI16 := pI16.1.symm; replace pI16 := pI16.2; subst eI16
        exact sat_zr ⟨(wr32_in _), hRI13, trivial⟩
theorem ok_H_satLast_2 {Ib : IMem} (fu : Nat) (o0 : Nat) (p1 : Int) (hfu : 5000000000 < fu) (To0 : o0 = 1 ∨ o0 = 41 ∨ o0 = 82) (qp1 : inr p1) {Q_ : Int → IMem → Prop} (hret : ∀ v I, inr v → GC I → (I = Ib ∧ (True)) → sat (zr v I) Q_) : ∀ (m : Nat) (w2 : Int) (I0 : IMem), inr w2 → GC I0 → (I0 = Ib ∧ (0 ≤ w2)) → (2147483648 - w2).toNat < m → sat (f_H_satLast_2 fu o0 p1 m w2 I0) Q_ := by
  intro m
  induction m with
  | zero => intro w2 I0 _ _ _ h0; exact absurd h0 (Nat.not_lt_zero _)
  | succ m hR_ =>
    intro w2 I0 ⟨aw2, bw2⟩ hRI0 hinv hmeas
    have einv := hinv.1; replace hinv := hinv.2; subst einv
    show sat (fb_H_satLast_2 fu o0 p1 (f_H_satLast_2 fu o0 p1 m) w2 I0) Q_
    unfold fb_H_satLast_2
    obtain ⟨ap1, bp1⟩ := qp1
    have ⟨r_1a, r_1b⟩ : -2147483648 ≤ I0 (o0 + 11) 0 ∧ I0 (o0 + 11) 0 < 2147483648 := hRI0.1 (o0 + 11) 0
    refine sat_ite (fun q_2 => ?_) (fun q_2 => ?_)
    · refine sat_ite (fun q_3 => ?_) (fun q_3 => ?_)
      · refine sat_zl (wr32_in _) (fun x1 hx1 ax1 bx1 => ?_)
        try simp (disch := omega) only [wr32_i2, wdiv_i2, wrem_i2] at hx1
        refine sat_zg (by first | omega | grind | grind [wr32]) (fun g_4 => ?_)
        have ⟨r_5a, r_5b⟩ : -2147483648 ≤ I0 (o0 + 11) x1.toNat ∧ I0 (o0 + 11) x1.toNat < 2147483648 := hRI0.1 (o0 + 11) x1.toNat
        refine sat_ite (fun q_6 => ?_) (fun q_6 => ?_)
        · exact hret _ _ (lit_in rfl) hRI0 ⟨rfl, trivial⟩
        · refine sat_zl (wr32_in _) (fun x2 hx2 ax2 bx2 => ?_)
          try simp (disch := omega) only [wr32_i2, wdiv_i2, wrem_i2] at hx2
          exact hR_ x2 I0 ⟨ax2, bx2⟩ hRI0 ⟨rfl, (by first | omega | (simp (disch := omega) only [wr32_i2, wdiv_i2, wrem_i2]; omega) | grind | grind [wr32])⟩ (by first | omega | (simp (disch := omega) only [wr32_i2, wdiv_i2, wrem_i2]; omega) | grind | grind [wr32])
      · exact hret _ _ (lit_in rfl) hRI0 ⟨rfl, trivial⟩
    · exact hret _ _ (lit_in rfl) hRI0 ⟨rfl, trivial⟩
theorem ok_H_satLast (fu : Nat) (o0 : Nat) (a1 : Int) (I0 : IMem) (hfu : 5000000000 < fu) (hRI0 : GC I0) (To0 : o0 = 1 ∨ o0 = 41 ∨ o0 = 82) (qa1 : inr a1) : sat (f_H_satLast fu o0 a1 I0) (fun v I => inr v ∧ GC I ∧ (I = I0 ∧ (True))) := by
  unfold f_H_satLast
  obtain ⟨aa1, ba1⟩ := qa1
  refine ok_H_satLast_2 (Ib := I0) fu o0 a1 hfu (by omega) ⟨aa1, ba1⟩ (fun v I h1 h2 h3 => sat_zr ⟨h1, h2, ⟨h3.1, (by have h4 := h3.2; first | exact trivial | exact h4 | omega | grind)⟩⟩) fu 0 I0 (lit_in rfl) hRI0 ⟨rfl, (by first | omega | (simp (disch := omega) only [wr32_i2, wdiv_i2, wrem_i2]; omega) | grind | grind [wr32])⟩ (by first | omega | (simp (disch := omega) only [wr32_i2, wdiv_i2, wrem_i2]; omega) | grind | grind [wr32])
theorem ok_L_hasNumber_10 {Ib : IMem} (fu : Nat) (k_43 : IMem → Res) (o0 : Nat) (p1 : Int) (p2 : Int) (hfu : 5000000000 < fu) (To0 : o0 = 7 ∨ o0 = 47 ∨ o0 = 88) (qp1 : inr p1) (qp2 : inr p2) (hp : 0 ≤ p2 ∧ p2 < 6) {Q_ : Int → IMem → Prop} (hk_43 : ∀ (I9 : IMem), GC I9 → (I9 = Ib ∧ (True)) → sat (k_43 I9) Q_) (hret : ∀ v I, inr v → GC I → (I = Ib ∧ (True)) → sat (zr v I) Q_) : ∀ (m : Nat) (w3 : Int) (I0 : IMem), inr w3 → GC I0 → (I0 = Ib ∧ (0 ≤ w3)) → (2147483648 - w3).toNat < m → sat (f_L_hasNumber_10 fu k_43 o0 p1 p2 m w3 I0) Q_ := by
  intro m
  induction m with
  | zero => intro w3 I0 _ _ _ h0; exact absurd h0 (Nat.not_lt_zero _)
  | succ m hR_ =>
    intro w3 I0 ⟨aw3, bw3⟩ hRI0 hinv hmeas
    have einv := hinv.1; replace hinv := hinv.2; subst einv
    show sat (fb_L_hasNumber_10 fu k_43 o0 p1 p2 (f_L_hasNumber_10 fu k_43 o0 p1 p2 m) w3 I0) Q_
    unfold fb_L_hasNumber_10
    obtain ⟨ap1, bp1⟩ := qp1
    obtain ⟨ap2, bp2⟩ := qp2
    refine sat_zg (by first | omega | grind | grind [wr32]) (fun g_1 => ?_)
    have ⟨r_2a, r_2b⟩ : -2147483648 ≤ I0 (o0 + 2) p2.toNat ∧ I0 (o0 + 2) p2.toNat < 2147483648 := hRI0.1 (o0 + 2) p2.toNat
    try have r_2c := ci_at hRI0 To0 (l := p2.toNat) (by omega)
    refine sat_ite (fun q_3 => ?_) (fun q_3 => ?_)
    · refine sat_zb (ok_L_get fu o0 (wr32 ((wr32 (p2 * 40)) + w3)) 0 I0 hfu hRI0 (by omega) (wr32_in _) (lit_in rfl)) (fun y1 I2 c_4 ⟨⟨ay1, by1⟩, _, pI2⟩ => ?_)
      have eI2 := pI2.1.symm; replace pI2 := pI2.2; subst eI2
      refine sat_ite (fun q_5 => ?_) (fun q_5 => ?_)
      · exact hret _ _ (lit_in rfl) hRI0 ⟨rfl, trivial⟩
      · refine sat_zl (wr32_in _) (fun x4 hx4 ax4 bx4 => ?_)
        try simp (disch := omega) only [wr32_i2, wdiv_i2, wrem_i2] at hx4
        exact hR_ x4 I0 ⟨ax4, bx4⟩ hRI0 ⟨rfl, (by first | omega | (simp (disch := omega) only [wr32_i2, wdiv_i2, wrem_i2]; omega) | grind | grind [wr32])⟩ (by first | omega | (simp (disch := omega) only [wr32_i2, wdiv_i2, wrem_i2]; omega) | grind | grind [wr32])
    · exact hk_43 I0 hRI0 ⟨rfl, trivial⟩
theorem ok_L_hasNumber_2 {Ib : IMem} (fu : Nat) (o0 : Nat) (p1 : Int) (hfu : 5000000000 < fu) (To0 : o0 = 7 ∨ o0 = 47 ∨ o0 = 88) (qp1 : inr p1) {Q_ : Int → IMem → Prop} (hret : ∀ v I, inr v → GC I → (I = Ib ∧ (True)) → sat (zr v I) Q_) : ∀ (m : Nat) (w2 : Int) (I0 : IMem), inr w2 → GC I0 → (I0 = Ib ∧ (0 ≤ w2)) → (6 - w2).toNat < m → sat (f_L_hasNumber_2 fu o0 p1 m w2 I0) Q_ := by
  intro m
  induction m with
  | zero => intro w2 I0 _ _ _ h0; exact absurd h0 (Nat.not_lt_zero _)
  | succ m hR_ =>
    intro w2 I0 ⟨aw2, bw2⟩ hRI0 hinv hmeas
    have einv := hinv.1; replace hinv := hinv.2; subst einv
    show sat (fb_L_hasNumber_2 fu o0 p1 (f_L_hasNumber_2 fu o0 p1 m) w2 I0) Q_
    unfold fb_L_hasNumber_2
    obtain ⟨ap1, bp1⟩ := qp1
    refine sat_ite (fun q_1 => ?_) (fun q_1 => ?_)
    · refine ok_L_hasNumber_10 (Ib := I0) fu _ o0 p1 w2 hfu (by omega) ⟨ap1, bp1⟩ ⟨aw2, bw2⟩ (by first | omega | (simp (disch := omega) only [wr32_i2, wdiv_i2, wrem_i2]; omega) | grind | grind [wr32]) ?_ (fun v I h1 h2 h3 => hret v I h1 h2 ⟨h3.1, (by have h4 := h3.2; first | exact trivial | exact h4 | omega | grind)⟩) fu 0 I0 (lit_in rfl) hRI0 ⟨rfl, (by first | omega | (simp (disch := omega) only [wr32_i2, wdiv_i2, wrem_i2]; omega) | grind | grind [wr32])⟩ (by first | omega | (simp (disch := omega) only [wr32_i2, wdiv_i2, wrem_i2]; omega) | grind | grind [wr32])
      · intro I5  hRI5 x_2
        have ex_2 := x_2.1.symm; replace x_2 := x_2.2; subst ex_2
        refine sat_zl (wr32_in _) (fun x6 hx6 ax6 bx6 => ?_)
        try simp (disch := omega) only [wr32_i2, wdiv_i2, wrem_i2] at hx6
        exact hR_ x6 I0 ⟨ax6, bx6⟩ hRI0 ⟨rfl, (by first | omega | (simp (disch := omega) only [wr32_i2, wdiv_i2, wrem_i2]; omega) | grind | grind [wr32])⟩ (by first | omega | (simp (disch := omega) only [wr32_i2, wdiv_i2, wrem_i2]; omega) | grind | grind [wr32])
    · exact hret _ _ (lit_in rfl) hRI0 ⟨rfl, trivial⟩
theorem ok_L_hasNumber (fu : Nat) (o0 : Nat) (a1 : Int) (I0 : IMem) (hfu : 5000000000 < fu) (hRI0 : GC I0) (To0 : o0 = 7 ∨ o0 = 47 ∨ o0 = 88) (qa1 : inr a1) : sat (f_L_hasNumber fu o0 a1 I0) (fun v I => inr v ∧ GC I ∧ (I = I0 ∧ (True))) := by
  unfold f_L_hasNumber
  obtain ⟨aa1, ba1⟩ := qa1
  refine ok_L_hasNumber_2 (Ib := I0) fu o0 a1 hfu (by omega) ⟨aa1, ba1⟩ (fun v I h1 h2 h3 => sat_zr ⟨h1, h2, ⟨h3.1, (by have h4 := h3.2; first | exact trivial | exact h4 | omega | grind)⟩⟩) fu 0 I0 (lit_in rfl) hRI0 ⟨rfl, (by first | omega | (simp (disch := omega) only [wr32_i2, wdiv_i2, wrem_i2]; omega) | grind | grind [wr32])⟩ (by first | omega | (simp (disch := omega) only [wr32_i2, wdiv_i2, wrem_i2]; omega) | grind | grind [wr32])
theorem ok_M_countTill_2 (fu : Nat) (k_45 : Int → IMem → Res) (o0 : Nat) (p1 : Int) (hfu : 5000000000 < fu) (To0 : o0 = 81) (qp1 : inr p1) {Q_ : Int → IMem → Prop} (hk_45 : ∀ (z0 : Int) (I9 : IMem), inr z0 → GC I9 → (True) → sat (k_45 z0 I9) Q_) (hret : ∀ v I, inr v → GC I → (True) → sat (zr v I) Q_) : ∀ (m : Nat) (w2 : Int) (I0 : IMem), inr w2 → GC I0 → (1 ≤ w2) → (41 - w2).toNat < m → sat (f_M_countTill_2 fu k_45 o0 p1 m w2 I0) Q_ := by
  intro m
  induction m with
  | zero => intro w2 I0 _ _ _ h0; exact absurd h0 (Nat.not_lt_zero _)
  | succ m hR_ =>
    intro w2 I0 ⟨aw2, bw2⟩ hRI0 hinv hmeas
    show sat (fb_M_countTill_2 fu k_45 o0 p1 (f_M_countTill_2 fu k_45 o0 p1 m) w2 I0) Q_
    unfold fb_M_countTill_2
    obtain ⟨ap1, bp1⟩ := qp1
    refine sat_ite (fun q_1 => ?_) (fun q_1 => ?_)
    · exact hret _ _ (lit_in rfl) hRI0 trivial
    · refine sat_zb (ok_C_fill fu (o0 + 41) (o0 + 1) I0 hfu hRI0 (by omega) (by omega)) (fun u_2 I2 c_3 ⟨⟨au_2, bu_2⟩, hRI2, pI2⟩ => ?_)
      refine sat_zb (ok_C_leave fu (o0 + 41) (o0 + 1) I2 hfu hRI2 (by omega) (by omega)) (fun y4 I5 c_4 ⟨⟨ay4, by4⟩, hRI5, pI5⟩ => ?_)
      refine sat_zb (ok_L_hasNumber fu (o0 + 7) p1 I5 hfu hRI5 (by omega) ⟨ap1, bp1⟩) (fun y7 I8 c_5 ⟨⟨ay7, by7⟩, _, pI8⟩ => ?_)
      have eI8 := pI8.1.symm; replace pI8 := pI8.2; subst eI8
      refine sat_ite (fun q_6 => ?_) (fun q_6 => ?_)
      · exact hk_45 w2 I5 ⟨aw2, bw2⟩ hRI5 trivial
      · refine sat_zl (wr32_in _) (fun x10 hx10 ax10 bx10 => ?_)
        try simp (disch := omega) only [wr32_i2, wdiv_i2, wrem_i2] at hx10
        exact hR_ x10 I5 ⟨ax10, bx10⟩ hRI5 (by first | omega | (simp (disch := omega) only [wr32_i2, wdiv_i2, wrem_i2]; omega) | grind | grind [wr32]) (by first | omega | (simp (disch := omega) only [wr32_i2, wdiv_i2, wrem_i2]; omega) | grind | grind [wr32])
theorem ok_M_countTill (fu : Nat) (o0 : Nat) (a1 : Int) (I0 : IMem) (hfu : 5000000000 < fu) (hRI0 : GC I0) (To0 : o0 = 81) (qa1 : inr a1) : sat (f_M_countTill fu o0 a1 I0) (fun v I => inr v ∧ GC I ∧ (True)) := by
  unfold f_M_countTill
  obtain ⟨aa1, ba1⟩ := qa1
  refine ok_M_countTill_2 fu _ o0 a1 hfu (by omega) ⟨aa1, ba1⟩ ?_ (fun v I h1 h2 h3 => sat_zr ⟨h1, h2, (by first | exact trivial | exact h3 | grind)⟩) fu 1 I0 (lit_in rfl) hRI0 (by first | omega | (simp (disch := omega) only [wr32_i2, wdiv_i2, wrem_i2]; omega) | grind | grind [wr32]) (by first | omega | (simp (disch := omega) only [wr32_i2, wdiv_i2, wrem_i2]; omega) | grind | grind [wr32])
  · intro x12 I11 ⟨ax12, bx12⟩ hRI11 x_1
    refine sat_zb (ok_H_satLast fu (o0 + 1) a1 I11 hfu hRI11 (by omega) ⟨aa1, ba1⟩) (fun y13 I14 c_2 ⟨⟨ay13, by13⟩, _, pI14⟩ => ?_)
    have eI14 := pI14.1.symm; replace pI14 := pI14.2; subst eI14
    refine sat_ite (fun q_3 => ?_) (fun q_3 => ?_)
    · exact sat_zr ⟨(lit_in rfl), hRI11, trivial⟩
    · exact sat_zr ⟨⟨ax12, bx12⟩, hRI11, trivial⟩
theorem ok_M_tillSits (fu : Nat) (o0 : Nat) (o1 : Nat) (a2 : Int) (I0 : IMem) (hfu : 5000000000 < fu) (hRI0 : GC I0) (To0 : o0 = 81) (To1 : o1 = 1 ∨ o1 = 41 ∨ o1 = 82) (qa2 : inr a2) : sat (f_M_tillSits fu o0 o1 a2 I0) (fun v I => inr v ∧ GC I ∧ (True)) := by
  unfold f_M_tillSits
  obtain ⟨aa2, ba2⟩ := qa2
  refine sat_zb (ok_H_copyFrom fu (o0 + 1) o1 I0 hfu hRI0 (by omega) (by omega)) (fun u_1 I2 c_2 ⟨⟨au_1, bu_1⟩, hRI2, pI2⟩ => ?_)
  refine sat_zb (ok_L_get fu (o1 + 6) a2 0 I2 hfu hRI2 (by omega) ⟨aa2, ba2⟩ (lit_in rfl)) (fun y4 I5 c_3 ⟨⟨ay4, by4⟩, _, pI5⟩ => ?_)
  have eI5 := pI5.1.symm; replace pI5 := pI5.2; subst eI5
  refine sat_zb (ok_M_countTill fu o0 y4 I2 hfu hRI2 (by omega) ⟨ay4, by4⟩) (fun y7 I8 c_4 ⟨⟨ay7, by7⟩, hRI8, pI8⟩ => ?_)
  exact sat_zr ⟨⟨ay7, by7⟩, hRI8, trivial⟩
theorem ok_S_till (fu : Nat) (o0 : Nat) (a1 : Int) (a2 : Int) (I0 : IMem) (hfu : 5000000000 < fu) (hRI0 : GC I0) (To0 : o0 = 0) (qa1 : inr a1) (qa2 : inr a2) : sat (f_S_till fu o0 a1 a2 I0) (fun v I => inr v ∧ GC I ∧ (True)) := by
  unfold f_S_till
  obtain ⟨aa1, ba1⟩ := qa1
  obtain ⟨aa2, ba2⟩ := qa2
  refine sat_zb (ok_L_has fu (o0 + 7) a1 a2 I0 hfu hRI0 (by omega) ⟨aa1, ba1⟩ ⟨aa2, ba2⟩) (fun y1 I2 c_1 ⟨⟨ay1, by1⟩, _, pI2⟩ => ?_)
  have eI2 := pI2.1.symm; replace pI2 := pI2.2; subst eI2
  refine sat_ite (fun q_2 => ?_) (fun q_2 => ?_)
  · exact sat_zr ⟨(lit_in rfl), hRI0, trivial⟩
  · refine sat_zb (ok_M_tillSits fu (o0 + 81) (o0 + 1) (wr32 ((wr32 (a1 * 40)) + a2)) I0 hfu hRI0 (by omega) (by omega) (wr32_in _)) (fun y4 I5 c_3 ⟨⟨ay4, by4⟩, hRI5, pI5⟩ => ?_)
    exact sat_zr ⟨⟨ay4, by4⟩, hRI5, trivial⟩
theorem ok_L_canJoin (fu : Nat) (o0 : Nat) (a1 : Int) (a2 : Int) (I0 : IMem) (hfu : 5000000000 < fu) (hRI0 : GC I0) (To0 : o0 = 7 ∨ o0 = 47 ∨ o0 = 88) (qa1 : inr a1) (qa2 : inr a2) : sat (f_L_canJoin fu o0 a1 a2 I0) (fun v I => inr v ∧ GC I ∧ (I = I0 ∧ (True))) := by
  unfold f_L_canJoin
  obtain ⟨aa1, ba1⟩ := qa1
  obtain ⟨aa2, ba2⟩ := qa2
  refine sat_ite (fun q_1 => ?_) (fun q_1 => ?_)
  · exact sat_zr ⟨(lit_in rfl), hRI0, ⟨rfl, trivial⟩⟩
  · refine sat_zb (ok_L_isPlainAndTrue fu o0 a1 I0 hfu hRI0 (by omega) ⟨aa1, ba1⟩) (fun y1 I2 c_2 ⟨⟨ay1, by1⟩, _, pI2⟩ => ?_)
    have eI2 := pI2.1.symm; replace pI2 := pI2.2; subst eI2
    refine sat_ite (fun q_3 => ?_) (fun q_3 => ?_)
    · exact sat_zr ⟨(lit_in rfl), hRI0, ⟨rfl, trivial⟩⟩
    · refine sat_zb (ok_L_isPlainAndTrue fu o0 a2 I0 hfu hRI0 (by omega) ⟨aa2, ba2⟩) (fun y4 I5 c_4 ⟨⟨ay4, by4⟩, _, pI5⟩ => ?_)
      have eI5 := pI5.1.symm; replace pI5 := pI5.2; subst eI5
      refine sat_ite (fun q_5 => ?_) (fun q_5 => ?_)
      · exact sat_zr ⟨(lit_in rfl), hRI0, ⟨rfl, trivial⟩⟩
      · refine sat_zb (ok_L_get fu o0 a1 1 I0 hfu hRI0 (by omega) ⟨aa1, ba1⟩ (lit_in rfl)) (fun y7 I8 c_6 ⟨⟨ay7, by7⟩, _, pI8⟩ => ?_)
        have eI8 := pI8.1.symm; replace pI8 := pI8.2; subst eI8
        refine sat_zb (ok_L_get fu o0 a2 1 I0 hfu hRI0 (by omega) ⟨aa2, ba2⟩ (lit_in rfl)) (fun y10 I11 c_7 ⟨⟨ay10, by10⟩, _, pI11⟩ => ?_)
        have eI11 := pI11.1.symm; replace pI11 := pI11.2; subst eI11
        refine sat_ite (fun q_8 => ?_) (fun q_8 => ?_)
        · try simp (disch := omega) only [wr32_i2, wdiv_i2, wrem_i2] at q_8
          exact sat_zr ⟨(lit_in rfl), hRI0, ⟨rfl, trivial⟩⟩
        · try simp (disch := omega) only [wr32_i2, wdiv_i2, wrem_i2] at q_8
          exact sat_zr ⟨(lit_in rfl), hRI0, ⟨rfl, trivial⟩⟩
theorem ok_L_remove (fu : Nat) (o0 : Nat) (a1 : Int) (I0 : IMem) (hfu : 5000000000 < fu) (hRI0 : GC I0) (To0 : o0 = 7 ∨ o0 = 47 ∨ o0 = 88) (qa1 : inr a1) (h1 : 0 ≤ a1 ∧ a1 < 240) : sat (f_L_remove fu o0 a1 I0) (fun v I => inr v ∧ GC I ∧ (True)) := by
  unfold f_L_remove
  obtain ⟨aa1, ba1⟩ := qa1
  refine sat_zl (wdiv_in _ _) (fun x1 hx1 ax1 bx1 => ?_)
  try simp (disch := omega) only [wr32_i2, wdiv_i2, wrem_i2] at hx1
  refine sat_zl (wrem_in _ _) (fun x2 hx2 ax2 bx2 => ?_)
  try simp (disch := omega) only [wr32_i2, wdiv_i2, wrem_i2] at hx2
  refine sat_zb (ok_L_has fu o0 x1 x2 I0 hfu hRI0 (by omega) ⟨ax1, bx1⟩ ⟨ax2, bx2⟩) (fun y3 I4 c_1 ⟨⟨ay3, by3⟩, _, pI4⟩ => ?_)
  have eI4 := pI4.1.symm; replace pI4 := pI4.2; subst eI4
  refine sat_ite (fun q_2 => ?_) (fun q_2 => ?_)
  · exact sat_zr ⟨(lit_in rfl), hRI0, trivial⟩
  · refine sat_zg (by first | omega | grind | grind [wr32]) (fun g_3 => ?_)
    have ⟨r_4a, r_4b⟩ : -2147483648 ≤ I0 (o0 + 2) x1.toNat ∧ I0 (o0 + 2) x1.toNat < 2147483648 := hRI0.1 (o0 + 2) x1.toNat
    try have r_4c := ci_at hRI0 To0 (l := x1.toNat) (by omega)
    refine sat_zl (wr32_in _) (fun x6 hx6 ax6 bx6 => ?_)
    try simp (disch := omega) only [wr32_i2, wdiv_i2, wrem_i2] at hx6
    refine sat_zg (by first | omega | (simp (disch := omega) only [wr32_i2, wdiv_i2, wrem_i2]; omega) | grind | grind [wr32]) (fun g_5 => ?_)
    refine sat_zcC hRI0 (by omega) (fun I7 eI7 hRI7 => ?_)
    refine sat_zg (by first | omega | grind | grind [wr32]) (fun g_6 => ?_)
    refine sat_zg (by first | omega | grind | grind [wr32]) (fun g_7 => ?_)
    have ⟨r_8a, r_8b⟩ : -2147483648 ≤ I7 (o0 + 2) x1.toNat ∧ I7 (o0 + 2) x1.toNat < 2147483648 := hRI7.1 (o0 + 2) x1.toNat
    try have r_8c := ci_at hRI7 To0 (l := x1.toNat) (by omega)
    refine sat_zwC hRI7 (wr32_in _) (by first | omega | (simp (disch := omega) only [wr32_i2, wdiv_i2, wrem_i2]; omega) | grind | grind [wr32]) (fun I8 eI8 hRI8 => ?_)
    exact sat_zr ⟨(lit_in rfl), hRI8, trivial⟩
theorem ok_L_join (fu : Nat) (o0 : Nat) (a1 : Int) (a2 : Int) (I0 : IMem) (hfu : 5000000000 < fu) (hRI0 : GC I0) (To0 : o0 = 7 ∨ o0 = 47 ∨ o0 = 88) (qa1 : inr a1) (qa2 : inr a2) (h1 : 0 ≤ a1 ∧ a1 < 240) : sat (f_L_join fu o0 a1 a2 I0) (fun v I => inr v ∧ GC I ∧ (True)) := by
  unfold f_L_join
  obtain ⟨aa1, ba1⟩ := qa1
  obtain ⟨aa2, ba2⟩ := qa2
  refine sat_zb (ok_L_get fu o0 a1 1 I0 hfu hRI0 (by omega) ⟨aa1, ba1⟩ (lit_in rfl)) (fun y1 I2 c_1 ⟨⟨ay1, by1⟩, _, pI2⟩ => ?_)
  have eI2 := pI2.1.symm; replace pI2 := pI2.2; subst eI2
  refine sat_zb (ok_L_get fu o0 a2 1 I0 hfu hRI0 (by omega) ⟨aa2, ba2⟩ (lit_in rfl)) (fun y4 I5 c_2 ⟨⟨ay4, by4⟩, _, pI5⟩ => ?_)
  have eI5 := pI5.1.symm; replace pI5 := pI5.2; subst eI5
  refine sat_zl (wr32_in _) (fun x7 hx7 ax7 bx7 => ?_)
  try simp (disch := omega) only [wr32_i2, wdiv_i2, wrem_i2] at hx7
  refine sat_zb (ok_L_put fu o0 a2 1 x7 I0 hfu hRI0 (by omega) ⟨aa2, ba2⟩ (lit_in rfl) ⟨ax7, bx7⟩) (fun u_3 I9 c_4 ⟨⟨au_3, bu_3⟩, hRI9, pI9⟩ => ?_)
  refine sat_zb (ok_L_put fu o0 a2 2 x7 I9 hfu hRI9 (by omega) ⟨aa2, ba2⟩ (lit_in rfl) ⟨ax7, bx7⟩) (fun u_5 I12 c_6 ⟨⟨au_5, bu_5⟩, hRI12, pI12⟩ => ?_)
  refine sat_zb (ok_L_remove fu o0 a1 I12 hfu hRI12 (by omega) ⟨aa1, ba1⟩ (by first | omega | (simp (disch := omega) only [wr32_i2, wdiv_i2, wrem_i2]; omega) | grind | grind [wr32])) (fun u_7 I15 c_8 ⟨⟨au_7, bu_7⟩, hRI15, pI15⟩ => ?_)
  exact sat_zr ⟨(lit_in rfl), hRI15, trivial⟩
theorem ok_M_tillJoined (fu : Nat) (o0 : Nat) (o1 : Nat) (a2 : Int) (a3 : Int) (I0 : IMem) (hfu : 5000000000 < fu) (hRI0 : GC I0) (To0 : o0 = 81) (To1 : o1 = 1 ∨ o1 = 41 ∨ o1 = 82) (qa2 : inr a2) (qa3 : inr a3) (h1 : 0 ≤ a2 ∧ a2 < 240) : sat (f_M_tillJoined fu o0 o1 a2 a3 I0) (fun v I => inr v ∧ GC I ∧ (True)) := by
  unfold f_M_tillJoined
  obtain ⟨aa2, ba2⟩ := qa2
  obtain ⟨aa3, ba3⟩ := qa3
  refine sat_zb (ok_H_copyFrom fu (o0 + 1) o1 I0 hfu hRI0 (by omega) (by omega)) (fun u_1 I2 c_2 ⟨⟨au_1, bu_1⟩, hRI2, pI2⟩ => ?_)
  refine sat_zb (ok_L_join fu (o0 + 7) a2 a3 I2 hfu hRI2 (by omega) ⟨aa2, ba2⟩ ⟨aa3, ba3⟩ (by first | omega | (simp (disch := omega) only [wr32_i2, wdiv_i2, wrem_i2]; omega) | grind | grind [wr32])) (fun u_3 I5 c_4 ⟨⟨au_3, bu_3⟩, hRI5, pI5⟩ => ?_)
  refine sat_zb (ok_L_get fu (o1 + 6) a3 0 I5 hfu hRI5 (by omega) ⟨aa3, ba3⟩ (lit_in rfl)) (fun y7 I8 c_5 ⟨⟨ay7, by7⟩, _, pI8⟩ => ?_)
  have eI8 := pI8.1.symm; replace pI8 := pI8.2; subst eI8
  refine sat_zb (ok_M_countTill fu o0 y7 I5 hfu hRI5 (by omega) ⟨ay7, by7⟩) (fun y10 I11 c_6 ⟨⟨ay10, by10⟩, hRI11, pI11⟩ => ?_)
  exact sat_zr ⟨⟨ay10, by10⟩, hRI11, trivial⟩
theorem ok_S_together (fu : Nat) (o0 : Nat) (a1 : Int) (a2 : Int) (a3 : Int) (a4 : Int) (a5 : Int) (I0 : IMem) (hfu : 5000000000 < fu) (hRI0 : GC I0) (To0 : o0 = 0) (qa1 : inr a1) (qa2 : inr a2) (qa3 : inr a3) (qa4 : inr a4) (qa5 : inr a5) : sat (f_S_together fu o0 a1 a2 a3 a4 a5 I0) (fun v I => inr v ∧ GC I ∧ (True)) := by
  unfold f_S_together
  obtain ⟨aa1, ba1⟩ := qa1
  obtain ⟨aa2, ba2⟩ := qa2
  obtain ⟨aa3, ba3⟩ := qa3
  obtain ⟨aa4, ba4⟩ := qa4
  obtain ⟨aa5, ba5⟩ := qa5
  refine sat_ite (fun q_1 => ?_) (fun q_1 => ?_)
  · exact sat_zr ⟨(lit_in rfl), hRI0, trivial⟩
  · refine sat_ite (fun q_2 => ?_) (fun q_2 => ?_)
    · exact sat_zr ⟨(lit_in rfl), hRI0, trivial⟩
    · refine sat_zb (ok_L_has fu (o0 + 7) a1 a2 I0 hfu hRI0 (by omega) ⟨aa1, ba1⟩ ⟨aa2, ba2⟩) (fun y1 I2 c_3 ⟨⟨ay1, by1⟩, _, pI2⟩ => ?_)
      have eI2 := pI2.1.symm; replace pI2 := pI2.2; subst eI2
      refine sat_ite (fun q_4 => ?_) (fun q_4 => ?_)
      · exact sat_zr ⟨(lit_in rfl), hRI0, trivial⟩
      · refine sat_zb (ok_L_has fu (o0 + 7) a3 a4 I0 hfu hRI0 (by omega) ⟨aa3, ba3⟩ ⟨aa4, ba4⟩) (fun y4 I5 c_5 ⟨⟨ay4, by4⟩, _, pI5⟩ => ?_)
        have eI5 := pI5.1.symm; replace pI5 := pI5.2; subst eI5
        refine sat_ite (fun q_6 => ?_) (fun q_6 => ?_)
        · exact sat_zr ⟨(lit_in rfl), hRI0, trivial⟩
        · refine sat_zl (wr32_in _) (fun x7 hx7 ax7 bx7 => ?_)
          try simp (disch := omega) only [wr32_i2, wdiv_i2, wrem_i2] at hx7
          refine sat_zl (wr32_in _) (fun x8 hx8 ax8 bx8 => ?_)
          try simp (disch := omega) only [wr32_i2, wdiv_i2, wrem_i2] at hx8
          refine sat_zb (ok_L_canJoin fu (o0 + 7) x7 x8 I0 hfu hRI0 (by omega) ⟨ax7, bx7⟩ ⟨ax8, bx8⟩) (fun y9 I10 c_7 ⟨⟨ay9, by9⟩, _, pI10⟩ => ?_)
          have eI10 := pI10.1.symm; replace pI10 := pI10.2; subst eI10
          refine sat_ite (fun q_8 => ?_) (fun q_8 => ?_)
          · exact sat_zr ⟨(lit_in rfl), hRI0, trivial⟩
          · refine sat_zb (ok_M_tillJoined fu (o0 + 81) (o0 + 1) x7 x8 I0 hfu hRI0 (by omega) (by omega) ⟨ax7, bx7⟩ ⟨ax8, bx8⟩ (by first | omega | (simp (disch := omega) only [wr32_i2, wdiv_i2, wrem_i2]; omega) | grind | grind [wr32])) (fun y12 I13 c_9 ⟨⟨ay12, by12⟩, hRI13, pI13⟩ => ?_)
            refine sat_ite (fun q_10 => ?_) (fun q_10 => ?_)
            · exact sat_zr ⟨⟨ay12, by12⟩, hRI13, trivial⟩
            · refine sat_zb (ok_M_tillSits fu (o0 + 81) (o0 + 1) x7 I13 hfu hRI13 (by omega) (by omega) ⟨ax7, bx7⟩) (fun y15 I16 c_11 ⟨⟨ay15, by15⟩, hRI16, pI16⟩ => ?_)
              refine sat_zb (ok_M_tillSits fu (o0 + 81) (o0 + 1) x8 I16 hfu hRI16 (by omega) (by omega) ⟨ax8, bx8⟩) (fun y18 I19 c_12 ⟨⟨ay18, by18⟩, hRI19, pI19⟩ => ?_)
              refine sat_ite (fun q_13 => ?_) (fun q_13 => ?_)
              · exact sat_zr ⟨(lit_in rfl), hRI19, trivial⟩
              · refine sat_ite (fun q_14 => ?_) (fun q_14 => ?_)
                · exact sat_zr ⟨(lit_in rfl), hRI19, trivial⟩
                · refine sat_ite (fun q_15 => ?_) (fun q_15 => ?_)
                  · exact sat_zr ⟨(lit_in rfl), hRI19, trivial⟩
                  · refine sat_zb (ok_JM_max fu y15 y18 I19 hfu hRI19.1 ⟨ay15, by15⟩ ⟨ay18, by18⟩) (fun y21 I22 c_16 ⟨⟨ay21, by21⟩, _, pI22⟩ => ?_)
                    have eI22 := pI22.1.symm; replace pI22 := pI22.2; subst eI22
                    refine sat_ite (fun q_17 => ?_) (fun q_17 => ?_)
                    · exact sat_zr ⟨(lit_in rfl), hRI19, trivial⟩
                    · exact sat_zr ⟨(lit_in rfl), hRI19, trivial⟩
theorem ok_M_emptyNeeded_13 (fu : Nat) (o0 : Nat) (p2 : Int) (hfu : 5000000000 < fu) (To0 : o0 = 81) (qp2 : inr p2) {Q_ : Int → IMem → Prop} (hret : ∀ v I, inr v → GC I → (True) → sat (zr v I) Q_) : ∀ (m : Nat) (w3 : Int) (w4 : Int) (I0 : IMem), inr w3 → inr w4 → GC I0 → (0 ≤ w4) → (p2 - w4).toNat < m → sat (f_M_emptyNeeded_13 fu o0 p2 m w3 w4 I0) Q_ := by
  intro m
  induction m with
  | zero => intro w3 w4 I0 _ _ _ _ h0; exact absurd h0 (Nat.not_lt_zero _)
  | succ m hR_ =>
    intro w3 w4 I0 ⟨aw3, bw3⟩ ⟨aw4, bw4⟩ hRI0 hinv hmeas
    show sat (fb_M_emptyNeeded_13 fu o0 p2 (f_M_emptyNeeded_13 fu o0 p2 m) w3 w4 I0) Q_
    unfold fb_M_emptyNeeded_13
    obtain ⟨ap2, bp2⟩ := qp2
    refine sat_ite (fun q_1 => ?_) (fun q_1 => ?_)
    · have ⟨r_2a, r_2b⟩ : -2147483648 ≤ I0 (o0 + 11) 1 ∧ I0 (o0 + 11) 1 < 2147483648 := hRI0.1 (o0 + 11) 1
      refine sat_zl (hRI0.1 (o0 + 11) 1) (fun x4 hx4 ax4 bx4 => ?_)
      refine sat_zb (ok_C_ride fu (o0 + 41) (o0 + 1) I0 hfu hRI0 (by omega) (by omega)) (fun y5 I6 c_3 ⟨⟨ay5, by5⟩, hRI6, pI6⟩ => ?_)
      refine sat_zj (fun k8 ek8 => ?_)
      have hk8 : ∀ (x10 : Int) (I9 : IMem), inr x10 → GC I9 → (I9 = I6 ∧ (True)) → sat (k8 x10 I9) Q_ := by
        intro x10 I9 ⟨ax10, bx10⟩ hRI9 jk8
        subst ek8
        have ejk8 := jk8.1.symm; replace jk8 := jk8.2; subst ejk8
        refine sat_zl (wr32_in _) (fun x11 hx11 ax11 bx11 => ?_)
        try simp (disch := omega) only [wr32_i2, wdiv_i2, wrem_i2] at hx11
        exact hR_ x10 x11 I6 ⟨ax10, bx10⟩ ⟨ax11, bx11⟩ hRI6 (by first | omega | (simp (disch := omega) only [wr32_i2, wdiv_i2, wrem_i2]; omega) | grind | grind [wr32]) (by first | omega | (simp (disch := omega) only [wr32_i2, wdiv_i2, wrem_i2]; omega) | grind | grind [wr32])
      clear ek8
      refine sat_ite (fun q_4 => ?_) (fun q_4 => ?_)
      · have ⟨r_5a, r_5b⟩ : -2147483648 ≤ I6 (o0 + 11) 1 ∧ I6 (o0 + 11) 1 < 2147483648 := hRI6.1 (o0 + 11) 1
        refine sat_zl (wr32_in _) (fun x12 hx12 ax12 bx12 => ?_)
        try simp (disch := omega) only [wr32_i2, wdiv_i2, wrem_i2] at hx12
        exact hk8 x12 I6 ⟨ax12, bx12⟩ hRI6 ⟨rfl, trivial⟩
      · exact hk8 w3 I6 ⟨aw3, bw3⟩ hRI6 ⟨rfl, trivial⟩
    · exact hret _ _ ⟨aw3, bw3⟩ hRI0 trivial
theorem ok_M_emptyNeeded (fu : Nat) (o0 : Nat) (o1 : Nat) (a2 : Int) (I0 : IMem) (hfu : 5000000000 < fu) (hRI0 : GC I0) (To0 : o0 = 81) (To1 : o1 = 1 ∨ o1 = 41 ∨ o1 = 82) (qa2 : inr a2) : sat (f_M_emptyNeeded fu o0 o1 a2 I0) (fun v I => inr v ∧ GC I ∧ (True)) := by
  unfold f_M_emptyNeeded
  obtain ⟨aa2, ba2⟩ := qa2
  refine sat_zb (ok_H_copyFrom fu (o0 + 1) o1 I0 hfu hRI0 (by omega) (by omega)) (fun u_1 I2 c_2 ⟨⟨au_1, bu_1⟩, hRI2, pI2⟩ => ?_)
  refine ok_M_emptyNeeded_13 fu o0 a2 hfu (by omega) ⟨aa2, ba2⟩ (fun v I h1 h2 h3 => sat_zr ⟨h1, h2, (by first | exact trivial | exact h3 | grind)⟩) fu 0 0 I2 (lit_in rfl) (lit_in rfl) hRI2 (by first | omega | (simp (disch := omega) only [wr32_i2, wdiv_i2, wrem_i2]; omega) | grind | grind [wr32]) (by first | omega | (simp (disch := omega) only [wr32_i2, wdiv_i2, wrem_i2]; omega) | grind | grind [wr32])
theorem ok_S_needed (fu : Nat) (o0 : Nat) (a1 : Int) (I0 : IMem) (hfu : 5000000000 < fu) (hRI0 : GC I0) (To0 : o0 = 0) (qa1 : inr a1) : sat (f_S_needed fu o0 a1 I0) (fun v I => inr v ∧ GC I ∧ (True)) := by
  unfold f_S_needed
  obtain ⟨aa1, ba1⟩ := qa1
  refine sat_ite (fun q_1 => ?_) (fun q_1 => ?_)
  · exact sat_zr ⟨(lit_in rfl), hRI0, trivial⟩
  · refine sat_ite (fun q_2 => ?_) (fun q_2 => ?_)
    · exact sat_zr ⟨(lit_in rfl), hRI0, trivial⟩
    · refine sat_zb (ok_M_emptyNeeded fu (o0 + 81) (o0 + 1) a1 I0 hfu hRI0 (by omega) (by omega) ⟨aa1, ba1⟩) (fun y1 I2 c_3 ⟨⟨ay1, by1⟩, hRI2, pI2⟩ => ?_)
      exact sat_zr ⟨⟨ay1, by1⟩, hRI2, trivial⟩
theorem ok_H_pastChair (fu : Nat) (o0 : Nat) (a1 : Int) (a2 : Int) (I0 : IMem) (hfu : 5000000000 < fu) (hRI0 : GC I0) (To0 : o0 = 1 ∨ o0 = 41 ∨ o0 = 82) (qa1 : inr a1) (qa2 : inr a2) : sat (f_H_pastChair fu o0 a1 a2 I0) (fun v I => inr v ∧ GC I ∧ (I = I0 ∧ (True))) := by
  unfold f_H_pastChair
  obtain ⟨aa1, ba1⟩ := qa1
  obtain ⟨aa2, ba2⟩ := qa2
  refine sat_ite (fun q_1 => ?_) (fun q_1 => ?_)
  · exact sat_zr ⟨(lit_in rfl), hRI0, ⟨rfl, trivial⟩⟩
  · refine sat_ite (fun q_2 => ?_) (fun q_2 => ?_)
    · have ⟨r_4a, r_4b⟩ : -2147483648 ≤ I0 (o0 + 10) 0 ∧ I0 (o0 + 10) 0 < 2147483648 := hRI0.1 (o0 + 10) 0
      refine sat_zb (ok_H_pastAt fu (wr32 ((wr32 ((I0 (o0 + 10) 0) - 1)) - a1)) I0 hfu hRI0 (wr32_in _)) (fun y1 I2 c_3 ⟨⟨ay1, by1⟩, _, pI2⟩ => ?_)
      have eI2 := pI2.1.symm; replace pI2 := pI2.2; subst eI2
      refine sat_zl (wr32_in _) (fun x4 hx4 ax4 bx4 => ?_)
      try simp (disch := omega) only [wr32_i2, wdiv_i2, wrem_i2] at hx4
      refine sat_zg (by first | omega | grind | grind [wr32]) (fun g_5 => ?_)
      have ⟨r_6a, r_6b⟩ : -2147483648 ≤ I0 (o0 + 12) x4.toNat ∧ I0 (o0 + 12) x4.toNat < 2147483648 := hRI0.1 (o0 + 12) x4.toNat
      exact sat_zr ⟨(hRI0.1 (o0 + 12) x4.toNat), hRI0, ⟨rfl, trivial⟩⟩
    · exact sat_zr ⟨(lit_in rfl), hRI0, ⟨rfl, trivial⟩⟩
theorem ok_S_past (fu : Nat) (o0 : Nat) (a1 : Int) (a2 : Int) (I0 : IMem) (hfu : 5000000000 < fu) (hRI0 : GC I0) (To0 : o0 = 0) (qa1 : inr a1) (qa2 : inr a2) : sat (f_S_past fu o0 a1 a2 I0) (fun v I => inr v ∧ GC I ∧ (I = I0 ∧ (True))) := by
  unfold f_S_past
  obtain ⟨aa1, ba1⟩ := qa1
  obtain ⟨aa2, ba2⟩ := qa2
  refine sat_zj (fun k1 ek1 => ?_)
  have hk1 : ∀ (x3 : Int) (I2 : IMem), inr x3 → GC I2 → (I2 = I0 ∧ (x3 = 0 ∨ (0 ≤ a2 ∧ a2 ≤ 2))) → sat (k1 x3 I2) (fun v I => inr v ∧ GC I ∧ (I = I0 ∧ (True))) := by
    intro x3 I2 ⟨ax3, bx3⟩ hRI2 jk1
    subst ek1
    have ejk1 := jk1.1.symm; replace jk1 := jk1.2; subst ejk1
    refine sat_ite (fun q_1 => ?_) (fun q_1 => ?_)
    · exact sat_zr ⟨(lit_in rfl), hRI0, ⟨rfl, trivial⟩⟩
    · refine sat_zb (ok_H_pastChair fu (o0 + 1) a1 a2 I0 hfu hRI0 (by omega) ⟨aa1, ba1⟩ ⟨aa2, ba2⟩) (fun y4 I5 c_2 ⟨⟨ay4, by4⟩, _, pI5⟩ => ?_)
      have eI5 := pI5.1.symm; replace pI5 := pI5.2; subst eI5
      exact sat_zr ⟨⟨ay4, by4⟩, hRI0, ⟨rfl, trivial⟩⟩
  clear ek1
  refine sat_ite (fun q_3 => ?_) (fun q_3 => ?_)
  · exact hk1 0 I0 (lit_in rfl) hRI0 ⟨rfl, (by first | omega | (simp (disch := omega) only [wr32_i2, wdiv_i2, wrem_i2]; omega) | grind | grind [wr32])⟩
  · refine sat_ite (fun q_4 => ?_) (fun q_4 => ?_)
    · have ⟨r_5a, r_5b⟩ : -2147483648 ≤ I0 (o0 + 11) 0 ∧ I0 (o0 + 11) 0 < 2147483648 := hRI0.1 (o0 + 11) 0
      refine sat_ite (fun q_6 => ?_) (fun q_6 => ?_)
      · refine sat_ite (fun q_7 => ?_) (fun q_7 => ?_)
        · exact hk1 0 I0 (lit_in rfl) hRI0 ⟨rfl, (by first | omega | (simp (disch := omega) only [wr32_i2, wdiv_i2, wrem_i2]; omega) | grind | grind [wr32])⟩
        · refine sat_ite (fun q_8 => ?_) (fun q_8 => ?_)
          · exact hk1 0 I0 (lit_in rfl) hRI0 ⟨rfl, (by first | omega | (simp (disch := omega) only [wr32_i2, wdiv_i2, wrem_i2]; omega) | grind | grind [wr32])⟩
          · exact hk1 1 I0 (lit_in rfl) hRI0 ⟨rfl, (by first | omega | (simp (disch := omega) only [wr32_i2, wdiv_i2, wrem_i2]; omega) | grind | grind [wr32])⟩
      · exact hk1 0 I0 (lit_in rfl) hRI0 ⟨rfl, (by first | omega | (simp (disch := omega) only [wr32_i2, wdiv_i2, wrem_i2]; omega) | grind | grind [wr32])⟩
    · exact hk1 0 I0 (lit_in rfl) hRI0 ⟨rfl, (by first | omega | (simp (disch := omega) only [wr32_i2, wdiv_i2, wrem_i2]; omega) | grind | grind [wr32])⟩
theorem ok_M_bestSet_3 (fu : Nat) (k_124 : IMem → Res) (o0 : Nat) (o1 : Nat) (p2 : Int) (p3 : Int) (hfu : 5000000000 < fu) (To0 : o0 = 81) (To1 : o1 = 1 ∨ o1 = 41 ∨ o1 = 82) (qp2 : inr p2) (qp3 : inr p3) {Q_ : Int → IMem → Prop} (hk_124 : ∀ (I9 : IMem), GC I9 → (True) → sat (k_124 I9) Q_) (hret : ∀ v I, inr v → GC I → (True) → sat (zr v I) Q_) : ∀ (m : Nat) (w4 : Int) (I0 : IMem), inr w4 → GC I0 → (0 ≤ w4) → (16 - w4).toNat < m → sat (f_M_bestSet_3 fu k_124 o0 o1 p2 p3 m w4 I0) Q_ := by
  intro m
  induction m with
  | zero => intro w4 I0 _ _ _ h0; exact absurd h0 (Nat.not_lt_zero _)
  | succ m hR_ =>
    intro w4 I0 ⟨aw4, bw4⟩ hRI0 hinv hmeas
    show sat (fb_M_bestSet_3 fu k_124 o0 o1 p2 p3 (f_M_bestSet_3 fu k_124 o0 o1 p2 p3 m) w4 I0) Q_
    unfold fb_M_bestSet_3
    obtain ⟨ap2, bp2⟩ := qp2
    obtain ⟨ap3, bp3⟩ := qp3
    refine sat_ite (fun q_1 => ?_) (fun q_1 => ?_)
    · refine sat_zb (ok_H_copyFrom fu (o0 + 1) o1 I0 hfu hRI0 (by omega) (by omega)) (fun u_2 I2 c_3 ⟨⟨au_2, bu_2⟩, hRI2, pI2⟩ => ?_)
      refine sat_zwC hRI2 ⟨aw4, bw4⟩ (by first | omega | grind | grind [wr32]) (fun I4 eI4 hRI4 => ?_)
      refine sat_zb (ok_C_turns fu (o0 + 41) (o0 + 1) p2 I4 hfu hRI4 (by omega) (by omega) ⟨ap2, bp2⟩) (fun y5 I6 c_4 ⟨⟨ay5, by5⟩, hRI6, pI6⟩ => ?_)
      refine sat_zb (ok_M_gained fu o0 o1 0 I6 hfu hRI6 (by omega) (by omega) (lit_in rfl)) (fun y8 I9 c_5 ⟨⟨ay8, by8⟩, _, pI9⟩ => ?_)
      have eI9 := pI9.1.symm; replace pI9 := pI9.2; subst eI9
      refine sat_zb (ok_M_gained fu o0 o1 2 I6 hfu hRI6 (by omega) (by omega) (lit_in rfl)) (fun y11 I12 c_6 ⟨⟨ay11, by11⟩, _, pI12⟩ => ?_)
      have eI12 := pI12.1.symm; replace pI12 := pI12.2; subst eI12
      refine sat_zj (fun k14 ek14 => ?_)
      have hk14 : ∀ (I15 : IMem), GC I15 → (True) → sat (k14 I15) Q_ := by
        intro I15  hRI15 jk14
        subst ek14
        refine sat_zl (wr32_in _) (fun x16 hx16 ax16 bx16 => ?_)
        try simp (disch := omega) only [wr32_i2, wdiv_i2, wrem_i2] at hx16
        exact hR_ x16 I15 ⟨ax16, bx16⟩ hRI15 (by first | omega | (simp (disch := omega) only [wr32_i2, wdiv_i2, wrem_i2]; omega) | grind | grind [wr32]) (by first | omega | (simp (disch := omega) only [wr32_i2, wdiv_i2, wrem_i2]; omega) | grind | grind [wr32])
      clear ek14
      refine sat_zj (fun k17 ek17 => ?_)
      have hk17 : ∀ (I18 : IMem), GC I18 → (I18 = I6 ∧ (True)) → sat (k17 I18) Q_ := by
        intro I18  hRI18 jk17
        subst ek17
        have ejk17 := jk17.1.symm; replace jk17 := jk17.2; subst ejk17
        refine sat_zwC hRI6 ⟨aw4, bw4⟩ (by first | omega | grind | grind [wr32]) (fun I19 eI19 hRI19 => ?_)
        refine sat_zwC hRI19 ⟨ay8, by8⟩ (by first | omega | grind | grind [wr32]) (fun I20 eI20 hRI20 => ?_)
        refine sat_zwC hRI20 ⟨ay11, by11⟩ (by first | omega | grind | grind [wr32]) (fun I21 eI21 hRI21 => ?_)
        exact hk14 I21 hRI21 trivial
      clear ek17
      refine sat_ite (fun q_7 => ?_) (fun q_7 => ?_)
      · exact hk17 I6 hRI6 ⟨rfl, trivial⟩
      · have ⟨r_8a, r_8b⟩ : -2147483648 ≤ I6 (o0 + 48) 1 ∧ I6 (o0 + 48) 1 < 2147483648 := hRI6.1 (o0 + 48) 1
        refine sat_ite (fun q_9 => ?_) (fun q_9 => ?_)
        · exact hk17 I6 hRI6 ⟨rfl, trivial⟩
        · refine sat_ite (fun q_10 => ?_) (fun q_10 => ?_)
          · have ⟨r_11a, r_11b⟩ : -2147483648 ≤ I6 (o0 + 48) 2 ∧ I6 (o0 + 48) 2 < 2147483648 := hRI6.1 (o0 + 48) 2
            refine sat_ite (fun q_12 => ?_) (fun q_12 => ?_)
            · exact hk17 I6 hRI6 ⟨rfl, trivial⟩
            · exact hk14 I6 hRI6 trivial
          · exact hk14 I6 hRI6 trivial
    · exact hk_124 I0 hRI0 trivial
theorem ok_M_bestSet (fu : Nat) (o0 : Nat) (o1 : Nat) (a2 : Int) (a3 : Int) (I0 : IMem) (hfu : 5000000000 < fu) (hRI0 : GC I0) (To0 : o0 = 81) (To1 : o1 = 1 ∨ o1 = 41 ∨ o1 = 82) (qa2 : inr a2) (qa3 : inr a3) : sat (f_M_bestSet fu o0 o1 a2 a3 I0) (fun v I => inr v ∧ GC I ∧ (True)) := by
  unfold f_M_bestSet
  obtain ⟨aa2, ba2⟩ := qa2
  obtain ⟨aa3, ba3⟩ := qa3
  refine ok_M_bestSet_3 fu _ o0 o1 a2 a3 hfu (by omega) (by omega) ⟨aa2, ba2⟩ ⟨aa3, ba3⟩ ?_ (fun v I h1 h2 h3 => sat_zr ⟨h1, h2, (by first | exact trivial | exact h3 | grind)⟩) fu 0 I0 (lit_in rfl) hRI0 (by first | omega | (simp (disch := omega) only [wr32_i2, wdiv_i2, wrem_i2]; omega) | grind | grind [wr32]) (by first | omega | (simp (disch := omega) only [wr32_i2, wdiv_i2, wrem_i2]; omega) | grind | grind [wr32])
  · intro I22  hRI22 x_1
    refine sat_ite (fun q_2 => ?_) (fun q_2 => ?_)
    · exact sat_zr ⟨(lit_in rfl), hRI22, trivial⟩
    · refine sat_ite (fun q_3 => ?_) (fun q_3 => ?_)
      · refine sat_zg (by first | omega | grind | grind [wr32]) (fun g_4 => ?_)
        have ⟨r_5a, r_5b⟩ : -2147483648 ≤ I22 (o0 + 48) a3.toNat ∧ I22 (o0 + 48) a3.toNat < 2147483648 := hRI22.1 (o0 + 48) a3.toNat
        exact sat_zr ⟨(hRI22.1 (o0 + 48) a3.toNat), hRI22, trivial⟩
      · exact sat_zr ⟨(lit_in rfl), hRI22, trivial⟩
theorem ok_S_which (fu : Nat) (o0 : Nat) (a1 : Int) (a2 : Int) (I0 : IMem) (hfu : 5000000000 < fu) (hRI0 : GC I0) (To0 : o0 = 0) (qa1 : inr a1) (qa2 : inr a2) : sat (f_S_which fu o0 a1 a2 I0) (fun v I => inr v ∧ GC I ∧ (True)) := by
  unfold f_S_which
  obtain ⟨aa1, ba1⟩ := qa1
  obtain ⟨aa2, ba2⟩ := qa2
  refine sat_ite (fun q_1 => ?_) (fun q_1 => ?_)
  · exact sat_zr ⟨(lit_in rfl), hRI0, trivial⟩
  · refine sat_ite (fun q_2 => ?_) (fun q_2 => ?_)
    · exact sat_zr ⟨(lit_in rfl), hRI0, trivial⟩
    · refine sat_ite (fun q_3 => ?_) (fun q_3 => ?_)
      · exact sat_zr ⟨(lit_in rfl), hRI0, trivial⟩
      · refine sat_ite (fun q_4 => ?_) (fun q_4 => ?_)
        · exact sat_zr ⟨(lit_in rfl), hRI0, trivial⟩
        · refine sat_zb (ok_M_bestSet fu (o0 + 81) (o0 + 1) a1 a2 I0 hfu hRI0 (by omega) (by omega) ⟨aa1, ba1⟩ ⟨aa2, ba2⟩) (fun y1 I2 c_5 ⟨⟨ay1, by1⟩, hRI2, pI2⟩ => ?_)
          exact sat_zr ⟨⟨ay1, by1⟩, hRI2, trivial⟩
theorem ok_L_rowOf_16 {Ib : IMem} (fu : Nat) (o0 : Nat) (p1 : Int) (p2 : Int) (p3 : Int) (p6 : Int) (hfu : 5000000000 < fu) (To0 : o0 = 7 ∨ o0 = 47 ∨ o0 = 88) (qp1 : inr p1) (qp2 : inr p2) (qp3 : inr p3) (qp6 : inr p6) {Q_ : Int → IMem → Prop} (hret : ∀ v I, inr v → GC I → (I = Ib ∧ (True)) → sat (zr v I) Q_) : ∀ (m : Nat) (w4 : Int) (w5 : Int) (w7 : Int) (I0 : IMem), inr w4 → inr w5 → inr w7 → GC I0 → (I0 = Ib ∧ (0 ≤ w7)) → (p6 - w7).toNat < m → sat (f_L_rowOf_16 fu o0 p1 p2 p3 p6 m w4 w5 w7 I0) Q_ := by
  intro m
  induction m with
  | zero => intro w4 w5 w7 I0 _ _ _ _ _ h0; exact absurd h0 (Nat.not_lt_zero _)
  | succ m hR_ =>
    intro w4 w5 w7 I0 ⟨aw4, bw4⟩ ⟨aw5, bw5⟩ ⟨aw7, bw7⟩ hRI0 hinv hmeas
    have einv := hinv.1; replace hinv := hinv.2; subst einv
    show sat (fb_L_rowOf_16 fu o0 p1 p2 p3 p6 (f_L_rowOf_16 fu o0 p1 p2 p3 p6 m) w4 w5 w7 I0) Q_
    unfold fb_L_rowOf_16
    obtain ⟨ap1, bp1⟩ := qp1
    obtain ⟨ap2, bp2⟩ := qp2
    obtain ⟨ap3, bp3⟩ := qp3
    obtain ⟨ap6, bp6⟩ := qp6
    refine sat_ite (fun q_1 => ?_) (fun q_1 => ?_)
    · refine sat_zb (ok_L_get fu o0 (wr32 ((wr32 (p1 * 40)) + w7)) 1 I0 hfu hRI0 (by omega) (wr32_in _) (lit_in rfl)) (fun y4 I5 c_2 ⟨⟨ay4, by4⟩, _, pI5⟩ => ?_)
      have eI5 := pI5.1.symm; replace pI5 := pI5.2; subst eI5
      refine sat_zj (fun k7 ek7 => ?_)
      have hk7 : ∀ (x9 : Int) (x10 : Int) (x11 : Int) (I8 : IMem), inr x9 → inr x10 → inr x11 → GC I8 → (I8 = I0 ∧ (True)) → sat (k7 x9 x10 x11 I8) Q_ := by
        intro x9 x10 x11 I8 ⟨ax9, bx9⟩ ⟨ax10, bx10⟩ ⟨ax11, bx11⟩ hRI8 jk7
        subst ek7
        have ejk7 := jk7.1.symm; replace jk7 := jk7.2; subst ejk7
        refine sat_ite (fun q_3 => ?_) (fun q_3 => ?_)
        · exact hret _ _ ⟨ax11, bx11⟩ hRI0 ⟨rfl, trivial⟩
        · refine sat_zl (wr32_in _) (fun x12 hx12 ax12 bx12 => ?_)
          try simp (disch := omega) only [wr32_i2, wdiv_i2, wrem_i2] at hx12
          exact hR_ x9 x10 x12 I0 ⟨ax9, bx9⟩ ⟨ax10, bx10⟩ ⟨ax12, bx12⟩ hRI0 ⟨rfl, (by first | omega | (simp (disch := omega) only [wr32_i2, wdiv_i2, wrem_i2]; omega) | grind | grind [wr32])⟩ (by first | omega | (simp (disch := omega) only [wr32_i2, wdiv_i2, wrem_i2]; omega) | grind | grind [wr32])
      clear ek7
      refine sat_ite (fun q_4 => ?_) (fun q_4 => ?_)
      · refine sat_ite (fun q_5 => ?_) (fun q_5 => ?_)
        · refine sat_ite (fun q_6 => ?_) (fun q_6 => ?_)
          · refine sat_zg (by first | omega | grind | grind [wr32]) (fun g_7 => ?_)
            refine sat_zl (wr32_in _) (fun x14 hx14 ax14 bx14 => ?_)
            try simp (disch := omega) only [wr32_i2, wdiv_i2, wrem_i2] at hx14
            exact hk7 x14 0 w4 I0 ⟨ax14, bx14⟩ (lit_in rfl) ⟨aw4, bw4⟩ hRI0 ⟨rfl, trivial⟩
          · refine sat_zl (wr32_in _) (fun x13 hx13 ax13 bx13 => ?_)
            try simp (disch := omega) only [wr32_i2, wdiv_i2, wrem_i2] at hx13
            exact hk7 x13 0 w4 I0 ⟨ax13, bx13⟩ (lit_in rfl) ⟨aw4, bw4⟩ hRI0 ⟨rfl, trivial⟩
        · refine sat_zl (wr32_in _) (fun x15 hx15 ax15 bx15 => ?_)
          try simp (disch := omega) only [wr32_i2, wdiv_i2, wrem_i2] at hx15
          refine sat_zl (wr32_in _) (fun x16 hx16 ax16 bx16 => ?_)
          try simp (disch := omega) only [wr32_i2, wdiv_i2, wrem_i2] at hx16
          exact hk7 x15 x16 w4 I0 ⟨ax15, bx15⟩ ⟨ax16, bx16⟩ ⟨aw4, bw4⟩ hRI0 ⟨rfl, trivial⟩
      · refine sat_zl (wr32_in _) (fun x17 hx17 ax17 bx17 => ?_)
        try simp (disch := omega) only [wr32_i2, wdiv_i2, wrem_i2] at hx17
        refine sat_zl (wr32_in _) (fun x18 hx18 ax18 bx18 => ?_)
        try simp (disch := omega) only [wr32_i2, wdiv_i2, wrem_i2] at hx18
        exact hk7 w4 x18 x17 I0 ⟨aw4, bw4⟩ ⟨ax18, bx18⟩ ⟨ax17, bx17⟩ hRI0 ⟨rfl, trivial⟩
    · exact hret _ _ ⟨aw4, bw4⟩ hRI0 ⟨rfl, trivial⟩
theorem ok_L_rowOf (fu : Nat) (o0 : Nat) (a1 : Int) (a2 : Int) (a3 : Int) (I0 : IMem) (hfu : 5000000000 < fu) (hRI0 : GC I0) (To0 : o0 = 7 ∨ o0 = 47 ∨ o0 = 88) (qa1 : inr a1) (qa2 : inr a2) (qa3 : inr a3) : sat (f_L_rowOf fu o0 a1 a2 a3 I0) (fun v I => inr v ∧ GC I ∧ (I = I0 ∧ (True))) := by
  unfold f_L_rowOf
  obtain ⟨aa1, ba1⟩ := qa1
  obtain ⟨aa2, ba2⟩ := qa2
  obtain ⟨aa3, ba3⟩ := qa3
  refine sat_zb (ok_L_countOf fu o0 a1 I0 hfu hRI0 (by omega) ⟨aa1, ba1⟩) (fun y1 I2 c_1 ⟨⟨ay1, by1⟩, _, pI2⟩ => ?_)
  have eI2 := pI2.1.symm; replace pI2 := pI2.2; subst eI2
  refine ok_L_rowOf_16 (Ib := I0) fu o0 a1 a2 a3 y1 hfu (by omega) ⟨aa1, ba1⟩ ⟨aa2, ba2⟩ ⟨aa3, ba3⟩ ⟨ay1, by1⟩ (fun v I h1 h2 h3 => sat_zr ⟨h1, h2, ⟨h3.1, (by have h4 := h3.2; first | exact trivial | exact h4 | omega | grind)⟩⟩) fu 0 0 0 I0 (lit_in rfl) (lit_in rfl) (lit_in rfl) hRI0 ⟨rfl, (by first | omega | (simp (disch := omega) only [wr32_i2, wdiv_i2, wrem_i2]; omega) | grind | grind [wr32])⟩ (by first | omega | (simp (disch := omega) only [wr32_i2, wdiv_i2, wrem_i2]; omega) | grind | grind [wr32])
theorem ok_S_folded (fu : Nat) (o0 : Nat) (a1 : Int) (a2 : Int) (a3 : Int) (I0 : IMem) (hfu : 5000000000 < fu) (hRI0 : GC I0) (To0 : o0 = 0) (qa1 : inr a1) (qa2 : inr a2) (qa3 : inr a3) : sat (f_S_folded fu o0 a1 a2 a3 I0) (fun v I => inr v ∧ GC I ∧ (I = I0 ∧ (True))) := by
  unfold f_S_folded
  obtain ⟨aa1, ba1⟩ := qa1
  obtain ⟨aa2, ba2⟩ := qa2
  obtain ⟨aa3, ba3⟩ := qa3
  refine sat_zb (ok_S_isLine fu a1 I0 hfu hRI0 ⟨aa1, ba1⟩) (fun y1 I2 c_1 ⟨⟨ay1, by1⟩, _, pI2⟩ => ?_)
  have eI2 := pI2.1.symm; replace pI2 := pI2.2; subst eI2
  refine sat_ite (fun q_2 => ?_) (fun q_2 => ?_)
  · exact sat_zr ⟨(lit_in rfl), hRI0, ⟨rfl, trivial⟩⟩
  · refine sat_ite (fun q_3 => ?_) (fun q_3 => ?_)
    · exact sat_zr ⟨(lit_in rfl), hRI0, ⟨rfl, trivial⟩⟩
    · refine sat_ite (fun q_4 => ?_) (fun q_4 => ?_)
      · exact sat_zr ⟨(lit_in rfl), hRI0, ⟨rfl, trivial⟩⟩
      · refine sat_ite (fun q_5 => ?_) (fun q_5 => ?_)
        · exact sat_zr ⟨(lit_in rfl), hRI0, ⟨rfl, trivial⟩⟩
        · refine sat_zg (by first | omega | grind | grind [wr32]) (fun g_6 => ?_)
          have ⟨r_7a, r_7b⟩ : -2147483648 ≤ I0 (o0 + 9) a1.toNat ∧ I0 (o0 + 9) a1.toNat < 2147483648 := hRI0.1 (o0 + 9) a1.toNat
          refine sat_ite (fun q_8 => ?_) (fun q_8 => ?_)
          · refine sat_zb (ok_L_rowOf fu (o0 + 7) a1 a2 a3 I0 hfu hRI0 (by omega) ⟨aa1, ba1⟩ ⟨aa2, ba2⟩ ⟨aa3, ba3⟩) (fun y4 I5 c_9 ⟨⟨ay4, by4⟩, _, pI5⟩ => ?_)
            have eI5 := pI5.1.symm; replace pI5 := pI5.2; subst eI5
            exact sat_zr ⟨⟨ay4, by4⟩, hRI0, ⟨rfl, trivial⟩⟩
          · exact sat_zr ⟨(lit_in rfl), hRI0, ⟨rfl, trivial⟩⟩
theorem ok_S_image (fu : Nat) (o0 : Nat) (a1 : Int) (I0 : IMem) (hfu : 5000000000 < fu) (hRI0 : GC I0) (To0 : o0 = 0) (qa1 : inr a1) (h8 : I0 o0 8 = 0 ∨ I0 o0 8 = 1) : sat (f_S_image fu o0 a1 I0) (fun v I => inr v ∧ GC I ∧ (True)) := by
  unfold f_S_image
  obtain ⟨aa1, ba1⟩ := qa1
  refine sat_ite (fun q_1 => ?_) (fun q_1 => ?_)
  · have ⟨r_2a, r_2b⟩ : -2147483648 ≤ I0 o0 8 ∧ I0 o0 8 < 2147483648 := hRI0.1 o0 8
    refine sat_ite (fun q_3 => ?_) (fun q_3 => ?_)
    · refine sat_zg (by first | omega | grind | grind [wr32]) (fun g_4 => ?_)
      exact sat_zr ⟨(hRI0.1 o0 8), hRI0, trivial⟩
    · refine sat_zb (ok_H_copyFrom fu (o0 + 1) (o0 + 41) I0 hfu hRI0 (by omega) (by omega)) (fun u_5 I2 c_6 ⟨⟨au_5, bu_5⟩, hRI2, pI2⟩ => ?_)
      have fqI2 := congrFun (fr_H_copyFrom (fun q => q ≠ o0) fu (o0 + 1) (o0 + 41) I0 (fun q h1 h2 => by omega) (by omega) (by omega) (by omega) (by omega) (by omega) (by omega) (by omega) (by omega) (by omega) (by omega) (by omega) c_6 o0 (by simp)) 8
      refine sat_zb (ok_S_dropPicked fu o0 I2 hfu hRI2 (by omega)) (fun u_7 I5 c_8 ⟨⟨au_7, bu_7⟩, hRI5, pI5⟩ => ?_)
      have fqI5 := congrFun (fr_S_dropPicked (fun q => q ≠ o0) fu o0 I2 (by omega) (by omega) c_8 o0 (by simp)) 8
      have ⟨r_9a, r_9b⟩ : -2147483648 ≤ I5 o0 8 ∧ I5 o0 8 < 2147483648 := hRI5.1 o0 8
      refine sat_zg (by first | omega | grind | grind [wr32]) (fun g_10 => ?_)
      exact sat_zr ⟨(hRI5.1 o0 8), hRI5, trivial⟩
  · refine sat_zb (ok_H_copyFrom fu (o0 + 41) (o0 + 1) I0 hfu hRI0 (by omega) (by omega)) (fun u_11 I8 c_12 ⟨⟨au_11, bu_11⟩, hRI8, pI8⟩ => ?_)
    have fqI8 := congrFun (fr_H_copyFrom (fun q => q ≠ o0) fu (o0 + 41) (o0 + 1) I0 (fun q h1 h2 => by omega) (by omega) (by omega) (by omega) (by omega) (by omega) (by omega) (by omega) (by omega) (by omega) (by omega) (by omega) c_12 o0 (by simp)) 8
    refine sat_zwC hRI8 (lit_in rfl) (by first | omega | grind | grind [wr32]) (fun I10 eI10 hRI10 => ?_)
    have ⟨r_13a, r_13b⟩ : -2147483648 ≤ I10 o0 8 ∧ I10 o0 8 < 2147483648 := hRI10.1 o0 8
    refine sat_zg (by first | omega | grind | grind [wr32]) (fun g_14 => ?_)
    exact sat_zr ⟨(hRI10.1 o0 8), hRI10, trivial⟩
theorem ok_S_told (fu : Nat) (o0 : Nat) (a1 : Int) (I0 : IMem) (hfu : 5000000000 < fu) (hRI0 : GC I0) (To0 : o0 = 0) (qa1 : inr a1) : sat (f_S_told fu o0 a1 I0) (fun v I => inr v ∧ GC I ∧ (I = I0 ∧ (True))) := by
  unfold f_S_told
  obtain ⟨aa1, ba1⟩ := qa1
  refine sat_zj (fun k1 ek1 => ?_)
  have hk1 : ∀ (I2 : IMem), GC I2 → (I2 = I0 ∧ (True)) → sat (k1 I2) (fun v I => inr v ∧ GC I ∧ (I = I0 ∧ (True))) := by
    intro I2  hRI2 jk1
    subst ek1
    have ejk1 := jk1.1.symm; replace jk1 := jk1.2; subst ejk1
    refine sat_ite (fun q_1 => ?_) (fun q_1 => ?_)
    · have ⟨r_2a, r_2b⟩ : -2147483648 ≤ I0 (o0 + 137) 8 ∧ I0 (o0 + 137) 8 < 2147483648 := hRI0.1 (o0 + 137) 8
      exact sat_zr ⟨(hRI0.1 (o0 + 137) 8), hRI0, ⟨rfl, trivial⟩⟩
    · refine sat_ite (fun q_3 => ?_) (fun q_3 => ?_)
      · have ⟨r_4a, r_4b⟩ : -2147483648 ≤ I0 (o0 + 1) 7 ∧ I0 (o0 + 1) 7 < 2147483648 := hRI0.1 (o0 + 1) 7
        exact sat_zr ⟨(hRI0.1 (o0 + 1) 7), hRI0, ⟨rfl, trivial⟩⟩
      · refine sat_ite (fun q_5 => ?_) (fun q_5 => ?_)
        · have ⟨r_6a, r_6b⟩ : -2147483648 ≤ I0 (o0 + 1) 6 ∧ I0 (o0 + 1) 6 < 2147483648 := hRI0.1 (o0 + 1) 6
          exact sat_zr ⟨(hRI0.1 (o0 + 1) 6), hRI0, ⟨rfl, trivial⟩⟩
        · exact sat_zr ⟨(lit_in rfl), hRI0, ⟨rfl, trivial⟩⟩
  clear ek1
  refine sat_ite (fun q_7 => ?_) (fun q_7 => ?_)
  · exact hk1 I0 hRI0 ⟨rfl, trivial⟩
  · refine sat_ite (fun q_8 => ?_) (fun q_8 => ?_)
    · exact hk1 I0 hRI0 ⟨rfl, trivial⟩
    · refine sat_zg (by first | omega | grind | grind [wr32]) (fun g_9 => ?_)
      have ⟨r_10a, r_10b⟩ : -2147483648 ≤ I0 (o0 + 2) a1.toNat ∧ I0 (o0 + 2) a1.toNat < 2147483648 := hRI0.1 (o0 + 2) a1.toNat
      exact sat_zr ⟨(hRI0.1 (o0 + 2) a1.toNat), hRI0, ⟨rfl, trivial⟩⟩
