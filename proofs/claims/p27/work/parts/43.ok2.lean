/-! safety of the class -/
theorem ok_H_pastAt (fu : Nat) (a0 : Int) (I0 : IMem) (hfu : 5000000000 < fu) (hRI0 : GC I0) (qa0 : inr a0) : sat (f_H_pastAt fu a0 I0) (fun v I => inr v ∧ GC I ∧ (I = I0 ∧ (0 ≤ v ∧ v ≤ 177))) := by
  unfold f_H_pastAt
  obtain ⟨aa0, ba0⟩ := qa0
  refine sat_zb (ok_JM_floorMod fu a0 60 I0 hfu hRI0.1 ⟨aa0, ba0⟩ (lit_in rfl) (by first | omega | (simp (disch := omega) only [wr32_i2, wdiv_i2, wrem_i2]; omega) | grind | grind [wr32])) (fun y1 I2 c_1 ⟨⟨ay1, by1⟩, _, pI2⟩ => ?_)
  have eI2 := pI2.1.symm; replace pI2 := pI2.2; subst eI2
  exact sat_zr ⟨(wr32_in _), hRI0, ⟨rfl, (by first | omega | (simp (disch := omega) only [wr32_i2, wdiv_i2, wrem_i2]; omega) | grind | grind [wr32])⟩⟩
theorem ok_H_close (fu : Nat) (o0 : Nat) (a1 : Int) (a2 : Int) (I0 : IMem) (hfu : 5000000000 < fu) (hRI0 : GC I0) (To0 : o0 = 1 ∨ o0 = 41 ∨ o0 = 82) (qa1 : inr a1) (qa2 : inr a2) : sat (f_H_close fu o0 a1 a2 I0) (fun v I => inr v ∧ GC I ∧ (True)) := by
  unfold f_H_close
  obtain ⟨aa1, ba1⟩ := qa1
  obtain ⟨aa2, ba2⟩ := qa2
  have ⟨r_1a, r_1b⟩ : -2147483648 ≤ I0 (o0 + 10) 1 ∧ I0 (o0 + 10) 1 < 2147483648 := hRI0.1 (o0 + 10) 1
  refine sat_zwC hRI0 (wr32_in _) (by first | omega | (simp (disch := omega) only [wr32_i2, wdiv_i2, wrem_i2]; omega) | grind | grind [wr32]) (fun I1 eI1 hRI1 => ?_)
  have ⟨r_2a, r_2b⟩ : -2147483648 ≤ I1 (o0 + 10) 3 ∧ I1 (o0 + 10) 3 < 2147483648 := hRI1.1 (o0 + 10) 3
  have ⟨r_3a, r_3b⟩ : -2147483648 ≤ I1 (o0 + 1) 1 ∧ I1 (o0 + 1) 1 < 2147483648 := hRI1.1 (o0 + 1) 1
  refine sat_zwC hRI1 (wr32_in _) (by first | omega | (simp (disch := omega) only [wr32_i2, wdiv_i2, wrem_i2]; omega) | grind | grind [wr32]) (fun I2 eI2 hRI2 => ?_)
  refine sat_zj (fun k3 ek3 => ?_)
  have hk3 : ∀ (I4 : IMem), GC I4 → (True) → sat (k3 I4) (fun v I => inr v ∧ GC I ∧ (True)) := by
    intro I4  hRI4 jk3
    subst ek3
    refine sat_zwC hRI4 ⟨aa2, ba2⟩ (by first | omega | grind | grind [wr32]) (fun I5 eI5 hRI5 => ?_)
    refine sat_zwC hRI5 ⟨aa1, ba1⟩ (by first | omega | grind | grind [wr32]) (fun I6 eI6 hRI6 => ?_)
    have ⟨r_5a, r_5b⟩ : -2147483648 ≤ I6 (o0 + 10) 0 ∧ I6 (o0 + 10) 0 < 2147483648 := hRI6.1 (o0 + 10) 0
    refine sat_zb (ok_H_pastAt fu (I6 (o0 + 10) 0) I6 hfu hRI6 (hRI6.1 (o0 + 10) 0)) (fun y7 I8 c_4 ⟨⟨ay7, by7⟩, _, pI8⟩ => ?_)
    have eI8 := pI8.1.symm; replace pI8 := pI8.2; subst eI8
    refine sat_zg (by first | omega | grind | grind [wr32]) (fun g_6 => ?_)
    refine sat_zwC hRI6 ⟨aa1, ba1⟩ (by first | omega | grind | grind [wr32]) (fun I10 eI10 hRI10 => ?_)
    refine sat_zl (wr32_in _) (fun x12 hx12 ax12 bx12 => ?_)
    try simp (disch := omega) only [wr32_i2, wdiv_i2, wrem_i2] at hx12
    refine sat_zg (by first | omega | grind | grind [wr32]) (fun g_7 => ?_)
    refine sat_zwC hRI10 ⟨aa2, ba2⟩ (by first | omega | grind | grind [wr32]) (fun I11 eI11 hRI11 => ?_)
    refine sat_zl (wr32_in _) (fun x14 hx14 ax14 bx14 => ?_)
    try simp (disch := omega) only [wr32_i2, wdiv_i2, wrem_i2] at hx14
    refine sat_zg (by first | omega | grind | grind [wr32]) (fun g_8 => ?_)
    have ⟨r_9a, r_9b⟩ : -2147483648 ≤ I11 (o0 + 10) 3 ∧ I11 (o0 + 10) 3 < 2147483648 := hRI11.1 (o0 + 10) 3
    refine sat_zwC hRI11 (hRI11.1 (o0 + 10) 3) (by first | omega | grind | grind [wr32]) (fun I13 eI13 hRI13 => ?_)
    have ⟨r_10a, r_10b⟩ : -2147483648 ≤ I13 (o0 + 10) 0 ∧ I13 (o0 + 10) 0 < 2147483648 := hRI13.1 (o0 + 10) 0
    refine sat_zwC hRI13 (wr32_in _) (by first | omega | (simp (disch := omega) only [wr32_i2, wdiv_i2, wrem_i2]; omega) | grind | grind [wr32]) (fun I15 eI15 hRI15 => ?_)
    exact sat_zr ⟨(lit_in rfl), hRI15, trivial⟩
  clear ek3
  have ⟨r_11a, r_11b⟩ : -2147483648 ≤ I2 (o0 + 1) 3 ∧ I2 (o0 + 1) 3 < 2147483648 := hRI2.1 (o0 + 1) 3
  refine sat_ite (fun q_12 => ?_) (fun q_12 => ?_)
  · refine sat_zb (ok_H_draw fu o0 1000 I2 hfu hRI2 (by omega) (lit_in rfl)) (fun y16 I17 c_13 ⟨⟨ay16, by16⟩, hRI17, pI17⟩ => ?_)
    have ⟨r_14a, r_14b⟩ : -2147483648 ≤ I17 (o0 + 1) 3 ∧ I17 (o0 + 1) 3 < 2147483648 := hRI17.1 (o0 + 1) 3
    refine sat_ite (fun q_15 => ?_) (fun q_15 => ?_)
    · have ⟨r_16a, r_16b⟩ : -2147483648 ≤ I17 (o0 + 10) 3 ∧ I17 (o0 + 10) 3 < 2147483648 := hRI17.1 (o0 + 10) 3
      have ⟨r_17a, r_17b⟩ : -2147483648 ≤ I17 (o0 + 1) 2 ∧ I17 (o0 + 1) 2 < 2147483648 := hRI17.1 (o0 + 1) 2
      refine sat_zwC hRI17 (wr32_in _) (by first | omega | (simp (disch := omega) only [wr32_i2, wdiv_i2, wrem_i2]; omega) | grind | grind [wr32]) (fun I19 eI19 hRI19 => ?_)
      have ⟨r_18a, r_18b⟩ : -2147483648 ≤ I19 (o0 + 10) 4 ∧ I19 (o0 + 10) 4 < 2147483648 := hRI19.1 (o0 + 10) 4
      refine sat_zwC hRI19 (wr32_in _) (by first | omega | (simp (disch := omega) only [wr32_i2, wdiv_i2, wrem_i2]; omega) | grind | grind [wr32]) (fun I20 eI20 hRI20 => ?_)
      exact hk3 I20 hRI20 trivial
    · exact hk3 I17 hRI17 trivial
  · exact hk3 I2 hRI2 trivial
theorem ok_H_note (fu : Nat) (o0 : Nat) (a1 : Int) (a2 : Int) (a3 : Int) (I0 : IMem) (hfu : 5000000000 < fu) (hRI0 : GC I0) (To0 : o0 = 1 ∨ o0 = 41 ∨ o0 = 82) (qa1 : inr a1) (qa2 : inr a2) (qa3 : inr a3) : sat (f_H_note fu o0 a1 a2 a3 I0) (fun v I => inr v ∧ GC I ∧ (True)) := by
  unfold f_H_note
  obtain ⟨aa1, ba1⟩ := qa1
  obtain ⟨aa2, ba2⟩ := qa2
  obtain ⟨aa3, ba3⟩ := qa3
  refine sat_ite (fun q_1 => ?_) (fun q_1 => ?_)
  · exact sat_zr ⟨(lit_in rfl), hRI0, trivial⟩
  · refine sat_ite (fun q_2 => ?_) (fun q_2 => ?_)
    · refine sat_ite (fun q_3 => ?_) (fun q_3 => ?_)
      · exact sat_zr ⟨(lit_in rfl), hRI0, trivial⟩
      · refine sat_ite (fun q_4 => ?_) (fun q_4 => ?_)
        · exact sat_zr ⟨(lit_in rfl), hRI0, trivial⟩
        · refine sat_zb (ok_L_get fu (o0 + 6) a2 4 I0 hfu hRI0 (by omega) ⟨aa2, ba2⟩ (lit_in rfl)) (fun y1 I2 c_5 ⟨⟨ay1, by1⟩, _, pI2⟩ => ?_)
          have eI2 := pI2.1.symm; replace pI2 := pI2.2; subst eI2
          refine sat_zl (wr32_in _) (fun x4 hx4 ax4 bx4 => ?_)
          try simp (disch := omega) only [wr32_i2, wdiv_i2, wrem_i2] at hx4
          refine sat_zg (by first | omega | grind | grind [wr32]) (fun g_6 => ?_)
          refine sat_zg (by first | omega | grind | grind [wr32]) (fun g_7 => ?_)
          have ⟨r_8a, r_8b⟩ : -2147483648 ≤ I0 (o0 + 10) x4.toNat ∧ I0 (o0 + 10) x4.toNat < 2147483648 := hRI0.1 (o0 + 10) x4.toNat
          refine sat_zwC hRI0 (wr32_in _) (by first | omega | (simp (disch := omega) only [wr32_i2, wdiv_i2, wrem_i2]; omega) | grind | grind [wr32]) (fun I5 eI5 hRI5 => ?_)
          refine sat_zl (wr32_in _) (fun x6 hx6 ax6 bx6 => ?_)
          try simp (disch := omega) only [wr32_i2, wdiv_i2, wrem_i2] at hx6
          refine sat_zg (by first | omega | grind | grind [wr32]) (fun g_9 => ?_)
          refine sat_zg (by first | omega | grind | grind [wr32]) (fun g_10 => ?_)
          have ⟨r_11a, r_11b⟩ : -2147483648 ≤ I5 (o0 + 10) x6.toNat ∧ I5 (o0 + 10) x6.toNat < 2147483648 := hRI5.1 (o0 + 10) x6.toNat
          refine sat_zwC hRI5 (wr32_in _) (by first | omega | (simp (disch := omega) only [wr32_i2, wdiv_i2, wrem_i2]; omega) | grind | grind [wr32]) (fun I7 eI7 hRI7 => ?_)
          refine sat_zl (wr32_in _) (fun x8 hx8 ax8 bx8 => ?_)
          try simp (disch := omega) only [wr32_i2, wdiv_i2, wrem_i2] at hx8
          refine sat_zg (by first | omega | grind | grind [wr32]) (fun g_12 => ?_)
          have ⟨r_14a, r_14b⟩ : -2147483648 ≤ I7 (o0 + 10) x8.toNat ∧ I7 (o0 + 10) x8.toNat < 2147483648 := hRI7.1 (o0 + 10) x8.toNat
          refine sat_zb (ok_JM_max fu (I7 (o0 + 10) x8.toNat) y1 I7 hfu hRI7.1 (hRI7.1 (o0 + 10) x8.toNat) ⟨ay1, by1⟩) (fun y9 I10 c_13 ⟨⟨ay9, by9⟩, _, pI10⟩ => ?_)
          have eI10 := pI10.1.symm; replace pI10 := pI10.2; subst eI10
          refine sat_zl (wr32_in _) (fun x13 hx13 ax13 bx13 => ?_)
          try simp (disch := omega) only [wr32_i2, wdiv_i2, wrem_i2] at hx13
          refine sat_zg (by first | omega | grind | grind [wr32]) (fun g_15 => ?_)
          refine sat_zwC hRI7 ⟨ay9, by9⟩ (by first | omega | grind | grind [wr32]) (fun I12 eI12 hRI12 => ?_)
          have ⟨r_16a, r_16b⟩ : -2147483648 ≤ I12 (o0 + 10) 2 ∧ I12 (o0 + 10) 2 < 2147483648 := hRI12.1 (o0 + 10) 2
          refine sat_zwC hRI12 (wr32_in _) (by first | omega | (simp (disch := omega) only [wr32_i2, wdiv_i2, wrem_i2]; omega) | grind | grind [wr32]) (fun I14 eI14 hRI14 => ?_)
          refine sat_zb (ok_L_get fu (o0 + 6) a2 0 I14 hfu hRI14 (by omega) ⟨aa2, ba2⟩ (lit_in rfl)) (fun y15 I16 c_17 ⟨⟨ay15, by15⟩, _, pI16⟩ => ?_)
          have eI16 := pI16.1.symm; replace pI16 := pI16.2; subst eI16
          refine sat_zl (wr32_in _) (fun x19 hx19 ax19 bx19 => ?_)
          try simp (disch := omega) only [wr32_i2, wdiv_i2, wrem_i2] at hx19
          refine sat_zg (by first | omega | grind | grind [wr32]) (fun g_18 => ?_)
          refine sat_zwC hRI14 ⟨ay15, by15⟩ (by first | omega | grind | grind [wr32]) (fun I18 eI18 hRI18 => ?_)
          refine sat_zl (wr32_in _) (fun x21 hx21 ax21 bx21 => ?_)
          try simp (disch := omega) only [wr32_i2, wdiv_i2, wrem_i2] at hx21
          refine sat_zg (by first | omega | grind | grind [wr32]) (fun g_19 => ?_)
          refine sat_zwC hRI18 ⟨aa3, ba3⟩ (by first | omega | grind | grind [wr32]) (fun I20 eI20 hRI20 => ?_)
          exact sat_zr ⟨(lit_in rfl), hRI20, trivial⟩
    · exact sat_zr ⟨(lit_in rfl), hRI0, trivial⟩
theorem ok_L_put (fu : Nat) (o0 : Nat) (a1 : Int) (a2 : Int) (a3 : Int) (I0 : IMem) (hfu : 5000000000 < fu) (hRI0 : GC I0) (To0 : o0 = 7 ∨ o0 = 47 ∨ o0 = 88) (qa1 : inr a1) (qa2 : inr a2) (qa3 : inr a3) : sat (f_L_put fu o0 a1 a2 a3 I0) (fun v I => inr v ∧ GC I ∧ (True)) := by
  unfold f_L_put
  obtain ⟨aa1, ba1⟩ := qa1
  obtain ⟨aa2, ba2⟩ := qa2
  obtain ⟨aa3, ba3⟩ := qa3
  refine sat_zl (wr32_in _) (fun x1 hx1 ax1 bx1 => ?_)
  try simp (disch := omega) only [wr32_i2, wdiv_i2, wrem_i2] at hx1
  refine sat_ite (fun q_1 => ?_) (fun q_1 => ?_)
  · exact sat_zr ⟨(lit_in rfl), hRI0, trivial⟩
  · refine sat_ite (fun q_2 => ?_) (fun q_2 => ?_)
    · refine sat_zg (by first | omega | grind | grind [wr32]) (fun g_3 => ?_)
      refine sat_zwC hRI0 ⟨aa3, ba3⟩ (by first | omega | grind | grind [wr32]) (fun I2 eI2 hRI2 => ?_)
      exact sat_zr ⟨(lit_in rfl), hRI2, trivial⟩
    · exact sat_zr ⟨(lit_in rfl), hRI0, trivial⟩
theorem ok_L_rearmostSitting_9 {Ib : IMem} (fu : Nat) (o1 : Nat) (n1 : Nat) (p2 : Int) (hfu : 5000000000 < fu) (To1 : o1 ≠ 9 ∧ o1 ≠ 49 ∧ o1 ≠ 90) (hn1 : n1 < 1000000) (qp2 : inr p2) (hp2 : 0 ≤ p2 ∧ p2 < 6) {Q_ : Int → IMem → Prop} (hret : ∀ v I, inr v → GC I → (I = Ib ∧ (True)) → sat (zr v I) Q_) : ∀ (m : Nat) (w3 : Int) (I0 : IMem), inr w3 → GC I0 → (I0 = Ib ∧ (w3 < 40)) → (w3 + 1).toNat < m → sat (f_L_rearmostSitting_9 fu o1 n1 p2 m w3 I0) Q_ := by
  intro m
  induction m with
  | zero => intro w3 I0 _ _ _ h0; exact absurd h0 (Nat.not_lt_zero _)
  | succ m hR_ =>
    intro w3 I0 ⟨aw3, bw3⟩ hRI0 hinv hmeas
    have einv := hinv.1; replace hinv := hinv.2; subst einv
    show sat (fb_L_rearmostSitting_9 fu o1 n1 p2 (f_L_rearmostSitting_9 fu o1 n1 p2 m) w3 I0) Q_
    unfold fb_L_rearmostSitting_9
    obtain ⟨ap2, bp2⟩ := qp2
    refine sat_ite (fun q_1 => ?_) (fun q_1 => ?_)
    · exact hret _ _ (lit_in rfl) hRI0 ⟨rfl, trivial⟩
    · refine sat_zl (wr32_in _) (fun x2 hx2 ax2 bx2 => ?_)
      try simp (disch := omega) only [wr32_i2, wdiv_i2, wrem_i2] at hx2
      refine sat_zj (fun k3 ek3 => ?_)
      have hk3 : ∀ (I4 : IMem), GC I4 → (I4 = I0 ∧ (True)) → sat (k3 I4) Q_ := by
        intro I4  hRI4 jk3
        subst ek3
        have ejk3 := jk3.1.symm; replace jk3 := jk3.2; subst ejk3
        refine sat_zl (wr32_in _) (fun x5 hx5 ax5 bx5 => ?_)
        try simp (disch := omega) only [wr32_i2, wdiv_i2, wrem_i2] at hx5
        exact hR_ x5 I0 ⟨ax5, bx5⟩ hRI0 ⟨rfl, (by first | omega | (simp (disch := omega) only [wr32_i2, wdiv_i2, wrem_i2]; omega) | grind | grind [wr32])⟩ (by first | omega | (simp (disch := omega) only [wr32_i2, wdiv_i2, wrem_i2]; omega) | grind | grind [wr32])
      clear ek3
      refine sat_ite (fun q_2 => ?_) (fun q_2 => ?_)
      · refine sat_zg (by first | omega | grind | grind [wr32]) (fun g_3 => ?_)
        have ⟨r_4a, r_4b⟩ : -2147483648 ≤ I0 o1 x2.toNat ∧ I0 o1 x2.toNat < 2147483648 := hRI0.1 o1 x2.toNat
        refine sat_ite (fun q_5 => ?_) (fun q_5 => ?_)
        · exact hret _ _ ⟨aw3, bw3⟩ hRI0 ⟨rfl, trivial⟩
        · refine sat_zg (by first | omega | grind | grind [wr32]) (fun g_6 => ?_)
          refine sat_ite (fun q_7 => ?_) (fun q_7 => ?_)
          · exact hret _ _ ⟨aw3, bw3⟩ hRI0 ⟨rfl, trivial⟩
          · exact hk3 I0 hRI0 ⟨rfl, trivial⟩
      · exact hk3 I0 hRI0 ⟨rfl, trivial⟩
theorem ok_L_rearmostSitting (fu : Nat) (o0 : Nat) (o1 n1 : Nat) (a2 : Int) (I0 : IMem) (hfu : 5000000000 < fu) (hRI0 : GC I0) (To0 : o0 = 7 ∨ o0 = 47 ∨ o0 = 88) (To1 : o1 ≠ 9 ∧ o1 ≠ 49 ∧ o1 ≠ 90) (hn1 : n1 < 1000000) (qa2 : inr a2) (h2 : 0 ≤ a2 ∧ a2 < 6) : sat (f_L_rearmostSitting fu o0 o1 n1 a2 I0) (fun v I => inr v ∧ GC I ∧ (I = I0 ∧ (True))) := by
  unfold f_L_rearmostSitting
  obtain ⟨aa2, ba2⟩ := qa2
  refine sat_zg (by first | omega | grind | grind [wr32]) (fun g_1 => ?_)
  have ⟨r_2a, r_2b⟩ : -2147483648 ≤ I0 (o0 + 2) a2.toNat ∧ I0 (o0 + 2) a2.toNat < 2147483648 := hRI0.1 (o0 + 2) a2.toNat
  try have r_2c := ci_at hRI0 To0 (l := a2.toNat) (by omega)
  refine sat_zl (wr32_in _) (fun x1 hx1 ax1 bx1 => ?_)
  try simp (disch := omega) only [wr32_i2, wdiv_i2, wrem_i2] at hx1
  refine ok_L_rearmostSitting_9 (Ib := I0) fu o1 n1 a2 hfu (by omega) (by omega) ⟨aa2, ba2⟩ (by first | omega | (simp (disch := omega) only [wr32_i2, wdiv_i2, wrem_i2]; omega) | grind | grind [wr32]) (fun v I h1 h2 h3 => sat_zr ⟨h1, h2, ⟨h3.1, (by have h4 := h3.2; first | exact trivial | exact h4 | omega | grind)⟩⟩) fu x1 I0 ⟨ax1, bx1⟩ hRI0 ⟨rfl, (by first | omega | (simp (disch := omega) only [wr32_i2, wdiv_i2, wrem_i2]; omega) | grind | grind [wr32])⟩ (by first | omega | (simp (disch := omega) only [wr32_i2, wdiv_i2, wrem_i2]; omega) | grind | grind [wr32])
theorem ok_L_depart_21 (fu : Nat) (k_159 : Int → IMem → Res) (o0 : Nat) (o1 : Nat) (n1 : Nat) (p2 : Int) (p3 : Int) (hfu : 5000000000 < fu) (To0 : o0 = 7 ∨ o0 = 47 ∨ o0 = 88) (To1 : o1 ≠ 9 ∧ o1 ≠ 49 ∧ o1 ≠ 90) (hn1 : n1 < 1000000) (qp2 : inr p2) (qp3 : inr p3) (hp2 : 0 ≤ p2 ∧ p2 < 6) {Q_ : Int → IMem → Prop} (hk_159 : ∀ (z0 : Int) (I9 : IMem), inr z0 → GC I9 → (0 ≤ z0 ∧ z0 ≤ 40) → sat (k_159 z0 I9) Q_) (hret : ∀ v I, inr v → GC I → (True) → sat (zr v I) Q_) : ∀ (m : Nat) (w4 : Int) (w5 : Int) (I0 : IMem), inr w4 → inr w5 → GC I0 → (0 ≤ w4 ∧ w4 ≤ w5 ∧ w5 ≤ 40) → (40 - w5).toNat < m → sat (f_L_depart_21 fu k_159 o0 o1 n1 p2 p3 m w4 w5 I0) Q_ := by
  intro m
  induction m with
  | zero => intro w4 w5 I0 _ _ _ _ h0; exact absurd h0 (Nat.not_lt_zero _)
  | succ m hR_ =>
    intro w4 w5 I0 ⟨aw4, bw4⟩ ⟨aw5, bw5⟩ hRI0 hinv hmeas
    show sat (fb_L_depart_21 fu k_159 o0 o1 n1 p2 p3 (f_L_depart_21 fu k_159 o0 o1 n1 p2 p3 m) w4 w5 I0) Q_
    unfold fb_L_depart_21
    obtain ⟨ap2, bp2⟩ := qp2
    obtain ⟨ap3, bp3⟩ := qp3
    refine sat_zg (by first | omega | grind | grind [wr32]) (fun g_1 => ?_)
    have ⟨r_2a, r_2b⟩ : -2147483648 ≤ I0 (o0 + 2) p2.toNat ∧ I0 (o0 + 2) p2.toNat < 2147483648 := hRI0.1 (o0 + 2) p2.toNat
    try have r_2c := ci_at hRI0 To0 (l := p2.toNat) (by omega)
    refine sat_ite (fun q_3 => ?_) (fun q_3 => ?_)
    · refine sat_ite (fun q_4 => ?_) (fun q_4 => ?_)
      · refine sat_zl (wr32_in _) (fun x4 hx4 ax4 bx4 => ?_)
        try simp (disch := omega) only [wr32_i2, wdiv_i2, wrem_i2] at hx4
        refine sat_zj (fun k5 ek5 => ?_)
        have hk5 : ∀ (x7 : Int) (I6 : IMem), inr x7 → GC I6 → (I6 = I0 ∧ (True)) → sat (k5 x7 I6) Q_ := by
          intro x7 I6 ⟨ax7, bx7⟩ hRI6 jk5
          subst ek5
          have ejk5 := jk5.1.symm; replace jk5 := jk5.2; subst ejk5
          refine sat_zj (fun k8 ek8 => ?_)
          have hk8 : ∀ (x10 : Int) (I9 : IMem), inr x10 → GC I9 → (0 ≤ x10 ∧ x10 ≤ w5 + 1) → sat (k8 x10 I9) Q_ := by
            intro x10 I9 ⟨ax10, bx10⟩ hRI9 jk8
            subst ek8
            refine sat_zl (wr32_in _) (fun x11 hx11 ax11 bx11 => ?_)
            try simp (disch := omega) only [wr32_i2, wdiv_i2, wrem_i2] at hx11
            exact hR_ x10 x11 I9 ⟨ax10, bx10⟩ ⟨ax11, bx11⟩ hRI9 (by first | omega | (simp (disch := omega) only [wr32_i2, wdiv_i2, wrem_i2]; omega) | grind | grind [wr32]) (by first | omega | (simp (disch := omega) only [wr32_i2, wdiv_i2, wrem_i2]; omega) | grind | grind [wr32])
          clear ek8
          refine sat_zj (fun k12 ek12 => ?_)
          have hk12 : ∀ (I13 : IMem), GC I13 → (I13 = I0 ∧ (True)) → sat (k12 I13) Q_ := by
            intro I13  hRI13 jk12
            subst ek12
            have ejk12 := jk12.1.symm; replace jk12 := jk12.2; subst ejk12
            refine sat_zl (wr32_in _) (fun x14 hx14 ax14 bx14 => ?_)
            try simp (disch := omega) only [wr32_i2, wdiv_i2, wrem_i2] at hx14
            refine sat_zg (by first | omega | (simp (disch := omega) only [wr32_i2, wdiv_i2, wrem_i2]; omega) | grind | grind [wr32]) (fun g_5 => ?_)
            refine sat_zcC hRI0 (by omega) (fun I15 eI15 hRI15 => ?_)
            refine sat_zb (ok_L_get fu o0 x14 4 I15 hfu hRI15 (by omega) ⟨ax14, bx14⟩ (lit_in rfl)) (fun y16 I17 c_6 ⟨⟨ay16, by16⟩, _, pI17⟩ => ?_)
            have eI17 := pI17.1.symm; replace pI17 := pI17.2; subst eI17
            refine sat_zb (ok_L_put fu o0 x14 4 (wr32 (y16 + 1)) I15 hfu hRI15 (by omega) ⟨ax14, bx14⟩ (lit_in rfl) (wr32_in _)) (fun u_7 I20 c_8 ⟨⟨au_7, bu_7⟩, hRI20, pI20⟩ => ?_)
            refine sat_zb (ok_L_get fu o0 x14 5 I20 hfu hRI20 (by omega) ⟨ax14, bx14⟩ (lit_in rfl)) (fun y22 I23 c_9 ⟨⟨ay22, by22⟩, _, pI23⟩ => ?_)
            have eI23 := pI23.1.symm; replace pI23 := pI23.2; subst eI23
            refine sat_zj (fun k25 ek25 => ?_)
            have hk25 : ∀ (x27 : Int) (I26 : IMem), inr x27 → GC I26 → (I26 = I20 ∧ (True)) → sat (k25 x27 I26) Q_ := by
              intro x27 I26 ⟨ax27, bx27⟩ hRI26 jk25
              subst ek25
              have ejk25 := jk25.1.symm; replace jk25 := jk25.2; subst ejk25
              refine sat_zb (ok_L_put fu o0 x14 5 (wr32 (y22 + x27)) I20 hfu hRI20 (by omega) ⟨ax14, bx14⟩ (lit_in rfl) (wr32_in _)) (fun u_10 I29 c_11 ⟨⟨au_10, bu_10⟩, hRI29, pI29⟩ => ?_)
              refine sat_zl (wr32_in _) (fun x31 hx31 ax31 bx31 => ?_)
              try simp (disch := omega) only [wr32_i2, wdiv_i2, wrem_i2] at hx31
              exact hk8 x31 I29 ⟨ax31, bx31⟩ hRI29 (by first | omega | (simp (disch := omega) only [wr32_i2, wdiv_i2, wrem_i2]; omega) | grind | grind [wr32])
            clear ek25
            refine sat_ite (fun q_12 => ?_) (fun q_12 => ?_)
            · exact hk25 1 I20 (lit_in rfl) hRI20 ⟨rfl, trivial⟩
            · exact hk25 0 I20 (lit_in rfl) hRI20 ⟨rfl, trivial⟩
          clear ek12
          refine sat_ite (fun q_13 => ?_) (fun q_13 => ?_)
          · exact hk12 I0 hRI0 ⟨rfl, trivial⟩
          · refine sat_ite (fun q_14 => ?_) (fun q_14 => ?_)
            · exact hk12 I0 hRI0 ⟨rfl, trivial⟩
            · exact hk8 w4 I0 ⟨aw4, bw4⟩ hRI0 (by first | omega | (simp (disch := omega) only [wr32_i2, wdiv_i2, wrem_i2]; omega) | grind | grind [wr32])
        clear ek5
        refine sat_ite (fun q_15 => ?_) (fun q_15 => ?_)
        · refine sat_zg (by first | omega | grind | grind [wr32]) (fun g_16 => ?_)
          have ⟨r_17a, r_17b⟩ : -2147483648 ≤ I0 o1 x4.toNat ∧ I0 o1 x4.toNat < 2147483648 := hRI0.1 o1 x4.toNat
          exact hk5 (I0 o1 x4.toNat) I0 (hRI0.1 o1 x4.toNat) hRI0 ⟨rfl, trivial⟩
        · exact hk5 0 I0 (lit_in rfl) hRI0 ⟨rfl, trivial⟩
      · exact hk_159 w4 I0 ⟨aw4, bw4⟩ hRI0 (by first | omega | (simp (disch := omega) only [wr32_i2, wdiv_i2, wrem_i2]; omega) | grind | grind [wr32])
    · exact hk_159 w4 I0 ⟨aw4, bw4⟩ hRI0 (by first | omega | (simp (disch := omega) only [wr32_i2, wdiv_i2, wrem_i2]; omega) | grind | grind [wr32])
theorem ok_L_depart_2 (fu : Nat) (o0 : Nat) (o1 : Nat) (n1 : Nat) (hfu : 5000000000 < fu) (To0 : o0 = 7 ∨ o0 = 47 ∨ o0 = 88) (To1 : o1 ≠ 9 ∧ o1 ≠ 49 ∧ o1 ≠ 90) (hn1 : n1 < 1000000) {Q_ : Int → IMem → Prop} (hret : ∀ v I, inr v → GC I → (True) → sat (zr v I) Q_) : ∀ (m : Nat) (w2 : Int) (I0 : IMem), inr w2 → GC I0 → (0 ≤ w2) → (6 - w2).toNat < m → sat (f_L_depart_2 fu o0 o1 n1 m w2 I0) Q_ := by
  intro m
  induction m with
  | zero => intro w2 I0 _ _ _ h0; exact absurd h0 (Nat.not_lt_zero _)
  | succ m hR_ =>
    intro w2 I0 ⟨aw2, bw2⟩ hRI0 hinv hmeas
    show sat (fb_L_depart_2 fu o0 o1 n1 (f_L_depart_2 fu o0 o1 n1 m) w2 I0) Q_
    unfold fb_L_depart_2
    refine sat_ite (fun q_1 => ?_) (fun q_1 => ?_)
    · refine sat_zb (ok_L_rearmostSitting fu o0 o1 n1 w2 I0 hfu hRI0 (by omega) (by omega) (by omega) ⟨aw2, bw2⟩ (by first | omega | (simp (disch := omega) only [wr32_i2, wdiv_i2, wrem_i2]; omega) | grind | grind [wr32])) (fun y1 I2 c_2 ⟨⟨ay1, by1⟩, _, pI2⟩ => ?_)
      have eI2 := pI2.1.symm; replace pI2 := pI2.2; subst eI2
      refine ok_L_depart_21 fu _ o0 o1 n1 w2 y1 hfu (by omega) (by omega) (by omega) ⟨aw2, bw2⟩ ⟨ay1, by1⟩ (by first | omega | (simp (disch := omega) only [wr32_i2, wdiv_i2, wrem_i2]; omega) | grind | grind [wr32]) ?_ (fun v I h1 h2 h3 => hret v I h1 h2 (by first | exact trivial | exact h3 | grind)) fu 0 0 I0 (lit_in rfl) (lit_in rfl) hRI0 (by first | omega | (simp (disch := omega) only [wr32_i2, wdiv_i2, wrem_i2]; omega) | grind | grind [wr32]) (by first | omega | (simp (disch := omega) only [wr32_i2, wdiv_i2, wrem_i2]; omega) | grind | grind [wr32])
      · intro x33 I32 ⟨ax33, bx33⟩ hRI32 x_3
        refine sat_zg (by first | omega | grind | grind [wr32]) (fun g_4 => ?_)
        refine sat_zwC hRI32 ⟨ax33, bx33⟩ (by first | omega | grind | grind [wr32]) (fun I34 eI34 hRI34 => ?_)
        refine sat_zl (wr32_in _) (fun x35 hx35 ax35 bx35 => ?_)
        try simp (disch := omega) only [wr32_i2, wdiv_i2, wrem_i2] at hx35
        exact hR_ x35 I34 ⟨ax35, bx35⟩ hRI34 (by first | omega | (simp (disch := omega) only [wr32_i2, wdiv_i2, wrem_i2]; omega) | grind | grind [wr32]) (by first | omega | (simp (disch := omega) only [wr32_i2, wdiv_i2, wrem_i2]; omega) | grind | grind [wr32])
    · exact hret _ _ (lit_in rfl) hRI0 trivial
theorem ok_L_depart (fu : Nat) (o0 : Nat) (o1 n1 : Nat) (I0 : IMem) (hfu : 5000000000 < fu) (hRI0 : GC I0) (To0 : o0 = 7 ∨ o0 = 47 ∨ o0 = 88) (To1 : o1 ≠ 9 ∧ o1 ≠ 49 ∧ o1 ≠ 90) (hn1 : n1 < 1000000) : sat (f_L_depart fu o0 o1 n1 I0) (fun v I => inr v ∧ GC I ∧ (True)) := by
  unfold f_L_depart
  refine ok_L_depart_2 fu o0 o1 n1 hfu (by omega) (by omega) (by omega) (fun v I h1 h2 h3 => sat_zr ⟨h1, h2, (by first | exact trivial | exact h3 | grind)⟩) fu 0 I0 (lit_in rfl) hRI0 (by first | omega | (simp (disch := omega) only [wr32_i2, wdiv_i2, wrem_i2]; omega) | grind | grind [wr32]) (by first | omega | (simp (disch := omega) only [wr32_i2, wdiv_i2, wrem_i2]; omega) | grind | grind [wr32])
theorem ok_C_leave_9 (fu : Nat) (k_46 : IMem → Res) (o0 : Nat) (o1 : Nat) (p2 : Int) (hfu : 5000000000 < fu) (To0 : o0 = 122 ∨ o0 = 130 ∨ o0 = 137) (To1 : o1 = 1 ∨ o1 = 41 ∨ o1 = 82) (qp2 : inr p2) {Q_ : Int → IMem → Prop} (hk_46 : ∀ (I9 : IMem), GC I9 → (True) → sat (k_46 I9) Q_) (hret : ∀ v I, inr v → GC I → (True) → sat (zr v I) Q_) : ∀ (m : Nat) (w3 : Int) (I0 : IMem), inr w3 → GC I0 → (0 ≤ w3) → (2147483648 - w3).toNat < m → sat (f_C_leave_9 fu k_46 o0 o1 p2 m w3 I0) Q_ := by
  intro m
  induction m with
  | zero => intro w3 I0 _ _ _ h0; exact absurd h0 (Nat.not_lt_zero _)
  | succ m hR_ =>
    intro w3 I0 ⟨aw3, bw3⟩ hRI0 hinv hmeas
    show sat (fb_C_leave_9 fu k_46 o0 o1 p2 (f_C_leave_9 fu k_46 o0 o1 p2 m) w3 I0) Q_
    unfold fb_C_leave_9
    obtain ⟨ap2, bp2⟩ := qp2
    have ⟨r_1a, r_1b⟩ : -2147483648 ≤ I0 o0 8 ∧ I0 o0 8 < 2147483648 := hRI0.1 o0 8
    refine sat_ite (fun q_2 => ?_) (fun q_2 => ?_)
    · refine sat_ite (fun q_3 => ?_) (fun q_3 => ?_)
      · refine sat_zg (by first | omega | grind | grind [wr32]) (fun g_4 => ?_)
        refine sat_zg (by first | omega | grind | grind [wr32]) (fun g_5 => ?_)
        have ⟨r_8a, r_8b⟩ : -2147483648 ≤ I0 (o0 + 2) w3.toNat ∧ I0 (o0 + 2) w3.toNat < 2147483648 := hRI0.1 (o0 + 2) w3.toNat
        have ⟨r_9a, r_9b⟩ : -2147483648 ≤ I0 (o0 + 3) w3.toNat ∧ I0 (o0 + 3) w3.toNat < 2147483648 := hRI0.1 (o0 + 3) w3.toNat
        refine sat_zb (ok_H_note fu o1 w3 (I0 (o0 + 2) w3.toNat) (I0 (o0 + 3) w3.toNat) I0 hfu hRI0 (by omega) ⟨aw3, bw3⟩ (hRI0.1 (o0 + 2) w3.toNat) (hRI0.1 (o0 + 3) w3.toNat)) (fun u_6 I3 c_7 ⟨⟨au_6, bu_6⟩, hRI3, pI3⟩ => ?_)
        refine sat_zl (wr32_in _) (fun x5 hx5 ax5 bx5 => ?_)
        try simp (disch := omega) only [wr32_i2, wdiv_i2, wrem_i2] at hx5
        exact hR_ x5 I3 ⟨ax5, bx5⟩ hRI3 (by first | omega | (simp (disch := omega) only [wr32_i2, wdiv_i2, wrem_i2]; omega) | grind | grind [wr32]) (by first | omega | (simp (disch := omega) only [wr32_i2, wdiv_i2, wrem_i2]; omega) | grind | grind [wr32])
      · exact hk_46 I0 hRI0 trivial
    · exact hk_46 I0 hRI0 trivial
theorem ok_C_leave_59 (fu : Nat) (k_103 : IMem → Res) (o0 : Nat) (o1 : Nat) (p2 : Int) (hfu : 5000000000 < fu) (To0 : o0 = 122 ∨ o0 = 130 ∨ o0 = 137) (To1 : o1 = 1 ∨ o1 = 41 ∨ o1 = 82) (qp2 : inr p2) {Q_ : Int → IMem → Prop} (hk_103 : ∀ (I9 : IMem), GC I9 → (True) → sat (k_103 I9) Q_) (hret : ∀ v I, inr v → GC I → (True) → sat (zr v I) Q_) : ∀ (m : Nat) (w3 : Int) (I0 : IMem), inr w3 → GC I0 → (0 ≤ w3) → (2147483648 - w3).toNat < m → sat (f_C_leave_59 fu k_103 o0 o1 p2 m w3 I0) Q_ := by
  intro m
  induction m with
  | zero => intro w3 I0 _ _ _ h0; exact absurd h0 (Nat.not_lt_zero _)
  | succ m hR_ =>
    intro w3 I0 ⟨aw3, bw3⟩ hRI0 hinv hmeas
    show sat (fb_C_leave_59 fu k_103 o0 o1 p2 (f_C_leave_59 fu k_103 o0 o1 p2 m) w3 I0) Q_
    unfold fb_C_leave_59
    obtain ⟨ap2, bp2⟩ := qp2
    have ⟨r_1a, r_1b⟩ : -2147483648 ≤ I0 o0 9 ∧ I0 o0 9 < 2147483648 := hRI0.1 o0 9
    refine sat_ite (fun q_2 => ?_) (fun q_2 => ?_)
    · refine sat_zb (ok_L_append fu (o1 + 6) 0 (o0 + 4) 864 (wr32 (w3 * 6)) I0 hfu hRI0 (by omega) (by omega) (lit_in rfl) (by omega) (wr32_in _)) (fun y10 I11 c_3 ⟨⟨ay10, by10⟩, hRI11, pI11⟩ => ?_)
      refine sat_zj (fun k13 ek13 => ?_)
      have hk13 : ∀ (I14 : IMem), GC I14 → (True) → sat (k13 I14) Q_ := by
        intro I14  hRI14 jk13
        subst ek13
        refine sat_zl (wr32_in _) (fun x15 hx15 ax15 bx15 => ?_)
        try simp (disch := omega) only [wr32_i2, wdiv_i2, wrem_i2] at hx15
        exact hR_ x15 I14 ⟨ax15, bx15⟩ hRI14 (by first | omega | (simp (disch := omega) only [wr32_i2, wdiv_i2, wrem_i2]; omega) | grind | grind [wr32]) (by first | omega | (simp (disch := omega) only [wr32_i2, wdiv_i2, wrem_i2]; omega) | grind | grind [wr32])
      clear ek13
      refine sat_ite (fun q_4 => ?_) (fun q_4 => ?_)
      · have ⟨r_5a, r_5b⟩ : -2147483648 ≤ I11 (o1 + 10) 6 ∧ I11 (o1 + 10) 6 < 2147483648 := hRI11.1 (o1 + 10) 6
        refine sat_zwC hRI11 (wr32_in _) (by first | omega | (simp (disch := omega) only [wr32_i2, wdiv_i2, wrem_i2]; omega) | grind | grind [wr32]) (fun I16 eI16 hRI16 => ?_)
        exact hk13 I16 hRI16 trivial
      · exact hk13 I11 hRI11 trivial
    · exact hk_103 I0 hRI0 trivial
theorem ok_C_leave (fu : Nat) (o0 : Nat) (o1 : Nat) (I0 : IMem) (hfu : 5000000000 < fu) (hRI0 : GC I0) (To0 : o0 = 122 ∨ o0 = 130 ∨ o0 = 137) (To1 : o1 = 1 ∨ o1 = 41 ∨ o1 = 82) : sat (f_C_leave fu o0 o1 I0) (fun v I => inr v ∧ GC I ∧ (True)) := by
  unfold f_C_leave
  have ⟨r_1a, r_1b⟩ : -2147483648 ≤ I0 (o1 + 10) 2 ∧ I0 (o1 + 10) 2 < 2147483648 := hRI0.1 (o1 + 10) 2
  refine sat_zl (hRI0.1 (o1 + 10) 2) (fun x1 hx1 ax1 bx1 => ?_)
  refine ok_C_leave_9 fu _ o0 o1 x1 hfu (by omega) (by omega) ⟨ax1, bx1⟩ ?_ (fun v I h1 h2 h3 => sat_zr ⟨h1, h2, (by first | exact trivial | exact h3 | grind)⟩) fu 0 I0 (lit_in rfl) hRI0 (by first | omega | (simp (disch := omega) only [wr32_i2, wdiv_i2, wrem_i2]; omega) | grind | grind [wr32]) (by first | omega | (simp (disch := omega) only [wr32_i2, wdiv_i2, wrem_i2]; omega) | grind | grind [wr32])
  · intro I6  hRI6 x_2
    refine sat_zb (ok_L_depart fu (o1 + 6) (o0 + 1) 240 I6 hfu hRI6 (by omega) (by omega) (by omega)) (fun u_3 I8 c_4 ⟨⟨au_3, bu_3⟩, hRI8, pI8⟩ => ?_)
    refine ok_C_leave_59 fu _ o0 o1 x1 hfu (by omega) (by omega) ⟨ax1, bx1⟩ ?_ (fun v I h1 h2 h3 => sat_zr ⟨h1, h2, (by first | exact trivial | exact h3 | grind)⟩) fu 0 I8 (lit_in rfl) hRI8 (by first | omega | (simp (disch := omega) only [wr32_i2, wdiv_i2, wrem_i2]; omega) | grind | grind [wr32]) (by first | omega | (simp (disch := omega) only [wr32_i2, wdiv_i2, wrem_i2]; omega) | grind | grind [wr32])
    · intro I17  hRI17 x_5
      have ⟨r_8a, r_8b⟩ : -2147483648 ≤ I17 o0 7 ∧ I17 o0 7 < 2147483648 := hRI17.1 o0 7
      have ⟨r_9a, r_9b⟩ : -2147483648 ≤ I17 o0 8 ∧ I17 o0 8 < 2147483648 := hRI17.1 o0 8
      refine sat_zb (ok_H_close fu o1 (I17 o0 7) (I17 o0 8) I17 hfu hRI17 (by omega) (hRI17.1 o0 7) (hRI17.1 o0 8)) (fun u_6 I19 c_7 ⟨⟨au_6, bu_6⟩, hRI19, pI19⟩ => ?_)
      have ⟨r_10a, r_10b⟩ : -2147483648 ≤ I19 (o1 + 10) 2 ∧ I19 (o1 + 10) 2 < 2147483648 := hRI19.1 (o1 + 10) 2
      exact sat_zr ⟨(wr32_in _), hRI19, trivial⟩
theorem ok_S_dropPicked (fu : Nat) (o0 : Nat) (I0 : IMem) (hfu : 5000000000 < fu) (hRI0 : GC I0) (To0 : o0 = 0) : sat (f_S_dropPicked fu o0 I0) (fun v I => inr v ∧ GC I ∧ (True)) := by
  unfold f_S_dropPicked
  have ⟨r_3a, r_3b⟩ : -2147483648 ≤ I0 (o0 + 2) 0 ∧ I0 (o0 + 2) 0 < 2147483648 := hRI0.1 (o0 + 2) 0
  refine sat_zb (ok_C_clear fu (o0 + 137) (I0 (o0 + 2) 0) I0 hfu hRI0 (by omega) (hRI0.1 (o0 + 2) 0)) (fun u_1 I2 c_2 ⟨⟨au_1, bu_1⟩, hRI2, pI2⟩ => ?_)
  exact sat_zr ⟨(lit_in rfl), hRI2, trivial⟩
theorem ok_S_send (fu : Nat) (o0 : Nat) (I0 : IMem) (hfu : 5000000000 < fu) (hRI0 : GC I0) (To0 : o0 = 0) : sat (f_S_send fu o0 I0) (fun v I => inr v ∧ GC I ∧ (True)) := by
  unfold f_S_send
  refine sat_zb (ok_C_leave fu (o0 + 137) (o0 + 1) I0 hfu hRI0 (by omega) (by omega)) (fun y1 I2 c_1 ⟨⟨ay1, by1⟩, hRI2, pI2⟩ => ?_)
  refine sat_zb (ok_S_dropPicked fu o0 I2 hfu hRI2 (by omega)) (fun u_2 I5 c_3 ⟨⟨au_2, bu_2⟩, hRI5, pI5⟩ => ?_)
  exact sat_zr ⟨⟨ay1, by1⟩, hRI5, trivial⟩
theorem ok_C_findOut (fu : Nat) (o0 : Nat) (o1 : Nat) (a2 : Int) (I0 : IMem) (hfu : 5000000000 < fu) (hRI0 : GC I0) (To0 : o0 = 122 ∨ o0 = 130 ∨ o0 = 137) (To1 : o1 = 1 ∨ o1 = 41 ∨ o1 = 82) (qa2 : inr a2) : sat (f_C_findOut fu o0 o1 a2 I0) (fun v I => inr v ∧ GC I ∧ (True)) := by
  unfold f_C_findOut
  obtain ⟨aa2, ba2⟩ := qa2
  have ⟨r_1a, r_1b⟩ : -2147483648 ≤ I0 o0 9 ∧ I0 o0 9 < 2147483648 := hRI0.1 o0 9
  refine sat_zl (wr32_in _) (fun x1 hx1 ax1 bx1 => ?_)
  try simp (disch := omega) only [wr32_i2, wdiv_i2, wrem_i2] at hx1
  refine sat_ite (fun q_2 => ?_) (fun q_2 => ?_)
  · exact sat_zr ⟨(lit_in rfl), hRI0, trivial⟩
  · refine sat_ite (fun q_3 => ?_) (fun q_3 => ?_)
    · refine sat_ite (fun q_4 => ?_) (fun q_4 => ?_)
      · exact sat_zr ⟨(lit_in rfl), hRI0, trivial⟩
      · refine sat_ite (fun q_5 => ?_) (fun q_5 => ?_)
        · try simp (disch := omega) only [wr32_i2, wdiv_i2, wrem_i2] at q_5
          exact sat_zr ⟨(lit_in rfl), hRI0, trivial⟩
        · try simp (disch := omega) only [wr32_i2, wdiv_i2, wrem_i2] at q_5
          refine sat_zg (by first | omega | grind | grind [wr32]) (fun g_6 => ?_)
          refine sat_zwC hRI0 (lit_in rfl) (by first | omega | grind | grind [wr32]) (fun I2 eI2 hRI2 => ?_)
          refine sat_zg (by first | omega | (simp (disch := omega) only [wr32_i2, wdiv_i2, wrem_i2]; omega) | grind | grind [wr32]) (fun g_7 => ?_)
          refine sat_zcC hRI2 (by omega) (fun I3 eI3 hRI3 => ?_)
          refine sat_zl (wr32_in _) (fun x4 hx4 ax4 bx4 => ?_)
          try simp (disch := omega) only [wr32_i2, wdiv_i2, wrem_i2] at hx4
          refine sat_zg (by first | omega | grind | grind [wr32]) (fun g_8 => ?_)
          refine sat_zl (wr32_in _) (fun x6 hx6 ax6 bx6 => ?_)
          try simp (disch := omega) only [wr32_i2, wdiv_i2, wrem_i2] at hx6
          refine sat_zg (by first | omega | grind | grind [wr32]) (fun g_9 => ?_)
          have ⟨r_10a, r_10b⟩ : -2147483648 ≤ I3 (o0 + 4) x4.toNat ∧ I3 (o0 + 4) x4.toNat < 2147483648 := hRI3.1 (o0 + 4) x4.toNat
          refine sat_zwC hRI3 (hRI3.1 (o0 + 4) x4.toNat) (by first | omega | grind | grind [wr32]) (fun I5 eI5 hRI5 => ?_)
          have ⟨r_11a, r_11b⟩ : -2147483648 ≤ I5 o0 9 ∧ I5 o0 9 < 2147483648 := hRI5.1 o0 9
          refine sat_zwC hRI5 (wr32_in _) (by first | omega | (simp (disch := omega) only [wr32_i2, wdiv_i2, wrem_i2]; omega) | grind | grind [wr32]) (fun I7 eI7 hRI7 => ?_)
          have ⟨r_12a, r_12b⟩ : -2147483648 ≤ I7 (o1 + 10) 5 ∧ I7 (o1 + 10) 5 < 2147483648 := hRI7.1 (o1 + 10) 5
          refine sat_zwC hRI7 (wr32_in _) (by first | omega | (simp (disch := omega) only [wr32_i2, wdiv_i2, wrem_i2]; omega) | grind | grind [wr32]) (fun I8 eI8 hRI8 => ?_)
          exact sat_zr ⟨(lit_in rfl), hRI8, trivial⟩
    · exact sat_zr ⟨(lit_in rfl), hRI0, trivial⟩
theorem ok_C_fits (fu : Nat) (o0 : Nat) (o1 : Nat) (a2 : Int) (I0 : IMem) (hfu : 5000000000 < fu) (hRI0 : GC I0) (To0 : o0 = 122 ∨ o0 = 130 ∨ o0 = 137) (To1 : o1 = 1 ∨ o1 = 41 ∨ o1 = 82) (qa2 : inr a2) : sat (f_C_fits fu o0 o1 a2 I0) (fun v I => inr v ∧ GC I ∧ (I = I0 ∧ (True))) := by
  unfold f_C_fits
  obtain ⟨aa2, ba2⟩ := qa2
  refine sat_zb (ok_C_stands fu o0 a2 I0 hfu hRI0 (by omega) ⟨aa2, ba2⟩) (fun y1 I2 c_1 ⟨⟨ay1, by1⟩, _, pI2⟩ => ?_)
  have eI2 := pI2.1.symm; replace pI2 := pI2.2; subst eI2
  refine sat_ite (fun q_2 => ?_) (fun q_2 => ?_)
  · exact sat_zr ⟨(lit_in rfl), hRI0, ⟨rfl, trivial⟩⟩
  · have ⟨r_3a, r_3b⟩ : -2147483648 ≤ I0 o0 10 ∧ I0 o0 10 < 2147483648 := hRI0.1 o0 10
    refine sat_ite (fun q_4 => ?_) (fun q_4 => ?_)
    · refine sat_zb (ok_L_get fu (o1 + 6) a2 2 I0 hfu hRI0 (by omega) ⟨aa2, ba2⟩ (lit_in rfl)) (fun y4 I5 c_5 ⟨⟨ay4, by4⟩, _, pI5⟩ => ?_)
      have eI5 := pI5.1.symm; replace pI5 := pI5.2; subst eI5
      have ⟨r_6a, r_6b⟩ : -2147483648 ≤ I0 o0 7 ∧ I0 o0 7 < 2147483648 := hRI0.1 o0 7
      refine sat_ite (fun q_7 => ?_) (fun q_7 => ?_)
      · exact sat_zr ⟨(lit_in rfl), hRI0, ⟨rfl, trivial⟩⟩
      · refine sat_zb (ok_L_get fu (o1 + 6) a2 3 I0 hfu hRI0 (by omega) ⟨aa2, ba2⟩ (lit_in rfl)) (fun y7 I8 c_8 ⟨⟨ay7, by7⟩, _, pI8⟩ => ?_)
        have eI8 := pI8.1.symm; replace pI8 := pI8.2; subst eI8
        refine sat_zj (fun k10 ek10 => ?_)
        have hk10 : ∀ (I11 : IMem), GC I11 → (I11 = I0 ∧ (True)) → sat (k10 I11) (fun v I => inr v ∧ GC I ∧ (I = I0 ∧ (True))) := by
          intro I11  hRI11 jk10
          subst ek10
          have ejk10 := jk10.1.symm; replace jk10 := jk10.2; subst ejk10
          refine sat_ite (fun q_9 => ?_) (fun q_9 => ?_)
          · have ⟨r_10a, r_10b⟩ : -2147483648 ≤ I0 o0 8 ∧ I0 o0 8 < 2147483648 := hRI0.1 o0 8
            refine sat_ite (fun q_11 => ?_) (fun q_11 => ?_)
            · exact sat_zr ⟨(lit_in rfl), hRI0, ⟨rfl, trivial⟩⟩
            · exact sat_zr ⟨(lit_in rfl), hRI0, ⟨rfl, trivial⟩⟩
          · exact sat_zr ⟨(lit_in rfl), hRI0, ⟨rfl, trivial⟩⟩
        clear ek10
        refine sat_ite (fun q_12 => ?_) (fun q_12 => ?_)
        · have ⟨r_13a, r_13b⟩ : -2147483648 ≤ I0 o0 11 ∧ I0 o0 11 < 2147483648 := hRI0.1 o0 11
          refine sat_ite (fun q_14 => ?_) (fun q_14 => ?_)
          · exact sat_zr ⟨(lit_in rfl), hRI0, ⟨rfl, trivial⟩⟩
          · exact hk10 I0 hRI0 ⟨rfl, trivial⟩
        · exact hk10 I0 hRI0 ⟨rfl, trivial⟩
    · exact sat_zr ⟨(lit_in rfl), hRI0, ⟨rfl, trivial⟩⟩
theorem ok_C_mostPassed_17 {Ib : IMem} (fu : Nat) (o0 : Nat) (o1 : Nat) (p2 : Int) (hfu : 5000000000 < fu) (To0 : o0 = 122 ∨ o0 = 130 ∨ o0 = 137) (To1 : o1 = 1 ∨ o1 = 41 ∨ o1 = 82) (qp2 : inr p2) {Q_ : Int → IMem → Prop} (hret : ∀ v I, inr v → GC I → (I = Ib ∧ (True)) → sat (zr v I) Q_) : ∀ (m : Nat) (w3 : Int) (w4 : Int) (w5 : Int) (I0 : IMem), inr w3 → inr w4 → inr w5 → GC I0 → (I0 = Ib ∧ (0 ≤ w5)) → (2147483648 - w5).toNat < m → sat (f_C_mostPassed_17 fu o0 o1 p2 m w3 w4 w5 I0) Q_ := by
  intro m
  induction m with
  | zero => intro w3 w4 w5 I0 _ _ _ _ _ h0; exact absurd h0 (Nat.not_lt_zero _)
  | succ m hR_ =>
    intro w3 w4 w5 I0 ⟨aw3, bw3⟩ ⟨aw4, bw4⟩ ⟨aw5, bw5⟩ hRI0 hinv hmeas
    have einv := hinv.1; replace hinv := hinv.2; subst einv
    show sat (fb_C_mostPassed_17 fu o0 o1 p2 (f_C_mostPassed_17 fu o0 o1 p2 m) w3 w4 w5 I0) Q_
    unfold fb_C_mostPassed_17
    obtain ⟨ap2, bp2⟩ := qp2
    have ⟨r_1a, r_1b⟩ : -2147483648 ≤ I0 o0 5 ∧ I0 o0 5 < 2147483648 := hRI0.1 o0 5
    refine sat_ite (fun q_2 => ?_) (fun q_2 => ?_)
    · refine sat_ite (fun q_3 => ?_) (fun q_3 => ?_)
      · refine sat_ite (fun q_4 => ?_) (fun q_4 => ?_)
        · refine sat_zg (by first | omega | grind | grind [wr32]) (fun g_5 => ?_)
          have ⟨r_7a, r_7b⟩ : -2147483648 ≤ I0 (o0 + 5) w5.toNat ∧ I0 (o0 + 5) w5.toNat < 2147483648 := hRI0.1 (o0 + 5) w5.toNat
          refine sat_zb (ok_L_get fu (o1 + 6) (I0 (o0 + 5) w5.toNat) 5 I0 hfu hRI0 (by omega) (hRI0.1 (o0 + 5) w5.toNat) (lit_in rfl)) (fun y3 I4 c_6 ⟨⟨ay3, by3⟩, _, pI4⟩ => ?_)
          have eI4 := pI4.1.symm; replace pI4 := pI4.2; subst eI4
          refine sat_zj (fun k6 ek6 => ?_)
          have hk6 : ∀ (x8 : Int) (x9 : Int) (I7 : IMem), inr x8 → inr x9 → GC I7 → (I7 = I0 ∧ (True)) → sat (k6 x8 x9 I7) Q_ := by
            intro x8 x9 I7 ⟨ax8, bx8⟩ ⟨ax9, bx9⟩ hRI7 jk6
            subst ek6
            have ejk6 := jk6.1.symm; replace jk6 := jk6.2; subst ejk6
            refine sat_zl (wr32_in _) (fun x10 hx10 ax10 bx10 => ?_)
            try simp (disch := omega) only [wr32_i2, wdiv_i2, wrem_i2] at hx10
            exact hR_ x8 x9 x10 I0 ⟨ax8, bx8⟩ ⟨ax9, bx9⟩ ⟨ax10, bx10⟩ hRI0 ⟨rfl, (by first | omega | (simp (disch := omega) only [wr32_i2, wdiv_i2, wrem_i2]; omega) | grind | grind [wr32])⟩ (by first | omega | (simp (disch := omega) only [wr32_i2, wdiv_i2, wrem_i2]; omega) | grind | grind [wr32])
          clear ek6
          refine sat_ite (fun q_8 => ?_) (fun q_8 => ?_)
          · refine sat_zg (by first | omega | grind | grind [wr32]) (fun g_9 => ?_)
            refine sat_zb (ok_C_fits fu o0 o1 (I0 (o0 + 5) w5.toNat) I0 hfu hRI0 (by omega) (by omega) (hRI0.1 (o0 + 5) w5.toNat)) (fun y11 I12 c_10 ⟨⟨ay11, by11⟩, _, pI12⟩ => ?_)
            have eI12 := pI12.1.symm; replace pI12 := pI12.2; subst eI12
            refine sat_ite (fun q_11 => ?_) (fun q_11 => ?_)
            · exact hk6 w3 w4 I0 ⟨aw3, bw3⟩ ⟨aw4, bw4⟩ hRI0 ⟨rfl, trivial⟩
            · refine sat_zg (by first | omega | grind | grind [wr32]) (fun g_12 => ?_)
              refine sat_zl (hRI0.1 (o0 + 5) w5.toNat) (fun x14 hx14 ax14 bx14 => ?_)
              exact hk6 y3 x14 I0 ⟨ay3, by3⟩ ⟨ax14, bx14⟩ hRI0 ⟨rfl, trivial⟩
          · exact hk6 w3 w4 I0 ⟨aw3, bw3⟩ ⟨aw4, bw4⟩ hRI0 ⟨rfl, trivial⟩
        · exact hret _ _ ⟨aw4, bw4⟩ hRI0 ⟨rfl, trivial⟩
      · exact hret _ _ ⟨aw4, bw4⟩ hRI0 ⟨rfl, trivial⟩
    · exact hret _ _ ⟨aw4, bw4⟩ hRI0 ⟨rfl, trivial⟩
theorem ok_C_mostPassed (fu : Nat) (o0 : Nat) (o1 : Nat) (I0 : IMem) (hfu : 5000000000 < fu) (hRI0 : GC I0) (To0 : o0 = 122 ∨ o0 = 130 ∨ o0 = 137) (To1 : o1 = 1 ∨ o1 = 41 ∨ o1 = 82) : sat (f_C_mostPassed fu o0 o1 I0) (fun v I => inr v ∧ GC I ∧ (I = I0 ∧ (True))) := by
  unfold f_C_mostPassed
  have ⟨r_1a, r_1b⟩ : -2147483648 ≤ I0 (o1 + 1) 4 ∧ I0 (o1 + 1) 4 < 2147483648 := hRI0.1 (o1 + 1) 4
  refine sat_zl (hRI0.1 (o1 + 1) 4) (fun x1 hx1 ax1 bx1 => ?_)
  refine sat_zl (wr32_in _) (fun x2 hx2 ax2 bx2 => ?_)
  try simp (disch := omega) only [wr32_i2, wdiv_i2, wrem_i2] at hx2
  refine ok_C_mostPassed_17 (Ib := I0) fu o0 o1 x1 hfu (by omega) (by omega) ⟨ax1, bx1⟩ (fun v I h1 h2 h3 => sat_zr ⟨h1, h2, ⟨h3.1, (by have h4 := h3.2; first | exact trivial | exact h4 | omega | grind)⟩⟩) fu x2 ((-1)) 0 I0 ⟨ax2, bx2⟩ (lit_in rfl) (lit_in rfl) hRI0 ⟨rfl, (by first | omega | (simp (disch := omega) only [wr32_i2, wdiv_i2, wrem_i2]; omega) | grind | grind [wr32])⟩ (by first | omega | (simp (disch := omega) only [wr32_i2, wdiv_i2, wrem_i2]; omega) | grind | grind [wr32])
theorem ok_L_isPlainAndTrue (fu : Nat) (o0 : Nat) (a1 : Int) (I0 : IMem) (hfu : 5000000000 < fu) (hRI0 : GC I0) (To0 : o0 = 7 ∨ o0 = 47 ∨ o0 = 88) (qa1 : inr a1) : sat (f_L_isPlainAndTrue fu o0 a1 I0) (fun v I => inr v ∧ GC I ∧ (I = I0 ∧ (v = 0 ∨ v = 1))) := by
  unfold f_L_isPlainAndTrue
  obtain ⟨aa1, ba1⟩ := qa1
  refine sat_zb (ok_L_get fu o0 a1 3 I0 hfu hRI0 (by omega) ⟨aa1, ba1⟩ (lit_in rfl)) (fun y1 I2 c_1 ⟨⟨ay1, by1⟩, _, pI2⟩ => ?_)
  have eI2 := pI2.1.symm; replace pI2 := pI2.2; subst eI2
  refine sat_ite (fun q_2 => ?_) (fun q_2 => ?_)
  · refine sat_zb (ok_L_get fu o0 a1 2 I0 hfu hRI0 (by omega) ⟨aa1, ba1⟩ (lit_in rfl)) (fun y4 I5 c_3 ⟨⟨ay4, by4⟩, _, pI5⟩ => ?_)
    have eI5 := pI5.1.symm; replace pI5 := pI5.2; subst eI5
    refine sat_zb (ok_L_get fu o0 a1 1 I0 hfu hRI0 (by omega) ⟨aa1, ba1⟩ (lit_in rfl)) (fun y7 I8 c_4 ⟨⟨ay7, by7⟩, _, pI8⟩ => ?_)
    have eI8 := pI8.1.symm; replace pI8 := pI8.2; subst eI8
    refine sat_ite (fun q_5 => ?_) (fun q_5 => ?_)
    · exact sat_zr ⟨(lit_in rfl), hRI0, ⟨rfl, (by first | omega | (simp (disch := omega) only [wr32_i2, wdiv_i2, wrem_i2]; omega) | grind | grind [wr32])⟩⟩
    · exact sat_zr ⟨(lit_in rfl), hRI0, ⟨rfl, (by first | omega | (simp (disch := omega) only [wr32_i2, wdiv_i2, wrem_i2]; omega) | grind | grind [wr32])⟩⟩
  · exact sat_zr ⟨(lit_in rfl), hRI0, ⟨rfl, (by first | omega | (simp (disch := omega) only [wr32_i2, wdiv_i2, wrem_i2]; omega) | grind | grind [wr32])⟩⟩
theorem ok_C_partThatFits (fu : Nat) (o0 : Nat) (o1 : Nat) (a2 : Int) (I0 : IMem) (hfu : 5000000000 < fu) (hRI0 : GC I0) (To0 : o0 = 122 ∨ o0 = 130 ∨ o0 = 137) (To1 : o1 = 1 ∨ o1 = 41 ∨ o1 = 82) (qa2 : inr a2) : sat (f_C_partThatFits fu o0 o1 a2 I0) (fun v I => inr v ∧ GC I ∧ (I = I0 ∧ (True))) := by
  unfold f_C_partThatFits
  obtain ⟨aa2, ba2⟩ := qa2
  refine sat_zb (ok_L_get fu (o1 + 6) a2 1 I0 hfu hRI0 (by omega) ⟨aa2, ba2⟩ (lit_in rfl)) (fun y1 I2 c_1 ⟨⟨ay1, by1⟩, _, pI2⟩ => ?_)
  have eI2 := pI2.1.symm; replace pI2 := pI2.2; subst eI2
  have ⟨r_2a, r_2b⟩ : -2147483648 ≤ I0 o0 7 ∧ I0 o0 7 < 2147483648 := hRI0.1 o0 7
  refine sat_ite (fun q_3 => ?_) (fun q_3 => ?_)
  · refine sat_zb (ok_C_stands fu o0 a2 I0 hfu hRI0 (by omega) ⟨aa2, ba2⟩) (fun y4 I5 c_4 ⟨⟨ay4, by4⟩, _, pI5⟩ => ?_)
    have eI5 := pI5.1.symm; replace pI5 := pI5.2; subst eI5
    refine sat_ite (fun q_5 => ?_) (fun q_5 => ?_)
    · exact sat_zr ⟨(lit_in rfl), hRI0, ⟨rfl, trivial⟩⟩
    · refine sat_zb (ok_L_isPlainAndTrue fu (o1 + 6) a2 I0 hfu hRI0 (by omega) ⟨aa2, ba2⟩) (fun y7 I8 c_6 ⟨⟨ay7, by7⟩, _, pI8⟩ => ?_)
      have eI8 := pI8.1.symm; replace pI8 := pI8.2; subst eI8
      refine sat_ite (fun q_7 => ?_) (fun q_7 => ?_)
      · exact sat_zr ⟨(lit_in rfl), hRI0, ⟨rfl, trivial⟩⟩
      · refine sat_zj (fun k10 ek10 => ?_)
        have hk10 : ∀ (x12 : Int) (I11 : IMem), inr x12 → GC I11 → (I11 = I0 ∧ (True)) → sat (k10 x12 I11) (fun v I => inr v ∧ GC I ∧ (I = I0 ∧ (True))) := by
          intro x12 I11 ⟨ax12, bx12⟩ hRI11 jk10
          subst ek10
          have ejk10 := jk10.1.symm; replace jk10 := jk10.2; subst ejk10
          refine sat_ite (fun q_8 => ?_) (fun q_8 => ?_)
          · exact sat_zr ⟨(lit_in rfl), hRI0, ⟨rfl, trivial⟩⟩
          · refine sat_zb (ok_JM_max fu x12 (wr32 (y1 - x12)) I0 hfu hRI0.1 ⟨ax12, bx12⟩ (wr32_in _)) (fun y13 I14 c_9 ⟨⟨ay13, by13⟩, _, pI14⟩ => ?_)
            have eI14 := pI14.1.symm; replace pI14 := pI14.2; subst eI14
            refine sat_ite (fun q_10 => ?_) (fun q_10 => ?_)
            · refine sat_ite (fun q_11 => ?_) (fun q_11 => ?_)
              · try simp (disch := omega) only [wr32_i2, wdiv_i2, wrem_i2] at q_11
                exact sat_zr ⟨(lit_in rfl), hRI0, ⟨rfl, trivial⟩⟩
              · try simp (disch := omega) only [wr32_i2, wdiv_i2, wrem_i2] at q_11
                exact sat_zr ⟨(wr32_in _), hRI0, ⟨rfl, trivial⟩⟩
            · exact sat_zr ⟨⟨ay13, by13⟩, hRI0, ⟨rfl, trivial⟩⟩
        clear ek10
        refine sat_ite (fun q_12 => ?_) (fun q_12 => ?_)
        · exact hk10 0 I0 (lit_in rfl) hRI0 ⟨rfl, trivial⟩
        · refine sat_ite (fun q_13 => ?_) (fun q_13 => ?_)
          · exact hk10 0 I0 (lit_in rfl) hRI0 ⟨rfl, trivial⟩
          · refine sat_zg (by first | omega | grind | grind [wr32]) (fun g_14 => ?_)
            have ⟨r_15a, r_15b⟩ : -2147483648 ≤ I0 (o1 + 3) y1.toNat ∧ I0 (o1 + 3) y1.toNat < 2147483648 := hRI0.1 (o1 + 3) y1.toNat
            exact hk10 (I0 (o1 + 3) y1.toNat) I0 (hRI0.1 (o1 + 3) y1.toNat) hRI0 ⟨rfl, trivial⟩
  · exact sat_zr ⟨(lit_in rfl), hRI0, ⟨rfl, trivial⟩⟩
theorem ok_C_partOne_2 (fu : Nat) (k_71 : Int → Int → IMem → Res) (o0 : Nat) (o1 : Nat) (hfu : 5000000000 < fu) (To0 : o0 = 122 ∨ o0 = 130 ∨ o0 = 137) (To1 : o1 = 1 ∨ o1 = 41 ∨ o1 = 82) {Q_ : Int → IMem → Prop} (hk_71 : ∀ (z0 : Int) (z1 : Int) (I9 : IMem), inr z0 → inr z1 → GC I9 → (True) → sat (k_71 z0 z1 I9) Q_) (hret : ∀ v I, inr v → GC I → (True) → sat (zr v I) Q_) : ∀ (m : Nat) (w2 : Int) (I0 : IMem), inr w2 → GC I0 → (0 ≤ w2) → (2147483648 - w2).toNat < m → sat (f_C_partOne_2 fu k_71 o0 o1 m w2 I0) Q_ := by
  intro m
  induction m with
  | zero => intro w2 I0 _ _ _ h0; exact absurd h0 (Nat.not_lt_zero _)
  | succ m hR_ =>
    intro w2 I0 ⟨aw2, bw2⟩ hRI0 hinv hmeas
    show sat (fb_C_partOne_2 fu k_71 o0 o1 (f_C_partOne_2 fu k_71 o0 o1 m) w2 I0) Q_
    unfold fb_C_partOne_2
    have ⟨r_1a, r_1b⟩ : -2147483648 ≤ I0 o0 5 ∧ I0 o0 5 < 2147483648 := hRI0.1 o0 5
    refine sat_ite (fun q_2 => ?_) (fun q_2 => ?_)
    · refine sat_ite (fun q_3 => ?_) (fun q_3 => ?_)
      · have ⟨r_4a, r_4b⟩ : -2147483648 ≤ I0 o0 10 ∧ I0 o0 10 < 2147483648 := hRI0.1 o0 10
        refine sat_ite (fun q_5 => ?_) (fun q_5 => ?_)
        · refine sat_zg (by first | omega | grind | grind [wr32]) (fun g_6 => ?_)
          have ⟨r_7a, r_7b⟩ : -2147483648 ≤ I0 (o0 + 5) w2.toNat ∧ I0 (o0 + 5) w2.toNat < 2147483648 := hRI0.1 (o0 + 5) w2.toNat
          refine sat_zl (hRI0.1 (o0 + 5) w2.toNat) (fun x1 hx1 ax1 bx1 => ?_)
          refine sat_zb (ok_C_partThatFits fu o0 o1 x1 I0 hfu hRI0 (by omega) (by omega) ⟨ax1, bx1⟩) (fun y2 I3 c_8 ⟨⟨ay2, by2⟩, _, pI3⟩ => ?_)
          have eI3 := pI3.1.symm; replace pI3 := pI3.2; subst eI3
          refine sat_zj (fun k5 ek5 => ?_)
          have hk5 : ∀ (I6 : IMem), GC I6 → (True) → sat (k5 I6) Q_ := by
            intro I6  hRI6 jk5
            subst ek5
            refine sat_zl (wr32_in _) (fun x7 hx7 ax7 bx7 => ?_)
            try simp (disch := omega) only [wr32_i2, wdiv_i2, wrem_i2] at hx7
            exact hR_ x7 I6 ⟨ax7, bx7⟩ hRI6 (by first | omega | (simp (disch := omega) only [wr32_i2, wdiv_i2, wrem_i2]; omega) | grind | grind [wr32]) (by first | omega | (simp (disch := omega) only [wr32_i2, wdiv_i2, wrem_i2]; omega) | grind | grind [wr32])
          clear ek5
          refine sat_ite (fun q_9 => ?_) (fun q_9 => ?_)
          · have ⟨r_12a, r_12b⟩ : -2147483648 ≤ I0 o0 7 ∧ I0 o0 7 < 2147483648 := hRI0.1 o0 7
            have ⟨r_13a, r_13b⟩ : -2147483648 ≤ I0 o0 8 ∧ I0 o0 8 < 2147483648 := hRI0.1 o0 8
            refine sat_zb (ok_H_weigh fu o1 x1 (I0 o0 7) (I0 o0 8) I0 hfu hRI0 (by omega) ⟨ax1, bx1⟩ (hRI0.1 o0 7) (hRI0.1 o0 8)) (fun u_10 I9 c_11 ⟨⟨au_10, bu_10⟩, hRI9, pI9⟩ => ?_)
            refine sat_zb (ok_H_lawInForce fu o1 I9 hfu hRI9 (by omega)) (fun y11 I12 c_14 ⟨⟨ay11, by11⟩, _, pI12⟩ => ?_)
            have eI12 := pI12.1.symm; replace pI12 := pI12.2; subst eI12
            refine sat_zb (ok_W_value fu (y11.toNat) (o1 + 13) 16 I9 hfu hRI9 (by omega) (by omega) (by omega)) (fun y14 I15 c_15 ⟨⟨ay14, by14⟩, hRI15, pI15⟩ => ?_)
            refine sat_ite (fun q_16 => ?_) (fun q_16 => ?_)
            · exact hk_71 x1 y2 I15 ⟨ax1, bx1⟩ ⟨ay2, by2⟩ hRI15 trivial
            · exact hk5 I15 hRI15 trivial
          · exact hk5 I0 hRI0 trivial
        · exact hret _ _ (lit_in rfl) hRI0 trivial
      · exact hret _ _ (lit_in rfl) hRI0 trivial
    · exact hret _ _ (lit_in rfl) hRI0 trivial
theorem ok_C_partOne (fu : Nat) (o0 : Nat) (o1 : Nat) (I0 : IMem) (hfu : 5000000000 < fu) (hRI0 : GC I0) (To0 : o0 = 122 ∨ o0 = 130 ∨ o0 = 137) (To1 : o1 = 1 ∨ o1 = 41 ∨ o1 = 82) : sat (f_C_partOne fu o0 o1 I0) (fun v I => inr v ∧ GC I ∧ (True)) := by
  unfold f_C_partOne
  refine ok_C_partOne_2 fu _ o0 o1 hfu (by omega) (by omega) ?_ (fun v I h1 h2 h3 => sat_zr ⟨h1, h2, (by first | exact trivial | exact h3 | grind)⟩) fu 0 I0 (lit_in rfl) hRI0 (by first | omega | (simp (disch := omega) only [wr32_i2, wdiv_i2, wrem_i2]; omega) | grind | grind [wr32]) (by first | omega | (simp (disch := omega) only [wr32_i2, wdiv_i2, wrem_i2]; omega) | grind | grind [wr32])
  · intro x18 x19 I17 ⟨ax18, bx18⟩ ⟨ax19, bx19⟩ hRI17 x_1
    refine sat_zb (ok_L_get fu (o1 + 6) x18 1 I17 hfu hRI17 (by omega) ⟨ax18, bx18⟩ (lit_in rfl)) (fun y20 I21 c_2 ⟨⟨ay20, by20⟩, _, pI21⟩ => ?_)
    have eI21 := pI21.1.symm; replace pI21 := pI21.2; subst eI21
    refine sat_zl (wr32_in _) (fun x23 hx23 ax23 bx23 => ?_)
    try simp (disch := omega) only [wr32_i2, wdiv_i2, wrem_i2] at hx23
    refine sat_zb (ok_C_sit fu o0 x18 x19 0 3 I17 hfu hRI17 (by omega) ⟨ax18, bx18⟩ ⟨ax19, bx19⟩ (lit_in rfl) (lit_in rfl)) (fun u_3 I25 c_4 ⟨⟨au_3, bu_3⟩, hRI25, pI25⟩ => ?_)
    refine sat_zb (ok_L_put fu (o1 + 6) x18 1 x23 I25 hfu hRI25 (by omega) ⟨ax18, bx18⟩ (lit_in rfl) ⟨ax23, bx23⟩) (fun u_5 I28 c_6 ⟨⟨au_5, bu_5⟩, hRI28, pI28⟩ => ?_)
    refine sat_zb (ok_L_put fu (o1 + 6) x18 2 x23 I28 hfu hRI28 (by omega) ⟨ax18, bx18⟩ (lit_in rfl) ⟨ax23, bx23⟩) (fun u_7 I31 c_8 ⟨⟨au_7, bu_7⟩, hRI31, pI31⟩ => ?_)
    exact sat_zr ⟨(lit_in rfl), hRI31, trivial⟩
theorem ok_C_worthiest_14 (fu : Nat) (o0 : Nat) (o1 : Nat) (p2 : Int) (o3 : Nat) (hfu : 5000000000 < fu) (To0 : o0 = 122 ∨ o0 = 130 ∨ o0 = 137) (To1 : o1 = 1 ∨ o1 = 41 ∨ o1 = 82) (To3 : (16 ≤ o3 ∧ o3 ≤ 36) ∨ (56 ≤ o3 ∧ o3 ≤ 76) ∨ (97 ≤ o3 ∧ o3 ≤ 117) ∨ o3 = 149) (qp2 : inr p2) {Q_ : Int → IMem → Prop} (hret : ∀ v I, inr v → GC I → (True) → sat (zr v I) Q_) : ∀ (m : Nat) (w4 : Int) (w5 : Int) (w6 : Int) (I0 : IMem), inr w4 → inr w5 → inr w6 → GC I0 → (0 ≤ w6) → (2147483648 - w6).toNat < m → sat (f_C_worthiest_14 fu o0 o1 p2 o3 m w4 w5 w6 I0) Q_ := by
  intro m
  induction m with
  | zero => intro w4 w5 w6 I0 _ _ _ _ _ h0; exact absurd h0 (Nat.not_lt_zero _)
  | succ m hR_ =>
    intro w4 w5 w6 I0 ⟨aw4, bw4⟩ ⟨aw5, bw5⟩ ⟨aw6, bw6⟩ hRI0 hinv hmeas
    show sat (fb_C_worthiest_14 fu o0 o1 p2 o3 (f_C_worthiest_14 fu o0 o1 p2 o3 m) w4 w5 w6 I0) Q_
    unfold fb_C_worthiest_14
    obtain ⟨ap2, bp2⟩ := qp2
    have ⟨r_1a, r_1b⟩ : -2147483648 ≤ I0 o0 5 ∧ I0 o0 5 < 2147483648 := hRI0.1 o0 5
    refine sat_ite (fun q_2 => ?_) (fun q_2 => ?_)
    · refine sat_ite (fun q_3 => ?_) (fun q_3 => ?_)
      · refine sat_zg (by first | omega | grind | grind [wr32]) (fun g_4 => ?_)
        have ⟨r_6a, r_6b⟩ : -2147483648 ≤ I0 (o0 + 5) w6.toNat ∧ I0 (o0 + 5) w6.toNat < 2147483648 := hRI0.1 (o0 + 5) w6.toNat
        refine sat_zb (ok_C_fits fu o0 o1 (I0 (o0 + 5) w6.toNat) I0 hfu hRI0 (by omega) (by omega) (hRI0.1 (o0 + 5) w6.toNat)) (fun y4 I5 c_5 ⟨⟨ay4, by4⟩, _, pI5⟩ => ?_)
        have eI5 := pI5.1.symm; replace pI5 := pI5.2; subst eI5
        refine sat_zj (fun k7 ek7 => ?_)
        have hk7 : ∀ (x9 : Int) (x10 : Int) (I8 : IMem), inr x9 → inr x10 → GC I8 → (True) → sat (k7 x9 x10 I8) Q_ := by
          intro x9 x10 I8 ⟨ax9, bx9⟩ ⟨ax10, bx10⟩ hRI8 jk7
          subst ek7
          refine sat_zl (wr32_in _) (fun x11 hx11 ax11 bx11 => ?_)
          try simp (disch := omega) only [wr32_i2, wdiv_i2, wrem_i2] at hx11
          exact hR_ x9 x10 x11 I8 ⟨ax9, bx9⟩ ⟨ax10, bx10⟩ ⟨ax11, bx11⟩ hRI8 (by first | omega | (simp (disch := omega) only [wr32_i2, wdiv_i2, wrem_i2]; omega) | grind | grind [wr32]) (by first | omega | (simp (disch := omega) only [wr32_i2, wdiv_i2, wrem_i2]; omega) | grind | grind [wr32])
        clear ek7
        refine sat_ite (fun q_7 => ?_) (fun q_7 => ?_)
        · exact hk7 w4 w5 I0 ⟨aw4, bw4⟩ ⟨aw5, bw5⟩ hRI0 trivial
        · refine sat_zj (fun k12 ek12 => ?_)
          have hk12 : ∀ (I13 : IMem), GC I13 → (True) → sat (k12 I13) Q_ := by
            intro I13  hRI13 jk12
            subst ek12
            refine sat_zg (by first | omega | grind | grind [wr32]) (fun g_8 => ?_)
            have ⟨r_9a, r_9b⟩ : -2147483648 ≤ I13 (o0 + 6) w6.toNat ∧ I13 (o0 + 6) w6.toNat < 2147483648 := hRI13.1 (o0 + 6) w6.toNat
            refine sat_ite (fun q_10 => ?_) (fun q_10 => ?_)
            · refine sat_zg (by first | omega | grind | grind [wr32]) (fun g_11 => ?_)
              refine sat_zl (hRI13.1 (o0 + 6) w6.toNat) (fun x14 hx14 ax14 bx14 => ?_)
              refine sat_zg (by first | omega | grind | grind [wr32]) (fun g_12 => ?_)
              have ⟨r_13a, r_13b⟩ : -2147483648 ≤ I13 (o0 + 5) w6.toNat ∧ I13 (o0 + 5) w6.toNat < 2147483648 := hRI13.1 (o0 + 5) w6.toNat
              refine sat_zl (hRI13.1 (o0 + 5) w6.toNat) (fun x15 hx15 ax15 bx15 => ?_)
              exact hk7 x14 x15 I13 ⟨ax14, bx14⟩ ⟨ax15, bx15⟩ hRI13 trivial
            · exact hk7 w4 w5 I13 ⟨aw4, bw4⟩ ⟨aw5, bw5⟩ hRI13 trivial
          clear ek12
          refine sat_ite (fun q_14 => ?_) (fun q_14 => ?_)
          · exact hk12 I0 hRI0 trivial
          · refine sat_zg (by first | omega | grind | grind [wr32]) (fun g_15 => ?_)
            have ⟨r_18a, r_18b⟩ : -2147483648 ≤ I0 o0 7 ∧ I0 o0 7 < 2147483648 := hRI0.1 o0 7
            have ⟨r_19a, r_19b⟩ : -2147483648 ≤ I0 o0 8 ∧ I0 o0 8 < 2147483648 := hRI0.1 o0 8
            refine sat_zb (ok_H_weigh fu o1 (I0 (o0 + 5) w6.toNat) (I0 o0 7) (I0 o0 8) I0 hfu hRI0 (by omega) (hRI0.1 (o0 + 5) w6.toNat) (hRI0.1 o0 7) (hRI0.1 o0 8)) (fun u_16 I17 c_17 ⟨⟨au_16, bu_16⟩, hRI17, pI17⟩ => ?_)
            refine sat_zb (ok_W_value fu o3 (o1 + 13) 16 I17 hfu hRI17 (by omega) (by omega) (by omega)) (fun y19 I20 c_20 ⟨⟨ay19, by19⟩, hRI20, pI20⟩ => ?_)
            refine sat_zg (by first | omega | grind | grind [wr32]) (fun g_21 => ?_)
            refine sat_zwC hRI20 ⟨ay19, by19⟩ (by first | omega | grind | grind [wr32]) (fun I22 eI22 hRI22 => ?_)
            exact hk12 I22 hRI22 trivial
      · exact hret _ _ ⟨aw5, bw5⟩ hRI0 trivial
    · exact hret _ _ ⟨aw5, bw5⟩ hRI0 trivial
theorem ok_C_worthiest (fu : Nat) (o0 : Nat) (o1 : Nat) (a2 : Int) (I0 : IMem) (hfu : 5000000000 < fu) (hRI0 : GC I0) (To0 : o0 = 122 ∨ o0 = 130 ∨ o0 = 137) (To1 : o1 = 1 ∨ o1 = 41 ∨ o1 = 82) (qa2 : inr a2) : sat (f_C_worthiest fu o0 o1 a2 I0) (fun v I => inr v ∧ GC I ∧ (True)) := by
  unfold f_C_worthiest
  obtain ⟨aa2, ba2⟩ := qa2
  refine sat_zb (ok_H_lawInForce fu o1 I0 hfu hRI0 (by omega)) (fun y1 I2 c_1 ⟨⟨ay1, by1⟩, _, pI2⟩ => ?_)
  have eI2 := pI2.1.symm; replace pI2 := pI2.2; subst eI2
  refine ok_C_worthiest_14 fu o0 o1 a2 (y1.toNat) hfu (by omega) (by omega) (by omega) ⟨aa2, ba2⟩ (fun v I h1 h2 h3 => sat_zr ⟨h1, h2, (by first | exact trivial | exact h3 | grind)⟩) fu 0 ((-1)) 0 I0 (lit_in rfl) (lit_in rfl) (lit_in rfl) hRI0 (by first | omega | (simp (disch := omega) only [wr32_i2, wdiv_i2, wrem_i2]; omega) | grind | grind [wr32]) (by first | omega | (simp (disch := omega) only [wr32_i2, wdiv_i2, wrem_i2]; omega) | grind | grind [wr32])
theorem ok_L_listSeen_46 (fu : Nat) (k_79 : Int → IMem → Res) (o0 : Nat) (o1 : Nat) (n1 : Nat) (p2 : Int) (p4 : Int) (p5 : Int) (hfu : 5000000000 < fu) (To0 : o0 = 7 ∨ o0 = 47 ∨ o0 = 88) (To1 : o1 ≠ 9 ∧ o1 ≠ 49 ∧ o1 ≠ 90) (hn1 : n1 < 1000000) (qp2 : inr p2) (qp4 : inr p4) (qp5 : inr p5) {Q_ : Int → IMem → Prop} (hk_79 : ∀ (z0 : Int) (I9 : IMem), inr z0 → GC I9 → (0 ≤ z0) → sat (k_79 z0 I9) Q_) (hret : ∀ v I, inr v → GC I → (True) → sat (zr v I) Q_) : ∀ (m : Nat) (w3 : Int) (w6 : Int) (I0 : IMem), inr w3 → inr w6 → GC I0 → (0 ≤ w6 ∧ 0 ≤ w3) → (p5 - w6).toNat < m → sat (f_L_listSeen_46 fu k_79 o0 o1 n1 p2 p4 p5 m w3 w6 I0) Q_ := by
  intro m
  induction m with
  | zero => intro w3 w6 I0 _ _ _ _ h0; exact absurd h0 (Nat.not_lt_zero _)
  | succ m hR_ =>
    intro w3 w6 I0 ⟨aw3, bw3⟩ ⟨aw6, bw6⟩ hRI0 hinv hmeas
    show sat (fb_L_listSeen_46 fu k_79 o0 o1 n1 p2 p4 p5 (f_L_listSeen_46 fu k_79 o0 o1 n1 p2 p4 p5 m) w3 w6 I0) Q_
    unfold fb_L_listSeen_46
    obtain ⟨ap2, bp2⟩ := qp2
    obtain ⟨ap4, bp4⟩ := qp4
    obtain ⟨ap5, bp5⟩ := qp5
    refine sat_ite (fun q_1 => ?_) (fun q_1 => ?_)
    · refine sat_zj (fun k7 ek7 => ?_)
      have hk7 : ∀ (x9 : Int) (I8 : IMem), inr x9 → GC I8 → (0 ≤ x9) → sat (k7 x9 I8) Q_ := by
        intro x9 I8 ⟨ax9, bx9⟩ hRI8 jk7
        subst ek7
        refine sat_zl (wr32_in _) (fun x10 hx10 ax10 bx10 => ?_)
        try simp (disch := omega) only [wr32_i2, wdiv_i2, wrem_i2] at hx10
        exact hR_ x9 x10 I8 ⟨ax9, bx9⟩ ⟨ax10, bx10⟩ hRI8 (by first | omega | (simp (disch := omega) only [wr32_i2, wdiv_i2, wrem_i2]; omega) | grind | grind [wr32]) (by first | omega | (simp (disch := omega) only [wr32_i2, wdiv_i2, wrem_i2]; omega) | grind | grind [wr32])
      clear ek7
      refine sat_ite (fun q_2 => ?_) (fun q_2 => ?_)
      · refine sat_zg (by first | omega | grind | grind [wr32]) (fun g_3 => ?_)
        refine sat_zwC hRI0 (wr32_in _) (by first | omega | (simp (disch := omega) only [wr32_i2, wdiv_i2, wrem_i2]; omega) | grind | grind [wr32]) (fun I11 eI11 hRI11 => ?_)
        refine sat_zl (wr32_in _) (fun x12 hx12 ax12 bx12 => ?_)
        try simp (disch := omega) only [wr32_i2, wdiv_i2, wrem_i2] at hx12
        exact hk7 x12 I11 ⟨ax12, bx12⟩ hRI11 (by first | omega | (simp (disch := omega) only [wr32_i2, wdiv_i2, wrem_i2]; omega) | grind | grind [wr32])
      · exact hk7 w3 I0 ⟨aw3, bw3⟩ hRI0 (by first | omega | (simp (disch := omega) only [wr32_i2, wdiv_i2, wrem_i2]; omega) | grind | grind [wr32])
    · exact hk_79 w3 I0 ⟨aw3, bw3⟩ hRI0 (by first | omega | (simp (disch := omega) only [wr32_i2, wdiv_i2, wrem_i2]; omega) | grind | grind [wr32])
theorem ok_L_listSeen_5 (fu : Nat) (o0 : Nat) (o1 : Nat) (n1 : Nat) (p2 : Int) (hfu : 5000000000 < fu) (To0 : o0 = 7 ∨ o0 = 47 ∨ o0 = 88) (To1 : o1 ≠ 9 ∧ o1 ≠ 49 ∧ o1 ≠ 90) (hn1 : n1 < 1000000) (qp2 : inr p2) {Q_ : Int → IMem → Prop} (hret : ∀ v I, inr v → GC I → (True) → sat (zr v I) Q_) : ∀ (m : Nat) (w3 : Int) (w4 : Int) (I0 : IMem), inr w3 → inr w4 → GC I0 → (0 ≤ w4 ∧ 0 ≤ w3) → (6 - w4).toNat < m → sat (f_L_listSeen_5 fu o0 o1 n1 p2 m w3 w4 I0) Q_ := by
  intro m
  induction m with
  | zero => intro w3 w4 I0 _ _ _ _ h0; exact absurd h0 (Nat.not_lt_zero _)
  | succ m hR_ =>
    intro w3 w4 I0 ⟨aw3, bw3⟩ ⟨aw4, bw4⟩ hRI0 hinv hmeas
    show sat (fb_L_listSeen_5 fu o0 o1 n1 p2 (f_L_listSeen_5 fu o0 o1 n1 p2 m) w3 w4 I0) Q_
    unfold fb_L_listSeen_5
    obtain ⟨ap2, bp2⟩ := qp2
    refine sat_ite (fun q_1 => ?_) (fun q_1 => ?_)
    · refine sat_zg (by first | omega | grind | grind [wr32]) (fun g_2 => ?_)
      refine sat_zg (by first | omega | grind | grind [wr32]) (fun g_3 => ?_)
      refine sat_zj (fun k1 ek1 => ?_)
      have hk1 : ∀ (x3 : Int) (I2 : IMem), inr x3 → GC I2 → (I2 = I0 ∧ (True)) → sat (k1 x3 I2) Q_ := by
        intro x3 I2 ⟨ax3, bx3⟩ hRI2 jk1
        subst ek1
        have ejk1 := jk1.1.symm; replace jk1 := jk1.2; subst ejk1
        have ⟨r_5a, r_5b⟩ : -2147483648 ≤ I0 (o0 + 2) w4.toNat ∧ I0 (o0 + 2) w4.toNat < 2147483648 := hRI0.1 (o0 + 2) w4.toNat
        try have r_5c := ci_at hRI0 To0 (l := w4.toNat) (by omega)
        have ⟨r_6a, r_6b⟩ : -2147483648 ≤ I0 (o0 + 3) w4.toNat ∧ I0 (o0 + 3) w4.toNat < 2147483648 := hRI0.1 (o0 + 3) w4.toNat
        refine sat_zb (ok_JM_min fu (I0 (o0 + 2) w4.toNat) (wr32 ((I0 (o0 + 3) w4.toNat) + x3)) I0 hfu hRI0.1 (hRI0.1 (o0 + 2) w4.toNat) (wr32_in _)) (fun y4 I5 c_4 ⟨⟨ay4, by4⟩, _, pI5⟩ => ?_)
        have eI5 := pI5.1.symm; replace pI5 := pI5.2; subst eI5
        refine ok_L_listSeen_46 fu _ o0 o1 n1 p2 w4 y4 hfu (by omega) (by omega) (by omega) ⟨ap2, bp2⟩ ⟨aw4, bw4⟩ ⟨ay4, by4⟩ ?_ (fun v I h1 h2 h3 => hret v I h1 h2 (by first | exact trivial | exact h3 | grind)) fu w3 0 I0 ⟨aw3, bw3⟩ (lit_in rfl) hRI0 (by first | omega | (simp (disch := omega) only [wr32_i2, wdiv_i2, wrem_i2]; omega) | grind | grind [wr32]) (by first | omega | (simp (disch := omega) only [wr32_i2, wdiv_i2, wrem_i2]; omega) | grind | grind [wr32])
        · intro x14 I13 ⟨ax14, bx14⟩ hRI13 x_7
          refine sat_zl (wr32_in _) (fun x15 hx15 ax15 bx15 => ?_)
          try simp (disch := omega) only [wr32_i2, wdiv_i2, wrem_i2] at hx15
          exact hR_ x14 x15 I13 ⟨ax14, bx14⟩ ⟨ax15, bx15⟩ hRI13 (by first | omega | (simp (disch := omega) only [wr32_i2, wdiv_i2, wrem_i2]; omega) | grind | grind [wr32]) (by first | omega | (simp (disch := omega) only [wr32_i2, wdiv_i2, wrem_i2]; omega) | grind | grind [wr32])
      clear ek1
      refine sat_ite (fun q_8 => ?_) (fun q_8 => ?_)
      · exact hk1 1 I0 (lit_in rfl) hRI0 ⟨rfl, trivial⟩
      · exact hk1 0 I0 (lit_in rfl) hRI0 ⟨rfl, trivial⟩
    · exact hret _ _ ⟨aw3, bw3⟩ hRI0 trivial
theorem ok_L_listSeen (fu : Nat) (o0 : Nat) (o1 n1 : Nat) (a2 : Int) (I0 : IMem) (hfu : 5000000000 < fu) (hRI0 : GC I0) (To0 : o0 = 7 ∨ o0 = 47 ∨ o0 = 88) (To1 : o1 ≠ 9 ∧ o1 ≠ 49 ∧ o1 ≠ 90) (hn1 : n1 < 1000000) (qa2 : inr a2) : sat (f_L_listSeen fu o0 o1 n1 a2 I0) (fun v I => inr v ∧ GC I ∧ (True)) := by
  unfold f_L_listSeen
  obtain ⟨aa2, ba2⟩ := qa2
  refine ok_L_listSeen_5 fu o0 o1 n1 a2 hfu (by omega) (by omega) (by omega) ⟨aa2, ba2⟩ (fun v I h1 h2 h3 => sat_zr ⟨h1, h2, (by first | exact trivial | exact h3 | grind)⟩) fu 0 0 I0 (lit_in rfl) (lit_in rfl) hRI0 (by first | omega | (simp (disch := omega) only [wr32_i2, wdiv_i2, wrem_i2]; omega) | grind | grind [wr32]) (by first | omega | (simp (disch := omega) only [wr32_i2, wdiv_i2, wrem_i2]; omega) | grind | grind [wr32])
theorem ok_C_fill_30 (fu : Nat) (k_66 : IMem → Res) (k_127 : IMem → Res) (o0 : Nat) (o1 : Nat) (hfu : 5000000000 < fu) (To0 : o0 = 122 ∨ o0 = 130 ∨ o0 = 137) (To1 : o1 = 1 ∨ o1 = 41 ∨ o1 = 82) {Q_ : Int → IMem → Prop} (hk_66 : ∀ (I9 : IMem), GC I9 → (True) → sat (k_66 I9) Q_) (hk_127 : ∀ (I9 : IMem), GC I9 → (True) → sat (k_127 I9) Q_) (hret : ∀ v I, inr v → GC I → (True) → sat (zr v I) Q_) : ∀ (m : Nat) (w2 : Int) (w3 : Int) (I0 : IMem), inr w2 → inr w3 → GC I0 → (0 ≤ w3) → (145 - w3).toNat < m → sat (f_C_fill_30 fu k_66 k_127 o0 o1 m w2 w3 I0) Q_ := by
  intro m
  induction m with
  | zero => intro w2 w3 I0 _ _ _ _ h0; exact absurd h0 (Nat.not_lt_zero _)
  | succ m hR_ =>
    intro w2 w3 I0 ⟨aw2, bw2⟩ ⟨aw3, bw3⟩ hRI0 hinv hmeas
    show sat (fb_C_fill_30 fu k_66 k_127 o0 o1 (f_C_fill_30 fu k_66 k_127 o0 o1 m) w2 w3 I0) Q_
    unfold fb_C_fill_30
    refine sat_ite (fun q_1 => ?_) (fun q_1 => ?_)
    · exact hk_127 I0 hRI0 trivial
    · refine sat_zb (ok_C_mostPassed fu o0 o1 I0 hfu hRI0 (by omega) (by omega)) (fun y8 I9 c_2 ⟨⟨ay8, by8⟩, _, pI9⟩ => ?_)
      have eI9 := pI9.1.symm; replace pI9 := pI9.2; subst eI9
      refine sat_zj (fun k11 ek11 => ?_)
      have hk11 : ∀ (x13 : Int) (x14 : Int) (I12 : IMem), inr x13 → inr x14 → GC I12 → (True) → sat (k11 x13 x14 I12) Q_ := by
        intro x13 x14 I12 ⟨ax13, bx13⟩ ⟨ax14, bx14⟩ hRI12 jk11
        subst ek11
        refine sat_ite (fun q_3 => ?_) (fun q_3 => ?_)
        · exact hk_66 I12 hRI12 trivial
        · refine sat_zb (ok_L_get fu (o1 + 6) x14 1 I12 hfu hRI12 (by omega) ⟨ax14, bx14⟩ (lit_in rfl)) (fun y15 I16 c_4 ⟨⟨ay15, by15⟩, _, pI16⟩ => ?_)
          have eI16 := pI16.1.symm; replace pI16 := pI16.2; subst eI16
          refine sat_zj (fun k18 ek18 => ?_)
          have hk18 : ∀ (x20 : Int) (I19 : IMem), inr x20 → GC I19 → (True) → sat (k18 x20 I19) Q_ := by
            intro x20 I19 ⟨ax20, bx20⟩ hRI19 jk18
            subst ek18
            refine sat_zl (wr32_in _) (fun x21 hx21 ax21 bx21 => ?_)
            try simp (disch := omega) only [wr32_i2, wdiv_i2, wrem_i2] at hx21
            exact hR_ x20 x21 I19 ⟨ax20, bx20⟩ ⟨ax21, bx21⟩ hRI19 (by first | omega | (simp (disch := omega) only [wr32_i2, wdiv_i2, wrem_i2]; omega) | grind | grind [wr32]) (by first | omega | (simp (disch := omega) only [wr32_i2, wdiv_i2, wrem_i2]; omega) | grind | grind [wr32])
          clear ek18
          have ⟨r_5a, r_5b⟩ : -2147483648 ≤ I12 o0 7 ∧ I12 o0 7 < 2147483648 := hRI12.1 o0 7
          refine sat_ite (fun q_6 => ?_) (fun q_6 => ?_)
          · refine sat_zb (ok_C_findOut fu o0 o1 x14 I12 hfu hRI12 (by omega) (by omega) ⟨ax14, bx14⟩) (fun u_7 I29 c_8 ⟨⟨au_7, bu_7⟩, hRI29, pI29⟩ => ?_)
            exact hk18 x13 I29 ⟨ax13, bx13⟩ hRI29 trivial
          · refine sat_zb (ok_L_get fu (o1 + 6) x14 3 I12 hfu hRI12 (by omega) ⟨ax14, bx14⟩ (lit_in rfl)) (fun y22 I23 c_9 ⟨⟨ay22, by22⟩, _, pI23⟩ => ?_)
            have eI23 := pI23.1.symm; replace pI23 := pI23.2; subst eI23
            refine sat_zb (ok_C_sit fu o0 x14 y15 y22 1 I12 hfu hRI12 (by omega) ⟨ax14, bx14⟩ ⟨ay15, by15⟩ ⟨ay22, by22⟩ (lit_in rfl)) (fun u_10 I26 c_11 ⟨⟨au_10, bu_10⟩, hRI26, pI26⟩ => ?_)
            exact hk18 1 I26 (lit_in rfl) hRI26 trivial
      clear ek11
      refine sat_ite (fun q_12 => ?_) (fun q_12 => ?_)
      · refine sat_zb (ok_C_worthiest fu o0 o1 w2 I0 hfu hRI0 (by omega) (by omega) ⟨aw2, bw2⟩) (fun y31 I32 c_13 ⟨⟨ay31, by31⟩, hRI32, pI32⟩ => ?_)
        exact hk11 0 y31 I32 (lit_in rfl) ⟨ay31, by31⟩ hRI32 trivial
      · exact hk11 w2 y8 I0 ⟨aw2, bw2⟩ ⟨ay8, by8⟩ hRI0 trivial
theorem ok_C_fill (fu : Nat) (o0 : Nat) (o1 : Nat) (I0 : IMem) (hfu : 5000000000 < fu) (hRI0 : GC I0) (To0 : o0 = 122 ∨ o0 = 130 ∨ o0 = 137) (To1 : o1 = 1 ∨ o1 = 41 ∨ o1 = 82) : sat (f_C_fill fu o0 o1 I0) (fun v I => inr v ∧ GC I ∧ (True)) := by
  unfold f_C_fill
  have ⟨r_3a, r_3b⟩ : -2147483648 ≤ I0 (o1 + 1) 0 ∧ I0 (o1 + 1) 0 < 2147483648 := hRI0.1 (o1 + 1) 0
  refine sat_zb (ok_C_clear fu o0 (I0 (o1 + 1) 0) I0 hfu hRI0 (by omega) (hRI0.1 (o1 + 1) 0)) (fun u_1 I2 c_2 ⟨⟨au_1, bu_1⟩, hRI2, pI2⟩ => ?_)
  refine sat_zb (ok_L_listSeen fu (o1 + 6) (o0 + 5) 144 ((-1)) I2 hfu hRI2 (by omega) (by omega) (by omega) (lit_in rfl)) (fun y4 I5 c_4 ⟨⟨ay4, by4⟩, hRI5, pI5⟩ => ?_)
  refine sat_zwC hRI5 ⟨ay4, by4⟩ (by first | omega | grind | grind [wr32]) (fun I7 eI7 hRI7 => ?_)
  refine ok_C_fill_30 fu _ _ o0 o1 hfu (by omega) (by omega) ?_ ?_ (fun v I h1 h2 h3 => sat_zr ⟨h1, h2, (by first | exact trivial | exact h3 | grind)⟩) fu 1 0 I7 (lit_in rfl) (lit_in rfl) hRI7 (by first | omega | (simp (disch := omega) only [wr32_i2, wdiv_i2, wrem_i2]; omega) | grind | grind [wr32]) (by first | omega | (simp (disch := omega) only [wr32_i2, wdiv_i2, wrem_i2]; omega) | grind | grind [wr32])
  · intro I34  hRI34 x_5
    refine sat_zb (ok_C_partOne fu o0 o1 I34 hfu hRI34 (by omega) (by omega)) (fun u_6 I36 c_7 ⟨⟨au_6, bu_6⟩, hRI36, pI36⟩ => ?_)
    exact sat_zr ⟨(lit_in rfl), hRI36, trivial⟩
  · intro I38  hRI38 x_8
    refine sat_zb (ok_C_partOne fu o0 o1 I38 hfu hRI38 (by omega) (by omega)) (fun u_9 I40 c_10 ⟨⟨au_9, bu_9⟩, hRI40, pI40⟩ => ?_)
    exact sat_zr ⟨(lit_in rfl), hRI40, trivial⟩
theorem ok_C_ride (fu : Nat) (o0 : Nat) (o1 : Nat) (I0 : IMem) (hfu : 5000000000 < fu) (hRI0 : GC I0) (To0 : o0 = 122 ∨ o0 = 130 ∨ o0 = 137) (To1 : o1 = 1 ∨ o1 = 41 ∨ o1 = 82) : sat (f_C_ride fu o0 o1 I0) (fun v I => inr v ∧ GC I ∧ (True)) := by
  unfold f_C_ride
  refine sat_zb (ok_C_fill fu o0 o1 I0 hfu hRI0 (by omega) (by omega)) (fun u_1 I2 c_2 ⟨⟨au_1, bu_1⟩, hRI2, pI2⟩ => ?_)
  refine sat_zb (ok_C_leave fu o0 o1 I2 hfu hRI2 (by omega) (by omega)) (fun y4 I5 c_3 ⟨⟨ay4, by4⟩, hRI5, pI5⟩ => ?_)
  exact sat_zr ⟨⟨ay4, by4⟩, hRI5, trivial⟩
theorem ok_S_chair (fu : Nat) (o0 : Nat) (I0 : IMem) (hfu : 5000000000 < fu) (hRI0 : GC I0) (To0 : o0 = 0) : sat (f_S_chair fu o0 I0) (fun v I => inr v ∧ GC I ∧ (True)) := by
  unfold f_S_chair
  refine sat_zb (ok_S_dropPicked fu o0 I0 hfu hRI0 (by omega)) (fun u_1 I2 c_2 ⟨⟨au_1, bu_1⟩, hRI2, pI2⟩ => ?_)
  refine sat_zb (ok_C_ride fu (o0 + 130) (o0 + 1) I2 hfu hRI2 (by omega) (by omega)) (fun y4 I5 c_3 ⟨⟨ay4, by4⟩, hRI5, pI5⟩ => ?_)
  exact sat_zr ⟨⟨ay4, by4⟩, hRI5, trivial⟩
theorem ok_H_letComersEnter_2 (fu : Nat) (o0 : Nat) (hfu : 5000000000 < fu) (To0 : o0 = 1 ∨ o0 = 41 ∨ o0 = 82) {Q_ : Int → IMem → Prop} (hret : ∀ v I, inr v → GC I → (True) → sat (zr v I) Q_) : ∀ (m : Nat) (w1 : Int) (I0 : IMem), inr w1 → GC I0 → (0 ≤ w1 ∧ w1 ≤ 32) → (32 - w1).toNat < m → sat (f_H_letComersEnter_2 fu o0 m w1 I0) Q_ := by
  intro m
  induction m with
  | zero => intro w1 I0 _ _ _ h0; exact absurd h0 (Nat.not_lt_zero _)
  | succ m hR_ =>
    intro w1 I0 ⟨aw1, bw1⟩ hRI0 hinv hmeas
    show sat (fb_H_letComersEnter_2 fu o0 (f_H_letComersEnter_2 fu o0 m) w1 I0) Q_
    unfold fb_H_letComersEnter_2
    refine sat_ite (fun q_1 => ?_) (fun q_1 => ?_)
    · try simp (disch := omega) only [wr32_i2, wdiv_i2, wrem_i2] at q_1
      refine sat_zl (wr32_in _) (fun x1 hx1 ax1 bx1 => ?_)
      try simp (disch := omega) only [wr32_i2, wdiv_i2, wrem_i2] at hx1
      refine sat_zg (by first | omega | grind | grind [wr32]) (fun g_2 => ?_)
      have ⟨r_3a, r_3b⟩ : -2147483648 ≤ I0 (o0 + 4) x1.toNat ∧ I0 (o0 + 4) x1.toNat < 2147483648 := hRI0.1 (o0 + 4) x1.toNat
      refine sat_zl (hRI0.1 (o0 + 4) x1.toNat) (fun x2 hx2 ax2 bx2 => ?_)
      refine sat_zj (fun k3 ek3 => ?_)
      have hk3 : ∀ (I4 : IMem), GC I4 → (True) → sat (k3 I4) Q_ := by
        intro I4  hRI4 jk3
        subst ek3
        refine sat_zl (wr32_in _) (fun x5 hx5 ax5 bx5 => ?_)
        try simp (disch := omega) only [wr32_i2, wdiv_i2, wrem_i2] at hx5
        exact hR_ x5 I4 ⟨ax5, bx5⟩ hRI4 (by first | omega | (simp (disch := omega) only [wr32_i2, wdiv_i2, wrem_i2]; omega) | grind | grind [wr32]) (by first | omega | (simp (disch := omega) only [wr32_i2, wdiv_i2, wrem_i2]; omega) | grind | grind [wr32])
      clear ek3
      refine sat_ite (fun q_4 => ?_) (fun q_4 => ?_)
      · refine sat_zb (ok_H_draw fu o0 1000 I0 hfu hRI0 (by omega) (lit_in rfl)) (fun y6 I7 c_5 ⟨⟨ay6, by6⟩, hRI7, pI7⟩ => ?_)
        refine sat_ite (fun q_6 => ?_) (fun q_6 => ?_)
        · refine sat_zg (by first | omega | grind | grind [wr32]) (fun g_7 => ?_)
          refine sat_zl (wr32_in _) (fun x9 hx9 ax9 bx9 => ?_)
          try simp (disch := omega) only [wr32_i2, wdiv_i2, wrem_i2] at hx9
          refine sat_zg (by first | omega | grind | grind [wr32]) (fun g_8 => ?_)
          refine sat_zl (wr32_in _) (fun x10 hx10 ax10 bx10 => ?_)
          try simp (disch := omega) only [wr32_i2, wdiv_i2, wrem_i2] at hx10
          refine sat_zg (by first | omega | grind | grind [wr32]) (fun g_9 => ?_)
          have ⟨r_11a, r_11b⟩ : -2147483648 ≤ I7 (o0 + 4) w1.toNat ∧ I7 (o0 + 4) w1.toNat < 2147483648 := hRI7.1 (o0 + 4) w1.toNat
          have ⟨r_12a, r_12b⟩ : -2147483648 ≤ I7 (o0 + 4) x9.toNat ∧ I7 (o0 + 4) x9.toNat < 2147483648 := hRI7.1 (o0 + 4) x9.toNat
          have ⟨r_13a, r_13b⟩ : -2147483648 ≤ I7 (o0 + 4) x10.toNat ∧ I7 (o0 + 4) x10.toNat < 2147483648 := hRI7.1 (o0 + 4) x10.toNat
          refine sat_zb (ok_H_enter fu o0 (I7 (o0 + 4) w1.toNat) (I7 (o0 + 4) x9.toNat) (I7 (o0 + 4) x10.toNat) I7 hfu hRI7 (by omega) (hRI7.1 (o0 + 4) w1.toNat) (hRI7.1 (o0 + 4) x9.toNat) (hRI7.1 (o0 + 4) x10.toNat)) (fun y11 I12 c_10 ⟨⟨ay11, by11⟩, hRI12, pI12⟩ => ?_)
          exact hk3 I12 hRI12 trivial
        · exact hk3 I7 hRI7 trivial
      · exact hk3 I0 hRI0 trivial
    · try simp (disch := omega) only [wr32_i2, wdiv_i2, wrem_i2] at q_1
      exact hret _ _ (lit_in rfl) hRI0 trivial
theorem ok_H_letComersEnter (fu : Nat) (o0 : Nat) (I0 : IMem) (hfu : 5000000000 < fu) (hRI0 : GC I0) (To0 : o0 = 1 ∨ o0 = 41 ∨ o0 = 82) : sat (f_H_letComersEnter fu o0 I0) (fun v I => inr v ∧ GC I ∧ (True)) := by
  unfold f_H_letComersEnter
  refine ok_H_letComersEnter_2 fu o0 hfu (by omega) (fun v I h1 h2 h3 => sat_zr ⟨h1, h2, (by first | exact trivial | exact h3 | grind)⟩) fu 0 I0 (lit_in rfl) hRI0 (by first | omega | (simp (disch := omega) only [wr32_i2, wdiv_i2, wrem_i2]; omega) | grind | grind [wr32]) (by first | omega | (simp (disch := omega) only [wr32_i2, wdiv_i2, wrem_i2]; omega) | grind | grind [wr32])
