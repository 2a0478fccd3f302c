/-! safety of the reference -/
theorem ok_X_fits (fu : Nat) (o0 : Nat) (a1 : Int) (a2 : Int) (I0 : IMem) (hfu : 5000000000 < fu) (hRI0 : GX o0 I0) (qa1 : inr a1) (qa2 : inr a2) (h0 : 0 ≤ a1 ∧ a1 < 6 ∧ 0 ≤ a2 ∧ a2 < 40) : sat (f_X_fits fu o0 a1 a2 I0) (fun v I => inr v ∧ GX o0 I ∧ (I = I0 ∧ ((v = 0 ∨ v = 1) ∧ (v = 1 → I0 (o0 + 9) (40 * a1 + a2).toNat = 0 ∧ I0 (o0 + 12) (40 * a1 + a2).toNat = 0)))) := by
  unfold f_X_fits
  obtain ⟨aa1, ba1⟩ := qa1
  obtain ⟨aa2, ba2⟩ := qa2
  refine sat_zb (ok_X_isOpen fu o0 a1 a2 I0 hfu hRI0 ⟨aa1, ba1⟩ ⟨aa2, ba2⟩ (by first | omega | (simp (disch := omega) only [wr32_i2, wdiv_i2, wrem_i2]; omega) | grind | grind [wr32])) (fun y1 I2 c_1 ⟨⟨ay1, by1⟩, _, pI2⟩ => ?_)
  have eI2 := pI2.1.symm; replace pI2 := pI2.2; subst eI2
  refine sat_ite (fun q_2 => ?_) (fun q_2 => ?_)
  · exact sat_zr ⟨(lit_in rfl), hRI0, ⟨rfl, (by first | omega | (simp (disch := omega) only [wr32_i2, wdiv_i2, wrem_i2]; omega) | grind | grind [wr32])⟩⟩
  · refine sat_zb (ok_X_of fu o0 a1 a2 2 I0 hfu hRI0 ⟨aa1, ba1⟩ ⟨aa2, ba2⟩ (lit_in rfl) (by first | omega | (simp (disch := omega) only [wr32_i2, wdiv_i2, wrem_i2]; omega) | grind | grind [wr32])) (fun y4 I5 c_3 ⟨⟨ay4, by4⟩, _, pI5⟩ => ?_)
    have eI5 := pI5.1.symm; replace pI5 := pI5.2; subst eI5
    have ⟨r_4a, r_4b⟩ : -2147483648 ≤ I0 o0 30 ∧ I0 o0 30 < 2147483648 := hRI0.1 o0 30
    refine sat_ite (fun q_5 => ?_) (fun q_5 => ?_)
    · exact sat_zr ⟨(lit_in rfl), hRI0, ⟨rfl, (by first | omega | (simp (disch := omega) only [wr32_i2, wdiv_i2, wrem_i2]; omega) | grind | grind [wr32])⟩⟩
    · have ⟨r_6a, r_6b⟩ : -2147483648 ≤ I0 o0 33 ∧ I0 o0 33 < 2147483648 := hRI0.1 o0 33
      refine sat_ite (fun q_7 => ?_) (fun q_7 => ?_)
      · exact sat_zr ⟨(lit_in rfl), hRI0, ⟨rfl, (by first | omega | (simp (disch := omega) only [wr32_i2, wdiv_i2, wrem_i2]; omega) | grind | grind [wr32])⟩⟩
      · refine sat_zb (ok_X_of fu o0 a1 a2 3 I0 hfu hRI0 ⟨aa1, ba1⟩ ⟨aa2, ba2⟩ (lit_in rfl) (by first | omega | (simp (disch := omega) only [wr32_i2, wdiv_i2, wrem_i2]; omega) | grind | grind [wr32])) (fun y7 I8 c_8 ⟨⟨ay7, by7⟩, _, pI8⟩ => ?_)
        have eI8 := pI8.1.symm; replace pI8 := pI8.2; subst eI8
        refine sat_ite (fun q_9 => ?_) (fun q_9 => ?_)
        · have ⟨r_10a, r_10b⟩ : -2147483648 ≤ I0 o0 34 ∧ I0 o0 34 < 2147483648 := hRI0.1 o0 34
          refine sat_ite (fun q_11 => ?_) (fun q_11 => ?_)
          · exact sat_zr ⟨(lit_in rfl), hRI0, ⟨rfl, (by first | omega | (simp (disch := omega) only [wr32_i2, wdiv_i2, wrem_i2]; omega) | grind | grind [wr32])⟩⟩
          · exact sat_zr ⟨(lit_in rfl), hRI0, ⟨rfl, (by first | omega | (simp (disch := omega) only [wr32_i2, wdiv_i2, wrem_i2]; omega) | grind | grind [wr32])⟩⟩
        · refine sat_ite (fun q_12 => ?_) (fun q_12 => ?_)
          · have ⟨r_13a, r_13b⟩ : -2147483648 ≤ I0 o0 31 ∧ I0 o0 31 < 2147483648 := hRI0.1 o0 31
            refine sat_ite (fun q_14 => ?_) (fun q_14 => ?_)
            · exact sat_zr ⟨(lit_in rfl), hRI0, ⟨rfl, (by first | omega | (simp (disch := omega) only [wr32_i2, wdiv_i2, wrem_i2]; omega) | grind | grind [wr32])⟩⟩
            · exact sat_zr ⟨(lit_in rfl), hRI0, ⟨rfl, (by first | omega | (simp (disch := omega) only [wr32_i2, wdiv_i2, wrem_i2]; omega) | grind | grind [wr32])⟩⟩
          · exact sat_zr ⟨(lit_in rfl), hRI0, ⟨rfl, (by first | omega | (simp (disch := omega) only [wr32_i2, wdiv_i2, wrem_i2]; omega) | grind | grind [wr32])⟩⟩
theorem ok_X_finds_17 {Ib : IMem} (fu : Nat) (k_140 : Int → Int → IMem → Res) (o0 : Nat) (p1 : Int) (p4 : Int) (hfu : 5000000000 < fu) (qp1 : inr p1) (qp4 : inr p4) (hp4 : 0 ≤ p4 ∧ p4 < 6) {Q_ : Int → IMem → Prop} (hk_140 : ∀ (z0 : Int) (z1 : Int) (I9 : IMem), inr z0 → inr z1 → GX o0 I9 → ((∀ q j, ¬ (q = o0 + 7 ∨ (q = o0 + 8 ∧ j = 1) ∨ (q = o0 + 8 ∧ j = 2) ∨ (q = o0 + 8 ∧ j = 3) ∨ (q = o0 + 8 ∧ j = 4) ∨ (q = o0 + 8 ∧ j = 5) ∨ (q = o0 + 8 ∧ j = 6) ∨ (q = o0 + 8 ∧ j = 7) ∨ (q = o0 + 8 ∧ j = 8) ∨ (q = o0 + 8 ∧ j = 9)) → I9 q j = Ib q j) ∧ (OB o0 Ib z0)) → sat (k_140 z0 z1 I9) Q_) (hret : ∀ v I, inr v → GX o0 I → ((∀ q j, ¬ (q = o0 + 7 ∨ (q = o0 + 8 ∧ j = 1) ∨ (q = o0 + 8 ∧ j = 2) ∨ (q = o0 + 8 ∧ j = 3) ∨ (q = o0 + 8 ∧ j = 4) ∨ (q = o0 + 8 ∧ j = 5) ∨ (q = o0 + 8 ∧ j = 6) ∨ (q = o0 + 8 ∧ j = 7) ∨ (q = o0 + 8 ∧ j = 8) ∨ (q = o0 + 8 ∧ j = 9)) → I q j = Ib q j) ∧ (False)) → sat (zr v I) Q_) : ∀ (m : Nat) (w2 : Int) (w3 : Int) (w5 : Int) (I0 : IMem), inr w2 → inr w3 → inr w5 → GX o0 I0 → ((∀ q j, ¬ (q = o0 + 7 ∨ (q = o0 + 8 ∧ j = 1) ∨ (q = o0 + 8 ∧ j = 2) ∨ (q = o0 + 8 ∧ j = 3) ∨ (q = o0 + 8 ∧ j = 4) ∨ (q = o0 + 8 ∧ j = 5) ∨ (q = o0 + 8 ∧ j = 6) ∨ (q = o0 + 8 ∧ j = 7) ∨ (q = o0 + 8 ∧ j = 8) ∨ (q = o0 + 8 ∧ j = 9)) → I0 q j = Ib q j) ∧ (0 ≤ w5 ∧ OB o0 Ib w2)) → (2147483648 - w5).toNat < m → sat (f_X_finds_17 fu k_140 o0 p1 p4 m w2 w3 w5 I0) Q_ := by
  intro m
  induction m with
  | zero => intro w2 w3 w5 I0 _ _ _ _ _ h0; exact absurd h0 (Nat.not_lt_zero _)
  | succ m hR_ =>
    intro w2 w3 w5 I0 ⟨aw2, bw2⟩ ⟨aw3, bw3⟩ ⟨aw5, bw5⟩ hRI0 hinv hmeas
    have fI0 := hinv.1; replace hinv := hinv.2
    show sat (fb_X_finds_17 fu k_140 o0 p1 p4 (f_X_finds_17 fu k_140 o0 p1 p4 m) w2 w3 w5 I0) Q_
    unfold fb_X_finds_17
    obtain ⟨ap1, bp1⟩ := qp1
    obtain ⟨ap4, bp4⟩ := qp4
    refine sat_zl (wr32_in _) (fun x1 hx1 ax1 bx1 => ?_)
    try simp (disch := omega) only [wr32_i2, wdiv_i2, wrem_i2] at hx1
    refine sat_zg (by first | omega | grind | grind [wr32]) (fun g_1 => ?_)
    have ⟨r_2a, r_2b⟩ : -2147483648 ≤ I0 (o0 + 1) x1.toNat ∧ I0 (o0 + 1) x1.toNat < 2147483648 := hRI0.1 (o0 + 1) x1.toNat
    try have r_2many := gx_many hRI0 x1.toNat (by omega) (by omega)
    try have r_2seen := gx_seen hRI0 x1.toNat (by omega) (by omega)
    try have r_2part := gx_part hRI0 x1.toNat (by omega) (by omega)
    try have r_2rows := gx_rows hRI0 x1.toNat (by omega) (by omega) (by omega)
    refine sat_ite (fun q_3 => ?_) (fun q_3 => ?_)
    · refine sat_zb (ok_X_fits fu o0 p4 w5 I0 hfu hRI0 ⟨ap4, bp4⟩ ⟨aw5, bw5⟩ (by first | omega | (simp (disch := omega) only [wr32_i2, wdiv_i2, wrem_i2]; omega) | grind | grind [wr32])) (fun y2 I3 c_4 ⟨⟨ay2, by2⟩, _, pI3⟩ => ?_)
      have eI3 := pI3.1.symm; replace pI3 := pI3.2; subst eI3
      refine sat_zj (fun k5 ek5 => ?_)
      have hk5 : ∀ (x7 : Int) (x8 : Int) (I6 : IMem), inr x7 → inr x8 → GX o0 I6 → ((∀ q j, ¬ (q = o0 + 7 ∨ (q = o0 + 8 ∧ j = 1) ∨ (q = o0 + 8 ∧ j = 2) ∨ (q = o0 + 8 ∧ j = 3) ∨ (q = o0 + 8 ∧ j = 4) ∨ (q = o0 + 8 ∧ j = 5) ∨ (q = o0 + 8 ∧ j = 6) ∨ (q = o0 + 8 ∧ j = 7) ∨ (q = o0 + 8 ∧ j = 8) ∨ (q = o0 + 8 ∧ j = 9)) → I6 q j = I0 q j) ∧ (OB o0 Ib x7)) → sat (k5 x7 x8 I6) Q_ := by
        intro x7 x8 I6 ⟨ax7, bx7⟩ ⟨ax8, bx8⟩ hRI6 jk5
        subst ek5
        have fI6 := jk5.1; replace jk5 := jk5.2
        refine sat_zl (wr32_in _) (fun x9 hx9 ax9 bx9 => ?_)
        try simp (disch := omega) only [wr32_i2, wdiv_i2, wrem_i2] at hx9
        exact hR_ x7 x8 x9 I6 ⟨ax7, bx7⟩ ⟨ax8, bx8⟩ ⟨ax9, bx9⟩ hRI6 ⟨(by intro q j hq; grind), ⟨by omega, jk5⟩⟩ (by first | omega | (simp (disch := omega) only [wr32_i2, wdiv_i2, wrem_i2]; omega) | grind | grind [wr32])
      clear ek5
      refine sat_ite (fun q_5 => ?_) (fun q_5 => ?_)
      · exact hk5 w2 w3 I0 ⟨aw2, bw2⟩ ⟨aw3, bw3⟩ hRI0 ⟨(by intro q j hq; grind), (by first | exact hinv.2 | exact ob_new (l := p4) (p := w5) hx17 (by omega) (by omega) (by rw [← fI0 _ _ (by omega), show (130 + p4).toNat = x1.toNat by omega]; omega) (by rw [← fI0 _ _ (by omega), ← fI0 _ _ (by omega)]; exact pI3.2 (by omega)))⟩
      · refine sat_zj (fun k10 ek10 => ?_)
        have hk10 : ∀ (x12 : Int) (I11 : IMem), inr x12 → GX o0 I11 → ((∀ q j, ¬ (q = o0 + 7 ∨ (q = o0 + 8 ∧ j = 1) ∨ (q = o0 + 8 ∧ j = 2) ∨ (q = o0 + 8 ∧ j = 3) ∨ (q = o0 + 8 ∧ j = 4) ∨ (q = o0 + 8 ∧ j = 5) ∨ (q = o0 + 8 ∧ j = 6) ∨ (q = o0 + 8 ∧ j = 7) ∨ (q = o0 + 8 ∧ j = 8) ∨ (q = o0 + 8 ∧ j = 9)) → I11 q j = I0 q j) ∧ (True)) → sat (k10 x12 I11) Q_ := by
          intro x12 I11 ⟨ax12, bx12⟩ hRI11 jk10
          subst ek10
          have fI11 := jk10.1; replace jk10 := jk10.2
          refine sat_zj (fun k13 ek13 => ?_)
          have hk13 : ∀ (I14 : IMem), GX o0 I14 → (I14 = I11 ∧ (True)) → sat (k13 I14) Q_ := by
            intro I14  hRI14 jk13
            subst ek13
            have ejk13 := jk13.1.symm; replace jk13 := jk13.2; subst ejk13
            refine sat_zj (fun k15 ek15 => ?_)
            have hk15 : ∀ (I16 : IMem), GX o0 I16 → (I16 = I11 ∧ (True)) → sat (k15 I16) Q_ := by
              intro I16  hRI16 jk15
              subst ek15
              have ejk15 := jk15.1.symm; replace jk15 := jk15.2; subst ejk15
              refine sat_zl (wr32_in _) (fun x17 hx17 ax17 bx17 => ?_)
              try simp (disch := omega) only [wr32_i2, wdiv_i2, wrem_i2] at hx17
              exact hk5 x17 x12 I11 ⟨ax17, bx17⟩ ⟨ax12, bx12⟩ hRI11 ⟨(by intro q j hq; grind), (by first | exact hinv.2 | exact ob_new (l := p4) (p := w5) hx17 (by omega) (by omega) (by rw [← fI0 _ _ (by omega), show (130 + p4).toNat = x1.toNat by omega]; omega) (by rw [← fI0 _ _ (by omega), ← fI0 _ _ (by omega)]; exact pI3.2 (by omega)))⟩
            clear ek15
            refine sat_ite (fun q_6 => ?_) (fun q_6 => ?_)
            · exact hk15 I11 hRI11 ⟨rfl, trivial⟩
            · refine sat_ite (fun q_7 => ?_) (fun q_7 => ?_)
              · exact hk15 I11 hRI11 ⟨rfl, trivial⟩
              · exact hk5 w2 w3 I11 ⟨aw2, bw2⟩ ⟨aw3, bw3⟩ hRI11 ⟨(by intro q j hq; grind), (by first | exact hinv.2 | exact ob_new (l := p4) (p := w5) hx17 (by omega) (by omega) (by rw [← fI0 _ _ (by omega), show (130 + p4).toNat = x1.toNat by omega]; omega) (by rw [← fI0 _ _ (by omega), ← fI0 _ _ (by omega)]; exact pI3.2 (by omega)))⟩
          clear ek13
          refine sat_ite (fun q_8 => ?_) (fun q_8 => ?_)
          · refine sat_ite (fun q_9 => ?_) (fun q_9 => ?_)
            · exact hk5 w2 w3 I11 ⟨aw2, bw2⟩ ⟨aw3, bw3⟩ hRI11 ⟨(by intro q j hq; grind), (by first | exact hinv.2 | exact ob_new (l := p4) (p := w5) hx17 (by omega) (by omega) (by rw [← fI0 _ _ (by omega), show (130 + p4).toNat = x1.toNat by omega]; omega) (by rw [← fI0 _ _ (by omega), ← fI0 _ _ (by omega)]; exact pI3.2 (by omega)))⟩
            · exact hk13 I11 hRI11 ⟨rfl, trivial⟩
          · have ⟨r_10a, r_10b⟩ : -2147483648 ≤ I11 (o0 + 1) 5 ∧ I11 (o0 + 1) 5 < 2147483648 := hRI11.1 (o0 + 1) 5
            refine sat_ite (fun q_11 => ?_) (fun q_11 => ?_)
            · exact hk5 w2 w3 I11 ⟨aw2, bw2⟩ ⟨aw3, bw3⟩ hRI11 ⟨(by intro q j hq; grind), (by first | exact hinv.2 | exact ob_new (l := p4) (p := w5) hx17 (by omega) (by omega) (by rw [← fI0 _ _ (by omega), show (130 + p4).toNat = x1.toNat by omega]; omega) (by rw [← fI0 _ _ (by omega), ← fI0 _ _ (by omega)]; exact pI3.2 (by omega)))⟩
            · exact hk13 I11 hRI11 ⟨rfl, trivial⟩
        clear ek10
        refine sat_ite (fun q_12 => ?_) (fun q_12 => ?_)
        · have ⟨r_14a, r_14b⟩ : -2147483648 ≤ I0 o0 30 ∧ I0 o0 30 < 2147483648 := hRI0.1 o0 30
          have ⟨r_15a, r_15b⟩ : -2147483648 ≤ I0 o0 31 ∧ I0 o0 31 < 2147483648 := hRI0.1 o0 31
          refine sat_zb (ok_X_worth fu o0 p4 w5 (I0 o0 30) (I0 o0 31) I0 hfu hRI0 ⟨ap4, bp4⟩ ⟨aw5, bw5⟩ (hRI0.1 o0 30) (hRI0.1 o0 31) (by first | omega | (simp (disch := omega) only [wr32_i2, wdiv_i2, wrem_i2]; omega) | grind | grind [wr32])) (fun y18 I19 c_13 ⟨⟨ay18, by18⟩, hRI19, pI19⟩ => ?_)
          have fI19 : ∀ q j, ¬ (q = o0 + 7 ∨ (q = o0 + 8 ∧ j = 1) ∨ (q = o0 + 8 ∧ j = 2) ∨ (q = o0 + 8 ∧ j = 3) ∨ (q = o0 + 8 ∧ j = 4) ∨ (q = o0 + 8 ∧ j = 5) ∨ (q = o0 + 8 ∧ j = 6) ∨ (q = o0 + 8 ∧ j = 7) ∨ (q = o0 + 8 ∧ j = 8) ∨ (q = o0 + 8 ∧ j = 9)) → I19 q j = I0 q j := fc_X_worth (fun q j => q = o0 + 7 ∨ (q = o0 + 8 ∧ j = 1) ∨ (q = o0 + 8 ∧ j = 2) ∨ (q = o0 + 8 ∧ j = 3) ∨ (q = o0 + 8 ∧ j = 4) ∨ (q = o0 + 8 ∧ j = 5) ∨ (q = o0 + 8 ∧ j = 6) ∨ (q = o0 + 8 ∧ j = 7) ∨ (q = o0 + 8 ∧ j = 8) ∨ (q = o0 + 8 ∧ j = 9)) fu o0 p4 w5 (I0 o0 30) (I0 o0 31) I0 (fun _ => by simp) (by simp) (by simp) (by simp) (by simp) (by simp) (by simp) (by simp) (by simp) (by simp) c_13
          exact hk10 y18 I19 ⟨ay18, by18⟩ hRI19 ⟨(by intro q j hq; grind), trivial⟩
        · refine sat_zb (ok_X_of fu o0 p4 w5 5 I0 hfu hRI0 ⟨ap4, bp4⟩ ⟨aw5, bw5⟩ (lit_in rfl) (by first | omega | (simp (disch := omega) only [wr32_i2, wdiv_i2, wrem_i2]; omega) | grind | grind [wr32])) (fun y21 I22 c_16 ⟨⟨ay21, by21⟩, _, pI22⟩ => ?_)
          have eI22 := pI22.1.symm; replace pI22 := pI22.2; subst eI22
          exact hk10 y21 I0 ⟨ay21, by21⟩ hRI0 ⟨(by intro q j hq; grind), trivial⟩
    · exact hk_140 w2 w3 I0 ⟨aw2, bw2⟩ ⟨aw3, bw3⟩ hRI0 ⟨(by intro q j hq; grind), hinv.2⟩
theorem ok_X_finds_7 {Ib : IMem} (fu : Nat) (o0 : Nat) (p1 : Int) (hfu : 5000000000 < fu) (qp1 : inr p1) {Q_ : Int → IMem → Prop} (hret : ∀ v I, inr v → GX o0 I → ((∀ q j, ¬ (q = o0 + 7 ∨ (q = o0 + 8 ∧ j = 1) ∨ (q = o0 + 8 ∧ j = 2) ∨ (q = o0 + 8 ∧ j = 3) ∨ (q = o0 + 8 ∧ j = 4) ∨ (q = o0 + 8 ∧ j = 5) ∨ (q = o0 + 8 ∧ j = 6) ∨ (q = o0 + 8 ∧ j = 7) ∨ (q = o0 + 8 ∧ j = 8) ∨ (q = o0 + 8 ∧ j = 9)) → I q j = Ib q j) ∧ (OB o0 Ib v)) → sat (zr v I) Q_) : ∀ (m : Nat) (w2 : Int) (w3 : Int) (w4 : Int) (I0 : IMem), inr w2 → inr w3 → inr w4 → GX o0 I0 → ((∀ q j, ¬ (q = o0 + 7 ∨ (q = o0 + 8 ∧ j = 1) ∨ (q = o0 + 8 ∧ j = 2) ∨ (q = o0 + 8 ∧ j = 3) ∨ (q = o0 + 8 ∧ j = 4) ∨ (q = o0 + 8 ∧ j = 5) ∨ (q = o0 + 8 ∧ j = 6) ∨ (q = o0 + 8 ∧ j = 7) ∨ (q = o0 + 8 ∧ j = 8) ∨ (q = o0 + 8 ∧ j = 9)) → I0 q j = Ib q j) ∧ (0 ≤ w4 ∧ OB o0 Ib w2)) → (6 - w4).toNat < m → sat (f_X_finds_7 fu o0 p1 m w2 w3 w4 I0) Q_ := by
  intro m
  induction m with
  | zero => intro w2 w3 w4 I0 _ _ _ _ _ h0; exact absurd h0 (Nat.not_lt_zero _)
  | succ m hR_ =>
    intro w2 w3 w4 I0 ⟨aw2, bw2⟩ ⟨aw3, bw3⟩ ⟨aw4, bw4⟩ hRI0 hinv hmeas
    have fI0 := hinv.1; replace hinv := hinv.2
    show sat (fb_X_finds_7 fu o0 p1 (f_X_finds_7 fu o0 p1 m) w2 w3 w4 I0) Q_
    unfold fb_X_finds_7
    obtain ⟨ap1, bp1⟩ := qp1
    refine sat_ite (fun q_1 => ?_) (fun q_1 => ?_)
    · refine ok_X_finds_17 (Ib := I0) fu _ o0 p1 w4 hfu ⟨ap1, bp1⟩ ⟨aw4, bw4⟩ (by first | omega | (simp (disch := omega) only [wr32_i2, wdiv_i2, wrem_i2]; omega) | grind | grind [wr32]) ?_ (fun v I h1 h2 h3 => hret v I h1 h2 (by first | exact h3.elim | exact h3.2.elim)) fu w2 w3 0 I0 ⟨aw2, bw2⟩ ⟨aw3, bw3⟩ (lit_in rfl) hRI0 ⟨(fun _ _ _ => rfl), ⟨by omega, ob_fr hinv.2 (fun q j h7 h8 => fI0 q j (by omega))⟩⟩ (by first | omega | (simp (disch := omega) only [wr32_i2, wdiv_i2, wrem_i2]; omega) | grind | grind [wr32])
      · intro x25 x26 I24 ⟨ax25, bx25⟩ ⟨ax26, bx26⟩ hRI24 xI24
        have fI24 := xI24.1; replace xI24 := xI24.2
        refine sat_zl (wr32_in _) (fun x27 hx27 ax27 bx27 => ?_)
        try simp (disch := omega) only [wr32_i2, wdiv_i2, wrem_i2] at hx27
        exact hR_ x25 x26 x27 I24 ⟨ax25, bx25⟩ ⟨ax26, bx26⟩ ⟨ax27, bx27⟩ hRI24 ⟨(by intro q j hq; grind), ⟨by omega, ob_fr xI24 (fun q j h7 h8 => (fI0 q j (by omega)).symm)⟩⟩ (by first | omega | (simp (disch := omega) only [wr32_i2, wdiv_i2, wrem_i2]; omega) | grind | grind [wr32])
    · exact hret _ _ ⟨aw2, bw2⟩ hRI0 ⟨(by intro q j hq; exact fI0 q j hq), hinv.2⟩
theorem ok_X_finds (fu : Nat) (o0 : Nat) (a1 : Int) (I0 : IMem) (hfu : 5000000000 < fu) (hRI0 : GX o0 I0) (qa1 : inr a1) : sat (f_X_finds fu o0 a1 I0) (fun v I => inr v ∧ GX o0 I ∧ (OB o0 I0 v)) := by
  unfold f_X_finds
  obtain ⟨aa1, ba1⟩ := qa1
  refine ok_X_finds_7 (Ib := I0) fu o0 a1 hfu ⟨aa1, ba1⟩ (fun v I h1 h2 h3 => sat_zr ⟨h1, h2, (by first | exact trivial | exact h3 | grind)⟩) fu ((-1)) 0 0 I0 (lit_in rfl) (lit_in rfl) (lit_in rfl) hRI0 ⟨(fun _ _ _ => rfl), ⟨by omega, Or.inl rfl⟩⟩ (by first | omega | (simp (disch := omega) only [wr32_i2, wdiv_i2, wrem_i2]; omega) | grind | grind [wr32])
theorem ok_X_partOf (fu : Nat) (o0 : Nat) (a1 : Int) (I0 : IMem) (hfu : 5000000000 < fu) (hRI0 : GX o0 I0) (qa1 : inr a1) (h0 : 1 ≤ a1 ∧ a1 ≤ 8) : sat (f_X_partOf fu o0 a1 I0) (fun v I => inr v ∧ GX o0 I ∧ (I = I0 ∧ (v = pz (I0 (o0 + 1) (16 + a1).toNat) a1 (I0 o0 30) ∧ 0 ≤ v ∧ v ≤ a1 ∧ (v ≠ 0 → v ≤ I0 o0 30)))) := by
  unfold f_X_partOf
  obtain ⟨aa1, ba1⟩ := qa1
  refine sat_zl (wr32_in _) (fun x1 hx1 ax1 bx1 => ?_)
  try simp (disch := omega) only [wr32_i2, wdiv_i2, wrem_i2] at hx1
  refine sat_zg (by first | omega | grind | grind [wr32]) (fun g_1 => ?_)
  have ⟨r_2a, r_2b⟩ : -2147483648 ≤ I0 (o0 + 1) x1.toNat ∧ I0 (o0 + 1) x1.toNat < 2147483648 := hRI0.1 (o0 + 1) x1.toNat
  try have r_2many := gx_many hRI0 x1.toNat (by omega) (by omega)
  try have r_2seen := gx_seen hRI0 x1.toNat (by omega) (by omega)
  try have r_2part := gx_part hRI0 x1.toNat (by omega) (by omega)
  try have r_2rows := gx_rows hRI0 x1.toNat (by omega) (by omega) (by omega)
  refine sat_zl (hRI0.1 (o0 + 1) x1.toNat) (fun x2 hx2 ax2 bx2 => ?_)
  refine sat_zl (wr32_in _) (fun x3 hx3 ax3 bx3 => ?_)
  try simp (disch := omega) only [wr32_i2, wdiv_i2, wrem_i2] at hx3
  refine sat_ite (fun q_3 => ?_) (fun q_3 => ?_)
  · exact sat_zr ⟨(lit_in rfl), hRI0, (by refine ⟨rfl, ?_, by omega, by omega, by omega⟩; rw [← hx1]; unfold pz; repeat (any_goals split); all_goals omega)⟩
  · refine sat_zj (fun k4 ek4 => ?_)
    have hk4 : ∀ (x6 : Int) (I5 : IMem), inr x6 → GX o0 I5 → (I5 = I0 ∧ ((x2 ≤ I0 o0 30 → x6 = x2) ∧ (I0 o0 30 < x2 → x6 = 0))) → sat (k4 x6 I5) (fun v I => inr v ∧ GX o0 I ∧ (I = I0 ∧ (v = pz (I0 (o0 + 1) (16 + a1).toNat) a1 (I0 o0 30) ∧ 0 ≤ v ∧ v ≤ a1 ∧ (v ≠ 0 → v ≤ I0 o0 30)))) := by
      intro x6 I5 ⟨ax6, bx6⟩ hRI5 jk4
      subst ek4
      have ejk4 := jk4.1.symm; replace jk4 := jk4.2; subst ejk4
      have ⟨r_4a, r_4b⟩ : -2147483648 ≤ I0 o0 30 ∧ I0 o0 30 < 2147483648 := hRI0.1 o0 30
      refine sat_ite (fun q_5 => ?_) (fun q_5 => ?_)
      · exact sat_zr ⟨⟨ax6, bx6⟩, hRI0, (by refine ⟨rfl, ?_, by omega, by omega, by omega⟩; rw [← hx1]; unfold pz; repeat (any_goals split); all_goals omega)⟩
      · refine sat_ite (fun q_6 => ?_) (fun q_6 => ?_)
        · exact sat_zr ⟨⟨ax3, bx3⟩, hRI0, (by refine ⟨rfl, ?_, by omega, by omega, by omega⟩; rw [← hx1]; unfold pz; repeat (any_goals split); all_goals omega)⟩
        · exact sat_zr ⟨⟨ax6, bx6⟩, hRI0, (by refine ⟨rfl, ?_, by omega, by omega, by omega⟩; rw [← hx1]; unfold pz; repeat (any_goals split); all_goals omega)⟩
    clear ek4
    have ⟨r_7a, r_7b⟩ : -2147483648 ≤ I0 o0 30 ∧ I0 o0 30 < 2147483648 := hRI0.1 o0 30
    refine sat_ite (fun q_8 => ?_) (fun q_8 => ?_)
    · exact hk4 0 I0 (lit_in rfl) hRI0 ⟨rfl, (by first | omega | (simp (disch := omega) only [wr32_i2, wdiv_i2, wrem_i2]; omega) | grind | grind [wr32])⟩
    · exact hk4 x2 I0 ⟨ax2, bx2⟩ hRI0 ⟨rfl, (by first | omega | (simp (disch := omega) only [wr32_i2, wdiv_i2, wrem_i2]; omega) | grind | grind [wr32])⟩
theorem ok_X_parts0_17 {Ib : IMem} (fu : Nat) (k_109 : Int → Int → IMem → Res) (k_127 : IMem → Res) (o0 : Nat) (p1 : Int) (hfu : 5000000000 < fu) (qp1 : inr p1) (hp : 0 ≤ p1 ∧ p1 < 6) {Q_ : Int → IMem → Prop} (hk_109 : ∀ (z0 : Int) (z1 : Int) (I9 : IMem), inr z0 → inr z1 → GX o0 I9 → ((∀ q j, ¬ (q = o0 + 7 ∨ (q = o0 + 8 ∧ j = 1) ∨ (q = o0 + 8 ∧ j = 2) ∨ (q = o0 + 8 ∧ j = 3) ∨ (q = o0 + 8 ∧ j = 4) ∨ (q = o0 + 8 ∧ j = 5) ∨ (q = o0 + 8 ∧ j = 6) ∨ (q = o0 + 8 ∧ j = 7) ∨ (q = o0 + 8 ∧ j = 8) ∨ (q = o0 + 8 ∧ j = 9)) → I9 q j = Ib q j) ∧ (K9 o0 Ib p1 z0 z1)) → sat (k_109 z0 z1 I9) Q_) (hk_127 : ∀ (I9 : IMem), GX o0 I9 → ((∀ q j, ¬ (q = o0 + 7 ∨ (q = o0 + 8 ∧ j = 1) ∨ (q = o0 + 8 ∧ j = 2) ∨ (q = o0 + 8 ∧ j = 3) ∨ (q = o0 + 8 ∧ j = 4) ∨ (q = o0 + 8 ∧ j = 5) ∨ (q = o0 + 8 ∧ j = 6) ∨ (q = o0 + 8 ∧ j = 7) ∨ (q = o0 + 8 ∧ j = 8) ∨ (q = o0 + 8 ∧ j = 9)) → I9 q j = Ib q j) ∧ (True)) → sat (k_127 I9) Q_) (hret : ∀ v I, inr v → GX o0 I → ((∀ q j, ¬ (q = o0 + 7 ∨ (q = o0 + 8 ∧ j = 1) ∨ (q = o0 + 8 ∧ j = 2) ∨ (q = o0 + 8 ∧ j = 3) ∨ (q = o0 + 8 ∧ j = 4) ∨ (q = o0 + 8 ∧ j = 5) ∨ (q = o0 + 8 ∧ j = 6) ∨ (q = o0 + 8 ∧ j = 7) ∨ (q = o0 + 8 ∧ j = 8) ∨ (q = o0 + 8 ∧ j = 9)) → I q j = Ib q j) ∧ (False)) → sat (zr v I) Q_) : ∀ (m : Nat) (w2 : Int) (I0 : IMem), inr w2 → GX o0 I0 → ((∀ q j, ¬ (q = o0 + 7 ∨ (q = o0 + 8 ∧ j = 1) ∨ (q = o0 + 8 ∧ j = 2) ∨ (q = o0 + 8 ∧ j = 3) ∨ (q = o0 + 8 ∧ j = 4) ∨ (q = o0 + 8 ∧ j = 5) ∨ (q = o0 + 8 ∧ j = 6) ∨ (q = o0 + 8 ∧ j = 7) ∨ (q = o0 + 8 ∧ j = 8) ∨ (q = o0 + 8 ∧ j = 9)) → I0 q j = Ib q j) ∧ (0 ≤ w2)) → (2147483648 - w2).toNat < m → sat (f_X_parts0_17 fu k_109 k_127 o0 p1 m w2 I0) Q_ := by
  intro m
  induction m with
  | zero => intro w2 I0 _ _ _ h0; exact absurd h0 (Nat.not_lt_zero _)
  | succ m hR_ =>
    intro w2 I0 ⟨aw2, bw2⟩ hRI0 hinv hmeas
    have fI0 := hinv.1; replace hinv := hinv.2
    show sat (fb_X_parts0_17 fu k_109 k_127 o0 p1 (f_X_parts0_17 fu k_109 k_127 o0 p1 m) w2 I0) Q_
    unfold fb_X_parts0_17
    obtain ⟨ap1, bp1⟩ := qp1
    refine sat_zl (wr32_in _) (fun x1 hx1 ax1 bx1 => ?_)
    try simp (disch := omega) only [wr32_i2, wdiv_i2, wrem_i2] at hx1
    refine sat_zg (by first | omega | grind | grind [wr32]) (fun g_1 => ?_)
    have ⟨r_2a, r_2b⟩ : -2147483648 ≤ I0 (o0 + 1) x1.toNat ∧ I0 (o0 + 1) x1.toNat < 2147483648 := hRI0.1 (o0 + 1) x1.toNat
    try have r_2many := gx_many hRI0 x1.toNat (by omega) (by omega)
    try have r_2seen := gx_seen hRI0 x1.toNat (by omega) (by omega)
    try have r_2part := gx_part hRI0 x1.toNat (by omega) (by omega)
    try have r_2rows := gx_rows hRI0 x1.toNat (by omega) (by omega) (by omega)
    refine sat_ite (fun q_3 => ?_) (fun q_3 => ?_)
    · refine sat_zb (ok_X_of fu o0 p1 w2 1 I0 hfu hRI0 ⟨ap1, bp1⟩ ⟨aw2, bw2⟩ (lit_in rfl) (by first | omega | (simp (disch := omega) only [wr32_i2, wdiv_i2, wrem_i2]; omega) | grind | grind [wr32])) (fun y2 I3 c_4 ⟨⟨ay2, by2⟩, _, pI3⟩ => ?_)
      have eI3 := pI3.1.symm; replace pI3 := pI3.2; subst eI3
      refine sat_zb (ok_X_isOpen fu o0 p1 w2 I0 hfu hRI0 ⟨ap1, bp1⟩ ⟨aw2, bw2⟩ (by first | omega | (simp (disch := omega) only [wr32_i2, wdiv_i2, wrem_i2]; omega) | grind | grind [wr32])) (fun y5 I6 c_5 ⟨⟨ay5, by5⟩, _, pI6⟩ => ?_)
      have eI6 := pI6.1.symm; replace pI6 := pI6.2; subst eI6
      refine sat_zj (fun k8 ek8 => ?_)
      have hk8 : ∀ (I9 : IMem), GX o0 I9 → ((∀ q j, ¬ (q = o0 + 7 ∨ (q = o0 + 8 ∧ j = 1) ∨ (q = o0 + 8 ∧ j = 2) ∨ (q = o0 + 8 ∧ j = 3) ∨ (q = o0 + 8 ∧ j = 4) ∨ (q = o0 + 8 ∧ j = 5) ∨ (q = o0 + 8 ∧ j = 6) ∨ (q = o0 + 8 ∧ j = 7) ∨ (q = o0 + 8 ∧ j = 8) ∨ (q = o0 + 8 ∧ j = 9)) → I9 q j = I0 q j) ∧ (True)) → sat (k8 I9) Q_ := by
        intro I9  hRI9 jk8
        subst ek8
        have fI9 := jk8.1; replace jk8 := jk8.2
        refine sat_zl (wr32_in _) (fun x10 hx10 ax10 bx10 => ?_)
        try simp (disch := omega) only [wr32_i2, wdiv_i2, wrem_i2] at hx10
        exact hR_ x10 I9 ⟨ax10, bx10⟩ hRI9 ⟨(by intro q j hq; grind), (by first | omega | (simp (disch := omega) only [wr32_i2, wdiv_i2, wrem_i2]; omega) | grind | grind [wr32])⟩ (by first | omega | (simp (disch := omega) only [wr32_i2, wdiv_i2, wrem_i2]; omega) | grind | grind [wr32])
      clear ek8
      refine sat_ite (fun q_6 => ?_) (fun q_6 => ?_)
      · exact hk8 I0 hRI0 ⟨(by intro q j hq; grind), trivial⟩
      · refine sat_zb (ok_X_of fu o0 p1 w2 3 I0 hfu hRI0 ⟨ap1, bp1⟩ ⟨aw2, bw2⟩ (lit_in rfl) (by first | omega | (simp (disch := omega) only [wr32_i2, wdiv_i2, wrem_i2]; omega) | grind | grind [wr32])) (fun y11 I12 c_7 ⟨⟨ay11, by11⟩, _, pI12⟩ => ?_)
        have eI12 := pI12.1.symm; replace pI12 := pI12.2; subst eI12
        refine sat_ite (fun q_8 => ?_) (fun q_8 => ?_)
        · refine sat_zb (ok_X_of fu o0 p1 w2 2 I0 hfu hRI0 ⟨ap1, bp1⟩ ⟨aw2, bw2⟩ (lit_in rfl) (by first | omega | (simp (disch := omega) only [wr32_i2, wdiv_i2, wrem_i2]; omega) | grind | grind [wr32])) (fun y14 I15 c_9 ⟨⟨ay14, by14⟩, _, pI15⟩ => ?_)
          have eI15 := pI15.1.symm; replace pI15 := pI15.2; subst eI15
          refine sat_ite (fun q_10 => ?_) (fun q_10 => ?_)
          · have ⟨r_11a, r_11b⟩ : -2147483648 ≤ I0 o0 30 ∧ I0 o0 30 < 2147483648 := hRI0.1 o0 30
            refine sat_ite (fun q_12 => ?_) (fun q_12 => ?_)
            · refine sat_zb (ok_X_partOf fu o0 y2 I0 hfu hRI0 ⟨ay2, by2⟩ (by first | omega | (simp (disch := omega) only [wr32_i2, wdiv_i2, wrem_i2]; omega) | grind | grind [wr32])) (fun y17 I18 c_13 ⟨⟨ay17, by17⟩, _, pI18⟩ => ?_)
              have eI18 := pI18.1.symm; replace pI18 := pI18.2; subst eI18
              refine sat_ite (fun q_14 => ?_) (fun q_14 => ?_)
              · exact hk8 I0 hRI0 ⟨(by intro q j hq; grind), trivial⟩
              · have ⟨r_16a, r_16b⟩ : -2147483648 ≤ I0 o0 31 ∧ I0 o0 31 < 2147483648 := hRI0.1 o0 31
                refine sat_zb (ok_X_worth fu o0 p1 w2 (I0 o0 30) (I0 o0 31) I0 hfu hRI0 ⟨ap1, bp1⟩ ⟨aw2, bw2⟩ (hRI0.1 o0 30) (hRI0.1 o0 31) (by first | omega | (simp (disch := omega) only [wr32_i2, wdiv_i2, wrem_i2]; omega) | grind | grind [wr32])) (fun y20 I21 c_15 ⟨⟨ay20, by20⟩, hRI21, pI21⟩ => ?_)
                have fI21 : ∀ q j, ¬ (q = o0 + 7 ∨ (q = o0 + 8 ∧ j = 1) ∨ (q = o0 + 8 ∧ j = 2) ∨ (q = o0 + 8 ∧ j = 3) ∨ (q = o0 + 8 ∧ j = 4) ∨ (q = o0 + 8 ∧ j = 5) ∨ (q = o0 + 8 ∧ j = 6) ∨ (q = o0 + 8 ∧ j = 7) ∨ (q = o0 + 8 ∧ j = 8) ∨ (q = o0 + 8 ∧ j = 9)) → I21 q j = I0 q j := fc_X_worth (fun q j => q = o0 + 7 ∨ (q = o0 + 8 ∧ j = 1) ∨ (q = o0 + 8 ∧ j = 2) ∨ (q = o0 + 8 ∧ j = 3) ∨ (q = o0 + 8 ∧ j = 4) ∨ (q = o0 + 8 ∧ j = 5) ∨ (q = o0 + 8 ∧ j = 6) ∨ (q = o0 + 8 ∧ j = 7) ∨ (q = o0 + 8 ∧ j = 8) ∨ (q = o0 + 8 ∧ j = 9)) fu o0 p1 w2 (I0 o0 30) (I0 o0 31) I0 (fun _ => by simp) (by simp) (by simp) (by simp) (by simp) (by simp) (by simp) (by simp) (by simp) (by simp) c_15
                refine sat_ite (fun q_17 => ?_) (fun q_17 => ?_)
                · exact hk8 I21 hRI21 ⟨(by intro q j hq; grind), trivial⟩
                · exact hk_109 w2 y2 I21 ⟨aw2, bw2⟩ ⟨ay2, by2⟩ hRI21 ⟨(by intro q j hq; grind), (k9_fr (I := I0) ⟨⟨by omega, by omega⟩, pI3.2 rfl (by rw [← hx1]; omega), by have e := pI3.1; rw [show (140 + 6 * (40 * p1 + w2) + 1).toNat = (141 + 6 * (40 * p1 + w2)).toNat by omega] at e; exact e, (pI6.2 (by omega)).1, (pI6.2 (by omega)).2, by rw [← pI18.1]; omega⟩ (fun q j h7 h8 => (fI0 q j (by omega)).symm))⟩
            · exact hk8 I0 hRI0 ⟨(by intro q j hq; grind), trivial⟩
          · exact hk8 I0 hRI0 ⟨(by intro q j hq; grind), trivial⟩
        · exact hk8 I0 hRI0 ⟨(by intro q j hq; grind), trivial⟩
    · exact hk_127 I0 hRI0 ⟨(by intro q j hq; grind), trivial⟩
