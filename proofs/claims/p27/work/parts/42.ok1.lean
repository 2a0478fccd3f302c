/-! safety of the class -/
theorem ok_R_scan_7 (fu : Nat) (k_194 : IMem → Res) (o0 : Nat) (hfu : 5000000000 < fu) (To0 : o0 = 144) {Q_ : Int → IMem → Prop} (hk_194 : ∀ (I9 : IMem), GC I9 → (True) → sat (k_194 I9) Q_) (hret : ∀ v I, inr v → GC I → (True) → sat (zr v I) Q_) : ∀ (m : Nat) (w1 : Int) (I0 : IMem), inr w1 → GC I0 → (0 ≤ w1) → (400 - w1).toNat < m → sat (f_R_scan_7 fu k_194 o0 m w1 I0) Q_ := by
  intro m
  induction m with
  | zero => intro w1 I0 _ _ _ h0; exact absurd h0 (Nat.not_lt_zero _)
  | succ m hR_ =>
    intro w1 I0 ⟨aw1, bw1⟩ hRI0 hinv hmeas
    show sat (fb_R_scan_7 fu k_194 o0 (f_R_scan_7 fu k_194 o0 m) w1 I0) Q_
    unfold fb_R_scan_7
    have ⟨r_1a, r_1b⟩ : -2147483648 ≤ I0 o0 1 ∧ I0 o0 1 < 2147483648 := hRI0.1 o0 1
    refine sat_ite (fun q_2 => ?_) (fun q_2 => ?_)
    · refine sat_ite (fun q_3 => ?_) (fun q_3 => ?_)
      · refine sat_zg (by first | omega | grind | grind [wr32]) (fun g_4 => ?_)
        have ⟨r_5a, r_5b⟩ : -2147483648 ≤ I0 (o0 + 1) w1.toNat ∧ I0 (o0 + 1) w1.toNat < 2147483648 := hRI0.1 (o0 + 1) w1.toNat
        refine sat_zl (hRI0.1 (o0 + 1) w1.toNat) (fun x2 hx2 ax2 bx2 => ?_)
        refine sat_zl (wr32_in _) (fun x3 hx3 ax3 bx3 => ?_)
        try simp (disch := omega) only [wr32_i2, wdiv_i2, wrem_i2] at hx3
        refine sat_zb (ok_R_isLetter fu x2 I0 hfu hRI0 ⟨ax2, bx2⟩) (fun y4 I5 c_6 ⟨⟨ay4, by4⟩, _, pI5⟩ => ?_)
        have eI5 := pI5.1.symm; replace pI5 := pI5.2; subst eI5
        refine sat_ite (fun q_7 => ?_) (fun q_7 => ?_)
        · refine sat_zb (ok_R_isDigit fu x2 I0 hfu hRI0 ⟨ax2, bx2⟩) (fun y7 I8 c_8 ⟨⟨ay7, by7⟩, _, pI8⟩ => ?_)
          have eI8 := pI8.1.symm; replace pI8 := pI8.2; subst eI8
          refine sat_ite (fun q_9 => ?_) (fun q_9 => ?_)
          · refine sat_ite (fun q_10 => ?_) (fun q_10 => ?_)
            · exact hR_ x3 I0 ⟨ax3, bx3⟩ hRI0 (by first | omega | (simp (disch := omega) only [wr32_i2, wdiv_i2, wrem_i2]; omega) | grind | grind [wr32]) (by first | omega | (simp (disch := omega) only [wr32_i2, wdiv_i2, wrem_i2]; omega) | grind | grind [wr32])
            · refine sat_ite (fun q_11 => ?_) (fun q_11 => ?_)
              · exact hR_ x3 I0 ⟨ax3, bx3⟩ hRI0 (by first | omega | (simp (disch := omega) only [wr32_i2, wdiv_i2, wrem_i2]; omega) | grind | grind [wr32]) (by first | omega | (simp (disch := omega) only [wr32_i2, wdiv_i2, wrem_i2]; omega) | grind | grind [wr32])
              · refine sat_zb (ok_JS_indexOf fu 1 (wi2c x2) I0 hfu hRI0.1 (by omega) (wi2c_in _)) (fun y10 I11 c_12 ⟨⟨ay10, by10⟩, _, pI11⟩ => ?_)
                have eI11 := pI11.1.symm; replace pI11 := pI11.2; subst eI11
                refine sat_zj (fun k13 ek13 => ?_)
                have hk13 : ∀ (x15 : Int) (I14 : IMem), inr x15 → GC I14 → (I14 = I0 ∧ (True)) → sat (k13 x15 I14) Q_ := by
                  intro x15 I14 ⟨ax15, bx15⟩ hRI14 jk13
                  subst ek13
                  have ejk13 := jk13.1.symm; replace jk13 := jk13.2; subst ejk13
                  refine sat_zb (ok_R_addToken fu o0 x15 w1 0 I0 hfu hRI0 (by omega) ⟨ax15, bx15⟩ ⟨aw1, bw1⟩ (lit_in rfl)) (fun u_13 I17 c_14 ⟨⟨au_13, bu_13⟩, hRI17, pI17⟩ => ?_)
                  exact hR_ x3 I17 ⟨ax3, bx3⟩ hRI17 (by first | omega | (simp (disch := omega) only [wr32_i2, wdiv_i2, wrem_i2]; omega) | grind | grind [wr32]) (by first | omega | (simp (disch := omega) only [wr32_i2, wdiv_i2, wrem_i2]; omega) | grind | grind [wr32])
                clear ek13
                refine sat_ite (fun q_15 => ?_) (fun q_15 => ?_)
                · exact hk13 18 I0 (lit_in rfl) hRI0 ⟨rfl, trivial⟩
                · exact hk13 x2 I0 ⟨ax2, bx2⟩ hRI0 ⟨rfl, trivial⟩
          · refine ok_R_scan_96 (Ib := I0) fu _ o0 w1 hfu (by omega) ⟨aw1, bw1⟩ ?_ (fun v I h1 h2 h3 => hret v I h1 h2 (by first | exact trivial | grind)) fu x3 I0 ⟨ax3, bx3⟩ hRI0 ⟨rfl, (by first | omega | (simp (disch := omega) only [wr32_i2, wdiv_i2, wrem_i2]; omega) | grind | grind [wr32])⟩ (by first | omega | (simp (disch := omega) only [wr32_i2, wdiv_i2, wrem_i2]; omega) | grind | grind [wr32])
            · intro x24 I23 ⟨ax24, bx24⟩ hRI23 x_16
              have ex_16 := x_16.1.symm; replace x_16 := x_16.2; subst ex_16
              refine sat_zj (fun k25 ek25 => ?_)
              have hk25 : ∀ (x27 : Int) (I26 : IMem), inr x27 → GC I26 → (I26 = I0 ∧ (True)) → sat (k25 x27 I26) Q_ := by
                intro x27 I26 ⟨ax27, bx27⟩ hRI26 jk25
                subst ek25
                have ejk25 := jk25.1.symm; replace jk25 := jk25.2; subst ejk25
                refine sat_zb (ok_R_numberAt fu o0 w1 x24 I0 hfu hRI0 (by omega) ⟨aw1, bw1⟩ ⟨ax24, bx24⟩) (fun y28 I29 c_17 ⟨⟨ay28, by28⟩, _, pI29⟩ => ?_)
                have eI29 := pI29.1.symm; replace pI29 := pI29.2; subst eI29
                refine sat_zb (ok_R_addToken fu o0 x27 w1 y28 I0 hfu hRI0 (by omega) ⟨ax27, bx27⟩ ⟨aw1, bw1⟩ ⟨ay28, by28⟩) (fun u_18 I32 c_19 ⟨⟨au_18, bu_18⟩, hRI32, pI32⟩ => ?_)
                exact hR_ x24 I32 ⟨ax24, bx24⟩ hRI32 (by first | omega | (simp (disch := omega) only [wr32_i2, wdiv_i2, wrem_i2]; omega) | grind | grind [wr32]) (by first | omega | (simp (disch := omega) only [wr32_i2, wdiv_i2, wrem_i2]; omega) | grind | grind [wr32])
              clear ek25
              refine sat_ite (fun q_20 => ?_) (fun q_20 => ?_)
              · try simp (disch := omega) only [wr32_i2, wdiv_i2, wrem_i2] at q_20
                exact hk25 18 I0 (lit_in rfl) hRI0 ⟨rfl, trivial⟩
              · try simp (disch := omega) only [wr32_i2, wdiv_i2, wrem_i2] at q_20
                exact hk25 16 I0 (lit_in rfl) hRI0 ⟨rfl, trivial⟩
        · refine ok_R_scan_41 (Ib := I0) fu _ o0 w1 hfu (by omega) ⟨aw1, bw1⟩ ?_ (fun v I h1 h2 h3 => hret v I h1 h2 (by first | exact trivial | grind)) fu x3 I0 ⟨ax3, bx3⟩ hRI0 ⟨rfl, (by first | omega | (simp (disch := omega) only [wr32_i2, wdiv_i2, wrem_i2]; omega) | grind | grind [wr32])⟩ (by first | omega | (simp (disch := omega) only [wr32_i2, wdiv_i2, wrem_i2]; omega) | grind | grind [wr32])
          · intro x39 I38 ⟨ax39, bx39⟩ hRI38 x_21
            have ex_21 := x_21.1.symm; replace x_21 := x_21.2; subst ex_21
            refine sat_zb (ok_R_wordAt fu o0 w1 x39 I0 hfu hRI0 (by omega) ⟨aw1, bw1⟩ ⟨ax39, bx39⟩) (fun y40 I41 c_22 ⟨⟨ay40, by40⟩, _, pI41⟩ => ?_)
            have eI41 := pI41.1.symm; replace pI41 := pI41.2; subst eI41
            refine sat_zb (ok_R_addToken fu o0 y40 w1 0 I0 hfu hRI0 (by omega) ⟨ay40, by40⟩ ⟨aw1, bw1⟩ (lit_in rfl)) (fun u_23 I44 c_24 ⟨⟨au_23, bu_23⟩, hRI44, pI44⟩ => ?_)
            exact hR_ x39 I44 ⟨ax39, bx39⟩ hRI44 (by first | omega | (simp (disch := omega) only [wr32_i2, wdiv_i2, wrem_i2]; omega) | grind | grind [wr32]) (by first | omega | (simp (disch := omega) only [wr32_i2, wdiv_i2, wrem_i2]; omega) | grind | grind [wr32])
      · exact hk_194 I0 hRI0 trivial
    · exact hk_194 I0 hRI0 trivial
theorem ok_R_scan (fu : Nat) (o0 : Nat) (I0 : IMem) (hfu : 5000000000 < fu) (hRI0 : GC I0) (To0 : o0 = 144) : sat (f_R_scan fu o0 I0) (fun v I => inr v ∧ GC I ∧ (True)) := by
  unfold f_R_scan
  refine sat_zwC hRI0 (lit_in rfl) (by first | omega | grind | grind [wr32]) (fun I1 eI1 hRI1 => ?_)
  refine ok_R_scan_7 fu _ o0 hfu (by omega) ?_ (fun v I h1 h2 h3 => sat_zr ⟨h1, h2, (by first | exact trivial | exact h3 | grind)⟩) fu 0 I1 (lit_in rfl) hRI1 (by first | omega | (simp (disch := omega) only [wr32_i2, wdiv_i2, wrem_i2]; omega) | grind | grind [wr32]) (by first | omega | (simp (disch := omega) only [wr32_i2, wdiv_i2, wrem_i2]; omega) | grind | grind [wr32])
  · intro I46  hRI46 x_1
    have ⟨r_4a, r_4b⟩ : -2147483648 ≤ I46 o0 1 ∧ I46 o0 1 < 2147483648 := hRI46.1 o0 1
    refine sat_zb (ok_R_addToken fu o0 17 (I46 o0 1) 0 I46 hfu hRI46 (by omega) (lit_in rfl) (hRI46.1 o0 1) (lit_in rfl)) (fun u_2 I48 c_3 ⟨⟨au_2, bu_2⟩, hRI48, pI48⟩ => ?_)
    exact sat_zr ⟨(lit_in rfl), hRI48, trivial⟩
theorem ok_W_clear (fu : Nat) (o0 : Nat) (I0 : IMem) (hfu : 5000000000 < fu) (hRI0 : GC I0) (To0 : (16 ≤ o0 ∧ o0 ≤ 36) ∨ (56 ≤ o0 ∧ o0 ≤ 76) ∨ (97 ≤ o0 ∧ o0 ≤ 117) ∨ o0 = 149) : sat (f_W_clear fu o0 I0) (fun v I => inr v ∧ GC I ∧ (True)) := by
  unfold f_W_clear
  refine sat_zwC hRI0 (lit_in rfl) (by first | omega | grind | grind [wr32]) (fun I1 eI1 hRI1 => ?_)
  refine sat_zwC hRI1 (lit_in rfl) (by first | omega | grind | grind [wr32]) (fun I2 eI2 hRI2 => ?_)
  exact sat_zr ⟨(lit_in rfl), hRI2, trivial⟩
theorem ok_R_understand_31 (fu : Nat) (k_64 : IMem → Res) (o0 : Nat) (hfu : 5000000000 < fu) (To0 : o0 = 144) {Q_ : Int → IMem → Prop} (hk_64 : ∀ (I9 : IMem), GC I9 → (True) → sat (k_64 I9) Q_) (hret : ∀ v I, inr v → GC I → (True) → sat (zr v I) Q_) : ∀ (m : Nat) (w2 : Int) (I0 : IMem), inr w2 → GC I0 → (0 ≤ w2) → (400 - w2).toNat < m → sat (f_R_understand_31 fu k_64 o0 m w2 I0) Q_ := by
  intro m
  induction m with
  | zero => intro w2 I0 _ _ _ h0; exact absurd h0 (Nat.not_lt_zero _)
  | succ m hR_ =>
    intro w2 I0 ⟨aw2, bw2⟩ hRI0 hinv hmeas
    show sat (fb_R_understand_31 fu k_64 o0 (f_R_understand_31 fu k_64 o0 m) w2 I0) Q_
    unfold fb_R_understand_31
    refine sat_ite (fun q_1 => ?_) (fun q_1 => ?_)
    · have ⟨r_2a, r_2b⟩ : -2147483648 ≤ I0 o0 10 ∧ I0 o0 10 < 2147483648 := hRI0.1 o0 10
      refine sat_ite (fun q_3 => ?_) (fun q_3 => ?_)
      · have ⟨r_4a, r_4b⟩ : -2147483648 ≤ I0 o0 7 ∧ I0 o0 7 < 2147483648 := hRI0.1 o0 7
        refine sat_ite (fun q_5 => ?_) (fun q_5 => ?_)
        · exact hk_64 I0 hRI0 trivial
        · refine sat_zb (ok_R_readLine fu o0 I0 hfu hRI0 (by omega)) (fun u_6 I17 c_7 ⟨⟨au_6, bu_6⟩, hRI17, pI17⟩ => ?_)
          refine sat_zl (wr32_in _) (fun x19 hx19 ax19 bx19 => ?_)
          try simp (disch := omega) only [wr32_i2, wdiv_i2, wrem_i2] at hx19
          exact hR_ x19 I17 ⟨ax19, bx19⟩ hRI17 (by first | omega | (simp (disch := omega) only [wr32_i2, wdiv_i2, wrem_i2]; omega) | grind | grind [wr32]) (by first | omega | (simp (disch := omega) only [wr32_i2, wdiv_i2, wrem_i2]; omega) | grind | grind [wr32])
      · exact hk_64 I0 hRI0 trivial
    · exact hk_64 I0 hRI0 trivial
theorem ok_R_understand (fu : Nat) (o0 : Nat) (a1 : Int) (I0 : IMem) (hfu : 5000000000 < fu) (hRI0 : GC I0) (To0 : o0 = 144) (qa1 : inr a1) (h1 : a1 = 0 ∨ a1 = 1) : sat (f_R_understand fu o0 a1 I0) (fun v I => inr v ∧ GC I ∧ (True)) := by
  unfold f_R_understand
  obtain ⟨aa1, ba1⟩ := qa1
  refine sat_zb (ok_R_scan fu o0 I0 hfu hRI0 (by omega)) (fun u_1 I2 c_2 ⟨⟨au_1, bu_1⟩, hRI2, pI2⟩ => ?_)
  refine sat_zb (ok_R_forget fu o0 I2 hfu hRI2 (by omega)) (fun u_3 I5 c_4 ⟨⟨au_3, bu_3⟩, hRI5, pI5⟩ => ?_)
  refine sat_zg (by first | omega | grind | grind [wr32]) (fun g_5 => ?_)
  refine sat_zwC hRI5 ⟨aa1, ba1⟩ (by first | omega | grind | grind [wr32]) (fun I7 eI7 hRI7 => ?_)
  refine sat_zb (ok_W_clear fu (o0 + 5) I7 hfu hRI7 (by omega)) (fun u_6 I10 c_7 ⟨⟨au_6, bu_6⟩, hRI10, pI10⟩ => ?_)
  refine sat_zwC hRI10 (lit_in rfl) (by first | omega | grind | grind [wr32]) (fun I12 eI12 hRI12 => ?_)
  refine sat_zb (ok_R_advance fu o0 I12 hfu hRI12 (by omega)) (fun u_8 I14 c_9 ⟨⟨au_8, bu_8⟩, hRI14, pI14⟩ => ?_)
  refine ok_R_understand_31 fu _ o0 hfu (by omega) ?_ (fun v I h1 h2 h3 => sat_zr ⟨h1, h2, (by first | exact trivial | exact h3 | grind)⟩) fu 0 I14 (lit_in rfl) hRI14 (by first | omega | (simp (disch := omega) only [wr32_i2, wdiv_i2, wrem_i2]; omega) | grind | grind [wr32]) (by first | omega | (simp (disch := omega) only [wr32_i2, wdiv_i2, wrem_i2]; omega) | grind | grind [wr32])
  · intro I20  hRI20 x_10
    have ⟨r_11a, r_11b⟩ : -2147483648 ≤ I20 o0 10 ∧ I20 o0 10 < 2147483648 := hRI20.1 o0 10
    refine sat_ite (fun q_12 => ?_) (fun q_12 => ?_)
    · exact sat_zr ⟨(lit_in rfl), hRI20, trivial⟩
    · exact sat_zr ⟨(lit_in rfl), hRI20, trivial⟩
theorem ok_W_copyFrom (fu : Nat) (o0 : Nat) (o1 : Nat) (I0 : IMem) (hfu : 5000000000 < fu) (hRI0 : GC I0) (To0 : (16 ≤ o0 ∧ o0 ≤ 36) ∨ (56 ≤ o0 ∧ o0 ≤ 76) ∨ (97 ≤ o0 ∧ o0 ≤ 117) ∨ o0 = 149) (To1 : (16 ≤ o1 ∧ o1 ≤ 36) ∨ (56 ≤ o1 ∧ o1 ≤ 76) ∨ (97 ≤ o1 ∧ o1 ≤ 117) ∨ o1 = 149) : sat (f_W_copyFrom fu o0 o1 I0) (fun v I => inr v ∧ GC I ∧ (True)) := by
  unfold f_W_copyFrom
  have ⟨r_1a, r_1b⟩ : -2147483648 ≤ I0 o1 1 ∧ I0 o1 1 < 2147483648 := hRI0.1 o1 1
  refine sat_zwC hRI0 (hRI0.1 o1 1) (by first | omega | grind | grind [wr32]) (fun I1 eI1 hRI1 => ?_)
  have ⟨r_2a, r_2b⟩ : -2147483648 ≤ I1 o1 4 ∧ I1 o1 4 < 2147483648 := hRI1.1 o1 4
  refine sat_zwC hRI1 (hRI1.1 o1 4) (by first | omega | grind | grind [wr32]) (fun I2 eI2 hRI2 => ?_)
  refine sat_zg (by first | omega | grind | grind [wr32]) (fun g_3 => ?_)
  refine sat_zcC hRI2 (by omega) (fun I3 eI3 hRI3 => ?_)
  refine sat_zg (by first | omega | grind | grind [wr32]) (fun g_4 => ?_)
  refine sat_zcC hRI3 (by omega) (fun I4 eI4 hRI4 => ?_)
  refine sat_zg (by first | omega | grind | grind [wr32]) (fun g_5 => ?_)
  refine sat_zcC hRI4 (by omega) (fun I5 eI5 hRI5 => ?_)
  exact sat_zr ⟨(lit_in rfl), hRI5, trivial⟩
theorem ok_S_text (fu : Nat) (o0 : Nat) (a1 : Int) (I0 : IMem) (hfu : 5000000000 < fu) (hRI0 : GC I0) (To0 : o0 = 0) (qa1 : inr a1) : sat (f_S_text fu o0 a1 I0) (fun v I => inr v ∧ GC I ∧ (True)) := by
  unfold f_S_text
  obtain ⟨aa1, ba1⟩ := qa1
  refine sat_zj (fun k1 ek1 => ?_)
  have hk1 : ∀ (I2 : IMem), GC I2 → (I2 = I0 ∧ (True)) → sat (k1 I2) (fun v I => inr v ∧ GC I ∧ (True)) := by
    intro I2  hRI2 jk1
    subst ek1
    have ejk1 := jk1.1.symm; replace jk1 := jk1.2; subst ejk1
    refine sat_zb (ok_R_forget fu (o0 + 144) I0 hfu hRI0 (by omega)) (fun u_1 I4 c_2 ⟨⟨au_1, bu_1⟩, hRI4, pI4⟩ => ?_)
    exact sat_zr ⟨(lit_in rfl), hRI4, trivial⟩
  clear ek1
  refine sat_ite (fun q_3 => ?_) (fun q_3 => ?_)
  · exact hk1 I0 hRI0 ⟨rfl, trivial⟩
  · refine sat_ite (fun q_4 => ?_) (fun q_4 => ?_)
    · exact hk1 I0 hRI0 ⟨rfl, trivial⟩
    · refine sat_zj (fun k6 ek6 => ?_)
      have hk6 : ∀ (x8 : Int) (I7 : IMem), inr x8 → GC I7 → (I7 = I0 ∧ ((x8 = 0 ∨ x8 = 1) ∧ 0 ≤ a1 ∧ a1 ≤ 4)) → sat (k6 x8 I7) (fun v I => inr v ∧ GC I ∧ (True)) := by
        intro x8 I7 ⟨ax8, bx8⟩ hRI7 jk6
        subst ek6
        have ejk6 := jk6.1.symm; replace jk6 := jk6.2; subst ejk6
        refine sat_zb (ok_R_understand fu (o0 + 144) x8 I0 hfu hRI0 (by omega) ⟨ax8, bx8⟩ (by first | omega | (simp (disch := omega) only [wr32_i2, wdiv_i2, wrem_i2]; omega) | grind | grind [wr32])) (fun y9 I10 c_5 ⟨⟨ay9, by9⟩, hRI10, pI10⟩ => ?_)
        refine sat_ite (fun q_6 => ?_) (fun q_6 => ?_)
        · exact sat_zr ⟨(lit_in rfl), hRI10, trivial⟩
        · refine sat_zg (by first | omega | grind | grind [wr32]) (fun g_7 => ?_)
          refine sat_zb (ok_W_copyFrom fu (o0 + 16 + 5 * a1.toNat) (o0 + 149) I10 hfu hRI10 (by omega) (by omega)) (fun u_8 I14 c_9 ⟨⟨au_8, bu_8⟩, hRI14, pI14⟩ => ?_)
          have ⟨r_10a, r_10b⟩ : -2147483648 ≤ I14 (o0 + 149) 4 ∧ I14 (o0 + 149) 4 < 2147483648 := hRI14.1 (o0 + 149) 4
          exact sat_zr ⟨(hRI14.1 (o0 + 149) 4), hRI14, trivial⟩
      clear ek6
      refine sat_ite (fun q_11 => ?_) (fun q_11 => ?_)
      · exact hk6 1 I0 (lit_in rfl) hRI0 ⟨rfl, (by first | omega | (simp (disch := omega) only [wr32_i2, wdiv_i2, wrem_i2]; omega) | grind | grind [wr32])⟩
      · exact hk6 0 I0 (lit_in rfl) hRI0 ⟨rfl, (by first | omega | (simp (disch := omega) only [wr32_i2, wdiv_i2, wrem_i2]; omega) | grind | grind [wr32])⟩
theorem ok_S_fault (fu : Nat) (o0 : Nat) (a1 : Int) (I0 : IMem) (hfu : 5000000000 < fu) (hRI0 : GC I0) (To0 : o0 = 0) (qa1 : inr a1) : sat (f_S_fault fu o0 a1 I0) (fun v I => inr v ∧ GC I ∧ (I = I0 ∧ (True))) := by
  unfold f_S_fault
  obtain ⟨aa1, ba1⟩ := qa1
  refine sat_ite (fun q_1 => ?_) (fun q_1 => ?_)
  · have ⟨r_2a, r_2b⟩ : -2147483648 ≤ I0 (o0 + 144) 10 ∧ I0 (o0 + 144) 10 < 2147483648 := hRI0.1 (o0 + 144) 10
    exact sat_zr ⟨(hRI0.1 (o0 + 144) 10), hRI0, ⟨rfl, trivial⟩⟩
  · refine sat_ite (fun q_3 => ?_) (fun q_3 => ?_)
    · have ⟨r_4a, r_4b⟩ : -2147483648 ≤ I0 (o0 + 144) 11 ∧ I0 (o0 + 144) 11 < 2147483648 := hRI0.1 (o0 + 144) 11
      exact sat_zr ⟨(hRI0.1 (o0 + 144) 11), hRI0, ⟨rfl, trivial⟩⟩
    · exact sat_zr ⟨(lit_in rfl), hRI0, ⟨rfl, trivial⟩⟩
theorem ok_L_shortest_4 {Ib : IMem} (fu : Nat) (o0 : Nat) (hfu : 5000000000 < fu) (To0 : o0 = 7 ∨ o0 = 47 ∨ o0 = 88) {Q_ : Int → IMem → Prop} (hret : ∀ v I, inr v → GC I → (I = Ib ∧ (True)) → sat (zr v I) Q_) : ∀ (m : Nat) (w1 : Int) (w2 : Int) (I0 : IMem), inr w1 → inr w2 → GC I0 → (I0 = Ib ∧ (0 ≤ w2 ∧ 0 ≤ w1 ∧ w1 < 6)) → (6 - w2).toNat < m → sat (f_L_shortest_4 fu o0 m w1 w2 I0) Q_ := by
  intro m
  induction m with
  | zero => intro w1 w2 I0 _ _ _ _ h0; exact absurd h0 (Nat.not_lt_zero _)
  | succ m hR_ =>
    intro w1 w2 I0 ⟨aw1, bw1⟩ ⟨aw2, bw2⟩ hRI0 hinv hmeas
    have einv := hinv.1; replace hinv := hinv.2; subst einv
    show sat (fb_L_shortest_4 fu o0 (f_L_shortest_4 fu o0 m) w1 w2 I0) Q_
    unfold fb_L_shortest_4
    refine sat_ite (fun q_1 => ?_) (fun q_1 => ?_)
    · refine sat_zg (by first | omega | grind | grind [wr32]) (fun g_2 => ?_)
      refine sat_zg (by first | omega | grind | grind [wr32]) (fun g_3 => ?_)
      refine sat_zj (fun k1 ek1 => ?_)
      have hk1 : ∀ (x3 : Int) (I2 : IMem), inr x3 → GC I2 → (I2 = I0 ∧ (0 ≤ x3 ∧ x3 < 6)) → sat (k1 x3 I2) Q_ := by
        intro x3 I2 ⟨ax3, bx3⟩ hRI2 jk1
        subst ek1
        have ejk1 := jk1.1.symm; replace jk1 := jk1.2; subst ejk1
        refine sat_zl (wr32_in _) (fun x4 hx4 ax4 bx4 => ?_)
        try simp (disch := omega) only [wr32_i2, wdiv_i2, wrem_i2] at hx4
        exact hR_ x3 x4 I0 ⟨ax3, bx3⟩ ⟨ax4, bx4⟩ hRI0 ⟨rfl, (by first | omega | (simp (disch := omega) only [wr32_i2, wdiv_i2, wrem_i2]; omega) | grind | grind [wr32])⟩ (by first | omega | (simp (disch := omega) only [wr32_i2, wdiv_i2, wrem_i2]; omega) | grind | grind [wr32])
      clear ek1
      have ⟨r_4a, r_4b⟩ : -2147483648 ≤ I0 (o0 + 2) w2.toNat ∧ I0 (o0 + 2) w2.toNat < 2147483648 := hRI0.1 (o0 + 2) w2.toNat
      try have r_4c := ci_at hRI0 To0 (l := w2.toNat) (by omega)
      have ⟨r_5a, r_5b⟩ : -2147483648 ≤ I0 (o0 + 2) w1.toNat ∧ I0 (o0 + 2) w1.toNat < 2147483648 := hRI0.1 (o0 + 2) w1.toNat
      try have r_5c := ci_at hRI0 To0 (l := w1.toNat) (by omega)
      refine sat_ite (fun q_6 => ?_) (fun q_6 => ?_)
      · exact hk1 w2 I0 ⟨aw2, bw2⟩ hRI0 ⟨rfl, (by first | omega | (simp (disch := omega) only [wr32_i2, wdiv_i2, wrem_i2]; omega) | grind | grind [wr32])⟩
      · exact hk1 w1 I0 ⟨aw1, bw1⟩ hRI0 ⟨rfl, (by first | omega | (simp (disch := omega) only [wr32_i2, wdiv_i2, wrem_i2]; omega) | grind | grind [wr32])⟩
    · exact hret _ _ ⟨aw1, bw1⟩ hRI0 ⟨rfl, trivial⟩
theorem ok_L_shortest (fu : Nat) (o0 : Nat) (I0 : IMem) (hfu : 5000000000 < fu) (hRI0 : GC I0) (To0 : o0 = 7 ∨ o0 = 47 ∨ o0 = 88) : sat (f_L_shortest fu o0 I0) (fun v I => inr v ∧ GC I ∧ (I = I0 ∧ (True))) := by
  unfold f_L_shortest
  refine ok_L_shortest_4 (Ib := I0) fu o0 hfu (by omega) (fun v I h1 h2 h3 => sat_zr ⟨h1, h2, ⟨h3.1, (by have h4 := h3.2; first | exact trivial | exact h4 | omega | grind)⟩⟩) fu 0 1 I0 (lit_in rfl) (lit_in rfl) hRI0 ⟨rfl, (by first | omega | (simp (disch := omega) only [wr32_i2, wdiv_i2, wrem_i2]; omega) | grind | grind [wr32])⟩ (by first | omega | (simp (disch := omega) only [wr32_i2, wdiv_i2, wrem_i2]; omega) | grind | grind [wr32])
theorem ok_W_reckon_6 (fu : Nat) (k_378 : Int → IMem → Res) (o0 : Nat) (p2 : Int) (o3 : Nat) (n3 : Nat) (hfu : 5000000000 < fu) (To0 : (16 ≤ o0 ∧ o0 ≤ 36) ∨ (56 ≤ o0 ∧ o0 ≤ 76) ∨ (97 ≤ o0 ∧ o0 ≤ 117) ∨ o0 = 149) (To3 : o3 ≠ 9 ∧ o3 ≠ 49 ∧ o3 ≠ 90) (qp2 : inr p2) (hn3 : n3 < 1000000) {Q_ : Int → IMem → Prop} (hk_378 : ∀ (z0 : Int) (I9 : IMem), inr z0 → GC I9 → (-1 ≤ z0 ∧ z0 ≤ 62) → sat (k_378 z0 I9) Q_) (hret : ∀ v I, inr v → GC I → (True) → sat (zr v I) Q_) : ∀ (m : Nat) (w4 : Int) (w5 : Int) (I0 : IMem), inr w4 → inr w5 → GC I0 → (-1 ≤ w4 ∧ w4 ≤ 62) → (400 - w5).toNat < m → sat (f_W_reckon_6 fu k_378 o0 p2 o3 n3 m w4 w5 I0) Q_ := by
  intro m
  induction m with
  | zero => intro w4 w5 I0 _ _ _ _ h0; exact absurd h0 (Nat.not_lt_zero _)
  | succ m hR_ =>
    intro w4 w5 I0 ⟨aw4, bw4⟩ ⟨aw5, bw5⟩ hRI0 hinv hmeas
    show sat (fb_W_reckon_6 fu k_378 o0 p2 o3 n3 (f_W_reckon_6 fu k_378 o0 p2 o3 n3 m) w4 w5 I0) Q_
    unfold fb_W_reckon_6
    obtain ⟨ap2, bp2⟩ := qp2
    refine sat_ite (fun q_1 => ?_) (fun q_1 => ?_)
    · exact hk_378 w4 I0 ⟨aw4, bw4⟩ hRI0 (by first | omega | (simp (disch := omega) only [wr32_i2, wdiv_i2, wrem_i2]; omega) | grind | grind [wr32])
    · refine sat_ite (fun q_2 => ?_) (fun q_2 => ?_)
      · refine sat_ite (fun q_3 => ?_) (fun q_3 => ?_)
        · refine sat_zg (by first | omega | grind | grind [wr32]) (fun g_4 => ?_)
          have ⟨r_5a, r_5b⟩ : -2147483648 ≤ I0 (o0 + 1) w5.toNat ∧ I0 (o0 + 1) w5.toNat < 2147483648 := hRI0.1 (o0 + 1) w5.toNat
          refine sat_zl (hRI0.1 (o0 + 1) w5.toNat) (fun x1 hx1 ax1 bx1 => ?_)
          refine sat_zl (wr32_in _) (fun x2 hx2 ax2 bx2 => ?_)
          try simp (disch := omega) only [wr32_i2, wdiv_i2, wrem_i2] at hx2
          refine sat_zj (fun k3 ek3 => ?_)
          have hk3 : ∀ (x5 : Int) (I4 : IMem), inr x5 → GC I4 → (I4 = I0 ∧ (-1 ≤ x5 ∧ x5 ≤ 1)) → sat (k3 x5 I4) Q_ := by
            intro x5 I4 ⟨ax5, bx5⟩ hRI4 jk3
            subst ek3
            have ejk3 := jk3.1.symm; replace jk3 := jk3.2; subst ejk3
            refine sat_zl (wr32_in _) (fun x6 hx6 ax6 bx6 => ?_)
            try simp (disch := omega) only [wr32_i2, wdiv_i2, wrem_i2] at hx6
            refine sat_ite (fun q_6 => ?_) (fun q_6 => ?_)
            · exact hret _ _ (lit_in rfl) hRI0 trivial
            · refine sat_ite (fun q_7 => ?_) (fun q_7 => ?_)
              · try simp (disch := omega) only [wr32_i2, wdiv_i2, wrem_i2] at q_7
                refine sat_ite (fun q_8 => ?_) (fun q_8 => ?_)
                · refine sat_zg (by first | omega | grind | grind [wr32]) (fun g_9 => ?_)
                  have ⟨r_10a, r_10b⟩ : -2147483648 ≤ I0 (o0 + 4) x6.toNat ∧ I0 (o0 + 4) x6.toNat < 2147483648 := hRI0.1 (o0 + 4) x6.toNat
                  refine sat_zl (hRI0.1 (o0 + 4) x6.toNat) (fun x7 hx7 ax7 bx7 => ?_)
                  refine sat_zl (wr32_in _) (fun x8 hx8 ax8 bx8 => ?_)
                  try simp (disch := omega) only [wr32_i2, wdiv_i2, wrem_i2] at hx8
                  refine sat_zg (by first | omega | grind | grind [wr32]) (fun g_11 => ?_)
                  have ⟨r_12a, r_12b⟩ : -2147483648 ≤ I0 (o0 + 4) x8.toNat ∧ I0 (o0 + 4) x8.toNat < 2147483648 := hRI0.1 (o0 + 4) x8.toNat
                  refine sat_zl (hRI0.1 (o0 + 4) x8.toNat) (fun x9 hx9 ax9 bx9 => ?_)
                  refine sat_zj (fun k10 ek10 => ?_)
                  have hk10 : ∀ (I11 : IMem), GC I11 → (True) → sat (k10 I11) Q_ := by
                    intro I11  hRI11 jk10
                    subst ek10
                    refine sat_zl (wr32_in _) (fun x12 hx12 ax12 bx12 => ?_)
                    try simp (disch := omega) only [wr32_i2, wdiv_i2, wrem_i2] at hx12
                    exact hR_ x6 x12 I11 ⟨ax6, bx6⟩ ⟨ax12, bx12⟩ hRI11 (by first | omega | (simp (disch := omega) only [wr32_i2, wdiv_i2, wrem_i2]; omega) | grind | grind [wr32]) (by first | omega | (simp (disch := omega) only [wr32_i2, wdiv_i2, wrem_i2]; omega) | grind | grind [wr32])
                  clear ek10
                  refine sat_ite (fun q_13 => ?_) (fun q_13 => ?_)
                  · refine sat_zg (by first | omega | grind | grind [wr32]) (fun g_14 => ?_)
                    refine sat_zwC hRI0 (wr32_in _) (by first | omega | (simp (disch := omega) only [wr32_i2, wdiv_i2, wrem_i2]; omega) | grind | grind [wr32]) (fun I14 eI14 hRI14 => ?_)
                    exact hk10 I14 hRI14 trivial
                  · refine sat_ite (fun q_15 => ?_) (fun q_15 => ?_)
                    · refine sat_zg (by first | omega | grind | grind [wr32]) (fun g_16 => ?_)
                      refine sat_zwC hRI0 (wor_in _ _) (by first | omega | grind | grind [wr32]) (fun I16 eI16 hRI16 => ?_)
                      exact hk10 I16 hRI16 trivial
                    · refine sat_ite (fun q_17 => ?_) (fun q_17 => ?_)
                      · refine sat_zg (by first | omega | grind | grind [wr32]) (fun g_18 => ?_)
                        refine sat_zwC hRI0 (wand_in _ _) (by first | omega | grind | grind [wr32]) (fun I18 eI18 hRI18 => ?_)
                        exact hk10 I18 hRI18 trivial
                      · refine sat_ite (fun q_19 => ?_) (fun q_19 => ?_)
                        · refine sat_zj (fun k20 ek20 => ?_)
                          have hk20 : ∀ (x22 : Int) (I21 : IMem), inr x22 → GC I21 → (I21 = I0 ∧ (True)) → sat (k20 x22 I21) Q_ := by
                            intro x22 I21 ⟨ax22, bx22⟩ hRI21 jk20
                            subst ek20
                            have ejk20 := jk20.1.symm; replace jk20 := jk20.2; subst ejk20
                            refine sat_zg (by first | omega | grind | grind [wr32]) (fun g_20 => ?_)
                            refine sat_zwC hRI0 ⟨ax22, bx22⟩ (by first | omega | grind | grind [wr32]) (fun I23 eI23 hRI23 => ?_)
                            exact hk10 I23 hRI23 trivial
                          clear ek20
                          refine sat_ite (fun q_21 => ?_) (fun q_21 => ?_)
                          · exact hk20 1 I0 (lit_in rfl) hRI0 ⟨rfl, trivial⟩
                          · exact hk20 0 I0 (lit_in rfl) hRI0 ⟨rfl, trivial⟩
                        · refine sat_ite (fun q_22 => ?_) (fun q_22 => ?_)
                          · refine sat_zj (fun k25 ek25 => ?_)
                            have hk25 : ∀ (x27 : Int) (I26 : IMem), inr x27 → GC I26 → (I26 = I0 ∧ (True)) → sat (k25 x27 I26) Q_ := by
                              intro x27 I26 ⟨ax27, bx27⟩ hRI26 jk25
                              subst ek25
                              have ejk25 := jk25.1.symm; replace jk25 := jk25.2; subst ejk25
                              refine sat_zg (by first | omega | grind | grind [wr32]) (fun g_23 => ?_)
                              refine sat_zwC hRI0 ⟨ax27, bx27⟩ (by first | omega | grind | grind [wr32]) (fun I28 eI28 hRI28 => ?_)
                              exact hk10 I28 hRI28 trivial
                            clear ek25
                            refine sat_ite (fun q_24 => ?_) (fun q_24 => ?_)
                            · exact hk25 1 I0 (lit_in rfl) hRI0 ⟨rfl, trivial⟩
                            · exact hk25 0 I0 (lit_in rfl) hRI0 ⟨rfl, trivial⟩
                          · refine sat_ite (fun q_25 => ?_) (fun q_25 => ?_)
                            · refine sat_zj (fun k30 ek30 => ?_)
                              have hk30 : ∀ (x32 : Int) (I31 : IMem), inr x32 → GC I31 → (I31 = I0 ∧ (True)) → sat (k30 x32 I31) Q_ := by
                                intro x32 I31 ⟨ax32, bx32⟩ hRI31 jk30
                                subst ek30
                                have ejk30 := jk30.1.symm; replace jk30 := jk30.2; subst ejk30
                                refine sat_zg (by first | omega | grind | grind [wr32]) (fun g_26 => ?_)
                                refine sat_zwC hRI0 ⟨ax32, bx32⟩ (by first | omega | grind | grind [wr32]) (fun I33 eI33 hRI33 => ?_)
                                exact hk10 I33 hRI33 trivial
                              clear ek30
                              refine sat_ite (fun q_27 => ?_) (fun q_27 => ?_)
                              · exact hk30 1 I0 (lit_in rfl) hRI0 ⟨rfl, trivial⟩
                              · exact hk30 0 I0 (lit_in rfl) hRI0 ⟨rfl, trivial⟩
                            · refine sat_ite (fun q_28 => ?_) (fun q_28 => ?_)
                              · refine sat_zj (fun k35 ek35 => ?_)
                                have hk35 : ∀ (x37 : Int) (I36 : IMem), inr x37 → GC I36 → (I36 = I0 ∧ (True)) → sat (k35 x37 I36) Q_ := by
                                  intro x37 I36 ⟨ax37, bx37⟩ hRI36 jk35
                                  subst ek35
                                  have ejk35 := jk35.1.symm; replace jk35 := jk35.2; subst ejk35
                                  refine sat_zg (by first | omega | grind | grind [wr32]) (fun g_29 => ?_)
                                  refine sat_zwC hRI0 ⟨ax37, bx37⟩ (by first | omega | grind | grind [wr32]) (fun I38 eI38 hRI38 => ?_)
                                  exact hk10 I38 hRI38 trivial
                                clear ek35
                                refine sat_ite (fun q_30 => ?_) (fun q_30 => ?_)
                                · exact hk35 0 I0 (lit_in rfl) hRI0 ⟨rfl, trivial⟩
                                · refine sat_zg (by first | omega | grind | grind [wr32]) (fun g_31 => ?_)
                                  exact hk35 (wdiv x7 x9) I0 (wdiv_in _ _) hRI0 ⟨rfl, trivial⟩
                              · refine sat_ite (fun q_32 => ?_) (fun q_32 => ?_)
                                · refine sat_zg (by first | omega | grind | grind [wr32]) (fun g_33 => ?_)
                                  refine sat_zwC hRI0 (wr32_in _) (by first | omega | (simp (disch := omega) only [wr32_i2, wdiv_i2, wrem_i2]; omega) | grind | grind [wr32]) (fun I40 eI40 hRI40 => ?_)
                                  exact hk10 I40 hRI40 trivial
                                · refine sat_ite (fun q_34 => ?_) (fun q_34 => ?_)
                                  · refine sat_zg (by first | omega | grind | grind [wr32]) (fun g_35 => ?_)
                                    refine sat_zwC hRI0 (wr32_in _) (by first | omega | (simp (disch := omega) only [wr32_i2, wdiv_i2, wrem_i2]; omega) | grind | grind [wr32]) (fun I42 eI42 hRI42 => ?_)
                                    exact hk10 I42 hRI42 trivial
                                  · refine sat_ite (fun q_36 => ?_) (fun q_36 => ?_)
                                    · refine sat_zg (by first | omega | grind | grind [wr32]) (fun g_37 => ?_)
                                      refine sat_zwC hRI0 (wr32_in _) (by first | omega | (simp (disch := omega) only [wr32_i2, wdiv_i2, wrem_i2]; omega) | grind | grind [wr32]) (fun I44 eI44 hRI44 => ?_)
                                      exact hk10 I44 hRI44 trivial
                                    · refine sat_zj (fun k45 ek45 => ?_)
                                      have hk45 : ∀ (x47 : Int) (I46 : IMem), inr x47 → GC I46 → (I46 = I0 ∧ (True)) → sat (k45 x47 I46) Q_ := by
                                        intro x47 I46 ⟨ax47, bx47⟩ hRI46 jk45
                                        subst ek45
                                        have ejk45 := jk45.1.symm; replace jk45 := jk45.2; subst ejk45
                                        refine sat_zg (by first | omega | grind | grind [wr32]) (fun g_38 => ?_)
                                        refine sat_zwC hRI0 ⟨ax47, bx47⟩ (by first | omega | grind | grind [wr32]) (fun I48 eI48 hRI48 => ?_)
                                        exact hk10 I48 hRI48 trivial
                                      clear ek45
                                      refine sat_ite (fun q_39 => ?_) (fun q_39 => ?_)
                                      · exact hk45 x1 I0 ⟨ax1, bx1⟩ hRI0 ⟨rfl, trivial⟩
                                      · refine sat_zg (by first | omega | grind | grind [wr32]) (fun g_40 => ?_)
                                        have ⟨r_41a, r_41b⟩ : -2147483648 ≤ I0 o3 x2.toNat ∧ I0 o3 x2.toNat < 2147483648 := hRI0.1 o3 x2.toNat
                                        exact hk45 (I0 o3 x2.toNat) I0 (hRI0.1 o3 x2.toNat) hRI0 ⟨rfl, trivial⟩
                · exact hret _ _ (lit_in rfl) hRI0 trivial
              · try simp (disch := omega) only [wr32_i2, wdiv_i2, wrem_i2] at q_7
                exact hret _ _ (lit_in rfl) hRI0 trivial
          clear ek3
          refine sat_ite (fun q_42 => ?_) (fun q_42 => ?_)
          · refine sat_ite (fun q_43 => ?_) (fun q_43 => ?_)
            · exact hk3 0 I0 (lit_in rfl) hRI0 ⟨rfl, (by first | omega | (simp (disch := omega) only [wr32_i2, wdiv_i2, wrem_i2]; omega) | grind | grind [wr32])⟩
            · exact hk3 ((-1)) I0 (lit_in rfl) hRI0 ⟨rfl, (by first | omega | (simp (disch := omega) only [wr32_i2, wdiv_i2, wrem_i2]; omega) | grind | grind [wr32])⟩
          · exact hk3 1 I0 (lit_in rfl) hRI0 ⟨rfl, (by first | omega | (simp (disch := omega) only [wr32_i2, wdiv_i2, wrem_i2]; omega) | grind | grind [wr32])⟩
        · exact hk_378 w4 I0 ⟨aw4, bw4⟩ hRI0 (by first | omega | (simp (disch := omega) only [wr32_i2, wdiv_i2, wrem_i2]; omega) | grind | grind [wr32])
      · exact hk_378 w4 I0 ⟨aw4, bw4⟩ hRI0 (by first | omega | (simp (disch := omega) only [wr32_i2, wdiv_i2, wrem_i2]; omega) | grind | grind [wr32])
theorem ok_W_reckon (fu : Nat) (o0 : Nat) (a1 : Int) (a2 : Int) (o3 n3 : Nat) (I0 : IMem) (hfu : 5000000000 < fu) (hRI0 : GC I0) (To0 : (16 ≤ o0 ∧ o0 ≤ 36) ∨ (56 ≤ o0 ∧ o0 ≤ 76) ∨ (97 ≤ o0 ∧ o0 ≤ 117) ∨ o0 = 149) (To3 : o3 ≠ 9 ∧ o3 ≠ 49 ∧ o3 ≠ 90) (qa1 : inr a1) (qa2 : inr a2) (hn3 : n3 < 1000000) : sat (f_W_reckon fu o0 a1 a2 o3 n3 I0) (fun v I => inr v ∧ GC I ∧ (True)) := by
  unfold f_W_reckon
  obtain ⟨aa1, ba1⟩ := qa1
  obtain ⟨aa2, ba2⟩ := qa2
  refine ok_W_reckon_6 fu _ o0 a2 o3 n3 hfu (by omega) (by omega) ⟨aa2, ba2⟩ (by omega) ?_ (fun v I h1 h2 h3 => sat_zr ⟨h1, h2, (by first | exact trivial | exact h3 | grind)⟩) fu ((-1)) a1 I0 (lit_in rfl) ⟨aa1, ba1⟩ hRI0 (by first | omega | (simp (disch := omega) only [wr32_i2, wdiv_i2, wrem_i2]; omega) | grind | grind [wr32]) (by first | omega | (simp (disch := omega) only [wr32_i2, wdiv_i2, wrem_i2]; omega) | grind | grind [wr32])
  · intro x50 I49 ⟨ax50, bx50⟩ hRI49 x_1
    refine sat_ite (fun q_2 => ?_) (fun q_2 => ?_)
    · exact sat_zr ⟨(lit_in rfl), hRI49, trivial⟩
    · refine sat_zg (by first | omega | grind | grind [wr32]) (fun g_3 => ?_)
      have ⟨r_4a, r_4b⟩ : -2147483648 ≤ I49 (o0 + 4) x50.toNat ∧ I49 (o0 + 4) x50.toNat < 2147483648 := hRI49.1 (o0 + 4) x50.toNat
      exact sat_zr ⟨(hRI49.1 (o0 + 4) x50.toNat), hRI49, trivial⟩
theorem ok_W_value_2 (fu : Nat) (k_50 : Int → Int → IMem → Res) (o0 : Nat) (o1 : Nat) (n1 : Nat) (hfu : 5000000000 < fu) (To0 : (16 ≤ o0 ∧ o0 ≤ 36) ∨ (56 ≤ o0 ∧ o0 ≤ 76) ∨ (97 ≤ o0 ∧ o0 ≤ 117) ∨ o0 = 149) (To1 : o1 ≠ 9 ∧ o1 ≠ 49 ∧ o1 ≠ 90) (hn1 : n1 < 1000000) {Q_ : Int → IMem → Prop} (hk_50 : ∀ (z0 : Int) (z1 : Int) (I9 : IMem), inr z0 → inr z1 → GC I9 → (0 ≤ z0 ∧ z0 < 16) → sat (k_50 z0 z1 I9) Q_) (hret : ∀ v I, inr v → GC I → (True) → sat (zr v I) Q_) : ∀ (m : Nat) (w2 : Int) (I0 : IMem), inr w2 → GC I0 → (0 ≤ w2) → (2147483648 - w2).toNat < m → sat (f_W_value_2 fu k_50 o0 o1 n1 m w2 I0) Q_ := by
  intro m
  induction m with
  | zero => intro w2 I0 _ _ _ h0; exact absurd h0 (Nat.not_lt_zero _)
  | succ m hR_ =>
    intro w2 I0 ⟨aw2, bw2⟩ hRI0 hinv hmeas
    show sat (fb_W_value_2 fu k_50 o0 o1 n1 (f_W_value_2 fu k_50 o0 o1 n1 m) w2 I0) Q_
    unfold fb_W_value_2
    have ⟨r_1a, r_1b⟩ : -2147483648 ≤ I0 o0 4 ∧ I0 o0 4 < 2147483648 := hRI0.1 o0 4
    refine sat_ite (fun q_2 => ?_) (fun q_2 => ?_)
    · refine sat_ite (fun q_3 => ?_) (fun q_3 => ?_)
      · refine sat_zg (by first | omega | grind | grind [wr32]) (fun g_4 => ?_)
        have ⟨r_5a, r_5b⟩ : -2147483648 ≤ I0 (o0 + 3) w2.toNat ∧ I0 (o0 + 3) w2.toNat < 2147483648 := hRI0.1 (o0 + 3) w2.toNat
        refine sat_zl (hRI0.1 (o0 + 3) w2.toNat) (fun x1 hx1 ax1 bx1 => ?_)
        refine sat_zl (wr32_in _) (fun x2 hx2 ax2 bx2 => ?_)
        try simp (disch := omega) only [wr32_i2, wdiv_i2, wrem_i2] at hx2
        refine sat_zg (by first | omega | grind | grind [wr32]) (fun g_6 => ?_)
        have ⟨r_7a, r_7b⟩ : -2147483648 ≤ I0 (o0 + 2) x2.toNat ∧ I0 (o0 + 2) x2.toNat < 2147483648 := hRI0.1 (o0 + 2) x2.toNat
        refine sat_zl (hRI0.1 (o0 + 2) x2.toNat) (fun x3 hx3 ax3 bx3 => ?_)
        refine sat_ite (fun q_8 => ?_) (fun q_8 => ?_)
        · exact hk_50 w2 x1 I0 ⟨aw2, bw2⟩ ⟨ax1, bx1⟩ hRI0 (by first | omega | (simp (disch := omega) only [wr32_i2, wdiv_i2, wrem_i2]; omega) | grind | grind [wr32])
        · refine sat_zb (ok_W_reckon fu o0 x1 x3 o1 n1 I0 hfu hRI0 (by omega) (by omega) ⟨ax1, bx1⟩ ⟨ax3, bx3⟩ (by omega)) (fun y4 I5 c_9 ⟨⟨ay4, by4⟩, hRI5, pI5⟩ => ?_)
          refine sat_ite (fun q_10 => ?_) (fun q_10 => ?_)
          · refine sat_zl (wr32_in _) (fun x7 hx7 ax7 bx7 => ?_)
            try simp (disch := omega) only [wr32_i2, wdiv_i2, wrem_i2] at hx7
            exact hR_ x7 I5 ⟨ax7, bx7⟩ hRI5 (by first | omega | (simp (disch := omega) only [wr32_i2, wdiv_i2, wrem_i2]; omega) | grind | grind [wr32]) (by first | omega | (simp (disch := omega) only [wr32_i2, wdiv_i2, wrem_i2]; omega) | grind | grind [wr32])
          · exact hk_50 w2 x1 I5 ⟨aw2, bw2⟩ ⟨ax1, bx1⟩ hRI5 (by first | omega | (simp (disch := omega) only [wr32_i2, wdiv_i2, wrem_i2]; omega) | grind | grind [wr32])
      · exact hret _ _ (lit_in rfl) hRI0 trivial
    · exact hret _ _ (lit_in rfl) hRI0 trivial
theorem ok_W_value (fu : Nat) (o0 : Nat) (o1 n1 : Nat) (I0 : IMem) (hfu : 5000000000 < fu) (hRI0 : GC I0) (To0 : (16 ≤ o0 ∧ o0 ≤ 36) ∨ (56 ≤ o0 ∧ o0 ≤ 76) ∨ (97 ≤ o0 ∧ o0 ≤ 117) ∨ o0 = 149) (To1 : o1 ≠ 9 ∧ o1 ≠ 49 ∧ o1 ≠ 90) (hn1 : n1 < 1000000) : sat (f_W_value fu o0 o1 n1 I0) (fun v I => inr v ∧ GC I ∧ (True)) := by
  unfold f_W_value
  refine ok_W_value_2 fu _ o0 o1 n1 hfu (by omega) (by omega) (by omega) ?_ (fun v I h1 h2 h3 => sat_zr ⟨h1, h2, (by first | exact trivial | exact h3 | grind)⟩) fu 0 I0 (lit_in rfl) hRI0 (by first | omega | (simp (disch := omega) only [wr32_i2, wdiv_i2, wrem_i2]; omega) | grind | grind [wr32]) (by first | omega | (simp (disch := omega) only [wr32_i2, wdiv_i2, wrem_i2]; omega) | grind | grind [wr32])
  · intro x9 x10 I8 ⟨ax9, bx9⟩ ⟨ax10, bx10⟩ hRI8 x_1
    refine sat_zg (by first | omega | grind | grind [wr32]) (fun g_2 => ?_)
    have ⟨r_4a, r_4b⟩ : -2147483648 ≤ I8 (o0 + 2) x9.toNat ∧ I8 (o0 + 2) x9.toNat < 2147483648 := hRI8.1 (o0 + 2) x9.toNat
    refine sat_zb (ok_W_reckon fu o0 (I8 (o0 + 2) x9.toNat) x10 o1 n1 I8 hfu hRI8 (by omega) (by omega) (hRI8.1 (o0 + 2) x9.toNat) ⟨ax10, bx10⟩ (by omega)) (fun y11 I12 c_3 ⟨⟨ay11, by11⟩, hRI12, pI12⟩ => ?_)
    exact sat_zr ⟨⟨ay11, by11⟩, hRI12, trivial⟩
theorem ok_H_lineFor (fu : Nat) (o0 : Nat) (a1 : Int) (a2 : Int) (I0 : IMem) (hfu : 5000000000 < fu) (hRI0 : GC I0) (To0 : o0 = 1 ∨ o0 = 41 ∨ o0 = 82) (qa1 : inr a1) (qa2 : inr a2) : sat (f_H_lineFor fu o0 a1 a2 I0) (fun v I => inr v ∧ GC I ∧ (True)) := by
  unfold f_H_lineFor
  obtain ⟨aa1, ba1⟩ := qa1
  obtain ⟨aa2, ba2⟩ := qa2
  have ⟨r_1a, r_1b⟩ : -2147483648 ≤ I0 o0 11 ∧ I0 o0 11 < 2147483648 := hRI0.1 o0 11
  refine sat_ite (fun q_2 => ?_) (fun q_2 => ?_)
  · refine sat_zwC hRI0 ⟨aa1, ba1⟩ (by first | omega | grind | grind [wr32]) (fun I1 eI1 hRI1 => ?_)
    refine sat_zwC hRI1 ⟨aa2, ba2⟩ (by first | omega | grind | grind [wr32]) (fun I2 eI2 hRI2 => ?_)
    refine sat_zb (ok_L_shortest fu (o0 + 6) I2 hfu hRI2 (by omega)) (fun y3 I4 c_3 ⟨⟨ay3, by3⟩, _, pI4⟩ => ?_)
    have eI4 := pI4.1.symm; replace pI4 := pI4.2; subst eI4
    refine sat_zwC hRI2 ⟨ay3, by3⟩ (by first | omega | grind | grind [wr32]) (fun I6 eI6 hRI6 => ?_)
    have ⟨r_4a, r_4b⟩ : -2147483648 ≤ I6 (o0 + 8) 0 ∧ I6 (o0 + 8) 0 < 2147483648 := hRI6.1 (o0 + 8) 0
    refine sat_zwC hRI6 (hRI6.1 (o0 + 8) 0) (by first | omega | grind | grind [wr32]) (fun I7 eI7 hRI7 => ?_)
    refine sat_zb (ok_W_value fu (o0 + 35) (o0 + 13) 16 I7 hfu hRI7 (by omega) (by omega) (by omega)) (fun y8 I9 c_5 ⟨⟨ay8, by8⟩, hRI9, pI9⟩ => ?_)
    exact sat_zr ⟨⟨ay8, by8⟩, hRI9, trivial⟩
  · refine sat_ite (fun q_6 => ?_) (fun q_6 => ?_)
    · exact sat_zr ⟨(lit_in rfl), hRI0, trivial⟩
    · exact sat_zr ⟨(wand_in _ _), hRI0, trivial⟩
theorem ok_L_append (fu : Nat) (o0 : Nat) (a1 : Int) (o2 n2 : Nat) (a3 : Int) (I0 : IMem) (hfu : 5000000000 < fu) (hRI0 : GC I0) (To0 : o0 = 7 ∨ o0 = 47 ∨ o0 = 88) (To2 : o2 ≠ 9 ∧ o2 ≠ 49 ∧ o2 ≠ 90) (qa1 : inr a1) (hn2 : n2 < 1000000) (qa3 : inr a3) : sat (f_L_append fu o0 a1 o2 n2 a3 I0) (fun v I => inr v ∧ GC I ∧ (True)) := by
  unfold f_L_append
  obtain ⟨aa1, ba1⟩ := qa1
  obtain ⟨aa3, ba3⟩ := qa3
  refine sat_zb (ok_S_isLine fu a1 I0 hfu hRI0 ⟨aa1, ba1⟩) (fun y1 I2 c_1 ⟨⟨ay1, by1⟩, _, pI2⟩ => ?_)
  have eI2 := pI2.1.symm; replace pI2 := pI2.2; subst eI2
  refine sat_ite (fun q_2 => ?_) (fun q_2 => ?_)
  · exact sat_zr ⟨(lit_in rfl), hRI0, trivial⟩
  · refine sat_zg (by first | omega | grind | grind [wr32]) (fun g_3 => ?_)
    have ⟨r_4a, r_4b⟩ : -2147483648 ≤ I0 (o0 + 2) a1.toNat ∧ I0 (o0 + 2) a1.toNat < 2147483648 := hRI0.1 (o0 + 2) a1.toNat
    try have r_4c := ci_at hRI0 To0 (l := a1.toNat) (by omega)
    refine sat_ite (fun q_5 => ?_) (fun q_5 => ?_)
    · refine sat_ite (fun q_6 => ?_) (fun q_6 => ?_)
      · exact sat_zr ⟨(lit_in rfl), hRI0, trivial⟩
      · refine sat_ite (fun q_7 => ?_) (fun q_7 => ?_)
        · try simp (disch := omega) only [wr32_i2, wdiv_i2, wrem_i2] at q_7
          exact sat_zr ⟨(lit_in rfl), hRI0, trivial⟩
        · try simp (disch := omega) only [wr32_i2, wdiv_i2, wrem_i2] at q_7
          refine sat_zg (by first | omega | grind | grind [wr32]) (fun g_8 => ?_)
          refine sat_zl (wr32_in _) (fun x4 hx4 ax4 bx4 => ?_)
          try simp (disch := omega) only [wr32_i2, wdiv_i2, wrem_i2] at hx4
          refine sat_zg (by first | omega | (simp (disch := omega) only [wr32_i2, wdiv_i2, wrem_i2]; omega) | grind | grind [wr32]) (fun g_9 => ?_)
          refine sat_zcC hRI0 (by omega) (fun I5 eI5 hRI5 => ?_)
          refine sat_zg (by first | omega | grind | grind [wr32]) (fun g_10 => ?_)
          refine sat_zg (by first | omega | grind | grind [wr32]) (fun g_11 => ?_)
          have ⟨r_12a, r_12b⟩ : -2147483648 ≤ I5 (o0 + 2) a1.toNat ∧ I5 (o0 + 2) a1.toNat < 2147483648 := hRI5.1 (o0 + 2) a1.toNat
          try have r_12c := ci_at hRI5 To0 (l := a1.toNat) (by omega)
          refine sat_zwC hRI5 (wr32_in _) (by first | omega | (simp (disch := omega) only [wr32_i2, wdiv_i2, wrem_i2]; omega) | grind | grind [wr32]) (fun I6 eI6 hRI6 => ?_)
          exact sat_zr ⟨(lit_in rfl), hRI6, trivial⟩
    · exact sat_zr ⟨(lit_in rfl), hRI0, trivial⟩
theorem ok_H_enter (fu : Nat) (o0 : Nat) (a1 : Int) (a2 : Int) (a3 : Int) (I0 : IMem) (hfu : 5000000000 < fu) (hRI0 : GC I0) (To0 : o0 = 1 ∨ o0 = 41 ∨ o0 = 82) (qa1 : inr a1) (qa2 : inr a2) (qa3 : inr a3) : sat (f_H_enter fu o0 a1 a2 a3 I0) (fun v I => inr v ∧ GC I ∧ (True)) := by
  unfold f_H_enter
  obtain ⟨aa1, ba1⟩ := qa1
  obtain ⟨aa2, ba2⟩ := qa2
  obtain ⟨aa3, ba3⟩ := qa3
  have ⟨r_1a, r_1b⟩ : -2147483648 ≤ I0 o0 7 ∧ I0 o0 7 < 2147483648 := hRI0.1 o0 7
  refine sat_zwC hRI0 (hRI0.1 o0 7) (by first | omega | grind | grind [wr32]) (fun I1 eI1 hRI1 => ?_)
  refine sat_zwC hRI1 ⟨aa1, ba1⟩ (by first | omega | grind | grind [wr32]) (fun I2 eI2 hRI2 => ?_)
  refine sat_zwC hRI2 ⟨aa2, ba2⟩ (by first | omega | grind | grind [wr32]) (fun I3 eI3 hRI3 => ?_)
  refine sat_zwC hRI3 ⟨aa3, ba3⟩ (by first | omega | grind | grind [wr32]) (fun I4 eI4 hRI4 => ?_)
  have ⟨r_2a, r_2b⟩ : -2147483648 ≤ I4 o0 7 ∧ I4 o0 7 < 2147483648 := hRI4.1 o0 7
  refine sat_zwC hRI4 (wr32_in _) (by first | omega | (simp (disch := omega) only [wr32_i2, wdiv_i2, wrem_i2]; omega) | grind | grind [wr32]) (fun I5 eI5 hRI5 => ?_)
  refine sat_zb (ok_H_lineFor fu o0 a2 a3 I5 hfu hRI5 (by omega) ⟨aa2, ba2⟩ ⟨aa3, ba3⟩) (fun y6 I7 c_3 ⟨⟨ay6, by6⟩, hRI7, pI7⟩ => ?_)
  refine sat_zb (ok_L_append fu (o0 + 6) y6 (o0 + 14) 6 0 I7 hfu hRI7 (by omega) (by omega) ⟨ay6, by6⟩ (by omega) (lit_in rfl)) (fun y9 I10 c_4 ⟨⟨ay9, by9⟩, hRI10, pI10⟩ => ?_)
  refine sat_ite (fun q_5 => ?_) (fun q_5 => ?_)
  · have ⟨r_6a, r_6b⟩ : -2147483648 ≤ I10 (o0 + 10) 6 ∧ I10 (o0 + 10) 6 < 2147483648 := hRI10.1 (o0 + 10) 6
    refine sat_zwC hRI10 (wr32_in _) (by first | omega | (simp (disch := omega) only [wr32_i2, wdiv_i2, wrem_i2]; omega) | grind | grind [wr32]) (fun I12 eI12 hRI12 => ?_)
    exact sat_zr ⟨(lit_in rfl), hRI12, trivial⟩
  · exact sat_zr ⟨⟨ay6, by6⟩, hRI10, trivial⟩
theorem ok_S_come (fu : Nat) (o0 : Nat) (a1 : Int) (a2 : Int) (a3 : Int) (I0 : IMem) (hfu : 5000000000 < fu) (hRI0 : GC I0) (To0 : o0 = 0) (qa1 : inr a1) (qa2 : inr a2) (qa3 : inr a3) : sat (f_S_come fu o0 a1 a2 a3 I0) (fun v I => inr v ∧ GC I ∧ (True)) := by
  unfold f_S_come
  obtain ⟨aa1, ba1⟩ := qa1
  obtain ⟨aa2, ba2⟩ := qa2
  obtain ⟨aa3, ba3⟩ := qa3
  refine sat_zb (ok_S_canBe fu a1 a2 a3 I0 hfu hRI0 ⟨aa1, ba1⟩ ⟨aa2, ba2⟩ ⟨aa3, ba3⟩) (fun y1 I2 c_1 ⟨⟨ay1, by1⟩, _, pI2⟩ => ?_)
  have eI2 := pI2.1.symm; replace pI2 := pI2.2; subst eI2
  refine sat_ite (fun q_2 => ?_) (fun q_2 => ?_)
  · exact sat_zr ⟨(lit_in rfl), hRI0, trivial⟩
  · refine sat_zb (ok_H_enter fu (o0 + 1) a1 a2 a3 I0 hfu hRI0 (by omega) ⟨aa1, ba1⟩ ⟨aa2, ba2⟩ ⟨aa3, ba3⟩) (fun y4 I5 c_3 ⟨⟨ay4, by4⟩, hRI5, pI5⟩ => ?_)
    exact sat_zr ⟨⟨ay4, by4⟩, hRI5, trivial⟩
theorem ok_H_lawInForce (fu : Nat) (o0 : Nat) (I0 : IMem) (hfu : 5000000000 < fu) (hRI0 : GC I0) (To0 : o0 = 1 ∨ o0 = 41 ∨ o0 = 82) : sat (f_H_lawInForce fu o0 I0) (fun v I => inr v ∧ GC I ∧ (I = I0 ∧ ((o0 : Int) + 15 ≤ v ∧ v ≤ o0 + 35))) := by
  unfold f_H_lawInForce
  have ⟨r_1a, r_1b⟩ : -2147483648 ≤ I0 (o0 + 1) 5 ∧ I0 (o0 + 1) 5 < 2147483648 := hRI0.1 (o0 + 1) 5
  refine sat_zl (hRI0.1 (o0 + 1) 5) (fun x1 hx1 ax1 bx1 => ?_)
  refine sat_ite (fun q_2 => ?_) (fun q_2 => ?_)
  · exact sat_zr ⟨⟨by omega, by omega⟩, hRI0, ⟨rfl, (by first | omega | (simp (disch := omega) only [wr32_i2, wdiv_i2, wrem_i2]; omega) | grind | grind [wr32])⟩⟩
  · refine sat_ite (fun q_3 => ?_) (fun q_3 => ?_)
    · refine sat_zg (by first | omega | grind | grind [wr32]) (fun g_4 => ?_)
      exact sat_zr ⟨⟨by omega, by omega⟩, hRI0, ⟨rfl, (by first | omega | (simp (disch := omega) only [wr32_i2, wdiv_i2, wrem_i2]; omega) | grind | grind [wr32])⟩⟩
    · exact sat_zr ⟨⟨by omega, by omega⟩, hRI0, ⟨rfl, (by first | omega | (simp (disch := omega) only [wr32_i2, wdiv_i2, wrem_i2]; omega) | grind | grind [wr32])⟩⟩
theorem ok_L_countOf (fu : Nat) (o0 : Nat) (a1 : Int) (I0 : IMem) (hfu : 5000000000 < fu) (hRI0 : GC I0) (To0 : o0 = 7 ∨ o0 = 47 ∨ o0 = 88) (qa1 : inr a1) : sat (f_L_countOf fu o0 a1 I0) (fun v I => inr v ∧ GC I ∧ (I = I0 ∧ (True))) := by
  unfold f_L_countOf
  obtain ⟨aa1, ba1⟩ := qa1
  refine sat_zb (ok_S_isLine fu a1 I0 hfu hRI0 ⟨aa1, ba1⟩) (fun y1 I2 c_1 ⟨⟨ay1, by1⟩, _, pI2⟩ => ?_)
  have eI2 := pI2.1.symm; replace pI2 := pI2.2; subst eI2
  refine sat_ite (fun q_2 => ?_) (fun q_2 => ?_)
  · exact sat_zr ⟨(lit_in rfl), hRI0, ⟨rfl, trivial⟩⟩
  · refine sat_zg (by first | omega | grind | grind [wr32]) (fun g_3 => ?_)
    have ⟨r_5a, r_5b⟩ : -2147483648 ≤ I0 (o0 + 2) a1.toNat ∧ I0 (o0 + 2) a1.toNat < 2147483648 := hRI0.1 (o0 + 2) a1.toNat
    try have r_5c := ci_at hRI0 To0 (l := a1.toNat) (by omega)
    refine sat_zb (ok_JM_min fu (I0 (o0 + 2) a1.toNat) 40 I0 hfu hRI0.1 (hRI0.1 (o0 + 2) a1.toNat) (lit_in rfl)) (fun y4 I5 c_4 ⟨⟨ay4, by4⟩, _, pI5⟩ => ?_)
    have eI5 := pI5.1.symm; replace pI5 := pI5.2; subst eI5
    exact sat_zr ⟨⟨ay4, by4⟩, hRI0, ⟨rfl, trivial⟩⟩
theorem ok_L_get (fu : Nat) (o0 : Nat) (a1 : Int) (a2 : Int) (I0 : IMem) (hfu : 5000000000 < fu) (hRI0 : GC I0) (To0 : o0 = 7 ∨ o0 = 47 ∨ o0 = 88) (qa1 : inr a1) (qa2 : inr a2) : sat (f_L_get fu o0 a1 a2 I0) (fun v I => inr v ∧ GC I ∧ (I = I0 ∧ (True))) := by
  unfold f_L_get
  obtain ⟨aa1, ba1⟩ := qa1
  obtain ⟨aa2, ba2⟩ := qa2
  refine sat_zl (wr32_in _) (fun x1 hx1 ax1 bx1 => ?_)
  try simp (disch := omega) only [wr32_i2, wdiv_i2, wrem_i2] at hx1
  refine sat_ite (fun q_1 => ?_) (fun q_1 => ?_)
  · exact sat_zr ⟨(lit_in rfl), hRI0, ⟨rfl, trivial⟩⟩
  · refine sat_ite (fun q_2 => ?_) (fun q_2 => ?_)
    · refine sat_zg (by first | omega | grind | grind [wr32]) (fun g_3 => ?_)
      have ⟨r_4a, r_4b⟩ : -2147483648 ≤ I0 (o0 + 1) x1.toNat ∧ I0 (o0 + 1) x1.toNat < 2147483648 := hRI0.1 (o0 + 1) x1.toNat
      exact sat_zr ⟨(hRI0.1 (o0 + 1) x1.toNat), hRI0, ⟨rfl, trivial⟩⟩
    · exact sat_zr ⟨(lit_in rfl), hRI0, ⟨rfl, trivial⟩⟩
theorem ok_H_weigh (fu : Nat) (o0 : Nat) (a1 : Int) (a2 : Int) (a3 : Int) (I0 : IMem) (hfu : 5000000000 < fu) (hRI0 : GC I0) (To0 : o0 = 1 ∨ o0 = 41 ∨ o0 = 82) (qa1 : inr a1) (qa2 : inr a2) (qa3 : inr a3) : sat (f_H_weigh fu o0 a1 a2 a3 I0) (fun v I => inr v ∧ GC I ∧ (True)) := by
  unfold f_H_weigh
  obtain ⟨aa1, ba1⟩ := qa1
  obtain ⟨aa2, ba2⟩ := qa2
  obtain ⟨aa3, ba3⟩ := qa3
  refine sat_zl (wdiv_in _ _) (fun x1 hx1 ax1 bx1 => ?_)
  try simp (disch := omega) only [wr32_i2, wdiv_i2, wrem_i2] at hx1
  refine sat_zl (wrem_in _ _) (fun x2 hx2 ax2 bx2 => ?_)
  try simp (disch := omega) only [wr32_i2, wdiv_i2, wrem_i2] at hx2
  refine sat_zb (ok_L_get fu (o0 + 6) a1 2 I0 hfu hRI0 (by omega) ⟨aa1, ba1⟩ (lit_in rfl)) (fun y3 I4 c_1 ⟨⟨ay3, by3⟩, _, pI4⟩ => ?_)
  have eI4 := pI4.1.symm; replace pI4 := pI4.2; subst eI4
  refine sat_zwC hRI0 ⟨ay3, by3⟩ (by first | omega | grind | grind [wr32]) (fun I6 eI6 hRI6 => ?_)
  refine sat_zwC hRI6 ⟨aa2, ba2⟩ (by first | omega | grind | grind [wr32]) (fun I7 eI7 hRI7 => ?_)
  refine sat_zwC hRI7 ⟨ax2, bx2⟩ (by first | omega | grind | grind [wr32]) (fun I8 eI8 hRI8 => ?_)
  refine sat_zwC hRI8 ⟨ax1, bx1⟩ (by first | omega | grind | grind [wr32]) (fun I9 eI9 hRI9 => ?_)
  refine sat_zb (ok_L_get fu (o0 + 6) a1 5 I9 hfu hRI9 (by omega) ⟨aa1, ba1⟩ (lit_in rfl)) (fun y10 I11 c_2 ⟨⟨ay10, by10⟩, _, pI11⟩ => ?_)
  have eI11 := pI11.1.symm; replace pI11 := pI11.2; subst eI11
  refine sat_zwC hRI9 ⟨ay10, by10⟩ (by first | omega | grind | grind [wr32]) (fun I13 eI13 hRI13 => ?_)
  refine sat_zb (ok_L_get fu (o0 + 6) a1 4 I13 hfu hRI13 (by omega) ⟨aa1, ba1⟩ (lit_in rfl)) (fun y14 I15 c_3 ⟨⟨ay14, by14⟩, _, pI15⟩ => ?_)
  have eI15 := pI15.1.symm; replace pI15 := pI15.2; subst eI15
  refine sat_zwC hRI13 ⟨ay14, by14⟩ (by first | omega | grind | grind [wr32]) (fun I17 eI17 hRI17 => ?_)
  refine sat_zb (ok_L_get fu (o0 + 6) a1 3 I17 hfu hRI17 (by omega) ⟨aa1, ba1⟩ (lit_in rfl)) (fun y18 I19 c_4 ⟨⟨ay18, by18⟩, _, pI19⟩ => ?_)
  have eI19 := pI19.1.symm; replace pI19 := pI19.2; subst eI19
  refine sat_zwC hRI17 ⟨ay18, by18⟩ (by first | omega | grind | grind [wr32]) (fun I21 eI21 hRI21 => ?_)
  refine sat_zwC hRI21 ⟨aa3, ba3⟩ (by first | omega | grind | grind [wr32]) (fun I22 eI22 hRI22 => ?_)
  refine sat_zb (ok_L_countOf fu (o0 + 6) x1 I22 hfu hRI22 (by omega) ⟨ax1, bx1⟩) (fun y23 I24 c_5 ⟨⟨ay23, by23⟩, _, pI24⟩ => ?_)
  have eI24 := pI24.1.symm; replace pI24 := pI24.2; subst eI24
  refine sat_zwC hRI22 (wr32_in _) (by first | omega | (simp (disch := omega) only [wr32_i2, wdiv_i2, wrem_i2]; omega) | grind | grind [wr32]) (fun I26 eI26 hRI26 => ?_)
  exact sat_zr ⟨(lit_in rfl), hRI26, trivial⟩
theorem ok_L_has (fu : Nat) (o0 : Nat) (a1 : Int) (a2 : Int) (I0 : IMem) (hfu : 5000000000 < fu) (hRI0 : GC I0) (To0 : o0 = 7 ∨ o0 = 47 ∨ o0 = 88) (qa1 : inr a1) (qa2 : inr a2) : sat (f_L_has fu o0 a1 a2 I0) (fun v I => inr v ∧ GC I ∧ (I = I0 ∧ ((v = 0 ∨ v = 1) ∧ (v = 1 → 0 ≤ a1 ∧ a1 < 6 ∧ 0 ≤ a2 ∧ a2 < I0 (o0 + 2) a1.toNat ∧ a2 < 40)))) := by
  unfold f_L_has
  obtain ⟨aa1, ba1⟩ := qa1
  obtain ⟨aa2, ba2⟩ := qa2
  refine sat_zb (ok_S_isLine fu a1 I0 hfu hRI0 ⟨aa1, ba1⟩) (fun y1 I2 c_1 ⟨⟨ay1, by1⟩, _, pI2⟩ => ?_)
  have eI2 := pI2.1.symm; replace pI2 := pI2.2; subst eI2
  refine sat_ite (fun q_2 => ?_) (fun q_2 => ?_)
  · exact sat_zr ⟨(lit_in rfl), hRI0, ⟨rfl, (by first | omega | (simp (disch := omega) only [wr32_i2, wdiv_i2, wrem_i2]; omega) | grind | grind [wr32])⟩⟩
  · refine sat_ite (fun q_3 => ?_) (fun q_3 => ?_)
    · exact sat_zr ⟨(lit_in rfl), hRI0, ⟨rfl, (by first | omega | (simp (disch := omega) only [wr32_i2, wdiv_i2, wrem_i2]; omega) | grind | grind [wr32])⟩⟩
    · refine sat_zg (by first | omega | grind | grind [wr32]) (fun g_4 => ?_)
      have ⟨r_5a, r_5b⟩ : -2147483648 ≤ I0 (o0 + 2) a1.toNat ∧ I0 (o0 + 2) a1.toNat < 2147483648 := hRI0.1 (o0 + 2) a1.toNat
      try have r_5c := ci_at hRI0 To0 (l := a1.toNat) (by omega)
      refine sat_ite (fun q_6 => ?_) (fun q_6 => ?_)
      · exact sat_zr ⟨(lit_in rfl), hRI0, ⟨rfl, (by first | omega | (simp (disch := omega) only [wr32_i2, wdiv_i2, wrem_i2]; omega) | grind | grind [wr32])⟩⟩
      · exact sat_zr ⟨(lit_in rfl), hRI0, ⟨rfl, (by first | omega | (simp (disch := omega) only [wr32_i2, wdiv_i2, wrem_i2]; omega) | grind | grind [wr32])⟩⟩
theorem ok_S_group (fu : Nat) (o0 : Nat) (a1 : Int) (a2 : Int) (a3 : Int) (I0 : IMem) (hfu : 5000000000 < fu) (hRI0 : GC I0) (To0 : o0 = 0) (qa1 : inr a1) (qa2 : inr a2) (qa3 : inr a3) : sat (f_S_group fu o0 a1 a2 a3 I0) (fun v I => inr v ∧ GC I ∧ (True)) := by
  unfold f_S_group
  obtain ⟨aa1, ba1⟩ := qa1
  obtain ⟨aa2, ba2⟩ := qa2
  obtain ⟨aa3, ba3⟩ := qa3
  refine sat_zb (ok_S_isLine fu a1 I0 hfu hRI0 ⟨aa1, ba1⟩) (fun y1 I2 c_1 ⟨⟨ay1, by1⟩, _, pI2⟩ => ?_)
  have eI2 := pI2.1.symm; replace pI2 := pI2.2; subst eI2
  refine sat_ite (fun q_2 => ?_) (fun q_2 => ?_)
  · exact sat_zr ⟨(lit_in rfl), hRI0, trivial⟩
  · refine sat_ite (fun q_3 => ?_) (fun q_3 => ?_)
    · exact sat_zr ⟨(lit_in rfl), hRI0, trivial⟩
    · refine sat_ite (fun q_4 => ?_) (fun q_4 => ?_)
      · refine sat_ite (fun q_5 => ?_) (fun q_5 => ?_)
        · exact sat_zr ⟨(lit_in rfl), hRI0, trivial⟩
        · refine sat_ite (fun q_6 => ?_) (fun q_6 => ?_)
          · exact sat_zr ⟨(lit_in rfl), hRI0, trivial⟩
          · refine sat_zb (ok_L_has fu (o0 + 7) a1 a2 I0 hfu hRI0 (by omega) ⟨aa1, ba1⟩ ⟨aa2, ba2⟩) (fun y4 I5 c_7 ⟨⟨ay4, by4⟩, _, pI5⟩ => ?_)
            have eI5 := pI5.1.symm; replace pI5 := pI5.2; subst eI5
            refine sat_ite (fun q_8 => ?_) (fun q_8 => ?_)
            · exact sat_zr ⟨(lit_in rfl), hRI0, trivial⟩
            · refine sat_zl (wr32_in _) (fun x7 hx7 ax7 bx7 => ?_)
              try simp (disch := omega) only [wr32_i2, wdiv_i2, wrem_i2] at hx7
              refine sat_ite (fun q_9 => ?_) (fun q_9 => ?_)
              · have ⟨r_12a, r_12b⟩ : -2147483648 ≤ I0 (o0 + 2) 0 ∧ I0 (o0 + 2) 0 < 2147483648 := hRI0.1 (o0 + 2) 0
                refine sat_zb (ok_H_weigh fu (o0 + 1) x7 (I0 (o0 + 2) 0) 0 I0 hfu hRI0 (by omega) ⟨ax7, bx7⟩ (hRI0.1 (o0 + 2) 0) (lit_in rfl)) (fun u_10 I9 c_11 ⟨⟨au_10, bu_10⟩, hRI9, pI9⟩ => ?_)
                refine sat_zb (ok_H_lawInForce fu (o0 + 1) I9 hfu hRI9 (by omega)) (fun y11 I12 c_13 ⟨⟨ay11, by11⟩, _, pI12⟩ => ?_)
                have eI12 := pI12.1.symm; replace pI12 := pI12.2; subst eI12
                refine sat_zb (ok_W_value fu (y11.toNat) (o0 + 14) 16 I9 hfu hRI9 (by omega) (by omega) (by omega)) (fun y14 I15 c_14 ⟨⟨ay14, by14⟩, hRI15, pI15⟩ => ?_)
                exact sat_zr ⟨⟨ay14, by14⟩, hRI15, trivial⟩
              · refine sat_zb (ok_L_get fu (o0 + 7) x7 a3 I0 hfu hRI0 (by omega) ⟨ax7, bx7⟩ ⟨aa3, ba3⟩) (fun y17 I18 c_15 ⟨⟨ay17, by17⟩, _, pI18⟩ => ?_)
                have eI18 := pI18.1.symm; replace pI18 := pI18.2; subst eI18
                exact sat_zr ⟨⟨ay17, by17⟩, hRI0, trivial⟩
      · exact sat_zr ⟨(lit_in rfl), hRI0, trivial⟩
theorem ok_L_people_11 {Ib : IMem} (fu : Nat) (o0 : Nat) (p1 : Int) (p3 : Int) (hfu : 5000000000 < fu) (To0 : o0 = 7 ∨ o0 = 47 ∨ o0 = 88) (qp1 : inr p1) (qp3 : inr p3) {Q_ : Int → IMem → Prop} (hret : ∀ v I, inr v → GC I → (I = Ib ∧ (True)) → sat (zr v I) Q_) : ∀ (m : Nat) (w2 : Int) (w4 : Int) (I0 : IMem), inr w2 → inr w4 → GC I0 → (I0 = Ib ∧ (0 ≤ w4)) → (p3 - w4).toNat < m → sat (f_L_people_11 fu o0 p1 p3 m w2 w4 I0) Q_ := by
  intro m
  induction m with
  | zero => intro w2 w4 I0 _ _ _ _ h0; exact absurd h0 (Nat.not_lt_zero _)
  | succ m hR_ =>
    intro w2 w4 I0 ⟨aw2, bw2⟩ ⟨aw4, bw4⟩ hRI0 hinv hmeas
    have einv := hinv.1; replace hinv := hinv.2; subst einv
    show sat (fb_L_people_11 fu o0 p1 p3 (f_L_people_11 fu o0 p1 p3 m) w2 w4 I0) Q_
    unfold fb_L_people_11
    obtain ⟨ap1, bp1⟩ := qp1
    obtain ⟨ap3, bp3⟩ := qp3
    refine sat_ite (fun q_1 => ?_) (fun q_1 => ?_)
    · refine sat_zb (ok_L_get fu o0 (wr32 ((wr32 (p1 * 40)) + w4)) 1 I0 hfu hRI0 (by omega) (wr32_in _) (lit_in rfl)) (fun y4 I5 c_2 ⟨⟨ay4, by4⟩, _, pI5⟩ => ?_)
      have eI5 := pI5.1.symm; replace pI5 := pI5.2; subst eI5
      refine sat_zl (wr32_in _) (fun x7 hx7 ax7 bx7 => ?_)
      try simp (disch := omega) only [wr32_i2, wdiv_i2, wrem_i2] at hx7
      refine sat_zl (wr32_in _) (fun x8 hx8 ax8 bx8 => ?_)
      try simp (disch := omega) only [wr32_i2, wdiv_i2, wrem_i2] at hx8
      exact hR_ x7 x8 I0 ⟨ax7, bx7⟩ ⟨ax8, bx8⟩ hRI0 ⟨rfl, (by first | omega | (simp (disch := omega) only [wr32_i2, wdiv_i2, wrem_i2]; omega) | grind | grind [wr32])⟩ (by first | omega | (simp (disch := omega) only [wr32_i2, wdiv_i2, wrem_i2]; omega) | grind | grind [wr32])
    · exact hret _ _ ⟨aw2, bw2⟩ hRI0 ⟨rfl, trivial⟩
theorem ok_L_people (fu : Nat) (o0 : Nat) (a1 : Int) (I0 : IMem) (hfu : 5000000000 < fu) (hRI0 : GC I0) (To0 : o0 = 7 ∨ o0 = 47 ∨ o0 = 88) (qa1 : inr a1) : sat (f_L_people fu o0 a1 I0) (fun v I => inr v ∧ GC I ∧ (I = I0 ∧ (True))) := by
  unfold f_L_people
  obtain ⟨aa1, ba1⟩ := qa1
  refine sat_zb (ok_L_countOf fu o0 a1 I0 hfu hRI0 (by omega) ⟨aa1, ba1⟩) (fun y1 I2 c_1 ⟨⟨ay1, by1⟩, _, pI2⟩ => ?_)
  have eI2 := pI2.1.symm; replace pI2 := pI2.2; subst eI2
  refine ok_L_people_11 (Ib := I0) fu o0 a1 y1 hfu (by omega) ⟨aa1, ba1⟩ ⟨ay1, by1⟩ (fun v I h1 h2 h3 => sat_zr ⟨h1, h2, ⟨h3.1, (by have h4 := h3.2; first | exact trivial | exact h4 | omega | grind)⟩⟩) fu 0 0 I0 (lit_in rfl) (lit_in rfl) hRI0 ⟨rfl, (by first | omega | (simp (disch := omega) only [wr32_i2, wdiv_i2, wrem_i2]; omega) | grind | grind [wr32])⟩ (by first | omega | (simp (disch := omega) only [wr32_i2, wdiv_i2, wrem_i2]; omega) | grind | grind [wr32])
theorem ok_S_line (fu : Nat) (o0 : Nat) (a1 : Int) (a2 : Int) (I0 : IMem) (hfu : 5000000000 < fu) (hRI0 : GC I0) (To0 : o0 = 0) (qa1 : inr a1) (qa2 : inr a2) : sat (f_S_line fu o0 a1 a2 I0) (fun v I => inr v ∧ GC I ∧ (I = I0 ∧ (True))) := by
  unfold f_S_line
  obtain ⟨aa1, ba1⟩ := qa1
  obtain ⟨aa2, ba2⟩ := qa2
  refine sat_zb (ok_S_isLine fu a1 I0 hfu hRI0 ⟨aa1, ba1⟩) (fun y1 I2 c_1 ⟨⟨ay1, by1⟩, _, pI2⟩ => ?_)
  have eI2 := pI2.1.symm; replace pI2 := pI2.2; subst eI2
  refine sat_ite (fun q_2 => ?_) (fun q_2 => ?_)
  · exact sat_zr ⟨(lit_in rfl), hRI0, ⟨rfl, trivial⟩⟩
  · refine sat_ite (fun q_3 => ?_) (fun q_3 => ?_)
    · exact sat_zr ⟨(lit_in rfl), hRI0, ⟨rfl, trivial⟩⟩
    · refine sat_ite (fun q_4 => ?_) (fun q_4 => ?_)
      · exact sat_zr ⟨(lit_in rfl), hRI0, ⟨rfl, trivial⟩⟩
      · refine sat_ite (fun q_5 => ?_) (fun q_5 => ?_)
        · refine sat_zg (by first | omega | grind | grind [wr32]) (fun g_6 => ?_)
          have ⟨r_7a, r_7b⟩ : -2147483648 ≤ I0 (o0 + 9) a1.toNat ∧ I0 (o0 + 9) a1.toNat < 2147483648 := hRI0.1 (o0 + 9) a1.toNat
          exact sat_zr ⟨(hRI0.1 (o0 + 9) a1.toNat), hRI0, ⟨rfl, trivial⟩⟩
        · refine sat_zb (ok_L_people fu (o0 + 7) a1 I0 hfu hRI0 (by omega) ⟨aa1, ba1⟩) (fun y4 I5 c_8 ⟨⟨ay4, by4⟩, _, pI5⟩ => ?_)
          have eI5 := pI5.1.symm; replace pI5 := pI5.2; subst eI5
          exact sat_zr ⟨⟨ay4, by4⟩, hRI0, ⟨rfl, trivial⟩⟩
theorem ok_C_sit (fu : Nat) (o0 : Nat) (a1 : Int) (a2 : Int) (a3 : Int) (a4 : Int) (I0 : IMem) (hfu : 5000000000 < fu) (hRI0 : GC I0) (To0 : o0 = 122 ∨ o0 = 130 ∨ o0 = 137) (qa1 : inr a1) (qa2 : inr a2) (qa3 : inr a3) (qa4 : inr a4) : sat (f_C_sit fu o0 a1 a2 a3 a4 I0) (fun v I => inr v ∧ GC I ∧ (True)) := by
  unfold f_C_sit
  obtain ⟨aa1, ba1⟩ := qa1
  obtain ⟨aa2, ba2⟩ := qa2
  obtain ⟨aa3, ba3⟩ := qa3
  obtain ⟨aa4, ba4⟩ := qa4
  refine sat_ite (fun q_1 => ?_) (fun q_1 => ?_)
  · exact sat_zr ⟨(lit_in rfl), hRI0, trivial⟩
  · refine sat_ite (fun q_2 => ?_) (fun q_2 => ?_)
    · have ⟨r_3a, r_3b⟩ : -2147483648 ≤ I0 o0 8 ∧ I0 o0 8 < 2147483648 := hRI0.1 o0 8
      refine sat_ite (fun q_4 => ?_) (fun q_4 => ?_)
      · exact sat_zr ⟨(lit_in rfl), hRI0, trivial⟩
      · refine sat_ite (fun q_5 => ?_) (fun q_5 => ?_)
        · refine sat_zg (by first | omega | grind | grind [wr32]) (fun g_6 => ?_)
          refine sat_zwC hRI0 ⟨aa4, ba4⟩ (by first | omega | grind | grind [wr32]) (fun I1 eI1 hRI1 => ?_)
          have ⟨r_7a, r_7b⟩ : -2147483648 ≤ I1 o0 8 ∧ I1 o0 8 < 2147483648 := hRI1.1 o0 8
          refine sat_zl (hRI1.1 o0 8) (fun x3 hx3 ax3 bx3 => ?_)
          refine sat_zg (by first | omega | grind | grind [wr32]) (fun g_8 => ?_)
          refine sat_zwC hRI1 ⟨aa1, ba1⟩ (by first | omega | grind | grind [wr32]) (fun I2 eI2 hRI2 => ?_)
          have ⟨r_9a, r_9b⟩ : -2147483648 ≤ I2 o0 8 ∧ I2 o0 8 < 2147483648 := hRI2.1 o0 8
          refine sat_zl (hRI2.1 o0 8) (fun x5 hx5 ax5 bx5 => ?_)
          refine sat_zg (by first | omega | grind | grind [wr32]) (fun g_10 => ?_)
          refine sat_zwC hRI2 ⟨aa2, ba2⟩ (by first | omega | grind | grind [wr32]) (fun I4 eI4 hRI4 => ?_)
          have ⟨r_11a, r_11b⟩ : -2147483648 ≤ I4 o0 8 ∧ I4 o0 8 < 2147483648 := hRI4.1 o0 8
          refine sat_zwC hRI4 (wr32_in _) (by first | omega | (simp (disch := omega) only [wr32_i2, wdiv_i2, wrem_i2]; omega) | grind | grind [wr32]) (fun I6 eI6 hRI6 => ?_)
          have ⟨r_12a, r_12b⟩ : -2147483648 ≤ I6 o0 7 ∧ I6 o0 7 < 2147483648 := hRI6.1 o0 7
          refine sat_zwC hRI6 (wr32_in _) (by first | omega | (simp (disch := omega) only [wr32_i2, wdiv_i2, wrem_i2]; omega) | grind | grind [wr32]) (fun I7 eI7 hRI7 => ?_)
          refine sat_zj (fun k8 ek8 => ?_)
          have hk8 : ∀ (x10 : Int) (I9 : IMem), inr x10 → GC I9 → (I9 = I7 ∧ (x10 = 0 ∨ x10 = 1)) → sat (k8 x10 I9) (fun v I => inr v ∧ GC I ∧ (True)) := by
            intro x10 I9 ⟨ax10, bx10⟩ hRI9 jk8
            subst ek8
            have ejk8 := jk8.1.symm; replace jk8 := jk8.2; subst ejk8
            refine sat_zg (by first | omega | grind | grind [wr32]) (fun g_13 => ?_)
            refine sat_zwC hRI7 ⟨ax10, bx10⟩ (by first | omega | grind | grind [wr32]) (fun I11 eI11 hRI11 => ?_)
            refine sat_zj (fun k13 ek13 => ?_)
            have hk13 : ∀ (x15 : Int) (I14 : IMem), inr x15 → GC I14 → (I14 = I11 ∧ (x15 = 0 ∨ x15 = 1)) → sat (k13 x15 I14) (fun v I => inr v ∧ GC I ∧ (True)) := by
              intro x15 I14 ⟨ax15, bx15⟩ hRI14 jk13
              subst ek13
              have ejk13 := jk13.1.symm; replace jk13 := jk13.2; subst ejk13
              refine sat_zg (by first | omega | grind | grind [wr32]) (fun g_14 => ?_)
              refine sat_zwC hRI11 ⟨ax15, bx15⟩ (by first | omega | grind | grind [wr32]) (fun I16 eI16 hRI16 => ?_)
              exact sat_zr ⟨(lit_in rfl), hRI16, trivial⟩
            clear ek13
            have ⟨r_15a, r_15b⟩ : -2147483648 ≤ I11 o0 11 ∧ I11 o0 11 < 2147483648 := hRI11.1 o0 11
            refine sat_ite (fun q_16 => ?_) (fun q_16 => ?_)
            · refine sat_ite (fun q_17 => ?_) (fun q_17 => ?_)
              · exact hk13 0 I11 (lit_in rfl) hRI11 ⟨rfl, (by first | omega | (simp (disch := omega) only [wr32_i2, wdiv_i2, wrem_i2]; omega) | grind | grind [wr32])⟩
              · exact hk13 1 I11 (lit_in rfl) hRI11 ⟨rfl, (by first | omega | (simp (disch := omega) only [wr32_i2, wdiv_i2, wrem_i2]; omega) | grind | grind [wr32])⟩
            · exact hk13 1 I11 (lit_in rfl) hRI11 ⟨rfl, (by first | omega | (simp (disch := omega) only [wr32_i2, wdiv_i2, wrem_i2]; omega) | grind | grind [wr32])⟩
          clear ek8
          have ⟨r_18a, r_18b⟩ : -2147483648 ≤ I7 o0 10 ∧ I7 o0 10 < 2147483648 := hRI7.1 o0 10
          refine sat_ite (fun q_19 => ?_) (fun q_19 => ?_)
          · refine sat_ite (fun q_20 => ?_) (fun q_20 => ?_)
            · exact hk8 1 I7 (lit_in rfl) hRI7 ⟨rfl, (by first | omega | (simp (disch := omega) only [wr32_i2, wdiv_i2, wrem_i2]; omega) | grind | grind [wr32])⟩
            · exact hk8 0 I7 (lit_in rfl) hRI7 ⟨rfl, (by first | omega | (simp (disch := omega) only [wr32_i2, wdiv_i2, wrem_i2]; omega) | grind | grind [wr32])⟩
          · exact hk8 1 I7 (lit_in rfl) hRI7 ⟨rfl, (by first | omega | (simp (disch := omega) only [wr32_i2, wdiv_i2, wrem_i2]; omega) | grind | grind [wr32])⟩
        · exact sat_zr ⟨(lit_in rfl), hRI0, trivial⟩
    · exact sat_zr ⟨(lit_in rfl), hRI0, trivial⟩
theorem ok_C_stands (fu : Nat) (o0 : Nat) (a1 : Int) (I0 : IMem) (hfu : 5000000000 < fu) (hRI0 : GC I0) (To0 : o0 = 122 ∨ o0 = 130 ∨ o0 = 137) (qa1 : inr a1) : sat (f_C_stands fu o0 a1 I0) (fun v I => inr v ∧ GC I ∧ (I = I0 ∧ ((v = 0 ∨ v = 1) ∧ (v = 1 → 0 ≤ a1 ∧ a1 < 240)))) := by
  unfold f_C_stands
  obtain ⟨aa1, ba1⟩ := qa1
  refine sat_ite (fun q_1 => ?_) (fun q_1 => ?_)
  · exact sat_zr ⟨(lit_in rfl), hRI0, ⟨rfl, (by first | omega | (simp (disch := omega) only [wr32_i2, wdiv_i2, wrem_i2]; omega) | grind | grind [wr32])⟩⟩
  · refine sat_ite (fun q_2 => ?_) (fun q_2 => ?_)
    · refine sat_zg (by first | omega | grind | grind [wr32]) (fun g_3 => ?_)
      have ⟨r_4a, r_4b⟩ : -2147483648 ≤ I0 (o0 + 1) a1.toNat ∧ I0 (o0 + 1) a1.toNat < 2147483648 := hRI0.1 (o0 + 1) a1.toNat
      refine sat_ite (fun q_5 => ?_) (fun q_5 => ?_)
      · exact sat_zr ⟨(lit_in rfl), hRI0, ⟨rfl, (by first | omega | (simp (disch := omega) only [wr32_i2, wdiv_i2, wrem_i2]; omega) | grind | grind [wr32])⟩⟩
      · exact sat_zr ⟨(lit_in rfl), hRI0, ⟨rfl, (by first | omega | (simp (disch := omega) only [wr32_i2, wdiv_i2, wrem_i2]; omega) | grind | grind [wr32])⟩⟩
    · exact sat_zr ⟨(lit_in rfl), hRI0, ⟨rfl, (by first | omega | (simp (disch := omega) only [wr32_i2, wdiv_i2, wrem_i2]; omega) | grind | grind [wr32])⟩⟩
theorem ok_L_isSeen (fu : Nat) (o0 : Nat) (a1 : Int) (a2 : Int) (I0 : IMem) (hfu : 5000000000 < fu) (hRI0 : GC I0) (To0 : o0 = 7 ∨ o0 = 47 ∨ o0 = 88) (qa1 : inr a1) (qa2 : inr a2) : sat (f_L_isSeen fu o0 a1 a2 I0) (fun v I => inr v ∧ GC I ∧ (I = I0 ∧ (True))) := by
  unfold f_L_isSeen
  obtain ⟨aa1, ba1⟩ := qa1
  obtain ⟨aa2, ba2⟩ := qa2
  refine sat_zb (ok_L_has fu o0 a1 a2 I0 hfu hRI0 (by omega) ⟨aa1, ba1⟩ ⟨aa2, ba2⟩) (fun y1 I2 c_1 ⟨⟨ay1, by1⟩, _, pI2⟩ => ?_)
  have eI2 := pI2.1.symm; replace pI2 := pI2.2; subst eI2
  refine sat_ite (fun q_2 => ?_) (fun q_2 => ?_)
  · exact sat_zr ⟨(lit_in rfl), hRI0, ⟨rfl, trivial⟩⟩
  · refine sat_zg (by first | omega | grind | grind [wr32]) (fun g_3 => ?_)
    have ⟨r_4a, r_4b⟩ : -2147483648 ≤ I0 (o0 + 3) a1.toNat ∧ I0 (o0 + 3) a1.toNat < 2147483648 := hRI0.1 (o0 + 3) a1.toNat
    refine sat_ite (fun q_5 => ?_) (fun q_5 => ?_)
    · exact sat_zr ⟨(lit_in rfl), hRI0, ⟨rfl, trivial⟩⟩
    · exact sat_zr ⟨(lit_in rfl), hRI0, ⟨rfl, trivial⟩⟩
theorem ok_C_judge (fu : Nat) (o0 : Nat) (o1 : Nat) (a2 : Int) (a3 : Int) (I0 : IMem) (hfu : 5000000000 < fu) (hRI0 : GC I0) (To0 : o0 = 122 ∨ o0 = 130 ∨ o0 = 137) (To1 : o1 = 1 ∨ o1 = 41 ∨ o1 = 82) (qa2 : inr a2) (qa3 : inr a3) : sat (f_C_judge fu o0 o1 a2 a3 I0) (fun v I => inr v ∧ GC I ∧ (True)) := by
  unfold f_C_judge
  obtain ⟨aa2, ba2⟩ := qa2
  obtain ⟨aa3, ba3⟩ := qa3
  refine sat_zl (wr32_in _) (fun x1 hx1 ax1 bx1 => ?_)
  try simp (disch := omega) only [wr32_i2, wdiv_i2, wrem_i2] at hx1
  refine sat_zb (ok_L_has fu (o1 + 6) a2 a3 I0 hfu hRI0 (by omega) ⟨aa2, ba2⟩ ⟨aa3, ba3⟩) (fun y2 I3 c_1 ⟨⟨ay2, by2⟩, _, pI3⟩ => ?_)
  have eI3 := pI3.1.symm; replace pI3 := pI3.2; subst eI3
  refine sat_ite (fun q_2 => ?_) (fun q_2 => ?_)
  · exact sat_zr ⟨(lit_in rfl), hRI0, trivial⟩
  · refine sat_zb (ok_C_stands fu o0 x1 I0 hfu hRI0 (by omega) ⟨ax1, bx1⟩) (fun y5 I6 c_3 ⟨⟨ay5, by5⟩, _, pI6⟩ => ?_)
    have eI6 := pI6.1.symm; replace pI6 := pI6.2; subst eI6
    refine sat_ite (fun q_4 => ?_) (fun q_4 => ?_)
    · exact sat_zr ⟨(lit_in rfl), hRI0, trivial⟩
    · refine sat_zb (ok_L_get fu (o1 + 6) x1 1 I0 hfu hRI0 (by omega) ⟨ax1, bx1⟩ (lit_in rfl)) (fun y8 I9 c_5 ⟨⟨ay8, by8⟩, _, pI9⟩ => ?_)
      have eI9 := pI9.1.symm; replace pI9 := pI9.2; subst eI9
      refine sat_zb (ok_L_get fu (o1 + 6) x1 3 I0 hfu hRI0 (by omega) ⟨ax1, bx1⟩ (lit_in rfl)) (fun y11 I12 c_6 ⟨⟨ay11, by11⟩, _, pI12⟩ => ?_)
      have eI12 := pI12.1.symm; replace pI12 := pI12.2; subst eI12
      refine sat_zb (ok_L_isSeen fu (o1 + 6) a2 a3 I0 hfu hRI0 (by omega) ⟨aa2, ba2⟩ ⟨aa3, ba3⟩) (fun y14 I15 c_7 ⟨⟨ay14, by14⟩, _, pI15⟩ => ?_)
      have eI15 := pI15.1.symm; replace pI15 := pI15.2; subst eI15
      refine sat_ite (fun q_8 => ?_) (fun q_8 => ?_)
      · exact sat_zr ⟨(lit_in rfl), hRI0, trivial⟩
      · have ⟨r_9a, r_9b⟩ : -2147483648 ≤ I0 o0 7 ∧ I0 o0 7 < 2147483648 := hRI0.1 o0 7
        refine sat_ite (fun q_10 => ?_) (fun q_10 => ?_)
        · exact sat_zr ⟨(lit_in rfl), hRI0, trivial⟩
        · refine sat_zj (fun k17 ek17 => ?_)
          have hk17 : ∀ (I18 : IMem), GC I18 → (I18 = I0 ∧ (True)) → sat (k17 I18) (fun v I => inr v ∧ GC I ∧ (True)) := by
            intro I18  hRI18 jk17
            subst ek17
            have ejk17 := jk17.1.symm; replace jk17 := jk17.2; subst ejk17
            have ⟨r_11a, r_11b⟩ : -2147483648 ≤ I0 o0 10 ∧ I0 o0 10 < 2147483648 := hRI0.1 o0 10
            refine sat_ite (fun q_12 => ?_) (fun q_12 => ?_)
            · refine sat_zj (fun k19 ek19 => ?_)
              have hk19 : ∀ (I20 : IMem), GC I20 → (I20 = I0 ∧ (True)) → sat (k19 I20) (fun v I => inr v ∧ GC I ∧ (True)) := by
                intro I20  hRI20 jk19
                subst ek19
                have ejk19 := jk19.1.symm; replace jk19 := jk19.2; subst ejk19
                refine sat_zb (ok_C_sit fu o0 x1 y8 y11 1 I0 hfu hRI0 (by omega) ⟨ax1, bx1⟩ ⟨ay8, by8⟩ ⟨ay11, by11⟩ (lit_in rfl)) (fun u_13 I22 c_14 ⟨⟨au_13, bu_13⟩, hRI22, pI22⟩ => ?_)
                exact sat_zr ⟨(lit_in rfl), hRI22, trivial⟩
              clear ek19
              refine sat_ite (fun q_15 => ?_) (fun q_15 => ?_)
              · have ⟨r_16a, r_16b⟩ : -2147483648 ≤ I0 o0 8 ∧ I0 o0 8 < 2147483648 := hRI0.1 o0 8
                refine sat_ite (fun q_17 => ?_) (fun q_17 => ?_)
                · exact sat_zr ⟨(lit_in rfl), hRI0, trivial⟩
                · exact hk19 I0 hRI0 ⟨rfl, trivial⟩
              · exact hk19 I0 hRI0 ⟨rfl, trivial⟩
            · exact sat_zr ⟨(lit_in rfl), hRI0, trivial⟩
          clear ek17
          refine sat_ite (fun q_18 => ?_) (fun q_18 => ?_)
          · have ⟨r_19a, r_19b⟩ : -2147483648 ≤ I0 o0 11 ∧ I0 o0 11 < 2147483648 := hRI0.1 o0 11
            refine sat_ite (fun q_20 => ?_) (fun q_20 => ?_)
            · exact sat_zr ⟨(lit_in rfl), hRI0, trivial⟩
            · exact hk17 I0 hRI0 ⟨rfl, trivial⟩
          · exact hk17 I0 hRI0 ⟨rfl, trivial⟩
theorem ok_S_pick (fu : Nat) (o0 : Nat) (a1 : Int) (a2 : Int) (I0 : IMem) (hfu : 5000000000 < fu) (hRI0 : GC I0) (To0 : o0 = 0) (qa1 : inr a1) (qa2 : inr a2) : sat (f_S_pick fu o0 a1 a2 I0) (fun v I => inr v ∧ GC I ∧ (True)) := by
  unfold f_S_pick
  obtain ⟨aa1, ba1⟩ := qa1
  obtain ⟨aa2, ba2⟩ := qa2
  refine sat_zb (ok_C_judge fu (o0 + 137) (o0 + 1) a1 a2 I0 hfu hRI0 (by omega) (by omega) ⟨aa1, ba1⟩ ⟨aa2, ba2⟩) (fun y1 I2 c_1 ⟨⟨ay1, by1⟩, hRI2, pI2⟩ => ?_)
  exact sat_zr ⟨⟨ay1, by1⟩, hRI2, trivial⟩
theorem ok_H_draw (fu : Nat) (o0 : Nat) (a1 : Int) (I0 : IMem) (hfu : 5000000000 < fu) (hRI0 : GC I0) (To0 : o0 = 1 ∨ o0 = 41 ∨ o0 = 82) (qa1 : inr a1) : sat (f_H_draw fu o0 a1 I0) (fun v I => inr v ∧ GC I ∧ (True)) := by
  unfold f_H_draw
  obtain ⟨aa1, ba1⟩ := qa1
  have ⟨r_1a, r_1b⟩ : -2147483648 ≤ I0 o0 6 ∧ I0 o0 6 < 2147483648 := hRI0.1 o0 6
  refine sat_zwC hRI0 (wr32_in _) (by first | omega | (simp (disch := omega) only [wr32_i2, wdiv_i2, wrem_i2]; omega) | grind | grind [wr32]) (fun I1 eI1 hRI1 => ?_)
  refine sat_ite (fun q_2 => ?_) (fun q_2 => ?_)
  · refine sat_zg (by first | omega | grind | grind [wr32]) (fun g_3 => ?_)
    have ⟨r_4a, r_4b⟩ : -2147483648 ≤ I1 o0 6 ∧ I1 o0 6 < 2147483648 := hRI1.1 o0 6
    exact sat_zr ⟨(wrem_in _ _), hRI1, trivial⟩
  · exact sat_zr ⟨(lit_in rfl), hRI1, trivial⟩
