/-! safety of the reference -/
theorem ok_X_lineWord (fu : Nat) (o0 : Nat) (I0 : IMem) (hfu : 5000000000 < fu) (hRI0 : GX o0 I0) (h0 : 0 ≤ I0 o0 15 ∧ I0 o0 15 ≤ I0 o0 13 ∧ I0 o0 13 ≤ 400) : sat (f_X_lineWord fu o0 I0) (fun v I => inr v ∧ GX o0 I ∧ (I = I0 ∧ (1 ≤ v ∧ v ≤ 51))) := by
  unfold f_X_lineWord
  refine sat_zb (ok_X_is fu o0 8 I0 hfu hRI0 (by omega) (by first | omega | (simp (disch := omega) only [wr32_i2, wdiv_i2, wrem_i2]; omega) | grind | grind [wr32])) (fun y1 I2 c_1 ⟨⟨ay1, by1⟩, _, pI2⟩ => ?_)
  have eI2 := pI2.1.symm; replace pI2 := pI2.2; subst eI2
  refine sat_ite (fun q_2 => ?_) (fun q_2 => ?_)
  · refine sat_zb (ok_X_is fu o0 9 I0 hfu hRI0 (by omega) (by first | omega | (simp (disch := omega) only [wr32_i2, wdiv_i2, wrem_i2]; omega) | grind | grind [wr32])) (fun y4 I5 c_3 ⟨⟨ay4, by4⟩, _, pI5⟩ => ?_)
    have eI5 := pI5.1.symm; replace pI5 := pI5.2; subst eI5
    refine sat_ite (fun q_4 => ?_) (fun q_4 => ?_)
    · refine sat_zb (ok_X_is fu o0 10 I0 hfu hRI0 (by omega) (by first | omega | (simp (disch := omega) only [wr32_i2, wdiv_i2, wrem_i2]; omega) | grind | grind [wr32])) (fun y7 I8 c_5 ⟨⟨ay7, by7⟩, _, pI8⟩ => ?_)
      have eI8 := pI8.1.symm; replace pI8 := pI8.2; subst eI8
      refine sat_ite (fun q_6 => ?_) (fun q_6 => ?_)
      · exact sat_zr ⟨(lit_in rfl), hRI0, ⟨rfl, (by first | omega | (simp (disch := omega) only [wr32_i2, wdiv_i2, wrem_i2]; omega) | grind | grind [wr32])⟩⟩
      · exact sat_zr ⟨(lit_in rfl), hRI0, ⟨rfl, (by first | omega | (simp (disch := omega) only [wr32_i2, wdiv_i2, wrem_i2]; omega) | grind | grind [wr32])⟩⟩
    · exact sat_zr ⟨(lit_in rfl), hRI0, ⟨rfl, (by first | omega | (simp (disch := omega) only [wr32_i2, wdiv_i2, wrem_i2]; omega) | grind | grind [wr32])⟩⟩
  · exact sat_zr ⟨(lit_in rfl), hRI0, ⟨rfl, (by first | omega | (simp (disch := omega) only [wr32_i2, wdiv_i2, wrem_i2]; omega) | grind | grind [wr32])⟩⟩
theorem ok_X_ruleWord (fu : Nat) (o0 : Nat) (I0 : IMem) (hfu : 5000000000 < fu) (hRI0 : GX o0 I0) (h0 : 0 ≤ I0 o0 15 ∧ I0 o0 15 ≤ I0 o0 13 ∧ I0 o0 13 ≤ 400) : sat (f_X_ruleWord fu o0 I0) (fun v I => inr v ∧ GX o0 I ∧ (I = I0 ∧ (1 ≤ v ∧ v ≤ 51))) := by
  unfold f_X_ruleWord
  refine sat_zb (ok_X_is fu o0 11 I0 hfu hRI0 (by omega) (by first | omega | (simp (disch := omega) only [wr32_i2, wdiv_i2, wrem_i2]; omega) | grind | grind [wr32])) (fun y1 I2 c_1 ⟨⟨ay1, by1⟩, _, pI2⟩ => ?_)
  have eI2 := pI2.1.symm; replace pI2 := pI2.2; subst eI2
  refine sat_ite (fun q_2 => ?_) (fun q_2 => ?_)
  · refine sat_zb (ok_X_is fu o0 12 I0 hfu hRI0 (by omega) (by first | omega | (simp (disch := omega) only [wr32_i2, wdiv_i2, wrem_i2]; omega) | grind | grind [wr32])) (fun y4 I5 c_3 ⟨⟨ay4, by4⟩, _, pI5⟩ => ?_)
    have eI5 := pI5.1.symm; replace pI5 := pI5.2; subst eI5
    refine sat_ite (fun q_4 => ?_) (fun q_4 => ?_)
    · refine sat_zb (ok_X_is fu o0 13 I0 hfu hRI0 (by omega) (by first | omega | (simp (disch := omega) only [wr32_i2, wdiv_i2, wrem_i2]; omega) | grind | grind [wr32])) (fun y7 I8 c_5 ⟨⟨ay7, by7⟩, _, pI8⟩ => ?_)
      have eI8 := pI8.1.symm; replace pI8 := pI8.2; subst eI8
      refine sat_ite (fun q_6 => ?_) (fun q_6 => ?_)
      · refine sat_zb (ok_X_is fu o0 8 I0 hfu hRI0 (by omega) (by first | omega | (simp (disch := omega) only [wr32_i2, wdiv_i2, wrem_i2]; omega) | grind | grind [wr32])) (fun y10 I11 c_7 ⟨⟨ay10, by10⟩, _, pI11⟩ => ?_)
        have eI11 := pI11.1.symm; replace pI11 := pI11.2; subst eI11
        refine sat_ite (fun q_8 => ?_) (fun q_8 => ?_)
        · refine sat_zb (ok_X_is fu o0 14 I0 hfu hRI0 (by omega) (by first | omega | (simp (disch := omega) only [wr32_i2, wdiv_i2, wrem_i2]; omega) | grind | grind [wr32])) (fun y13 I14 c_9 ⟨⟨ay13, by13⟩, _, pI14⟩ => ?_)
          have eI14 := pI14.1.symm; replace pI14 := pI14.2; subst eI14
          refine sat_ite (fun q_10 => ?_) (fun q_10 => ?_)
          · refine sat_zb (ok_X_is fu o0 15 I0 hfu hRI0 (by omega) (by first | omega | (simp (disch := omega) only [wr32_i2, wdiv_i2, wrem_i2]; omega) | grind | grind [wr32])) (fun y16 I17 c_11 ⟨⟨ay16, by16⟩, _, pI17⟩ => ?_)
            have eI17 := pI17.1.symm; replace pI17 := pI17.2; subst eI17
            refine sat_ite (fun q_12 => ?_) (fun q_12 => ?_)
            · refine sat_zb (ok_X_is fu o0 16 I0 hfu hRI0 (by omega) (by first | omega | (simp (disch := omega) only [wr32_i2, wdiv_i2, wrem_i2]; omega) | grind | grind [wr32])) (fun y19 I20 c_13 ⟨⟨ay19, by19⟩, _, pI20⟩ => ?_)
              have eI20 := pI20.1.symm; replace pI20 := pI20.2; subst eI20
              refine sat_ite (fun q_14 => ?_) (fun q_14 => ?_)
              · refine sat_zb (ok_X_is fu o0 17 I0 hfu hRI0 (by omega) (by first | omega | (simp (disch := omega) only [wr32_i2, wdiv_i2, wrem_i2]; omega) | grind | grind [wr32])) (fun y22 I23 c_15 ⟨⟨ay22, by22⟩, _, pI23⟩ => ?_)
                have eI23 := pI23.1.symm; replace pI23 := pI23.2; subst eI23
                refine sat_ite (fun q_16 => ?_) (fun q_16 => ?_)
                · exact sat_zr ⟨(lit_in rfl), hRI0, ⟨rfl, (by first | omega | (simp (disch := omega) only [wr32_i2, wdiv_i2, wrem_i2]; omega) | grind | grind [wr32])⟩⟩
                · exact sat_zr ⟨(lit_in rfl), hRI0, ⟨rfl, (by first | omega | (simp (disch := omega) only [wr32_i2, wdiv_i2, wrem_i2]; omega) | grind | grind [wr32])⟩⟩
              · exact sat_zr ⟨(lit_in rfl), hRI0, ⟨rfl, (by first | omega | (simp (disch := omega) only [wr32_i2, wdiv_i2, wrem_i2]; omega) | grind | grind [wr32])⟩⟩
            · exact sat_zr ⟨(lit_in rfl), hRI0, ⟨rfl, (by first | omega | (simp (disch := omega) only [wr32_i2, wdiv_i2, wrem_i2]; omega) | grind | grind [wr32])⟩⟩
          · exact sat_zr ⟨(lit_in rfl), hRI0, ⟨rfl, (by first | omega | (simp (disch := omega) only [wr32_i2, wdiv_i2, wrem_i2]; omega) | grind | grind [wr32])⟩⟩
        · exact sat_zr ⟨(lit_in rfl), hRI0, ⟨rfl, (by first | omega | (simp (disch := omega) only [wr32_i2, wdiv_i2, wrem_i2]; omega) | grind | grind [wr32])⟩⟩
      · exact sat_zr ⟨(lit_in rfl), hRI0, ⟨rfl, (by first | omega | (simp (disch := omega) only [wr32_i2, wdiv_i2, wrem_i2]; omega) | grind | grind [wr32])⟩⟩
    · exact sat_zr ⟨(lit_in rfl), hRI0, ⟨rfl, (by first | omega | (simp (disch := omega) only [wr32_i2, wdiv_i2, wrem_i2]; omega) | grind | grind [wr32])⟩⟩
  · exact sat_zr ⟨(lit_in rfl), hRI0, ⟨rfl, (by first | omega | (simp (disch := omega) only [wr32_i2, wdiv_i2, wrem_i2]; omega) | grind | grind [wr32])⟩⟩
theorem ok_X_word (fu : Nat) (o0 : Nat) (I0 : IMem) (hfu : 5000000000 < fu) (hRI0 : GX o0 I0) (h0 : 0 ≤ I0 o0 15 ∧ I0 o0 15 ≤ I0 o0 13 ∧ I0 o0 13 ≤ 400) : sat (f_X_word fu o0 I0) (fun v I => inr v ∧ GX o0 I ∧ (I = I0 ∧ (1 ≤ v ∧ v ≤ 51))) := by
  unfold f_X_word
  refine sat_zb (ok_X_is fu o0 2 I0 hfu hRI0 (by omega) (by first | omega | (simp (disch := omega) only [wr32_i2, wdiv_i2, wrem_i2]; omega) | grind | grind [wr32])) (fun y1 I2 c_1 ⟨⟨ay1, by1⟩, _, pI2⟩ => ?_)
  have eI2 := pI2.1.symm; replace pI2 := pI2.2; subst eI2
  refine sat_ite (fun q_2 => ?_) (fun q_2 => ?_)
  · refine sat_zb (ok_X_is fu o0 3 I0 hfu hRI0 (by omega) (by first | omega | (simp (disch := omega) only [wr32_i2, wdiv_i2, wrem_i2]; omega) | grind | grind [wr32])) (fun y4 I5 c_3 ⟨⟨ay4, by4⟩, _, pI5⟩ => ?_)
    have eI5 := pI5.1.symm; replace pI5 := pI5.2; subst eI5
    refine sat_ite (fun q_4 => ?_) (fun q_4 => ?_)
    · refine sat_zb (ok_X_is fu o0 4 I0 hfu hRI0 (by omega) (by first | omega | (simp (disch := omega) only [wr32_i2, wdiv_i2, wrem_i2]; omega) | grind | grind [wr32])) (fun y7 I8 c_5 ⟨⟨ay7, by7⟩, _, pI8⟩ => ?_)
      have eI8 := pI8.1.symm; replace pI8 := pI8.2; subst eI8
      refine sat_ite (fun q_6 => ?_) (fun q_6 => ?_)
      · refine sat_zb (ok_X_is fu o0 5 I0 hfu hRI0 (by omega) (by first | omega | (simp (disch := omega) only [wr32_i2, wdiv_i2, wrem_i2]; omega) | grind | grind [wr32])) (fun y10 I11 c_7 ⟨⟨ay10, by10⟩, _, pI11⟩ => ?_)
        have eI11 := pI11.1.symm; replace pI11 := pI11.2; subst eI11
        refine sat_ite (fun q_8 => ?_) (fun q_8 => ?_)
        · refine sat_zb (ok_X_is fu o0 6 I0 hfu hRI0 (by omega) (by first | omega | (simp (disch := omega) only [wr32_i2, wdiv_i2, wrem_i2]; omega) | grind | grind [wr32])) (fun y13 I14 c_9 ⟨⟨ay13, by13⟩, _, pI14⟩ => ?_)
          have eI14 := pI14.1.symm; replace pI14 := pI14.2; subst eI14
          refine sat_ite (fun q_10 => ?_) (fun q_10 => ?_)
          · refine sat_zb (ok_X_is fu o0 7 I0 hfu hRI0 (by omega) (by first | omega | (simp (disch := omega) only [wr32_i2, wdiv_i2, wrem_i2]; omega) | grind | grind [wr32])) (fun y16 I17 c_11 ⟨⟨ay16, by16⟩, _, pI17⟩ => ?_)
            have eI17 := pI17.1.symm; replace pI17 := pI17.2; subst eI17
            refine sat_ite (fun q_12 => ?_) (fun q_12 => ?_)
            · have ⟨r_13a, r_13b⟩ : -2147483648 ≤ I0 o0 9 ∧ I0 o0 9 < 2147483648 := hRI0.1 o0 9
              refine sat_ite (fun q_14 => ?_) (fun q_14 => ?_)
              · refine sat_zb (ok_X_lineWord fu o0 I0 hfu hRI0 (by first | omega | (simp (disch := omega) only [wr32_i2, wdiv_i2, wrem_i2]; omega) | grind | grind [wr32])) (fun y22 I23 c_15 ⟨⟨ay22, by22⟩, _, pI23⟩ => ?_)
                have eI23 := pI23.1.symm; replace pI23 := pI23.2; subst eI23
                exact sat_zr ⟨⟨ay22, by22⟩, hRI0, ⟨rfl, (by first | omega | (simp (disch := omega) only [wr32_i2, wdiv_i2, wrem_i2]; omega) | grind | grind [wr32])⟩⟩
              · refine sat_zb (ok_X_ruleWord fu o0 I0 hfu hRI0 (by first | omega | (simp (disch := omega) only [wr32_i2, wdiv_i2, wrem_i2]; omega) | grind | grind [wr32])) (fun y19 I20 c_16 ⟨⟨ay19, by19⟩, _, pI20⟩ => ?_)
                have eI20 := pI20.1.symm; replace pI20 := pI20.2; subst eI20
                exact sat_zr ⟨⟨ay19, by19⟩, hRI0, ⟨rfl, (by first | omega | (simp (disch := omega) only [wr32_i2, wdiv_i2, wrem_i2]; omega) | grind | grind [wr32])⟩⟩
            · exact sat_zr ⟨(lit_in rfl), hRI0, ⟨rfl, (by first | omega | (simp (disch := omega) only [wr32_i2, wdiv_i2, wrem_i2]; omega) | grind | grind [wr32])⟩⟩
          · exact sat_zr ⟨(lit_in rfl), hRI0, ⟨rfl, (by first | omega | (simp (disch := omega) only [wr32_i2, wdiv_i2, wrem_i2]; omega) | grind | grind [wr32])⟩⟩
        · exact sat_zr ⟨(lit_in rfl), hRI0, ⟨rfl, (by first | omega | (simp (disch := omega) only [wr32_i2, wdiv_i2, wrem_i2]; omega) | grind | grind [wr32])⟩⟩
      · exact sat_zr ⟨(lit_in rfl), hRI0, ⟨rfl, (by first | omega | (simp (disch := omega) only [wr32_i2, wdiv_i2, wrem_i2]; omega) | grind | grind [wr32])⟩⟩
    · exact sat_zr ⟨(lit_in rfl), hRI0, ⟨rfl, (by first | omega | (simp (disch := omega) only [wr32_i2, wdiv_i2, wrem_i2]; omega) | grind | grind [wr32])⟩⟩
  · exact sat_zr ⟨(lit_in rfl), hRI0, ⟨rfl, (by first | omega | (simp (disch := omega) only [wr32_i2, wdiv_i2, wrem_i2]; omega) | grind | grind [wr32])⟩⟩
theorem ok_X_next0_0 {Ib : IMem} (fu : Nat) (k_39 : IMem → Res) (o0 : Nat) (hfu : 5000000000 < fu) {Q_ : Int → IMem → Prop} (hk_39 : ∀ (I9 : IMem), GX o0 I9 → ((∀ q j, ¬ ((q = o0 ∧ j = 13)) → I9 q j = Ib q j) ∧ (0 ≤ I9 o0 13 ∧ I9 o0 13 ≤ I9 o0 12 ∧ Ib o0 13 ≤ I9 o0 13)) → sat (k_39 I9) Q_) (hret : ∀ v I, inr v → GX o0 I → ((∀ q j, ¬ ((q = o0 ∧ j = 13)) → I q j = Ib q j) ∧ (False)) → sat (zr v I) Q_) : ∀ (m : Nat) (I0 : IMem), GX o0 I0 → ((∀ q j, ¬ ((q = o0 ∧ j = 13)) → I0 q j = Ib q j) ∧ (0 ≤ I0 o0 13 ∧ I0 o0 13 ≤ I0 o0 12 ∧ Ib o0 13 ≤ I0 o0 13)) → (I0 o0 12 - I0 o0 13).toNat < m → sat (f_X_next0_0 fu k_39 o0 m I0) Q_ := by
  intro m
  induction m with
  | zero => intro I0 _ _ h0; exact absurd h0 (Nat.not_lt_zero _)
  | succ m hR_ =>
    intro I0 hRI0 hinv hmeas
    have fI0 := hinv.1; replace hinv := hinv.2
    show sat (fb_X_next0_0 fu k_39 o0 (f_X_next0_0 fu k_39 o0 m) I0) Q_
    unfold fb_X_next0_0
    have hgt := gx_t hRI0
    have ⟨r_2a, r_2b⟩ : -2147483648 ≤ I0 o0 13 ∧ I0 o0 13 < 2147483648 := hRI0.1 o0 13
    refine sat_zb (ok_X_see fu o0 (I0 o0 13) I0 hfu hRI0 (hRI0.1 o0 13) (by first | omega | (simp (disch := omega) only [wr32_i2, wdiv_i2, wrem_i2]; omega) | grind | grind [wr32])) (fun y1 I2 c_1 ⟨⟨ay1, by1⟩, _, pI2⟩ => ?_)
    have eI2 := pI2.1.symm; replace pI2 := pI2.2; subst eI2
    refine sat_zj (fun k4 ek4 => ?_)
    have hk4 : ∀ (I5 : IMem), GX o0 I5 → (I5 = I0 ∧ (I5 o0 13 < I5 o0 12)) → sat (k4 I5) Q_ := by
      intro I5  hRI5 jk4
      subst ek4
      have ejk4 := jk4.1.symm; replace jk4 := jk4.2; subst ejk4
      refine sat_zwX0 hRI0 (wr32_in _) (by first | omega | (simp (disch := omega) only [wr32_i2, wdiv_i2, wrem_i2]; omega) | grind | grind [wr32]) (fun I6 eI6 hRI6 => ?_)
      exact hR_ I6 hRI6 ⟨(by intro q j hq; grind), (by first | omega | (simp (disch := omega) only [wr32_i2, wdiv_i2, wrem_i2]; omega) | grind | grind [wr32])⟩ (by first | omega | (simp (disch := omega) only [wr32_i2, wdiv_i2, wrem_i2]; omega) | grind | grind [wr32])
    clear ek4
    refine sat_ite (fun q_3 => ?_) (fun q_3 => ?_)
    · exact hk4 I0 hRI0 ⟨rfl, (by first | omega | (simp (disch := omega) only [wr32_i2, wdiv_i2, wrem_i2]; omega) | grind | grind [wr32])⟩
    · refine sat_zb (ok_X_see fu o0 (I0 o0 13) I0 hfu hRI0 (hRI0.1 o0 13) (by first | omega | (simp (disch := omega) only [wr32_i2, wdiv_i2, wrem_i2]; omega) | grind | grind [wr32])) (fun y7 I8 c_4 ⟨⟨ay7, by7⟩, _, pI8⟩ => ?_)
      have eI8 := pI8.1.symm; replace pI8 := pI8.2; subst eI8
      refine sat_ite (fun q_5 => ?_) (fun q_5 => ?_)
      · exact hk4 I0 hRI0 ⟨rfl, (by first | omega | (simp (disch := omega) only [wr32_i2, wdiv_i2, wrem_i2]; omega) | grind | grind [wr32])⟩
      · exact hk_39 I0 hRI0 ⟨(by intro q j hq; grind), (by first | omega | (simp (disch := omega) only [wr32_i2, wdiv_i2, wrem_i2]; omega) | grind | grind [wr32])⟩
theorem ok_X_next0_126 {Ib : IMem} (fu : Nat) (k_189 : IMem → Res) (o0 : Nat) (hfu : 5000000000 < fu) {Q_ : Int → IMem → Prop} (hk_189 : ∀ (I9 : IMem), GX o0 I9 → ((∀ q j, ¬ ((q = o0 ∧ j = 13) ∨ (q = o0 ∧ j = 16)) → I9 q j = Ib q j) ∧ (0 ≤ I9 o0 13 ∧ I9 o0 13 ≤ I9 o0 12 ∧ Ib o0 13 ≤ I9 o0 13 ∧ (I9 o0 13 < I9 o0 12 → ¬ (48 ≤ I9 (o0 + 6) (I9 o0 13).toNat ∧ I9 (o0 + 6) (I9 o0 13).toNat ≤ 57)))) → sat (k_189 I9) Q_) (hret : ∀ v I, inr v → GX o0 I → ((∀ q j, ¬ ((q = o0 ∧ j = 13) ∨ (q = o0 ∧ j = 16)) → I q j = Ib q j) ∧ (False)) → sat (zr v I) Q_) : ∀ (m : Nat) (I0 : IMem), GX o0 I0 → ((∀ q j, ¬ ((q = o0 ∧ j = 13) ∨ (q = o0 ∧ j = 16)) → I0 q j = Ib q j) ∧ (0 ≤ I0 o0 13 ∧ I0 o0 13 ≤ I0 o0 12 ∧ Ib o0 13 ≤ I0 o0 13)) → (I0 o0 12 - I0 o0 13).toNat < m → sat (f_X_next0_126 fu k_189 o0 m I0) Q_ := by
  intro m
  induction m with
  | zero => intro I0 _ _ h0; exact absurd h0 (Nat.not_lt_zero _)
  | succ m hR_ =>
    intro I0 hRI0 hinv hmeas
    have fI0 := hinv.1; replace hinv := hinv.2
    show sat (fb_X_next0_126 fu k_189 o0 (f_X_next0_126 fu k_189 o0 m) I0) Q_
    unfold fb_X_next0_126
    have hgt := gx_t hRI0
    have ⟨r_2a, r_2b⟩ : -2147483648 ≤ I0 o0 13 ∧ I0 o0 13 < 2147483648 := hRI0.1 o0 13
    refine sat_zb (ok_X_see fu o0 (I0 o0 13) I0 hfu hRI0 (hRI0.1 o0 13) (by first | omega | (simp (disch := omega) only [wr32_i2, wdiv_i2, wrem_i2]; omega) | grind | grind [wr32])) (fun y30 I31 c_1 ⟨⟨ay30, by30⟩, _, pI31⟩ => ?_)
    have eI31 := pI31.1.symm; replace pI31 := pI31.2; subst eI31
    refine sat_zb (ok_X_isDigit fu y30 I0 hfu hRI0.1 ⟨ay30, by30⟩) (fun y33 I34 c_3 ⟨⟨ay33, by33⟩, _, pI34⟩ => ?_)
    have eI34 := pI34.1.symm; replace pI34 := pI34.2; subst eI34
    refine sat_ite (fun q_4 => ?_) (fun q_4 => ?_)
    · exact hk_189 I0 hRI0 ⟨(by intro q j hq; grind), (by first | omega | (simp (disch := omega) only [wr32_i2, wdiv_i2, wrem_i2]; omega) | grind | grind [wr32])⟩
    · refine sat_zj (fun k36 ek36 => ?_)
      have hk36 : ∀ (I37 : IMem), GX o0 I37 → ((∀ q j, ¬ ((q = o0 ∧ j = 16)) → I37 q j = I0 q j) ∧ (I37 o0 13 = I0 o0 13)) → sat (k36 I37) Q_ := by
        intro I37  hRI37 jk36
        subst ek36
        have fI37 := jk36.1; replace jk36 := jk36.2
        have ⟨r_5a, r_5b⟩ : -2147483648 ≤ I37 o0 13 ∧ I37 o0 13 < 2147483648 := hRI37.1 o0 13
        refine sat_zwX0 hRI37 (wr32_in _) (by first | omega | (simp (disch := omega) only [wr32_i2, wdiv_i2, wrem_i2]; omega) | grind | grind [wr32]) (fun I38 eI38 hRI38 => ?_)
        exact hR_ I38 hRI38 ⟨(by intro q j hq; grind), (by first | omega | (simp (disch := omega) only [wr32_i2, wdiv_i2, wrem_i2]; omega) | grind | grind [wr32])⟩ (by first | omega | (simp (disch := omega) only [wr32_i2, wdiv_i2, wrem_i2]; omega) | grind | grind [wr32])
      clear ek36
      have ⟨r_6a, r_6b⟩ : -2147483648 ≤ I0 o0 15 ∧ I0 o0 15 < 2147483648 := hRI0.1 o0 15
      refine sat_ite (fun q_7 => ?_) (fun q_7 => ?_)
      · try simp (disch := omega) only [wr32_i2, wdiv_i2, wrem_i2] at q_7
        refine sat_zb (ok_X_see fu o0 (I0 o0 13) I0 hfu hRI0 (hRI0.1 o0 13) (by first | omega | (simp (disch := omega) only [wr32_i2, wdiv_i2, wrem_i2]; omega) | grind | grind [wr32])) (fun y39 I40 c_8 ⟨⟨ay39, by39⟩, _, pI40⟩ => ?_)
        have eI40 := pI40.1.symm; replace pI40 := pI40.2; subst eI40
        have ⟨r_9a, r_9b⟩ : -2147483648 ≤ I0 o0 16 ∧ I0 o0 16 < 2147483648 := hRI0.1 o0 16
        refine sat_zwX0 hRI0 (wr32_in _) (by first | omega | (simp (disch := omega) only [wr32_i2, wdiv_i2, wrem_i2]; omega) | grind | grind [wr32]) (fun I42 eI42 hRI42 => ?_)
        exact hk36 I42 hRI42 ⟨(by intro q j hq; grind), (by first | omega | (simp (disch := omega) only [wr32_i2, wdiv_i2, wrem_i2]; omega) | grind | grind [wr32])⟩
      · try simp (disch := omega) only [wr32_i2, wdiv_i2, wrem_i2] at q_7
        exact hk36 I0 hRI0 ⟨(by intro q j hq; grind), (by first | omega | (simp (disch := omega) only [wr32_i2, wdiv_i2, wrem_i2]; omega) | grind | grind [wr32])⟩
theorem ok_X_next0_76 {Ib : IMem} (fu : Nat) (k_103 : IMem → Res) (o0 : Nat) (hfu : 5000000000 < fu) {Q_ : Int → IMem → Prop} (hk_103 : ∀ (I9 : IMem), GX o0 I9 → ((∀ q j, ¬ ((q = o0 ∧ j = 13)) → I9 q j = Ib q j) ∧ (0 ≤ I9 o0 13 ∧ I9 o0 13 ≤ I9 o0 12 ∧ Ib o0 13 ≤ I9 o0 13 ∧ (I9 o0 13 < I9 o0 12 → ¬ ((97 ≤ I9 (o0 + 6) (I9 o0 13).toNat ∧ I9 (o0 + 6) (I9 o0 13).toNat ≤ 122) ∨ (65 ≤ I9 (o0 + 6) (I9 o0 13).toNat ∧ I9 (o0 + 6) (I9 o0 13).toNat ≤ 90))))) → sat (k_103 I9) Q_) (hret : ∀ v I, inr v → GX o0 I → ((∀ q j, ¬ ((q = o0 ∧ j = 13)) → I q j = Ib q j) ∧ (False)) → sat (zr v I) Q_) : ∀ (m : Nat) (I0 : IMem), GX o0 I0 → ((∀ q j, ¬ ((q = o0 ∧ j = 13)) → I0 q j = Ib q j) ∧ (0 ≤ I0 o0 13 ∧ I0 o0 13 ≤ I0 o0 12 ∧ Ib o0 13 ≤ I0 o0 13)) → (I0 o0 12 - I0 o0 13).toNat < m → sat (f_X_next0_76 fu k_103 o0 m I0) Q_ := by
  intro m
  induction m with
  | zero => intro I0 _ _ h0; exact absurd h0 (Nat.not_lt_zero _)
  | succ m hR_ =>
    intro I0 hRI0 hinv hmeas
    have fI0 := hinv.1; replace hinv := hinv.2
    show sat (fb_X_next0_76 fu k_103 o0 (f_X_next0_76 fu k_103 o0 m) I0) Q_
    unfold fb_X_next0_76
    have hgt := gx_t hRI0
    have ⟨r_2a, r_2b⟩ : -2147483648 ≤ I0 o0 13 ∧ I0 o0 13 < 2147483648 := hRI0.1 o0 13
    refine sat_zb (ok_X_see fu o0 (I0 o0 13) I0 hfu hRI0 (hRI0.1 o0 13) (by first | omega | (simp (disch := omega) only [wr32_i2, wdiv_i2, wrem_i2]; omega) | grind | grind [wr32])) (fun y48 I49 c_1 ⟨⟨ay48, by48⟩, _, pI49⟩ => ?_)
    have eI49 := pI49.1.symm; replace pI49 := pI49.2; subst eI49
    refine sat_zb (ok_X_isLetter fu y48 I0 hfu hRI0.1 ⟨ay48, by48⟩) (fun y51 I52 c_3 ⟨⟨ay51, by51⟩, _, pI52⟩ => ?_)
    have eI52 := pI52.1.symm; replace pI52 := pI52.2; subst eI52
    refine sat_ite (fun q_4 => ?_) (fun q_4 => ?_)
    · exact hk_103 I0 hRI0 ⟨(by intro q j hq; grind), (by first | omega | (simp (disch := omega) only [wr32_i2, wdiv_i2, wrem_i2]; omega) | grind | grind [wr32])⟩
    · refine sat_zwX0 hRI0 (wr32_in _) (by first | omega | (simp (disch := omega) only [wr32_i2, wdiv_i2, wrem_i2]; omega) | grind | grind [wr32]) (fun I54 eI54 hRI54 => ?_)
      exact hR_ I54 hRI54 ⟨(by intro q j hq; grind), (by first | omega | (simp (disch := omega) only [wr32_i2, wdiv_i2, wrem_i2]; omega) | grind | grind [wr32])⟩ (by first | omega | (simp (disch := omega) only [wr32_i2, wdiv_i2, wrem_i2]; omega) | grind | grind [wr32])
theorem ok_X_next0 (fu : Nat) (o0 : Nat) (I0 : IMem) (hfu : 5000000000 < fu) (hRI0 : GX o0 I0) (h0 : 0 ≤ I0 o0 13 ∧ I0 o0 13 ≤ I0 o0 12) : sat (f_X_next0 fu o0 I0) (fun v I => inr v ∧ GX o0 I ∧ (0 ≤ I o0 15 ∧ I o0 15 ≤ I o0 13 ∧ I o0 13 ≤ I o0 12 ∧ (I o0 14 ≠ 0 → I o0 15 + 1 ≤ I o0 13) ∧ I0 o0 13 ≤ I o0 15)) := by
  unfold f_X_next0
  have hgt := gx_t hRI0
  refine ok_X_next0_0 (Ib := I0) fu _ o0 hfu ?_ (fun v I h1 h2 h3 => sat_zr ⟨h1, h2, (by first | exact h3.elim | exact h3.2.elim)⟩) fu I0 hRI0 ⟨(fun _ _ _ => rfl), (by first | omega | (simp (disch := omega) only [wr32_i2, wdiv_i2, wrem_i2]; omega) | grind | grind [wr32])⟩ (by first | omega | (simp (disch := omega) only [wr32_i2, wdiv_i2, wrem_i2]; omega) | grind | grind [wr32])
  · intro I10  hRI10 xI10
    have fI10 := xI10.1; replace xI10 := xI10.2
    have ⟨r_1a, r_1b⟩ : -2147483648 ≤ I10 o0 13 ∧ I10 o0 13 < 2147483648 := hRI10.1 o0 13
    refine sat_zwX0 hRI10 (hRI10.1 o0 13) (by first | omega | (simp (disch := omega) only [wr32_i2, wdiv_i2, wrem_i2]; omega) | grind | grind [wr32]) (fun I11 eI11 hRI11 => ?_)
    have ⟨r_3a, r_3b⟩ : -2147483648 ≤ I11 o0 13 ∧ I11 o0 13 < 2147483648 := hRI11.1 o0 13
    refine sat_zb (ok_X_see fu o0 (I11 o0 13) I11 hfu hRI11 (hRI11.1 o0 13) (by first | omega | (simp (disch := omega) only [wr32_i2, wdiv_i2, wrem_i2]; omega) | grind | grind [wr32])) (fun y12 I13 c_2 ⟨⟨ay12, by12⟩, _, pI13⟩ => ?_)
    have eI13 := pI13.1.symm; replace pI13 := pI13.2; subst eI13
    refine sat_ite (fun q_4 => ?_) (fun q_4 => ?_)
    · refine sat_zwX0 hRI11 (lit_in rfl) (by first | omega | (simp (disch := omega) only [wr32_i2, wdiv_i2, wrem_i2]; omega) | grind | grind [wr32]) (fun I60 eI60 hRI60 => ?_)
      exact sat_zr ⟨(lit_in rfl), hRI60, (by first | omega | (simp (disch := omega) only [wr32_i2, wdiv_i2, wrem_i2]; omega) | grind | grind [wr32])⟩
    · refine sat_zb (ok_X_isLetter fu y12 I11 hfu hRI11.1 ⟨ay12, by12⟩) (fun y15 I16 c_5 ⟨⟨ay15, by15⟩, _, pI16⟩ => ?_)
      have eI16 := pI16.1.symm; replace pI16 := pI16.2; subst eI16
      refine sat_ite (fun q_6 => ?_) (fun q_6 => ?_)
      · refine sat_zb (ok_X_isDigit fu y12 I11 hfu hRI11.1 ⟨ay12, by12⟩) (fun y18 I19 c_7 ⟨⟨ay18, by18⟩, _, pI19⟩ => ?_)
        have eI19 := pI19.1.symm; replace pI19 := pI19.2; subst eI19
        refine sat_ite (fun q_8 => ?_) (fun q_8 => ?_)
        · refine sat_zwX0 hRI11 (wr32_in _) (by first | omega | (simp (disch := omega) only [wr32_i2, wdiv_i2, wrem_i2]; omega) | grind | grind [wr32]) (fun I21 eI21 hRI21 => ?_)
          refine sat_zj (fun k22 ek22 => ?_)
          have hk22 : ∀ (x24 : Int) (I23 : IMem), inr x24 → GX o0 I23 → (I23 = I21 ∧ (True)) → sat (k22 x24 I23) (fun v I => inr v ∧ GX o0 I ∧ (0 ≤ I o0 15 ∧ I o0 15 ≤ I o0 13 ∧ I o0 13 ≤ I o0 12 ∧ (I o0 14 ≠ 0 → I o0 15 + 1 ≤ I o0 13) ∧ I0 o0 13 ≤ I o0 15)) := by
            intro x24 I23 ⟨ax24, bx24⟩ hRI23 jk22
            subst ek22
            have ejk22 := jk22.1.symm; replace jk22 := jk22.2; subst ejk22
            refine sat_zj (fun k25 ek25 => ?_)
            have hk25 : ∀ (x27 : Int) (I26 : IMem), inr x27 → GX o0 I26 → (I26 = I21 ∧ (True)) → sat (k25 x27 I26) (fun v I => inr v ∧ GX o0 I ∧ (0 ≤ I o0 15 ∧ I o0 15 ≤ I o0 13 ∧ I o0 13 ≤ I o0 12 ∧ (I o0 14 ≠ 0 → I o0 15 + 1 ≤ I o0 13) ∧ I0 o0 13 ≤ I o0 15)) := by
              intro x27 I26 ⟨ax27, bx27⟩ hRI26 jk25
              subst ek25
              have ejk25 := jk25.1.symm; replace jk25 := jk25.2; subst ejk25
              refine sat_zwX0 hRI21 ⟨ax27, bx27⟩ (by first | omega | (simp (disch := omega) only [wr32_i2, wdiv_i2, wrem_i2]; omega) | grind | grind [wr32]) (fun I28 eI28 hRI28 => ?_)
              exact sat_zr ⟨(lit_in rfl), hRI28, (by first | omega | (simp (disch := omega) only [wr32_i2, wdiv_i2, wrem_i2]; omega) | grind | grind [wr32])⟩
            clear ek25
            refine sat_ite (fun q_9 => ?_) (fun q_9 => ?_)
            · exact hk25 1 I21 (lit_in rfl) hRI21 ⟨rfl, trivial⟩
            · exact hk25 (wr32 (100 + y12)) I21 (wr32_in _) hRI21 ⟨rfl, trivial⟩
          clear ek22
          refine sat_ite (fun q_10 => ?_) (fun q_10 => ?_)
          · exact hk22 1 I21 (lit_in rfl) hRI21 ⟨rfl, trivial⟩
          · refine sat_ite (fun q_11 => ?_) (fun q_11 => ?_)
            · exact hk22 1 I21 (lit_in rfl) hRI21 ⟨rfl, trivial⟩
            · refine sat_ite (fun q_12 => ?_) (fun q_12 => ?_)
              · exact hk22 1 I21 (lit_in rfl) hRI21 ⟨rfl, trivial⟩
              · refine sat_ite (fun q_13 => ?_) (fun q_13 => ?_)
                · exact hk22 1 I21 (lit_in rfl) hRI21 ⟨rfl, trivial⟩
                · refine sat_ite (fun q_14 => ?_) (fun q_14 => ?_)
                  · exact hk22 1 I21 (lit_in rfl) hRI21 ⟨rfl, trivial⟩
                  · refine sat_ite (fun q_15 => ?_) (fun q_15 => ?_)
                    · exact hk22 1 I21 (lit_in rfl) hRI21 ⟨rfl, trivial⟩
                    · refine sat_ite (fun q_16 => ?_) (fun q_16 => ?_)
                      · exact hk22 1 I21 (lit_in rfl) hRI21 ⟨rfl, trivial⟩
                      · refine sat_ite (fun q_17 => ?_) (fun q_17 => ?_)
                        · exact hk22 1 I21 (lit_in rfl) hRI21 ⟨rfl, trivial⟩
                        · refine sat_ite (fun q_18 => ?_) (fun q_18 => ?_)
                          · exact hk22 1 I21 (lit_in rfl) hRI21 ⟨rfl, trivial⟩
                          · refine sat_ite (fun q_19 => ?_) (fun q_19 => ?_)
                            · exact hk22 1 I21 (lit_in rfl) hRI21 ⟨rfl, trivial⟩
                            · exact hk22 0 I21 (lit_in rfl) hRI21 ⟨rfl, trivial⟩
        · refine sat_zwX0 hRI11 (lit_in rfl) (by first | omega | (simp (disch := omega) only [wr32_i2, wdiv_i2, wrem_i2]; omega) | grind | grind [wr32]) (fun I29 eI29 hRI29 => ?_)
          refine ok_X_next0_126 (Ib := I29) fu _ o0 hfu ?_ (fun v I h1 h2 h3 => sat_zr ⟨h1, h2, (by first | exact h3.elim | exact h3.2.elim)⟩) fu I29 hRI29 ⟨(fun _ _ _ => rfl), (by first | omega | (simp (disch := omega) only [wr32_i2, wdiv_i2, wrem_i2]; omega) | grind | grind [wr32])⟩ (by first | omega | (simp (disch := omega) only [wr32_i2, wdiv_i2, wrem_i2]; omega) | grind | grind [wr32])
          · intro I43  hRI43 xI43
            have fI43 := xI43.1; replace xI43 := xI43.2
            refine sat_zj (fun k44 ek44 => ?_)
            have hk44 : ∀ (x46 : Int) (I45 : IMem), inr x46 → GX o0 I45 → (I45 = I43 ∧ (True)) → sat (k44 x46 I45) (fun v I => inr v ∧ GX o0 I ∧ (0 ≤ I o0 15 ∧ I o0 15 ≤ I o0 13 ∧ I o0 13 ≤ I o0 12 ∧ (I o0 14 ≠ 0 → I o0 15 + 1 ≤ I o0 13) ∧ I0 o0 13 ≤ I o0 15)) := by
              intro x46 I45 ⟨ax46, bx46⟩ hRI45 jk44
              subst ek44
              have ejk44 := jk44.1.symm; replace jk44 := jk44.2; subst ejk44
              refine sat_zwX0 hRI43 ⟨ax46, bx46⟩ (by first | omega | (simp (disch := omega) only [wr32_i2, wdiv_i2, wrem_i2]; omega) | grind | grind [wr32]) (fun I47 eI47 hRI47 => ?_)
              exact sat_zr ⟨(lit_in rfl), hRI47, (by first | omega | (simp (disch := omega) only [wr32_i2, wdiv_i2, wrem_i2]; omega) | grind | grind [wr32])⟩
            clear ek44
            have ⟨r_20a, r_20b⟩ : -2147483648 ≤ I43 o0 13 ∧ I43 o0 13 < 2147483648 := hRI43.1 o0 13
            have ⟨r_21a, r_21b⟩ : -2147483648 ≤ I43 o0 15 ∧ I43 o0 15 < 2147483648 := hRI43.1 o0 15
            refine sat_ite (fun q_22 => ?_) (fun q_22 => ?_)
            · try simp (disch := omega) only [wr32_i2, wdiv_i2, wrem_i2] at q_22
              exact hk44 2 I43 (lit_in rfl) hRI43 ⟨rfl, trivial⟩
            · try simp (disch := omega) only [wr32_i2, wdiv_i2, wrem_i2] at q_22
              exact hk44 1 I43 (lit_in rfl) hRI43 ⟨rfl, trivial⟩
      · refine ok_X_next0_76 (Ib := I11) fu _ o0 hfu ?_ (fun v I h1 h2 h3 => sat_zr ⟨h1, h2, (by first | exact h3.elim | exact h3.2.elim)⟩) fu I11 hRI11 ⟨(fun _ _ _ => rfl), (by first | omega | (simp (disch := omega) only [wr32_i2, wdiv_i2, wrem_i2]; omega) | grind | grind [wr32])⟩ (by first | omega | (simp (disch := omega) only [wr32_i2, wdiv_i2, wrem_i2]; omega) | grind | grind [wr32])
        · intro I55  hRI55 xI55
          have fI55 := xI55.1; replace xI55 := xI55.2
          refine sat_zb (ok_X_word fu o0 I55 hfu hRI55 (by first | omega | (simp (disch := omega) only [wr32_i2, wdiv_i2, wrem_i2]; omega) | grind | grind [wr32])) (fun y56 I57 c_23 ⟨⟨ay56, by56⟩, _, pI57⟩ => ?_)
          have eI57 := pI57.1.symm; replace pI57 := pI57.2; subst eI57
          refine sat_zwX0 hRI55 ⟨ay56, by56⟩ (by first | omega | (simp (disch := omega) only [wr32_i2, wdiv_i2, wrem_i2]; omega) | grind | grind [wr32]) (fun I59 eI59 hRI59 => ?_)
          exact sat_zr ⟨(lit_in rfl), hRI59, (by first | omega | (simp (disch := omega) only [wr32_i2, wdiv_i2, wrem_i2]; omega) | grind | grind [wr32])⟩
