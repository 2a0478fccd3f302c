/-! safety of the reference -/
theorem ok_X_which_32 {Ib : IMem} (fu : Nat) (k_135 : Int → Int → Int → IMem → Res) (o0 : Nat) (p1 : Int) (p2 : Int) (hfu : 5000000000 < fu) (qp1 : inr p1) (qp2 : inr p2) (hp1 : p1 ≤ 20) (hc : Ib (o0 + 1) 70 < 1900000000) {Q_ : Int → IMem → Prop} (hk_135 : ∀ (z0 : Int) (z1 : Int) (z2 : Int) (I9 : IMem), inr z0 → inr z1 → inr z2 → GX o0 I9 → ((∀ q j, ¬ (q = o0 + 1 ∨ q = o0 + 3 ∨ q = o0 + 7 ∨ q = o0 + 9 ∨ q = o0 + 10 ∨ q = o0 + 11 ∨ q = o0 + 12 ∨ q = o0 + 13 ∨ q = o0 + 14 ∨ q = o0 + 15 ∨ q = o0 + 23 ∨ q = o0 + 24 ∨ (q = o0 ∧ j = 22) ∨ (q = o0 ∧ j = 24) ∨ (q = o0 ∧ j = 30) ∨ (q = o0 ∧ j = 31) ∨ (q = o0 ∧ j = 32) ∨ (q = o0 ∧ j = 33) ∨ (q = o0 ∧ j = 34) ∨ (q = o0 ∧ j = 35) ∨ (q = o0 ∧ j = 50) ∨ (q = o0 + 8 ∧ j = 1) ∨ (q = o0 + 8 ∧ j = 2) ∨ (q = o0 + 8 ∧ j = 3) ∨ (q = o0 + 8 ∧ j = 4) ∨ (q = o0 + 8 ∧ j = 5) ∨ (q = o0 + 8 ∧ j = 6) ∨ (q = o0 + 8 ∧ j = 7) ∨ (q = o0 + 8 ∧ j = 8) ∨ (q = o0 + 8 ∧ j = 9) ∨ (q = o0 + 8 ∧ j = 10) ∨ (q = o0 + 8 ∧ j = 11) ∨ (q = o0 + 25 ∧ j = 0) ∨ (q = o0 + 25 ∧ j = 1) ∨ (q = o0 + 25 ∧ j = 2) ∨ (q = o0 + 25 ∧ j = 3) ∨ (q = o0 + 25 ∧ j = 4) ∨ (q = o0 + 25 ∧ j = 5)) → I9 q j = Ib q j) ∧ (SA o0 Ib I9)) → sat (k_135 z0 z1 z2 I9) Q_) (hret : ∀ v I, inr v → GX o0 I → ((∀ q j, ¬ (q = o0 + 1 ∨ q = o0 + 3 ∨ q = o0 + 7 ∨ q = o0 + 9 ∨ q = o0 + 10 ∨ q = o0 + 11 ∨ q = o0 + 12 ∨ q = o0 + 13 ∨ q = o0 + 14 ∨ q = o0 + 15 ∨ q = o0 + 23 ∨ q = o0 + 24 ∨ (q = o0 ∧ j = 22) ∨ (q = o0 ∧ j = 24) ∨ (q = o0 ∧ j = 30) ∨ (q = o0 ∧ j = 31) ∨ (q = o0 ∧ j = 32) ∨ (q = o0 ∧ j = 33) ∨ (q = o0 ∧ j = 34) ∨ (q = o0 ∧ j = 35) ∨ (q = o0 ∧ j = 50) ∨ (q = o0 + 8 ∧ j = 1) ∨ (q = o0 + 8 ∧ j = 2) ∨ (q = o0 + 8 ∧ j = 3) ∨ (q = o0 + 8 ∧ j = 4) ∨ (q = o0 + 8 ∧ j = 5) ∨ (q = o0 + 8 ∧ j = 6) ∨ (q = o0 + 8 ∧ j = 7) ∨ (q = o0 + 8 ∧ j = 8) ∨ (q = o0 + 8 ∧ j = 9) ∨ (q = o0 + 8 ∧ j = 10) ∨ (q = o0 + 8 ∧ j = 11) ∨ (q = o0 + 25 ∧ j = 0) ∨ (q = o0 + 25 ∧ j = 1) ∨ (q = o0 + 25 ∧ j = 2) ∨ (q = o0 + 25 ∧ j = 3) ∨ (q = o0 + 25 ∧ j = 4) ∨ (q = o0 + 25 ∧ j = 5)) → I q j = Ib q j) ∧ (False)) → sat (zr v I) Q_) : ∀ (m : Nat) (w3 : Int) (w4 : Int) (w5 : Int) (w6 : Int) (I0 : IMem), inr w3 → inr w4 → inr w5 → inr w6 → GX o0 I0 → ((∀ q j, ¬ (q = o0 + 1 ∨ q = o0 + 3 ∨ q = o0 + 7 ∨ q = o0 + 9 ∨ q = o0 + 10 ∨ q = o0 + 11 ∨ q = o0 + 12 ∨ q = o0 + 13 ∨ q = o0 + 14 ∨ q = o0 + 15 ∨ q = o0 + 23 ∨ q = o0 + 24 ∨ (q = o0 ∧ j = 22) ∨ (q = o0 ∧ j = 24) ∨ (q = o0 ∧ j = 30) ∨ (q = o0 ∧ j = 31) ∨ (q = o0 ∧ j = 32) ∨ (q = o0 ∧ j = 33) ∨ (q = o0 ∧ j = 34) ∨ (q = o0 ∧ j = 35) ∨ (q = o0 ∧ j = 50) ∨ (q = o0 + 8 ∧ j = 1) ∨ (q = o0 + 8 ∧ j = 2) ∨ (q = o0 + 8 ∧ j = 3) ∨ (q = o0 + 8 ∧ j = 4) ∨ (q = o0 + 8 ∧ j = 5) ∨ (q = o0 + 8 ∧ j = 6) ∨ (q = o0 + 8 ∧ j = 7) ∨ (q = o0 + 8 ∧ j = 8) ∨ (q = o0 + 8 ∧ j = 9) ∨ (q = o0 + 8 ∧ j = 10) ∨ (q = o0 + 8 ∧ j = 11) ∨ (q = o0 + 25 ∧ j = 0) ∨ (q = o0 + 25 ∧ j = 1) ∨ (q = o0 + 25 ∧ j = 2) ∨ (q = o0 + 25 ∧ j = 3) ∨ (q = o0 + 25 ∧ j = 4) ∨ (q = o0 + 25 ∧ j = 5)) → I0 q j = Ib q j) ∧ (0 ≤ w6 ∧ SA o0 Ib I0)) → (16 - w6).toNat < m → sat (f_X_which_32 fu k_135 o0 p1 p2 m w3 w4 w5 w6 I0) Q_ := by
  intro m
  induction m with
  | zero => intro w3 w4 w5 w6 I0 _ _ _ _ _ _ h0; exact absurd h0 (Nat.not_lt_zero _)
  | succ m hR_ =>
    intro w3 w4 w5 w6 I0 ⟨aw3, bw3⟩ ⟨aw4, bw4⟩ ⟨aw5, bw5⟩ ⟨aw6, bw6⟩ hRI0 hinv hmeas
    have fI0 := hinv.1; replace hinv := hinv.2
    show sat (fb_X_which_32 fu k_135 o0 p1 p2 (f_X_which_32 fu k_135 o0 p1 p2 m) w3 w4 w5 w6 I0) Q_
    unfold fb_X_which_32
    obtain ⟨ap1, bp1⟩ := qp1
    obtain ⟨ap2, bp2⟩ := qp2
    refine sat_ite (fun q_1 => ?_) (fun q_1 => ?_)
    · refine sat_zwX0 hRI0 ⟨aw6, bw6⟩ (by first | omega | (simp (disch := omega) only [wr32_i2, wdiv_i2, wrem_i2]; omega) | grind | grind [wr32]) (fun I7 eI7 hRI7 => ?_)
      have hs7 : SA o0 Ib I7 := sa_fr hinv.2 (fun q j h => by rw [eI7, if_neg (by omega)])
      have hc7 := hs7.1 70 (by decide)
      have hg7 := gx_a hRI7
      have ⟨r_4a, r_4b⟩ : -2147483648 ≤ I7 (o0 + 1) 6 ∧ I7 (o0 + 1) 6 < 2147483648 := hRI7.1 (o0 + 1) 6
      have r_4g := gx_a hRI7
      have ⟨r_5a, r_5b⟩ : -2147483648 ≤ I7 (o0 + 1) 5 ∧ I7 (o0 + 1) 5 < 2147483648 := hRI7.1 (o0 + 1) 5
      have ⟨r_6a, r_6b⟩ : -2147483648 ≤ I7 (o0 + 1) 1 ∧ I7 (o0 + 1) 1 < 2147483648 := hRI7.1 (o0 + 1) 1
      refine sat_zb (ok_X_leads fu o0 (I7 (o0 + 1) 6) (I7 (o0 + 1) 5) (I7 (o0 + 1) 1) p1 I7 hfu hRI7 (hRI7.1 (o0 + 1) 6) (hRI7.1 (o0 + 1) 5) (hRI7.1 (o0 + 1) 1) ⟨ap1, bp1⟩ (by first | omega | (simp (disch := omega) only [wr32_i2, wdiv_i2, wrem_i2]; omega) | grind | grind [wr32]) (by first | omega | (simp (disch := omega) only [wr32_i2, wdiv_i2, wrem_i2]; omega) | grind | grind [wr32])) (fun u_2 I9 c_3 ⟨⟨au_2, bu_2⟩, hRI9, pI9⟩ => ?_)
      have fI9 : ∀ q j, ¬ (q = o0 + 1 ∨ q = o0 + 3 ∨ q = o0 + 7 ∨ q = o0 + 9 ∨ q = o0 + 10 ∨ q = o0 + 11 ∨ q = o0 + 12 ∨ q = o0 + 13 ∨ q = o0 + 14 ∨ q = o0 + 15 ∨ q = o0 + 23 ∨ q = o0 + 24 ∨ (q = o0 ∧ j = 24) ∨ (q = o0 ∧ j = 30) ∨ (q = o0 ∧ j = 31) ∨ (q = o0 ∧ j = 32) ∨ (q = o0 ∧ j = 33) ∨ (q = o0 ∧ j = 34) ∨ (q = o0 ∧ j = 35) ∨ (q = o0 ∧ j = 50) ∨ (q = o0 + 8 ∧ j = 1) ∨ (q = o0 + 8 ∧ j = 2) ∨ (q = o0 + 8 ∧ j = 3) ∨ (q = o0 + 8 ∧ j = 4) ∨ (q = o0 + 8 ∧ j = 5) ∨ (q = o0 + 8 ∧ j = 6) ∨ (q = o0 + 8 ∧ j = 7) ∨ (q = o0 + 8 ∧ j = 8) ∨ (q = o0 + 8 ∧ j = 9) ∨ (q = o0 + 8 ∧ j = 10) ∨ (q = o0 + 8 ∧ j = 11) ∨ (q = o0 + 25 ∧ j = 0) ∨ (q = o0 + 25 ∧ j = 1) ∨ (q = o0 + 25 ∧ j = 2) ∨ (q = o0 + 25 ∧ j = 3) ∨ (q = o0 + 25 ∧ j = 4) ∨ (q = o0 + 25 ∧ j = 5)) → I9 q j = I7 q j := fc_X_leads (fun q j => q = o0 + 1 ∨ q = o0 + 3 ∨ q = o0 + 7 ∨ q = o0 + 9 ∨ q = o0 + 10 ∨ q = o0 + 11 ∨ q = o0 + 12 ∨ q = o0 + 13 ∨ q = o0 + 14 ∨ q = o0 + 15 ∨ q = o0 + 23 ∨ q = o0 + 24 ∨ (q = o0 ∧ j = 24) ∨ (q = o0 ∧ j = 30) ∨ (q = o0 ∧ j = 31) ∨ (q = o0 ∧ j = 32) ∨ (q = o0 ∧ j = 33) ∨ (q = o0 ∧ j = 34) ∨ (q = o0 ∧ j = 35) ∨ (q = o0 ∧ j = 50) ∨ (q = o0 + 8 ∧ j = 1) ∨ (q = o0 + 8 ∧ j = 2) ∨ (q = o0 + 8 ∧ j = 3) ∨ (q = o0 + 8 ∧ j = 4) ∨ (q = o0 + 8 ∧ j = 5) ∨ (q = o0 + 8 ∧ j = 6) ∨ (q = o0 + 8 ∧ j = 7) ∨ (q = o0 + 8 ∧ j = 8) ∨ (q = o0 + 8 ∧ j = 9) ∨ (q = o0 + 8 ∧ j = 10) ∨ (q = o0 + 8 ∧ j = 11) ∨ (q = o0 + 25 ∧ j = 0) ∨ (q = o0 + 25 ∧ j = 1) ∨ (q = o0 + 25 ∧ j = 2) ∨ (q = o0 + 25 ∧ j = 3) ∨ (q = o0 + 25 ∧ j = 4) ∨ (q = o0 + 25 ∧ j = 5)) fu o0 (I7 (o0 + 1) 6) (I7 (o0 + 1) 5) (I7 (o0 + 1) 1) p1 I7 (fun _ => by simp) (fun _ => by simp) (fun _ => by simp) (fun _ => by simp) (fun _ => by simp) (fun _ => by simp) (fun _ => by simp) (fun _ => by simp) (fun _ => by simp) (fun _ => by simp) (fun _ => by simp) (fun _ => by simp) (by simp) (by simp) (by simp) (by simp) (by simp) (by simp) (by simp) (by simp) (by simp) (by simp) (by simp) (by simp) (by simp) (by simp) (by simp) (by simp) (by simp) (by simp) (by simp) (by simp) (by simp) (by simp) (by simp) (by simp) (by simp) c_3
      refine sat_zj (fun k11 ek11 => ?_)
      have hk11 : ∀ (x13 : Int) (x14 : Int) (x15 : Int) (I12 : IMem), inr x13 → inr x14 → inr x15 → GX o0 I12 → (I12 = I9 ∧ (SA o0 Ib I12)) → sat (k11 x13 x14 x15 I12) Q_ := by
        intro x13 x14 x15 I12 ⟨ax13, bx13⟩ ⟨ax14, bx14⟩ ⟨ax15, bx15⟩ hRI12 jk11
        subst ek11
        have ejk11 := jk11.1.symm; replace jk11 := jk11.2; subst ejk11
        refine sat_zl (wr32_in _) (fun x16 hx16 ax16 bx16 => ?_)
        try simp (disch := omega) only [wr32_i2, wdiv_i2, wrem_i2] at hx16
        exact hR_ x13 x14 x15 x16 I9 ⟨ax13, bx13⟩ ⟨ax14, bx14⟩ ⟨ax15, bx15⟩ ⟨ax16, bx16⟩ hRI9 ⟨(by intro q j hq; grind), ⟨by omega, jk11⟩⟩ (by first | omega | (simp (disch := omega) only [wr32_i2, wdiv_i2, wrem_i2]; omega) | grind | grind [wr32])
      clear ek11
      refine sat_zj (fun k17 ek17 => ?_)
      have hk17 : ∀ (I18 : IMem), GX o0 I18 → (I18 = I9 ∧ (SA o0 Ib I18)) → sat (k17 I18) Q_ := by
        intro I18  hRI18 jk17
        subst ek17
        have ejk17 := jk17.1.symm; replace jk17 := jk17.2; subst ejk17
        have ⟨r_7a, r_7b⟩ : -2147483648 ≤ I9 (o0 + 25) 0 ∧ I9 (o0 + 25) 0 < 2147483648 := hRI9.1 (o0 + 25) 0
        refine sat_zl (hRI9.1 (o0 + 25) 0) (fun x19 hx19 ax19 bx19 => ?_)
        have ⟨r_8a, r_8b⟩ : -2147483648 ≤ I9 (o0 + 25) 2 ∧ I9 (o0 + 25) 2 < 2147483648 := hRI9.1 (o0 + 25) 2
        refine sat_zl (hRI9.1 (o0 + 25) 2) (fun x20 hx20 ax20 bx20 => ?_)
        exact hk11 w6 x19 x20 I9 ⟨aw6, bw6⟩ ⟨ax19, bx19⟩ ⟨ax20, bx20⟩ hRI9 ⟨rfl, (by first | exact jk17 | exact sa_t hs7 pI9)⟩
      clear ek17
      refine sat_ite (fun q_9 => ?_) (fun q_9 => ?_)
      · exact hk17 I9 hRI9 ⟨rfl, (sa_t hs7 pI9)⟩
      · have ⟨r_10a, r_10b⟩ : -2147483648 ≤ I9 (o0 + 25) 0 ∧ I9 (o0 + 25) 0 < 2147483648 := hRI9.1 (o0 + 25) 0
        refine sat_ite (fun q_11 => ?_) (fun q_11 => ?_)
        · exact hk11 w3 w4 w5 I9 ⟨aw3, bw3⟩ ⟨aw4, bw4⟩ ⟨aw5, bw5⟩ hRI9 ⟨rfl, (by first | exact jk17 | exact sa_t hs7 pI9)⟩
        · refine sat_ite (fun q_12 => ?_) (fun q_12 => ?_)
          · have ⟨r_13a, r_13b⟩ : -2147483648 ≤ I9 (o0 + 25) 2 ∧ I9 (o0 + 25) 2 < 2147483648 := hRI9.1 (o0 + 25) 2
            refine sat_ite (fun q_14 => ?_) (fun q_14 => ?_)
            · exact hk17 I9 hRI9 ⟨rfl, (sa_t hs7 pI9)⟩
            · exact hk11 w3 w4 w5 I9 ⟨aw3, bw3⟩ ⟨aw4, bw4⟩ ⟨aw5, bw5⟩ hRI9 ⟨rfl, (by first | exact jk17 | exact sa_t hs7 pI9)⟩
          · exact hk17 I9 hRI9 ⟨rfl, (sa_t hs7 pI9)⟩
    · exact hk_135 w3 w4 w5 I0 ⟨aw3, bw3⟩ ⟨aw4, bw4⟩ ⟨aw5, bw5⟩ hRI0 ⟨(by intro q j hq; grind), hinv.2⟩
theorem ok_X_which (fu : Nat) (o0 : Nat) (a1 : Int) (a2 : Int) (I0 : IMem) (hfu : 5000000000 < fu) (hRI0 : GX o0 I0) (qa1 : inr a1) (qa2 : inr a2) (hc : I0 (o0 + 1) 70 < 1900000000) : sat (f_X_which fu o0 a1 a2 I0) (fun v I => inr v ∧ GX o0 I ∧ (SA o0 I0 I)) := by
  unfold f_X_which
  obtain ⟨aa1, ba1⟩ := qa1
  obtain ⟨aa2, ba2⟩ := qa2
  refine sat_zb (ok_X_isIn fu a1 1 20 I0 hfu hRI0.1 ⟨aa1, ba1⟩ (lit_in rfl) (lit_in rfl)) (fun y1 I2 c_1 ⟨⟨ay1, by1⟩, _, pI2⟩ => ?_)
  have eI2 := pI2.1.symm; replace pI2 := pI2.2; subst eI2
  refine sat_ite (fun q_2 => ?_) (fun q_2 => ?_)
  · exact sat_zr ⟨(lit_in rfl), hRI0, (by first | exact sa_fr xI21 (fun q j h => by rw [eI25, if_neg (by omega)]) | exact sa_rfl)⟩
  · refine sat_zb (ok_X_isIn fu a2 0 2 I0 hfu hRI0.1 ⟨aa2, ba2⟩ (lit_in rfl) (lit_in rfl)) (fun y4 I5 c_3 ⟨⟨ay4, by4⟩, _, pI5⟩ => ?_)
    have eI5 := pI5.1.symm; replace pI5 := pI5.2; subst eI5
    refine sat_ite (fun q_4 => ?_) (fun q_4 => ?_)
    · exact sat_zr ⟨(lit_in rfl), hRI0, (by first | exact sa_fr xI21 (fun q j h => by rw [eI25, if_neg (by omega)]) | exact sa_rfl)⟩
    · refine ok_X_which_32 (Ib := I0) fu _ o0 a1 a2 hfu ⟨aa1, ba1⟩ ⟨aa2, ba2⟩ (by first | omega | (simp (disch := omega) only [wr32_i2, wdiv_i2, wrem_i2]; omega) | grind | grind [wr32]) (by first | omega | (simp (disch := omega) only [wr32_i2, wdiv_i2, wrem_i2]; omega) | grind | grind [wr32]) ?_ (fun v I h1 h2 h3 => sat_zr ⟨h1, h2, (by first | exact h3.elim | exact h3.2.elim)⟩) fu ((-1)) 0 0 0 I0 (lit_in rfl) (lit_in rfl) (lit_in rfl) (lit_in rfl) hRI0 ⟨(fun _ _ _ => rfl), ⟨by omega, sa_rfl⟩⟩ (by first | omega | (simp (disch := omega) only [wr32_i2, wdiv_i2, wrem_i2]; omega) | grind | grind [wr32])
      · intro x22 x23 x24 I21 ⟨ax22, bx22⟩ ⟨ax23, bx23⟩ ⟨ax24, bx24⟩ hRI21 xI21
        have fI21 := xI21.1; replace xI21 := xI21.2
        refine sat_zwX0 hRI21 (lit_in rfl) (by first | omega | (simp (disch := omega) only [wr32_i2, wdiv_i2, wrem_i2]; omega) | grind | grind [wr32]) (fun I25 eI25 hRI25 => ?_)
        refine sat_ite (fun q_5 => ?_) (fun q_5 => ?_)
        · exact sat_zr ⟨⟨ax22, bx22⟩, hRI25, (by first | exact sa_fr xI21 (fun q j h => by rw [eI25, if_neg (by omega)]) | exact sa_rfl)⟩
        · refine sat_ite (fun q_6 => ?_) (fun q_6 => ?_)
          · exact sat_zr ⟨⟨ax23, bx23⟩, hRI25, (by first | exact sa_fr xI21 (fun q j h => by rw [eI25, if_neg (by omega)]) | exact sa_rfl)⟩
          · exact sat_zr ⟨⟨ax24, bx24⟩, hRI25, (by first | exact sa_fr xI21 (fun q j h => by rw [eI25, if_neg (by omega)]) | exact sa_rfl)⟩
theorem ok_X_folded_48 {Ib : IMem} (fu : Nat) (o0 : Nat) (p1 : Int) (p2 : Int) (p3 : Int) (hfu : 5000000000 < fu) (qp1 : inr p1) (qp2 : inr p2) (qp3 : inr p3) (hp : 0 ≤ p1 ∧ p1 < 6 ∧ 1 ≤ p2) {Q_ : Int → IMem → Prop} (hret : ∀ v I, inr v → GX o0 I → (I = Ib ∧ (True)) → sat (zr v I) Q_) : ∀ (m : Nat) (w4 : Int) (w5 : Int) (w6 : Int) (I0 : IMem), inr w4 → inr w5 → inr w6 → GX o0 I0 → (I0 = Ib ∧ (0 ≤ w6 ∧ w6 ≤ 40)) → (41 - w6).toNat < m → sat (f_X_folded_48 fu o0 p1 p2 p3 m w4 w5 w6 I0) Q_ := by
  intro m
  induction m with
  | zero => intro w4 w5 w6 I0 _ _ _ _ _ h0; exact absurd h0 (Nat.not_lt_zero _)
  | succ m hR_ =>
    intro w4 w5 w6 I0 ⟨aw4, bw4⟩ ⟨aw5, bw5⟩ ⟨aw6, bw6⟩ hRI0 hinv hmeas
    have einv := hinv.1; replace hinv := hinv.2; subst einv
    show sat (fb_X_folded_48 fu o0 p1 p2 p3 (f_X_folded_48 fu o0 p1 p2 p3 m) w4 w5 w6 I0) Q_
    unfold fb_X_folded_48
    obtain ⟨ap1, bp1⟩ := qp1
    obtain ⟨ap2, bp2⟩ := qp2
    obtain ⟨ap3, bp3⟩ := qp3
    refine sat_zl (wr32_in _) (fun x11 hx11 ax11 bx11 => ?_)
    try simp (disch := omega) only [wr32_i2, wdiv_i2, wrem_i2] at hx11
    refine sat_zg (by first | omega | grind | grind [wr32]) (fun g_1 => ?_)
    have ⟨r_2a, r_2b⟩ : -2147483648 ≤ I0 (o0 + 1) x11.toNat ∧ I0 (o0 + 1) x11.toNat < 2147483648 := hRI0.1 (o0 + 1) x11.toNat
    try have r_2many := gx_many hRI0 x11.toNat (by omega) (by omega)
    try have r_2seen := gx_seen hRI0 x11.toNat (by omega) (by omega)
    try have r_2part := gx_part hRI0 x11.toNat (by omega) (by omega)
    try have r_2rows := gx_rows hRI0 x11.toNat (by omega) (by omega) (by omega)
    refine sat_ite (fun q_3 => ?_) (fun q_3 => ?_)
    · refine sat_zb (ok_X_of fu o0 p1 w6 1 I0 hfu hRI0 ⟨ap1, bp1⟩ ⟨aw6, bw6⟩ (lit_in rfl) (by first | omega | (simp (disch := omega) only [wr32_i2, wdiv_i2, wrem_i2]; omega) | grind | grind [wr32])) (fun y12 I13 c_4 ⟨⟨ay12, by12⟩, _, pI13⟩ => ?_)
      have eI13 := pI13.1.symm; replace pI13 := pI13.2; subst eI13
      refine sat_zj (fun k15 ek15 => ?_)
      have hk15 : ∀ (x17 : Int) (x18 : Int) (x19 : Int) (I16 : IMem), inr x17 → inr x18 → inr x19 → GX o0 I16 → (I16 = I0 ∧ (True)) → sat (k15 x17 x18 x19 I16) Q_ := by
        intro x17 x18 x19 I16 ⟨ax17, bx17⟩ ⟨ax18, bx18⟩ ⟨ax19, bx19⟩ hRI16 jk15
        subst ek15
        have ejk15 := jk15.1.symm; replace jk15 := jk15.2; subst ejk15
        refine sat_ite (fun q_5 => ?_) (fun q_5 => ?_)
        · exact hret _ _ ⟨ax19, bx19⟩ hRI0 ⟨rfl, trivial⟩
        · refine sat_zl (wr32_in _) (fun x20 hx20 ax20 bx20 => ?_)
          try simp (disch := omega) only [wr32_i2, wdiv_i2, wrem_i2] at hx20
          exact hR_ x17 x18 x20 I0 ⟨ax17, bx17⟩ ⟨ax18, bx18⟩ ⟨ax20, bx20⟩ hRI0 ⟨rfl, (by first | omega | (simp (disch := omega) only [wr32_i2, wdiv_i2, wrem_i2]; omega) | grind | grind [wr32])⟩ (by first | omega | (simp (disch := omega) only [wr32_i2, wdiv_i2, wrem_i2]; omega) | grind | grind [wr32])
      clear ek15
      refine sat_ite (fun q_6 => ?_) (fun q_6 => ?_)
      · refine sat_zg (by first | omega | grind | grind [wr32]) (fun g_7 => ?_)
        refine sat_zl (wr32_in _) (fun x24 hx24 ax24 bx24 => ?_)
        try simp (disch := omega) only [wr32_i2, wdiv_i2, wrem_i2] at hx24
        exact hk15 x24 p2 w4 I0 ⟨ax24, bx24⟩ ⟨ap2, bp2⟩ ⟨aw4, bw4⟩ hRI0 ⟨rfl, trivial⟩
      · refine sat_ite (fun q_8 => ?_) (fun q_8 => ?_)
        · try simp (disch := omega) only [wr32_i2, wdiv_i2, wrem_i2] at q_8
          refine sat_zl (wr32_in _) (fun x21 hx21 ax21 bx21 => ?_)
          try simp (disch := omega) only [wr32_i2, wdiv_i2, wrem_i2] at hx21
          exact hk15 x21 y12 w4 I0 ⟨ax21, bx21⟩ ⟨ay12, by12⟩ ⟨aw4, bw4⟩ hRI0 ⟨rfl, trivial⟩
        · try simp (disch := omega) only [wr32_i2, wdiv_i2, wrem_i2] at q_8
          refine sat_zl (wr32_in _) (fun x22 hx22 ax22 bx22 => ?_)
          try simp (disch := omega) only [wr32_i2, wdiv_i2, wrem_i2] at hx22
          refine sat_zl (wr32_in _) (fun x23 hx23 ax23 bx23 => ?_)
          try simp (disch := omega) only [wr32_i2, wdiv_i2, wrem_i2] at hx23
          exact hk15 w4 x23 x22 I0 ⟨aw4, bw4⟩ ⟨ax23, bx23⟩ ⟨ax22, bx22⟩ hRI0 ⟨rfl, trivial⟩
    · exact hret _ _ ⟨aw4, bw4⟩ hRI0 ⟨rfl, trivial⟩
theorem ok_X_folded (fu : Nat) (o0 : Nat) (a1 : Int) (a2 : Int) (a3 : Int) (I0 : IMem) (hfu : 5000000000 < fu) (hRI0 : GX o0 I0) (qa1 : inr a1) (qa2 : inr a2) (qa3 : inr a3) : sat (f_X_folded fu o0 a1 a2 a3 I0) (fun v I => inr v ∧ GX o0 I ∧ (I = I0 ∧ (True))) := by
  unfold f_X_folded
  obtain ⟨aa1, ba1⟩ := qa1
  obtain ⟨aa2, ba2⟩ := qa2
  obtain ⟨aa3, ba3⟩ := qa3
  refine sat_zb (ok_X_isLine fu a1 I0 hfu hRI0.1 ⟨aa1, ba1⟩) (fun y1 I2 c_1 ⟨⟨ay1, by1⟩, _, pI2⟩ => ?_)
  have eI2 := pI2.1.symm; replace pI2 := pI2.2; subst eI2
  refine sat_ite (fun q_2 => ?_) (fun q_2 => ?_)
  · exact sat_zr ⟨(lit_in rfl), hRI0, ⟨rfl, trivial⟩⟩
  · refine sat_zb (ok_X_isIn fu a2 1 40 I0 hfu hRI0.1 ⟨aa2, ba2⟩ (lit_in rfl) (lit_in rfl)) (fun y4 I5 c_3 ⟨⟨ay4, by4⟩, _, pI5⟩ => ?_)
    have eI5 := pI5.1.symm; replace pI5 := pI5.2; subst eI5
    refine sat_ite (fun q_4 => ?_) (fun q_4 => ?_)
    · exact sat_zr ⟨(lit_in rfl), hRI0, ⟨rfl, trivial⟩⟩
    · refine sat_zl (wr32_in _) (fun x7 hx7 ax7 bx7 => ?_)
      try simp (disch := omega) only [wr32_i2, wdiv_i2, wrem_i2] at hx7
      refine sat_zg (by first | omega | grind | grind [wr32]) (fun g_5 => ?_)
      have ⟨r_7a, r_7b⟩ : -2147483648 ≤ I0 (o0 + 1) x7.toNat ∧ I0 (o0 + 1) x7.toNat < 2147483648 := hRI0.1 (o0 + 1) x7.toNat
      try have r_7many := gx_many hRI0 x7.toNat (by omega) (by omega)
      try have r_7seen := gx_seen hRI0 x7.toNat (by omega) (by omega)
      try have r_7part := gx_part hRI0 x7.toNat (by omega) (by omega)
      try have r_7rows := gx_rows hRI0 x7.toNat (by omega) (by omega) (by omega)
      refine sat_zb (ok_X_isIn fu a3 ((-1)) (wr32 ((I0 (o0 + 1) x7.toNat) - 1)) I0 hfu hRI0.1 ⟨aa3, ba3⟩ (lit_in rfl) (wr32_in _)) (fun y8 I9 c_6 ⟨⟨ay8, by8⟩, _, pI9⟩ => ?_)
      have eI9 := pI9.1.symm; replace pI9 := pI9.2; subst eI9
      try simp (disch := omega) only [wr32_i2, wdiv_i2, wrem_i2] at pI9
      refine sat_ite (fun q_8 => ?_) (fun q_8 => ?_)
      · exact sat_zr ⟨(lit_in rfl), hRI0, ⟨rfl, trivial⟩⟩
      · refine ok_X_folded_48 (Ib := I0) fu o0 a1 a2 a3 hfu ⟨aa1, ba1⟩ ⟨aa2, ba2⟩ ⟨aa3, ba3⟩ (by first | omega | (simp (disch := omega) only [wr32_i2, wdiv_i2, wrem_i2]; omega) | grind | grind [wr32]) (fun v I h1 h2 h3 => sat_zr ⟨h1, h2, ⟨h3.1, (by have h4 := h3.2; first | exact trivial | exact h4 | omega | grind)⟩⟩) fu 0 a2 0 I0 (lit_in rfl) ⟨aa2, ba2⟩ (lit_in rfl) hRI0 ⟨rfl, (by first | omega | (simp (disch := omega) only [wr32_i2, wdiv_i2, wrem_i2]; omega) | grind | grind [wr32])⟩ (by first | omega | (simp (disch := omega) only [wr32_i2, wdiv_i2, wrem_i2]; omega) | grind | grind [wr32])
theorem ok_X_told (fu : Nat) (o0 : Nat) (a1 : Int) (I0 : IMem) (hfu : 5000000000 < fu) (hRI0 : GX o0 I0) (qa1 : inr a1) : sat (f_X_told fu o0 a1 I0) (fun v I => inr v ∧ GX o0 I ∧ (I = I0 ∧ (True))) := by
  unfold f_X_told
  obtain ⟨aa1, ba1⟩ := qa1
  refine sat_zb (ok_X_isIn fu a1 0 5 I0 hfu hRI0.1 ⟨aa1, ba1⟩ (lit_in rfl) (lit_in rfl)) (fun y1 I2 c_1 ⟨⟨ay1, by1⟩, _, pI2⟩ => ?_)
  have eI2 := pI2.1.symm; replace pI2 := pI2.2; subst eI2
  refine sat_ite (fun q_2 => ?_) (fun q_2 => ?_)
  · refine sat_ite (fun q_3 => ?_) (fun q_3 => ?_)
    · have ⟨r_4a, r_4b⟩ : -2147483648 ≤ I0 o0 35 ∧ I0 o0 35 < 2147483648 := hRI0.1 o0 35
      have r_4g := gx_t hRI0
      exact sat_zr ⟨(hRI0.1 o0 35), hRI0, ⟨rfl, trivial⟩⟩
    · refine sat_ite (fun q_5 => ?_) (fun q_5 => ?_)
      · have ⟨r_6a, r_6b⟩ : -2147483648 ≤ I0 (o0 + 1) 7 ∧ I0 (o0 + 1) 7 < 2147483648 := hRI0.1 (o0 + 1) 7
        exact sat_zr ⟨(hRI0.1 (o0 + 1) 7), hRI0, ⟨rfl, trivial⟩⟩
      · refine sat_ite (fun q_7 => ?_) (fun q_7 => ?_)
        · have ⟨r_8a, r_8b⟩ : -2147483648 ≤ I0 (o0 + 1) 0 ∧ I0 (o0 + 1) 0 < 2147483648 := hRI0.1 (o0 + 1) 0
          exact sat_zr ⟨(hRI0.1 (o0 + 1) 0), hRI0, ⟨rfl, trivial⟩⟩
        · exact sat_zr ⟨(lit_in rfl), hRI0, ⟨rfl, trivial⟩⟩
  · refine sat_zl (wr32_in _) (fun x4 hx4 ax4 bx4 => ?_)
    try simp (disch := omega) only [wr32_i2, wdiv_i2, wrem_i2] at hx4
    refine sat_zg (by first | omega | grind | grind [wr32]) (fun g_9 => ?_)
    have ⟨r_10a, r_10b⟩ : -2147483648 ≤ I0 (o0 + 1) x4.toNat ∧ I0 (o0 + 1) x4.toNat < 2147483648 := hRI0.1 (o0 + 1) x4.toNat
    try have r_10many := gx_many hRI0 x4.toNat (by omega) (by omega)
    try have r_10seen := gx_seen hRI0 x4.toNat (by omega) (by omega)
    try have r_10part := gx_part hRI0 x4.toNat (by omega) (by omega)
    try have r_10rows := gx_rows hRI0 x4.toNat (by omega) (by omega) (by omega)
    exact sat_zr ⟨(hRI0.1 (o0 + 1) x4.toNat), hRI0, ⟨rfl, trivial⟩⟩
