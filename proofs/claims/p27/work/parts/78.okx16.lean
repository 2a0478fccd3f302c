/-! safety of the reference -/
theorem ok_X_needed_20 {Ib : IMem} (fu : Nat) (k_56 : Int → IMem → Res) (o0 : Nat) (p1 : Int) (hfu : 5000000000 < fu) (qp1 : inr p1) (hp : p1 ≤ 40) (hc : Ib (o0 + 1) 70 < 1900000000) {Q_ : Int → IMem → Prop} (hk_56 : ∀ (z0 : Int) (I9 : IMem), inr z0 → GX o0 I9 → ((∀ q j, ¬ (q = o0 + 1 ∨ q = o0 + 7 ∨ q = o0 + 9 ∨ q = o0 + 10 ∨ q = o0 + 11 ∨ q = o0 + 12 ∨ q = o0 + 13 ∨ q = o0 + 14 ∨ (q = o0 ∧ j = 24) ∨ (q = o0 ∧ j = 30) ∨ (q = o0 ∧ j = 31) ∨ (q = o0 ∧ j = 32) ∨ (q = o0 ∧ j = 33) ∨ (q = o0 ∧ j = 34) ∨ (q = o0 ∧ j = 35) ∨ (q = o0 + 8 ∧ j = 1) ∨ (q = o0 + 8 ∧ j = 2) ∨ (q = o0 + 8 ∧ j = 3) ∨ (q = o0 + 8 ∧ j = 4) ∨ (q = o0 + 8 ∧ j = 5) ∨ (q = o0 + 8 ∧ j = 6) ∨ (q = o0 + 8 ∧ j = 7) ∨ (q = o0 + 8 ∧ j = 8) ∨ (q = o0 + 8 ∧ j = 9)) → I9 q j = Ib q j) ∧ (True)) → sat (k_56 z0 I9) Q_) (hret : ∀ v I, inr v → GX o0 I → ((∀ q j, ¬ (q = o0 + 1 ∨ q = o0 + 7 ∨ q = o0 + 9 ∨ q = o0 + 10 ∨ q = o0 + 11 ∨ q = o0 + 12 ∨ q = o0 + 13 ∨ q = o0 + 14 ∨ (q = o0 ∧ j = 24) ∨ (q = o0 ∧ j = 30) ∨ (q = o0 ∧ j = 31) ∨ (q = o0 ∧ j = 32) ∨ (q = o0 ∧ j = 33) ∨ (q = o0 ∧ j = 34) ∨ (q = o0 ∧ j = 35) ∨ (q = o0 + 8 ∧ j = 1) ∨ (q = o0 + 8 ∧ j = 2) ∨ (q = o0 + 8 ∧ j = 3) ∨ (q = o0 + 8 ∧ j = 4) ∨ (q = o0 + 8 ∧ j = 5) ∨ (q = o0 + 8 ∧ j = 6) ∨ (q = o0 + 8 ∧ j = 7) ∨ (q = o0 + 8 ∧ j = 8) ∨ (q = o0 + 8 ∧ j = 9)) → I q j = Ib q j) ∧ (False)) → sat (zr v I) Q_) : ∀ (m : Nat) (w2 : Int) (w3 : Int) (I0 : IMem), inr w2 → inr w3 → GX o0 I0 → ((∀ q j, ¬ (q = o0 + 1 ∨ q = o0 + 7 ∨ q = o0 + 9 ∨ q = o0 + 10 ∨ q = o0 + 11 ∨ q = o0 + 12 ∨ q = o0 + 13 ∨ q = o0 + 14 ∨ (q = o0 ∧ j = 24) ∨ (q = o0 ∧ j = 30) ∨ (q = o0 ∧ j = 31) ∨ (q = o0 ∧ j = 32) ∨ (q = o0 ∧ j = 33) ∨ (q = o0 ∧ j = 34) ∨ (q = o0 ∧ j = 35) ∨ (q = o0 + 8 ∧ j = 1) ∨ (q = o0 + 8 ∧ j = 2) ∨ (q = o0 + 8 ∧ j = 3) ∨ (q = o0 + 8 ∧ j = 4) ∨ (q = o0 + 8 ∧ j = 5) ∨ (q = o0 + 8 ∧ j = 6) ∨ (q = o0 + 8 ∧ j = 7) ∨ (q = o0 + 8 ∧ j = 8) ∨ (q = o0 + 8 ∧ j = 9)) → I0 q j = Ib q j) ∧ (0 ≤ w3 ∧ w3 ≤ 40 ∧ I0 (o0 + 1) 70 = Ib (o0 + 1) 70 + w3)) → (40 - w3).toNat < m → sat (f_X_needed_20 fu k_56 o0 p1 m w2 w3 I0) Q_ := by
  intro m
  induction m with
  | zero => intro w2 w3 I0 _ _ _ _ h0; exact absurd h0 (Nat.not_lt_zero _)
  | succ m hR_ =>
    intro w2 w3 I0 ⟨aw2, bw2⟩ ⟨aw3, bw3⟩ hRI0 hinv hmeas
    have fI0 := hinv.1; replace hinv := hinv.2
    show sat (fb_X_needed_20 fu k_56 o0 p1 (f_X_needed_20 fu k_56 o0 p1 m) w2 w3 I0) Q_
    unfold fb_X_needed_20
    obtain ⟨ap1, bp1⟩ := qp1
    refine sat_ite (fun q_1 => ?_) (fun q_1 => ?_)
    · refine sat_zb (ok_X_chair fu o0 I0 hfu hRI0 (by first | omega | (simp (disch := omega) only [wr32_i2, wdiv_i2, wrem_i2]; omega) | grind | grind [wr32])) (fun y7 I8 c_2 ⟨⟨ay7, by7⟩, hRI8, pI8⟩ => ?_)
      have fI8 : ∀ q j, ¬ (q = o0 + 1 ∨ q = o0 + 7 ∨ q = o0 + 9 ∨ q = o0 + 10 ∨ q = o0 + 11 ∨ q = o0 + 12 ∨ q = o0 + 13 ∨ q = o0 + 14 ∨ (q = o0 ∧ j = 24) ∨ (q = o0 ∧ j = 30) ∨ (q = o0 ∧ j = 31) ∨ (q = o0 ∧ j = 32) ∨ (q = o0 ∧ j = 33) ∨ (q = o0 ∧ j = 34) ∨ (q = o0 ∧ j = 35) ∨ (q = o0 + 8 ∧ j = 1) ∨ (q = o0 + 8 ∧ j = 2) ∨ (q = o0 + 8 ∧ j = 3) ∨ (q = o0 + 8 ∧ j = 4) ∨ (q = o0 + 8 ∧ j = 5) ∨ (q = o0 + 8 ∧ j = 6) ∨ (q = o0 + 8 ∧ j = 7) ∨ (q = o0 + 8 ∧ j = 8) ∨ (q = o0 + 8 ∧ j = 9)) → I8 q j = I0 q j := fc_X_chair (fun q j => q = o0 + 1 ∨ q = o0 + 7 ∨ q = o0 + 9 ∨ q = o0 + 10 ∨ q = o0 + 11 ∨ q = o0 + 12 ∨ q = o0 + 13 ∨ q = o0 + 14 ∨ (q = o0 ∧ j = 24) ∨ (q = o0 ∧ j = 30) ∨ (q = o0 ∧ j = 31) ∨ (q = o0 ∧ j = 32) ∨ (q = o0 ∧ j = 33) ∨ (q = o0 ∧ j = 34) ∨ (q = o0 ∧ j = 35) ∨ (q = o0 + 8 ∧ j = 1) ∨ (q = o0 + 8 ∧ j = 2) ∨ (q = o0 + 8 ∧ j = 3) ∨ (q = o0 + 8 ∧ j = 4) ∨ (q = o0 + 8 ∧ j = 5) ∨ (q = o0 + 8 ∧ j = 6) ∨ (q = o0 + 8 ∧ j = 7) ∨ (q = o0 + 8 ∧ j = 8) ∨ (q = o0 + 8 ∧ j = 9)) fu o0 I0 (fun _ => by simp) (fun _ => by simp) (fun _ => by simp) (fun _ => by simp) (fun _ => by simp) (fun _ => by simp) (fun _ => by simp) (fun _ => by simp) (by simp) (by simp) (by simp) (by simp) (by simp) (by simp) (by simp) (by simp) (by simp) (by simp) (by simp) (by simp) (by simp) (by simp) (by simp) (by simp) c_2
      refine sat_zj (fun k10 ek10 => ?_)
      have hk10 : ∀ (x12 : Int) (I11 : IMem), inr x12 → GX o0 I11 → (I11 = I8 ∧ (I11 (o0 + 1) 70 = I8 (o0 + 1) 70)) → sat (k10 x12 I11) Q_ := by
        intro x12 I11 ⟨ax12, bx12⟩ hRI11 jk10
        subst ek10
        have ejk10 := jk10.1.symm; replace jk10 := jk10.2; subst ejk10
        refine sat_zl (wr32_in _) (fun x13 hx13 ax13 bx13 => ?_)
        try simp (disch := omega) only [wr32_i2, wdiv_i2, wrem_i2] at hx13
        refine sat_zl (wr32_in _) (fun x14 hx14 ax14 bx14 => ?_)
        try simp (disch := omega) only [wr32_i2, wdiv_i2, wrem_i2] at hx14
        exact hR_ x13 x14 I8 ⟨ax13, bx13⟩ ⟨ax14, bx14⟩ hRI8 ⟨(by intro q j hq; grind), ⟨by omega, by omega, by omega⟩⟩ (by first | omega | (simp (disch := omega) only [wr32_i2, wdiv_i2, wrem_i2]; omega) | grind | grind [wr32])
      clear ek10
      refine sat_ite (fun q_3 => ?_) (fun q_3 => ?_)
      · have ⟨r_4a, r_4b⟩ : -2147483648 ≤ I8 (o0 + 1) 111 ∧ I8 (o0 + 1) 111 < 2147483648 := hRI8.1 (o0 + 1) 111
        exact hk10 (I8 (o0 + 1) 111) I8 (hRI8.1 (o0 + 1) 111) hRI8 ⟨rfl, (by first | omega | (simp (disch := omega) only [wr32_i2, wdiv_i2, wrem_i2]; omega) | grind | grind [wr32])⟩
      · exact hk10 0 I8 (lit_in rfl) hRI8 ⟨rfl, (by first | omega | (simp (disch := omega) only [wr32_i2, wdiv_i2, wrem_i2]; omega) | grind | grind [wr32])⟩
    · exact hk_56 w2 I0 ⟨aw2, bw2⟩ hRI0 ⟨(by intro q j hq; grind), trivial⟩
theorem ok_X_needed (fu : Nat) (o0 : Nat) (a1 : Int) (I0 : IMem) (hfu : 5000000000 < fu) (hRI0 : GX o0 I0) (qa1 : inr a1) (hc : I0 (o0 + 1) 70 < 1900000000) : sat (f_X_needed fu o0 a1 I0) (fun v I => inr v ∧ GX o0 I ∧ (SA o0 I0 I)) := by
  unfold f_X_needed
  obtain ⟨aa1, ba1⟩ := qa1
  refine sat_zb (ok_X_isIn fu a1 1 40 I0 hfu hRI0.1 ⟨aa1, ba1⟩ (lit_in rfl) (lit_in rfl)) (fun y1 I2 c_1 ⟨⟨ay1, by1⟩, _, pI2⟩ => ?_)
  have eI2 := pI2.1.symm; replace pI2 := pI2.2; subst eI2
  refine sat_ite (fun q_2 => ?_) (fun q_2 => ?_)
  · exact sat_zr ⟨(lit_in rfl), hRI0, (by first | exact sa_so pI5 hcb pI18 | exact sa_rfl)⟩
  · refine sat_zb (ok_X_setsOut fu o0 I0 hfu hRI0 ) (fun u_3 I5 c_4 ⟨⟨au_3, bu_3⟩, hRI5, pI5⟩ => ?_)
    have fI5 : ∀ q j, ¬ (q = o0 + 3 ∨ q = o0 + 23 ∨ q = o0 + 24 ∨ (q = o0 ∧ j = 50)) → I5 q j = I0 q j := fc_X_setsOut (fun q j => q = o0 + 3 ∨ q = o0 + 23 ∨ q = o0 + 24 ∨ (q = o0 ∧ j = 50)) fu o0 I0 (fun _ => by simp) (fun _ => by simp) (fun _ => by simp) (by simp) c_4
    have hc2 : I5 (o0 + 1) 70 = I0 (o0 + 1) 70 := pI5.2.2.2.2 _ _ (by omega) (by omega) (by omega) (by omega)
    refine ok_X_needed_20 (Ib := I5) fu _ o0 a1 hfu ⟨aa1, ba1⟩ (by first | omega | (simp (disch := omega) only [wr32_i2, wdiv_i2, wrem_i2]; omega) | grind | grind [wr32]) (by first | omega | (simp (disch := omega) only [wr32_i2, wdiv_i2, wrem_i2]; omega) | grind | grind [wr32]) ?_ (fun v I h1 h2 h3 => sat_zr ⟨h1, h2, (by first | exact h3.elim | exact h3.2.elim)⟩) fu 0 0 I5 (lit_in rfl) (lit_in rfl) hRI5 ⟨(fun _ _ _ => rfl), (by first | omega | (simp (disch := omega) only [wr32_i2, wdiv_i2, wrem_i2]; omega) | grind | grind [wr32])⟩ (by first | omega | (simp (disch := omega) only [wr32_i2, wdiv_i2, wrem_i2]; omega) | grind | grind [wr32])
    · intro x16 I15 ⟨ax16, bx16⟩ hRI15 xI15
      have fI15 := xI15.1; replace xI15 := xI15.2
      have hcb : ∀ q j, (q = o0 + 3 ∨ q = o0 + 23 ∨ q = o0 + 24 ∨ (q = o0 ∧ j = 50)) → I15 q j = I5 q j := fun q j h => fI15 q j (by omega)
      have hwx := wx_so hRI0 pI5 hcb
      refine sat_zb (ok_X_comesBack fu o0 I15 hfu hRI15 (by first | omega | (simp (disch := omega) only [wr32_i2, wdiv_i2, wrem_i2]; omega) | grind | grind [wr32])) (fun u_5 I18 c_6 ⟨⟨au_5, bu_5⟩, hRI18, pI18⟩ => ?_)
      have fI18 : ∀ q j, ¬ (q = o0 + 1 ∨ q = o0 + 13 ∨ q = o0 + 15 ∨ (q = o0 ∧ j = 35)) → I18 q j = I15 q j := fc_X_comesBack (fun q j => q = o0 + 1 ∨ q = o0 + 13 ∨ q = o0 + 15 ∨ (q = o0 ∧ j = 35)) fu o0 I15 (fun _ => by simp) (fun _ => by simp) (fun _ => by simp) (by simp) c_6
      exact sat_zr ⟨⟨ax16, bx16⟩, hRI18, (by first | exact sa_so pI5 hcb pI18 | exact sa_rfl)⟩
theorem ok_X_past (fu : Nat) (o0 : Nat) (a1 : Int) (a2 : Int) (I0 : IMem) (hfu : 5000000000 < fu) (hRI0 : GX o0 I0) (qa1 : inr a1) (qa2 : inr a2) : sat (f_X_past fu o0 a1 a2 I0) (fun v I => inr v ∧ GX o0 I ∧ (I = I0 ∧ (True))) := by
  unfold f_X_past
  obtain ⟨aa1, ba1⟩ := qa1
  obtain ⟨aa2, ba2⟩ := qa2
  refine sat_zb (ok_X_isIn fu a1 0 59 I0 hfu hRI0.1 ⟨aa1, ba1⟩ (lit_in rfl) (lit_in rfl)) (fun y1 I2 c_1 ⟨⟨ay1, by1⟩, _, pI2⟩ => ?_)
  have eI2 := pI2.1.symm; replace pI2 := pI2.2; subst eI2
  refine sat_ite (fun q_2 => ?_) (fun q_2 => ?_)
  · exact sat_zr ⟨(lit_in rfl), hRI0, ⟨rfl, trivial⟩⟩
  · have ⟨r_3a, r_3b⟩ : -2147483648 ≤ I0 (o0 + 1) 70 ∧ I0 (o0 + 1) 70 < 2147483648 := hRI0.1 (o0 + 1) 70
    have r_3g := gx_a hRI0
    refine sat_ite (fun q_4 => ?_) (fun q_4 => ?_)
    · refine sat_zb (ok_X_isIn fu a2 0 2 I0 hfu hRI0.1 ⟨aa2, ba2⟩ (lit_in rfl) (lit_in rfl)) (fun y4 I5 c_5 ⟨⟨ay4, by4⟩, _, pI5⟩ => ?_)
      have eI5 := pI5.1.symm; replace pI5 := pI5.2; subst eI5
      refine sat_ite (fun q_6 => ?_) (fun q_6 => ?_)
      · exact sat_zr ⟨(lit_in rfl), hRI0, ⟨rfl, trivial⟩⟩
      · refine sat_zl (wr32_in _) (fun x7 hx7 ax7 bx7 => ?_)
        try simp (disch := omega) only [wr32_i2, wdiv_i2, wrem_i2] at hx7
        refine sat_zg (by first | omega | grind | grind [wr32]) (fun g_7 => ?_)
        have ⟨r_8a, r_8b⟩ : -2147483648 ≤ I0 (o0 + 1) x7.toNat ∧ I0 (o0 + 1) x7.toNat < 2147483648 := hRI0.1 (o0 + 1) x7.toNat
        try have r_8many := gx_many hRI0 x7.toNat (by omega) (by omega)
        try have r_8seen := gx_seen hRI0 x7.toNat (by omega) (by omega)
        try have r_8part := gx_part hRI0 x7.toNat (by omega) (by omega)
        try have r_8rows := gx_rows hRI0 x7.toNat (by omega) (by omega) (by omega)
        exact sat_zr ⟨(hRI0.1 (o0 + 1) x7.toNat), hRI0, ⟨rfl, trivial⟩⟩
    · exact sat_zr ⟨(lit_in rfl), hRI0, ⟨rfl, trivial⟩⟩
