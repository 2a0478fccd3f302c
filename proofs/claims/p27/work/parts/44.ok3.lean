/-! safety of the class -/
theorem ok_C_turns_5 (fu : Nat) (o0 : Nat) (o1 : Nat) (p2 : Int) (hfu : 5000000000 < fu) (To0 : o0 = 122 ∨ o0 = 130 ∨ o0 = 137) (To1 : o1 = 1 ∨ o1 = 41 ∨ o1 = 82) (qp2 : inr p2) {Q_ : Int → IMem → Prop} (hret : ∀ v I, inr v → GC I → (True) → sat (zr v I) Q_) : ∀ (m : Nat) (w3 : Int) (w4 : Int) (I0 : IMem), inr w3 → inr w4 → GC I0 → (0 ≤ w4) → (p2 - w4).toNat < m → sat (f_C_turns_5 fu o0 o1 p2 m w3 w4 I0) Q_ := by
  intro m
  induction m with
  | zero => intro w3 w4 I0 _ _ _ _ h0; exact absurd h0 (Nat.not_lt_zero _)
  | succ m hR_ =>
    intro w3 w4 I0 ⟨aw3, bw3⟩ ⟨aw4, bw4⟩ hRI0 hinv hmeas
    show sat (fb_C_turns_5 fu o0 o1 p2 (f_C_turns_5 fu o0 o1 p2 m) w3 w4 I0) Q_
    unfold fb_C_turns_5
    obtain ⟨ap2, bp2⟩ := qp2
    refine sat_ite (fun q_1 => ?_) (fun q_1 => ?_)
    · refine sat_zb (ok_H_letComersEnter fu o1 I0 hfu hRI0 (by omega)) (fun u_2 I2 c_3 ⟨⟨au_2, bu_2⟩, hRI2, pI2⟩ => ?_)
      refine sat_zb (ok_C_fill fu o0 o1 I2 hfu hRI2 (by omega) (by omega)) (fun u_4 I5 c_5 ⟨⟨au_4, bu_4⟩, hRI5, pI5⟩ => ?_)
      refine sat_zb (ok_C_leave fu o0 o1 I5 hfu hRI5 (by omega) (by omega)) (fun y7 I8 c_6 ⟨⟨ay7, by7⟩, hRI8, pI8⟩ => ?_)
      refine sat_zl (wr32_in _) (fun x10 hx10 ax10 bx10 => ?_)
      try simp (disch := omega) only [wr32_i2, wdiv_i2, wrem_i2] at hx10
      refine sat_zl (wr32_in _) (fun x11 hx11 ax11 bx11 => ?_)
      try simp (disch := omega) only [wr32_i2, wdiv_i2, wrem_i2] at hx11
      exact hR_ x10 x11 I8 ⟨ax10, bx10⟩ ⟨ax11, bx11⟩ hRI8 (by first | omega | (simp (disch := omega) only [wr32_i2, wdiv_i2, wrem_i2]; omega) | grind | grind [wr32]) (by first | omega | (simp (disch := omega) only [wr32_i2, wdiv_i2, wrem_i2]; omega) | grind | grind [wr32])
    · exact hret _ _ ⟨aw3, bw3⟩ hRI0 trivial
theorem ok_C_turns (fu : Nat) (o0 : Nat) (o1 : Nat) (a2 : Int) (I0 : IMem) (hfu : 5000000000 < fu) (hRI0 : GC I0) (To0 : o0 = 122 ∨ o0 = 130 ∨ o0 = 137) (To1 : o1 = 1 ∨ o1 = 41 ∨ o1 = 82) (qa2 : inr a2) : sat (f_C_turns fu o0 o1 a2 I0) (fun v I => inr v ∧ GC I ∧ (True)) := by
  unfold f_C_turns
  obtain ⟨aa2, ba2⟩ := qa2
  refine ok_C_turns_5 fu o0 o1 a2 hfu (by omega) (by omega) ⟨aa2, ba2⟩ (fun v I h1 h2 h3 => sat_zr ⟨h1, h2, (by first | exact trivial | exact h3 | grind)⟩) fu 0 0 I0 (lit_in rfl) (lit_in rfl) hRI0 (by first | omega | (simp (disch := omega) only [wr32_i2, wdiv_i2, wrem_i2]; omega) | grind | grind [wr32]) (by first | omega | (simp (disch := omega) only [wr32_i2, wdiv_i2, wrem_i2]; omega) | grind | grind [wr32])
theorem ok_S_run (fu : Nat) (o0 : Nat) (a1 : Int) (I0 : IMem) (hfu : 5000000000 < fu) (hRI0 : GC I0) (To0 : o0 = 0) (qa1 : inr a1) : sat (f_S_run fu o0 a1 I0) (fun v I => inr v ∧ GC I ∧ (True)) := by
  unfold f_S_run
  obtain ⟨aa1, ba1⟩ := qa1
  refine sat_ite (fun q_1 => ?_) (fun q_1 => ?_)
  · exact sat_zr ⟨(lit_in rfl), hRI0, trivial⟩
  · refine sat_ite (fun q_2 => ?_) (fun q_2 => ?_)
    · exact sat_zr ⟨(lit_in rfl), hRI0, trivial⟩
    · refine sat_zb (ok_S_dropPicked fu o0 I0 hfu hRI0 (by omega)) (fun u_3 I2 c_4 ⟨⟨au_3, bu_3⟩, hRI2, pI2⟩ => ?_)
      refine sat_zb (ok_C_turns fu (o0 + 130) (o0 + 1) a1 I2 hfu hRI2 (by omega) (by omega) ⟨aa1, ba1⟩) (fun y4 I5 c_5 ⟨⟨ay4, by4⟩, hRI5, pI5⟩ => ?_)
      exact sat_zr ⟨⟨ay4, by4⟩, hRI5, trivial⟩
theorem ok_S_last (fu : Nat) (o0 : Nat) (a1 : Int) (I0 : IMem) (hfu : 5000000000 < fu) (hRI0 : GC I0) (To0 : o0 = 0) (qa1 : inr a1) : sat (f_S_last fu o0 a1 I0) (fun v I => inr v ∧ GC I ∧ (I = I0 ∧ (True))) := by
  unfold f_S_last
  obtain ⟨aa1, ba1⟩ := qa1
  refine sat_ite (fun q_1 => ?_) (fun q_1 => ?_)
  · exact sat_zr ⟨(lit_in rfl), hRI0, ⟨rfl, trivial⟩⟩
  · refine sat_ite (fun q_2 => ?_) (fun q_2 => ?_)
    · have ⟨r_3a, r_3b⟩ : -2147483648 ≤ I0 (o0 + 11) 0 ∧ I0 (o0 + 11) 0 < 2147483648 := hRI0.1 (o0 + 11) 0
      refine sat_ite (fun q_4 => ?_) (fun q_4 => ?_)
      · exact sat_zr ⟨(lit_in rfl), hRI0, ⟨rfl, trivial⟩⟩
      · refine sat_zj (fun k1 ek1 => ?_)
        have hk1 : ∀ (x3 : Int) (I2 : IMem), inr x3 → GC I2 → (I2 = I0 ∧ (x3 = 0 ∨ (0 ≤ a1 ∧ a1 < 30))) → sat (k1 x3 I2) (fun v I => inr v ∧ GC I ∧ (I = I0 ∧ (True))) := by
          intro x3 I2 ⟨ax3, bx3⟩ hRI2 jk1
          subst ek1
          have ejk1 := jk1.1.symm; replace jk1 := jk1.2; subst ejk1
          refine sat_ite (fun q_5 => ?_) (fun q_5 => ?_)
          · exact sat_zr ⟨(lit_in rfl), hRI0, ⟨rfl, trivial⟩⟩
          · refine sat_zg (by first | omega | grind | grind [wr32]) (fun g_6 => ?_)
            have ⟨r_7a, r_7b⟩ : -2147483648 ≤ I0 (o0 + 12) a1.toNat ∧ I0 (o0 + 12) a1.toNat < 2147483648 := hRI0.1 (o0 + 12) a1.toNat
            exact sat_zr ⟨(hRI0.1 (o0 + 12) a1.toNat), hRI0, ⟨rfl, trivial⟩⟩
        clear ek1
        refine sat_ite (fun q_8 => ?_) (fun q_8 => ?_)
        · refine sat_ite (fun q_9 => ?_) (fun q_9 => ?_)
          · exact hk1 1 I0 (lit_in rfl) hRI0 ⟨rfl, (by first | omega | (simp (disch := omega) only [wr32_i2, wdiv_i2, wrem_i2]; omega) | grind | grind [wr32])⟩
          · exact hk1 0 I0 (lit_in rfl) hRI0 ⟨rfl, (by first | omega | (simp (disch := omega) only [wr32_i2, wdiv_i2, wrem_i2]; omega) | grind | grind [wr32])⟩
        · have ⟨r_10a, r_10b⟩ : -2147483648 ≤ I0 (o0 + 12) 0 ∧ I0 (o0 + 12) 0 < 2147483648 := hRI0.1 (o0 + 12) 0
          refine sat_ite (fun q_11 => ?_) (fun q_11 => ?_)
          · try simp (disch := omega) only [wr32_i2, wdiv_i2, wrem_i2] at q_11
            exact hk1 1 I0 (lit_in rfl) hRI0 ⟨rfl, (by first | omega | (simp (disch := omega) only [wr32_i2, wdiv_i2, wrem_i2]; omega) | grind | grind [wr32])⟩
          · try simp (disch := omega) only [wr32_i2, wdiv_i2, wrem_i2] at q_11
            exact hk1 0 I0 (lit_in rfl) hRI0 ⟨rfl, (by first | omega | (simp (disch := omega) only [wr32_i2, wdiv_i2, wrem_i2]; omega) | grind | grind [wr32])⟩
    · exact sat_zr ⟨(lit_in rfl), hRI0, ⟨rfl, trivial⟩⟩
theorem ok_H_meanWait (fu : Nat) (o0 : Nat) (a1 : Int) (I0 : IMem) (hfu : 5000000000 < fu) (hRI0 : GC I0) (To0 : o0 = 1 ∨ o0 = 41 ∨ o0 = 82) (qa1 : inr a1) : sat (f_H_meanWait fu o0 a1 I0) (fun v I => inr v ∧ GC I ∧ (I = I0 ∧ (True))) := by
  unfold f_H_meanWait
  obtain ⟨aa1, ba1⟩ := qa1
  refine sat_ite (fun q_1 => ?_) (fun q_1 => ?_)
  · exact sat_zr ⟨(lit_in rfl), hRI0, ⟨rfl, trivial⟩⟩
  · refine sat_ite (fun q_2 => ?_) (fun q_2 => ?_)
    · exact sat_zr ⟨(lit_in rfl), hRI0, ⟨rfl, trivial⟩⟩
    · refine sat_zl (wr32_in _) (fun x1 hx1 ax1 bx1 => ?_)
      try simp (disch := omega) only [wr32_i2, wdiv_i2, wrem_i2] at hx1
      refine sat_zg (by first | omega | grind | grind [wr32]) (fun g_3 => ?_)
      have ⟨r_4a, r_4b⟩ : -2147483648 ≤ I0 (o0 + 10) x1.toNat ∧ I0 (o0 + 10) x1.toNat < 2147483648 := hRI0.1 (o0 + 10) x1.toNat
      refine sat_ite (fun q_5 => ?_) (fun q_5 => ?_)
      · refine sat_zl (wr32_in _) (fun x2 hx2 ax2 bx2 => ?_)
        try simp (disch := omega) only [wr32_i2, wdiv_i2, wrem_i2] at hx2
        refine sat_zg (by first | omega | grind | grind [wr32]) (fun g_6 => ?_)
        refine sat_zl (wr32_in _) (fun x3 hx3 ax3 bx3 => ?_)
        try simp (disch := omega) only [wr32_i2, wdiv_i2, wrem_i2] at hx3
        refine sat_zg (by first | omega | grind | grind [wr32]) (fun g_7 => ?_)
        have ⟨r_8a, r_8b⟩ : -2147483648 ≤ I0 (o0 + 10) x3.toNat ∧ I0 (o0 + 10) x3.toNat < 2147483648 := hRI0.1 (o0 + 10) x3.toNat
        refine sat_zg (by first | omega | grind | grind [wr32]) (fun g_9 => ?_)
        have ⟨r_10a, r_10b⟩ : -2147483648 ≤ I0 (o0 + 10) x2.toNat ∧ I0 (o0 + 10) x2.toNat < 2147483648 := hRI0.1 (o0 + 10) x2.toNat
        exact sat_zr ⟨(toInt_in _), hRI0, ⟨rfl, trivial⟩⟩
      · exact sat_zr ⟨(lit_in rfl), hRI0, ⟨rfl, trivial⟩⟩
theorem ok_S_count (fu : Nat) (o0 : Nat) (a1 : Int) (I0 : IMem) (hfu : 5000000000 < fu) (hRI0 : GC I0) (To0 : o0 = 0) (qa1 : inr a1) : sat (f_S_count fu o0 a1 I0) (fun v I => inr v ∧ GC I ∧ (I = I0 ∧ (True))) := by
  unfold f_S_count
  obtain ⟨aa1, ba1⟩ := qa1
  refine sat_zj (fun k1 ek1 => ?_)
  have hk1 : ∀ (I2 : IMem), GC I2 → (I2 = I0 ∧ (True)) → sat (k1 I2) (fun v I => inr v ∧ GC I ∧ (I = I0 ∧ (True))) := by
    intro I2  hRI2 jk1
    subst ek1
    have ejk1 := jk1.1.symm; replace jk1 := jk1.2; subst ejk1
    refine sat_zl (wrem_in _ _) (fun x3 hx3 ax3 bx3 => ?_)
    try simp (disch := omega) only [wr32_i2, wdiv_i2, wrem_i2] at hx3
    refine sat_ite (fun q_1 => ?_) (fun q_1 => ?_)
    · exact sat_zr ⟨(lit_in rfl), hRI0, ⟨rfl, trivial⟩⟩
    · refine sat_ite (fun q_2 => ?_) (fun q_2 => ?_)
      · exact sat_zr ⟨(lit_in rfl), hRI0, ⟨rfl, trivial⟩⟩
      · refine sat_ite (fun q_3 => ?_) (fun q_3 => ?_)
        · exact sat_zr ⟨(lit_in rfl), hRI0, ⟨rfl, trivial⟩⟩
        · refine sat_ite (fun q_4 => ?_) (fun q_4 => ?_)
          · exact sat_zr ⟨(lit_in rfl), hRI0, ⟨rfl, trivial⟩⟩
          · refine sat_ite (fun q_5 => ?_) (fun q_5 => ?_)
            · refine sat_zg (by first | omega | grind | grind [wr32]) (fun g_6 => ?_)
              have ⟨r_7a, r_7b⟩ : -2147483648 ≤ I0 (o0 + 11) a1.toNat ∧ I0 (o0 + 11) a1.toNat < 2147483648 := hRI0.1 (o0 + 11) a1.toNat
              exact sat_zr ⟨(hRI0.1 (o0 + 11) a1.toNat), hRI0, ⟨rfl, trivial⟩⟩
            · refine sat_zb (ok_H_meanWait fu (o0 + 1) x3 I0 hfu hRI0 (by omega) ⟨ax3, bx3⟩) (fun y4 I5 c_8 ⟨⟨ay4, by4⟩, _, pI5⟩ => ?_)
              have eI5 := pI5.1.symm; replace pI5 := pI5.2; subst eI5
              exact sat_zr ⟨⟨ay4, by4⟩, hRI0, ⟨rfl, trivial⟩⟩
  clear ek1
  refine sat_ite (fun q_9 => ?_) (fun q_9 => ?_)
  · exact hk1 I0 hRI0 ⟨rfl, trivial⟩
  · refine sat_ite (fun q_10 => ?_) (fun q_10 => ?_)
    · exact hk1 I0 hRI0 ⟨rfl, trivial⟩
    · refine sat_zg (by first | omega | grind | grind [wr32]) (fun g_11 => ?_)
      have ⟨r_12a, r_12b⟩ : -2147483648 ≤ I0 (o0 + 11) a1.toNat ∧ I0 (o0 + 11) a1.toNat < 2147483648 := hRI0.1 (o0 + 11) a1.toNat
      exact sat_zr ⟨(hRI0.1 (o0 + 11) a1.toNat), hRI0, ⟨rfl, trivial⟩⟩
theorem ok_F_chosenAt (fu : Nat) (o0 : Nat) (a1 : Int) (I0 : IMem) (hfu : 5000000000 < fu) (hRI0 : GC I0) (To0 : o0 = 154) (qa1 : inr a1) : sat (f_F_chosenAt fu o0 a1 I0) (fun v I => inr v ∧ GC I ∧ (I = I0 ∧ (True))) := by
  unfold f_F_chosenAt
  obtain ⟨aa1, ba1⟩ := qa1
  refine sat_ite (fun q_1 => ?_) (fun q_1 => ?_)
  · exact sat_zr ⟨(lit_in rfl), hRI0, ⟨rfl, trivial⟩⟩
  · have ⟨r_2a, r_2b⟩ : -2147483648 ≤ I0 o0 6 ∧ I0 o0 6 < 2147483648 := hRI0.1 o0 6
    refine sat_ite (fun q_3 => ?_) (fun q_3 => ?_)
    · refine sat_ite (fun q_4 => ?_) (fun q_4 => ?_)
      · refine sat_zg (by first | omega | grind | grind [wr32]) (fun g_5 => ?_)
        refine sat_zg (by first | omega | grind | grind [wr32]) (fun g_6 => ?_)
        have ⟨r_7a, r_7b⟩ : -2147483648 ≤ I0 (o0 + 5) a1.toNat ∧ I0 (o0 + 5) a1.toNat < 2147483648 := hRI0.1 (o0 + 5) a1.toNat
        exact sat_zr ⟨(wr32_in _), hRI0, ⟨rfl, trivial⟩⟩
      · exact sat_zr ⟨(lit_in rfl), hRI0, ⟨rfl, trivial⟩⟩
    · exact sat_zr ⟨(lit_in rfl), hRI0, ⟨rfl, trivial⟩⟩
theorem ok_F_at (fu : Nat) (a0 : Int) (a1 : Int) (a2 : Int) (I0 : IMem) (hfu : 5000000000 < fu) (hRI0 : GC I0) (qa0 : inr a0) (qa1 : inr a1) (qa2 : inr a2) : sat (f_F_at fu a0 a1 a2 I0) (fun v I => inr v ∧ GC I ∧ (I = I0 ∧ (0 ≤ v ∧ v ≤ 3914))) := by
  unfold f_F_at
  obtain ⟨aa0, ba0⟩ := qa0
  obtain ⟨aa1, ba1⟩ := qa1
  obtain ⟨aa2, ba2⟩ := qa2
  refine sat_zj (fun k1 ek1 => ?_)
  have hk1 : ∀ (x3 : Int) (I2 : IMem), inr x3 → GC I2 → (I2 = I0 ∧ (x3 = 0 ∨ (x3 = 1 ∧ 0 ≤ a0 ∧ a0 ≤ 144 ∧ 0 ≤ a1 ∧ a1 < 3 ∧ 0 ≤ a2 ∧ a2 < 9))) → sat (k1 x3 I2) (fun v I => inr v ∧ GC I ∧ (I = I0 ∧ (0 ≤ v ∧ v ≤ 3914))) := by
    intro x3 I2 ⟨ax3, bx3⟩ hRI2 jk1
    subst ek1
    have ejk1 := jk1.1.symm; replace jk1 := jk1.2; subst ejk1
    refine sat_ite (fun q_1 => ?_) (fun q_1 => ?_)
    · exact sat_zr ⟨(lit_in rfl), hRI0, ⟨rfl, (by first | omega | (simp (disch := omega) only [wr32_i2, wdiv_i2, wrem_i2]; omega) | grind | grind [wr32])⟩⟩
    · exact sat_zr ⟨(wr32_in _), hRI0, ⟨rfl, (by first | omega | (simp (disch := omega) only [wr32_i2, wdiv_i2, wrem_i2]; omega) | grind | grind [wr32])⟩⟩
  clear ek1
  refine sat_ite (fun q_2 => ?_) (fun q_2 => ?_)
  · exact hk1 0 I0 (lit_in rfl) hRI0 ⟨rfl, (by first | omega | (simp (disch := omega) only [wr32_i2, wdiv_i2, wrem_i2]; omega) | grind | grind [wr32])⟩
  · refine sat_ite (fun q_3 => ?_) (fun q_3 => ?_)
    · exact hk1 0 I0 (lit_in rfl) hRI0 ⟨rfl, (by first | omega | (simp (disch := omega) only [wr32_i2, wdiv_i2, wrem_i2]; omega) | grind | grind [wr32])⟩
    · refine sat_ite (fun q_4 => ?_) (fun q_4 => ?_)
      · exact hk1 0 I0 (lit_in rfl) hRI0 ⟨rfl, (by first | omega | (simp (disch := omega) only [wr32_i2, wdiv_i2, wrem_i2]; omega) | grind | grind [wr32])⟩
      · refine sat_ite (fun q_5 => ?_) (fun q_5 => ?_)
        · refine sat_ite (fun q_6 => ?_) (fun q_6 => ?_)
          · exact hk1 0 I0 (lit_in rfl) hRI0 ⟨rfl, (by first | omega | (simp (disch := omega) only [wr32_i2, wdiv_i2, wrem_i2]; omega) | grind | grind [wr32])⟩
          · refine sat_ite (fun q_7 => ?_) (fun q_7 => ?_)
            · exact hk1 1 I0 (lit_in rfl) hRI0 ⟨rfl, (by first | omega | (simp (disch := omega) only [wr32_i2, wdiv_i2, wrem_i2]; omega) | grind | grind [wr32])⟩
            · exact hk1 0 I0 (lit_in rfl) hRI0 ⟨rfl, (by first | omega | (simp (disch := omega) only [wr32_i2, wdiv_i2, wrem_i2]; omega) | grind | grind [wr32])⟩
        · exact hk1 0 I0 (lit_in rfl) hRI0 ⟨rfl, (by first | omega | (simp (disch := omega) only [wr32_i2, wdiv_i2, wrem_i2]; omega) | grind | grind [wr32])⟩
theorem ok_F_thereWith (fu : Nat) (o0 : Nat) (a1 : Int) (a2 : Int) (I0 : IMem) (hfu : 5000000000 < fu) (hRI0 : GC I0) (To0 : o0 = 154) (qa1 : inr a1) (qa2 : inr a2) (h1 : 0 ≤ a1 ∧ a1 < 144) : sat (f_F_thereWith fu o0 a1 a2 I0) (fun v I => inr v ∧ GC I ∧ (I = I0 ∧ (True))) := by
  unfold f_F_thereWith
  obtain ⟨aa1, ba1⟩ := qa1
  obtain ⟨aa2, ba2⟩ := qa2
  refine sat_zg (by first | omega | grind | grind [wr32]) (fun g_1 => ?_)
  have ⟨r_2a, r_2b⟩ : -2147483648 ≤ I0 (o0 + 3) a1.toNat ∧ I0 (o0 + 3) a1.toNat < 2147483648 := hRI0.1 (o0 + 3) a1.toNat
  refine sat_ite (fun q_3 => ?_) (fun q_3 => ?_)
  · refine sat_ite (fun q_4 => ?_) (fun q_4 => ?_)
    · exact sat_zr ⟨(lit_in rfl), hRI0, ⟨rfl, trivial⟩⟩
    · exact sat_zr ⟨⟨aa2, ba2⟩, hRI0, ⟨rfl, trivial⟩⟩
  · exact sat_zr ⟨(lit_in rfl), hRI0, ⟨rfl, trivial⟩⟩
theorem ok_F_mostWith (fu : Nat) (o0 : Nat) (a1 : Int) (a2 : Int) (a3 : Int) (I0 : IMem) (hfu : 5000000000 < fu) (hRI0 : GC I0) (To0 : o0 = 154) (qa1 : inr a1) (qa2 : inr a2) (qa3 : inr a3) : sat (f_F_mostWith fu o0 a1 a2 a3 I0) (fun v I => inr v ∧ GC I ∧ (I = I0 ∧ (True))) := by
  unfold f_F_mostWith
  obtain ⟨aa1, ba1⟩ := qa1
  obtain ⟨aa2, ba2⟩ := qa2
  obtain ⟨aa3, ba3⟩ := qa3
  refine sat_ite (fun q_1 => ?_) (fun q_1 => ?_)
  · exact sat_zr ⟨(lit_in rfl), hRI0, ⟨rfl, trivial⟩⟩
  · refine sat_ite (fun q_2 => ?_) (fun q_2 => ?_)
    · refine sat_zg (by first | omega | grind | grind [wr32]) (fun g_3 => ?_)
      have ⟨r_4a, r_4b⟩ : -2147483648 ≤ I0 (o0 + 2) a1.toNat ∧ I0 (o0 + 2) a1.toNat < 2147483648 := hRI0.1 (o0 + 2) a1.toNat
      refine sat_ite (fun q_5 => ?_) (fun q_5 => ?_)
      · exact sat_zr ⟨(lit_in rfl), hRI0, ⟨rfl, trivial⟩⟩
      · refine sat_zb (ok_F_thereWith fu o0 a1 a2 I0 hfu hRI0 (by omega) ⟨aa1, ba1⟩ ⟨aa2, ba2⟩ (by first | omega | (simp (disch := omega) only [wr32_i2, wdiv_i2, wrem_i2]; omega) | grind | grind [wr32])) (fun y1 I2 c_6 ⟨⟨ay1, by1⟩, _, pI2⟩ => ?_)
        have eI2 := pI2.1.symm; replace pI2 := pI2.2; subst eI2
        refine sat_zg (by first | omega | grind | grind [wr32]) (fun g_7 => ?_)
        refine sat_zb (ok_F_at fu (wr32 (a1 + 1)) y1 (wr32 (a3 - (I0 (o0 + 2) a1.toNat))) I0 hfu hRI0 (wr32_in _) ⟨ay1, by1⟩ (wr32_in _)) (fun y4 I5 c_8 ⟨⟨ay4, by4⟩, _, pI5⟩ => ?_)
        have eI5 := pI5.1.symm; replace pI5 := pI5.2; subst eI5
        refine sat_zg (by first | omega | grind | grind [wr32]) (fun g_9 => ?_)
        have ⟨r_10a, r_10b⟩ : -2147483648 ≤ I0 (o0 + 4) y4.toNat ∧ I0 (o0 + 4) y4.toNat < 2147483648 := hRI0.1 (o0 + 4) y4.toNat
        refine sat_zl (hRI0.1 (o0 + 4) y4.toNat) (fun x7 hx7 ax7 bx7 => ?_)
        refine sat_ite (fun q_11 => ?_) (fun q_11 => ?_)
        · exact sat_zr ⟨(lit_in rfl), hRI0, ⟨rfl, trivial⟩⟩
        · refine sat_zg (by first | omega | grind | grind [wr32]) (fun g_12 => ?_)
          exact sat_zr ⟨(wr32_in _), hRI0, ⟨rfl, trivial⟩⟩
    · exact sat_zr ⟨(lit_in rfl), hRI0, ⟨rfl, trivial⟩⟩
theorem ok_F_choose_12 (fu : Nat) (o0 : Nat) (hfu : 5000000000 < fu) (To0 : o0 = 154) {Q_ : Int → IMem → Prop} (hret : ∀ v I, inr v → GC I → (True) → sat (zr v I) Q_) : ∀ (m : Nat) (w2 : Int) (w3 : Int) (w4 : Int) (I0 : IMem), inr w2 → inr w3 → inr w4 → GC I0 → (0 ≤ w4 ∧ 0 ≤ I0 o0 6) → (144 - w4).toNat < m → sat (f_F_choose_12 fu o0 m w2 w3 w4 I0) Q_ := by
  intro m
  induction m with
  | zero => intro w2 w3 w4 I0 _ _ _ _ _ h0; exact absurd h0 (Nat.not_lt_zero _)
  | succ m hR_ =>
    intro w2 w3 w4 I0 ⟨aw2, bw2⟩ ⟨aw3, bw3⟩ ⟨aw4, bw4⟩ hRI0 hinv hmeas
    show sat (fb_F_choose_12 fu o0 (f_F_choose_12 fu o0 m) w2 w3 w4 I0) Q_
    unfold fb_F_choose_12
    have ⟨r_1a, r_1b⟩ : -2147483648 ≤ I0 o0 3 ∧ I0 o0 3 < 2147483648 := hRI0.1 o0 3
    refine sat_ite (fun q_2 => ?_) (fun q_2 => ?_)
    · refine sat_ite (fun q_3 => ?_) (fun q_3 => ?_)
      · have ⟨r_4a, r_4b⟩ : -2147483648 ≤ I0 o0 6 ∧ I0 o0 6 < 2147483648 := hRI0.1 o0 6
        refine sat_ite (fun q_5 => ?_) (fun q_5 => ?_)
        · refine sat_zb (ok_F_mostWith fu o0 w4 w2 w3 I0 hfu hRI0 (by omega) ⟨aw4, bw4⟩ ⟨aw2, bw2⟩ ⟨aw3, bw3⟩) (fun y2 I3 c_6 ⟨⟨ay2, by2⟩, _, pI3⟩ => ?_)
          have eI3 := pI3.1.symm; replace pI3 := pI3.2; subst eI3
          refine sat_zj (fun k5 ek5 => ?_)
          have hk5 : ∀ (x7 : Int) (x8 : Int) (I6 : IMem), inr x7 → inr x8 → GC I6 → (0 ≤ I6 o0 6) → sat (k5 x7 x8 I6) Q_ := by
            intro x7 x8 I6 ⟨ax7, bx7⟩ ⟨ax8, bx8⟩ hRI6 jk5
            subst ek5
            refine sat_zl (wr32_in _) (fun x9 hx9 ax9 bx9 => ?_)
            try simp (disch := omega) only [wr32_i2, wdiv_i2, wrem_i2] at hx9
            exact hR_ x7 x8 x9 I6 ⟨ax7, bx7⟩ ⟨ax8, bx8⟩ ⟨ax9, bx9⟩ hRI6 (by first | omega | (simp (disch := omega) only [wr32_i2, wdiv_i2, wrem_i2]; omega) | grind | grind [wr32]) (by first | omega | (simp (disch := omega) only [wr32_i2, wdiv_i2, wrem_i2]; omega) | grind | grind [wr32])
          clear ek5
          refine sat_ite (fun q_7 => ?_) (fun q_7 => ?_)
          · exact hk5 w2 w3 I0 ⟨aw2, bw2⟩ ⟨aw3, bw3⟩ hRI0 (by first | omega | (simp (disch := omega) only [wr32_i2, wdiv_i2, wrem_i2]; omega) | grind | grind [wr32])
          · refine sat_zb (ok_F_at fu w4 w2 w3 I0 hfu hRI0 ⟨aw4, bw4⟩ ⟨aw2, bw2⟩ ⟨aw3, bw3⟩) (fun y10 I11 c_8 ⟨⟨ay10, by10⟩, _, pI11⟩ => ?_)
            have eI11 := pI11.1.symm; replace pI11 := pI11.2; subst eI11
            refine sat_zg (by first | omega | grind | grind [wr32]) (fun g_9 => ?_)
            have ⟨r_10a, r_10b⟩ : -2147483648 ≤ I0 (o0 + 4) y10.toNat ∧ I0 (o0 + 4) y10.toNat < 2147483648 := hRI0.1 (o0 + 4) y10.toNat
            refine sat_ite (fun q_11 => ?_) (fun q_11 => ?_)
            · refine sat_zg (by first | omega | grind | grind [wr32]) (fun g_12 => ?_)
              refine sat_zl (hRI0.1 o0 6) (fun x14 hx14 ax14 bx14 => ?_)
              refine sat_zg (by first | omega | grind | grind [wr32]) (fun g_13 => ?_)
              have ⟨r_14a, r_14b⟩ : -2147483648 ≤ I0 (o0 + 1) w4.toNat ∧ I0 (o0 + 1) w4.toNat < 2147483648 := hRI0.1 (o0 + 1) w4.toNat
              refine sat_zwC hRI0 (hRI0.1 (o0 + 1) w4.toNat) (by first | omega | grind | grind [wr32]) (fun I13 eI13 hRI13 => ?_)
              have ⟨r_15a, r_15b⟩ : -2147483648 ≤ I13 o0 6 ∧ I13 o0 6 < 2147483648 := hRI13.1 o0 6
              refine sat_zwC hRI13 (wr32_in _) (by first | omega | (simp (disch := omega) only [wr32_i2, wdiv_i2, wrem_i2]; omega) | grind | grind [wr32]) (fun I15 eI15 hRI15 => ?_)
              refine sat_zb (ok_F_thereWith fu o0 w4 w2 I15 hfu hRI15 (by omega) ⟨aw4, bw4⟩ ⟨aw2, bw2⟩ (by first | omega | (simp (disch := omega) only [wr32_i2, wdiv_i2, wrem_i2]; omega) | grind | grind [wr32])) (fun y16 I17 c_16 ⟨⟨ay16, by16⟩, _, pI17⟩ => ?_)
              have eI17 := pI17.1.symm; replace pI17 := pI17.2; subst eI17
              refine sat_zg (by first | omega | grind | grind [wr32]) (fun g_17 => ?_)
              have ⟨r_18a, r_18b⟩ : -2147483648 ≤ I15 (o0 + 2) w4.toNat ∧ I15 (o0 + 2) w4.toNat < 2147483648 := hRI15.1 (o0 + 2) w4.toNat
              refine sat_zl (wr32_in _) (fun x19 hx19 ax19 bx19 => ?_)
              try simp (disch := omega) only [wr32_i2, wdiv_i2, wrem_i2] at hx19
              exact hk5 y16 x19 I15 ⟨ay16, by16⟩ ⟨ax19, bx19⟩ hRI15 (by first | omega | (simp (disch := omega) only [wr32_i2, wdiv_i2, wrem_i2]; omega) | grind | grind [wr32])
            · exact hk5 w2 w3 I0 ⟨aw2, bw2⟩ ⟨aw3, bw3⟩ hRI0 (by first | omega | (simp (disch := omega) only [wr32_i2, wdiv_i2, wrem_i2]; omega) | grind | grind [wr32])
        · exact hret _ _ (lit_in rfl) hRI0 trivial
      · exact hret _ _ (lit_in rfl) hRI0 trivial
    · exact hret _ _ (lit_in rfl) hRI0 trivial
theorem ok_F_choose (fu : Nat) (o0 : Nat) (a1 : Int) (I0 : IMem) (hfu : 5000000000 < fu) (hRI0 : GC I0) (To0 : o0 = 154) (qa1 : inr a1) : sat (f_F_choose fu o0 a1 I0) (fun v I => inr v ∧ GC I ∧ (True)) := by
  unfold f_F_choose
  obtain ⟨aa1, ba1⟩ := qa1
  refine sat_zwC hRI0 (lit_in rfl) (by first | omega | grind | grind [wr32]) (fun I1 eI1 hRI1 => ?_)
  refine ok_F_choose_12 fu o0 hfu (by omega) (fun v I h1 h2 h3 => sat_zr ⟨h1, h2, (by first | exact trivial | exact h3 | grind)⟩) fu 0 a1 0 I1 (lit_in rfl) ⟨aa1, ba1⟩ (lit_in rfl) hRI1 (by first | omega | (simp (disch := omega) only [wr32_i2, wdiv_i2, wrem_i2]; omega) | grind | grind [wr32]) (by first | omega | (simp (disch := omega) only [wr32_i2, wdiv_i2, wrem_i2]; omega) | grind | grind [wr32])
theorem ok_F_gather_18 (fu : Nat) (o0 : Nat) (o1 : Nat) (p3 : Int) (hfu : 5000000000 < fu) (To0 : o0 = 154) (To1 : o1 = 7 ∨ o1 = 47 ∨ o1 = 88) (qp3 : inr p3) {Q_ : Int → IMem → Prop} (hret : ∀ v I, inr v → GC I → (True) → sat (zr v I) Q_) : ∀ (m : Nat) (w4 : Int) (I0 : IMem), inr w4 → GC I0 → (0 ≤ w4 ∧ 0 ≤ I0 o0 3 ∧ I0 o0 3 ≤ w4) → (144 - w4).toNat < m → sat (f_F_gather_18 fu o0 o1 p3 m w4 I0) Q_ := by
  intro m
  induction m with
  | zero => intro w4 I0 _ _ _ h0; exact absurd h0 (Nat.not_lt_zero _)
  | succ m hR_ =>
    intro w4 I0 ⟨aw4, bw4⟩ hRI0 hinv hmeas
    show sat (fb_F_gather_18 fu o0 o1 p3 (f_F_gather_18 fu o0 o1 p3 m) w4 I0) Q_
    unfold fb_F_gather_18
    obtain ⟨ap3, bp3⟩ := qp3
    refine sat_ite (fun q_1 => ?_) (fun q_1 => ?_)
    · refine sat_ite (fun q_2 => ?_) (fun q_2 => ?_)
      · refine sat_zg (by first | omega | grind | grind [wr32]) (fun g_3 => ?_)
        have ⟨r_5a, r_5b⟩ : -2147483648 ≤ I0 (o0 + 1) w4.toNat ∧ I0 (o0 + 1) w4.toNat < 2147483648 := hRI0.1 (o0 + 1) w4.toNat
        refine sat_zb (ok_L_get fu o1 (I0 (o0 + 1) w4.toNat) 3 I0 hfu hRI0 (by omega) (hRI0.1 (o0 + 1) w4.toNat) (lit_in rfl)) (fun y5 I6 c_4 ⟨⟨ay5, by5⟩, _, pI6⟩ => ?_)
        have eI6 := pI6.1.symm; replace pI6 := pI6.2; subst eI6
        refine sat_zj (fun k8 ek8 => ?_)
        have hk8 : ∀ (I9 : IMem), GC I9 → (0 ≤ I9 o0 3 ∧ I9 o0 3 ≤ w4 + 1) → sat (k8 I9) Q_ := by
          intro I9  hRI9 jk8
          subst ek8
          refine sat_zl (wr32_in _) (fun x10 hx10 ax10 bx10 => ?_)
          try simp (disch := omega) only [wr32_i2, wdiv_i2, wrem_i2] at hx10
          exact hR_ x10 I9 ⟨ax10, bx10⟩ hRI9 (by first | omega | (simp (disch := omega) only [wr32_i2, wdiv_i2, wrem_i2]; omega) | grind | grind [wr32]) (by first | omega | (simp (disch := omega) only [wr32_i2, wdiv_i2, wrem_i2]; omega) | grind | grind [wr32])
        clear ek8
        refine sat_ite (fun q_6 => ?_) (fun q_6 => ?_)
        · exact hk8 I0 hRI0 (by first | omega | (simp (disch := omega) only [wr32_i2, wdiv_i2, wrem_i2]; omega) | grind | grind [wr32])
        · refine sat_zg (by first | omega | grind | grind [wr32]) (fun g_7 => ?_)
          have ⟨r_8a, r_8b⟩ : -2147483648 ≤ I0 o0 3 ∧ I0 o0 3 < 2147483648 := hRI0.1 o0 3
          refine sat_zl (hRI0.1 o0 3) (fun x12 hx12 ax12 bx12 => ?_)
          refine sat_zg (by first | omega | grind | grind [wr32]) (fun g_9 => ?_)
          refine sat_zwC hRI0 (hRI0.1 (o0 + 1) w4.toNat) (by first | omega | grind | grind [wr32]) (fun I11 eI11 hRI11 => ?_)
          refine sat_zg (by first | omega | grind | grind [wr32]) (fun g_10 => ?_)
          have ⟨r_12a, r_12b⟩ : -2147483648 ≤ I11 (o0 + 1) w4.toNat ∧ I11 (o0 + 1) w4.toNat < 2147483648 := hRI11.1 (o0 + 1) w4.toNat
          refine sat_zb (ok_L_get fu o1 (I11 (o0 + 1) w4.toNat) 1 I11 hfu hRI11 (by omega) (hRI11.1 (o0 + 1) w4.toNat) (lit_in rfl)) (fun y13 I14 c_11 ⟨⟨ay13, by13⟩, _, pI14⟩ => ?_)
          have eI14 := pI14.1.symm; replace pI14 := pI14.2; subst eI14
          have ⟨r_13a, r_13b⟩ : -2147483648 ≤ I11 o0 3 ∧ I11 o0 3 < 2147483648 := hRI11.1 o0 3
          refine sat_zl (hRI11.1 o0 3) (fun x17 hx17 ax17 bx17 => ?_)
          refine sat_zg (by first | omega | grind | grind [wr32]) (fun g_14 => ?_)
          refine sat_zwC hRI11 ⟨ay13, by13⟩ (by first | omega | grind | grind [wr32]) (fun I16 eI16 hRI16 => ?_)
          have ⟨r_15a, r_15b⟩ : -2147483648 ≤ I16 o0 3 ∧ I16 o0 3 < 2147483648 := hRI16.1 o0 3
          refine sat_zl (hRI16.1 o0 3) (fun x19 hx19 ax19 bx19 => ?_)
          refine sat_zg (by first | omega | grind | grind [wr32]) (fun g_16 => ?_)
          refine sat_zwC hRI16 ⟨ay5, by5⟩ (by first | omega | grind | grind [wr32]) (fun I18 eI18 hRI18 => ?_)
          have ⟨r_17a, r_17b⟩ : -2147483648 ≤ I18 o0 3 ∧ I18 o0 3 < 2147483648 := hRI18.1 o0 3
          refine sat_zwC hRI18 (wr32_in _) (by first | omega | (simp (disch := omega) only [wr32_i2, wdiv_i2, wrem_i2]; omega) | grind | grind [wr32]) (fun I20 eI20 hRI20 => ?_)
          exact hk8 I20 hRI20 (by first | omega | (simp (disch := omega) only [wr32_i2, wdiv_i2, wrem_i2]; omega) | grind | grind [wr32])
      · exact hret _ _ (lit_in rfl) hRI0 trivial
    · exact hret _ _ (lit_in rfl) hRI0 trivial
theorem ok_F_gather (fu : Nat) (o0 : Nat) (o1 : Nat) (a2 : Int) (I0 : IMem) (hfu : 5000000000 < fu) (hRI0 : GC I0) (To0 : o0 = 154) (To1 : o1 = 7 ∨ o1 = 47 ∨ o1 = 88) (qa2 : inr a2) : sat (f_F_gather fu o0 o1 a2 I0) (fun v I => inr v ∧ GC I ∧ (True)) := by
  unfold f_F_gather
  obtain ⟨aa2, ba2⟩ := qa2
  refine sat_zb (ok_L_listSeen fu o1 (o0 + 1) 144 a2 I0 hfu hRI0 (by omega) (by omega) (by omega) ⟨aa2, ba2⟩) (fun y1 I2 c_1 ⟨⟨ay1, by1⟩, hRI2, pI2⟩ => ?_)
  refine sat_zwC hRI2 (lit_in rfl) (by first | omega | grind | grind [wr32]) (fun I4 eI4 hRI4 => ?_)
  refine ok_F_gather_18 fu o0 o1 y1 hfu (by omega) (by omega) ⟨ay1, by1⟩ (fun v I h1 h2 h3 => sat_zr ⟨h1, h2, (by first | exact trivial | exact h3 | grind)⟩) fu 0 I4 (lit_in rfl) hRI4 (by first | omega | (simp (disch := omega) only [wr32_i2, wdiv_i2, wrem_i2]; omega) | grind | grind [wr32]) (by first | omega | (simp (disch := omega) only [wr32_i2, wdiv_i2, wrem_i2]; omega) | grind | grind [wr32])
theorem ok_F_fillMost_24 (fu : Nat) (k_85 : IMem → Res) (o0 : Nat) (p3 : Int) (hfu : 5000000000 < fu) (To0 : o0 = 154) (qp3 : inr p3) {Q_ : Int → IMem → Prop} (hk_85 : ∀ (I9 : IMem), GC I9 → (True) → sat (k_85 I9) Q_) (hret : ∀ v I, inr v → GC I → (True) → sat (zr v I) Q_) : ∀ (m : Nat) (w4 : Int) (I0 : IMem), inr w4 → GC I0 → (0 ≤ w4) → (9 - w4).toNat < m → sat (f_F_fillMost_24 fu k_85 o0 p3 m w4 I0) Q_ := by
  intro m
  induction m with
  | zero => intro w4 I0 _ _ _ h0; exact absurd h0 (Nat.not_lt_zero _)
  | succ m hR_ =>
    intro w4 I0 ⟨aw4, bw4⟩ hRI0 hinv hmeas
    show sat (fb_F_fillMost_24 fu k_85 o0 p3 (f_F_fillMost_24 fu k_85 o0 p3 m) w4 I0) Q_
    unfold fb_F_fillMost_24
    obtain ⟨ap3, bp3⟩ := qp3
    refine sat_ite (fun q_1 => ?_) (fun q_1 => ?_)
    · have ⟨r_3a, r_3b⟩ : -2147483648 ≤ I0 o0 3 ∧ I0 o0 3 < 2147483648 := hRI0.1 o0 3
      refine sat_zb (ok_F_at fu (I0 o0 3) 0 w4 I0 hfu hRI0 (hRI0.1 o0 3) (lit_in rfl) ⟨aw4, bw4⟩) (fun y7 I8 c_2 ⟨⟨ay7, by7⟩, _, pI8⟩ => ?_)
      have eI8 := pI8.1.symm; replace pI8 := pI8.2; subst eI8
      refine sat_zg (by first | omega | grind | grind [wr32]) (fun g_4 => ?_)
      refine sat_zwC hRI0 (lit_in rfl) (by first | omega | grind | grind [wr32]) (fun I10 eI10 hRI10 => ?_)
      have ⟨r_6a, r_6b⟩ : -2147483648 ≤ I10 o0 3 ∧ I10 o0 3 < 2147483648 := hRI10.1 o0 3
      refine sat_zb (ok_F_at fu (I10 o0 3) 1 w4 I10 hfu hRI10 (hRI10.1 o0 3) (lit_in rfl) ⟨aw4, bw4⟩) (fun y11 I12 c_5 ⟨⟨ay11, by11⟩, _, pI12⟩ => ?_)
      have eI12 := pI12.1.symm; replace pI12 := pI12.2; subst eI12
      refine sat_zg (by first | omega | grind | grind [wr32]) (fun g_7 => ?_)
      refine sat_zwC hRI10 (lit_in rfl) (by first | omega | grind | grind [wr32]) (fun I14 eI14 hRI14 => ?_)
      have ⟨r_9a, r_9b⟩ : -2147483648 ≤ I14 o0 3 ∧ I14 o0 3 < 2147483648 := hRI14.1 o0 3
      refine sat_zb (ok_F_at fu (I14 o0 3) 2 w4 I14 hfu hRI14 (hRI14.1 o0 3) (lit_in rfl) ⟨aw4, bw4⟩) (fun y15 I16 c_8 ⟨⟨ay15, by15⟩, _, pI16⟩ => ?_)
      have eI16 := pI16.1.symm; replace pI16 := pI16.2; subst eI16
      refine sat_zg (by first | omega | grind | grind [wr32]) (fun g_10 => ?_)
      refine sat_zwC hRI14 (lit_in rfl) (by first | omega | grind | grind [wr32]) (fun I18 eI18 hRI18 => ?_)
      refine sat_zl (wr32_in _) (fun x19 hx19 ax19 bx19 => ?_)
      try simp (disch := omega) only [wr32_i2, wdiv_i2, wrem_i2] at hx19
      exact hR_ x19 I18 ⟨ax19, bx19⟩ hRI18 (by first | omega | (simp (disch := omega) only [wr32_i2, wdiv_i2, wrem_i2]; omega) | grind | grind [wr32]) (by first | omega | (simp (disch := omega) only [wr32_i2, wdiv_i2, wrem_i2]; omega) | grind | grind [wr32])
    · exact hk_85 I0 hRI0 trivial
theorem ok_F_fillMost_110 (fu : Nat) (k_166 : IMem → Res) (o0 : Nat) (p3 : Int) (p4 : Int) (p5 : Int) (hfu : 5000000000 < fu) (To0 : o0 = 154) (qp3 : inr p3) (qp4 : inr p4) (qp5 : inr p5) {Q_ : Int → IMem → Prop} (hk_166 : ∀ (I9 : IMem), GC I9 → (True) → sat (k_166 I9) Q_) (hret : ∀ v I, inr v → GC I → (True) → sat (zr v I) Q_) : ∀ (m : Nat) (w6 : Int) (I0 : IMem), inr w6 → GC I0 → (0 ≤ w6) → (9 - w6).toNat < m → sat (f_F_fillMost_110 fu k_166 o0 p3 p4 p5 m w6 I0) Q_ := by
  intro m
  induction m with
  | zero => intro w6 I0 _ _ _ h0; exact absurd h0 (Nat.not_lt_zero _)
  | succ m hR_ =>
    intro w6 I0 ⟨aw6, bw6⟩ hRI0 hinv hmeas
    show sat (fb_F_fillMost_110 fu k_166 o0 p3 p4 p5 (f_F_fillMost_110 fu k_166 o0 p3 p4 p5 m) w6 I0) Q_
    unfold fb_F_fillMost_110
    obtain ⟨ap3, bp3⟩ := qp3
    obtain ⟨ap4, bp4⟩ := qp4
    obtain ⟨ap5, bp5⟩ := qp5
    refine sat_ite (fun q_1 => ?_) (fun q_1 => ?_)
    · refine sat_zb (ok_F_at fu p4 p5 w6 I0 hfu hRI0 ⟨ap4, bp4⟩ ⟨ap5, bp5⟩ ⟨aw6, bw6⟩) (fun y22 I23 c_2 ⟨⟨ay22, by22⟩, _, pI23⟩ => ?_)
      have eI23 := pI23.1.symm; replace pI23 := pI23.2; subst eI23
      refine sat_zb (ok_F_at fu (wr32 (p4 + 1)) p5 w6 I0 hfu hRI0 (wr32_in _) ⟨ap5, bp5⟩ ⟨aw6, bw6⟩) (fun y25 I26 c_3 ⟨⟨ay25, by25⟩, _, pI26⟩ => ?_)
      have eI26 := pI26.1.symm; replace pI26 := pI26.2; subst eI26
      refine sat_zg (by first | omega | grind | grind [wr32]) (fun g_4 => ?_)
      refine sat_zb (ok_F_mostWith fu o0 p4 p5 w6 I0 hfu hRI0 (by omega) ⟨ap4, bp4⟩ ⟨ap5, bp5⟩ ⟨aw6, bw6⟩) (fun y28 I29 c_5 ⟨⟨ay28, by28⟩, _, pI29⟩ => ?_)
      have eI29 := pI29.1.symm; replace pI29 := pI29.2; subst eI29
      have ⟨r_7a, r_7b⟩ : -2147483648 ≤ I0 (o0 + 4) y25.toNat ∧ I0 (o0 + 4) y25.toNat < 2147483648 := hRI0.1 (o0 + 4) y25.toNat
      refine sat_zb (ok_JM_max fu (I0 (o0 + 4) y25.toNat) y28 I0 hfu hRI0.1 (hRI0.1 (o0 + 4) y25.toNat) ⟨ay28, by28⟩) (fun y31 I32 c_6 ⟨⟨ay31, by31⟩, _, pI32⟩ => ?_)
      have eI32 := pI32.1.symm; replace pI32 := pI32.2; subst eI32
      refine sat_zg (by first | omega | grind | grind [wr32]) (fun g_8 => ?_)
      refine sat_zwC hRI0 ⟨ay31, by31⟩ (by first | omega | grind | grind [wr32]) (fun I34 eI34 hRI34 => ?_)
      refine sat_zl (wr32_in _) (fun x35 hx35 ax35 bx35 => ?_)
      try simp (disch := omega) only [wr32_i2, wdiv_i2, wrem_i2] at hx35
      exact hR_ x35 I34 ⟨ax35, bx35⟩ hRI34 (by first | omega | (simp (disch := omega) only [wr32_i2, wdiv_i2, wrem_i2]; omega) | grind | grind [wr32]) (by first | omega | (simp (disch := omega) only [wr32_i2, wdiv_i2, wrem_i2]; omega) | grind | grind [wr32])
    · exact hk_166 I0 hRI0 trivial
theorem ok_F_fillMost_101 (fu : Nat) (k_172 : IMem → Res) (o0 : Nat) (p3 : Int) (p4 : Int) (hfu : 5000000000 < fu) (To0 : o0 = 154) (qp3 : inr p3) (qp4 : inr p4) {Q_ : Int → IMem → Prop} (hk_172 : ∀ (I9 : IMem), GC I9 → (True) → sat (k_172 I9) Q_) (hret : ∀ v I, inr v → GC I → (True) → sat (zr v I) Q_) : ∀ (m : Nat) (w5 : Int) (I0 : IMem), inr w5 → GC I0 → (0 ≤ w5) → (3 - w5).toNat < m → sat (f_F_fillMost_101 fu k_172 o0 p3 p4 m w5 I0) Q_ := by
  intro m
  induction m with
  | zero => intro w5 I0 _ _ _ h0; exact absurd h0 (Nat.not_lt_zero _)
  | succ m hR_ =>
    intro w5 I0 ⟨aw5, bw5⟩ hRI0 hinv hmeas
    show sat (fb_F_fillMost_101 fu k_172 o0 p3 p4 (f_F_fillMost_101 fu k_172 o0 p3 p4 m) w5 I0) Q_
    unfold fb_F_fillMost_101
    obtain ⟨ap3, bp3⟩ := qp3
    obtain ⟨ap4, bp4⟩ := qp4
    refine sat_ite (fun q_1 => ?_) (fun q_1 => ?_)
    · exact hk_172 I0 hRI0 trivial
    · refine ok_F_fillMost_110 fu _ o0 p3 p4 w5 hfu (by omega) ⟨ap3, bp3⟩ ⟨ap4, bp4⟩ ⟨aw5, bw5⟩ ?_ (fun v I h1 h2 h3 => hret v I h1 h2 (by first | exact trivial | exact h3 | grind)) fu 0 I0 (lit_in rfl) hRI0 (by first | omega | (simp (disch := omega) only [wr32_i2, wdiv_i2, wrem_i2]; omega) | grind | grind [wr32]) (by first | omega | (simp (disch := omega) only [wr32_i2, wdiv_i2, wrem_i2]; omega) | grind | grind [wr32])
      · intro I36  hRI36 x_2
        refine sat_zl (wr32_in _) (fun x37 hx37 ax37 bx37 => ?_)
        try simp (disch := omega) only [wr32_i2, wdiv_i2, wrem_i2] at hx37
        exact hR_ x37 I36 ⟨ax37, bx37⟩ hRI36 (by first | omega | (simp (disch := omega) only [wr32_i2, wdiv_i2, wrem_i2]; omega) | grind | grind [wr32]) (by first | omega | (simp (disch := omega) only [wr32_i2, wdiv_i2, wrem_i2]; omega) | grind | grind [wr32])
theorem ok_F_fillMost_93 (fu : Nat) (k_178 : IMem → Res) (o0 : Nat) (p3 : Int) (hfu : 5000000000 < fu) (To0 : o0 = 154) (qp3 : inr p3) {Q_ : Int → IMem → Prop} (hk_178 : ∀ (I9 : IMem), GC I9 → (True) → sat (k_178 I9) Q_) (hret : ∀ v I, inr v → GC I → (True) → sat (zr v I) Q_) : ∀ (m : Nat) (w4 : Int) (I0 : IMem), inr w4 → GC I0 → (True) → (w4 + 1).toNat < m → sat (f_F_fillMost_93 fu k_178 o0 p3 m w4 I0) Q_ := by
  intro m
  induction m with
  | zero => intro w4 I0 _ _ _ h0; exact absurd h0 (Nat.not_lt_zero _)
  | succ m hR_ =>
    intro w4 I0 ⟨aw4, bw4⟩ hRI0 hinv hmeas
    show sat (fb_F_fillMost_93 fu k_178 o0 p3 (f_F_fillMost_93 fu k_178 o0 p3 m) w4 I0) Q_
    unfold fb_F_fillMost_93
    obtain ⟨ap3, bp3⟩ := qp3
    refine sat_ite (fun q_1 => ?_) (fun q_1 => ?_)
    · exact hk_178 I0 hRI0 trivial
    · refine ok_F_fillMost_101 fu _ o0 p3 w4 hfu (by omega) ⟨ap3, bp3⟩ ⟨aw4, bw4⟩ ?_ (fun v I h1 h2 h3 => hret v I h1 h2 (by first | exact trivial | exact h3 | grind)) fu 0 I0 (lit_in rfl) hRI0 (by first | omega | (simp (disch := omega) only [wr32_i2, wdiv_i2, wrem_i2]; omega) | grind | grind [wr32]) (by first | omega | (simp (disch := omega) only [wr32_i2, wdiv_i2, wrem_i2]; omega) | grind | grind [wr32])
      · intro I38  hRI38 x_2
        refine sat_zl (wr32_in _) (fun x39 hx39 ax39 bx39 => ?_)
        try simp (disch := omega) only [wr32_i2, wdiv_i2, wrem_i2] at hx39
        exact hR_ x39 I38 ⟨ax39, bx39⟩ hRI38 trivial (by first | omega | (simp (disch := omega) only [wr32_i2, wdiv_i2, wrem_i2]; omega) | grind | grind [wr32])
theorem ok_F_fillMost (fu : Nat) (o0 : Nat) (o1 : Nat) (a2 : Int) (I0 : IMem) (hfu : 5000000000 < fu) (hRI0 : GC I0) (To0 : o0 = 154) (To1 : o1 = 1 ∨ o1 = 41 ∨ o1 = 82) (qa2 : inr a2) : sat (f_F_fillMost fu o0 o1 a2 I0) (fun v I => inr v ∧ GC I ∧ (True)) := by
  unfold f_F_fillMost
  obtain ⟨aa2, ba2⟩ := qa2
  have ⟨r_2a, r_2b⟩ : -2147483648 ≤ I0 (o1 + 1) 0 ∧ I0 (o1 + 1) 0 < 2147483648 := hRI0.1 (o1 + 1) 0
  refine sat_zb (ok_JM_min fu (I0 (o1 + 1) 0) 8 I0 hfu hRI0.1 (hRI0.1 (o1 + 1) 0) (lit_in rfl)) (fun y1 I2 c_1 ⟨⟨ay1, by1⟩, _, pI2⟩ => ?_)
  have eI2 := pI2.1.symm; replace pI2 := pI2.2; subst eI2
  refine sat_zb (ok_F_gather fu o0 (o1 + 6) a2 I0 hfu hRI0 (by omega) (by omega) ⟨aa2, ba2⟩) (fun u_3 I5 c_4 ⟨⟨au_3, bu_3⟩, hRI5, pI5⟩ => ?_)
  refine ok_F_fillMost_24 fu _ o0 y1 hfu (by omega) ⟨ay1, by1⟩ ?_ (fun v I h1 h2 h3 => sat_zr ⟨h1, h2, (by first | exact trivial | exact h3 | grind)⟩) fu 0 I5 (lit_in rfl) hRI5 (by first | omega | (simp (disch := omega) only [wr32_i2, wdiv_i2, wrem_i2]; omega) | grind | grind [wr32]) (by first | omega | (simp (disch := omega) only [wr32_i2, wdiv_i2, wrem_i2]; omega) | grind | grind [wr32])
  · intro I20  hRI20 x_5
    have ⟨r_6a, r_6b⟩ : -2147483648 ≤ I20 o0 3 ∧ I20 o0 3 < 2147483648 := hRI20.1 o0 3
    refine sat_zl (wr32_in _) (fun x21 hx21 ax21 bx21 => ?_)
    try simp (disch := omega) only [wr32_i2, wdiv_i2, wrem_i2] at hx21
    refine ok_F_fillMost_93 fu _ o0 y1 hfu (by omega) ⟨ay1, by1⟩ ?_ (fun v I h1 h2 h3 => sat_zr ⟨h1, h2, (by first | exact trivial | exact h3 | grind)⟩) fu x21 I20 ⟨ax21, bx21⟩ hRI20 trivial (by first | omega | (simp (disch := omega) only [wr32_i2, wdiv_i2, wrem_i2]; omega) | grind | grind [wr32])
    · intro I40  hRI40 x_7
      refine sat_zb (ok_F_choose fu o0 y1 I40 hfu hRI40 (by omega) ⟨ay1, by1⟩) (fun u_8 I42 c_9 ⟨⟨au_8, bu_8⟩, hRI42, pI42⟩ => ?_)
      refine sat_zb (ok_F_at fu 0 0 y1 I42 hfu hRI42 (lit_in rfl) (lit_in rfl) ⟨ay1, by1⟩) (fun y44 I45 c_10 ⟨⟨ay44, by44⟩, _, pI45⟩ => ?_)
      have eI45 := pI45.1.symm; replace pI45 := pI45.2; subst eI45
      refine sat_zg (by first | omega | grind | grind [wr32]) (fun g_11 => ?_)
      have ⟨r_12a, r_12b⟩ : -2147483648 ≤ I42 (o0 + 4) y44.toNat ∧ I42 (o0 + 4) y44.toNat < 2147483648 := hRI42.1 (o0 + 4) y44.toNat
      exact sat_zr ⟨(hRI42.1 (o0 + 4) y44.toNat), hRI42, trivial⟩
theorem ok_S_best (fu : Nat) (o0 : Nat) (a1 : Int) (I0 : IMem) (hfu : 5000000000 < fu) (hRI0 : GC I0) (To0 : o0 = 0) (qa1 : inr a1) : sat (f_S_best fu o0 a1 I0) (fun v I => inr v ∧ GC I ∧ (True)) := by
  unfold f_S_best
  obtain ⟨aa1, ba1⟩ := qa1
  refine sat_ite (fun q_1 => ?_) (fun q_1 => ?_)
  · exact sat_zr ⟨(lit_in rfl), hRI0, trivial⟩
  · refine sat_zb (ok_F_fillMost fu (o0 + 154) (o0 + 1) ((-1)) I0 hfu hRI0 (by omega) (by omega) (lit_in rfl)) (fun y1 I2 c_2 ⟨⟨ay1, by1⟩, hRI2, pI2⟩ => ?_)
    refine sat_ite (fun q_3 => ?_) (fun q_3 => ?_)
    · refine sat_ite (fun q_4 => ?_) (fun q_4 => ?_)
      · exact sat_zr ⟨⟨ay1, by1⟩, hRI2, trivial⟩
      · refine sat_ite (fun q_5 => ?_) (fun q_5 => ?_)
        · have ⟨r_6a, r_6b⟩ : -2147483648 ≤ I2 (o0 + 154) 6 ∧ I2 (o0 + 154) 6 < 2147483648 := hRI2.1 (o0 + 154) 6
          exact sat_zr ⟨(hRI2.1 (o0 + 154) 6), hRI2, trivial⟩
        · exact sat_zr ⟨(lit_in rfl), hRI2, trivial⟩
    · refine sat_zb (ok_F_chosenAt fu (o0 + 154) (wr32 (a1 - 10)) I2 hfu hRI2 (by omega) (wr32_in _)) (fun y4 I5 c_7 ⟨⟨ay4, by4⟩, _, pI5⟩ => ?_)
      have eI5 := pI5.1.symm; replace pI5 := pI5.2; subst eI5
      exact sat_zr ⟨⟨ay4, by4⟩, hRI2, trivial⟩
theorem ok_S_look (fu : Nat) (o0 : Nat) (a1 : Int) (I0 : IMem) (hfu : 5000000000 < fu) (hRI0 : GC I0) (To0 : o0 = 0) (qa1 : inr a1) : sat (f_S_look fu o0 a1 I0) (fun v I => inr v ∧ GC I ∧ (True)) := by
  unfold f_S_look
  obtain ⟨aa1, ba1⟩ := qa1
  refine sat_zb (ok_S_isLine fu a1 I0 hfu hRI0 ⟨aa1, ba1⟩) (fun y1 I2 c_1 ⟨⟨ay1, by1⟩, _, pI2⟩ => ?_)
  have eI2 := pI2.1.symm; replace pI2 := pI2.2; subst eI2
  refine sat_ite (fun q_2 => ?_) (fun q_2 => ?_)
  · exact sat_zr ⟨(lit_in rfl), hRI0, trivial⟩
  · refine sat_zg (by first | omega | grind | grind [wr32]) (fun g_3 => ?_)
    have ⟨r_4a, r_4b⟩ : -2147483648 ≤ I0 (o0 + 10) a1.toNat ∧ I0 (o0 + 10) a1.toNat < 2147483648 := hRI0.1 (o0 + 10) a1.toNat
    refine sat_ite (fun q_5 => ?_) (fun q_5 => ?_)
    · refine sat_zb (ok_F_fillMost fu (o0 + 154) (o0 + 1) a1 I0 hfu hRI0 (by omega) (by omega) ⟨aa1, ba1⟩) (fun y4 I5 c_6 ⟨⟨ay4, by4⟩, hRI5, pI5⟩ => ?_)
      refine sat_zb (ok_F_fillMost fu (o0 + 154) (o0 + 1) ((-1)) I5 hfu hRI5 (by omega) (by omega) (lit_in rfl)) (fun y7 I8 c_7 ⟨⟨ay7, by7⟩, hRI8, pI8⟩ => ?_)
      exact sat_zr ⟨(wr32_in _), hRI8, trivial⟩
    · exact sat_zr ⟨(lit_in rfl), hRI0, trivial⟩
theorem ok_S_heap_38 {Ib : IMem} (fu : Nat) (k_70 : Int → IMem → Res) (o0 : Nat) (p1 : Int) (p2 : Int) (hfu : 5000000000 < fu) (To0 : o0 = 0) (qp1 : inr p1) (qp2 : inr p2) {Q_ : Int → IMem → Prop} (hk_70 : ∀ (z0 : Int) (I9 : IMem), inr z0 → GC I9 → (I9 = Ib ∧ (True)) → sat (k_70 z0 I9) Q_) (hret : ∀ v I, inr v → GC I → (I = Ib ∧ (True)) → sat (zr v I) Q_) : ∀ (m : Nat) (w3 : Int) (w4 : Int) (I0 : IMem), inr w3 → inr w4 → GC I0 → (I0 = Ib ∧ (0 ≤ w4)) → (9 - w4).toNat < m → sat (f_S_heap_38 fu k_70 o0 p1 p2 m w3 w4 I0) Q_ := by
  intro m
  induction m with
  | zero => intro w3 w4 I0 _ _ _ _ h0; exact absurd h0 (Nat.not_lt_zero _)
  | succ m hR_ =>
    intro w3 w4 I0 ⟨aw3, bw3⟩ ⟨aw4, bw4⟩ hRI0 hinv hmeas
    have einv := hinv.1; replace hinv := hinv.2; subst einv
    show sat (fb_S_heap_38 fu k_70 o0 p1 p2 (f_S_heap_38 fu k_70 o0 p1 p2 m) w3 w4 I0) Q_
    unfold fb_S_heap_38
    obtain ⟨ap1, bp1⟩ := qp1
    obtain ⟨ap2, bp2⟩ := qp2
    refine sat_ite (fun q_1 => ?_) (fun q_1 => ?_)
    · refine sat_zg (by first | omega | grind | grind [wr32]) (fun g_2 => ?_)
      have ⟨r_3a, r_3b⟩ : -2147483648 ≤ I0 (o0 + 6) w4.toNat ∧ I0 (o0 + 6) w4.toNat < 2147483648 := hRI0.1 (o0 + 6) w4.toNat
      refine sat_zl (wr32_in _) (fun x2 hx2 ax2 bx2 => ?_)
      try simp (disch := omega) only [wr32_i2, wdiv_i2, wrem_i2] at hx2
      refine sat_zl (wr32_in _) (fun x3 hx3 ax3 bx3 => ?_)
      try simp (disch := omega) only [wr32_i2, wdiv_i2, wrem_i2] at hx3
      exact hR_ x2 x3 I0 ⟨ax2, bx2⟩ ⟨ax3, bx3⟩ hRI0 ⟨rfl, (by first | omega | (simp (disch := omega) only [wr32_i2, wdiv_i2, wrem_i2]; omega) | grind | grind [wr32])⟩ (by first | omega | (simp (disch := omega) only [wr32_i2, wdiv_i2, wrem_i2]; omega) | grind | grind [wr32])
    · exact hk_70 w3 I0 ⟨aw3, bw3⟩ hRI0 ⟨rfl, trivial⟩
theorem ok_S_heap (fu : Nat) (o0 : Nat) (a1 : Int) (a2 : Int) (I0 : IMem) (hfu : 5000000000 < fu) (hRI0 : GC I0) (To0 : o0 = 0) (qa1 : inr a1) (qa2 : inr a2) : sat (f_S_heap fu o0 a1 a2 I0) (fun v I => inr v ∧ GC I ∧ (True)) := by
  unfold f_S_heap
  obtain ⟨aa1, ba1⟩ := qa1
  obtain ⟨aa2, ba2⟩ := qa2
  refine sat_ite (fun q_1 => ?_) (fun q_1 => ?_)
  · exact sat_zr ⟨(lit_in rfl), hRI0, trivial⟩
  · refine sat_ite (fun q_2 => ?_) (fun q_2 => ?_)
    · exact sat_zr ⟨(lit_in rfl), hRI0, trivial⟩
    · refine sat_ite (fun q_3 => ?_) (fun q_3 => ?_)
      · exact sat_zr ⟨(lit_in rfl), hRI0, trivial⟩
      · refine sat_ite (fun q_4 => ?_) (fun q_4 => ?_)
        · exact sat_zr ⟨(lit_in rfl), hRI0, trivial⟩
        · refine sat_zg (by first | omega | grind | grind [wr32]) (fun g_5 => ?_)
          have ⟨r_6a, r_6b⟩ : -2147483648 ≤ I0 (o0 + 6) a1.toNat ∧ I0 (o0 + 6) a1.toNat < 2147483648 := hRI0.1 (o0 + 6) a1.toNat
          refine sat_zl (wr32_in _) (fun x1 hx1 ax1 bx1 => ?_)
          try simp (disch := omega) only [wr32_i2, wdiv_i2, wrem_i2] at hx1
          refine ok_S_heap_38 (Ib := I0) fu _ o0 a1 a2 hfu (by omega) ⟨aa1, ba1⟩ ⟨aa2, ba2⟩ ?_ (fun v I h1 h2 h3 => sat_zr ⟨h1, h2, (by first | exact trivial | grind)⟩) fu x1 1 I0 ⟨ax1, bx1⟩ (lit_in rfl) hRI0 ⟨rfl, (by first | omega | (simp (disch := omega) only [wr32_i2, wdiv_i2, wrem_i2]; omega) | grind | grind [wr32])⟩ (by first | omega | (simp (disch := omega) only [wr32_i2, wdiv_i2, wrem_i2]; omega) | grind | grind [wr32])
          · intro x5 I4 ⟨ax5, bx5⟩ hRI4 x_7
            have ex_7 := x_7.1.symm; replace x_7 := x_7.2; subst ex_7
            refine sat_ite (fun q_8 => ?_) (fun q_8 => ?_)
            · exact sat_zr ⟨(lit_in rfl), hRI0, trivial⟩
            · refine sat_zg (by first | omega | grind | grind [wr32]) (fun g_9 => ?_)
              refine sat_zwC hRI0 ⟨aa2, ba2⟩ (by first | omega | grind | grind [wr32]) (fun I6 eI6 hRI6 => ?_)
              exact sat_zr ⟨(lit_in rfl), hRI6, trivial⟩
theorem ok_P_inFirst (fu : Nat) (o0 : Nat) (a1 : Int) (I0 : IMem) (hfu : 5000000000 < fu) (hRI0 : GC I0) (To0 : o0 = 160) (qa1 : inr a1) : sat (f_P_inFirst fu o0 a1 I0) (fun v I => inr v ∧ GC I ∧ (I = I0 ∧ (True))) := by
  unfold f_P_inFirst
  obtain ⟨aa1, ba1⟩ := qa1
  refine sat_zj (fun k1 ek1 => ?_)
  have hk1 : ∀ (x3 : Int) (I2 : IMem), inr x3 → GC I2 → (I2 = I0 ∧ (x3 = 0 ∨ (0 ≤ I2 o0 6 ∧ I2 o0 6 < 67 ∧ 1 ≤ a1 ∧ a1 ≤ 8))) → sat (k1 x3 I2) (fun v I => inr v ∧ GC I ∧ (I = I0 ∧ (True))) := by
    intro x3 I2 ⟨ax3, bx3⟩ hRI2 jk1
    subst ek1
    have ejk1 := jk1.1.symm; replace jk1 := jk1.2; subst ejk1
    refine sat_ite (fun q_1 => ?_) (fun q_1 => ?_)
    · exact sat_zr ⟨(lit_in rfl), hRI0, ⟨rfl, trivial⟩⟩
    · have ⟨r_2a, r_2b⟩ : -2147483648 ≤ I0 o0 6 ∧ I0 o0 6 < 2147483648 := hRI0.1 o0 6
      refine sat_zl (wr32_in _) (fun x4 hx4 ax4 bx4 => ?_)
      try simp (disch := omega) only [wr32_i2, wdiv_i2, wrem_i2] at hx4
      refine sat_zg (by first | omega | grind | grind [wr32]) (fun g_3 => ?_)
      have ⟨r_4a, r_4b⟩ : -2147483648 ≤ I0 (o0 + 1) x4.toNat ∧ I0 (o0 + 1) x4.toNat < 2147483648 := hRI0.1 (o0 + 1) x4.toNat
      exact sat_zr ⟨(hRI0.1 (o0 + 1) x4.toNat), hRI0, ⟨rfl, trivial⟩⟩
  clear ek1
  have ⟨r_5a, r_5b⟩ : -2147483648 ≤ I0 o0 6 ∧ I0 o0 6 < 2147483648 := hRI0.1 o0 6
  refine sat_ite (fun q_6 => ?_) (fun q_6 => ?_)
  · exact hk1 0 I0 (lit_in rfl) hRI0 ⟨rfl, (by first | omega | (simp (disch := omega) only [wr32_i2, wdiv_i2, wrem_i2]; omega) | grind | grind [wr32])⟩
  · refine sat_ite (fun q_7 => ?_) (fun q_7 => ?_)
    · refine sat_ite (fun q_8 => ?_) (fun q_8 => ?_)
      · exact hk1 0 I0 (lit_in rfl) hRI0 ⟨rfl, (by first | omega | (simp (disch := omega) only [wr32_i2, wdiv_i2, wrem_i2]; omega) | grind | grind [wr32])⟩
      · refine sat_ite (fun q_9 => ?_) (fun q_9 => ?_)
        · exact hk1 0 I0 (lit_in rfl) hRI0 ⟨rfl, (by first | omega | (simp (disch := omega) only [wr32_i2, wdiv_i2, wrem_i2]; omega) | grind | grind [wr32])⟩
        · exact hk1 1 I0 (lit_in rfl) hRI0 ⟨rfl, (by first | omega | (simp (disch := omega) only [wr32_i2, wdiv_i2, wrem_i2]; omega) | grind | grind [wr32])⟩
    · exact hk1 0 I0 (lit_in rfl) hRI0 ⟨rfl, (by first | omega | (simp (disch := omega) only [wr32_i2, wdiv_i2, wrem_i2]; omega) | grind | grind [wr32])⟩
theorem ok_P_canGo_17 {Ib : IMem} (fu : Nat) (o0 : Nat) (p1 : Int) (hfu : 5000000000 < fu) (To0 : o0 = 160) (qp1 : inr p1) (hp1 : 0 ≤ p1 ∧ p1 < 67) {Q_ : Int → IMem → Prop} (hret : ∀ v I, inr v → GC I → (I = Ib ∧ (v = 0 ∨ v = 1)) → sat (zr v I) Q_) : ∀ (m : Nat) (w3 : Int) (I0 : IMem), inr w3 → GC I0 → (I0 = Ib ∧ (1 ≤ w3)) → (9 - w3).toNat < m → sat (f_P_canGo_17 fu o0 p1 m w3 I0) Q_ := by
  intro m
  induction m with
  | zero => intro w3 I0 _ _ _ h0; exact absurd h0 (Nat.not_lt_zero _)
  | succ m hR_ =>
    intro w3 I0 ⟨aw3, bw3⟩ hRI0 hinv hmeas
    have einv := hinv.1; replace hinv := hinv.2; subst einv
    show sat (fb_P_canGo_17 fu o0 p1 (f_P_canGo_17 fu o0 p1 m) w3 I0) Q_
    unfold fb_P_canGo_17
    obtain ⟨ap1, bp1⟩ := qp1
    refine sat_ite (fun q_1 => ?_) (fun q_1 => ?_)
    · exact hret _ _ (lit_in rfl) hRI0 ⟨rfl, (by first | omega | (simp (disch := omega) only [wr32_i2, wdiv_i2, wrem_i2]; omega) | grind | grind [wr32])⟩
    · refine sat_zl (wr32_in _) (fun x2 hx2 ax2 bx2 => ?_)
      try simp (disch := omega) only [wr32_i2, wdiv_i2, wrem_i2] at hx2
      refine sat_zg (by first | omega | grind | grind [wr32]) (fun g_2 => ?_)
      refine sat_zg (by first | omega | grind | grind [wr32]) (fun g_3 => ?_)
      have ⟨r_4a, r_4b⟩ : -2147483648 ≤ I0 (o0 + 5) w3.toNat ∧ I0 (o0 + 5) w3.toNat < 2147483648 := hRI0.1 (o0 + 5) w3.toNat
      have ⟨r_5a, r_5b⟩ : -2147483648 ≤ I0 (o0 + 1) x2.toNat ∧ I0 (o0 + 1) x2.toNat < 2147483648 := hRI0.1 (o0 + 1) x2.toNat
      refine sat_ite (fun q_6 => ?_) (fun q_6 => ?_)
      · exact hret _ _ (lit_in rfl) hRI0 ⟨rfl, (by first | omega | (simp (disch := omega) only [wr32_i2, wdiv_i2, wrem_i2]; omega) | grind | grind [wr32])⟩
      · refine sat_zl (wr32_in _) (fun x3 hx3 ax3 bx3 => ?_)
        try simp (disch := omega) only [wr32_i2, wdiv_i2, wrem_i2] at hx3
        exact hR_ x3 I0 ⟨ax3, bx3⟩ hRI0 ⟨rfl, (by first | omega | (simp (disch := omega) only [wr32_i2, wdiv_i2, wrem_i2]; omega) | grind | grind [wr32])⟩ (by first | omega | (simp (disch := omega) only [wr32_i2, wdiv_i2, wrem_i2]; omega) | grind | grind [wr32])
theorem ok_P_canGo (fu : Nat) (o0 : Nat) (a1 : Int) (a2 : Int) (I0 : IMem) (hfu : 5000000000 < fu) (hRI0 : GC I0) (To0 : o0 = 160) (qa1 : inr a1) (qa2 : inr a2) (h1 : 0 ≤ a1 ∧ a1 < 67) : sat (f_P_canGo fu o0 a1 a2 I0) (fun v I => inr v ∧ GC I ∧ (I = I0 ∧ (v = 0 ∨ v = 1))) := by
  unfold f_P_canGo
  obtain ⟨aa1, ba1⟩ := qa1
  obtain ⟨aa2, ba2⟩ := qa2
  refine sat_zl (wr32_in _) (fun x1 hx1 ax1 bx1 => ?_)
  try simp (disch := omega) only [wr32_i2, wdiv_i2, wrem_i2] at hx1
  refine sat_zg (by first | omega | grind | grind [wr32]) (fun g_1 => ?_)
  have ⟨r_2a, r_2b⟩ : -2147483648 ≤ I0 (o0 + 1) x1.toNat ∧ I0 (o0 + 1) x1.toNat < 2147483648 := hRI0.1 (o0 + 1) x1.toNat
  refine sat_ite (fun q_3 => ?_) (fun q_3 => ?_)
  · exact sat_zr ⟨(lit_in rfl), hRI0, ⟨rfl, (by first | omega | (simp (disch := omega) only [wr32_i2, wdiv_i2, wrem_i2]; omega) | grind | grind [wr32])⟩⟩
  · refine ok_P_canGo_17 (Ib := I0) fu o0 a1 hfu (by omega) ⟨aa1, ba1⟩ (by first | omega | (simp (disch := omega) only [wr32_i2, wdiv_i2, wrem_i2]; omega) | grind | grind [wr32]) (fun v I h1 h2 h3 => sat_zr ⟨h1, h2, ⟨h3.1, (by have h4 := h3.2; first | exact trivial | exact h4 | omega | grind)⟩⟩) fu 1 I0 (lit_in rfl) hRI0 ⟨rfl, (by first | omega | (simp (disch := omega) only [wr32_i2, wdiv_i2, wrem_i2]; omega) | grind | grind [wr32])⟩ (by first | omega | (simp (disch := omega) only [wr32_i2, wdiv_i2, wrem_i2]; omega) | grind | grind [wr32])
theorem ok_P_firstWay_3 {Ib : IMem} (fu : Nat) (k_22 : Int → IMem → Res) (o0 : Nat) (p1 : Int) (p2 : Int) (hfu : 5000000000 < fu) (To0 : o0 = 160) (qp1 : inr p1) (qp2 : inr p2) {Q_ : Int → IMem → Prop} (hk_22 : ∀ (z0 : Int) (I9 : IMem), inr z0 → GC I9 → (I9 = Ib ∧ (0 ≤ z0 ∧ z0 ≤ 8)) → sat (k_22 z0 I9) Q_) (hret : ∀ v I, inr v → GC I → (I = Ib ∧ (False)) → sat (zr v I) Q_) : ∀ (m : Nat) (w3 : Int) (I0 : IMem), inr w3 → GC I0 → (I0 = Ib ∧ (0 ≤ w3 ∧ w3 ≤ 8)) → (w3).toNat < m → sat (f_P_firstWay_3 fu k_22 o0 p1 p2 m w3 I0) Q_ := by
  intro m
  induction m with
  | zero => intro w3 I0 _ _ _ h0; exact absurd h0 (Nat.not_lt_zero _)
  | succ m hR_ =>
    intro w3 I0 ⟨aw3, bw3⟩ hRI0 hinv hmeas
    have einv := hinv.1; replace hinv := hinv.2; subst einv
    show sat (fb_P_firstWay_3 fu k_22 o0 p1 p2 (f_P_firstWay_3 fu k_22 o0 p1 p2 m) w3 I0) Q_
    unfold fb_P_firstWay_3
    obtain ⟨ap1, bp1⟩ := qp1
    obtain ⟨ap2, bp2⟩ := qp2
    refine sat_ite (fun q_1 => ?_) (fun q_1 => ?_)
    · refine sat_zg (by first | omega | grind | grind [wr32]) (fun g_2 => ?_)
      have ⟨r_3a, r_3b⟩ : -2147483648 ≤ I0 (o0 + 5) w3.toNat ∧ I0 (o0 + 5) w3.toNat < 2147483648 := hRI0.1 (o0 + 5) w3.toNat
      refine sat_ite (fun q_4 => ?_) (fun q_4 => ?_)
      · refine sat_zl (wr32_in _) (fun x1 hx1 ax1 bx1 => ?_)
        try simp (disch := omega) only [wr32_i2, wdiv_i2, wrem_i2] at hx1
        exact hR_ x1 I0 ⟨ax1, bx1⟩ hRI0 ⟨rfl, (by first | omega | (simp (disch := omega) only [wr32_i2, wdiv_i2, wrem_i2]; omega) | grind | grind [wr32])⟩ (by first | omega | (simp (disch := omega) only [wr32_i2, wdiv_i2, wrem_i2]; omega) | grind | grind [wr32])
      · exact hk_22 w3 I0 ⟨aw3, bw3⟩ hRI0 ⟨rfl, (by first | omega | (simp (disch := omega) only [wr32_i2, wdiv_i2, wrem_i2]; omega) | grind | grind [wr32])⟩
    · exact hk_22 w3 I0 ⟨aw3, bw3⟩ hRI0 ⟨rfl, (by first | omega | (simp (disch := omega) only [wr32_i2, wdiv_i2, wrem_i2]; omega) | grind | grind [wr32])⟩
theorem ok_P_firstWay_31 {Ib : IMem} (fu : Nat) (o0 : Nat) (p1 : Int) (p2 : Int) (p3 : Int) (hfu : 5000000000 < fu) (To0 : o0 = 160) (qp1 : inr p1) (qp2 : inr p2) (qp3 : inr p3) {Q_ : Int → IMem → Prop} (hret : ∀ v I, inr v → GC I → (I = Ib ∧ (v = -1 ∨ (0 ≤ v ∧ v < 67))) → sat (zr v I) Q_) : ∀ (m : Nat) (w4 : Int) (w5 : Int) (w6 : Int) (I0 : IMem), inr w4 → inr w5 → inr w6 → GC I0 → (I0 = Ib ∧ (0 ≤ w6 ∧ (w4 = -1 ∨ (0 ≤ w4 ∧ w4 < 67)))) → (67 - w6).toNat < m → sat (f_P_firstWay_31 fu o0 p1 p2 p3 m w4 w5 w6 I0) Q_ := by
  intro m
  induction m with
  | zero => intro w4 w5 w6 I0 _ _ _ _ _ h0; exact absurd h0 (Nat.not_lt_zero _)
  | succ m hR_ =>
    intro w4 w5 w6 I0 ⟨aw4, bw4⟩ ⟨aw5, bw5⟩ ⟨aw6, bw6⟩ hRI0 hinv hmeas
    have einv := hinv.1; replace hinv := hinv.2; subst einv
    show sat (fb_P_firstWay_31 fu o0 p1 p2 p3 (f_P_firstWay_31 fu o0 p1 p2 p3 m) w4 w5 w6 I0) Q_
    unfold fb_P_firstWay_31
    obtain ⟨ap1, bp1⟩ := qp1
    obtain ⟨ap2, bp2⟩ := qp2
    obtain ⟨ap3, bp3⟩ := qp3
    have ⟨r_1a, r_1b⟩ : -2147483648 ≤ I0 o0 2 ∧ I0 o0 2 < 2147483648 := hRI0.1 o0 2
    refine sat_ite (fun q_2 => ?_) (fun q_2 => ?_)
    · refine sat_ite (fun q_3 => ?_) (fun q_3 => ?_)
      · refine sat_zg (by first | omega | grind | grind [wr32]) (fun g_4 => ?_)
        have ⟨r_5a, r_5b⟩ : -2147483648 ≤ I0 (o0 + 3) w6.toNat ∧ I0 (o0 + 3) w6.toNat < 2147483648 := hRI0.1 (o0 + 3) w6.toNat
        refine sat_zl (wr32_in _) (fun x4 hx4 ax4 bx4 => ?_)
        try simp (disch := omega) only [wr32_i2, wdiv_i2, wrem_i2] at hx4
        refine sat_zg (by first | omega | grind | grind [wr32]) (fun g_6 => ?_)
        refine sat_zj (fun k5 ek5 => ?_)
        have hk5 : ∀ (x7 : Int) (x8 : Int) (I6 : IMem), inr x7 → inr x8 → GC I6 → (I6 = I0 ∧ (x7 = -1 ∨ (0 ≤ x7 ∧ x7 < 67))) → sat (k5 x7 x8 I6) Q_ := by
          intro x7 x8 I6 ⟨ax7, bx7⟩ ⟨ax8, bx8⟩ hRI6 jk5
          subst ek5
          have ejk5 := jk5.1.symm; replace jk5 := jk5.2; subst ejk5
          refine sat_zl (wr32_in _) (fun x9 hx9 ax9 bx9 => ?_)
          try simp (disch := omega) only [wr32_i2, wdiv_i2, wrem_i2] at hx9
          exact hR_ x7 x8 x9 I0 ⟨ax7, bx7⟩ ⟨ax8, bx8⟩ ⟨ax9, bx9⟩ hRI0 ⟨rfl, (by first | omega | (simp (disch := omega) only [wr32_i2, wdiv_i2, wrem_i2]; omega) | grind | grind [wr32])⟩ (by first | omega | (simp (disch := omega) only [wr32_i2, wdiv_i2, wrem_i2]; omega) | grind | grind [wr32])
        clear ek5
        have ⟨r_7a, r_7b⟩ : -2147483648 ≤ I0 (o0 + 2) w6.toNat ∧ I0 (o0 + 2) w6.toNat < 2147483648 := hRI0.1 (o0 + 2) w6.toNat
        refine sat_ite (fun q_8 => ?_) (fun q_8 => ?_)
        · refine sat_zb (ok_P_canGo fu o0 w6 p2 I0 hfu hRI0 (by omega) ⟨aw6, bw6⟩ ⟨ap2, bp2⟩ (by first | omega | (simp (disch := omega) only [wr32_i2, wdiv_i2, wrem_i2]; omega) | grind | grind [wr32])) (fun y10 I11 c_9 ⟨⟨ay10, by10⟩, _, pI11⟩ => ?_)
          have eI11 := pI11.1.symm; replace pI11 := pI11.2; subst eI11
          refine sat_ite (fun q_10 => ?_) (fun q_10 => ?_)
          · exact hk5 w4 w5 I0 ⟨aw4, bw4⟩ ⟨aw5, bw5⟩ hRI0 ⟨rfl, (by first | omega | (simp (disch := omega) only [wr32_i2, wdiv_i2, wrem_i2]; omega) | grind | grind [wr32])⟩
          · refine sat_ite (fun q_11 => ?_) (fun q_11 => ?_)
            · exact hk5 w4 w5 I0 ⟨aw4, bw4⟩ ⟨aw5, bw5⟩ hRI0 ⟨rfl, (by first | omega | (simp (disch := omega) only [wr32_i2, wdiv_i2, wrem_i2]; omega) | grind | grind [wr32])⟩
            · refine sat_ite (fun q_12 => ?_) (fun q_12 => ?_)
              · refine sat_zj (fun k13 ek13 => ?_)
                have hk13 : ∀ (I14 : IMem), GC I14 → (I14 = I0 ∧ (True)) → sat (k13 I14) Q_ := by
                  intro I14  hRI14 jk13
                  subst ek13
                  have ejk13 := jk13.1.symm; replace jk13 := jk13.2; subst ejk13
                  refine sat_zg (by first | omega | grind | grind [wr32]) (fun g_13 => ?_)
                  have ⟨r_14a, r_14b⟩ : -2147483648 ≤ I0 (o0 + 4) x4.toNat ∧ I0 (o0 + 4) x4.toNat < 2147483648 := hRI0.1 (o0 + 4) x4.toNat
                  refine sat_zl (hRI0.1 (o0 + 4) x4.toNat) (fun x15 hx15 ax15 bx15 => ?_)
                  exact hk5 w6 x15 I0 ⟨aw6, bw6⟩ ⟨ax15, bx15⟩ hRI0 ⟨rfl, (by first | omega | (simp (disch := omega) only [wr32_i2, wdiv_i2, wrem_i2]; omega) | grind | grind [wr32])⟩
                clear ek13
                refine sat_ite (fun q_15 => ?_) (fun q_15 => ?_)
                · exact hk13 I0 hRI0 ⟨rfl, trivial⟩
                · refine sat_zg (by first | omega | grind | grind [wr32]) (fun g_16 => ?_)
                  have ⟨r_17a, r_17b⟩ : -2147483648 ≤ I0 (o0 + 4) x4.toNat ∧ I0 (o0 + 4) x4.toNat < 2147483648 := hRI0.1 (o0 + 4) x4.toNat
                  refine sat_ite (fun q_18 => ?_) (fun q_18 => ?_)
                  · exact hk13 I0 hRI0 ⟨rfl, trivial⟩
                  · exact hk5 w4 w5 I0 ⟨aw4, bw4⟩ ⟨aw5, bw5⟩ hRI0 ⟨rfl, (by first | omega | (simp (disch := omega) only [wr32_i2, wdiv_i2, wrem_i2]; omega) | grind | grind [wr32])⟩
              · exact hk5 w4 w5 I0 ⟨aw4, bw4⟩ ⟨aw5, bw5⟩ hRI0 ⟨rfl, (by first | omega | (simp (disch := omega) only [wr32_i2, wdiv_i2, wrem_i2]; omega) | grind | grind [wr32])⟩
        · exact hk5 w4 w5 I0 ⟨aw4, bw4⟩ ⟨aw5, bw5⟩ hRI0 ⟨rfl, (by first | omega | (simp (disch := omega) only [wr32_i2, wdiv_i2, wrem_i2]; omega) | grind | grind [wr32])⟩
      · exact hret _ _ ⟨aw4, bw4⟩ hRI0 ⟨rfl, (by first | omega | (simp (disch := omega) only [wr32_i2, wdiv_i2, wrem_i2]; omega) | grind | grind [wr32])⟩
    · exact hret _ _ ⟨aw4, bw4⟩ hRI0 ⟨rfl, (by first | omega | (simp (disch := omega) only [wr32_i2, wdiv_i2, wrem_i2]; omega) | grind | grind [wr32])⟩
theorem ok_P_firstWay (fu : Nat) (o0 : Nat) (a1 : Int) (a2 : Int) (I0 : IMem) (hfu : 5000000000 < fu) (hRI0 : GC I0) (To0 : o0 = 160) (qa1 : inr a1) (qa2 : inr a2) : sat (f_P_firstWay fu o0 a1 a2 I0) (fun v I => inr v ∧ GC I ∧ (I = I0 ∧ (v = -1 ∨ (0 ≤ v ∧ v < 67)))) := by
  unfold f_P_firstWay
  obtain ⟨aa1, ba1⟩ := qa1
  obtain ⟨aa2, ba2⟩ := qa2
  refine ok_P_firstWay_3 (Ib := I0) fu _ o0 a1 a2 hfu (by omega) ⟨aa1, ba1⟩ ⟨aa2, ba2⟩ ?_ (fun v I h1 h2 h3 => sat_zr ⟨h1, h2, ⟨h3.1, (by have h4 := h3.2; first | exact trivial | exact h4 | omega | grind)⟩⟩) fu 8 I0 (lit_in rfl) hRI0 ⟨rfl, (by first | omega | (simp (disch := omega) only [wr32_i2, wdiv_i2, wrem_i2]; omega) | grind | grind [wr32])⟩ (by first | omega | (simp (disch := omega) only [wr32_i2, wdiv_i2, wrem_i2]; omega) | grind | grind [wr32])
  · intro x3 I2 ⟨ax3, bx3⟩ hRI2 x_1
    have ex_1 := x_1.1.symm; replace x_1 := x_1.2; subst ex_1
    refine ok_P_firstWay_31 (Ib := I0) fu o0 a1 a2 x3 hfu (by omega) ⟨aa1, ba1⟩ ⟨aa2, ba2⟩ ⟨ax3, bx3⟩ (fun v I h1 h2 h3 => sat_zr ⟨h1, h2, ⟨h3.1, (by have h4 := h3.2; first | exact trivial | exact h4 | omega | grind)⟩⟩) fu ((-1)) 0 0 I0 (lit_in rfl) (lit_in rfl) (lit_in rfl) hRI0 ⟨rfl, (by first | omega | (simp (disch := omega) only [wr32_i2, wdiv_i2, wrem_i2]; omega) | grind | grind [wr32])⟩ (by first | omega | (simp (disch := omega) only [wr32_i2, wdiv_i2, wrem_i2]; omega) | grind | grind [wr32])
theorem ok_P_goOn_2 (fu : Nat) (k_26 : Int → IMem → Res) (o0 : Nat) (o1 : Nat) (n1 : Nat) (hfu : 5000000000 < fu) (To0 : o0 = 160) (To1 : o1 ≠ 9 ∧ o1 ≠ 49 ∧ o1 ≠ 90) (hn1 : n1 < 1000000) {Q_ : Int → IMem → Prop} (hk_26 : ∀ (z0 : Int) (I9 : IMem), inr z0 → GC I9 → (1 ≤ z0 ∧ z0 ≤ 8 ∧ z0 < n1) → sat (k_26 z0 I9) Q_) (hret : ∀ v I, inr v → GC I → (True) → sat (zr v I) Q_) : ∀ (m : Nat) (w2 : Int) (I0 : IMem), inr w2 → GC I0 → (1 ≤ w2) → (9 - w2).toNat < m → sat (f_P_goOn_2 fu k_26 o0 o1 n1 m w2 I0) Q_ := by
  intro m
  induction m with
  | zero => intro w2 I0 _ _ _ h0; exact absurd h0 (Nat.not_lt_zero _)
  | succ m hR_ =>
    intro w2 I0 ⟨aw2, bw2⟩ hRI0 hinv hmeas
    show sat (fb_P_goOn_2 fu k_26 o0 o1 n1 (f_P_goOn_2 fu k_26 o0 o1 n1 m) w2 I0) Q_
    unfold fb_P_goOn_2
    refine sat_ite (fun q_1 => ?_) (fun q_1 => ?_)
    · exact hret _ _ (lit_in rfl) hRI0 trivial
    · refine sat_ite (fun q_2 => ?_) (fun q_2 => ?_)
      · refine sat_zg (by first | omega | grind | grind [wr32]) (fun g_3 => ?_)
        refine sat_zg (by first | omega | grind | grind [wr32]) (fun g_4 => ?_)
        have ⟨r_5a, r_5b⟩ : -2147483648 ≤ I0 (o0 + 5) w2.toNat ∧ I0 (o0 + 5) w2.toNat < 2147483648 := hRI0.1 (o0 + 5) w2.toNat
        have ⟨r_6a, r_6b⟩ : -2147483648 ≤ I0 o1 w2.toNat ∧ I0 o1 w2.toNat < 2147483648 := hRI0.1 o1 w2.toNat
        refine sat_ite (fun q_7 => ?_) (fun q_7 => ?_)
        · exact hk_26 w2 I0 ⟨aw2, bw2⟩ hRI0 (by first | omega | (simp (disch := omega) only [wr32_i2, wdiv_i2, wrem_i2]; omega) | grind | grind [wr32])
        · refine sat_zg (by first | omega | grind | grind [wr32]) (fun g_8 => ?_)
          refine sat_zwC hRI0 (lit_in rfl) (by first | omega | grind | grind [wr32]) (fun I1 eI1 hRI1 => ?_)
          refine sat_zl (wr32_in _) (fun x2 hx2 ax2 bx2 => ?_)
          try simp (disch := omega) only [wr32_i2, wdiv_i2, wrem_i2] at hx2
          exact hR_ x2 I1 ⟨ax2, bx2⟩ hRI1 (by first | omega | (simp (disch := omega) only [wr32_i2, wdiv_i2, wrem_i2]; omega) | grind | grind [wr32]) (by first | omega | (simp (disch := omega) only [wr32_i2, wdiv_i2, wrem_i2]; omega) | grind | grind [wr32])
      · exact hret _ _ (lit_in rfl) hRI0 trivial
theorem ok_P_goOn (fu : Nat) (o0 : Nat) (o1 n1 : Nat) (I0 : IMem) (hfu : 5000000000 < fu) (hRI0 : GC I0) (To0 : o0 = 160) (To1 : o1 ≠ 9 ∧ o1 ≠ 49 ∧ o1 ≠ 90) (hn1 : n1 < 1000000) : sat (f_P_goOn fu o0 o1 n1 I0) (fun v I => inr v ∧ GC I ∧ (True)) := by
  unfold f_P_goOn
  refine ok_P_goOn_2 fu _ o0 o1 n1 hfu (by omega) (by omega) (by omega) ?_ (fun v I h1 h2 h3 => sat_zr ⟨h1, h2, (by first | exact trivial | exact h3 | grind)⟩) fu 1 I0 (lit_in rfl) hRI0 (by first | omega | (simp (disch := omega) only [wr32_i2, wdiv_i2, wrem_i2]; omega) | grind | grind [wr32]) (by first | omega | (simp (disch := omega) only [wr32_i2, wdiv_i2, wrem_i2]; omega) | grind | grind [wr32])
  · intro x4 I3 ⟨ax4, bx4⟩ hRI3 x_1
    refine sat_zg (by first | omega | grind | grind [wr32]) (fun g_2 => ?_)
    refine sat_zg (by first | omega | grind | grind [wr32]) (fun g_3 => ?_)
    have ⟨r_4a, r_4b⟩ : -2147483648 ≤ I3 (o0 + 5) x4.toNat ∧ I3 (o0 + 5) x4.toNat < 2147483648 := hRI3.1 (o0 + 5) x4.toNat
    refine sat_zwC hRI3 (wr32_in _) (by first | omega | (simp (disch := omega) only [wr32_i2, wdiv_i2, wrem_i2]; omega) | grind | grind [wr32]) (fun I5 eI5 hRI5 => ?_)
    exact sat_zr ⟨(lit_in rfl), hRI5, trivial⟩
theorem ok_P_numberAll_27 (fu : Nat) (k_64 : IMem → Res) (o0 : Nat) (o1 : Nat) (n1 : Nat) (p2 : Int) (p3 : Int) (hfu : 5000000000 < fu) (To0 : o0 = 160) (To1 : o1 ≠ 9 ∧ o1 ≠ 49 ∧ o1 ≠ 90) (hn1 : n1 < 1000000) (qp2 : inr p2) (qp3 : inr p3) (hp3 : 1 ≤ p3 ∧ p3 ≤ 8) {Q_ : Int → IMem → Prop} (hk_64 : ∀ (I9 : IMem), GC I9 → (True) → sat (k_64 I9) Q_) (hret : ∀ v I, inr v → GC I → (True) → sat (zr v I) Q_) : ∀ (m : Nat) (w4 : Int) (I0 : IMem), inr w4 → GC I0 → (0 ≤ w4) → (67 - w4).toNat < m → sat (f_P_numberAll_27 fu k_64 o0 o1 n1 p2 p3 m w4 I0) Q_ := by
  intro m
  induction m with
  | zero => intro w4 I0 _ _ _ h0; exact absurd h0 (Nat.not_lt_zero _)
  | succ m hR_ =>
    intro w4 I0 ⟨aw4, bw4⟩ hRI0 hinv hmeas
    show sat (fb_P_numberAll_27 fu k_64 o0 o1 n1 p2 p3 (f_P_numberAll_27 fu k_64 o0 o1 n1 p2 p3 m) w4 I0) Q_
    unfold fb_P_numberAll_27
    obtain ⟨ap2, bp2⟩ := qp2
    obtain ⟨ap3, bp3⟩ := qp3
    refine sat_ite (fun q_1 => ?_) (fun q_1 => ?_)
    · refine sat_zg (by first | omega | grind | grind [wr32]) (fun g_2 => ?_)
      refine sat_zl (wr32_in _) (fun x4 hx4 ax4 bx4 => ?_)
      try simp (disch := omega) only [wr32_i2, wdiv_i2, wrem_i2] at hx4
      refine sat_zg (by first | omega | grind | grind [wr32]) (fun g_3 => ?_)
      refine sat_zg (by first | omega | grind | grind [wr32]) (fun g_4 => ?_)
      have ⟨r_5a, r_5b⟩ : -2147483648 ≤ I0 (o0 + 3) w4.toNat ∧ I0 (o0 + 3) w4.toNat < 2147483648 := hRI0.1 (o0 + 3) w4.toNat
      have ⟨r_6a, r_6b⟩ : -2147483648 ≤ I0 (o0 + 1) x4.toNat ∧ I0 (o0 + 1) x4.toNat < 2147483648 := hRI0.1 (o0 + 1) x4.toNat
      refine sat_zwC hRI0 (wr32_in _) (by first | omega | (simp (disch := omega) only [wr32_i2, wdiv_i2, wrem_i2]; omega) | grind | grind [wr32]) (fun I5 eI5 hRI5 => ?_)
      refine sat_zl (wr32_in _) (fun x6 hx6 ax6 bx6 => ?_)
      try simp (disch := omega) only [wr32_i2, wdiv_i2, wrem_i2] at hx6
      exact hR_ x6 I5 ⟨ax6, bx6⟩ hRI5 (by first | omega | (simp (disch := omega) only [wr32_i2, wdiv_i2, wrem_i2]; omega) | grind | grind [wr32]) (by first | omega | (simp (disch := omega) only [wr32_i2, wdiv_i2, wrem_i2]; omega) | grind | grind [wr32])
    · exact hk_64 I0 hRI0 trivial
theorem ok_P_numberAll_12 (fu : Nat) (o0 : Nat) (o1 : Nat) (n1 : Nat) (hfu : 5000000000 < fu) (To0 : o0 = 160) (To1 : o1 ≠ 9 ∧ o1 ≠ 49 ∧ o1 ≠ 90) (hn1 : n1 < 1000000) {Q_ : Int → IMem → Prop} (hret : ∀ v I, inr v → GC I → (True) → sat (zr v I) Q_) : ∀ (m : Nat) (w2 : Int) (w3 : Int) (I0 : IMem), inr w2 → inr w3 → GC I0 → (1 ≤ w3) → (9 - w3).toNat < m → sat (f_P_numberAll_12 fu o0 o1 n1 m w2 w3 I0) Q_ := by
  intro m
  induction m with
  | zero => intro w2 w3 I0 _ _ _ _ h0; exact absurd h0 (Nat.not_lt_zero _)
  | succ m hR_ =>
    intro w2 w3 I0 ⟨aw2, bw2⟩ ⟨aw3, bw3⟩ hRI0 hinv hmeas
    show sat (fb_P_numberAll_12 fu o0 o1 n1 (f_P_numberAll_12 fu o0 o1 n1 m) w2 w3 I0) Q_
    unfold fb_P_numberAll_12
    refine sat_ite (fun q_1 => ?_) (fun q_1 => ?_)
    · exact hret _ _ ⟨aw2, bw2⟩ hRI0 trivial
    · refine sat_ite (fun q_2 => ?_) (fun q_2 => ?_)
      · refine ok_P_numberAll_27 fu _ o0 o1 n1 w2 w3 hfu (by omega) (by omega) (by omega) ⟨aw2, bw2⟩ ⟨aw3, bw3⟩ (by first | omega | (simp (disch := omega) only [wr32_i2, wdiv_i2, wrem_i2]; omega) | grind | grind [wr32]) ?_ (fun v I h1 h2 h3 => hret v I h1 h2 (by first | exact trivial | exact h3 | grind)) fu 0 I0 (lit_in rfl) hRI0 (by first | omega | (simp (disch := omega) only [wr32_i2, wdiv_i2, wrem_i2]; omega) | grind | grind [wr32]) (by first | omega | (simp (disch := omega) only [wr32_i2, wdiv_i2, wrem_i2]; omega) | grind | grind [wr32])
        · intro I7  hRI7 x_3
          refine sat_zg (by first | omega | grind | grind [wr32]) (fun g_4 => ?_)
          have ⟨r_5a, r_5b⟩ : -2147483648 ≤ I7 o1 w3.toNat ∧ I7 o1 w3.toNat < 2147483648 := hRI7.1 o1 w3.toNat
          refine sat_zl (wr32_in _) (fun x8 hx8 ax8 bx8 => ?_)
          try simp (disch := omega) only [wr32_i2, wdiv_i2, wrem_i2] at hx8
          refine sat_zl (wr32_in _) (fun x9 hx9 ax9 bx9 => ?_)
          try simp (disch := omega) only [wr32_i2, wdiv_i2, wrem_i2] at hx9
          exact hR_ x8 x9 I7 ⟨ax8, bx8⟩ ⟨ax9, bx9⟩ hRI7 (by first | omega | (simp (disch := omega) only [wr32_i2, wdiv_i2, wrem_i2]; omega) | grind | grind [wr32]) (by first | omega | (simp (disch := omega) only [wr32_i2, wdiv_i2, wrem_i2]; omega) | grind | grind [wr32])
      · exact hret _ _ ⟨aw2, bw2⟩ hRI0 trivial
theorem ok_P_numberAll (fu : Nat) (o0 : Nat) (o1 n1 : Nat) (I0 : IMem) (hfu : 5000000000 < fu) (hRI0 : GC I0) (To0 : o0 = 160) (To1 : o1 ≠ 9 ∧ o1 ≠ 49 ∧ o1 ≠ 90) (hn1 : n1 < 1000000) : sat (f_P_numberAll fu o0 o1 n1 I0) (fun v I => inr v ∧ GC I ∧ (True)) := by
  unfold f_P_numberAll
  refine sat_zb (ok_JA_fillC fu (o0 + 3) 67 0 I0 hfu hRI0 (by omega) (by omega) (lit_in rfl)) (fun u_1 I2 c_2 ⟨⟨au_1, bu_1⟩, hRI2, pI2⟩ => ?_)
  refine ok_P_numberAll_12 fu o0 o1 n1 hfu (by omega) (by omega) (by omega) (fun v I h1 h2 h3 => sat_zr ⟨h1, h2, (by first | exact trivial | exact h3 | grind)⟩) fu 1 1 I2 (lit_in rfl) (lit_in rfl) hRI2 (by first | omega | (simp (disch := omega) only [wr32_i2, wdiv_i2, wrem_i2]; omega) | grind | grind [wr32]) (by first | omega | (simp (disch := omega) only [wr32_i2, wdiv_i2, wrem_i2]; omega) | grind | grind [wr32])
theorem ok_P_pack_22 (fu : Nat) (k_115 : IMem → Res) (o0 : Nat) (o1 : Nat) (n1 : Nat) (p2 : Int) (p3 : Int) (hfu : 5000000000 < fu) (To0 : o0 = 160) (To1 : o1 ≠ 9 ∧ o1 ≠ 49 ∧ o1 ≠ 90) (hn1 : n1 < 1000000) (qp2 : inr p2) (qp3 : inr p3) {Q_ : Int → IMem → Prop} (hk_115 : ∀ (I9 : IMem), GC I9 → (True) → sat (k_115 I9) Q_) (hret : ∀ v I, inr v → GC I → (True) → sat (zr v I) Q_) : ∀ (m : Nat) (w4 : Int) (I0 : IMem), inr w4 → GC I0 → (1 ≤ w4) → (1296 - w4).toNat < m → sat (f_P_pack_22 fu k_115 o0 o1 n1 p2 p3 m w4 I0) Q_ := by
  intro m
  induction m with
  | zero => intro w4 I0 _ _ _ h0; exact absurd h0 (Nat.not_lt_zero _)
  | succ m hR_ =>
    intro w4 I0 ⟨aw4, bw4⟩ hRI0 hinv hmeas
    show sat (fb_P_pack_22 fu k_115 o0 o1 n1 p2 p3 (f_P_pack_22 fu k_115 o0 o1 n1 p2 p3 m) w4 I0) Q_
    unfold fb_P_pack_22
    obtain ⟨ap2, bp2⟩ := qp2
    obtain ⟨ap3, bp3⟩ := qp3
    refine sat_ite (fun q_1 => ?_) (fun q_1 => ?_)
    · refine sat_ite (fun q_2 => ?_) (fun q_2 => ?_)
      · refine sat_zb (ok_P_goOn fu o0 o1 n1 I0 hfu hRI0 (by omega) (by omega) (by omega)) (fun u_3 I9 c_4 ⟨⟨au_3, bu_3⟩, hRI9, pI9⟩ => ?_)
        refine sat_zb (ok_P_firstWay fu o0 w4 p2 I9 hfu hRI9 (by omega) ⟨aw4, bw4⟩ ⟨ap2, bp2⟩) (fun y11 I12 c_5 ⟨⟨ay11, by11⟩, _, pI12⟩ => ?_)
        have eI12 := pI12.1.symm; replace pI12 := pI12.2; subst eI12
        refine sat_zwC hRI9 ⟨ay11, by11⟩ (by first | omega | grind | grind [wr32]) (fun I14 eI14 hRI14 => ?_)
        have ⟨r_6a, r_6b⟩ : -2147483648 ≤ I14 o0 6 ∧ I14 o0 6 < 2147483648 := hRI14.1 o0 6
        refine sat_ite (fun q_7 => ?_) (fun q_7 => ?_)
        · exact hret _ _ (lit_in rfl) hRI14 trivial
        · refine sat_zl (hRI14.1 o0 6) (fun x15 hx15 ax15 bx15 => ?_)
          refine sat_zg (by first | omega | grind | grind [wr32]) (fun g_8 => ?_)
          have ⟨r_9a, r_9b⟩ : -2147483648 ≤ I14 (o0 + 3) x15.toNat ∧ I14 (o0 + 3) x15.toNat < 2147483648 := hRI14.1 (o0 + 3) x15.toNat
          refine sat_zl (wr32_in _) (fun x16 hx16 ax16 bx16 => ?_)
          try simp (disch := omega) only [wr32_i2, wdiv_i2, wrem_i2] at hx16
          refine sat_zj (fun k17 ek17 => ?_)
          have hk17 : ∀ (x19 : Int) (I18 : IMem), inr x19 → GC I18 → (I18 = I14 ∧ (True)) → sat (k17 x19 I18) Q_ := by
            intro x19 I18 ⟨ax19, bx19⟩ hRI18 jk17
            subst ek17
            have ejk17 := jk17.1.symm; replace jk17 := jk17.2; subst ejk17
            refine sat_zg (by first | omega | grind | grind [wr32]) (fun g_10 => ?_)
            refine sat_zwC hRI14 ⟨ax19, bx19⟩ (by first | omega | grind | grind [wr32]) (fun I20 eI20 hRI20 => ?_)
            refine sat_zl (wr32_in _) (fun x21 hx21 ax21 bx21 => ?_)
            try simp (disch := omega) only [wr32_i2, wdiv_i2, wrem_i2] at hx21
            exact hR_ x21 I20 ⟨ax21, bx21⟩ hRI20 (by first | omega | (simp (disch := omega) only [wr32_i2, wdiv_i2, wrem_i2]; omega) | grind | grind [wr32]) (by first | omega | (simp (disch := omega) only [wr32_i2, wdiv_i2, wrem_i2]; omega) | grind | grind [wr32])
          clear ek17
          refine sat_ite (fun q_11 => ?_) (fun q_11 => ?_)
          · exact hk17 ((-1)) I14 (lit_in rfl) hRI14 ⟨rfl, trivial⟩
          · refine sat_ite (fun q_12 => ?_) (fun q_12 => ?_)
            · refine sat_zg (by first | omega | grind | grind [wr32]) (fun g_13 => ?_)
              have ⟨r_14a, r_14b⟩ : -2147483648 ≤ I14 (o0 + 4) x16.toNat ∧ I14 (o0 + 4) x16.toNat < 2147483648 := hRI14.1 (o0 + 4) x16.toNat
              exact hk17 (wr32 (1 + (I14 (o0 + 4) x16.toNat))) I14 (wr32_in _) hRI14 ⟨rfl, trivial⟩
            · exact hk17 ((-1)) I14 (lit_in rfl) hRI14 ⟨rfl, trivial⟩
      · exact hk_115 I0 hRI0 trivial
    · exact hk_115 I0 hRI0 trivial
theorem ok_P_pack (fu : Nat) (o0 : Nat) (o1 n1 : Nat) (a2 : Int) (I0 : IMem) (hfu : 5000000000 < fu) (hRI0 : GC I0) (To0 : o0 = 160) (To1 : o1 ≠ 9 ∧ o1 ≠ 49 ∧ o1 ≠ 90) (hn1 : n1 < 1000000) (qa2 : inr a2) : sat (f_P_pack fu o0 o1 n1 a2 I0) (fun v I => inr v ∧ GC I ∧ (True)) := by
  unfold f_P_pack
  obtain ⟨aa2, ba2⟩ := qa2
  refine sat_zb (ok_P_numberAll fu o0 o1 n1 I0 hfu hRI0 (by omega) (by omega) (by omega)) (fun y1 I2 c_1 ⟨⟨ay1, by1⟩, hRI2, pI2⟩ => ?_)
  refine sat_zb (ok_JA_fillC fu (o0 + 5) 9 0 I2 hfu hRI2 (by omega) (by omega) (lit_in rfl)) (fun u_2 I5 c_3 ⟨⟨au_2, bu_2⟩, hRI5, pI5⟩ => ?_)
  refine sat_zwC hRI5 (lit_in rfl) (by first | omega | grind | grind [wr32]) (fun I7 eI7 hRI7 => ?_)
  refine ok_P_pack_22 fu _ o0 o1 n1 a2 y1 hfu (by omega) (by omega) (by omega) ⟨aa2, ba2⟩ ⟨ay1, by1⟩ ?_ (fun v I h1 h2 h3 => sat_zr ⟨h1, h2, (by first | exact trivial | exact h3 | grind)⟩) fu 1 I7 (lit_in rfl) hRI7 (by first | omega | (simp (disch := omega) only [wr32_i2, wdiv_i2, wrem_i2]; omega) | grind | grind [wr32]) (by first | omega | (simp (disch := omega) only [wr32_i2, wdiv_i2, wrem_i2]; omega) | grind | grind [wr32])
  · intro I22  hRI22 x_4
    refine sat_ite (fun q_5 => ?_) (fun q_5 => ?_)
    · exact sat_zr ⟨(lit_in rfl), hRI22, trivial⟩
    · refine sat_ite (fun q_6 => ?_) (fun q_6 => ?_)
      · exact sat_zr ⟨(lit_in rfl), hRI22, trivial⟩
      · refine sat_zl (wr32_in _) (fun x23 hx23 ax23 bx23 => ?_)
        try simp (disch := omega) only [wr32_i2, wdiv_i2, wrem_i2] at hx23
        refine sat_zg (by first | omega | grind | grind [wr32]) (fun g_7 => ?_)
        have ⟨r_8a, r_8b⟩ : -2147483648 ≤ I22 (o0 + 4) x23.toNat ∧ I22 (o0 + 4) x23.toNat < 2147483648 := hRI22.1 (o0 + 4) x23.toNat
        exact sat_zr ⟨(hRI22.1 (o0 + 4) x23.toNat), hRI22, trivial⟩
