/-! safety of the class -/
theorem ok_S_state (fu : Nat) (o0 : Nat) (a1 : Int) (I0 : IMem) (hfu : 5000000000 < fu) (hRI0 : GC I0) (To0 : o0 = 0) (qa1 : inr a1) : sat (f_S_state fu o0 a1 I0) (fun v I => inr v ∧ GC I ∧ (True)) := by
  unfold f_S_state
  obtain ⟨aa1, ba1⟩ := qa1
  have ⟨r_1a, r_1b⟩ : -2147483648 ≤ I0 (o0 + 1) 6 ∧ I0 (o0 + 1) 6 < 2147483648 := hRI0.1 (o0 + 1) 6
  refine sat_zl (hRI0.1 (o0 + 1) 6) (fun x1 hx1 ax1 bx1 => ?_)
  refine sat_zwC hRI0 ⟨aa1, ba1⟩ (by first | omega | grind | grind [wr32]) (fun I2 eI2 hRI2 => ?_)
  exact sat_zr ⟨⟨ax1, bx1⟩, hRI2, trivial⟩
theorem ok_C_clear (fu : Nat) (o0 : Nat) (a1 : Int) (I0 : IMem) (hfu : 5000000000 < fu) (hRI0 : GC I0) (To0 : o0 = 122 ∨ o0 = 130 ∨ o0 = 137) (qa1 : inr a1) : sat (f_C_clear fu o0 a1 I0) (fun v I => inr v ∧ GC I ∧ (True)) := by
  unfold f_C_clear
  obtain ⟨aa1, ba1⟩ := qa1
  refine sat_zb (ok_JA_fillC fu (o0 + 1) 240 0 I0 hfu hRI0 (by omega) (by omega) (lit_in rfl)) (fun u_1 I2 c_2 ⟨⟨au_1, bu_1⟩, hRI2, pI2⟩ => ?_)
  refine sat_zwC hRI2 ⟨aa1, ba1⟩ (by first | omega | grind | grind [wr32]) (fun I4 eI4 hRI4 => ?_)
  refine sat_zwC hRI4 (lit_in rfl) (by first | omega | grind | grind [wr32]) (fun I5 eI5 hRI5 => ?_)
  refine sat_zwC hRI5 (lit_in rfl) (by first | omega | grind | grind [wr32]) (fun I6 eI6 hRI6 => ?_)
  refine sat_zwC hRI6 (lit_in rfl) (by first | omega | grind | grind [wr32]) (fun I7 eI7 hRI7 => ?_)
  refine sat_zwC hRI7 (lit_in rfl) (by first | omega | grind | grind [wr32]) (fun I8 eI8 hRI8 => ?_)
  exact sat_zr ⟨(lit_in rfl), hRI8, trivial⟩
theorem ok_S_canTell (fu : Nat) (a0 : Int) (a1 : Int) (I0 : IMem) (hfu : 5000000000 < fu) (hRI0 : GC I0) (qa0 : inr a0) (qa1 : inr a1) : sat (f_S_canTell fu a0 a1 I0) (fun v I => inr v ∧ GC I ∧ (I = I0 ∧ ((v = 0 ∨ v = 1) ∧ (v = 1 → 0 ≤ a0 ∧ a0 ≤ 5)))) := by
  unfold f_S_canTell
  obtain ⟨aa0, ba0⟩ := qa0
  obtain ⟨aa1, ba1⟩ := qa1
  refine sat_ite (fun q_1 => ?_) (fun q_1 => ?_)
  · exact sat_zr ⟨(lit_in rfl), hRI0, ⟨rfl, (by first | omega | (simp (disch := omega) only [wr32_i2, wdiv_i2, wrem_i2]; omega) | grind | grind [wr32])⟩⟩
  · refine sat_ite (fun q_2 => ?_) (fun q_2 => ?_)
    · exact sat_zr ⟨(lit_in rfl), hRI0, ⟨rfl, (by first | omega | (simp (disch := omega) only [wr32_i2, wdiv_i2, wrem_i2]; omega) | grind | grind [wr32])⟩⟩
    · refine sat_zg (by first | omega | grind | grind [wr32]) (fun g_3 => ?_)
      refine sat_ite (fun q_4 => ?_) (fun q_4 => ?_)
      · exact sat_zr ⟨(lit_in rfl), hRI0, ⟨rfl, (by first | omega | (simp (disch := omega) only [wr32_i2, wdiv_i2, wrem_i2]; omega) | grind | grind [wr32])⟩⟩
      · refine sat_zg (by first | omega | grind | grind [wr32]) (fun g_5 => ?_)
        refine sat_ite (fun q_6 => ?_) (fun q_6 => ?_)
        · exact sat_zr ⟨(lit_in rfl), hRI0, ⟨rfl, (by first | omega | (simp (disch := omega) only [wr32_i2, wdiv_i2, wrem_i2]; omega) | grind | grind [wr32])⟩⟩
        · exact sat_zr ⟨(lit_in rfl), hRI0, ⟨rfl, (by first | omega | (simp (disch := omega) only [wr32_i2, wdiv_i2, wrem_i2]; omega) | grind | grind [wr32])⟩⟩
theorem ok_S_set (fu : Nat) (o0 : Nat) (a1 : Int) (a2 : Int) (I0 : IMem) (hfu : 5000000000 < fu) (hRI0 : GC I0) (To0 : o0 = 0) (qa1 : inr a1) (qa2 : inr a2) : sat (f_S_set fu o0 a1 a2 I0) (fun v I => inr v ∧ GC I ∧ (True)) := by
  unfold f_S_set
  obtain ⟨aa1, ba1⟩ := qa1
  obtain ⟨aa2, ba2⟩ := qa2
  refine sat_zb (ok_S_canTell fu a1 a2 I0 hfu hRI0 ⟨aa1, ba1⟩ ⟨aa2, ba2⟩) (fun y1 I2 c_1 ⟨⟨ay1, by1⟩, _, pI2⟩ => ?_)
  have eI2 := pI2.1.symm; replace pI2 := pI2.2; subst eI2
  refine sat_ite (fun q_2 => ?_) (fun q_2 => ?_)
  · exact sat_zr ⟨(lit_in rfl), hRI0, trivial⟩
  · refine sat_zg (by first | omega | grind | grind [wr32]) (fun g_3 => ?_)
    refine sat_zwC hRI0 ⟨aa2, ba2⟩ (by first | omega | grind | grind [wr32]) (fun I4 eI4 hRI4 => ?_)
    refine sat_ite (fun q_4 => ?_) (fun q_4 => ?_)
    · refine sat_zb (ok_C_clear fu (o0 + 137) a2 I4 hfu hRI4 (by omega) ⟨aa2, ba2⟩) (fun u_5 I6 c_6 ⟨⟨au_5, bu_5⟩, hRI6, pI6⟩ => ?_)
      exact sat_zr ⟨(lit_in rfl), hRI6, trivial⟩
    · exact sat_zr ⟨(lit_in rfl), hRI4, trivial⟩
theorem ok_S_isLine (fu : Nat) (a0 : Int) (I0 : IMem) (hfu : 5000000000 < fu) (hRI0 : GC I0) (qa0 : inr a0) : sat (f_S_isLine fu a0 I0) (fun v I => inr v ∧ GC I ∧ (I = I0 ∧ ((v = 0 ∨ v = 1) ∧ (v = 1 ↔ (0 ≤ a0 ∧ a0 < 6))))) := by
  unfold f_S_isLine
  obtain ⟨aa0, ba0⟩ := qa0
  refine sat_ite (fun q_1 => ?_) (fun q_1 => ?_)
  · exact sat_zr ⟨(lit_in rfl), hRI0, ⟨rfl, (by first | omega | (simp (disch := omega) only [wr32_i2, wdiv_i2, wrem_i2]; omega) | grind | grind [wr32])⟩⟩
  · refine sat_ite (fun q_2 => ?_) (fun q_2 => ?_)
    · exact sat_zr ⟨(lit_in rfl), hRI0, ⟨rfl, (by first | omega | (simp (disch := omega) only [wr32_i2, wdiv_i2, wrem_i2]; omega) | grind | grind [wr32])⟩⟩
    · exact sat_zr ⟨(lit_in rfl), hRI0, ⟨rfl, (by first | omega | (simp (disch := omega) only [wr32_i2, wdiv_i2, wrem_i2]; omega) | grind | grind [wr32])⟩⟩
theorem ok_S_seen (fu : Nat) (o0 : Nat) (a1 : Int) (a2 : Int) (I0 : IMem) (hfu : 5000000000 < fu) (hRI0 : GC I0) (To0 : o0 = 0) (qa1 : inr a1) (qa2 : inr a2) : sat (f_S_seen fu o0 a1 a2 I0) (fun v I => inr v ∧ GC I ∧ (True)) := by
  unfold f_S_seen
  obtain ⟨aa1, ba1⟩ := qa1
  obtain ⟨aa2, ba2⟩ := qa2
  refine sat_zb (ok_S_isLine fu a1 I0 hfu hRI0 ⟨aa1, ba1⟩) (fun y1 I2 c_1 ⟨⟨ay1, by1⟩, _, pI2⟩ => ?_)
  have eI2 := pI2.1.symm; replace pI2 := pI2.2; subst eI2
  refine sat_ite (fun q_2 => ?_) (fun q_2 => ?_)
  · exact sat_zr ⟨(lit_in rfl), hRI0, trivial⟩
  · refine sat_ite (fun q_3 => ?_) (fun q_3 => ?_)
    · exact sat_zr ⟨(lit_in rfl), hRI0, trivial⟩
    · refine sat_ite (fun q_4 => ?_) (fun q_4 => ?_)
      · exact sat_zr ⟨(lit_in rfl), hRI0, trivial⟩
      · refine sat_zg (by first | omega | grind | grind [wr32]) (fun g_5 => ?_)
        refine sat_zwC hRI0 ⟨aa2, ba2⟩ (by first | omega | grind | grind [wr32]) (fun I4 eI4 hRI4 => ?_)
        exact sat_zr ⟨(lit_in rfl), hRI4, trivial⟩
theorem ok_S_parts (fu : Nat) (o0 : Nat) (a1 : Int) (a2 : Int) (I0 : IMem) (hfu : 5000000000 < fu) (hRI0 : GC I0) (To0 : o0 = 0) (qa1 : inr a1) (qa2 : inr a2) : sat (f_S_parts fu o0 a1 a2 I0) (fun v I => inr v ∧ GC I ∧ (True)) := by
  unfold f_S_parts
  obtain ⟨aa1, ba1⟩ := qa1
  obtain ⟨aa2, ba2⟩ := qa2
  refine sat_ite (fun q_1 => ?_) (fun q_1 => ?_)
  · exact sat_zr ⟨(lit_in rfl), hRI0, trivial⟩
  · refine sat_ite (fun q_2 => ?_) (fun q_2 => ?_)
    · exact sat_zr ⟨(lit_in rfl), hRI0, trivial⟩
    · refine sat_ite (fun q_3 => ?_) (fun q_3 => ?_)
      · exact sat_zr ⟨(lit_in rfl), hRI0, trivial⟩
      · refine sat_ite (fun q_4 => ?_) (fun q_4 => ?_)
        · refine sat_zg (by first | omega | grind | grind [wr32]) (fun g_5 => ?_)
          refine sat_zwC hRI0 ⟨aa2, ba2⟩ (by first | omega | grind | grind [wr32]) (fun I1 eI1 hRI1 => ?_)
          exact sat_zr ⟨(lit_in rfl), hRI1, trivial⟩
        · exact sat_zr ⟨(lit_in rfl), hRI0, trivial⟩
theorem ok_H_tellComer (fu : Nat) (o0 : Nat) (a1 : Int) (a2 : Int) (a3 : Int) (a4 : Int) (a5 : Int) (I0 : IMem) (hfu : 5000000000 < fu) (hRI0 : GC I0) (To0 : o0 = 1 ∨ o0 = 41 ∨ o0 = 82) (qa1 : inr a1) (qa2 : inr a2) (qa3 : inr a3) (qa4 : inr a4) (qa5 : inr a5) : sat (f_H_tellComer fu o0 a1 a2 a3 a4 a5 I0) (fun v I => inr v ∧ GC I ∧ (True)) := by
  unfold f_H_tellComer
  obtain ⟨aa1, ba1⟩ := qa1
  obtain ⟨aa2, ba2⟩ := qa2
  obtain ⟨aa3, ba3⟩ := qa3
  obtain ⟨aa4, ba4⟩ := qa4
  obtain ⟨aa5, ba5⟩ := qa5
  refine sat_ite (fun q_1 => ?_) (fun q_1 => ?_)
  · exact sat_zr ⟨(lit_in rfl), hRI0, trivial⟩
  · refine sat_ite (fun q_2 => ?_) (fun q_2 => ?_)
    · refine sat_zl (wr32_in _) (fun x2 hx2 ax2 bx2 => ?_)
      try simp (disch := omega) only [wr32_i2, wdiv_i2, wrem_i2] at hx2
      refine sat_zg (by first | omega | grind | grind [wr32]) (fun g_3 => ?_)
      refine sat_zwC hRI0 ⟨aa2, ba2⟩ (by first | omega | grind | grind [wr32]) (fun I1 eI1 hRI1 => ?_)
      refine sat_zl (wr32_in _) (fun x4 hx4 ax4 bx4 => ?_)
      try simp (disch := omega) only [wr32_i2, wdiv_i2, wrem_i2] at hx4
      refine sat_zg (by first | omega | grind | grind [wr32]) (fun g_4 => ?_)
      refine sat_zwC hRI1 ⟨aa3, ba3⟩ (by first | omega | grind | grind [wr32]) (fun I3 eI3 hRI3 => ?_)
      refine sat_zl (wr32_in _) (fun x6 hx6 ax6 bx6 => ?_)
      try simp (disch := omega) only [wr32_i2, wdiv_i2, wrem_i2] at hx6
      refine sat_zg (by first | omega | grind | grind [wr32]) (fun g_5 => ?_)
      refine sat_zwC hRI3 ⟨aa4, ba4⟩ (by first | omega | grind | grind [wr32]) (fun I5 eI5 hRI5 => ?_)
      refine sat_zl (wr32_in _) (fun x8 hx8 ax8 bx8 => ?_)
      try simp (disch := omega) only [wr32_i2, wdiv_i2, wrem_i2] at hx8
      refine sat_zg (by first | omega | grind | grind [wr32]) (fun g_6 => ?_)
      refine sat_zwC hRI5 ⟨aa5, ba5⟩ (by first | omega | grind | grind [wr32]) (fun I7 eI7 hRI7 => ?_)
      exact sat_zr ⟨(lit_in rfl), hRI7, trivial⟩
    · exact sat_zr ⟨(lit_in rfl), hRI0, trivial⟩
theorem ok_S_canBe (fu : Nat) (a0 : Int) (a1 : Int) (a2 : Int) (I0 : IMem) (hfu : 5000000000 < fu) (hRI0 : GC I0) (qa0 : inr a0) (qa1 : inr a1) (qa2 : inr a2) : sat (f_S_canBe fu a0 a1 a2 I0) (fun v I => inr v ∧ GC I ∧ (I = I0 ∧ (v = 0 ∨ v = 1))) := by
  unfold f_S_canBe
  obtain ⟨aa0, ba0⟩ := qa0
  obtain ⟨aa1, ba1⟩ := qa1
  obtain ⟨aa2, ba2⟩ := qa2
  refine sat_ite (fun q_1 => ?_) (fun q_1 => ?_)
  · exact sat_zr ⟨(lit_in rfl), hRI0, ⟨rfl, (by first | omega | (simp (disch := omega) only [wr32_i2, wdiv_i2, wrem_i2]; omega) | grind | grind [wr32])⟩⟩
  · refine sat_ite (fun q_2 => ?_) (fun q_2 => ?_)
    · exact sat_zr ⟨(lit_in rfl), hRI0, ⟨rfl, (by first | omega | (simp (disch := omega) only [wr32_i2, wdiv_i2, wrem_i2]; omega) | grind | grind [wr32])⟩⟩
    · refine sat_ite (fun q_3 => ?_) (fun q_3 => ?_)
      · exact sat_zr ⟨(lit_in rfl), hRI0, ⟨rfl, (by first | omega | (simp (disch := omega) only [wr32_i2, wdiv_i2, wrem_i2]; omega) | grind | grind [wr32])⟩⟩
      · refine sat_ite (fun q_4 => ?_) (fun q_4 => ?_)
        · exact sat_zr ⟨(lit_in rfl), hRI0, ⟨rfl, (by first | omega | (simp (disch := omega) only [wr32_i2, wdiv_i2, wrem_i2]; omega) | grind | grind [wr32])⟩⟩
        · refine sat_ite (fun q_5 => ?_) (fun q_5 => ?_)
          · exact sat_zr ⟨(lit_in rfl), hRI0, ⟨rfl, (by first | omega | (simp (disch := omega) only [wr32_i2, wdiv_i2, wrem_i2]; omega) | grind | grind [wr32])⟩⟩
          · refine sat_ite (fun q_6 => ?_) (fun q_6 => ?_)
            · exact sat_zr ⟨(lit_in rfl), hRI0, ⟨rfl, (by first | omega | (simp (disch := omega) only [wr32_i2, wdiv_i2, wrem_i2]; omega) | grind | grind [wr32])⟩⟩
            · exact sat_zr ⟨(lit_in rfl), hRI0, ⟨rfl, (by first | omega | (simp (disch := omega) only [wr32_i2, wdiv_i2, wrem_i2]; omega) | grind | grind [wr32])⟩⟩
theorem ok_S_comer (fu : Nat) (o0 : Nat) (a1 : Int) (a2 : Int) (a3 : Int) (a4 : Int) (a5 : Int) (I0 : IMem) (hfu : 5000000000 < fu) (hRI0 : GC I0) (To0 : o0 = 0) (qa1 : inr a1) (qa2 : inr a2) (qa3 : inr a3) (qa4 : inr a4) (qa5 : inr a5) : sat (f_S_comer fu o0 a1 a2 a3 a4 a5 I0) (fun v I => inr v ∧ GC I ∧ (True)) := by
  unfold f_S_comer
  obtain ⟨aa1, ba1⟩ := qa1
  obtain ⟨aa2, ba2⟩ := qa2
  obtain ⟨aa3, ba3⟩ := qa3
  obtain ⟨aa4, ba4⟩ := qa4
  obtain ⟨aa5, ba5⟩ := qa5
  refine sat_ite (fun q_1 => ?_) (fun q_1 => ?_)
  · exact sat_zr ⟨(lit_in rfl), hRI0, trivial⟩
  · refine sat_ite (fun q_2 => ?_) (fun q_2 => ?_)
    · refine sat_zb (ok_S_canBe fu a2 a3 a4 I0 hfu hRI0 ⟨aa2, ba2⟩ ⟨aa3, ba3⟩ ⟨aa4, ba4⟩) (fun y1 I2 c_3 ⟨⟨ay1, by1⟩, _, pI2⟩ => ?_)
      have eI2 := pI2.1.symm; replace pI2 := pI2.2; subst eI2
      refine sat_ite (fun q_4 => ?_) (fun q_4 => ?_)
      · exact sat_zr ⟨(lit_in rfl), hRI0, trivial⟩
      · refine sat_ite (fun q_5 => ?_) (fun q_5 => ?_)
        · exact sat_zr ⟨(lit_in rfl), hRI0, trivial⟩
        · refine sat_ite (fun q_6 => ?_) (fun q_6 => ?_)
          · exact sat_zr ⟨(lit_in rfl), hRI0, trivial⟩
          · refine sat_zb (ok_H_tellComer fu (o0 + 1) a1 a2 a3 a4 a5 I0 hfu hRI0 (by omega) ⟨aa1, ba1⟩ ⟨aa2, ba2⟩ ⟨aa3, ba3⟩ ⟨aa4, ba4⟩ ⟨aa5, ba5⟩) (fun u_7 I5 c_8 ⟨⟨au_7, bu_7⟩, hRI5, pI5⟩ => ?_)
            exact sat_zr ⟨(lit_in rfl), hRI5, trivial⟩
    · exact sat_zr ⟨(lit_in rfl), hRI0, trivial⟩
theorem ok_R_hasRoomForFive (fu : Nat) (o0 : Nat) (I0 : IMem) (hfu : 5000000000 < fu) (hRI0 : GC I0) (To0 : o0 = 144) : sat (f_R_hasRoomForFive fu o0 I0) (fun v I => inr v ∧ GC I ∧ (I = I0 ∧ (True))) := by
  unfold f_R_hasRoomForFive
  have ⟨r_1a, r_1b⟩ : -2147483648 ≤ I0 o0 1 ∧ I0 o0 1 < 2147483648 := hRI0.1 o0 1
  refine sat_ite (fun q_2 => ?_) (fun q_2 => ?_)
  · exact sat_zr ⟨(lit_in rfl), hRI0, ⟨rfl, trivial⟩⟩
  · exact sat_zr ⟨(lit_in rfl), hRI0, ⟨rfl, trivial⟩⟩
theorem ok_R_take_3 (fu : Nat) (o0 : Nat) (p1 : Int) (hfu : 5000000000 < fu) (To0 : o0 = 144) (qp1 : inr p1) {Q_ : Int → IMem → Prop} (hret : ∀ v I, inr v → GC I → (True) → sat (zr v I) Q_) : ∀ (m : Nat) (w2 : Int) (I0 : IMem), inr w2 → GC I0 → (-8 ≤ w2 ∧ w2 ≤ 24) → (w2 + 8).toNat < m → sat (f_R_take_3 fu o0 p1 m w2 I0) Q_ := by
  intro m
  induction m with
  | zero => intro w2 I0 _ _ _ h0; exact absurd h0 (Nat.not_lt_zero _)
  | succ m hR_ =>
    intro w2 I0 ⟨aw2, bw2⟩ hRI0 hinv hmeas
    show sat (fb_R_take_3 fu o0 p1 (f_R_take_3 fu o0 p1 m) w2 I0) Q_
    unfold fb_R_take_3
    obtain ⟨ap1, bp1⟩ := qp1
    refine sat_ite (fun q_1 => ?_) (fun q_1 => ?_)
    · exact hret _ _ (lit_in rfl) hRI0 trivial
    · refine sat_zj (fun k1 ek1 => ?_)
      have hk1 : ∀ (I2 : IMem), GC I2 → (True) → sat (k1 I2) Q_ := by
        intro I2  hRI2 jk1
        subst ek1
        refine sat_zl (wr32_in _) (fun x3 hx3 ax3 bx3 => ?_)
        try simp (disch := omega) only [wr32_i2, wdiv_i2, wrem_i2] at hx3
        exact hR_ x3 I2 ⟨ax3, bx3⟩ hRI2 (by first | omega | (simp (disch := omega) only [wr32_i2, wdiv_i2, wrem_i2]; omega) | grind | grind [wr32]) (by first | omega | (simp (disch := omega) only [wr32_i2, wdiv_i2, wrem_i2]; omega) | grind | grind [wr32])
      clear ek1
      have ⟨r_2a, r_2b⟩ : -2147483648 ≤ I0 o0 1 ∧ I0 o0 1 < 2147483648 := hRI0.1 o0 1
      refine sat_ite (fun q_3 => ?_) (fun q_3 => ?_)
      · exact hk1 I0 hRI0 trivial
      · refine sat_ite (fun q_4 => ?_) (fun q_4 => ?_)
        · refine sat_zl (hRI0.1 o0 1) (fun x5 hx5 ax5 bx5 => ?_)
          refine sat_zg (by first | omega | grind | grind [wr32]) (fun g_5 => ?_)
          refine sat_zwC hRI0 (wand_in _ _) (by first | omega | grind | grind [wr32]) (fun I4 eI4 hRI4 => ?_)
          have ⟨r_6a, r_6b⟩ : -2147483648 ≤ I4 o0 1 ∧ I4 o0 1 < 2147483648 := hRI4.1 o0 1
          refine sat_zwC hRI4 (wr32_in _) (by first | omega | (simp (disch := omega) only [wr32_i2, wdiv_i2, wrem_i2]; omega) | grind | grind [wr32]) (fun I6 eI6 hRI6 => ?_)
          exact hk1 I6 hRI6 trivial
        · exact hk1 I0 hRI0 trivial
theorem ok_R_take (fu : Nat) (o0 : Nat) (a1 : Int) (I0 : IMem) (hfu : 5000000000 < fu) (hRI0 : GC I0) (To0 : o0 = 144) (qa1 : inr a1) : sat (f_R_take fu o0 a1 I0) (fun v I => inr v ∧ GC I ∧ (True)) := by
  unfold f_R_take
  obtain ⟨aa1, ba1⟩ := qa1
  refine ok_R_take_3 fu o0 a1 hfu (by omega) ⟨aa1, ba1⟩ (fun v I h1 h2 h3 => sat_zr ⟨h1, h2, (by first | exact trivial | exact h3 | grind)⟩) fu 24 I0 (lit_in rfl) hRI0 (by first | omega | (simp (disch := omega) only [wr32_i2, wdiv_i2, wrem_i2]; omega) | grind | grind [wr32]) (by first | omega | (simp (disch := omega) only [wr32_i2, wdiv_i2, wrem_i2]; omega) | grind | grind [wr32])
theorem ok_S_feed (fu : Nat) (o0 : Nat) (a1 : Int) (a2 : Int) (a3 : Int) (a4 : Int) (a5 : Int) (I0 : IMem) (hfu : 5000000000 < fu) (hRI0 : GC I0) (To0 : o0 = 0) (qa1 : inr a1) (qa2 : inr a2) (qa3 : inr a3) (qa4 : inr a4) (qa5 : inr a5) : sat (f_S_feed fu o0 a1 a2 a3 a4 a5 I0) (fun v I => inr v ∧ GC I ∧ (True)) := by
  unfold f_S_feed
  obtain ⟨aa1, ba1⟩ := qa1
  obtain ⟨aa2, ba2⟩ := qa2
  obtain ⟨aa3, ba3⟩ := qa3
  obtain ⟨aa4, ba4⟩ := qa4
  obtain ⟨aa5, ba5⟩ := qa5
  refine sat_zb (ok_R_hasRoomForFive fu (o0 + 144) I0 hfu hRI0 (by omega)) (fun y1 I2 c_1 ⟨⟨ay1, by1⟩, _, pI2⟩ => ?_)
  have eI2 := pI2.1.symm; replace pI2 := pI2.2; subst eI2
  refine sat_ite (fun q_2 => ?_) (fun q_2 => ?_)
  · exact sat_zr ⟨(lit_in rfl), hRI0, trivial⟩
  · refine sat_zb (ok_R_take fu (o0 + 144) a1 I0 hfu hRI0 (by omega) ⟨aa1, ba1⟩) (fun u_3 I5 c_4 ⟨⟨au_3, bu_3⟩, hRI5, pI5⟩ => ?_)
    refine sat_zb (ok_R_take fu (o0 + 144) a2 I5 hfu hRI5 (by omega) ⟨aa2, ba2⟩) (fun u_5 I8 c_6 ⟨⟨au_5, bu_5⟩, hRI8, pI8⟩ => ?_)
    refine sat_zb (ok_R_take fu (o0 + 144) a3 I8 hfu hRI8 (by omega) ⟨aa3, ba3⟩) (fun u_7 I11 c_8 ⟨⟨au_7, bu_7⟩, hRI11, pI11⟩ => ?_)
    refine sat_zb (ok_R_take fu (o0 + 144) a4 I11 hfu hRI11 (by omega) ⟨aa4, ba4⟩) (fun u_9 I14 c_10 ⟨⟨au_9, bu_9⟩, hRI14, pI14⟩ => ?_)
    refine sat_zb (ok_R_take fu (o0 + 144) a5 I14 hfu hRI14 (by omega) ⟨aa5, ba5⟩) (fun u_11 I17 c_12 ⟨⟨au_11, bu_11⟩, hRI17, pI17⟩ => ?_)
    have ⟨r_13a, r_13b⟩ : -2147483648 ≤ I17 (o0 + 144) 1 ∧ I17 (o0 + 144) 1 < 2147483648 := hRI17.1 (o0 + 144) 1
    exact sat_zr ⟨(hRI17.1 (o0 + 144) 1), hRI17, trivial⟩
theorem ok_R_cut (fu : Nat) (o0 : Nat) (a1 : Int) (I0 : IMem) (hfu : 5000000000 < fu) (hRI0 : GC I0) (To0 : o0 = 144) (qa1 : inr a1) : sat (f_R_cut fu o0 a1 I0) (fun v I => inr v ∧ GC I ∧ (v = 0 ∨ v = 1)) := by
  unfold f_R_cut
  obtain ⟨aa1, ba1⟩ := qa1
  refine sat_ite (fun q_1 => ?_) (fun q_1 => ?_)
  · exact sat_zr ⟨(lit_in rfl), hRI0, (by first | omega | (simp (disch := omega) only [wr32_i2, wdiv_i2, wrem_i2]; omega) | grind | grind [wr32])⟩
  · have ⟨r_2a, r_2b⟩ : -2147483648 ≤ I0 o0 1 ∧ I0 o0 1 < 2147483648 := hRI0.1 o0 1
    refine sat_ite (fun q_3 => ?_) (fun q_3 => ?_)
    · exact sat_zr ⟨(lit_in rfl), hRI0, (by first | omega | (simp (disch := omega) only [wr32_i2, wdiv_i2, wrem_i2]; omega) | grind | grind [wr32])⟩
    · refine sat_zwC hRI0 ⟨aa1, ba1⟩ (by first | omega | grind | grind [wr32]) (fun I1 eI1 hRI1 => ?_)
      exact sat_zr ⟨(lit_in rfl), hRI1, (by first | omega | (simp (disch := omega) only [wr32_i2, wdiv_i2, wrem_i2]; omega) | grind | grind [wr32])⟩
theorem ok_S_end (fu : Nat) (o0 : Nat) (a1 : Int) (I0 : IMem) (hfu : 5000000000 < fu) (hRI0 : GC I0) (To0 : o0 = 0) (qa1 : inr a1) : sat (f_S_end fu o0 a1 I0) (fun v I => inr v ∧ GC I ∧ (True)) := by
  unfold f_S_end
  obtain ⟨aa1, ba1⟩ := qa1
  refine sat_zb (ok_R_cut fu (o0 + 144) a1 I0 hfu hRI0 (by omega) ⟨aa1, ba1⟩) (fun y1 I2 c_1 ⟨⟨ay1, by1⟩, hRI2, pI2⟩ => ?_)
  refine sat_zg (by first | omega | grind | grind [wr32]) (fun g_2 => ?_)
  exact sat_zr ⟨⟨ay1, by1⟩, hRI2, trivial⟩
theorem ok_R_forget (fu : Nat) (o0 : Nat) (I0 : IMem) (hfu : 5000000000 < fu) (hRI0 : GC I0) (To0 : o0 = 144) : sat (f_R_forget fu o0 I0) (fun v I => inr v ∧ GC I ∧ (True)) := by
  unfold f_R_forget
  refine sat_zwC hRI0 (lit_in rfl) (by first | omega | grind | grind [wr32]) (fun I1 eI1 hRI1 => ?_)
  refine sat_zwC hRI1 (lit_in rfl) (by first | omega | grind | grind [wr32]) (fun I2 eI2 hRI2 => ?_)
  refine sat_zwC hRI2 (lit_in rfl) (by first | omega | grind | grind [wr32]) (fun I3 eI3 hRI3 => ?_)
  exact sat_zr ⟨(lit_in rfl), hRI3, trivial⟩
theorem ok_R_advance (fu : Nat) (o0 : Nat) (I0 : IMem) (hfu : 5000000000 < fu) (hRI0 : GC I0) (To0 : o0 = 144) : sat (f_R_advance fu o0 I0) (fun v I => inr v ∧ GC I ∧ (True)) := by
  unfold f_R_advance
  have ⟨r_1a, r_1b⟩ : -2147483648 ≤ I0 o0 6 ∧ I0 o0 6 < 2147483648 := hRI0.1 o0 6
  refine sat_zl (wr32_in _) (fun x1 hx1 ax1 bx1 => ?_)
  try simp (disch := omega) only [wr32_i2, wdiv_i2, wrem_i2] at hx1
  have ⟨r_2a, r_2b⟩ : -2147483648 ≤ I0 o0 10 ∧ I0 o0 10 < 2147483648 := hRI0.1 o0 10
  refine sat_ite (fun q_3 => ?_) (fun q_3 => ?_)
  · refine sat_ite (fun q_4 => ?_) (fun q_4 => ?_)
    · exact sat_zr ⟨(lit_in rfl), hRI0, trivial⟩
    · refine sat_ite (fun q_5 => ?_) (fun q_5 => ?_)
      · exact sat_zr ⟨(lit_in rfl), hRI0, trivial⟩
      · have ⟨r_6a, r_6b⟩ : -2147483648 ≤ I0 o0 5 ∧ I0 o0 5 < 2147483648 := hRI0.1 o0 5
        refine sat_ite (fun q_7 => ?_) (fun q_7 => ?_)
        · refine sat_zwC hRI0 ⟨ax1, bx1⟩ (by first | omega | grind | grind [wr32]) (fun I2 eI2 hRI2 => ?_)
          refine sat_zg (by first | omega | grind | grind [wr32]) (fun g_8 => ?_)
          have ⟨r_9a, r_9b⟩ : -2147483648 ≤ I2 (o0 + 2) x1.toNat ∧ I2 (o0 + 2) x1.toNat < 2147483648 := hRI2.1 (o0 + 2) x1.toNat
          refine sat_zwC hRI2 (hRI2.1 (o0 + 2) x1.toNat) (by first | omega | grind | grind [wr32]) (fun I3 eI3 hRI3 => ?_)
          refine sat_zg (by first | omega | grind | grind [wr32]) (fun g_10 => ?_)
          have ⟨r_11a, r_11b⟩ : -2147483648 ≤ I3 (o0 + 4) x1.toNat ∧ I3 (o0 + 4) x1.toNat < 2147483648 := hRI3.1 (o0 + 4) x1.toNat
          refine sat_zwC hRI3 (hRI3.1 (o0 + 4) x1.toNat) (by first | omega | grind | grind [wr32]) (fun I4 eI4 hRI4 => ?_)
          exact sat_zr ⟨(lit_in rfl), hRI4, trivial⟩
        · exact sat_zr ⟨(lit_in rfl), hRI0, trivial⟩
  · exact sat_zr ⟨(lit_in rfl), hRI0, trivial⟩
theorem ok_R_fail (fu : Nat) (o0 : Nat) (a1 : Int) (I0 : IMem) (hfu : 5000000000 < fu) (hRI0 : GC I0) (To0 : o0 = 144) (qa1 : inr a1) : sat (f_R_fail fu o0 a1 I0) (fun v I => inr v ∧ GC I ∧ (True)) := by
  unfold f_R_fail
  obtain ⟨aa1, ba1⟩ := qa1
  have ⟨r_1a, r_1b⟩ : -2147483648 ≤ I0 o0 10 ∧ I0 o0 10 < 2147483648 := hRI0.1 o0 10
  refine sat_ite (fun q_2 => ?_) (fun q_2 => ?_)
  · have ⟨r_3a, r_3b⟩ : -2147483648 ≤ I0 o0 6 ∧ I0 o0 6 < 2147483648 := hRI0.1 o0 6
    refine sat_ite (fun q_4 => ?_) (fun q_4 => ?_)
    · exact sat_zr ⟨(lit_in rfl), hRI0, trivial⟩
    · refine sat_ite (fun q_5 => ?_) (fun q_5 => ?_)
      · exact sat_zr ⟨(lit_in rfl), hRI0, trivial⟩
      · refine sat_zwC hRI0 ⟨aa1, ba1⟩ (by first | omega | grind | grind [wr32]) (fun I1 eI1 hRI1 => ?_)
        have ⟨r_6a, r_6b⟩ : -2147483648 ≤ I1 o0 6 ∧ I1 o0 6 < 2147483648 := hRI1.1 o0 6
        refine sat_zl (hRI1.1 o0 6) (fun x2 hx2 ax2 bx2 => ?_)
        refine sat_zg (by first | omega | grind | grind [wr32]) (fun g_7 => ?_)
        have ⟨r_8a, r_8b⟩ : -2147483648 ≤ I1 (o0 + 3) x2.toNat ∧ I1 (o0 + 3) x2.toNat < 2147483648 := hRI1.1 (o0 + 3) x2.toNat
        refine sat_zwC hRI1 (hRI1.1 (o0 + 3) x2.toNat) (by first | omega | grind | grind [wr32]) (fun I3 eI3 hRI3 => ?_)
        exact sat_zr ⟨(lit_in rfl), hRI3, trivial⟩
  · exact sat_zr ⟨(lit_in rfl), hRI0, trivial⟩
theorem ok_R_expect (fu : Nat) (o0 : Nat) (a1 : Int) (I0 : IMem) (hfu : 5000000000 < fu) (hRI0 : GC I0) (To0 : o0 = 144) (qa1 : inr a1) : sat (f_R_expect fu o0 a1 I0) (fun v I => inr v ∧ GC I ∧ (True)) := by
  unfold f_R_expect
  obtain ⟨aa1, ba1⟩ := qa1
  have ⟨r_1a, r_1b⟩ : -2147483648 ≤ I0 o0 7 ∧ I0 o0 7 < 2147483648 := hRI0.1 o0 7
  refine sat_ite (fun q_2 => ?_) (fun q_2 => ?_)
  · refine sat_zb (ok_R_advance fu o0 I0 hfu hRI0 (by omega)) (fun u_3 I5 c_4 ⟨⟨au_3, bu_3⟩, hRI5, pI5⟩ => ?_)
    exact sat_zr ⟨(lit_in rfl), hRI5, trivial⟩
  · refine sat_zb (ok_R_fail fu o0 1 I0 hfu hRI0 (by omega) (lit_in rfl)) (fun u_5 I2 c_6 ⟨⟨au_5, bu_5⟩, hRI2, pI2⟩ => ?_)
    exact sat_zr ⟨(lit_in rfl), hRI2, trivial⟩
theorem ok_W_addStep (fu : Nat) (o0 : Nat) (a1 : Int) (I0 : IMem) (hfu : 5000000000 < fu) (hRI0 : GC I0) (To0 : (16 ≤ o0 ∧ o0 ≤ 36) ∨ (56 ≤ o0 ∧ o0 ≤ 76) ∨ (97 ≤ o0 ∧ o0 ≤ 117) ∨ o0 = 149) (qa1 : inr a1) : sat (f_W_addStep fu o0 a1 I0) (fun v I => inr v ∧ GC I ∧ (True)) := by
  unfold f_W_addStep
  obtain ⟨aa1, ba1⟩ := qa1
  have ⟨r_1a, r_1b⟩ : -2147483648 ≤ I0 o0 1 ∧ I0 o0 1 < 2147483648 := hRI0.1 o0 1
  refine sat_ite (fun q_2 => ?_) (fun q_2 => ?_)
  · exact sat_zr ⟨(lit_in rfl), hRI0, trivial⟩
  · refine sat_ite (fun q_3 => ?_) (fun q_3 => ?_)
    · refine sat_zl (hRI0.1 o0 1) (fun x2 hx2 ax2 bx2 => ?_)
      refine sat_zg (by first | omega | grind | grind [wr32]) (fun g_4 => ?_)
      refine sat_zwC hRI0 ⟨aa1, ba1⟩ (by first | omega | grind | grind [wr32]) (fun I1 eI1 hRI1 => ?_)
      have ⟨r_5a, r_5b⟩ : -2147483648 ≤ I1 o0 1 ∧ I1 o0 1 < 2147483648 := hRI1.1 o0 1
      refine sat_zwC hRI1 (wr32_in _) (by first | omega | (simp (disch := omega) only [wr32_i2, wdiv_i2, wrem_i2]; omega) | grind | grind [wr32]) (fun I3 eI3 hRI3 => ?_)
      exact sat_zr ⟨(lit_in rfl), hRI3, trivial⟩
    · exact sat_zr ⟨(lit_in rfl), hRI0, trivial⟩
theorem ok_R_readDivisor (fu : Nat) (o0 : Nat) (I0 : IMem) (hfu : 5000000000 < fu) (hRI0 : GC I0) (To0 : o0 = 144) : sat (f_R_readDivisor fu o0 I0) (fun v I => inr v ∧ GC I ∧ (True)) := by
  unfold f_R_readDivisor
  have ⟨r_1a, r_1b⟩ : -2147483648 ≤ I0 o0 7 ∧ I0 o0 7 < 2147483648 := hRI0.1 o0 7
  refine sat_ite (fun q_2 => ?_) (fun q_2 => ?_)
  · have ⟨r_3a, r_3b⟩ : -2147483648 ≤ I0 o0 8 ∧ I0 o0 8 < 2147483648 := hRI0.1 o0 8
    refine sat_ite (fun q_4 => ?_) (fun q_4 => ?_)
    · refine sat_zb (ok_R_fail fu o0 2 I0 hfu hRI0 (by omega) (lit_in rfl)) (fun u_5 I11 c_6 ⟨⟨au_5, bu_5⟩, hRI11, pI11⟩ => ?_)
      exact sat_zr ⟨(lit_in rfl), hRI11, trivial⟩
    · refine sat_zb (ok_W_addStep fu (o0 + 5) (I0 o0 8) I0 hfu hRI0 (by omega) (hRI0.1 o0 8)) (fun u_7 I2 c_8 ⟨⟨au_7, bu_7⟩, hRI2, pI2⟩ => ?_)
      refine sat_zb (ok_W_addStep fu (o0 + 5) ((-4)) I2 hfu hRI2 (by omega) (lit_in rfl)) (fun u_9 I5 c_10 ⟨⟨au_9, bu_9⟩, hRI5, pI5⟩ => ?_)
      refine sat_zb (ok_R_advance fu o0 I5 hfu hRI5 (by omega)) (fun u_11 I8 c_12 ⟨⟨au_11, bu_11⟩, hRI8, pI8⟩ => ?_)
      exact sat_zr ⟨(lit_in rfl), hRI8, trivial⟩
  · refine sat_zb (ok_R_fail fu o0 1 I0 hfu hRI0 (by omega) (lit_in rfl)) (fun u_13 I14 c_14 ⟨⟨au_13, bu_13⟩, hRI14, pI14⟩ => ?_)
    exact sat_zr ⟨(lit_in rfl), hRI14, trivial⟩
theorem ok_R_readUnit (fu : Nat) (o0 : Nat) (I0 : IMem) (hfu : 5000000000 < fu) (hRI0 : GC I0) (To0 : o0 = 144) : sat (f_R_readUnit fu o0 I0) (fun v I => inr v ∧ GC I ∧ (True)) := by
  unfold f_R_readUnit
  refine sat_zj (fun k1 ek1 => ?_)
  have hk1 : ∀ (x3 : Int) (I2 : IMem), inr x3 → GC I2 → (I2 = I0 ∧ (True)) → sat (k1 x3 I2) (fun v I => inr v ∧ GC I ∧ (True)) := by
    intro x3 I2 ⟨ax3, bx3⟩ hRI2 jk1
    subst ek1
    have ejk1 := jk1.1.symm; replace jk1 := jk1.2; subst ejk1
    refine sat_zj (fun k4 ek4 => ?_)
    have hk4 : ∀ (x6 : Int) (I5 : IMem), inr x6 → GC I5 → (I5 = I0 ∧ (True)) → sat (k4 x6 I5) (fun v I => inr v ∧ GC I ∧ (True)) := by
      intro x6 I5 ⟨ax6, bx6⟩ hRI5 jk4
      subst ek4
      have ejk4 := jk4.1.symm; replace jk4 := jk4.2; subst ejk4
      have ⟨r_1a, r_1b⟩ : -2147483648 ≤ I0 o0 7 ∧ I0 o0 7 < 2147483648 := hRI0.1 o0 7
      refine sat_ite (fun q_2 => ?_) (fun q_2 => ?_)
      · have ⟨r_5a, r_5b⟩ : -2147483648 ≤ I0 o0 8 ∧ I0 o0 8 < 2147483648 := hRI0.1 o0 8
        refine sat_zb (ok_W_addStep fu (o0 + 5) (I0 o0 8) I0 hfu hRI0 (by omega) (hRI0.1 o0 8)) (fun u_3 I19 c_4 ⟨⟨au_3, bu_3⟩, hRI19, pI19⟩ => ?_)
        refine sat_zb (ok_R_advance fu o0 I19 hfu hRI19 (by omega)) (fun u_6 I22 c_7 ⟨⟨au_6, bu_6⟩, hRI22, pI22⟩ => ?_)
        exact sat_zr ⟨(lit_in rfl), hRI22, trivial⟩
      · refine sat_zj (fun k7 ek7 => ?_)
        have hk7 : ∀ (I8 : IMem), GC I8 → (I8 = I0 ∧ (True)) → sat (k7 I8) (fun v I => inr v ∧ GC I ∧ (True)) := by
          intro I8  hRI8 jk7
          subst ek7
          have ejk7 := jk7.1.symm; replace jk7 := jk7.2; subst ejk7
          refine sat_zb (ok_R_fail fu o0 1 I0 hfu hRI0 (by omega) (lit_in rfl)) (fun u_8 I10 c_9 ⟨⟨au_8, bu_8⟩, hRI10, pI10⟩ => ?_)
          exact sat_zr ⟨(lit_in rfl), hRI10, trivial⟩
        clear ek7
        refine sat_ite (fun q_10 => ?_) (fun q_10 => ?_)
        · exact hk7 I0 hRI0 ⟨rfl, trivial⟩
        · refine sat_ite (fun q_11 => ?_) (fun q_11 => ?_)
          · exact hk7 I0 hRI0 ⟨rfl, trivial⟩
          · refine sat_zb (ok_W_addStep fu (o0 + 5) (wr32 (10000 + (I0 o0 7))) I0 hfu hRI0 (by omega) (wr32_in _)) (fun u_12 I13 c_13 ⟨⟨au_12, bu_12⟩, hRI13, pI13⟩ => ?_)
            refine sat_zb (ok_R_advance fu o0 I13 hfu hRI13 (by omega)) (fun u_14 I16 c_15 ⟨⟨au_14, bu_14⟩, hRI16, pI16⟩ => ?_)
            exact sat_zr ⟨(lit_in rfl), hRI16, trivial⟩
    clear ek4
    have ⟨r_16a, r_16b⟩ : -2147483648 ≤ I0 o0 9 ∧ I0 o0 9 < 2147483648 := hRI0.1 o0 9
    refine sat_ite (fun q_17 => ?_) (fun q_17 => ?_)
    · exact hk4 15 I0 (lit_in rfl) hRI0 ⟨rfl, trivial⟩
    · exact hk4 8 I0 (lit_in rfl) hRI0 ⟨rfl, trivial⟩
  clear ek1
  have ⟨r_18a, r_18b⟩ : -2147483648 ≤ I0 o0 9 ∧ I0 o0 9 < 2147483648 := hRI0.1 o0 9
  refine sat_ite (fun q_19 => ?_) (fun q_19 => ?_)
  · exact hk1 7 I0 (lit_in rfl) hRI0 ⟨rfl, trivial⟩
  · exact hk1 5 I0 (lit_in rfl) hRI0 ⟨rfl, trivial⟩
theorem ok_R_readSum_8 (fu : Nat) (k_121 : Int → IMem → Res) (o0 : Nat) (hfu : 5000000000 < fu) (To0 : o0 = 144) {Q_ : Int → IMem → Prop} (hk_121 : ∀ (z0 : Int) (I9 : IMem), inr z0 → GC I9 → (True) → sat (k_121 z0 I9) Q_) (hret : ∀ v I, inr v → GC I → (True) → sat (zr v I) Q_) : ∀ (m : Nat) (w1 : Int) (w2 : Int) (I0 : IMem), inr w1 → inr w2 → GC I0 → (0 ≤ w2) → (400 - w2).toNat < m → sat (f_R_readSum_8 fu k_121 o0 m w1 w2 I0) Q_ := by
  intro m
  induction m with
  | zero => intro w1 w2 I0 _ _ _ _ h0; exact absurd h0 (Nat.not_lt_zero _)
  | succ m hR_ =>
    intro w1 w2 I0 ⟨aw1, bw1⟩ ⟨aw2, bw2⟩ hRI0 hinv hmeas
    show sat (fb_R_readSum_8 fu k_121 o0 (f_R_readSum_8 fu k_121 o0 m) w1 w2 I0) Q_
    unfold fb_R_readSum_8
    refine sat_ite (fun q_1 => ?_) (fun q_1 => ?_)
    · have ⟨r_2a, r_2b⟩ : -2147483648 ≤ I0 o0 10 ∧ I0 o0 10 < 2147483648 := hRI0.1 o0 10
      refine sat_ite (fun q_3 => ?_) (fun q_3 => ?_)
      · have ⟨r_4a, r_4b⟩ : -2147483648 ≤ I0 o0 7 ∧ I0 o0 7 < 2147483648 := hRI0.1 o0 7
        refine sat_zl (hRI0.1 o0 7) (fun x4 hx4 ax4 bx4 => ?_)
        refine sat_zj (fun k5 ek5 => ?_)
        have hk5 : ∀ (x7 : Int) (I6 : IMem), inr x7 → GC I6 → (True) → sat (k5 x7 I6) Q_ := by
          intro x7 I6 ⟨ax7, bx7⟩ hRI6 jk5
          subst ek5
          refine sat_zl (wr32_in _) (fun x8 hx8 ax8 bx8 => ?_)
          try simp (disch := omega) only [wr32_i2, wdiv_i2, wrem_i2] at hx8
          exact hR_ x7 x8 I6 ⟨ax7, bx7⟩ ⟨ax8, bx8⟩ hRI6 (by first | omega | (simp (disch := omega) only [wr32_i2, wdiv_i2, wrem_i2]; omega) | grind | grind [wr32]) (by first | omega | (simp (disch := omega) only [wr32_i2, wdiv_i2, wrem_i2]; omega) | grind | grind [wr32])
        clear ek5
        refine sat_ite (fun q_5 => ?_) (fun q_5 => ?_)
        · refine sat_zb (ok_R_advance fu o0 I0 hfu hRI0 (by omega)) (fun u_6 I32 c_7 ⟨⟨au_6, bu_6⟩, hRI32, pI32⟩ => ?_)
          refine sat_zb (ok_R_readUnit fu o0 I32 hfu hRI32 (by omega)) (fun u_8 I35 c_9 ⟨⟨au_8, bu_8⟩, hRI35, pI35⟩ => ?_)
          refine sat_zb (ok_W_addStep fu (o0 + 5) ((-3)) I35 hfu hRI35 (by omega) (lit_in rfl)) (fun u_10 I38 c_11 ⟨⟨au_10, bu_10⟩, hRI38, pI38⟩ => ?_)
          exact hk5 w1 I38 ⟨aw1, bw1⟩ hRI38 trivial
        · refine sat_ite (fun q_12 => ?_) (fun q_12 => ?_)
          · refine sat_zb (ok_R_advance fu o0 I0 hfu hRI0 (by omega)) (fun u_13 I26 c_14 ⟨⟨au_13, bu_13⟩, hRI26, pI26⟩ => ?_)
            refine sat_zb (ok_R_readDivisor fu o0 I26 hfu hRI26 (by omega)) (fun u_15 I29 c_16 ⟨⟨au_15, bu_15⟩, hRI29, pI29⟩ => ?_)
            exact hk5 w1 I29 ⟨aw1, bw1⟩ hRI29 trivial
          · refine sat_zj (fun k9 ek9 => ?_)
            have hk9 : ∀ (I10 : IMem), GC I10 → (I10 = I0 ∧ (True)) → sat (k9 I10) Q_ := by
              intro I10  hRI10 jk9
              subst ek9
              have ejk9 := jk9.1.symm; replace jk9 := jk9.2; subst ejk9
              refine sat_zb (ok_R_advance fu o0 I0 hfu hRI0 (by omega)) (fun u_17 I12 c_18 ⟨⟨au_17, bu_17⟩, hRI12, pI12⟩ => ?_)
              refine sat_zj (fun k14 ek14 => ?_)
              have hk14 : ∀ (I15 : IMem), GC I15 → (True) → sat (k14 I15) Q_ := by
                intro I15  hRI15 jk14
                subst ek14
                refine sat_zj (fun k16 ek16 => ?_)
                have hk16 : ∀ (x18 : Int) (I17 : IMem), inr x18 → GC I17 → (I17 = I15 ∧ (True)) → sat (k16 x18 I17) Q_ := by
                  intro x18 I17 ⟨ax18, bx18⟩ hRI17 jk16
                  subst ek16
                  have ejk16 := jk16.1.symm; replace jk16 := jk16.2; subst ejk16
                  refine sat_zb (ok_R_readUnit fu o0 I15 hfu hRI15 (by omega)) (fun u_19 I20 c_20 ⟨⟨au_19, bu_19⟩, hRI20, pI20⟩ => ?_)
                  exact hk5 x18 I20 ⟨ax18, bx18⟩ hRI20 trivial
                clear ek16
                refine sat_ite (fun q_21 => ?_) (fun q_21 => ?_)
                · exact hk16 ((-1)) I15 (lit_in rfl) hRI15 ⟨rfl, trivial⟩
                · exact hk16 ((-2)) I15 (lit_in rfl) hRI15 ⟨rfl, trivial⟩
              clear ek14
              refine sat_ite (fun q_22 => ?_) (fun q_22 => ?_)
              · exact hk14 I12 hRI12 trivial
              · refine sat_zb (ok_W_addStep fu (o0 + 5) w1 I12 hfu hRI12 (by omega) ⟨aw1, bw1⟩) (fun u_23 I23 c_24 ⟨⟨au_23, bu_23⟩, hRI23, pI23⟩ => ?_)
                exact hk14 I23 hRI23 trivial
            clear ek9
            refine sat_ite (fun q_25 => ?_) (fun q_25 => ?_)
            · exact hk9 I0 hRI0 ⟨rfl, trivial⟩
            · refine sat_ite (fun q_26 => ?_) (fun q_26 => ?_)
              · exact hk9 I0 hRI0 ⟨rfl, trivial⟩
              · exact hk_121 w1 I0 ⟨aw1, bw1⟩ hRI0 trivial
      · exact hk_121 w1 I0 ⟨aw1, bw1⟩ hRI0 trivial
    · exact hk_121 w1 I0 ⟨aw1, bw1⟩ hRI0 trivial
theorem ok_R_readSum (fu : Nat) (o0 : Nat) (I0 : IMem) (hfu : 5000000000 < fu) (hRI0 : GC I0) (To0 : o0 = 144) : sat (f_R_readSum fu o0 I0) (fun v I => inr v ∧ GC I ∧ (True)) := by
  unfold f_R_readSum
  refine sat_zb (ok_R_readUnit fu o0 I0 hfu hRI0 (by omega)) (fun u_1 I2 c_2 ⟨⟨au_1, bu_1⟩, hRI2, pI2⟩ => ?_)
  refine ok_R_readSum_8 fu _ o0 hfu (by omega) ?_ (fun v I h1 h2 h3 => sat_zr ⟨h1, h2, (by first | exact trivial | exact h3 | grind)⟩) fu 0 0 I2 (lit_in rfl) (lit_in rfl) hRI2 (by first | omega | (simp (disch := omega) only [wr32_i2, wdiv_i2, wrem_i2]; omega) | grind | grind [wr32]) (by first | omega | (simp (disch := omega) only [wr32_i2, wdiv_i2, wrem_i2]; omega) | grind | grind [wr32])
  · intro x41 I40 ⟨ax41, bx41⟩ hRI40 x_3
    refine sat_ite (fun q_4 => ?_) (fun q_4 => ?_)
    · exact sat_zr ⟨(lit_in rfl), hRI40, trivial⟩
    · refine sat_zb (ok_W_addStep fu (o0 + 5) x41 I40 hfu hRI40 (by omega) ⟨ax41, bx41⟩) (fun u_5 I43 c_6 ⟨⟨au_5, bu_5⟩, hRI43, pI43⟩ => ?_)
      exact sat_zr ⟨(lit_in rfl), hRI43, trivial⟩
theorem ok_R_readEither_9 (fu : Nat) (n : Nat) (R : (Nat → Int → IMem → Res) × (Nat → Int → IMem → Res)) (hR : (∀ (o0 : Nat) (a1 : Int) (I0 : IMem), GC I0 → o0 = 144 → inr a1 → (0 ≤ a1 ∧ a1 ≤ 8 ∧ 2 * (8 - a1) + 2 ≤ (n : Int)) → sat (R.1 o0 a1 I0) (fun v I => inr v ∧ GC I ∧ True)) ∧ (∀ (o0 : Nat) (a1 : Int) (I0 : IMem), GC I0 → o0 = 144 → inr a1 → (0 ≤ a1 ∧ a1 ≤ 8 ∧ 2 * (8 - a1) + 1 ≤ (n : Int)) → sat (R.2 o0 a1 I0) (fun v I => inr v ∧ GC I ∧ True))) (k_106 : Int → IMem → Res) (o0 : Nat) (p1 : Int) (hfu : 5000000000 < fu) (To0 : o0 = 144) (qp1 : inr p1) (hn : 0 ≤ p1 ∧ p1 ≤ 8 ∧ 2 * (8 - p1) + 1 ≤ (n : Int)) {Q_ : Int → IMem → Prop} (hk_106 : ∀ (z0 : Int) (I9 : IMem), inr z0 → GC I9 → (True) → sat (k_106 z0 I9) Q_) (hret : ∀ v I, inr v → GC I → (True) → sat (zr v I) Q_) : ∀ (m : Nat) (w2 : Int) (w3 : Int) (I0 : IMem), inr w2 → inr w3 → GC I0 → (0 ≤ w3) → (400 - w3).toNat < m → sat (f_R_readEither_9 fu R k_106 o0 p1 m w2 w3 I0) Q_ := by
  intro m
  induction m with
  | zero => intro w2 w3 I0 _ _ _ _ h0; exact absurd h0 (Nat.not_lt_zero _)
  | succ m hR_ =>
    intro w2 w3 I0 ⟨aw2, bw2⟩ ⟨aw3, bw3⟩ hRI0 hinv hmeas
    show sat (fb_R_readEither_9 fu R k_106 o0 p1 (f_R_readEither_9 fu R k_106 o0 p1 m) w2 w3 I0) Q_
    unfold fb_R_readEither_9
    obtain ⟨ap1, bp1⟩ := qp1
    refine sat_ite (fun q_1 => ?_) (fun q_1 => ?_)
    · have ⟨r_2a, r_2b⟩ : -2147483648 ≤ I0 o0 10 ∧ I0 o0 10 < 2147483648 := hRI0.1 o0 10
      refine sat_ite (fun q_3 => ?_) (fun q_3 => ?_)
      · refine sat_zj (fun k4 ek4 => ?_)
        have hk4 : ∀ (I5 : IMem), GC I5 → (I5 = I0 ∧ (True)) → sat (k4 I5) Q_ := by
          intro I5  hRI5 jk4
          subst ek4
          have ejk4 := jk4.1.symm; replace jk4 := jk4.2; subst ejk4
          refine sat_zj (fun k6 ek6 => ?_)
          have hk6 : ∀ (x8 : Int) (I7 : IMem), inr x8 → GC I7 → (I7 = I0 ∧ (True)) → sat (k6 x8 I7) Q_ := by
            intro x8 I7 ⟨ax8, bx8⟩ hRI7 jk6
            subst ek6
            have ejk6 := jk6.1.symm; replace jk6 := jk6.2; subst ejk6
            refine sat_zb (ok_R_advance fu o0 I0 hfu hRI0 (by omega)) (fun u_4 I10 c_5 ⟨⟨au_4, bu_4⟩, hRI10, pI10⟩ => ?_)
            refine sat_zj (fun k12 ek12 => ?_)
            have hk12 : ∀ (I13 : IMem), GC I13 → (True) → sat (k12 I13) Q_ := by
              intro I13  hRI13 jk12
              subst ek12
              refine sat_zb (hR.2 o0 p1 I13 hRI13 (by omega) ⟨ap1, bp1⟩ (by first | omega | (simp (disch := omega) only [wr32_i2, wdiv_i2, wrem_i2]; omega) | grind | grind [wr32])) (fun u_6 I15 c_7 ⟨⟨au_6, bu_6⟩, hRI15, pI15⟩ => ?_)
              refine sat_zj (fun k17 ek17 => ?_)
              have hk17 : ∀ (x19 : Int) (I18 : IMem), inr x19 → GC I18 → (True) → sat (k17 x19 I18) Q_ := by
                intro x19 I18 ⟨ax19, bx19⟩ hRI18 jk17
                subst ek17
                refine sat_zl (wr32_in _) (fun x20 hx20 ax20 bx20 => ?_)
                try simp (disch := omega) only [wr32_i2, wdiv_i2, wrem_i2] at hx20
                exact hR_ x19 x20 I18 ⟨ax19, bx19⟩ ⟨ax20, bx20⟩ hRI18 (by first | omega | (simp (disch := omega) only [wr32_i2, wdiv_i2, wrem_i2]; omega) | grind | grind [wr32]) (by first | omega | (simp (disch := omega) only [wr32_i2, wdiv_i2, wrem_i2]; omega) | grind | grind [wr32])
              clear ek17
              refine sat_ite (fun q_8 => ?_) (fun q_8 => ?_)
              · exact hk17 1 I15 (lit_in rfl) hRI15 trivial
              · refine sat_zb (ok_W_addStep fu (o0 + 5) ((-8)) I15 hfu hRI15 (by omega) (lit_in rfl)) (fun u_9 I22 c_10 ⟨⟨au_9, bu_9⟩, hRI22, pI22⟩ => ?_)
                exact hk17 w2 I22 ⟨aw2, bw2⟩ hRI22 trivial
            clear ek12
            refine sat_ite (fun q_11 => ?_) (fun q_11 => ?_)
            · exact hk12 I10 hRI10 trivial
            · refine sat_ite (fun q_12 => ?_) (fun q_12 => ?_)
              · refine sat_zb (ok_W_addStep fu (o0 + 5) ((-9)) I10 hfu hRI10 (by omega) (lit_in rfl)) (fun u_13 I25 c_14 ⟨⟨au_13, bu_13⟩, hRI25, pI25⟩ => ?_)
                exact hk12 I25 hRI25 trivial
              · exact hk12 I10 hRI10 trivial
          clear ek6
          have ⟨r_15a, r_15b⟩ : -2147483648 ≤ I0 o0 7 ∧ I0 o0 7 < 2147483648 := hRI0.1 o0 7
          refine sat_ite (fun q_16 => ?_) (fun q_16 => ?_)
          · exact hk6 1 I0 (lit_in rfl) hRI0 ⟨rfl, trivial⟩
          · exact hk6 0 I0 (lit_in rfl) hRI0 ⟨rfl, trivial⟩
        clear ek4
        have ⟨r_17a, r_17b⟩ : -2147483648 ≤ I0 o0 7 ∧ I0 o0 7 < 2147483648 := hRI0.1 o0 7
        refine sat_ite (fun q_18 => ?_) (fun q_18 => ?_)
        · exact hk4 I0 hRI0 ⟨rfl, trivial⟩
        · refine sat_ite (fun q_19 => ?_) (fun q_19 => ?_)
          · exact hk4 I0 hRI0 ⟨rfl, trivial⟩
          · exact hk_106 w2 I0 ⟨aw2, bw2⟩ hRI0 trivial
      · exact hk_106 w2 I0 ⟨aw2, bw2⟩ hRI0 trivial
    · exact hk_106 w2 I0 ⟨aw2, bw2⟩ hRI0 trivial
theorem ok_gRD (fu : Nat) (hfu : 5000000000 < fu) : ∀ n : Nat, (∀ (o0 : Nat) (a1 : Int) (I0 : IMem), GC I0 → o0 = 144 → inr a1 → (0 ≤ a1 ∧ a1 ≤ 8 ∧ 2 * (8 - a1) + 2 ≤ (n : Int)) → sat ((gRD fu n).1 o0 a1 I0) (fun v I => inr v ∧ GC I ∧ True)) ∧ (∀ (o0 : Nat) (a1 : Int) (I0 : IMem), GC I0 → o0 = 144 → inr a1 → (0 ≤ a1 ∧ a1 ≤ 8 ∧ 2 * (8 - a1) + 1 ≤ (n : Int)) → sat ((gRD fu n).2 o0 a1 I0) (fun v I => inr v ∧ GC I ∧ True)) := by
  intro n
  induction n with
  | zero => exact ⟨fun o0 a1 I0 _ _ _ hn => absurd hn (by omega), fun o0 a1 I0 _ _ _ hn => absurd hn (by omega)⟩
  | succ n hR =>
    refine ⟨?_, ?_⟩
    · intro o0 a1 I0 hRI0 To0 qa1 hn
      show sat (fb_R_readEither fu (gRD fu n) o0 a1 I0) _
      unfold fb_R_readEither
      obtain ⟨aa1, ba1⟩ := qa1
      refine sat_zb (hR.2 o0 a1 I0 hRI0 (by omega) ⟨aa1, ba1⟩ (by first | omega | (simp (disch := omega) only [wr32_i2, wdiv_i2, wrem_i2]; omega) | grind | grind [wr32])) (fun u_1 I2 c_2 ⟨⟨au_1, bu_1⟩, hRI2, pI2⟩ => ?_)
      refine ok_R_readEither_9 fu n _ hR _ o0 a1 hfu (by omega) ⟨aa1, ba1⟩ (by first | omega | (simp (disch := omega) only [wr32_i2, wdiv_i2, wrem_i2]; omega) | grind | grind [wr32]) ?_ (fun v I h1 h2 h3 => sat_zr ⟨h1, h2, (by first | exact trivial | exact h3 | grind)⟩) fu 0 0 I2 (lit_in rfl) (lit_in rfl) hRI2 (by first | omega | (simp (disch := omega) only [wr32_i2, wdiv_i2, wrem_i2]; omega) | grind | grind [wr32]) (by first | omega | (simp (disch := omega) only [wr32_i2, wdiv_i2, wrem_i2]; omega) | grind | grind [wr32])
      · intro x28 I27 ⟨ax28, bx28⟩ hRI27 x_3
        refine sat_ite (fun q_4 => ?_) (fun q_4 => ?_)
        · exact sat_zr ⟨(lit_in rfl), hRI27, trivial⟩
        · refine sat_zb (ok_W_addStep fu (o0 + 5) ((-9)) I27 hfu hRI27 (by omega) (lit_in rfl)) (fun u_5 I30 c_6 ⟨⟨au_5, bu_5⟩, hRI30, pI30⟩ => ?_)
          exact sat_zr ⟨(lit_in rfl), hRI30, trivial⟩
    · intro o0 a1 I0 hRI0 To0 qa1 hn
      show sat (fb_R_readTest fu (gRD fu n) o0 a1 I0) _
      unfold fb_R_readTest
      obtain ⟨aa1, ba1⟩ := qa1
      have ⟨r_1a, r_1b⟩ : -2147483648 ≤ I0 o0 10 ∧ I0 o0 10 < 2147483648 := hRI0.1 o0 10
      refine sat_ite (fun q_2 => ?_) (fun q_2 => ?_)
      · refine sat_zj (fun k1 ek1 => ?_)
        have hk1 : ∀ (x3 : Int) (I2 : IMem), inr x3 → GC I2 → (I2 = I0 ∧ (x3 = 0 → I2 o0 7 ≠ 4 ∧ I2 o0 7 ≠ 40)) → sat (k1 x3 I2) (fun v I => inr v ∧ GC I ∧ (True)) := by
          intro x3 I2 ⟨ax3, bx3⟩ hRI2 jk1
          subst ek1
          have ejk1 := jk1.1.symm; replace jk1 := jk1.2; subst ejk1
          refine sat_zj (fun k4 ek4 => ?_)
          have hk4 : ∀ (I5 : IMem), GC I5 → (I5 = I0 ∧ (a1 < 8 ∨ x3 = 0)) → sat (k4 I5) (fun v I => inr v ∧ GC I ∧ (True)) := by
            intro I5  hRI5 jk4
            subst ek4
            have ejk4 := jk4.1.symm; replace jk4 := jk4.2; subst ejk4
            have ⟨r_3a, r_3b⟩ : -2147483648 ≤ I0 o0 7 ∧ I0 o0 7 < 2147483648 := hRI0.1 o0 7
            refine sat_ite (fun q_4 => ?_) (fun q_4 => ?_)
            · refine sat_zb (ok_R_advance fu o0 I0 hfu hRI0 (by omega)) (fun u_5 I35 c_6 ⟨⟨au_5, bu_5⟩, hRI35, pI35⟩ => ?_)
              refine sat_zb (hR.2 o0 (wr32 (a1 + 1)) I35 hRI35 (by omega) (wr32_in _) (by first | omega | (simp (disch := omega) only [wr32_i2, wdiv_i2, wrem_i2]; omega) | grind | grind [wr32])) (fun u_7 I38 c_8 ⟨⟨au_7, bu_7⟩, hRI38, pI38⟩ => ?_)
              refine sat_zb (ok_W_addStep fu (o0 + 5) ((-10)) I38 hfu hRI38 (by omega) (lit_in rfl)) (fun u_9 I41 c_10 ⟨⟨au_9, bu_9⟩, hRI41, pI41⟩ => ?_)
              exact sat_zr ⟨(lit_in rfl), hRI41, trivial⟩
            · refine sat_ite (fun q_11 => ?_) (fun q_11 => ?_)
              · refine sat_zb (ok_R_readSum fu o0 I0 hfu hRI0 (by omega)) (fun u_12 I7 c_13 ⟨⟨au_12, bu_12⟩, hRI7, pI7⟩ => ?_)
                have ⟨r_14a, r_14b⟩ : -2147483648 ≤ I7 o0 7 ∧ I7 o0 7 < 2147483648 := hRI7.1 o0 7
                refine sat_zl (hRI7.1 o0 7) (fun x9 hx9 ax9 bx9 => ?_)
                refine sat_zj (fun k10 ek10 => ?_)
                have hk10 : ∀ (x12 : Int) (I11 : IMem), inr x12 → GC I11 → (I11 = I7 ∧ (True)) → sat (k10 x12 I11) (fun v I => inr v ∧ GC I ∧ (True)) := by
                  intro x12 I11 ⟨ax12, bx12⟩ hRI11 jk10
                  subst ek10
                  have ejk10 := jk10.1.symm; replace jk10 := jk10.2; subst ejk10
                  refine sat_zb (ok_R_expect fu o0 x12 I7 hfu hRI7 (by omega) ⟨ax12, bx12⟩) (fun u_15 I14 c_16 ⟨⟨au_15, bu_15⟩, hRI14, pI14⟩ => ?_)
                  refine sat_zb (ok_R_readSum fu o0 I14 hfu hRI14 (by omega)) (fun u_17 I17 c_18 ⟨⟨au_17, bu_17⟩, hRI17, pI17⟩ => ?_)
                  refine sat_zj (fun k19 ek19 => ?_)
                  have hk19 : ∀ (x21 : Int) (I20 : IMem), inr x21 → GC I20 → (I20 = I17 ∧ (True)) → sat (k19 x21 I20) (fun v I => inr v ∧ GC I ∧ (True)) := by
                    intro x21 I20 ⟨ax21, bx21⟩ hRI20 jk19
                    subst ek19
                    have ejk19 := jk19.1.symm; replace jk19 := jk19.2; subst ejk19
                    refine sat_zb (ok_W_addStep fu (o0 + 5) x21 I17 hfu hRI17 (by omega) ⟨ax21, bx21⟩) (fun u_19 I23 c_20 ⟨⟨au_19, bu_19⟩, hRI23, pI23⟩ => ?_)
                    exact sat_zr ⟨(lit_in rfl), hRI23, trivial⟩
                  clear ek19
                  refine sat_ite (fun q_21 => ?_) (fun q_21 => ?_)
                  · exact hk19 ((-5)) I17 (lit_in rfl) hRI17 ⟨rfl, trivial⟩
                  · refine sat_ite (fun q_22 => ?_) (fun q_22 => ?_)
                    · exact hk19 ((-7)) I17 (lit_in rfl) hRI17 ⟨rfl, trivial⟩
                    · exact hk19 ((-6)) I17 (lit_in rfl) hRI17 ⟨rfl, trivial⟩
                clear ek10
                refine sat_ite (fun q_23 => ?_) (fun q_23 => ?_)
                · exact hk10 x9 I7 ⟨ax9, bx9⟩ hRI7 ⟨rfl, trivial⟩
                · refine sat_ite (fun q_24 => ?_) (fun q_24 => ?_)
                  · exact hk10 x9 I7 ⟨ax9, bx9⟩ hRI7 ⟨rfl, trivial⟩
                  · exact hk10 61 I7 (lit_in rfl) hRI7 ⟨rfl, trivial⟩
              · refine sat_zb (ok_R_advance fu o0 I0 hfu hRI0 (by omega)) (fun u_25 I26 c_26 ⟨⟨au_25, bu_25⟩, hRI26, pI26⟩ => ?_)
                refine sat_zb (hR.1 o0 (wr32 (a1 + 1)) I26 hRI26 (by omega) (wr32_in _) (by first | omega | (simp (disch := omega) only [wr32_i2, wdiv_i2, wrem_i2]; omega) | grind | grind [wr32])) (fun u_27 I29 c_28 ⟨⟨au_27, bu_27⟩, hRI29, pI29⟩ => ?_)
                refine sat_zb (ok_R_expect fu o0 41 I29 hfu hRI29 (by omega) (lit_in rfl)) (fun u_29 I32 c_30 ⟨⟨au_29, bu_29⟩, hRI32, pI32⟩ => ?_)
                exact sat_zr ⟨(lit_in rfl), hRI32, trivial⟩
          clear ek4
          refine sat_ite (fun q_31 => ?_) (fun q_31 => ?_)
          · exact hk4 I0 hRI0 ⟨rfl, (by first | omega | (simp (disch := omega) only [wr32_i2, wdiv_i2, wrem_i2]; omega) | grind | grind [wr32])⟩
          · refine sat_ite (fun q_32 => ?_) (fun q_32 => ?_)
            · exact hk4 I0 hRI0 ⟨rfl, (by first | omega | (simp (disch := omega) only [wr32_i2, wdiv_i2, wrem_i2]; omega) | grind | grind [wr32])⟩
            · refine sat_zb (ok_R_fail fu o0 3 I0 hfu hRI0 (by omega) (lit_in rfl)) (fun u_33 I44 c_34 ⟨⟨au_33, bu_33⟩, hRI44, pI44⟩ => ?_)
              exact sat_zr ⟨(lit_in rfl), hRI44, trivial⟩
        clear ek1
        have ⟨r_35a, r_35b⟩ : -2147483648 ≤ I0 o0 7 ∧ I0 o0 7 < 2147483648 := hRI0.1 o0 7
        refine sat_ite (fun q_36 => ?_) (fun q_36 => ?_)
        · exact hk1 1 I0 (lit_in rfl) hRI0 ⟨rfl, (by first | omega | (simp (disch := omega) only [wr32_i2, wdiv_i2, wrem_i2]; omega) | grind | grind [wr32])⟩
        · refine sat_ite (fun q_37 => ?_) (fun q_37 => ?_)
          · exact hk1 1 I0 (lit_in rfl) hRI0 ⟨rfl, (by first | omega | (simp (disch := omega) only [wr32_i2, wdiv_i2, wrem_i2]; omega) | grind | grind [wr32])⟩
          · exact hk1 0 I0 (lit_in rfl) hRI0 ⟨rfl, (by first | omega | (simp (disch := omega) only [wr32_i2, wdiv_i2, wrem_i2]; omega) | grind | grind [wr32])⟩
      · exact sat_zr ⟨(lit_in rfl), hRI0, trivial⟩
theorem ok_R_readEither (fu : Nat) (o0 : Nat) (a1 : Int) (I0 : IMem) (hfu : 5000000000 < fu) (hRI0 : GC I0) (To0 : o0 = 144) (qa1 : inr a1) (hn : 0 ≤ a1 ∧ a1 ≤ 8 ∧ 2 * (8 - a1) + 2 ≤ 40) : sat (f_R_readEither fu o0 a1 I0) (fun v I => inr v ∧ GC I ∧ True) := (ok_gRD fu hfu 40).1 o0 a1 I0 hRI0 To0 qa1 hn
theorem ok_R_readTest (fu : Nat) (o0 : Nat) (a1 : Int) (I0 : IMem) (hfu : 5000000000 < fu) (hRI0 : GC I0) (To0 : o0 = 144) (qa1 : inr a1) (hn : 0 ≤ a1 ∧ a1 ≤ 8 ∧ 2 * (8 - a1) + 1 ≤ 40) : sat (f_R_readTest fu o0 a1 I0) (fun v I => inr v ∧ GC I ∧ True) := (ok_gRD fu hfu 40).2 o0 a1 I0 hRI0 To0 qa1 hn
theorem ok_R_readTarget (fu : Nat) (o0 : Nat) (I0 : IMem) (hfu : 5000000000 < fu) (hRI0 : GC I0) (To0 : o0 = 144) : sat (f_R_readTarget fu o0 I0) (fun v I => inr v ∧ GC I ∧ (True)) := by
  unfold f_R_readTarget
  refine sat_zj (fun k1 ek1 => ?_)
  have hk1 : ∀ (I2 : IMem), GC I2 → (True) → sat (k1 I2) (fun v I => inr v ∧ GC I ∧ (True)) := by
    intro I2  hRI2 jk1
    subst ek1
    have ⟨r_3a, r_3b⟩ : -2147483648 ≤ I2 o0 8 ∧ I2 o0 8 < 2147483648 := hRI2.1 o0 8
    refine sat_zb (ok_W_addStep fu (o0 + 5) (I2 o0 8) I2 hfu hRI2 (by omega) (hRI2.1 o0 8)) (fun u_1 I4 c_2 ⟨⟨au_1, bu_1⟩, hRI4, pI4⟩ => ?_)
    refine sat_zb (ok_R_expect fu o0 16 I4 hfu hRI4 (by omega) (lit_in rfl)) (fun u_4 I7 c_5 ⟨⟨au_4, bu_4⟩, hRI7, pI7⟩ => ?_)
    exact sat_zr ⟨(lit_in rfl), hRI7, trivial⟩
  clear ek1
  have ⟨r_6a, r_6b⟩ : -2147483648 ≤ I0 o0 7 ∧ I0 o0 7 < 2147483648 := hRI0.1 o0 7
  refine sat_ite (fun q_7 => ?_) (fun q_7 => ?_)
  · have ⟨r_8a, r_8b⟩ : -2147483648 ≤ I0 o0 8 ∧ I0 o0 8 < 2147483648 := hRI0.1 o0 8
    refine sat_ite (fun q_9 => ?_) (fun q_9 => ?_)
    · exact hk1 I0 hRI0 trivial
    · refine sat_zb (ok_R_fail fu o0 2 I0 hfu hRI0 (by omega) (lit_in rfl)) (fun u_10 I10 c_11 ⟨⟨au_10, bu_10⟩, hRI10, pI10⟩ => ?_)
      exact hk1 I10 hRI10 trivial
  · exact hk1 I0 hRI0 trivial
theorem ok_W_closeLine (fu : Nat) (o0 : Nat) (I0 : IMem) (hfu : 5000000000 < fu) (hRI0 : GC I0) (To0 : (16 ≤ o0 ∧ o0 ≤ 36) ∨ (56 ≤ o0 ∧ o0 ≤ 76) ∨ (97 ≤ o0 ∧ o0 ≤ 117) ∨ o0 = 149) : sat (f_W_closeLine fu o0 I0) (fun v I => inr v ∧ GC I ∧ (True)) := by
  unfold f_W_closeLine
  have ⟨r_1a, r_1b⟩ : -2147483648 ≤ I0 o0 4 ∧ I0 o0 4 < 2147483648 := hRI0.1 o0 4
  refine sat_ite (fun q_2 => ?_) (fun q_2 => ?_)
  · exact sat_zr ⟨(lit_in rfl), hRI0, trivial⟩
  · refine sat_ite (fun q_3 => ?_) (fun q_3 => ?_)
    · refine sat_zwC hRI0 (wr32_in _) (by first | omega | (simp (disch := omega) only [wr32_i2, wdiv_i2, wrem_i2]; omega) | grind | grind [wr32]) (fun I1 eI1 hRI1 => ?_)
      have ⟨r_4a, r_4b⟩ : -2147483648 ≤ I1 o0 4 ∧ I1 o0 4 < 2147483648 := hRI1.1 o0 4
      refine sat_zl (hRI1.1 o0 4) (fun x3 hx3 ax3 bx3 => ?_)
      refine sat_zg (by first | omega | grind | grind [wr32]) (fun g_5 => ?_)
      have ⟨r_6a, r_6b⟩ : -2147483648 ≤ I1 o0 1 ∧ I1 o0 1 < 2147483648 := hRI1.1 o0 1
      refine sat_zwC hRI1 (hRI1.1 o0 1) (by first | omega | grind | grind [wr32]) (fun I2 eI2 hRI2 => ?_)
      exact sat_zr ⟨(lit_in rfl), hRI2, trivial⟩
    · exact sat_zr ⟨(lit_in rfl), hRI0, trivial⟩
theorem ok_W_isFull (fu : Nat) (o0 : Nat) (I0 : IMem) (hfu : 5000000000 < fu) (hRI0 : GC I0) (To0 : (16 ≤ o0 ∧ o0 ≤ 36) ∨ (56 ≤ o0 ∧ o0 ≤ 76) ∨ (97 ≤ o0 ∧ o0 ≤ 117) ∨ o0 = 149) : sat (f_W_isFull fu o0 I0) (fun v I => inr v ∧ GC I ∧ (I = I0 ∧ (True))) := by
  unfold f_W_isFull
  have ⟨r_1a, r_1b⟩ : -2147483648 ≤ I0 o0 4 ∧ I0 o0 4 < 2147483648 := hRI0.1 o0 4
  refine sat_ite (fun q_2 => ?_) (fun q_2 => ?_)
  · exact sat_zr ⟨(lit_in rfl), hRI0, ⟨rfl, trivial⟩⟩
  · exact sat_zr ⟨(lit_in rfl), hRI0, ⟨rfl, trivial⟩⟩
theorem ok_W_startWhen (fu : Nat) (o0 : Nat) (I0 : IMem) (hfu : 5000000000 < fu) (hRI0 : GC I0) (To0 : (16 ≤ o0 ∧ o0 ≤ 36) ∨ (56 ≤ o0 ∧ o0 ≤ 76) ∨ (97 ≤ o0 ∧ o0 ≤ 117) ∨ o0 = 149) : sat (f_W_startWhen fu o0 I0) (fun v I => inr v ∧ GC I ∧ (True)) := by
  unfold f_W_startWhen
  have ⟨r_1a, r_1b⟩ : -2147483648 ≤ I0 o0 4 ∧ I0 o0 4 < 2147483648 := hRI0.1 o0 4
  refine sat_ite (fun q_2 => ?_) (fun q_2 => ?_)
  · exact sat_zr ⟨(lit_in rfl), hRI0, trivial⟩
  · refine sat_ite (fun q_3 => ?_) (fun q_3 => ?_)
    · refine sat_zl (hRI0.1 o0 4) (fun x2 hx2 ax2 bx2 => ?_)
      refine sat_zg (by first | omega | grind | grind [wr32]) (fun g_4 => ?_)
      have ⟨r_5a, r_5b⟩ : -2147483648 ≤ I0 o0 1 ∧ I0 o0 1 < 2147483648 := hRI0.1 o0 1
      refine sat_zwC hRI0 (hRI0.1 o0 1) (by first | omega | grind | grind [wr32]) (fun I1 eI1 hRI1 => ?_)
      exact sat_zr ⟨(lit_in rfl), hRI1, trivial⟩
    · exact sat_zr ⟨(lit_in rfl), hRI0, trivial⟩
theorem ok_R_readLine (fu : Nat) (o0 : Nat) (I0 : IMem) (hfu : 5000000000 < fu) (hRI0 : GC I0) (To0 : o0 = 144) : sat (f_R_readLine fu o0 I0) (fun v I => inr v ∧ GC I ∧ (True)) := by
  unfold f_R_readLine
  refine sat_zj (fun k1 ek1 => ?_)
  have hk1 : ∀ (x3 : Int) (I2 : IMem), inr x3 → GC I2 → (I2 = I0 ∧ (True)) → sat (k1 x3 I2) (fun v I => inr v ∧ GC I ∧ (True)) := by
    intro x3 I2 ⟨ax3, bx3⟩ hRI2 jk1
    subst ek1
    have ejk1 := jk1.1.symm; replace jk1 := jk1.2; subst ejk1
    refine sat_zj (fun k4 ek4 => ?_)
    have hk4 : ∀ (I5 : IMem), GC I5 → (True) → sat (k4 I5) (fun v I => inr v ∧ GC I ∧ (True)) := by
      intro I5  hRI5 jk4
      subst ek4
      refine sat_zb (ok_R_expect fu o0 x3 I5 hfu hRI5 (by omega) ⟨ax3, bx3⟩) (fun u_1 I7 c_2 ⟨⟨au_1, bu_1⟩, hRI7, pI7⟩ => ?_)
      refine sat_zj (fun k9 ek9 => ?_)
      have hk9 : ∀ (I10 : IMem), GC I10 → (True) → sat (k9 I10) (fun v I => inr v ∧ GC I ∧ (True)) := by
        intro I10  hRI10 jk9
        subst ek9
        refine sat_zb (ok_W_startWhen fu (o0 + 5) I10 hfu hRI10 (by omega)) (fun u_3 I12 c_4 ⟨⟨au_3, bu_3⟩, hRI12, pI12⟩ => ?_)
        refine sat_zj (fun k14 ek14 => ?_)
        have hk14 : ∀ (I15 : IMem), GC I15 → (True) → sat (k14 I15) (fun v I => inr v ∧ GC I ∧ (True)) := by
          intro I15  hRI15 jk14
          subst ek14
          refine sat_zb (ok_R_expect fu o0 59 I15 hfu hRI15 (by omega) (lit_in rfl)) (fun u_5 I17 c_6 ⟨⟨au_5, bu_5⟩, hRI17, pI17⟩ => ?_)
          refine sat_zb (ok_W_closeLine fu (o0 + 5) I17 hfu hRI17 (by omega)) (fun u_7 I20 c_8 ⟨⟨au_7, bu_7⟩, hRI20, pI20⟩ => ?_)
          exact sat_zr ⟨(lit_in rfl), hRI20, trivial⟩
        clear ek14
        refine sat_zj (fun k22 ek22 => ?_)
        have hk22 : ∀ (I23 : IMem), GC I23 → (I23 = I12 ∧ (True)) → sat (k22 I23) (fun v I => inr v ∧ GC I ∧ (True)) := by
          intro I23  hRI23 jk22
          subst ek22
          have ejk22 := jk22.1.symm; replace jk22 := jk22.2; subst ejk22
          refine sat_zb (ok_R_expect fu o0 1 I12 hfu hRI12 (by omega) (lit_in rfl)) (fun u_9 I25 c_10 ⟨⟨au_9, bu_9⟩, hRI25, pI25⟩ => ?_)
          refine sat_zb (ok_R_readEither fu o0 0 I25 hfu hRI25 (by omega) (lit_in rfl) (by first | omega | (simp (disch := omega) only [wr32_i2, wdiv_i2, wrem_i2]; omega) | grind | grind [wr32])) (fun u_11 I28 c_12 ⟨⟨au_11, bu_11⟩, hRI28, pI28⟩ => ?_)
          exact hk14 I28 hRI28 trivial
        clear ek22
        have ⟨r_13a, r_13b⟩ : -2147483648 ≤ I12 o0 9 ∧ I12 o0 9 < 2147483648 := hRI12.1 o0 9
        refine sat_ite (fun q_14 => ?_) (fun q_14 => ?_)
        · have ⟨r_15a, r_15b⟩ : -2147483648 ≤ I12 o0 7 ∧ I12 o0 7 < 2147483648 := hRI12.1 o0 7
          refine sat_ite (fun q_16 => ?_) (fun q_16 => ?_)
          · exact hk22 I12 hRI12 ⟨rfl, trivial⟩
          · exact hk14 I12 hRI12 trivial
        · exact hk22 I12 hRI12 ⟨rfl, trivial⟩
      clear ek9
      have ⟨r_17a, r_17b⟩ : -2147483648 ≤ I7 o0 9 ∧ I7 o0 9 < 2147483648 := hRI7.1 o0 9
      refine sat_ite (fun q_18 => ?_) (fun q_18 => ?_)
      · refine sat_zb (ok_R_readSum fu o0 I7 hfu hRI7 (by omega)) (fun u_19 I31 c_20 ⟨⟨au_19, bu_19⟩, hRI31, pI31⟩ => ?_)
        exact hk9 I31 hRI31 trivial
      · refine sat_zb (ok_R_readTarget fu o0 I7 hfu hRI7 (by omega)) (fun u_21 I34 c_22 ⟨⟨au_21, bu_21⟩, hRI34, pI34⟩ => ?_)
        exact hk9 I34 hRI34 trivial
    clear ek4
    have ⟨r_23a, r_23b⟩ : -2147483648 ≤ I0 o0 7 ∧ I0 o0 7 < 2147483648 := hRI0.1 o0 7
    refine sat_ite (fun q_24 => ?_) (fun q_24 => ?_)
    · refine sat_zb (ok_W_isFull fu (o0 + 5) I0 hfu hRI0 (by omega)) (fun y36 I37 c_25 ⟨⟨ay36, by36⟩, _, pI37⟩ => ?_)
      have eI37 := pI37.1.symm; replace pI37 := pI37.2; subst eI37
      refine sat_ite (fun q_26 => ?_) (fun q_26 => ?_)
      · exact hk4 I0 hRI0 trivial
      · refine sat_zb (ok_R_fail fu o0 3 I0 hfu hRI0 (by omega) (lit_in rfl)) (fun u_27 I40 c_28 ⟨⟨au_27, bu_27⟩, hRI40, pI40⟩ => ?_)
        exact hk4 I40 hRI40 trivial
    · exact hk4 I0 hRI0 trivial
  clear ek1
  have ⟨r_29a, r_29b⟩ : -2147483648 ≤ I0 o0 9 ∧ I0 o0 9 < 2147483648 := hRI0.1 o0 9
  refine sat_ite (fun q_30 => ?_) (fun q_30 => ?_)
  · exact hk1 0 I0 (lit_in rfl) hRI0 ⟨rfl, trivial⟩
  · exact hk1 11 I0 (lit_in rfl) hRI0 ⟨rfl, trivial⟩
theorem ok_R_addToken (fu : Nat) (o0 : Nat) (a1 : Int) (a2 : Int) (a3 : Int) (I0 : IMem) (hfu : 5000000000 < fu) (hRI0 : GC I0) (To0 : o0 = 144) (qa1 : inr a1) (qa2 : inr a2) (qa3 : inr a3) : sat (f_R_addToken fu o0 a1 a2 a3 I0) (fun v I => inr v ∧ GC I ∧ (True)) := by
  unfold f_R_addToken
  obtain ⟨aa1, ba1⟩ := qa1
  obtain ⟨aa2, ba2⟩ := qa2
  obtain ⟨aa3, ba3⟩ := qa3
  have ⟨r_1a, r_1b⟩ : -2147483648 ≤ I0 o0 5 ∧ I0 o0 5 < 2147483648 := hRI0.1 o0 5
  refine sat_ite (fun q_2 => ?_) (fun q_2 => ?_)
  · exact sat_zr ⟨(lit_in rfl), hRI0, trivial⟩
  · refine sat_ite (fun q_3 => ?_) (fun q_3 => ?_)
    · exact sat_zr ⟨(lit_in rfl), hRI0, trivial⟩
    · refine sat_zl (hRI0.1 o0 5) (fun x2 hx2 ax2 bx2 => ?_)
      refine sat_zg (by first | omega | grind | grind [wr32]) (fun g_4 => ?_)
      refine sat_zwC hRI0 ⟨aa1, ba1⟩ (by first | omega | grind | grind [wr32]) (fun I1 eI1 hRI1 => ?_)
      have ⟨r_5a, r_5b⟩ : -2147483648 ≤ I1 o0 5 ∧ I1 o0 5 < 2147483648 := hRI1.1 o0 5
      refine sat_zl (hRI1.1 o0 5) (fun x4 hx4 ax4 bx4 => ?_)
      refine sat_zg (by first | omega | grind | grind [wr32]) (fun g_6 => ?_)
      refine sat_zwC hRI1 ⟨aa2, ba2⟩ (by first | omega | grind | grind [wr32]) (fun I3 eI3 hRI3 => ?_)
      have ⟨r_7a, r_7b⟩ : -2147483648 ≤ I3 o0 5 ∧ I3 o0 5 < 2147483648 := hRI3.1 o0 5
      refine sat_zl (hRI3.1 o0 5) (fun x6 hx6 ax6 bx6 => ?_)
      refine sat_zg (by first | omega | grind | grind [wr32]) (fun g_8 => ?_)
      refine sat_zwC hRI3 ⟨aa3, ba3⟩ (by first | omega | grind | grind [wr32]) (fun I5 eI5 hRI5 => ?_)
      have ⟨r_9a, r_9b⟩ : -2147483648 ≤ I5 o0 5 ∧ I5 o0 5 < 2147483648 := hRI5.1 o0 5
      refine sat_zwC hRI5 (wr32_in _) (by first | omega | (simp (disch := omega) only [wr32_i2, wdiv_i2, wrem_i2]; omega) | grind | grind [wr32]) (fun I7 eI7 hRI7 => ?_)
      exact sat_zr ⟨(lit_in rfl), hRI7, trivial⟩
theorem ok_R_isDigit (fu : Nat) (a0 : Int) (I0 : IMem) (hfu : 5000000000 < fu) (hRI0 : GC I0) (qa0 : inr a0) : sat (f_R_isDigit fu a0 I0) (fun v I => inr v ∧ GC I ∧ (I = I0 ∧ (True))) := by
  unfold f_R_isDigit
  obtain ⟨aa0, ba0⟩ := qa0
  refine sat_ite (fun q_1 => ?_) (fun q_1 => ?_)
  · exact sat_zr ⟨(lit_in rfl), hRI0, ⟨rfl, trivial⟩⟩
  · refine sat_ite (fun q_2 => ?_) (fun q_2 => ?_)
    · exact sat_zr ⟨(lit_in rfl), hRI0, ⟨rfl, trivial⟩⟩
    · exact sat_zr ⟨(lit_in rfl), hRI0, ⟨rfl, trivial⟩⟩
theorem ok_R_isLetter (fu : Nat) (a0 : Int) (I0 : IMem) (hfu : 5000000000 < fu) (hRI0 : GC I0) (qa0 : inr a0) : sat (f_R_isLetter fu a0 I0) (fun v I => inr v ∧ GC I ∧ (I = I0 ∧ (True))) := by
  unfold f_R_isLetter
  obtain ⟨aa0, ba0⟩ := qa0
  refine sat_zj (fun k1 ek1 => ?_)
  have hk1 : ∀ (I2 : IMem), GC I2 → (I2 = I0 ∧ (True)) → sat (k1 I2) (fun v I => inr v ∧ GC I ∧ (I = I0 ∧ (True))) := by
    intro I2  hRI2 jk1
    subst ek1
    have ejk1 := jk1.1.symm; replace jk1 := jk1.2; subst ejk1
    refine sat_ite (fun q_1 => ?_) (fun q_1 => ?_)
    · exact sat_zr ⟨(lit_in rfl), hRI0, ⟨rfl, trivial⟩⟩
    · refine sat_ite (fun q_2 => ?_) (fun q_2 => ?_)
      · exact sat_zr ⟨(lit_in rfl), hRI0, ⟨rfl, trivial⟩⟩
      · exact sat_zr ⟨(lit_in rfl), hRI0, ⟨rfl, trivial⟩⟩
  clear ek1
  refine sat_ite (fun q_3 => ?_) (fun q_3 => ?_)
  · exact hk1 I0 hRI0 ⟨rfl, trivial⟩
  · refine sat_ite (fun q_4 => ?_) (fun q_4 => ?_)
    · exact hk1 I0 hRI0 ⟨rfl, trivial⟩
    · exact sat_zr ⟨(lit_in rfl), hRI0, ⟨rfl, trivial⟩⟩
theorem ok_R_numberAt_9 {Ib : IMem} (fu : Nat) (o0 : Nat) (p2 : Int) (hfu : 5000000000 < fu) (To0 : o0 = 144) (qp2 : inr p2) {Q_ : Int → IMem → Prop} (hret : ∀ v I, inr v → GC I → (I = Ib ∧ (True)) → sat (zr v I) Q_) : ∀ (m : Nat) (w3 : Int) (w4 : Int) (I0 : IMem), inr w3 → inr w4 → GC I0 → (I0 = Ib ∧ (0 ≤ w4)) → (p2 - w4).toNat < m → sat (f_R_numberAt_9 fu o0 p2 m w3 w4 I0) Q_ := by
  intro m
  induction m with
  | zero => intro w3 w4 I0 _ _ _ _ h0; exact absurd h0 (Nat.not_lt_zero _)
  | succ m hR_ =>
    intro w3 w4 I0 ⟨aw3, bw3⟩ ⟨aw4, bw4⟩ hRI0 hinv hmeas
    have einv := hinv.1; replace hinv := hinv.2; subst einv
    show sat (fb_R_numberAt_9 fu o0 p2 (f_R_numberAt_9 fu o0 p2 m) w3 w4 I0) Q_
    unfold fb_R_numberAt_9
    obtain ⟨ap2, bp2⟩ := qp2
    refine sat_ite (fun q_1 => ?_) (fun q_1 => ?_)
    · refine sat_ite (fun q_2 => ?_) (fun q_2 => ?_)
      · refine sat_zg (by first | omega | grind | grind [wr32]) (fun g_3 => ?_)
        have ⟨r_4a, r_4b⟩ : -2147483648 ≤ I0 (o0 + 1) w4.toNat ∧ I0 (o0 + 1) w4.toNat < 2147483648 := hRI0.1 (o0 + 1) w4.toNat
        refine sat_zl (wr32_in _) (fun x4 hx4 ax4 bx4 => ?_)
        try simp (disch := omega) only [wr32_i2, wdiv_i2, wrem_i2] at hx4
        refine sat_zl (wr32_in _) (fun x5 hx5 ax5 bx5 => ?_)
        try simp (disch := omega) only [wr32_i2, wdiv_i2, wrem_i2] at hx5
        exact hR_ x4 x5 I0 ⟨ax4, bx4⟩ ⟨ax5, bx5⟩ hRI0 ⟨rfl, (by first | omega | (simp (disch := omega) only [wr32_i2, wdiv_i2, wrem_i2]; omega) | grind | grind [wr32])⟩ (by first | omega | (simp (disch := omega) only [wr32_i2, wdiv_i2, wrem_i2]; omega) | grind | grind [wr32])
      · exact hret _ _ ⟨aw3, bw3⟩ hRI0 ⟨rfl, trivial⟩
    · exact hret _ _ ⟨aw3, bw3⟩ hRI0 ⟨rfl, trivial⟩
theorem ok_R_numberAt (fu : Nat) (o0 : Nat) (a1 : Int) (a2 : Int) (I0 : IMem) (hfu : 5000000000 < fu) (hRI0 : GC I0) (To0 : o0 = 144) (qa1 : inr a1) (qa2 : inr a2) : sat (f_R_numberAt fu o0 a1 a2 I0) (fun v I => inr v ∧ GC I ∧ (I = I0 ∧ (True))) := by
  unfold f_R_numberAt
  obtain ⟨aa1, ba1⟩ := qa1
  obtain ⟨aa2, ba2⟩ := qa2
  refine sat_zb (ok_JM_max fu a1 0 I0 hfu hRI0.1 ⟨aa1, ba1⟩ (lit_in rfl)) (fun y1 I2 c_1 ⟨⟨ay1, by1⟩, _, pI2⟩ => ?_)
  have eI2 := pI2.1.symm; replace pI2 := pI2.2; subst eI2
  refine ok_R_numberAt_9 (Ib := I0) fu o0 a2 hfu (by omega) ⟨aa2, ba2⟩ (fun v I h1 h2 h3 => sat_zr ⟨h1, h2, ⟨h3.1, (by have h4 := h3.2; first | exact trivial | exact h4 | omega | grind)⟩⟩) fu 0 y1 I0 (lit_in rfl) ⟨ay1, by1⟩ hRI0 ⟨rfl, (by first | omega | (simp (disch := omega) only [wr32_i2, wdiv_i2, wrem_i2]; omega) | grind | grind [wr32])⟩ (by first | omega | (simp (disch := omega) only [wr32_i2, wdiv_i2, wrem_i2]; omega) | grind | grind [wr32])
theorem ok_R_wordAt_11 {Ib : IMem} (fu : Nat) (o0 : Nat) (p1 : Int) (p2 : Int) (hfu : 5000000000 < fu) (To0 : o0 = 144) (qp1 : inr p1) (qp2 : inr p2) {Q_ : Int → IMem → Prop} (hret : ∀ v I, inr v → GC I → (I = Ib ∧ (True)) → sat (zr v I) Q_) : ∀ (m : Nat) (w3 : Int) (w4 : Int) (w5 : Int) (w6 : Int) (I0 : IMem), inr w3 → inr w4 → inr w5 → inr w6 → GC I0 → (I0 = Ib ∧ (0 ≤ w6)) → (86 - w6).toNat < m → sat (f_R_wordAt_11 fu o0 p1 p2 m w3 w4 w5 w6 I0) Q_ := by
  intro m
  induction m with
  | zero => intro w3 w4 w5 w6 I0 _ _ _ _ _ _ h0; exact absurd h0 (Nat.not_lt_zero _)
  | succ m hR_ =>
    intro w3 w4 w5 w6 I0 ⟨aw3, bw3⟩ ⟨aw4, bw4⟩ ⟨aw5, bw5⟩ ⟨aw6, bw6⟩ hRI0 hinv hmeas
    have einv := hinv.1; replace hinv := hinv.2; subst einv
    show sat (fb_R_wordAt_11 fu o0 p1 p2 (f_R_wordAt_11 fu o0 p1 p2 m) w3 w4 w5 w6 I0) Q_
    unfold fb_R_wordAt_11
    obtain ⟨ap1, bp1⟩ := qp1
    obtain ⟨ap2, bp2⟩ := qp2
    refine sat_zb (ok_JS_length fu 0 I0 hfu hRI0.1 (by omega)) (fun y1 I2 c_1 ⟨⟨ay1, by1⟩, _, pI2⟩ => ?_)
    have eI2 := pI2.1.symm; replace pI2 := pI2.2; subst eI2
    have ly1 := lz0; have my1 := lz1
    refine sat_ite (fun q_2 => ?_) (fun q_2 => ?_)
    · refine sat_zb (ok_JS_charAt fu 0 w6 I0 hfu hRI0.1 (by omega) ⟨aw6, bw6⟩ (by first | omega | (simp (disch := omega) only [wr32_i2, wdiv_i2, wrem_i2]; omega) | grind | grind [wr32])) (fun y4 I5 c_3 ⟨⟨ay4, by4⟩, _, pI5⟩ => ?_)
      have eI5 := pI5.1.symm; replace pI5 := pI5.2; subst eI5
      refine sat_zj (fun k7 ek7 => ?_)
      have hk7 : ∀ (x9 : Int) (x10 : Int) (x11 : Int) (I8 : IMem), inr x9 → inr x10 → inr x11 → GC I8 → (I8 = I0 ∧ (True)) → sat (k7 x9 x10 x11 I8) Q_ := by
        intro x9 x10 x11 I8 ⟨ax9, bx9⟩ ⟨ax10, bx10⟩ ⟨ax11, bx11⟩ hRI8 jk7
        subst ek7
        have ejk7 := jk7.1.symm; replace jk7 := jk7.2; subst ejk7
        refine sat_zl (wr32_in _) (fun x12 hx12 ax12 bx12 => ?_)
        try simp (disch := omega) only [wr32_i2, wdiv_i2, wrem_i2] at hx12
        exact hR_ x9 x10 x11 x12 I0 ⟨ax9, bx9⟩ ⟨ax10, bx10⟩ ⟨ax11, bx11⟩ ⟨ax12, bx12⟩ hRI0 ⟨rfl, (by first | omega | (simp (disch := omega) only [wr32_i2, wdiv_i2, wrem_i2]; omega) | grind | grind [wr32])⟩ (by first | omega | (simp (disch := omega) only [wr32_i2, wdiv_i2, wrem_i2]; omega) | grind | grind [wr32])
      clear ek7
      refine sat_ite (fun q_4 => ?_) (fun q_4 => ?_)
      · refine sat_zj (fun k14 ek14 => ?_)
        have hk14 : ∀ (I15 : IMem), GC I15 → (I15 = I0 ∧ (True)) → sat (k14 I15) Q_ := by
          intro I15  hRI15 jk14
          subst ek14
          have ejk14 := jk14.1.symm; replace jk14 := jk14.2; subst ejk14
          refine sat_zl (wr32_in _) (fun x16 hx16 ax16 bx16 => ?_)
          try simp (disch := omega) only [wr32_i2, wdiv_i2, wrem_i2] at hx16
          exact hk7 x16 p1 1 I0 ⟨ax16, bx16⟩ ⟨ap1, bp1⟩ (lit_in rfl) hRI0 ⟨rfl, trivial⟩
        clear ek14
        refine sat_ite (fun q_5 => ?_) (fun q_5 => ?_)
        · exact hk14 I0 hRI0 ⟨rfl, trivial⟩
        · refine sat_ite (fun q_6 => ?_) (fun q_6 => ?_)
          · exact hret _ _ ⟨aw3, bw3⟩ hRI0 ⟨rfl, trivial⟩
          · exact hk14 I0 hRI0 ⟨rfl, trivial⟩
      · refine sat_ite (fun q_7 => ?_) (fun q_7 => ?_)
        · exact hk7 w3 w4 0 I0 ⟨aw3, bw3⟩ ⟨aw4, bw4⟩ (lit_in rfl) hRI0 ⟨rfl, trivial⟩
        · refine sat_ite (fun q_8 => ?_) (fun q_8 => ?_)
          · exact hk7 w3 w4 0 I0 ⟨aw3, bw3⟩ ⟨aw4, bw4⟩ (lit_in rfl) hRI0 ⟨rfl, trivial⟩
          · refine sat_ite (fun q_9 => ?_) (fun q_9 => ?_)
            · refine sat_ite (fun q_10 => ?_) (fun q_10 => ?_)
              · refine sat_zg (by first | omega | grind | grind [wr32]) (fun g_11 => ?_)
                have ⟨r_12a, r_12b⟩ : -2147483648 ≤ I0 (o0 + 1) w4.toNat ∧ I0 (o0 + 1) w4.toNat < 2147483648 := hRI0.1 (o0 + 1) w4.toNat
                refine sat_ite (fun q_13 => ?_) (fun q_13 => ?_)
                · refine sat_zl (wr32_in _) (fun x13 hx13 ax13 bx13 => ?_)
                  try simp (disch := omega) only [wr32_i2, wdiv_i2, wrem_i2] at hx13
                  exact hk7 w3 x13 w5 I0 ⟨aw3, bw3⟩ ⟨ax13, bx13⟩ ⟨aw5, bw5⟩ hRI0 ⟨rfl, trivial⟩
                · exact hk7 w3 w4 0 I0 ⟨aw3, bw3⟩ ⟨aw4, bw4⟩ (lit_in rfl) hRI0 ⟨rfl, trivial⟩
              · exact hk7 w3 w4 0 I0 ⟨aw3, bw3⟩ ⟨aw4, bw4⟩ (lit_in rfl) hRI0 ⟨rfl, trivial⟩
            · exact hk7 w3 w4 0 I0 ⟨aw3, bw3⟩ ⟨aw4, bw4⟩ (lit_in rfl) hRI0 ⟨rfl, trivial⟩
    · exact hret _ _ (lit_in rfl) hRI0 ⟨rfl, trivial⟩
theorem ok_R_wordAt (fu : Nat) (o0 : Nat) (a1 : Int) (a2 : Int) (I0 : IMem) (hfu : 5000000000 < fu) (hRI0 : GC I0) (To0 : o0 = 144) (qa1 : inr a1) (qa2 : inr a2) : sat (f_R_wordAt fu o0 a1 a2 I0) (fun v I => inr v ∧ GC I ∧ (I = I0 ∧ (True))) := by
  unfold f_R_wordAt
  obtain ⟨aa1, ba1⟩ := qa1
  obtain ⟨aa2, ba2⟩ := qa2
  refine ok_R_wordAt_11 (Ib := I0) fu o0 a1 a2 hfu (by omega) ⟨aa1, ba1⟩ ⟨aa2, ba2⟩ (fun v I h1 h2 h3 => sat_zr ⟨h1, h2, ⟨h3.1, (by have h4 := h3.2; first | exact trivial | exact h4 | omega | grind)⟩⟩) fu 0 a1 1 0 I0 (lit_in rfl) ⟨aa1, ba1⟩ (lit_in rfl) (lit_in rfl) hRI0 ⟨rfl, (by first | omega | (simp (disch := omega) only [wr32_i2, wdiv_i2, wrem_i2]; omega) | grind | grind [wr32])⟩ (by first | omega | (simp (disch := omega) only [wr32_i2, wdiv_i2, wrem_i2]; omega) | grind | grind [wr32])
theorem ok_R_scan_96 {Ib : IMem} (fu : Nat) (k_129 : Int → IMem → Res) (o0 : Nat) (p2 : Int) (hfu : 5000000000 < fu) (To0 : o0 = 144) (qp2 : inr p2) {Q_ : Int → IMem → Prop} (hk_129 : ∀ (z0 : Int) (I9 : IMem), inr z0 → GC I9 → (I9 = Ib ∧ (p2 < z0)) → sat (k_129 z0 I9) Q_) (hret : ∀ v I, inr v → GC I → (I = Ib ∧ (True)) → sat (zr v I) Q_) : ∀ (m : Nat) (w1 : Int) (I0 : IMem), inr w1 → GC I0 → (I0 = Ib ∧ (0 ≤ w1 ∧ p2 < w1)) → (2147483648 - w1).toNat < m → sat (f_R_scan_96 fu k_129 o0 p2 m w1 I0) Q_ := by
  intro m
  induction m with
  | zero => intro w1 I0 _ _ _ h0; exact absurd h0 (Nat.not_lt_zero _)
  | succ m hR_ =>
    intro w1 I0 ⟨aw1, bw1⟩ hRI0 hinv hmeas
    have einv := hinv.1; replace hinv := hinv.2; subst einv
    show sat (fb_R_scan_96 fu k_129 o0 p2 (f_R_scan_96 fu k_129 o0 p2 m) w1 I0) Q_
    unfold fb_R_scan_96
    obtain ⟨ap2, bp2⟩ := qp2
    have ⟨r_1a, r_1b⟩ : -2147483648 ≤ I0 o0 1 ∧ I0 o0 1 < 2147483648 := hRI0.1 o0 1
    refine sat_ite (fun q_2 => ?_) (fun q_2 => ?_)
    · refine sat_ite (fun q_3 => ?_) (fun q_3 => ?_)
      · refine sat_zg (by first | omega | grind | grind [wr32]) (fun g_4 => ?_)
        have ⟨r_6a, r_6b⟩ : -2147483648 ≤ I0 (o0 + 1) w1.toNat ∧ I0 (o0 + 1) w1.toNat < 2147483648 := hRI0.1 (o0 + 1) w1.toNat
        refine sat_zb (ok_R_isDigit fu (I0 (o0 + 1) w1.toNat) I0 hfu hRI0 (hRI0.1 (o0 + 1) w1.toNat)) (fun y19 I20 c_5 ⟨⟨ay19, by19⟩, _, pI20⟩ => ?_)
        have eI20 := pI20.1.symm; replace pI20 := pI20.2; subst eI20
        refine sat_ite (fun q_7 => ?_) (fun q_7 => ?_)
        · exact hk_129 w1 I0 ⟨aw1, bw1⟩ hRI0 ⟨rfl, (by first | omega | (simp (disch := omega) only [wr32_i2, wdiv_i2, wrem_i2]; omega) | grind | grind [wr32])⟩
        · refine sat_zl (wr32_in _) (fun x22 hx22 ax22 bx22 => ?_)
          try simp (disch := omega) only [wr32_i2, wdiv_i2, wrem_i2] at hx22
          exact hR_ x22 I0 ⟨ax22, bx22⟩ hRI0 ⟨rfl, (by first | omega | (simp (disch := omega) only [wr32_i2, wdiv_i2, wrem_i2]; omega) | grind | grind [wr32])⟩ (by first | omega | (simp (disch := omega) only [wr32_i2, wdiv_i2, wrem_i2]; omega) | grind | grind [wr32])
      · exact hk_129 w1 I0 ⟨aw1, bw1⟩ hRI0 ⟨rfl, (by first | omega | (simp (disch := omega) only [wr32_i2, wdiv_i2, wrem_i2]; omega) | grind | grind [wr32])⟩
    · exact hk_129 w1 I0 ⟨aw1, bw1⟩ hRI0 ⟨rfl, (by first | omega | (simp (disch := omega) only [wr32_i2, wdiv_i2, wrem_i2]; omega) | grind | grind [wr32])⟩
theorem ok_R_scan_41 {Ib : IMem} (fu : Nat) (k_74 : Int → IMem → Res) (o0 : Nat) (p2 : Int) (hfu : 5000000000 < fu) (To0 : o0 = 144) (qp2 : inr p2) {Q_ : Int → IMem → Prop} (hk_74 : ∀ (z0 : Int) (I9 : IMem), inr z0 → GC I9 → (I9 = Ib ∧ (p2 < z0)) → sat (k_74 z0 I9) Q_) (hret : ∀ v I, inr v → GC I → (I = Ib ∧ (True)) → sat (zr v I) Q_) : ∀ (m : Nat) (w1 : Int) (I0 : IMem), inr w1 → GC I0 → (I0 = Ib ∧ (0 ≤ w1 ∧ p2 < w1)) → (2147483648 - w1).toNat < m → sat (f_R_scan_41 fu k_74 o0 p2 m w1 I0) Q_ := by
  intro m
  induction m with
  | zero => intro w1 I0 _ _ _ h0; exact absurd h0 (Nat.not_lt_zero _)
  | succ m hR_ =>
    intro w1 I0 ⟨aw1, bw1⟩ hRI0 hinv hmeas
    have einv := hinv.1; replace hinv := hinv.2; subst einv
    show sat (fb_R_scan_41 fu k_74 o0 p2 (f_R_scan_41 fu k_74 o0 p2 m) w1 I0) Q_
    unfold fb_R_scan_41
    obtain ⟨ap2, bp2⟩ := qp2
    have ⟨r_1a, r_1b⟩ : -2147483648 ≤ I0 o0 1 ∧ I0 o0 1 < 2147483648 := hRI0.1 o0 1
    refine sat_ite (fun q_2 => ?_) (fun q_2 => ?_)
    · refine sat_ite (fun q_3 => ?_) (fun q_3 => ?_)
      · refine sat_zg (by first | omega | grind | grind [wr32]) (fun g_4 => ?_)
        have ⟨r_6a, r_6b⟩ : -2147483648 ≤ I0 (o0 + 1) w1.toNat ∧ I0 (o0 + 1) w1.toNat < 2147483648 := hRI0.1 (o0 + 1) w1.toNat
        refine sat_zb (ok_R_isLetter fu (I0 (o0 + 1) w1.toNat) I0 hfu hRI0 (hRI0.1 (o0 + 1) w1.toNat)) (fun y34 I35 c_5 ⟨⟨ay34, by34⟩, _, pI35⟩ => ?_)
        have eI35 := pI35.1.symm; replace pI35 := pI35.2; subst eI35
        refine sat_ite (fun q_7 => ?_) (fun q_7 => ?_)
        · exact hk_74 w1 I0 ⟨aw1, bw1⟩ hRI0 ⟨rfl, (by first | omega | (simp (disch := omega) only [wr32_i2, wdiv_i2, wrem_i2]; omega) | grind | grind [wr32])⟩
        · refine sat_zl (wr32_in _) (fun x37 hx37 ax37 bx37 => ?_)
          try simp (disch := omega) only [wr32_i2, wdiv_i2, wrem_i2] at hx37
          exact hR_ x37 I0 ⟨ax37, bx37⟩ hRI0 ⟨rfl, (by first | omega | (simp (disch := omega) only [wr32_i2, wdiv_i2, wrem_i2]; omega) | grind | grind [wr32])⟩ (by first | omega | (simp (disch := omega) only [wr32_i2, wdiv_i2, wrem_i2]; omega) | grind | grind [wr32])
      · exact hk_74 w1 I0 ⟨aw1, bw1⟩ hRI0 ⟨rfl, (by first | omega | (simp (disch := omega) only [wr32_i2, wdiv_i2, wrem_i2]; omega) | grind | grind [wr32])⟩
    · exact hk_74 w1 I0 ⟨aw1, bw1⟩ hRI0 ⟨rfl, (by first | omega | (simp (disch := omega) only [wr32_i2, wdiv_i2, wrem_i2]; omega) | grind | grind [wr32])⟩
