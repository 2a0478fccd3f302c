/-! safety of the reference -/
theorem ok_X_state (fu : Nat) (o0 : Nat) (a1 : Int) (I0 : IMem) (hfu : 5000000000 < fu) (hRI0 : GX o0 I0) (qa1 : inr a1) : sat (f_X_state fu o0 a1 I0) (fun v I => inr v ∧ GX o0 I ∧ (True)) := by
  unfold f_X_state
  obtain ⟨aa1, ba1⟩ := qa1
  have ⟨r_1a, r_1b⟩ : -2147483648 ≤ I0 (o0 + 1) 0 ∧ I0 (o0 + 1) 0 < 2147483648 := hRI0.1 (o0 + 1) 0
  refine sat_zl (hRI0.1 (o0 + 1) 0) (fun x1 hx1 ax1 bx1 => ?_)
  refine sat_zwX1 hRI0 ⟨aa1, ba1⟩ (cw_lit rfl) (fun I2 eI2 hRI2 => ?_)
  exact sat_zr ⟨⟨ax1, bx1⟩, hRI2, trivial⟩
theorem ok_X_forgets_2 {Ib : IMem} (fu : Nat) (k_22 : IMem → Res) (o0 : Nat) (hfu : 5000000000 < fu) {Q_ : Int → IMem → Prop} (hk_22 : ∀ (I9 : IMem), GX o0 I9 → ((∀ q j, ¬ (q = o0 + 13) → I9 q j = Ib q j) ∧ (∀ k : Nat, k < 240 → I9 (o0 + 13) k = 0)) → sat (k_22 I9) Q_) (hret : ∀ v I, inr v → GX o0 I → ((∀ q j, ¬ (q = o0 + 13) → I q j = Ib q j) ∧ (False)) → sat (zr v I) Q_) : ∀ (m : Nat) (w1 : Int) (I0 : IMem), inr w1 → GX o0 I0 → ((∀ q j, ¬ (q = o0 + 13) → I0 q j = Ib q j) ∧ (0 ≤ w1 ∧ w1 ≤ 240 ∧ ∀ k : Nat, (k : Int) < w1 → I0 (o0 + 13) k = 0)) → (240 - w1).toNat < m → sat (f_X_forgets_2 fu k_22 o0 m w1 I0) Q_ := by
  intro m
  induction m with
  | zero => intro w1 I0 _ _ _ h0; exact absurd h0 (Nat.not_lt_zero _)
  | succ m hR_ =>
    intro w1 I0 ⟨aw1, bw1⟩ hRI0 hinv hmeas
    have fI0 := hinv.1; replace hinv := hinv.2
    show sat (fb_X_forgets_2 fu k_22 o0 (f_X_forgets_2 fu k_22 o0 m) w1 I0) Q_
    unfold fb_X_forgets_2
    refine sat_ite (fun q_1 => ?_) (fun q_1 => ?_)
    · refine sat_zg (by first | omega | grind | grind [wr32]) (fun g_2 => ?_)
      refine sat_zwXn (c := 13) hRI0 (lit_in rfl) (by decide) (by first | omega | (simp (disch := omega) only [wr32_i2, wdiv_i2, wrem_i2]; omega) | grind | grind [wr32]) (fun I1 eI1 hRI1 => ?_)
      refine sat_zl (wr32_in _) (fun x2 hx2 ax2 bx2 => ?_)
      try simp (disch := omega) only [wr32_i2, wdiv_i2, wrem_i2] at hx2
      exact hR_ x2 I1 ⟨ax2, bx2⟩ hRI1 ⟨(by intro q j hq; grind), (by first | omega | (simp (disch := omega) only [wr32_i2, wdiv_i2, wrem_i2]; omega) | grind | grind [wr32])⟩ (by first | omega | (simp (disch := omega) only [wr32_i2, wdiv_i2, wrem_i2]; omega) | grind | grind [wr32])
    · exact hk_22 I0 hRI0 ⟨(by intro q j hq; grind), (by first | omega | (simp (disch := omega) only [wr32_i2, wdiv_i2, wrem_i2]; omega) | grind | grind [wr32])⟩
theorem ok_X_forgets (fu : Nat) (o0 : Nat) (I0 : IMem) (hfu : 5000000000 < fu) (hRI0 : GX o0 I0) : sat (f_X_forgets fu o0 I0) (fun v I => inr v ∧ GX o0 I ∧ (I o0 35 = 0 ∧ ∀ k : Nat, k < 240 → I (o0 + 13) k = 0)) := by
  unfold f_X_forgets
  refine ok_X_forgets_2 (Ib := I0) fu _ o0 hfu ?_ (fun v I h1 h2 h3 => sat_zr ⟨h1, h2, (by first | exact h3.elim | exact h3.2.elim)⟩) fu 0 I0 (lit_in rfl) hRI0 ⟨(fun _ _ _ => rfl), (by first | omega | (simp (disch := omega) only [wr32_i2, wdiv_i2, wrem_i2]; omega) | grind | grind [wr32])⟩ (by first | omega | (simp (disch := omega) only [wr32_i2, wdiv_i2, wrem_i2]; omega) | grind | grind [wr32])
  · intro I3  hRI3 xI3
    have fI3 := xI3.1; replace xI3 := xI3.2
    refine sat_zwX0 hRI3 (lit_in rfl) (by first | omega | (simp (disch := omega) only [wr32_i2, wdiv_i2, wrem_i2]; omega) | grind | grind [wr32]) (fun I4 eI4 hRI4 => ?_)
    exact sat_zr ⟨(lit_in rfl), hRI4, (by first | omega | (simp (disch := omega) only [wr32_i2, wdiv_i2, wrem_i2]; omega) | grind | grind [wr32])⟩
theorem ok_X_isIn (fu : Nat) (a0 : Int) (a1 : Int) (a2 : Int) (I0 : IMem) (hfu : 5000000000 < fu) (hRI0 : RG I0) (qa0 : inr a0) (qa1 : inr a1) (qa2 : inr a2) : sat (f_X_isIn fu a0 a1 a2 I0) (fun v I => inr v ∧ RG I ∧ (I = I0 ∧ ((v = 0 ∨ v = 1) ∧ (v = 1 ↔ (a1 ≤ a0 ∧ a0 ≤ a2))))) := by
  unfold f_X_isIn
  obtain ⟨aa0, ba0⟩ := qa0
  obtain ⟨aa1, ba1⟩ := qa1
  obtain ⟨aa2, ba2⟩ := qa2
  refine sat_ite (fun q_1 => ?_) (fun q_1 => ?_)
  · exact sat_zr ⟨(lit_in rfl), hRI0, ⟨rfl, (by first | omega | (simp (disch := omega) only [wr32_i2, wdiv_i2, wrem_i2]; omega) | grind | grind [wr32])⟩⟩
  · refine sat_ite (fun q_2 => ?_) (fun q_2 => ?_)
    · exact sat_zr ⟨(lit_in rfl), hRI0, ⟨rfl, (by first | omega | (simp (disch := omega) only [wr32_i2, wdiv_i2, wrem_i2]; omega) | grind | grind [wr32])⟩⟩
    · exact sat_zr ⟨(lit_in rfl), hRI0, ⟨rfl, (by first | omega | (simp (disch := omega) only [wr32_i2, wdiv_i2, wrem_i2]; omega) | grind | grind [wr32])⟩⟩
theorem ok_X_set (fu : Nat) (o0 : Nat) (a1 : Int) (a2 : Int) (I0 : IMem) (hfu : 5000000000 < fu) (hRI0 : GX o0 I0) (qa1 : inr a1) (qa2 : inr a2) : sat (f_X_set fu o0 a1 a2 I0) (fun v I => inr v ∧ GX o0 I ∧ (True)) := by
  unfold f_X_set
  obtain ⟨aa1, ba1⟩ := qa1
  obtain ⟨aa2, ba2⟩ := qa2
  refine sat_zj (fun k1 ek1 => ?_)
  have hk1 : ∀ (x3 : Int) (I2 : IMem), inr x3 → GX o0 I2 → (I2 = I0 ∧ (x3 = 0 ∨ (a1 = 0 ∧ 2 ≤ a2 ∧ a2 ≤ 8) ∨ (1 ≤ a1 ∧ a1 ≤ 4) ∨ (a1 = 5 ∧ 0 ≤ a2 ∧ a2 ≤ 3))) → sat (k1 x3 I2) (fun v I => inr v ∧ GX o0 I ∧ (True)) := by
    intro x3 I2 ⟨ax3, bx3⟩ hRI2 jk1
    subst ek1
    have ejk1 := jk1.1.symm; replace jk1 := jk1.2; subst ejk1
    refine sat_ite (fun q_1 => ?_) (fun q_1 => ?_)
    · exact sat_zr ⟨(lit_in rfl), hRI0, trivial⟩
    · refine sat_zl (wr32_in _) (fun x5 hx5 ax5 bx5 => ?_)
      try simp (disch := omega) only [wr32_i2, wdiv_i2, wrem_i2] at hx5
      refine sat_zg (by first | omega | grind | grind [wr32]) (fun g_2 => ?_)
      refine sat_zwX1 hRI0 ⟨aa2, ba2⟩ (by rcases jk1 with q | q | q | q; exact absurd q q_1; exact cw_1 (by omega); exact cw_f1 (by omega); exact cw_6 (by omega)) (fun I4 eI4 hRI4 => ?_)
      refine sat_ite (fun q_3 => ?_) (fun q_3 => ?_)
      · refine sat_zb (ok_X_forgets fu o0 I4 hfu hRI4 ) (fun u_4 I7 c_5 ⟨⟨au_4, bu_4⟩, hRI7, pI7⟩ => ?_)
        have fI7 : ∀ q j, ¬ (q = o0 + 13 ∨ (q = o0 ∧ j = 35)) → I7 q j = I4 q j := fc_X_forgets (fun q j => q = o0 + 13 ∨ (q = o0 ∧ j = 35)) fu o0 I4 (fun _ => by simp) (by simp) c_5
        exact sat_zr ⟨(lit_in rfl), hRI7, trivial⟩
      · exact sat_zr ⟨(lit_in rfl), hRI4, trivial⟩
  clear ek1
  refine sat_ite (fun q_6 => ?_) (fun q_6 => ?_)
  · refine sat_zb (ok_X_isIn fu a2 2 8 I0 hfu hRI0.1 ⟨aa2, ba2⟩ (lit_in rfl) (lit_in rfl)) (fun y24 I25 c_7 ⟨⟨ay24, by24⟩, _, pI25⟩ => ?_)
    have eI25 := pI25.1.symm; replace pI25 := pI25.2; subst eI25
    exact hk1 y24 I0 ⟨ay24, by24⟩ hRI0 ⟨rfl, (by first | omega | (simp (disch := omega) only [wr32_i2, wdiv_i2, wrem_i2]; omega) | grind | grind [wr32])⟩
  · refine sat_ite (fun q_8 => ?_) (fun q_8 => ?_)
    · refine sat_zb (ok_X_isIn fu a2 1 99 I0 hfu hRI0.1 ⟨aa2, ba2⟩ (lit_in rfl) (lit_in rfl)) (fun y21 I22 c_9 ⟨⟨ay21, by21⟩, _, pI22⟩ => ?_)
      have eI22 := pI22.1.symm; replace pI22 := pI22.2; subst eI22
      exact hk1 y21 I0 ⟨ay21, by21⟩ hRI0 ⟨rfl, (by first | omega | (simp (disch := omega) only [wr32_i2, wdiv_i2, wrem_i2]; omega) | grind | grind [wr32])⟩
    · refine sat_ite (fun q_10 => ?_) (fun q_10 => ?_)
      · refine sat_zb (ok_X_isIn fu a2 0 999 I0 hfu hRI0.1 ⟨aa2, ba2⟩ (lit_in rfl) (lit_in rfl)) (fun y18 I19 c_11 ⟨⟨ay18, by18⟩, _, pI19⟩ => ?_)
        have eI19 := pI19.1.symm; replace pI19 := pI19.2; subst eI19
        exact hk1 y18 I0 ⟨ay18, by18⟩ hRI0 ⟨rfl, (by first | omega | (simp (disch := omega) only [wr32_i2, wdiv_i2, wrem_i2]; omega) | grind | grind [wr32])⟩
      · refine sat_ite (fun q_12 => ?_) (fun q_12 => ?_)
        · refine sat_zb (ok_X_isIn fu a2 0 1000 I0 hfu hRI0.1 ⟨aa2, ba2⟩ (lit_in rfl) (lit_in rfl)) (fun y15 I16 c_13 ⟨⟨ay15, by15⟩, _, pI16⟩ => ?_)
          have eI16 := pI16.1.symm; replace pI16 := pI16.2; subst eI16
          exact hk1 y15 I0 ⟨ay15, by15⟩ hRI0 ⟨rfl, (by first | omega | (simp (disch := omega) only [wr32_i2, wdiv_i2, wrem_i2]; omega) | grind | grind [wr32])⟩
        · refine sat_ite (fun q_14 => ?_) (fun q_14 => ?_)
          · refine sat_zb (ok_X_isIn fu a2 0 99 I0 hfu hRI0.1 ⟨aa2, ba2⟩ (lit_in rfl) (lit_in rfl)) (fun y12 I13 c_15 ⟨⟨ay12, by12⟩, _, pI13⟩ => ?_)
            have eI13 := pI13.1.symm; replace pI13 := pI13.2; subst eI13
            exact hk1 y12 I0 ⟨ay12, by12⟩ hRI0 ⟨rfl, (by first | omega | (simp (disch := omega) only [wr32_i2, wdiv_i2, wrem_i2]; omega) | grind | grind [wr32])⟩
          · refine sat_ite (fun q_16 => ?_) (fun q_16 => ?_)
            · refine sat_zb (ok_X_isIn fu a2 0 3 I0 hfu hRI0.1 ⟨aa2, ba2⟩ (lit_in rfl) (lit_in rfl)) (fun y9 I10 c_17 ⟨⟨ay9, by9⟩, _, pI10⟩ => ?_)
              have eI10 := pI10.1.symm; replace pI10 := pI10.2; subst eI10
              refine sat_ite (fun q_18 => ?_) (fun q_18 => ?_)
              · exact hk1 0 I0 (lit_in rfl) hRI0 ⟨rfl, (by first | omega | (simp (disch := omega) only [wr32_i2, wdiv_i2, wrem_i2]; omega) | grind | grind [wr32])⟩
              · exact hk1 1 I0 (lit_in rfl) hRI0 ⟨rfl, (by first | omega | (simp (disch := omega) only [wr32_i2, wdiv_i2, wrem_i2]; omega) | grind | grind [wr32])⟩
            · exact hk1 0 I0 (lit_in rfl) hRI0 ⟨rfl, (by first | omega | (simp (disch := omega) only [wr32_i2, wdiv_i2, wrem_i2]; omega) | grind | grind [wr32])⟩
theorem ok_X_isLine (fu : Nat) (a0 : Int) (I0 : IMem) (hfu : 5000000000 < fu) (hRI0 : RG I0) (qa0 : inr a0) : sat (f_X_isLine fu a0 I0) (fun v I => inr v ∧ RG I ∧ (I = I0 ∧ ((v = 0 ∨ v = 1) ∧ (v = 1 ↔ (0 ≤ a0 ∧ a0 ≤ 5))))) := by
  unfold f_X_isLine
  obtain ⟨aa0, ba0⟩ := qa0
  refine sat_zb (ok_X_isIn fu a0 0 5 I0 hfu hRI0 ⟨aa0, ba0⟩ (lit_in rfl) (lit_in rfl)) (fun y1 I2 c_1 ⟨⟨ay1, by1⟩, _, pI2⟩ => ?_)
  have eI2 := pI2.1.symm; replace pI2 := pI2.2; subst eI2
  refine sat_zg (by first | omega | grind | grind [wr32]) (fun g_2 => ?_)
  exact sat_zr ⟨⟨ay1, by1⟩, hRI0, ⟨rfl, (by first | omega | (simp (disch := omega) only [wr32_i2, wdiv_i2, wrem_i2]; omega) | grind | grind [wr32])⟩⟩
theorem ok_X_seen (fu : Nat) (o0 : Nat) (a1 : Int) (a2 : Int) (I0 : IMem) (hfu : 5000000000 < fu) (hRI0 : GX o0 I0) (qa1 : inr a1) (qa2 : inr a2) : sat (f_X_seen fu o0 a1 a2 I0) (fun v I => inr v ∧ GX o0 I ∧ (True)) := by
  unfold f_X_seen
  obtain ⟨aa1, ba1⟩ := qa1
  obtain ⟨aa2, ba2⟩ := qa2
  refine sat_zb (ok_X_isLine fu a1 I0 hfu hRI0.1 ⟨aa1, ba1⟩) (fun y1 I2 c_1 ⟨⟨ay1, by1⟩, _, pI2⟩ => ?_)
  have eI2 := pI2.1.symm; replace pI2 := pI2.2; subst eI2
  refine sat_ite (fun q_2 => ?_) (fun q_2 => ?_)
  · exact sat_zr ⟨(lit_in rfl), hRI0, trivial⟩
  · refine sat_zb (ok_X_isIn fu a2 1 24 I0 hfu hRI0.1 ⟨aa2, ba2⟩ (lit_in rfl) (lit_in rfl)) (fun y4 I5 c_3 ⟨⟨ay4, by4⟩, _, pI5⟩ => ?_)
    have eI5 := pI5.1.symm; replace pI5 := pI5.2; subst eI5
    refine sat_ite (fun q_4 => ?_) (fun q_4 => ?_)
    · exact sat_zr ⟨(lit_in rfl), hRI0, trivial⟩
    · refine sat_zl (wr32_in _) (fun x8 hx8 ax8 bx8 => ?_)
      try simp (disch := omega) only [wr32_i2, wdiv_i2, wrem_i2] at hx8
      refine sat_zg (by first | omega | grind | grind [wr32]) (fun g_5 => ?_)
      refine sat_zwX1 hRI0 ⟨aa2, ba2⟩ (cw_10 (by first | omega | (simp (disch := omega) only [wr32_i2, wdiv_i2, wrem_i2]; omega) | grind)) (fun I7 eI7 hRI7 => ?_)
      exact sat_zr ⟨(lit_in rfl), hRI7, trivial⟩
theorem ok_X_parts (fu : Nat) (o0 : Nat) (a1 : Int) (a2 : Int) (I0 : IMem) (hfu : 5000000000 < fu) (hRI0 : GX o0 I0) (qa1 : inr a1) (qa2 : inr a2) : sat (f_X_parts fu o0 a1 a2 I0) (fun v I => inr v ∧ GX o0 I ∧ (True)) := by
  unfold f_X_parts
  obtain ⟨aa1, ba1⟩ := qa1
  obtain ⟨aa2, ba2⟩ := qa2
  refine sat_zb (ok_X_isIn fu a1 2 8 I0 hfu hRI0.1 ⟨aa1, ba1⟩ (lit_in rfl) (lit_in rfl)) (fun y1 I2 c_1 ⟨⟨ay1, by1⟩, _, pI2⟩ => ?_)
  have eI2 := pI2.1.symm; replace pI2 := pI2.2; subst eI2
  refine sat_ite (fun q_2 => ?_) (fun q_2 => ?_)
  · exact sat_zr ⟨(lit_in rfl), hRI0, trivial⟩
  · refine sat_zb (ok_X_isIn fu a2 0 (wr32 (a1 - 1)) I0 hfu hRI0.1 ⟨aa2, ba2⟩ (lit_in rfl) (wr32_in _)) (fun y4 I5 c_3 ⟨⟨ay4, by4⟩, _, pI5⟩ => ?_)
    have eI5 := pI5.1.symm; replace pI5 := pI5.2; subst eI5
    try simp (disch := omega) only [wr32_i2, wdiv_i2, wrem_i2] at pI5
    refine sat_ite (fun q_4 => ?_) (fun q_4 => ?_)
    · exact sat_zr ⟨(lit_in rfl), hRI0, trivial⟩
    · refine sat_zl (wr32_in _) (fun x8 hx8 ax8 bx8 => ?_)
      try simp (disch := omega) only [wr32_i2, wdiv_i2, wrem_i2] at hx8
      refine sat_zg (by first | omega | grind | grind [wr32]) (fun g_5 => ?_)
      refine sat_zwX1 hRI0 ⟨aa2, ba2⟩ (cw_17 (by first | omega | (simp (disch := omega) only [wr32_i2, wdiv_i2, wrem_i2]; omega) | grind)) (fun I7 eI7 hRI7 => ?_)
      exact sat_zr ⟨(lit_in rfl), hRI7, trivial⟩
theorem ok_X_isGroup (fu : Nat) (a0 : Int) (a1 : Int) (a2 : Int) (I0 : IMem) (hfu : 5000000000 < fu) (hRI0 : RG I0) (qa0 : inr a0) (qa1 : inr a1) (qa2 : inr a2) : sat (f_X_isGroup fu a0 a1 a2 I0) (fun v I => inr v ∧ RG I ∧ (I = I0 ∧ ((v = 0 ∨ v = 1) ∧ (v = 1 → 1 ≤ a0 ∧ a0 ≤ 8 ∧ 1 ≤ a1 ∧ a1 ≤ a0 ∧ 0 ≤ a2 ∧ a2 ≤ 3)))) := by
  unfold f_X_isGroup
  obtain ⟨aa0, ba0⟩ := qa0
  obtain ⟨aa1, ba1⟩ := qa1
  obtain ⟨aa2, ba2⟩ := qa2
  refine sat_zb (ok_X_isIn fu a0 1 8 I0 hfu hRI0 ⟨aa0, ba0⟩ (lit_in rfl) (lit_in rfl)) (fun y1 I2 c_1 ⟨⟨ay1, by1⟩, _, pI2⟩ => ?_)
  have eI2 := pI2.1.symm; replace pI2 := pI2.2; subst eI2
  refine sat_ite (fun q_2 => ?_) (fun q_2 => ?_)
  · exact sat_zr ⟨(lit_in rfl), hRI0, ⟨rfl, (by first | omega | (simp (disch := omega) only [wr32_i2, wdiv_i2, wrem_i2]; omega) | grind | grind [wr32])⟩⟩
  · refine sat_zb (ok_X_isIn fu a1 1 a0 I0 hfu hRI0 ⟨aa1, ba1⟩ (lit_in rfl) ⟨aa0, ba0⟩) (fun y4 I5 c_3 ⟨⟨ay4, by4⟩, _, pI5⟩ => ?_)
    have eI5 := pI5.1.symm; replace pI5 := pI5.2; subst eI5
    refine sat_ite (fun q_4 => ?_) (fun q_4 => ?_)
    · exact sat_zr ⟨(lit_in rfl), hRI0, ⟨rfl, (by first | omega | (simp (disch := omega) only [wr32_i2, wdiv_i2, wrem_i2]; omega) | grind | grind [wr32])⟩⟩
    · refine sat_zb (ok_X_isIn fu a2 0 3 I0 hfu hRI0 ⟨aa2, ba2⟩ (lit_in rfl) (lit_in rfl)) (fun y7 I8 c_5 ⟨⟨ay7, by7⟩, _, pI8⟩ => ?_)
      have eI8 := pI8.1.symm; replace pI8 := pI8.2; subst eI8
      refine sat_ite (fun q_6 => ?_) (fun q_6 => ?_)
      · exact sat_zr ⟨(lit_in rfl), hRI0, ⟨rfl, (by first | omega | (simp (disch := omega) only [wr32_i2, wdiv_i2, wrem_i2]; omega) | grind | grind [wr32])⟩⟩
      · exact sat_zr ⟨(lit_in rfl), hRI0, ⟨rfl, (by first | omega | (simp (disch := omega) only [wr32_i2, wdiv_i2, wrem_i2]; omega) | grind | grind [wr32])⟩⟩
theorem ok_X_comer (fu : Nat) (o0 : Nat) (a1 : Int) (a2 : Int) (a3 : Int) (a4 : Int) (a5 : Int) (I0 : IMem) (hfu : 5000000000 < fu) (hRI0 : GX o0 I0) (qa1 : inr a1) (qa2 : inr a2) (qa3 : inr a3) (qa4 : inr a4) (qa5 : inr a5) : sat (f_X_comer fu o0 a1 a2 a3 a4 a5 I0) (fun v I => inr v ∧ GX o0 I ∧ (True)) := by
  unfold f_X_comer
  obtain ⟨aa1, ba1⟩ := qa1
  obtain ⟨aa2, ba2⟩ := qa2
  obtain ⟨aa3, ba3⟩ := qa3
  obtain ⟨aa4, ba4⟩ := qa4
  obtain ⟨aa5, ba5⟩ := qa5
  refine sat_zb (ok_X_isIn fu a1 0 7 I0 hfu hRI0.1 ⟨aa1, ba1⟩ (lit_in rfl) (lit_in rfl)) (fun y1 I2 c_1 ⟨⟨ay1, by1⟩, _, pI2⟩ => ?_)
  have eI2 := pI2.1.symm; replace pI2 := pI2.2; subst eI2
  refine sat_ite (fun q_2 => ?_) (fun q_2 => ?_)
  · exact sat_zr ⟨(lit_in rfl), hRI0, trivial⟩
  · refine sat_zb (ok_X_isGroup fu a2 a3 a4 I0 hfu hRI0.1 ⟨aa2, ba2⟩ ⟨aa3, ba3⟩ ⟨aa4, ba4⟩) (fun y4 I5 c_3 ⟨⟨ay4, by4⟩, _, pI5⟩ => ?_)
    have eI5 := pI5.1.symm; replace pI5 := pI5.2; subst eI5
    refine sat_ite (fun q_4 => ?_) (fun q_4 => ?_)
    · exact sat_zr ⟨(lit_in rfl), hRI0, trivial⟩
    · refine sat_zb (ok_X_isIn fu a5 0 1000 I0 hfu hRI0.1 ⟨aa5, ba5⟩ (lit_in rfl) (lit_in rfl)) (fun y7 I8 c_5 ⟨⟨ay7, by7⟩, _, pI8⟩ => ?_)
      have eI8 := pI8.1.symm; replace pI8 := pI8.2; subst eI8
      refine sat_ite (fun q_6 => ?_) (fun q_6 => ?_)
      · exact sat_zr ⟨(lit_in rfl), hRI0, trivial⟩
      · refine sat_zl (wr32_in _) (fun x11 hx11 ax11 bx11 => ?_)
        try simp (disch := omega) only [wr32_i2, wdiv_i2, wrem_i2] at hx11
        refine sat_zg (by first | omega | grind | grind [wr32]) (fun g_7 => ?_)
        refine sat_zwX1 hRI0 ⟨aa2, ba2⟩ (cw_26 (by first | omega | (simp (disch := omega) only [wr32_i2, wdiv_i2, wrem_i2]; omega) | grind)) (fun I10 eI10 hRI10 => ?_)
        refine sat_zl (wr32_in _) (fun x13 hx13 ax13 bx13 => ?_)
        try simp (disch := omega) only [wr32_i2, wdiv_i2, wrem_i2] at hx13
        refine sat_zg (by first | omega | grind | grind [wr32]) (fun g_8 => ?_)
        refine sat_zwX1 hRI10 ⟨aa3, ba3⟩ (cw_26 (by first | omega | (simp (disch := omega) only [wr32_i2, wdiv_i2, wrem_i2]; omega) | grind)) (fun I12 eI12 hRI12 => ?_)
        refine sat_zl (wr32_in _) (fun x15 hx15 ax15 bx15 => ?_)
        try simp (disch := omega) only [wr32_i2, wdiv_i2, wrem_i2] at hx15
        refine sat_zg (by first | omega | grind | grind [wr32]) (fun g_9 => ?_)
        refine sat_zwX1 hRI12 ⟨aa4, ba4⟩ (cw_26 (by first | omega | (simp (disch := omega) only [wr32_i2, wdiv_i2, wrem_i2]; omega) | grind)) (fun I14 eI14 hRI14 => ?_)
        refine sat_zl (wr32_in _) (fun x17 hx17 ax17 bx17 => ?_)
        try simp (disch := omega) only [wr32_i2, wdiv_i2, wrem_i2] at hx17
        refine sat_zg (by first | omega | grind | grind [wr32]) (fun g_10 => ?_)
        refine sat_zwX1 hRI14 ⟨aa5, ba5⟩ (cw_26 ⟨by omega, by omega, Or.inr (Or.inr (Or.inr ⟨by omega, by grind⟩))⟩) (fun I16 eI16 hRI16 => ?_)
        exact sat_zr ⟨(lit_in rfl), hRI16, trivial⟩
theorem ok_X_feed_18 {Ib : IMem} (fu : Nat) (o0 : Nat) (p1 : Int) (p2 : Int) (p3 : Int) (p4 : Int) (p5 : Int) (hfu : 5000000000 < fu) (qp1 : inr p1) (qp2 : inr p2) (qp3 : inr p3) (qp4 : inr p4) (qp5 : inr p5) {Q_ : Int → IMem → Prop} (hret : ∀ v I, inr v → GX o0 I → ((∀ q j, ¬ (q = o0 + 6 ∨ (q = o0 ∧ j = 12)) → I q j = Ib q j) ∧ (True)) → sat (zr v I) Q_) : ∀ (m : Nat) (w6 : Int) (I0 : IMem), inr w6 → GX o0 I0 → ((∀ q j, ¬ (q = o0 + 6 ∨ (q = o0 ∧ j = 12)) → I0 q j = Ib q j) ∧ (0 ≤ w6 ∧ w6 ≤ 20 ∧ I0 o0 12 + 20 - w6 ≤ 400)) → (20 - w6).toNat < m → sat (f_X_feed_18 fu o0 p1 p2 p3 p4 p5 m w6 I0) Q_ := by
  intro m
  induction m with
  | zero => intro w6 I0 _ _ _ h0; exact absurd h0 (Nat.not_lt_zero _)
  | succ m hR_ =>
    intro w6 I0 ⟨aw6, bw6⟩ hRI0 hinv hmeas
    have fI0 := hinv.1; replace hinv := hinv.2
    show sat (fb_X_feed_18 fu o0 p1 p2 p3 p4 p5 (f_X_feed_18 fu o0 p1 p2 p3 p4 p5 m) w6 I0) Q_
    unfold fb_X_feed_18
    obtain ⟨ap1, bp1⟩ := qp1
    obtain ⟨ap2, bp2⟩ := qp2
    obtain ⟨ap3, bp3⟩ := qp3
    obtain ⟨ap4, bp4⟩ := qp4
    obtain ⟨ap5, bp5⟩ := qp5
    refine sat_ite (fun q_1 => ?_) (fun q_1 => ?_)
    · refine sat_zj (fun k1 ek1 => ?_)
      have hk1 : ∀ (x3 : Int) (I2 : IMem), inr x3 → GX o0 I2 → (I2 = I0 ∧ (True)) → sat (k1 x3 I2) Q_ := by
        intro x3 I2 ⟨ax3, bx3⟩ hRI2 jk1
        subst ek1
        have ejk1 := jk1.1.symm; replace jk1 := jk1.2; subst ejk1
        have ⟨r_2a, r_2b⟩ : -2147483648 ≤ I0 o0 12 ∧ I0 o0 12 < 2147483648 := hRI0.1 o0 12
        have r_2g := gx_t hRI0
        refine sat_zl (hRI0.1 o0 12) (fun x5 hx5 ax5 bx5 => ?_)
        refine sat_zg (by first | omega | grind | grind [wr32]) (fun g_3 => ?_)
        refine sat_zwXn (c := 6) hRI0 (wand_in _ _) (by decide) (Or.inl (by decide)) (fun I4 eI4 hRI4 => ?_)
        have ⟨r_4a, r_4b⟩ : -2147483648 ≤ I4 o0 12 ∧ I4 o0 12 < 2147483648 := hRI4.1 o0 12
        have r_4g := gx_t hRI4
        refine sat_zwX0 hRI4 (wr32_in _) (by first | omega | (simp (disch := omega) only [wr32_i2, wdiv_i2, wrem_i2]; omega) | grind | grind [wr32]) (fun I6 eI6 hRI6 => ?_)
        refine sat_zl (wr32_in _) (fun x7 hx7 ax7 bx7 => ?_)
        try simp (disch := omega) only [wr32_i2, wdiv_i2, wrem_i2] at hx7
        exact hR_ x7 I6 ⟨ax7, bx7⟩ hRI6 ⟨(by intro q j hq; grind), (by first | omega | (simp (disch := omega) only [wr32_i2, wdiv_i2, wrem_i2]; omega) | grind | grind [wr32])⟩ (by first | omega | (simp (disch := omega) only [wr32_i2, wdiv_i2, wrem_i2]; omega) | grind | grind [wr32])
      clear ek1
      refine sat_ite (fun q_5 => ?_) (fun q_5 => ?_)
      · exact hk1 p1 I0 ⟨ap1, bp1⟩ hRI0 ⟨rfl, trivial⟩
      · refine sat_ite (fun q_6 => ?_) (fun q_6 => ?_)
        · exact hk1 p2 I0 ⟨ap2, bp2⟩ hRI0 ⟨rfl, trivial⟩
        · refine sat_ite (fun q_7 => ?_) (fun q_7 => ?_)
          · exact hk1 p3 I0 ⟨ap3, bp3⟩ hRI0 ⟨rfl, trivial⟩
          · refine sat_ite (fun q_8 => ?_) (fun q_8 => ?_)
            · exact hk1 p4 I0 ⟨ap4, bp4⟩ hRI0 ⟨rfl, trivial⟩
            · exact hk1 p5 I0 ⟨ap5, bp5⟩ hRI0 ⟨rfl, trivial⟩
    · have ⟨r_9a, r_9b⟩ : -2147483648 ≤ I0 o0 12 ∧ I0 o0 12 < 2147483648 := hRI0.1 o0 12
      have r_9g := gx_t hRI0
      exact hret _ _ (hRI0.1 o0 12) hRI0 ⟨(by intro q j hq; grind), trivial⟩
theorem ok_X_feed (fu : Nat) (o0 : Nat) (a1 : Int) (a2 : Int) (a3 : Int) (a4 : Int) (a5 : Int) (I0 : IMem) (hfu : 5000000000 < fu) (hRI0 : GX o0 I0) (qa1 : inr a1) (qa2 : inr a2) (qa3 : inr a3) (qa4 : inr a4) (qa5 : inr a5) : sat (f_X_feed fu o0 a1 a2 a3 a4 a5 I0) (fun v I => inr v ∧ GX o0 I ∧ (True)) := by
  unfold f_X_feed
  obtain ⟨aa1, ba1⟩ := qa1
  obtain ⟨aa2, ba2⟩ := qa2
  obtain ⟨aa3, ba3⟩ := qa3
  obtain ⟨aa4, ba4⟩ := qa4
  obtain ⟨aa5, ba5⟩ := qa5
  have ⟨r_1a, r_1b⟩ : -2147483648 ≤ I0 o0 12 ∧ I0 o0 12 < 2147483648 := hRI0.1 o0 12
  have r_1g := gx_t hRI0
  refine sat_ite (fun q_2 => ?_) (fun q_2 => ?_)
  · try simp (disch := omega) only [wr32_i2, wdiv_i2, wrem_i2] at q_2
    exact sat_zr ⟨(lit_in rfl), hRI0, trivial⟩
  · try simp (disch := omega) only [wr32_i2, wdiv_i2, wrem_i2] at q_2
    refine ok_X_feed_18 (Ib := I0) fu o0 a1 a2 a3 a4 a5 hfu ⟨aa1, ba1⟩ ⟨aa2, ba2⟩ ⟨aa3, ba3⟩ ⟨aa4, ba4⟩ ⟨aa5, ba5⟩ (fun v I h1 h2 h3 => sat_zr ⟨h1, h2, (by first | exact trivial | exact h3 | grind)⟩) fu 0 I0 (lit_in rfl) hRI0 ⟨(fun _ _ _ => rfl), (by first | omega | (simp (disch := omega) only [wr32_i2, wdiv_i2, wrem_i2]; omega) | grind | grind [wr32])⟩ (by first | omega | (simp (disch := omega) only [wr32_i2, wdiv_i2, wrem_i2]; omega) | grind | grind [wr32])
theorem ok_X_end (fu : Nat) (o0 : Nat) (a1 : Int) (I0 : IMem) (hfu : 5000000000 < fu) (hRI0 : GX o0 I0) (qa1 : inr a1) : sat (f_X_end fu o0 a1 I0) (fun v I => inr v ∧ GX o0 I ∧ (True)) := by
  unfold f_X_end
  obtain ⟨aa1, ba1⟩ := qa1
  have ⟨r_2a, r_2b⟩ : -2147483648 ≤ I0 o0 12 ∧ I0 o0 12 < 2147483648 := hRI0.1 o0 12
  have r_2g := gx_t hRI0
  refine sat_zb (ok_X_isIn fu a1 0 (I0 o0 12) I0 hfu hRI0.1 ⟨aa1, ba1⟩ (lit_in rfl) (hRI0.1 o0 12)) (fun y1 I2 c_1 ⟨⟨ay1, by1⟩, _, pI2⟩ => ?_)
  have eI2 := pI2.1.symm; replace pI2 := pI2.2; subst eI2
  refine sat_ite (fun q_3 => ?_) (fun q_3 => ?_)
  · exact sat_zr ⟨(lit_in rfl), hRI0, trivial⟩
  · refine sat_zwX0 hRI0 ⟨aa1, ba1⟩ (by first | omega | (simp (disch := omega) only [wr32_i2, wdiv_i2, wrem_i2]; omega) | grind | grind [wr32]) (fun I4 eI4 hRI4 => ?_)
    exact sat_zr ⟨(lit_in rfl), hRI4, trivial⟩
