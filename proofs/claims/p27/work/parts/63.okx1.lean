/-! safety of the reference -/
theorem ok_X_isDigit (fu : Nat) (a0 : Int) (I0 : IMem) (hfu : 5000000000 < fu) (hRI0 : RG I0) (qa0 : inr a0) : sat (f_X_isDigit fu a0 I0) (fun v I => inr v ∧ RG I ∧ (I = I0 ∧ ((v = 0 ∨ v = 1) ∧ (v = 1 ↔ (48 ≤ a0 ∧ a0 ≤ 57))))) := by
  unfold f_X_isDigit
  obtain ⟨aa0, ba0⟩ := qa0
  refine sat_zb (ok_X_isIn fu a0 48 57 I0 hfu hRI0 ⟨aa0, ba0⟩ (lit_in rfl) (lit_in rfl)) (fun y1 I2 c_1 ⟨⟨ay1, by1⟩, _, pI2⟩ => ?_)
  have eI2 := pI2.1.symm; replace pI2 := pI2.2; subst eI2
  refine sat_zg (by first | omega | grind | grind [wr32]) (fun g_2 => ?_)
  exact sat_zr ⟨⟨ay1, by1⟩, hRI0, ⟨rfl, (by first | omega | (simp (disch := omega) only [wr32_i2, wdiv_i2, wrem_i2]; omega) | grind | grind [wr32])⟩⟩
theorem ok_X_isLetter (fu : Nat) (a0 : Int) (I0 : IMem) (hfu : 5000000000 < fu) (hRI0 : RG I0) (qa0 : inr a0) : sat (f_X_isLetter fu a0 I0) (fun v I => inr v ∧ RG I ∧ (I = I0 ∧ ((v = 0 ∨ v = 1) ∧ (v = 1 ↔ ((97 ≤ a0 ∧ a0 ≤ 122) ∨ (65 ≤ a0 ∧ a0 ≤ 90)))))) := by
  unfold f_X_isLetter
  obtain ⟨aa0, ba0⟩ := qa0
  refine sat_zb (ok_X_isIn fu a0 97 122 I0 hfu hRI0 ⟨aa0, ba0⟩ (lit_in rfl) (lit_in rfl)) (fun y1 I2 c_1 ⟨⟨ay1, by1⟩, _, pI2⟩ => ?_)
  have eI2 := pI2.1.symm; replace pI2 := pI2.2; subst eI2
  refine sat_ite (fun q_2 => ?_) (fun q_2 => ?_)
  · refine sat_zb (ok_X_isIn fu a0 65 90 I0 hfu hRI0 ⟨aa0, ba0⟩ (lit_in rfl) (lit_in rfl)) (fun y4 I5 c_3 ⟨⟨ay4, by4⟩, _, pI5⟩ => ?_)
    have eI5 := pI5.1.symm; replace pI5 := pI5.2; subst eI5
    refine sat_ite (fun q_4 => ?_) (fun q_4 => ?_)
    · exact sat_zr ⟨(lit_in rfl), hRI0, ⟨rfl, (by first | omega | (simp (disch := omega) only [wr32_i2, wdiv_i2, wrem_i2]; omega) | grind | grind [wr32])⟩⟩
    · exact sat_zr ⟨(lit_in rfl), hRI0, ⟨rfl, (by first | omega | (simp (disch := omega) only [wr32_i2, wdiv_i2, wrem_i2]; omega) | grind | grind [wr32])⟩⟩
  · exact sat_zr ⟨(lit_in rfl), hRI0, ⟨rfl, (by first | omega | (simp (disch := omega) only [wr32_i2, wdiv_i2, wrem_i2]; omega) | grind | grind [wr32])⟩⟩
theorem ok_X_see (fu : Nat) (o0 : Nat) (a1 : Int) (I0 : IMem) (hfu : 5000000000 < fu) (hRI0 : GX o0 I0) (qa1 : inr a1) (h0 : 0 ≤ a1) : sat (f_X_see fu o0 a1 I0) (fun v I => inr v ∧ GX o0 I ∧ (I = I0 ∧ ((a1 < I0 o0 12 → v = I0 (o0 + 6) a1.toNat) ∧ (I0 o0 12 ≤ a1 → v = -1)))) := by
  unfold f_X_see
  obtain ⟨aa1, ba1⟩ := qa1
  have ⟨r_1a, r_1b⟩ : -2147483648 ≤ I0 o0 12 ∧ I0 o0 12 < 2147483648 := hRI0.1 o0 12
  have r_1g := gx_t hRI0
  refine sat_ite (fun q_2 => ?_) (fun q_2 => ?_)
  · refine sat_zg (by first | omega | grind | grind [wr32]) (fun g_3 => ?_)
    have ⟨r_4a, r_4b⟩ : -2147483648 ≤ I0 (o0 + 6) a1.toNat ∧ I0 (o0 + 6) a1.toNat < 2147483648 := hRI0.1 (o0 + 6) a1.toNat
    exact sat_zr ⟨(hRI0.1 (o0 + 6) a1.toNat), hRI0, ⟨rfl, (by first | omega | (simp (disch := omega) only [wr32_i2, wdiv_i2, wrem_i2]; omega) | grind | grind [wr32])⟩⟩
  · exact sat_zr ⟨(lit_in rfl), hRI0, ⟨rfl, (by first | omega | (simp (disch := omega) only [wr32_i2, wdiv_i2, wrem_i2]; omega) | grind | grind [wr32])⟩⟩
theorem ok_X_fault (fu : Nat) (o0 : Nat) (a1 : Int) (I0 : IMem) (hfu : 5000000000 < fu) (hRI0 : GX o0 I0) (qa1 : inr a1) : sat (f_X_fault fu o0 a1 I0) (fun v I => inr v ∧ GX o0 I ∧ (I = I0 ∧ (True))) := by
  unfold f_X_fault
  obtain ⟨aa1, ba1⟩ := qa1
  refine sat_ite (fun q_1 => ?_) (fun q_1 => ?_)
  · have ⟨r_2a, r_2b⟩ : -2147483648 ≤ I0 o0 19 ∧ I0 o0 19 < 2147483648 := hRI0.1 o0 19
    exact sat_zr ⟨(hRI0.1 o0 19), hRI0, ⟨rfl, trivial⟩⟩
  · refine sat_ite (fun q_3 => ?_) (fun q_3 => ?_)
    · have ⟨r_4a, r_4b⟩ : -2147483648 ≤ I0 o0 21 ∧ I0 o0 21 < 2147483648 := hRI0.1 o0 21
      exact sat_zr ⟨(hRI0.1 o0 21), hRI0, ⟨rfl, trivial⟩⟩
    · exact sat_zr ⟨(lit_in rfl), hRI0, ⟨rfl, trivial⟩⟩
theorem ok_X_both (fu : Nat) (a0 : Int) (a1 : Int) (a2 : Int) (I0 : IMem) (hfu : 5000000000 < fu) (hRI0 : RG I0) (qa0 : inr a0) (qa1 : inr a1) (qa2 : inr a2) : sat (f_X_both fu a0 a1 a2 I0) (fun v I => inr v ∧ RG I ∧ (I = I0 ∧ (True))) := by
  unfold f_X_both
  obtain ⟨aa0, ba0⟩ := qa0
  obtain ⟨aa1, ba1⟩ := qa1
  obtain ⟨aa2, ba2⟩ := qa2
  refine sat_ite (fun q_1 => ?_) (fun q_1 => ?_)
  · exact sat_zr ⟨(wr32_in _), hRI0, ⟨rfl, trivial⟩⟩
  · refine sat_ite (fun q_2 => ?_) (fun q_2 => ?_)
    · exact sat_zr ⟨(wr32_in _), hRI0, ⟨rfl, trivial⟩⟩
    · refine sat_ite (fun q_3 => ?_) (fun q_3 => ?_)
      · exact sat_zr ⟨(wr32_in _), hRI0, ⟨rfl, trivial⟩⟩
      · refine sat_ite (fun q_4 => ?_) (fun q_4 => ?_)
        · refine sat_ite (fun q_5 => ?_) (fun q_5 => ?_)
          · exact sat_zr ⟨(lit_in rfl), hRI0, ⟨rfl, trivial⟩⟩
          · exact sat_zr ⟨(lit_in rfl), hRI0, ⟨rfl, trivial⟩⟩
        · refine sat_ite (fun q_6 => ?_) (fun q_6 => ?_)
          · refine sat_ite (fun q_7 => ?_) (fun q_7 => ?_)
            · exact sat_zr ⟨(lit_in rfl), hRI0, ⟨rfl, trivial⟩⟩
            · exact sat_zr ⟨(lit_in rfl), hRI0, ⟨rfl, trivial⟩⟩
          · refine sat_ite (fun q_8 => ?_) (fun q_8 => ?_)
            · refine sat_ite (fun q_9 => ?_) (fun q_9 => ?_)
              · exact sat_zr ⟨(lit_in rfl), hRI0, ⟨rfl, trivial⟩⟩
              · exact sat_zr ⟨(lit_in rfl), hRI0, ⟨rfl, trivial⟩⟩
            · refine sat_ite (fun q_10 => ?_) (fun q_10 => ?_)
              · exact sat_zr ⟨(wand_in _ _), hRI0, ⟨rfl, trivial⟩⟩
              · exact sat_zr ⟨(wor_in _ _), hRI0, ⟨rfl, trivial⟩⟩
theorem ok_X_comesTo_6 {Ib : IMem} (fu : Nat) (o0 : Nat) (p1 : Int) (p3 : Int) (hfu : 5000000000 < fu) (qp1 : inr p1) (qp3 : inr p3) {Q_ : Int → IMem → Prop} (hret : ∀ v I, inr v → GX o0 I → ((∀ q j, ¬ (q = o0 + 7) → I q j = Ib q j) ∧ (True)) → sat (zr v I) Q_) : ∀ (m : Nat) (w4 : Int) (w5 : Int) (I0 : IMem), inr w4 → inr w5 → GX o0 I0 → ((∀ q j, ¬ (q = o0 + 7) → I0 q j = Ib q j) ∧ (CT I0 o0 p1 p3 w5 w4)) → (p3 - w5).toNat < m → sat (f_X_comesTo_6 fu o0 p1 p3 m w4 w5 I0) Q_ := by
  intro m
  induction m with
  | zero => intro w4 w5 I0 _ _ _ _ h0; exact absurd h0 (Nat.not_lt_zero _)
  | succ m hR_ =>
    intro w4 w5 I0 ⟨aw4, bw4⟩ ⟨aw5, bw5⟩ hRI0 hinv hmeas
    have fI0 := hinv.1; replace hinv := hinv.2
    show sat (fb_X_comesTo_6 fu o0 p1 p3 (f_X_comesTo_6 fu o0 p1 p3 m) w4 w5 I0) Q_
    unfold fb_X_comesTo_6
    obtain ⟨ap1, bp1⟩ := qp1
    obtain ⟨ap3, bp3⟩ := qp3
    have hct : 0 ≤ p1 ∧ p1 < 5 ∧ 0 ≤ w4 ∧ w4 ≤ w5 ∧ w5 ≤ p3 ∧ p3 ≤ 410 := ⟨hinv.1, hinv.2.1, hinv.2.2.1, hinv.2.2.2.1, hinv.2.2.2.2.1, hinv.2.2.2.2.2.1⟩
    refine sat_ite (fun q_1 => ?_) (fun q_1 => ?_)
    · refine sat_zl (wr32_in _) (fun x1 hx1 ax1 bx1 => ?_)
      try simp (disch := omega) only [wr32_i2, wdiv_i2, wrem_i2] at hx1
      refine sat_zg (by first | omega | grind | grind [wr32]) (fun g_2 => ?_)
      have ⟨r_3a, r_3b⟩ : -2147483648 ≤ I0 (o0 + 1) x1.toNat ∧ I0 (o0 + 1) x1.toNat < 2147483648 := hRI0.1 (o0 + 1) x1.toNat
      try have r_3many := gx_many hRI0 x1.toNat (by omega) (by omega)
      try have r_3seen := gx_seen hRI0 x1.toNat (by omega) (by omega)
      try have r_3part := gx_part hRI0 x1.toNat (by omega) (by omega)
      try have r_3rows := gx_rows hRI0 x1.toNat (by omega) (by omega) (by omega)
      refine sat_zl (hRI0.1 (o0 + 1) x1.toNat) (fun x2 hx2 ax2 bx2 => ?_)
      refine sat_zl (wr32_in _) (fun x3 hx3 ax3 bx3 => ?_)
      try simp (disch := omega) only [wr32_i2, wdiv_i2, wrem_i2] at hx3
      refine sat_zg (by first | omega | grind | grind [wr32]) (fun g_4 => ?_)
      have ⟨r_5a, r_5b⟩ : -2147483648 ≤ I0 (o0 + 1) x3.toNat ∧ I0 (o0 + 1) x3.toNat < 2147483648 := hRI0.1 (o0 + 1) x3.toNat
      try have r_5many := gx_many hRI0 x3.toNat (by omega) (by omega)
      try have r_5seen := gx_seen hRI0 x3.toNat (by omega) (by omega)
      try have r_5part := gx_part hRI0 x3.toNat (by omega) (by omega)
      try have r_5rows := gx_rows hRI0 x3.toNat (by omega) (by omega) (by omega)
      refine sat_zl (hRI0.1 (o0 + 1) x3.toNat) (fun x4 hx4 ax4 bx4 => ?_)
      have hcf := ct_facts (s := x2) (v := x4) hinv (by omega) (by rw [hx2, hx1]) (by rw [hx4, hx3])
      refine sat_zj (fun k5 ek5 => ?_)
      have hk5 : ∀ (x7 : Int) (I6 : IMem), inr x7 → GX o0 I6 → ((∀ q j, ¬ (q = o0 + 7) → I6 q j = I0 q j) ∧ (CT I6 o0 p1 p3 (w5 + 1) x7)) → sat (k5 x7 I6) Q_ := by
        intro x7 I6 ⟨ax7, bx7⟩ hRI6 jk5
        subst ek5
        have fI6 := jk5.1; replace jk5 := jk5.2
        refine sat_zl (wr32_in _) (fun x8 hx8 ax8 bx8 => ?_)
        try simp (disch := omega) only [wr32_i2, wdiv_i2, wrem_i2] at hx8
        exact hR_ x7 x8 I6 ⟨ax7, bx7⟩ ⟨ax8, bx8⟩ hRI6 ⟨(by intro q j hq; grind), (by first | omega | (simp (disch := omega) only [wr32_i2, wdiv_i2, wrem_i2]; omega) | grind | grind [wr32])⟩ (by first | omega | (simp (disch := omega) only [wr32_i2, wdiv_i2, wrem_i2]; omega) | grind | grind [wr32])
      clear ek5
      refine sat_ite (fun q_6 => ?_) (fun q_6 => ?_)
      · refine sat_zj (fun k21 ek21 => ?_)
        have hk21 : ∀ (x23 : Int) (I22 : IMem), inr x23 → GX o0 I22 → (I22 = I0 ∧ (True)) → sat (k21 x23 I22) Q_ := by
          intro x23 I22 ⟨ax23, bx23⟩ hRI22 jk21
          subst ek21
          have ejk21 := jk21.1.symm; replace jk21 := jk21.2; subst ejk21
          refine sat_zg (by first | omega | grind | grind [wr32]) (fun g_7 => ?_)
          refine sat_zwXn (c := 7) hRI0 ⟨ax23, bx23⟩ (by decide) (Or.inl (by decide)) (fun I24 eI24 hRI24 => ?_)
          refine sat_zl (wr32_in _) (fun x25 hx25 ax25 bx25 => ?_)
          try simp (disch := omega) only [wr32_i2, wdiv_i2, wrem_i2] at hx25
          exact hk5 x25 I24 ⟨ax25, bx25⟩ hRI24 ⟨(by intro q j hq; grind), (ct_next (s := x2) (v := x4) hinv (by omega) (by rw [hx2, hx1]) (by rw [hx4, hx3]) (by intro j; grind) (by split <;> omega))⟩
        clear ek21
        refine sat_ite (fun q_8 => ?_) (fun q_8 => ?_)
        · exact hk21 x4 I0 ⟨ax4, bx4⟩ hRI0 ⟨rfl, trivial⟩
        · refine sat_zg (by first | omega | grind | grind [wr32]) (fun g_9 => ?_)
          have ⟨r_10a, r_10b⟩ : -2147483648 ≤ I0 (o0 + 8) x2.toNat ∧ I0 (o0 + 8) x2.toNat < 2147483648 := hRI0.1 (o0 + 8) x2.toNat
          exact hk21 (I0 (o0 + 8) x2.toNat) I0 (hRI0.1 (o0 + 8) x2.toNat) hRI0 ⟨rfl, trivial⟩
      · refine sat_ite (fun q_11 => ?_) (fun q_11 => ?_)
        · refine sat_zl (wr32_in _) (fun x19 hx19 ax19 bx19 => ?_)
          try simp (disch := omega) only [wr32_i2, wdiv_i2, wrem_i2] at hx19
          refine sat_zg (by first | omega | grind | grind [wr32]) (fun g_12 => ?_)
          refine sat_zg (by first | omega | grind | grind [wr32]) (fun g_13 => ?_)
          refine sat_zg (by first | omega | grind | grind [wr32]) (fun g_14 => ?_)
          have ⟨r_15a, r_15b⟩ : -2147483648 ≤ I0 (o0 + 7) x19.toNat ∧ I0 (o0 + 7) x19.toNat < 2147483648 := hRI0.1 (o0 + 7) x19.toNat
          refine sat_zwXn (c := 7) hRI0 (wdiv_in _ _) (by decide) (Or.inl (by decide)) (fun I20 eI20 hRI20 => ?_)
          exact hk5 w4 I20 ⟨aw4, bw4⟩ hRI20 ⟨(by intro q j hq; grind), (ct_next (s := x2) (v := x4) hinv (by omega) (by rw [hx2, hx1]) (by rw [hx4, hx3]) (by intro j; grind) (by split <;> omega))⟩
        · refine sat_ite (fun q_16 => ?_) (fun q_16 => ?_)
          · refine sat_zl (wr32_in _) (fun x16 hx16 ax16 bx16 => ?_)
            try simp (disch := omega) only [wr32_i2, wdiv_i2, wrem_i2] at hx16
            refine sat_zg (by first | omega | grind | grind [wr32]) (fun g_17 => ?_)
            refine sat_zl (wr32_in _) (fun x18 hx18 ax18 bx18 => ?_)
            try simp (disch := omega) only [wr32_i2, wdiv_i2, wrem_i2] at hx18
            refine sat_zg (by first | omega | grind | grind [wr32]) (fun g_18 => ?_)
            have ⟨r_19a, r_19b⟩ : -2147483648 ≤ I0 (o0 + 7) x16.toNat ∧ I0 (o0 + 7) x16.toNat < 2147483648 := hRI0.1 (o0 + 7) x16.toNat
            refine sat_zwXn (c := 7) hRI0 (wr32_in _) (by decide) (Or.inl (by decide)) (fun I17 eI17 hRI17 => ?_)
            exact hk5 w4 I17 ⟨aw4, bw4⟩ hRI17 ⟨(by intro q j hq; grind), (ct_next (s := x2) (v := x4) hinv (by omega) (by rw [hx2, hx1]) (by rw [hx4, hx3]) (by intro j; grind) (by split <;> omega))⟩
          · refine sat_zl (wr32_in _) (fun x9 hx9 ax9 bx9 => ?_)
            try simp (disch := omega) only [wr32_i2, wdiv_i2, wrem_i2] at hx9
            refine sat_zl (wr32_in _) (fun x10 hx10 ax10 bx10 => ?_)
            try simp (disch := omega) only [wr32_i2, wdiv_i2, wrem_i2] at hx10
            refine sat_zg (by first | omega | grind | grind [wr32]) (fun g_20 => ?_)
            refine sat_zg (by first | omega | grind | grind [wr32]) (fun g_21 => ?_)
            have ⟨r_23a, r_23b⟩ : -2147483648 ≤ I0 (o0 + 7) x10.toNat ∧ I0 (o0 + 7) x10.toNat < 2147483648 := hRI0.1 (o0 + 7) x10.toNat
            have ⟨r_24a, r_24b⟩ : -2147483648 ≤ I0 (o0 + 7) x9.toNat ∧ I0 (o0 + 7) x9.toNat < 2147483648 := hRI0.1 (o0 + 7) x9.toNat
            refine sat_zb (ok_X_both fu x2 (I0 (o0 + 7) x10.toNat) (I0 (o0 + 7) x9.toNat) I0 hfu hRI0.1 ⟨ax2, bx2⟩ (hRI0.1 (o0 + 7) x10.toNat) (hRI0.1 (o0 + 7) x9.toNat)) (fun y11 I12 c_22 ⟨⟨ay11, by11⟩, _, pI12⟩ => ?_)
            have eI12 := pI12.1.symm; replace pI12 := pI12.2; subst eI12
            refine sat_zl (wr32_in _) (fun x15 hx15 ax15 bx15 => ?_)
            try simp (disch := omega) only [wr32_i2, wdiv_i2, wrem_i2] at hx15
            refine sat_zg (by first | omega | grind | grind [wr32]) (fun g_25 => ?_)
            refine sat_zwXn (c := 7) hRI0 ⟨ay11, by11⟩ (by decide) (Or.inl (by decide)) (fun I14 eI14 hRI14 => ?_)
            exact hk5 x9 I14 ⟨ax9, bx9⟩ hRI14 ⟨(by intro q j hq; grind), (ct_next (s := x2) (v := x4) hinv (by omega) (by rw [hx2, hx1]) (by rw [hx4, hx3]) (by intro j; grind) (by split <;> omega))⟩
    · have ⟨r_26a, r_26b⟩ : -2147483648 ≤ I0 (o0 + 7) 0 ∧ I0 (o0 + 7) 0 < 2147483648 := hRI0.1 (o0 + 7) 0
      exact hret _ _ (hRI0.1 (o0 + 7) 0) hRI0 ⟨(by intro q j hq; grind), trivial⟩
theorem ok_X_comesTo (fu : Nat) (o0 : Nat) (a1 : Int) (a2 : Int) (a3 : Int) (I0 : IMem) (hfu : 5000000000 < fu) (hRI0 : GX o0 I0) (qa1 : inr a1) (qa2 : inr a2) (qa3 : inr a3) (h0 : CT I0 o0 a1 a3 a2 0) : sat (f_X_comesTo fu o0 a1 a2 a3 I0) (fun v I => inr v ∧ GX o0 I ∧ (True)) := by
  unfold f_X_comesTo
  obtain ⟨aa1, ba1⟩ := qa1
  obtain ⟨aa2, ba2⟩ := qa2
  obtain ⟨aa3, ba3⟩ := qa3
  refine ok_X_comesTo_6 (Ib := I0) fu o0 a1 a3 hfu ⟨aa1, ba1⟩ ⟨aa3, ba3⟩ (fun v I h1 h2 h3 => sat_zr ⟨h1, h2, (by first | exact trivial | exact h3 | grind)⟩) fu 0 a2 I0 (lit_in rfl) ⟨aa2, ba2⟩ hRI0 ⟨(fun _ _ _ => rfl), (by first | omega | (simp (disch := omega) only [wr32_i2, wdiv_i2, wrem_i2]; omega) | grind | grind [wr32])⟩ (by first | omega | (simp (disch := omega) only [wr32_i2, wdiv_i2, wrem_i2]; omega) | grind | grind [wr32])
theorem ok_X_firstLine_2 {Ib : IMem} (fu : Nat) (o0 : Nat) (p1 : Int) (hfu : 5000000000 < fu) (qp1 : inr p1) (hp1 : 0 ≤ p1 ∧ p1 < 5) {Q_ : Int → IMem → Prop} (hret : ∀ v I, inr v → GX o0 I → ((∀ q j, ¬ (q = o0 + 7) → I q j = Ib q j) ∧ (v = -1 ∨ (16 * p1 ≤ v ∧ v < 16 * p1 + Ib (o0 + 1) (1580 + p1).toNat))) → sat (zr v I) Q_) : ∀ (m : Nat) (w2 : Int) (I0 : IMem), inr w2 → GX o0 I0 → ((∀ q j, ¬ (q = o0 + 7) → I0 q j = Ib q j) ∧ (0 ≤ w2)) → (16 - w2).toNat < m → sat (f_X_firstLine_2 fu o0 p1 m w2 I0) Q_ := by
  intro m
  induction m with
  | zero => intro w2 I0 _ _ _ h0; exact absurd h0 (Nat.not_lt_zero _)
  | succ m hR_ =>
    intro w2 I0 ⟨aw2, bw2⟩ hRI0 hinv hmeas
    have fI0 := hinv.1; replace hinv := hinv.2
    show sat (fb_X_firstLine_2 fu o0 p1 (f_X_firstLine_2 fu o0 p1 m) w2 I0) Q_
    unfold fb_X_firstLine_2
    obtain ⟨ap1, bp1⟩ := qp1
    have hlm := gx_lm hRI0 p1 hp1.1 hp1.2
    refine sat_zl (wr32_in _) (fun x1 hx1 ax1 bx1 => ?_)
    try simp (disch := omega) only [wr32_i2, wdiv_i2, wrem_i2] at hx1
    have hlm1 : I0 (o0 + 1) x1.toNat ≤ 16 := by rw [hx1]; exact hlm.2
    refine sat_zg (by first | omega | grind | grind [wr32]) (fun g_1 => ?_)
    have ⟨r_2a, r_2b⟩ : -2147483648 ≤ I0 (o0 + 1) x1.toNat ∧ I0 (o0 + 1) x1.toNat < 2147483648 := hRI0.1 (o0 + 1) x1.toNat
    try have r_2many := gx_many hRI0 x1.toNat (by omega) (by omega)
    try have r_2seen := gx_seen hRI0 x1.toNat (by omega) (by omega)
    try have r_2part := gx_part hRI0 x1.toNat (by omega) (by omega)
    try have r_2rows := gx_rows hRI0 x1.toNat (by omega) (by omega) (by omega)
    refine sat_ite (fun q_3 => ?_) (fun q_3 => ?_)
    · refine sat_zl (wr32_in _) (fun x2 hx2 ax2 bx2 => ?_)
      try simp (disch := omega) only [wr32_i2, wdiv_i2, wrem_i2] at hx2
      refine sat_zl (wr32_in _) (fun x3 hx3 ax3 bx3 => ?_)
      try simp (disch := omega) only [wr32_i2, wdiv_i2, wrem_i2] at hx3
      refine sat_zg (by first | omega | grind | grind [wr32]) (fun g_4 => ?_)
      refine sat_zl (wr32_in _) (fun x4 hx4 ax4 bx4 => ?_)
      try simp (disch := omega) only [wr32_i2, wdiv_i2, wrem_i2] at hx4
      refine sat_zg (by first | omega | grind | grind [wr32]) (fun g_5 => ?_)
      have ⟨r_6a, r_6b⟩ : -2147483648 ≤ I0 (o0 + 1) x3.toNat ∧ I0 (o0 + 1) x3.toNat < 2147483648 := hRI0.1 (o0 + 1) x3.toNat
      try have r_6many := gx_many hRI0 x3.toNat (by omega) (by omega)
      try have r_6seen := gx_seen hRI0 x3.toNat (by omega) (by omega)
      try have r_6part := gx_part hRI0 x3.toNat (by omega) (by omega)
      try have r_6rows := gx_rows hRI0 x3.toNat (by omega) (by omega) (by omega)
      have ⟨r_7a, r_7b⟩ : -2147483648 ≤ I0 (o0 + 1) x4.toNat ∧ I0 (o0 + 1) x4.toNat < 2147483648 := hRI0.1 (o0 + 1) x4.toNat
      try have r_7many := gx_many hRI0 x4.toNat (by omega) (by omega)
      try have r_7seen := gx_seen hRI0 x4.toNat (by omega) (by omega)
      try have r_7part := gx_part hRI0 x4.toNat (by omega) (by omega)
      try have r_7rows := gx_rows hRI0 x4.toNat (by omega) (by omega) (by omega)
      refine sat_ite (fun q_8 => ?_) (fun q_8 => ?_)
      · exact hret _ _ ⟨ax2, bx2⟩ hRI0 ⟨(by intro q j hq; grind), (by first | omega | (simp (disch := omega) only [wr32_i2, wdiv_i2, wrem_i2]; omega) | grind | grind [wr32])⟩
      · refine sat_zl (wr32_in _) (fun x5 hx5 ax5 bx5 => ?_)
        try simp (disch := omega) only [wr32_i2, wdiv_i2, wrem_i2] at hx5
        refine sat_zg (by first | omega | grind | grind [wr32]) (fun g_9 => ?_)
        refine sat_zl (wr32_in _) (fun x6 hx6 ax6 bx6 => ?_)
        try simp (disch := omega) only [wr32_i2, wdiv_i2, wrem_i2] at hx6
        have hmt := fun q => gx_mt hRI0 p1 x2 (by omega) (by omega) (by omega) (by rw [← hx1]; omega) q
        refine sat_zg (by first | omega | grind | grind [wr32]) (fun g_10 => ?_)
        have ⟨r_12a, r_12b⟩ : -2147483648 ≤ I0 (o0 + 1) x5.toNat ∧ I0 (o0 + 1) x5.toNat < 2147483648 := hRI0.1 (o0 + 1) x5.toNat
        try have r_12many := gx_many hRI0 x5.toNat (by omega) (by omega)
        try have r_12seen := gx_seen hRI0 x5.toNat (by omega) (by omega)
        try have r_12part := gx_part hRI0 x5.toNat (by omega) (by omega)
        try have r_12rows := gx_rows hRI0 x5.toNat (by omega) (by omega) (by omega)
        have ⟨r_13a, r_13b⟩ : -2147483648 ≤ I0 (o0 + 1) x6.toNat ∧ I0 (o0 + 1) x6.toNat < 2147483648 := hRI0.1 (o0 + 1) x6.toNat
        try have r_13many := gx_many hRI0 x6.toNat (by omega) (by omega)
        try have r_13seen := gx_seen hRI0 x6.toNat (by omega) (by omega)
        try have r_13part := gx_part hRI0 x6.toNat (by omega) (by omega)
        try have r_13rows := gx_rows hRI0 x6.toNat (by omega) (by omega) (by omega)
        refine sat_zb (ok_X_comesTo fu o0 p1 (I0 (o0 + 1) x5.toNat) (I0 (o0 + 1) x6.toNat) I0 hfu hRI0 ⟨ap1, bp1⟩ (hRI0.1 (o0 + 1) x5.toNat) (hRI0.1 (o0 + 1) x6.toNat) (by first | omega | (simp (disch := omega) only [wr32_i2, wdiv_i2, wrem_i2]; omega) | grind | grind [wr32])) (fun y7 I8 c_11 ⟨⟨ay7, by7⟩, hRI8, pI8⟩ => ?_)
        have fI8 : ∀ q j, ¬ (q = o0 + 7) → I8 q j = I0 q j := fc_X_comesTo (fun q j => q = o0 + 7) fu o0 p1 (I0 (o0 + 1) x5.toNat) (I0 (o0 + 1) x6.toNat) I0 (fun _ => by simp) c_11
        refine sat_ite (fun q_14 => ?_) (fun q_14 => ?_)
        · exact hret _ _ ⟨ax2, bx2⟩ hRI8 ⟨(by intro q j hq; grind), (by first | omega | (simp (disch := omega) only [wr32_i2, wdiv_i2, wrem_i2]; omega) | grind | grind [wr32])⟩
        · refine sat_zl (wr32_in _) (fun x10 hx10 ax10 bx10 => ?_)
          try simp (disch := omega) only [wr32_i2, wdiv_i2, wrem_i2] at hx10
          exact hR_ x10 I8 ⟨ax10, bx10⟩ hRI8 ⟨(by intro q j hq; grind), (by first | omega | (simp (disch := omega) only [wr32_i2, wdiv_i2, wrem_i2]; omega) | grind | grind [wr32])⟩ (by first | omega | (simp (disch := omega) only [wr32_i2, wdiv_i2, wrem_i2]; omega) | grind | grind [wr32])
    · exact hret _ _ (lit_in rfl) hRI0 ⟨(by intro q j hq; grind), (by first | omega | (simp (disch := omega) only [wr32_i2, wdiv_i2, wrem_i2]; omega) | grind | grind [wr32])⟩
theorem ok_X_firstLine (fu : Nat) (o0 : Nat) (a1 : Int) (I0 : IMem) (hfu : 5000000000 < fu) (hRI0 : GX o0 I0) (qa1 : inr a1) (h0 : 0 ≤ a1 ∧ a1 < 5) : sat (f_X_firstLine fu o0 a1 I0) (fun v I => inr v ∧ GX o0 I ∧ (v = -1 ∨ (16 * a1 ≤ v ∧ v < 16 * a1 + I0 (o0 + 1) (1580 + a1).toNat))) := by
  unfold f_X_firstLine
  obtain ⟨aa1, ba1⟩ := qa1
  refine ok_X_firstLine_2 (Ib := I0) fu o0 a1 hfu ⟨aa1, ba1⟩ (by first | omega | (simp (disch := omega) only [wr32_i2, wdiv_i2, wrem_i2]; omega) | grind | grind [wr32]) (fun v I h1 h2 h3 => sat_zr ⟨h1, h2, (by first | exact trivial | exact h3 | grind)⟩) fu 0 I0 (lit_in rfl) hRI0 ⟨(fun _ _ _ => rfl), (by first | omega | (simp (disch := omega) only [wr32_i2, wdiv_i2, wrem_i2]; omega) | grind | grind [wr32])⟩ (by first | omega | (simp (disch := omega) only [wr32_i2, wdiv_i2, wrem_i2]; omega) | grind | grind [wr32])
theorem ok_X_lineFor_38 {Ib : IMem} (fu : Nat) (k_82 : Int → IMem → Res) (o0 : Nat) (p1 : Int) (p2 : Int) (hfu : 5000000000 < fu) (qp1 : inr p1) (qp2 : inr p2) {Q_ : Int → IMem → Prop} (hk_82 : ∀ (z0 : Int) (I9 : IMem), inr z0 → GX o0 I9 → (I9 = Ib ∧ (0 ≤ z0 ∧ z0 < 6)) → sat (k_82 z0 I9) Q_) (hret : ∀ v I, inr v → GX o0 I → (I = Ib ∧ (False)) → sat (zr v I) Q_) : ∀ (m : Nat) (w3 : Int) (w4 : Int) (I0 : IMem), inr w3 → inr w4 → GX o0 I0 → (I0 = Ib ∧ (0 ≤ w4 ∧ 0 ≤ w3 ∧ w3 < 6)) → (6 - w4).toNat < m → sat (f_X_lineFor_38 fu k_82 o0 p1 p2 m w3 w4 I0) Q_ := by
  intro m
  induction m with
  | zero => intro w3 w4 I0 _ _ _ _ h0; exact absurd h0 (Nat.not_lt_zero _)
  | succ m hR_ =>
    intro w3 w4 I0 ⟨aw3, bw3⟩ ⟨aw4, bw4⟩ hRI0 hinv hmeas
    have einv := hinv.1; replace hinv := hinv.2; subst einv
    show sat (fb_X_lineFor_38 fu k_82 o0 p1 p2 (f_X_lineFor_38 fu k_82 o0 p1 p2 m) w3 w4 I0) Q_
    unfold fb_X_lineFor_38
    obtain ⟨ap1, bp1⟩ := qp1
    obtain ⟨ap2, bp2⟩ := qp2
    refine sat_ite (fun q_1 => ?_) (fun q_1 => ?_)
    · refine sat_zl (wr32_in _) (fun x1 hx1 ax1 bx1 => ?_)
      try simp (disch := omega) only [wr32_i2, wdiv_i2, wrem_i2] at hx1
      refine sat_zg (by first | omega | grind | grind [wr32]) (fun g_2 => ?_)
      refine sat_zl (wr32_in _) (fun x2 hx2 ax2 bx2 => ?_)
      try simp (disch := omega) only [wr32_i2, wdiv_i2, wrem_i2] at hx2
      refine sat_zg (by first | omega | grind | grind [wr32]) (fun g_3 => ?_)
      refine sat_zj (fun k3 ek3 => ?_)
      have hk3 : ∀ (x5 : Int) (I4 : IMem), inr x5 → GX o0 I4 → (I4 = I0 ∧ (0 ≤ x5 ∧ x5 < 6)) → sat (k3 x5 I4) Q_ := by
        intro x5 I4 ⟨ax5, bx5⟩ hRI4 jk3
        subst ek3
        have ejk3 := jk3.1.symm; replace jk3 := jk3.2; subst ejk3
        refine sat_zl (wr32_in _) (fun x6 hx6 ax6 bx6 => ?_)
        try simp (disch := omega) only [wr32_i2, wdiv_i2, wrem_i2] at hx6
        exact hR_ x5 x6 I0 ⟨ax5, bx5⟩ ⟨ax6, bx6⟩ hRI0 ⟨rfl, (by first | omega | (simp (disch := omega) only [wr32_i2, wdiv_i2, wrem_i2]; omega) | grind | grind [wr32])⟩ (by first | omega | (simp (disch := omega) only [wr32_i2, wdiv_i2, wrem_i2]; omega) | grind | grind [wr32])
      clear ek3
      have ⟨r_4a, r_4b⟩ : -2147483648 ≤ I0 (o0 + 1) x1.toNat ∧ I0 (o0 + 1) x1.toNat < 2147483648 := hRI0.1 (o0 + 1) x1.toNat
      try have r_4many := gx_many hRI0 x1.toNat (by omega) (by omega)
      try have r_4seen := gx_seen hRI0 x1.toNat (by omega) (by omega)
      try have r_4part := gx_part hRI0 x1.toNat (by omega) (by omega)
      try have r_4rows := gx_rows hRI0 x1.toNat (by omega) (by omega) (by omega)
      have ⟨r_5a, r_5b⟩ : -2147483648 ≤ I0 (o0 + 1) x2.toNat ∧ I0 (o0 + 1) x2.toNat < 2147483648 := hRI0.1 (o0 + 1) x2.toNat
      try have r_5many := gx_many hRI0 x2.toNat (by omega) (by omega)
      try have r_5seen := gx_seen hRI0 x2.toNat (by omega) (by omega)
      try have r_5part := gx_part hRI0 x2.toNat (by omega) (by omega)
      try have r_5rows := gx_rows hRI0 x2.toNat (by omega) (by omega) (by omega)
      refine sat_ite (fun q_6 => ?_) (fun q_6 => ?_)
      · exact hk3 w4 I0 ⟨aw4, bw4⟩ hRI0 ⟨rfl, (by first | omega | (simp (disch := omega) only [wr32_i2, wdiv_i2, wrem_i2]; omega) | grind | grind [wr32])⟩
      · exact hk3 w3 I0 ⟨aw3, bw3⟩ hRI0 ⟨rfl, (by first | omega | (simp (disch := omega) only [wr32_i2, wdiv_i2, wrem_i2]; omega) | grind | grind [wr32])⟩
    · exact hk_82 w3 I0 ⟨aw3, bw3⟩ hRI0 ⟨rfl, (by first | omega | (simp (disch := omega) only [wr32_i2, wdiv_i2, wrem_i2]; omega) | grind | grind [wr32])⟩
