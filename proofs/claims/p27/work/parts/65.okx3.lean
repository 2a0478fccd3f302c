/-! safety of the reference -/
theorem ok_X_group (fu : Nat) (o0 : Nat) (a1 : Int) (a2 : Int) (a3 : Int) (I0 : IMem) (hfu : 5000000000 < fu) (hRI0 : GX o0 I0) (qa1 : inr a1) (qa2 : inr a2) (qa3 : inr a3) : sat (f_X_group fu o0 a1 a2 a3 I0) (fun v I => inr v ∧ GX o0 I ∧ (True)) := by
  unfold f_X_group
  obtain ⟨aa1, ba1⟩ := qa1
  obtain ⟨aa2, ba2⟩ := qa2
  obtain ⟨aa3, ba3⟩ := qa3
  refine sat_zb (ok_X_isLine fu a1 I0 hfu hRI0.1 ⟨aa1, ba1⟩) (fun y1 I2 c_1 ⟨⟨ay1, by1⟩, _, pI2⟩ => ?_)
  have eI2 := pI2.1.symm; replace pI2 := pI2.2; subst eI2
  refine sat_ite (fun q_2 => ?_) (fun q_2 => ?_)
  · exact sat_zr ⟨(lit_in rfl), hRI0, trivial⟩
  · refine sat_zb (ok_X_isIn fu a2 0 39 I0 hfu hRI0.1 ⟨aa2, ba2⟩ (lit_in rfl) (lit_in rfl)) (fun y4 I5 c_3 ⟨⟨ay4, by4⟩, _, pI5⟩ => ?_)
    have eI5 := pI5.1.symm; replace pI5 := pI5.2; subst eI5
    refine sat_ite (fun q_4 => ?_) (fun q_4 => ?_)
    · exact sat_zr ⟨(lit_in rfl), hRI0, trivial⟩
    · refine sat_zb (ok_X_isIn fu a3 0 6 I0 hfu hRI0.1 ⟨aa3, ba3⟩ (lit_in rfl) (lit_in rfl)) (fun y7 I8 c_5 ⟨⟨ay7, by7⟩, _, pI8⟩ => ?_)
      have eI8 := pI8.1.symm; replace pI8 := pI8.2; subst eI8
      refine sat_ite (fun q_6 => ?_) (fun q_6 => ?_)
      · exact sat_zr ⟨(lit_in rfl), hRI0, trivial⟩
      · refine sat_zl (wr32_in _) (fun x10 hx10 ax10 bx10 => ?_)
        try simp (disch := omega) only [wr32_i2, wdiv_i2, wrem_i2] at hx10
        refine sat_zg (by first | omega | grind | grind [wr32]) (fun g_7 => ?_)
        have ⟨r_8a, r_8b⟩ : -2147483648 ≤ I0 (o0 + 1) x10.toNat ∧ I0 (o0 + 1) x10.toNat < 2147483648 := hRI0.1 (o0 + 1) x10.toNat
        try have r_8many := gx_many hRI0 x10.toNat (by omega) (by omega)
        try have r_8seen := gx_seen hRI0 x10.toNat (by omega) (by omega)
        try have r_8part := gx_part hRI0 x10.toNat (by omega) (by omega)
        try have r_8rows := gx_rows hRI0 x10.toNat (by omega) (by omega) (by omega)
        refine sat_ite (fun q_9 => ?_) (fun q_9 => ?_)
        · refine sat_ite (fun q_10 => ?_) (fun q_10 => ?_)
          · have ⟨r_12a, r_12b⟩ : -2147483648 ≤ I0 (o0 + 1) 1 ∧ I0 (o0 + 1) 1 < 2147483648 := hRI0.1 (o0 + 1) 1
            have r_12g := gx_a hRI0
            refine sat_zb (ok_X_worth fu o0 a1 a2 (I0 (o0 + 1) 1) 0 I0 hfu hRI0 ⟨aa1, ba1⟩ ⟨aa2, ba2⟩ (hRI0.1 (o0 + 1) 1) (lit_in rfl) (by first | omega | (simp (disch := omega) only [wr32_i2, wdiv_i2, wrem_i2]; omega) | grind | grind [wr32])) (fun y14 I15 c_11 ⟨⟨ay14, by14⟩, hRI15, pI15⟩ => ?_)
            have fI15 : ∀ q j, ¬ (q = o0 + 7 ∨ (q = o0 + 8 ∧ j = 1) ∨ (q = o0 + 8 ∧ j = 2) ∨ (q = o0 + 8 ∧ j = 3) ∨ (q = o0 + 8 ∧ j = 4) ∨ (q = o0 + 8 ∧ j = 5) ∨ (q = o0 + 8 ∧ j = 6) ∨ (q = o0 + 8 ∧ j = 7) ∨ (q = o0 + 8 ∧ j = 8) ∨ (q = o0 + 8 ∧ j = 9)) → I15 q j = I0 q j := fc_X_worth (fun q j => q = o0 + 7 ∨ (q = o0 + 8 ∧ j = 1) ∨ (q = o0 + 8 ∧ j = 2) ∨ (q = o0 + 8 ∧ j = 3) ∨ (q = o0 + 8 ∧ j = 4) ∨ (q = o0 + 8 ∧ j = 5) ∨ (q = o0 + 8 ∧ j = 6) ∨ (q = o0 + 8 ∧ j = 7) ∨ (q = o0 + 8 ∧ j = 8) ∨ (q = o0 + 8 ∧ j = 9)) fu o0 a1 a2 (I0 (o0 + 1) 1) 0 I0 (fun _ => by simp) (by simp) (by simp) (by simp) (by simp) (by simp) (by simp) (by simp) (by simp) (by simp) c_11
            exact sat_zr ⟨⟨ay14, by14⟩, hRI15, trivial⟩
          · refine sat_zb (ok_X_of fu o0 a1 a2 a3 I0 hfu hRI0 ⟨aa1, ba1⟩ ⟨aa2, ba2⟩ ⟨aa3, ba3⟩ (by first | omega | (simp (disch := omega) only [wr32_i2, wdiv_i2, wrem_i2]; omega) | grind | grind [wr32])) (fun y11 I12 c_13 ⟨⟨ay11, by11⟩, _, pI12⟩ => ?_)
            have eI12 := pI12.1.symm; replace pI12 := pI12.2; subst eI12
            exact sat_zr ⟨⟨ay11, by11⟩, hRI0, trivial⟩
        · exact sat_zr ⟨(lit_in rfl), hRI0, trivial⟩
theorem ok_X_line_23 {Ib : IMem} (fu : Nat) (k_55 : Int → IMem → Res) (o0 : Nat) (p1 : Int) (p2 : Int) (hfu : 5000000000 < fu) (qp1 : inr p1) (qp2 : inr p2) (hp : 0 ≤ p1 ∧ p1 < 6) {Q_ : Int → IMem → Prop} (hk_55 : ∀ (z0 : Int) (I9 : IMem), inr z0 → GX o0 I9 → (I9 = Ib ∧ (True)) → sat (k_55 z0 I9) Q_) (hret : ∀ v I, inr v → GX o0 I → (I = Ib ∧ (False)) → sat (zr v I) Q_) : ∀ (m : Nat) (w3 : Int) (w4 : Int) (I0 : IMem), inr w3 → inr w4 → GX o0 I0 → (I0 = Ib ∧ (0 ≤ w4)) → (2147483648 - w4).toNat < m → sat (f_X_line_23 fu k_55 o0 p1 p2 m w3 w4 I0) Q_ := by
  intro m
  induction m with
  | zero => intro w3 w4 I0 _ _ _ _ h0; exact absurd h0 (Nat.not_lt_zero _)
  | succ m hR_ =>
    intro w3 w4 I0 ⟨aw3, bw3⟩ ⟨aw4, bw4⟩ hRI0 hinv hmeas
    have einv := hinv.1; replace hinv := hinv.2; subst einv
    show sat (fb_X_line_23 fu k_55 o0 p1 p2 (f_X_line_23 fu k_55 o0 p1 p2 m) w3 w4 I0) Q_
    unfold fb_X_line_23
    obtain ⟨ap1, bp1⟩ := qp1
    obtain ⟨ap2, bp2⟩ := qp2
    refine sat_zl (wr32_in _) (fun x7 hx7 ax7 bx7 => ?_)
    try simp (disch := omega) only [wr32_i2, wdiv_i2, wrem_i2] at hx7
    refine sat_zg (by first | omega | grind | grind [wr32]) (fun g_1 => ?_)
    have ⟨r_2a, r_2b⟩ : -2147483648 ≤ I0 (o0 + 1) x7.toNat ∧ I0 (o0 + 1) x7.toNat < 2147483648 := hRI0.1 (o0 + 1) x7.toNat
    try have r_2many := gx_many hRI0 x7.toNat (by omega) (by omega)
    try have r_2seen := gx_seen hRI0 x7.toNat (by omega) (by omega)
    try have r_2part := gx_part hRI0 x7.toNat (by omega) (by omega)
    try have r_2rows := gx_rows hRI0 x7.toNat (by omega) (by omega) (by omega)
    refine sat_ite (fun q_3 => ?_) (fun q_3 => ?_)
    · refine sat_zb (ok_X_of fu o0 p1 w4 1 I0 hfu hRI0 ⟨ap1, bp1⟩ ⟨aw4, bw4⟩ (lit_in rfl) (by first | omega | (simp (disch := omega) only [wr32_i2, wdiv_i2, wrem_i2]; omega) | grind | grind [wr32])) (fun y8 I9 c_4 ⟨⟨ay8, by8⟩, _, pI9⟩ => ?_)
      have eI9 := pI9.1.symm; replace pI9 := pI9.2; subst eI9
      refine sat_zl (wr32_in _) (fun x11 hx11 ax11 bx11 => ?_)
      try simp (disch := omega) only [wr32_i2, wdiv_i2, wrem_i2] at hx11
      refine sat_zl (wr32_in _) (fun x12 hx12 ax12 bx12 => ?_)
      try simp (disch := omega) only [wr32_i2, wdiv_i2, wrem_i2] at hx12
      exact hR_ x11 x12 I0 ⟨ax11, bx11⟩ ⟨ax12, bx12⟩ hRI0 ⟨rfl, (by first | omega | (simp (disch := omega) only [wr32_i2, wdiv_i2, wrem_i2]; omega) | grind | grind [wr32])⟩ (by first | omega | (simp (disch := omega) only [wr32_i2, wdiv_i2, wrem_i2]; omega) | grind | grind [wr32])
    · exact hk_55 w3 I0 ⟨aw3, bw3⟩ hRI0 ⟨rfl, trivial⟩
theorem ok_X_line (fu : Nat) (o0 : Nat) (a1 : Int) (a2 : Int) (I0 : IMem) (hfu : 5000000000 < fu) (hRI0 : GX o0 I0) (qa1 : inr a1) (qa2 : inr a2) : sat (f_X_line fu o0 a1 a2 I0) (fun v I => inr v ∧ GX o0 I ∧ (I = I0 ∧ (True))) := by
  unfold f_X_line
  obtain ⟨aa1, ba1⟩ := qa1
  obtain ⟨aa2, ba2⟩ := qa2
  refine sat_zb (ok_X_isLine fu a1 I0 hfu hRI0.1 ⟨aa1, ba1⟩) (fun y1 I2 c_1 ⟨⟨ay1, by1⟩, _, pI2⟩ => ?_)
  have eI2 := pI2.1.symm; replace pI2 := pI2.2; subst eI2
  refine sat_ite (fun q_2 => ?_) (fun q_2 => ?_)
  · exact sat_zr ⟨(lit_in rfl), hRI0, ⟨rfl, trivial⟩⟩
  · refine sat_zb (ok_X_isIn fu a2 0 1 I0 hfu hRI0.1 ⟨aa2, ba2⟩ (lit_in rfl) (lit_in rfl)) (fun y4 I5 c_3 ⟨⟨ay4, by4⟩, _, pI5⟩ => ?_)
    have eI5 := pI5.1.symm; replace pI5 := pI5.2; subst eI5
    refine sat_ite (fun q_4 => ?_) (fun q_4 => ?_)
    · exact sat_zr ⟨(lit_in rfl), hRI0, ⟨rfl, trivial⟩⟩
    · refine ok_X_line_23 (Ib := I0) fu _ o0 a1 a2 hfu ⟨aa1, ba1⟩ ⟨aa2, ba2⟩ (by first | omega | (simp (disch := omega) only [wr32_i2, wdiv_i2, wrem_i2]; omega) | grind | grind [wr32]) ?_ (fun v I h1 h2 h3 => sat_zr ⟨h1, h2, (by first | exact h3.elim | exact h3.2.elim)⟩) fu 0 0 I0 (lit_in rfl) (lit_in rfl) hRI0 ⟨rfl, (by first | omega | (simp (disch := omega) only [wr32_i2, wdiv_i2, wrem_i2]; omega) | grind | grind [wr32])⟩ (by first | omega | (simp (disch := omega) only [wr32_i2, wdiv_i2, wrem_i2]; omega) | grind | grind [wr32])
      · intro x14 I13 ⟨ax14, bx14⟩ hRI13 xI13
        have exI13 := xI13.1.symm; replace xI13 := xI13.2; subst exI13
        refine sat_ite (fun q_5 => ?_) (fun q_5 => ?_)
        · refine sat_zl (wr32_in _) (fun x15 hx15 ax15 bx15 => ?_)
          try simp (disch := omega) only [wr32_i2, wdiv_i2, wrem_i2] at hx15
          refine sat_zg (by first | omega | grind | grind [wr32]) (fun g_6 => ?_)
          have ⟨r_7a, r_7b⟩ : -2147483648 ≤ I0 (o0 + 1) x15.toNat ∧ I0 (o0 + 1) x15.toNat < 2147483648 := hRI0.1 (o0 + 1) x15.toNat
          try have r_7many := gx_many hRI0 x15.toNat (by omega) (by omega)
          try have r_7seen := gx_seen hRI0 x15.toNat (by omega) (by omega)
          try have r_7part := gx_part hRI0 x15.toNat (by omega) (by omega)
          try have r_7rows := gx_rows hRI0 x15.toNat (by omega) (by omega) (by omega)
          exact sat_zr ⟨(hRI0.1 (o0 + 1) x15.toNat), hRI0, ⟨rfl, trivial⟩⟩
        · exact sat_zr ⟨⟨ax14, bx14⟩, hRI0, ⟨rfl, trivial⟩⟩
theorem ok_X_pick_74 {Ib : IMem} (fu : Nat) (k_180 : Int → Int → Int → IMem → Res) (o0 : Nat) (p1 : Int) (p2 : Int) (hfu : 5000000000 < fu) (qp1 : inr p1) (qp2 : inr p2) (hpc : ∀ k, k < 240 → Ib (o0 + 13) k ≠ 0 → 1 ≤ Ib (o0 + 1) (141 + 6 * k)) {Q_ : Int → IMem → Prop} (hk_180 : ∀ (z0 : Int) (z1 : Int) (z2 : Int) (I9 : IMem), inr z0 → inr z1 → inr z2 → GX o0 I9 → (I9 = Ib ∧ (z0 + cnt (Ib (o0 + 13)) 240 ≤ 8)) → sat (k_180 z0 z1 z2 I9) Q_) (hret : ∀ v I, inr v → GX o0 I → (I = Ib ∧ (False)) → sat (zr v I) Q_) : ∀ (m : Nat) (w3 : Int) (w4 : Int) (w5 : Int) (w6 : Int) (I0 : IMem), inr w3 → inr w4 → inr w5 → inr w6 → GX o0 I0 → (I0 = Ib ∧ (0 ≤ w6 ∧ w6 ≤ 240 ∧ w3 + cnt (I0 (o0 + 13)) w6.toNat ≤ 8 ∧ -8 * w6 ≤ w3)) → (240 - w6).toNat < m → sat (f_X_pick_74 fu k_180 o0 p1 p2 m w3 w4 w5 w6 I0) Q_ := by
  intro m
  induction m with
  | zero => intro w3 w4 w5 w6 I0 _ _ _ _ _ _ h0; exact absurd h0 (Nat.not_lt_zero _)
  | succ m hR_ =>
    intro w3 w4 w5 w6 I0 ⟨aw3, bw3⟩ ⟨aw4, bw4⟩ ⟨aw5, bw5⟩ ⟨aw6, bw6⟩ hRI0 hinv hmeas
    have einv := hinv.1; replace hinv := hinv.2; subst einv
    show sat (fb_X_pick_74 fu k_180 o0 p1 p2 (f_X_pick_74 fu k_180 o0 p1 p2 m) w3 w4 w5 w6 I0) Q_
    unfold fb_X_pick_74
    obtain ⟨ap1, bp1⟩ := qp1
    obtain ⟨ap2, bp2⟩ := qp2
    have hcs := cnt_s (I0 (o0 + 13)) w6 (by omega)
    refine sat_ite (fun q_1 => ?_) (fun q_1 => ?_)
    · refine sat_zg (by first | omega | grind | grind [wr32]) (fun g_2 => ?_)
      refine sat_zj (fun k11 ek11 => ?_)
      have hk11 : ∀ (x13 : Int) (x14 : Int) (x15 : Int) (I12 : IMem), inr x13 → inr x14 → inr x15 → GX o0 I12 → (I12 = I0 ∧ (x13 + cnt (I0 (o0 + 13)) (w6 + 1).toNat ≤ 8 ∧ -8 * (w6 + 1) ≤ x13)) → sat (k11 x13 x14 x15 I12) Q_ := by
        intro x13 x14 x15 I12 ⟨ax13, bx13⟩ ⟨ax14, bx14⟩ ⟨ax15, bx15⟩ hRI12 jk11
        subst ek11
        have ejk11 := jk11.1.symm; replace jk11 := jk11.2; subst ejk11
        refine sat_zl (wr32_in _) (fun x16 hx16 ax16 bx16 => ?_)
        try simp (disch := omega) only [wr32_i2, wdiv_i2, wrem_i2] at hx16
        exact hR_ x13 x14 x15 x16 I0 ⟨ax13, bx13⟩ ⟨ax14, bx14⟩ ⟨ax15, bx15⟩ ⟨ax16, bx16⟩ hRI0 ⟨rfl, (by first | omega | (simp (disch := omega) only [wr32_i2, wdiv_i2, wrem_i2]; omega) | grind | grind [wr32])⟩ (by first | omega | (simp (disch := omega) only [wr32_i2, wdiv_i2, wrem_i2]; omega) | grind | grind [wr32])
      clear ek11
      have ⟨r_3a, r_3b⟩ : -2147483648 ≤ I0 (o0 + 13) w6.toNat ∧ I0 (o0 + 13) w6.toNat < 2147483648 := hRI0.1 (o0 + 13) w6.toNat
      try have r_3b := gx_b hRI0 w6.toNat (by omega)
      refine sat_ite (fun q_4 => ?_) (fun q_4 => ?_)
      · exact hk11 w3 w4 w5 I0 ⟨aw3, bw3⟩ ⟨aw4, bw4⟩ ⟨aw5, bw5⟩ hRI0 ⟨rfl, (by first | omega | (simp (disch := omega) only [wr32_i2, wdiv_i2, wrem_i2]; omega) | grind | grind [wr32])⟩
      · refine sat_zl (wr32_in _) (fun x17 hx17 ax17 bx17 => ?_)
        try simp (disch := omega) only [wr32_i2, wdiv_i2, wrem_i2] at hx17
        have hk1 := hpc w6.toNat (by omega) (by assumption)
        rw [show 141 + 6 * w6.toNat = x17.toNat by omega] at hk1
        have hk8 := gx_rows hRI0 x17.toNat (by omega) (by omega) (by omega)
        refine sat_zg (by first | omega | grind | grind [wr32]) (fun g_5 => ?_)
        have ⟨r_6a, r_6b⟩ : -2147483648 ≤ I0 (o0 + 1) x17.toNat ∧ I0 (o0 + 1) x17.toNat < 2147483648 := hRI0.1 (o0 + 1) x17.toNat
        try have r_6many := gx_many hRI0 x17.toNat (by omega) (by omega)
        try have r_6seen := gx_seen hRI0 x17.toNat (by omega) (by omega)
        try have r_6part := gx_part hRI0 x17.toNat (by omega) (by omega)
        try have r_6rows := gx_rows hRI0 x17.toNat (by omega) (by omega) (by omega)
        refine sat_zl (wr32_in _) (fun x18 hx18 ax18 bx18 => ?_)
        try simp (disch := omega) only [wr32_i2, wdiv_i2, wrem_i2] at hx18
        refine sat_zl (wr32_in _) (fun x19 hx19 ax19 bx19 => ?_)
        try simp (disch := omega) only [wr32_i2, wdiv_i2, wrem_i2] at hx19
        refine sat_zg (by first | omega | grind | grind [wr32]) (fun g_7 => ?_)
        refine sat_zj (fun k20 ek20 => ?_)
        have hk20 : ∀ (x22 : Int) (I21 : IMem), inr x22 → GX o0 I21 → (I21 = I0 ∧ (True)) → sat (k20 x22 I21) Q_ := by
          intro x22 I21 ⟨ax22, bx22⟩ hRI21 jk20
          subst ek20
          have ejk20 := jk20.1.symm; replace jk20 := jk20.2; subst ejk20
          refine sat_zl (wr32_in _) (fun x23 hx23 ax23 bx23 => ?_)
          try simp (disch := omega) only [wr32_i2, wdiv_i2, wrem_i2] at hx23
          refine sat_zl (wr32_in _) (fun x24 hx24 ax24 bx24 => ?_)
          try simp (disch := omega) only [wr32_i2, wdiv_i2, wrem_i2] at hx24
          refine sat_zg (by first | omega | grind | grind [wr32]) (fun g_8 => ?_)
          have ⟨r_9a, r_9b⟩ : -2147483648 ≤ I0 (o0 + 1) x24.toNat ∧ I0 (o0 + 1) x24.toNat < 2147483648 := hRI0.1 (o0 + 1) x24.toNat
          try have r_9many := gx_many hRI0 x24.toNat (by omega) (by omega)
          try have r_9seen := gx_seen hRI0 x24.toNat (by omega) (by omega)
          try have r_9part := gx_part hRI0 x24.toNat (by omega) (by omega)
          try have r_9rows := gx_rows hRI0 x24.toNat (by omega) (by omega) (by omega)
          refine sat_ite (fun q_10 => ?_) (fun q_10 => ?_)
          · refine sat_zl (wr32_in _) (fun x25 hx25 ax25 bx25 => ?_)
            try simp (disch := omega) only [wr32_i2, wdiv_i2, wrem_i2] at hx25
            exact hk11 x18 x23 x25 I0 ⟨ax18, bx18⟩ ⟨ax23, bx23⟩ ⟨ax25, bx25⟩ hRI0 ⟨rfl, (by first | omega | (simp (disch := omega) only [wr32_i2, wdiv_i2, wrem_i2]; omega) | grind | grind [wr32])⟩
          · refine sat_zl (wr32_in _) (fun x26 hx26 ax26 bx26 => ?_)
            try simp (disch := omega) only [wr32_i2, wdiv_i2, wrem_i2] at hx26
            exact hk11 x18 x23 x26 I0 ⟨ax18, bx18⟩ ⟨ax23, bx23⟩ ⟨ax26, bx26⟩ hRI0 ⟨rfl, (by first | omega | (simp (disch := omega) only [wr32_i2, wdiv_i2, wrem_i2]; omega) | grind | grind [wr32])⟩
        clear ek20
        have ⟨r_11a, r_11b⟩ : -2147483648 ≤ I0 (o0 + 1) x19.toNat ∧ I0 (o0 + 1) x19.toNat < 2147483648 := hRI0.1 (o0 + 1) x19.toNat
        try have r_11many := gx_many hRI0 x19.toNat (by omega) (by omega)
        try have r_11seen := gx_seen hRI0 x19.toNat (by omega) (by omega)
        try have r_11part := gx_part hRI0 x19.toNat (by omega) (by omega)
        try have r_11rows := gx_rows hRI0 x19.toNat (by omega) (by omega) (by omega)
        refine sat_ite (fun q_12 => ?_) (fun q_12 => ?_)
        · exact hk20 1 I0 (lit_in rfl) hRI0 ⟨rfl, trivial⟩
        · exact hk20 0 I0 (lit_in rfl) hRI0 ⟨rfl, trivial⟩
    · exact hk_180 w3 w4 w5 I0 ⟨aw3, bw3⟩ ⟨aw4, bw4⟩ ⟨aw5, bw5⟩ hRI0 ⟨rfl, (by first | omega | (simp (disch := omega) only [wr32_i2, wdiv_i2, wrem_i2]; omega) | grind | grind [wr32])⟩
theorem ok_X_pick (fu : Nat) (o0 : Nat) (a1 : Int) (a2 : Int) (I0 : IMem) (hfu : 5000000000 < fu) (hRI0 : GX o0 I0) (qa1 : inr a1) (qa2 : inr a2) (h0 : PC o0 I0) : sat (f_X_pick fu o0 a1 a2 I0) (fun v I => inr v ∧ GX o0 I ∧ (PC o0 I)) := by
  unfold f_X_pick
  obtain ⟨aa1, ba1⟩ := qa1
  obtain ⟨aa2, ba2⟩ := qa2
  have hgt := gx_t hRI0
  have hpc := h0.1
  have hpk := h0.2
  have hc0 : cnt (I0 (o0 + 13)) (0 : Int).toNat = 0 := rfl
  refine sat_zb (ok_X_isLine fu a1 I0 hfu hRI0.1 ⟨aa1, ba1⟩) (fun y1 I2 c_1 ⟨⟨ay1, by1⟩, _, pI2⟩ => ?_)
  have eI2 := pI2.1.symm; replace pI2 := pI2.2; subst eI2
  refine sat_ite (fun q_2 => ?_) (fun q_2 => ?_)
  · exact sat_zr ⟨(lit_in rfl), hRI0, (by first | exact h0 | exact pc_pick (x := x45) h0 (by omega) (by grind) (by have h := hv1.1; rw [pI32.1] at h; rw [show 141 + 6 * x45.toNat = (140 + 6 * (40 * a1 + a2) + 1).toNat by omega]; exact h) (by intro k; grind) (by intro k; grind) (by rw [eI48, if_pos ⟨rfl, rfl⟩, eI46, if_neg (by omega), eI44, if_neg (by omega)]; exact wr32_i2 (by omega) (by omega)))⟩
  · refine sat_zl (wr32_in _) (fun x4 hx4 ax4 bx4 => ?_)
    try simp (disch := omega) only [wr32_i2, wdiv_i2, wrem_i2] at hx4
    refine sat_zg (by first | omega | grind | grind [wr32]) (fun g_3 => ?_)
    have ⟨r_5a, r_5b⟩ : -2147483648 ≤ I0 (o0 + 1) x4.toNat ∧ I0 (o0 + 1) x4.toNat < 2147483648 := hRI0.1 (o0 + 1) x4.toNat
    try have r_5many := gx_many hRI0 x4.toNat (by omega) (by omega)
    try have r_5seen := gx_seen hRI0 x4.toNat (by omega) (by omega)
    try have r_5part := gx_part hRI0 x4.toNat (by omega) (by omega)
    try have r_5rows := gx_rows hRI0 x4.toNat (by omega) (by omega) (by omega)
    refine sat_zb (ok_X_isIn fu a2 0 (wr32 ((I0 (o0 + 1) x4.toNat) - 1)) I0 hfu hRI0.1 ⟨aa2, ba2⟩ (lit_in rfl) (wr32_in _)) (fun y5 I6 c_4 ⟨⟨ay5, by5⟩, _, pI6⟩ => ?_)
    have eI6 := pI6.1.symm; replace pI6 := pI6.2; subst eI6
    try simp (disch := omega) only [wr32_i2, wdiv_i2, wrem_i2] at pI6
    refine sat_ite (fun q_6 => ?_) (fun q_6 => ?_)
    · exact sat_zr ⟨(lit_in rfl), hRI0, (by first | exact h0 | exact pc_pick (x := x45) h0 (by omega) (by grind) (by have h := hv1.1; rw [pI32.1] at h; rw [show 141 + 6 * x45.toNat = (140 + 6 * (40 * a1 + a2) + 1).toNat by omega]; exact h) (by intro k; grind) (by intro k; grind) (by rw [eI48, if_pos ⟨rfl, rfl⟩, eI46, if_neg (by omega), eI44, if_neg (by omega)]; exact wr32_i2 (by omega) (by omega)))⟩
    · refine sat_zl (wr32_in _) (fun x8 hx8 ax8 bx8 => ?_)
      try simp (disch := omega) only [wr32_i2, wdiv_i2, wrem_i2] at hx8
      refine sat_zg (by first | omega | grind | grind [wr32]) (fun g_7 => ?_)
      have ⟨r_8a, r_8b⟩ : -2147483648 ≤ I0 (o0 + 13) x8.toNat ∧ I0 (o0 + 13) x8.toNat < 2147483648 := hRI0.1 (o0 + 13) x8.toNat
      try have r_8b := gx_b hRI0 x8.toNat (by omega)
      refine sat_ite (fun q_9 => ?_) (fun q_9 => ?_)
      · refine sat_zl (wr32_in _) (fun x9 hx9 ax9 bx9 => ?_)
        try simp (disch := omega) only [wr32_i2, wdiv_i2, wrem_i2] at hx9
        refine sat_zg (by first | omega | grind | grind [wr32]) (fun g_10 => ?_)
        have ⟨r_11a, r_11b⟩ : -2147483648 ≤ I0 (o0 + 1) x9.toNat ∧ I0 (o0 + 1) x9.toNat < 2147483648 := hRI0.1 (o0 + 1) x9.toNat
        try have r_11many := gx_many hRI0 x9.toNat (by omega) (by omega)
        try have r_11seen := gx_seen hRI0 x9.toNat (by omega) (by omega)
        try have r_11part := gx_part hRI0 x9.toNat (by omega) (by omega)
        try have r_11rows := gx_rows hRI0 x9.toNat (by omega) (by omega) (by omega)
        refine sat_ite (fun q_12 => ?_) (fun q_12 => ?_)
        · have ⟨r_13a, r_13b⟩ : -2147483648 ≤ I0 (o0 + 1) 1 ∧ I0 (o0 + 1) 1 < 2147483648 := hRI0.1 (o0 + 1) 1
          have r_13g := gx_a hRI0
          refine sat_zl (hRI0.1 (o0 + 1) 1) (fun x10 hx10 ax10 bx10 => ?_)
          refine ok_X_pick_74 (Ib := I0) fu _ o0 a1 a2 hfu ⟨aa1, ba1⟩ ⟨aa2, ba2⟩ (by first | omega | (simp (disch := omega) only [wr32_i2, wdiv_i2, wrem_i2]; omega) | grind | grind [wr32]) ?_ (fun v I h1 h2 h3 => sat_zr ⟨h1, h2, (by first | exact h3.elim | exact h3.2.elim)⟩) fu x10 0 0 0 I0 ⟨ax10, bx10⟩ (lit_in rfl) (lit_in rfl) (lit_in rfl) hRI0 ⟨rfl, (by first | omega | (simp (disch := omega) only [wr32_i2, wdiv_i2, wrem_i2]; omega) | grind | grind [wr32])⟩ (by first | omega | (simp (disch := omega) only [wr32_i2, wdiv_i2, wrem_i2]; omega) | grind | grind [wr32])
          · intro x28 x29 x30 I27 ⟨ax28, bx28⟩ ⟨ax29, bx29⟩ ⟨ax30, bx30⟩ hRI27 xI27
            have exI27 := xI27.1.symm; replace xI27 := xI27.2; subst exI27
            refine sat_zb (ok_X_of fu o0 a1 a2 1 I0 hfu hRI0 ⟨aa1, ba1⟩ ⟨aa2, ba2⟩ (lit_in rfl) (by first | omega | (simp (disch := omega) only [wr32_i2, wdiv_i2, wrem_i2]; omega) | grind | grind [wr32])) (fun y31 I32 c_14 ⟨⟨ay31, by31⟩, _, pI32⟩ => ?_)
            have eI32 := pI32.1.symm; replace pI32 := pI32.2; subst eI32
            refine sat_ite (fun q_15 => ?_) (fun q_15 => ?_)
            · exact sat_zr ⟨(lit_in rfl), hRI0, (by first | exact h0 | exact pc_pick (x := x45) h0 (by omega) (by grind) (by have h := hv1.1; rw [pI32.1] at h; rw [show 141 + 6 * x45.toNat = (140 + 6 * (40 * a1 + a2) + 1).toNat by omega]; exact h) (by intro k; grind) (by intro k; grind) (by rw [eI48, if_pos ⟨rfl, rfl⟩, eI46, if_neg (by omega), eI44, if_neg (by omega)]; exact wr32_i2 (by omega) (by omega)))⟩
            · refine sat_zb (ok_X_of fu o0 a1 a2 3 I0 hfu hRI0 ⟨aa1, ba1⟩ ⟨aa2, ba2⟩ (lit_in rfl) (by first | omega | (simp (disch := omega) only [wr32_i2, wdiv_i2, wrem_i2]; omega) | grind | grind [wr32])) (fun y34 I35 c_16 ⟨⟨ay34, by34⟩, _, pI35⟩ => ?_)
              have eI35 := pI35.1.symm; replace pI35 := pI35.2; subst eI35
              refine sat_zj (fun k37 ek37 => ?_)
              have hk37 : ∀ (I38 : IMem), GX o0 I38 → (I38 = I0 ∧ (True)) → sat (k37 I38) (fun v I => inr v ∧ GX o0 I ∧ (PC o0 I)) := by
                intro I38  hRI38 jk37
                subst ek37
                have ejk37 := jk37.1.symm; replace jk37 := jk37.2; subst ejk37
                refine sat_ite (fun q_17 => ?_) (fun q_17 => ?_)
                · exact sat_zr ⟨(lit_in rfl), hRI0, (by first | exact h0 | exact pc_pick (x := x45) h0 (by omega) (by grind) (by have h := hv1.1; rw [pI32.1] at h; rw [show 141 + 6 * x45.toNat = (140 + 6 * (40 * a1 + a2) + 1).toNat by omega]; exact h) (by intro k; grind) (by intro k; grind) (by rw [eI48, if_pos ⟨rfl, rfl⟩, eI46, if_neg (by omega), eI44, if_neg (by omega)]; exact wr32_i2 (by omega) (by omega)))⟩
                · refine sat_zb (ok_X_of fu o0 a1 a2 3 I0 hfu hRI0 ⟨aa1, ba1⟩ ⟨aa2, ba2⟩ (lit_in rfl) (by first | omega | (simp (disch := omega) only [wr32_i2, wdiv_i2, wrem_i2]; omega) | grind | grind [wr32])) (fun y39 I40 c_18 ⟨⟨ay39, by39⟩, _, pI40⟩ => ?_)
                  have eI40 := pI40.1.symm; replace pI40 := pI40.2; subst eI40
                  refine sat_zj (fun k42 ek42 => ?_)
                  have hk42 : ∀ (I43 : IMem), GX o0 I43 → (I43 = I0 ∧ (True)) → sat (k42 I43) (fun v I => inr v ∧ GX o0 I ∧ (PC o0 I)) := by
                    intro I43  hRI43 jk42
                    subst ek42
                    have ejk42 := jk42.1.symm; replace jk42 := jk42.2; subst ejk42
                    have hv1 : 1 ≤ y31 ∧ y31 ≤ 8 := pI32.2 rfl (by rw [← hx4]; omega)
                    have hlt : I0 o0 35 ≤ 7 := by omega
                    refine sat_zl (wr32_in _) (fun x45 hx45 ax45 bx45 => ?_)
                    try simp (disch := omega) only [wr32_i2, wdiv_i2, wrem_i2] at hx45
                    refine sat_zg (by first | omega | grind | grind [wr32]) (fun g_19 => ?_)
                    refine sat_zwXn (c := 13) hRI0 (lit_in rfl) (by decide) (by first | omega | (simp (disch := omega) only [wr32_i2, wdiv_i2, wrem_i2]; omega) | grind | grind [wr32]) (fun I44 eI44 hRI44 => ?_)
                    have ⟨r_20a, r_20b⟩ : -2147483648 ≤ I44 o0 35 ∧ I44 o0 35 < 2147483648 := hRI44.1 o0 35
                    have r_20g := gx_t hRI44
                    refine sat_zl (hRI44.1 o0 35) (fun x47 hx47 ax47 bx47 => ?_)
                    refine sat_zg (by first | omega | grind | grind [wr32]) (fun g_21 => ?_)
                    refine sat_zwXn (c := 15) hRI44 (wr32_in _) (by decide) (by first | omega | (simp (disch := omega) only [wr32_i2, wdiv_i2, wrem_i2]; omega) | grind | grind [wr32]) (fun I46 eI46 hRI46 => ?_)
                    have ⟨r_22a, r_22b⟩ : -2147483648 ≤ I46 o0 35 ∧ I46 o0 35 < 2147483648 := hRI46.1 o0 35
                    have r_22g := gx_t hRI46
                    refine sat_zwX0 hRI46 (wr32_in _) (by first | omega | (simp (disch := omega) only [wr32_i2, wdiv_i2, wrem_i2]; omega) | grind | grind [wr32]) (fun I48 eI48 hRI48 => ?_)
                    exact sat_zr ⟨(lit_in rfl), hRI48, (by first | exact h0 | exact pc_pick (x := x45) h0 (by omega) (by grind) (by have h := hv1.1; rw [pI32.1] at h; rw [show 141 + 6 * x45.toNat = (140 + 6 * (40 * a1 + a2) + 1).toNat by omega]; exact h) (by intro k; grind) (by intro k; grind) (by rw [eI48, if_pos ⟨rfl, rfl⟩, eI46, if_neg (by omega), eI44, if_neg (by omega)]; exact wr32_i2 (by omega) (by omega)))⟩
                  clear ek42
                  refine sat_ite (fun q_23 => ?_) (fun q_23 => ?_)
                  · have ⟨r_24a, r_24b⟩ : -2147483648 ≤ I0 o0 35 ∧ I0 o0 35 < 2147483648 := hRI0.1 o0 35
                    have r_24g := gx_t hRI0
                    refine sat_ite (fun q_25 => ?_) (fun q_25 => ?_)
                    · exact sat_zr ⟨(lit_in rfl), hRI0, (by first | exact h0 | exact pc_pick (x := x45) h0 (by omega) (by grind) (by have h := hv1.1; rw [pI32.1] at h; rw [show 141 + 6 * x45.toNat = (140 + 6 * (40 * a1 + a2) + 1).toNat by omega]; exact h) (by intro k; grind) (by intro k; grind) (by rw [eI48, if_pos ⟨rfl, rfl⟩, eI46, if_neg (by omega), eI44, if_neg (by omega)]; exact wr32_i2 (by omega) (by omega)))⟩
                    · exact hk42 I0 hRI0 ⟨rfl, trivial⟩
                  · exact hk42 I0 hRI0 ⟨rfl, trivial⟩
              clear ek37
              refine sat_ite (fun q_26 => ?_) (fun q_26 => ?_)
              · refine sat_ite (fun q_27 => ?_) (fun q_27 => ?_)
                · exact sat_zr ⟨(lit_in rfl), hRI0, (by first | exact h0 | exact pc_pick (x := x45) h0 (by omega) (by grind) (by have h := hv1.1; rw [pI32.1] at h; rw [show 141 + 6 * x45.toNat = (140 + 6 * (40 * a1 + a2) + 1).toNat by omega]; exact h) (by intro k; grind) (by intro k; grind) (by rw [eI48, if_pos ⟨rfl, rfl⟩, eI46, if_neg (by omega), eI44, if_neg (by omega)]; exact wr32_i2 (by omega) (by omega)))⟩
                · exact hk37 I0 hRI0 ⟨rfl, trivial⟩
              · exact hk37 I0 hRI0 ⟨rfl, trivial⟩
        · exact sat_zr ⟨(lit_in rfl), hRI0, (by first | exact h0 | exact pc_pick (x := x45) h0 (by omega) (by grind) (by have h := hv1.1; rw [pI32.1] at h; rw [show 141 + 6 * x45.toNat = (140 + 6 * (40 * a1 + a2) + 1).toNat by omega]; exact h) (by intro k; grind) (by intro k; grind) (by rw [eI48, if_pos ⟨rfl, rfl⟩, eI46, if_neg (by omega), eI44, if_neg (by omega)]; exact wr32_i2 (by omega) (by omega)))⟩
      · exact sat_zr ⟨(lit_in rfl), hRI0, (by first | exact h0 | exact pc_pick (x := x45) h0 (by omega) (by grind) (by have h := hv1.1; rw [pI32.1] at h; rw [show 141 + 6 * x45.toNat = (140 + 6 * (40 * a1 + a2) + 1).toNat by omega]; exact h) (by intro k; grind) (by intro k; grind) (by rw [eI48, if_pos ⟨rfl, rfl⟩, eI46, if_neg (by omega), eI44, if_neg (by omega)]; exact wr32_i2 (by omega) (by omega)))⟩
