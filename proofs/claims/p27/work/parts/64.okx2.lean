/-! safety of the reference -/
theorem ok_X_lineFor (fu : Nat) (o0 : Nat) (a1 : Int) (a2 : Int) (I0 : IMem) (hfu : 5000000000 < fu) (hRI0 : GX o0 I0) (qa1 : inr a1) (qa2 : inr a2) : sat (f_X_lineFor fu o0 a1 a2 I0) (fun v I => inr v ∧ GX o0 I ∧ (0 ≤ v ∧ v ≤ 5)) := by
  unfold f_X_lineFor
  obtain ⟨aa1, ba1⟩ := qa1
  obtain ⟨aa2, ba2⟩ := qa2
  have ⟨r_1a, r_1b⟩ : -2147483648 ≤ I0 o0 22 ∧ I0 o0 22 < 2147483648 := hRI0.1 o0 22
  have r_1g := gx_t hRI0
  refine sat_ite (fun q_2 => ?_) (fun q_2 => ?_)
  · refine ok_X_lineFor_38 (Ib := I0) fu _ o0 a1 a2 hfu ⟨aa1, ba1⟩ ⟨aa2, ba2⟩ ?_ (fun v I h1 h2 h3 => sat_zr ⟨h1, h2, (by first | exact h3.elim | exact h3.2.elim)⟩) fu 0 1 I0 (lit_in rfl) (lit_in rfl) hRI0 ⟨rfl, (by first | omega | (simp (disch := omega) only [wr32_i2, wdiv_i2, wrem_i2]; omega) | grind | grind [wr32])⟩ (by first | omega | (simp (disch := omega) only [wr32_i2, wdiv_i2, wrem_i2]; omega) | grind | grind [wr32])
    · intro x8 I7 ⟨ax8, bx8⟩ hRI7 xI7
      have exI7 := xI7.1.symm; replace xI7 := xI7.2; subst exI7
      refine sat_zwXn (c := 8) hRI0 ⟨aa1, ba1⟩ (by decide) (Or.inl (by decide)) (fun I9 eI9 hRI9 => ?_)
      refine sat_zwXn (c := 8) hRI9 ⟨aa2, ba2⟩ (by decide) (Or.inl (by decide)) (fun I10 eI10 hRI10 => ?_)
      refine sat_zwXn (c := 8) hRI10 ⟨ax8, bx8⟩ (by decide) (Or.inl (by decide)) (fun I11 eI11 hRI11 => ?_)
      have ⟨r_3a, r_3b⟩ : -2147483648 ≤ I11 (o0 + 1) 130 ∧ I11 (o0 + 1) 130 < 2147483648 := hRI11.1 (o0 + 1) 130
      refine sat_zwXn (c := 8) hRI11 (hRI11.1 (o0 + 1) 130) (by decide) (Or.inl (by decide)) (fun I12 eI12 hRI12 => ?_)
      refine sat_zb (ok_X_firstLine fu o0 4 I12 hfu hRI12 (lit_in rfl) (by first | omega | (simp (disch := omega) only [wr32_i2, wdiv_i2, wrem_i2]; omega) | grind | grind [wr32])) (fun y13 I14 c_4 ⟨⟨ay13, by13⟩, hRI14, pI14⟩ => ?_)
      have fI14 : ∀ q j, ¬ (q = o0 + 7) → I14 q j = I12 q j := fc_X_firstLine (fun q j => q = o0 + 7) fu o0 4 I12 (fun _ => by simp) c_4
      have hlm := gx_lm hRI12 4 (by decide) (by decide)
      have hz : ((1580 : Int) + 4).toNat = 1584 := rfl
      rw [hz] at hlm pI14
      have hfr := fI14 (o0 + 1) 1584 (by omega)
      have hval := gx_val hRI14 y13
      refine sat_ite (fun q_5 => ?_) (fun q_5 => ?_)
      · exact sat_zr ⟨(lit_in rfl), hRI14, (by first | omega | (simp (disch := omega) only [wr32_i2, wdiv_i2, wrem_i2]; omega) | grind | grind [wr32])⟩
      · refine sat_zl (wr32_in _) (fun x16 hx16 ax16 bx16 => ?_)
        try simp (disch := omega) only [wr32_i2, wdiv_i2, wrem_i2] at hx16
        refine sat_zg (by first | omega | grind | grind [wr32]) (fun g_6 => ?_)
        have ⟨r_7a, r_7b⟩ : -2147483648 ≤ I14 (o0 + 1) x16.toNat ∧ I14 (o0 + 1) x16.toNat < 2147483648 := hRI14.1 (o0 + 1) x16.toNat
        try have r_7many := gx_many hRI14 x16.toNat (by omega) (by omega)
        try have r_7seen := gx_seen hRI14 x16.toNat (by omega) (by omega)
        try have r_7part := gx_part hRI14 x16.toNat (by omega) (by omega)
        try have r_7rows := gx_rows hRI14 x16.toNat (by omega) (by omega) (by omega)
        exact sat_zr ⟨(hRI14.1 (o0 + 1) x16.toNat), hRI14, (by first | omega | (simp (disch := omega) only [wr32_i2, wdiv_i2, wrem_i2]; omega) | grind | grind [wr32])⟩
  · refine sat_ite (fun q_8 => ?_) (fun q_8 => ?_)
    · refine sat_ite (fun q_9 => ?_) (fun q_9 => ?_)
      · try simp (disch := omega) only [wr32_i2, wdiv_i2, wrem_i2] at q_9
        exact sat_zr ⟨(lit_in rfl), hRI0, (by first | omega | (simp (disch := omega) only [wr32_i2, wdiv_i2, wrem_i2]; omega) | grind | grind [wr32])⟩
      · try simp (disch := omega) only [wr32_i2, wdiv_i2, wrem_i2] at q_9
        exact sat_zr ⟨(lit_in rfl), hRI0, (by first | omega | (simp (disch := omega) only [wr32_i2, wdiv_i2, wrem_i2]; omega) | grind | grind [wr32])⟩
    · exact sat_zr ⟨(lit_in rfl), hRI0, (by first | omega | (simp (disch := omega) only [wr32_i2, wdiv_i2, wrem_i2]; omega) | grind | grind [wr32])⟩
theorem ok_X_cell (fu : Nat) (a0 : Int) (a1 : Int) (I0 : IMem) (hfu : 5000000000 < fu) (hRI0 : RG I0) (qa0 : inr a0) (qa1 : inr a1) (h0 : 0 ≤ a0 ∧ a0 < 6 ∧ 0 ≤ a1 ∧ a1 < 41) : sat (f_X_cell fu a0 a1 I0) (fun v I => inr v ∧ RG I ∧ (I = I0 ∧ (v = 140 + 6 * (40 * a0 + a1)))) := by
  unfold f_X_cell
  obtain ⟨aa0, ba0⟩ := qa0
  obtain ⟨aa1, ba1⟩ := qa1
  exact sat_zr ⟨(wr32_in _), hRI0, ⟨rfl, (by first | omega | (simp (disch := omega) only [wr32_i2, wdiv_i2, wrem_i2]; omega) | grind | grind [wr32])⟩⟩
theorem ok_X_stands (fu : Nat) (o0 : Nat) (a1 : Int) (a2 : Int) (a3 : Int) (a4 : Int) (a5 : Int) (a6 : Int) (a7 : Int) (I0 : IMem) (hfu : 5000000000 < fu) (hRI0 : GX o0 I0) (qa1 : inr a1) (qa2 : inr a2) (qa3 : inr a3) (qa4 : inr a4) (qa5 : inr a5) (qa6 : inr a6) (qa7 : inr a7) (h0 : 0 ≤ a1 ∧ a1 ≤ 5 ∧ 1 ≤ a3 ∧ a3 ≤ 8) : sat (f_X_stands fu o0 a1 a2 a3 a4 a5 a6 a7 I0) (fun v I => inr v ∧ GX o0 I ∧ ((v = 0 ∨ v = 1) ∧ (∀ j : Nat, j < 76 → I (o0 + 1) j = I0 (o0 + 1) j) ∧ (∀ k : Nat, k < 240 → 1 ≤ I0 (o0 + 1) (141 + 6 * k) → 1 ≤ I (o0 + 1) (141 + 6 * k)))) := by
  unfold f_X_stands
  obtain ⟨aa1, ba1⟩ := qa1
  obtain ⟨aa2, ba2⟩ := qa2
  obtain ⟨aa3, ba3⟩ := qa3
  obtain ⟨aa4, ba4⟩ := qa4
  obtain ⟨aa5, ba5⟩ := qa5
  obtain ⟨aa6, ba6⟩ := qa6
  obtain ⟨aa7, ba7⟩ := qa7
  refine sat_zl (wr32_in _) (fun x1 hx1 ax1 bx1 => ?_)
  try simp (disch := omega) only [wr32_i2, wdiv_i2, wrem_i2] at hx1
  refine sat_zg (by first | omega | grind | grind [wr32]) (fun g_1 => ?_)
  have ⟨r_2a, r_2b⟩ : -2147483648 ≤ I0 (o0 + 1) x1.toNat ∧ I0 (o0 + 1) x1.toNat < 2147483648 := hRI0.1 (o0 + 1) x1.toNat
  try have r_2many := gx_many hRI0 x1.toNat (by omega) (by omega)
  try have r_2seen := gx_seen hRI0 x1.toNat (by omega) (by omega)
  try have r_2part := gx_part hRI0 x1.toNat (by omega) (by omega)
  try have r_2rows := gx_rows hRI0 x1.toNat (by omega) (by omega) (by omega)
  refine sat_ite (fun q_3 => ?_) (fun q_3 => ?_)
  · have ⟨r_4a, r_4b⟩ : -2147483648 ≤ I0 (o0 + 1) 76 ∧ I0 (o0 + 1) 76 < 2147483648 := hRI0.1 (o0 + 1) 76
    refine sat_zwX1 hRI0 (wr32_in _) (cw_lit rfl) (fun I20 eI20 hRI20 => ?_)
    refine sat_zj (fun k21 ek21 => ?_)
    have hk21 : ∀ (x23 : Int) (I22 : IMem), inr x23 → GX o0 I22 → (I22 = I20 ∧ (x23 = 0 ∨ x23 = 1)) → sat (k21 x23 I22) (fun v I => inr v ∧ GX o0 I ∧ ((v = 0 ∨ v = 1) ∧ (∀ j : Nat, j < 76 → I (o0 + 1) j = I0 (o0 + 1) j) ∧ (∀ k : Nat, k < 240 → 1 ≤ I0 (o0 + 1) (141 + 6 * k) → 1 ≤ I (o0 + 1) (141 + 6 * k)))) := by
      intro x23 I22 ⟨ax23, bx23⟩ hRI22 jk21
      subst ek21
      have ejk21 := jk21.1.symm; replace jk21 := jk21.2; subst ejk21
      refine sat_zg (by first | omega | grind | grind [wr32]) (fun g_5 => ?_)
      refine sat_zwX0 hRI20 ⟨ax23, bx23⟩ (by first | omega | (simp (disch := omega) only [wr32_i2, wdiv_i2, wrem_i2]; omega) | grind | grind [wr32]) (fun I24 eI24 hRI24 => ?_)
      exact sat_zr ⟨(lit_in rfl), hRI24, ⟨(by omega), (by intro j hj; first | (rw [eI19, if_neg (by omega), eI16, if_neg (by omega), eI14, if_neg (by omega), eI12, if_neg (by omega), eI10, if_neg (by omega), eI8, if_neg (by omega), eI6, if_neg (by omega)]) | grind), (by intro k hk h; first | (rw [eI19, if_neg (by omega), eI16, if_neg (by omega), eI14, if_neg (by omega), eI12, if_neg (by omega), eI10, if_neg (by omega), eI8]; split; omega; rw [eI6, if_neg (by omega)]; exact h) | (rw [eI24, if_neg (by omega), eI20, if_neg (by omega)]; exact h))⟩⟩
    clear ek21
    have ⟨r_6a, r_6b⟩ : -2147483648 ≤ I20 o0 24 ∧ I20 o0 24 < 2147483648 := hRI20.1 o0 24
    refine sat_ite (fun q_7 => ?_) (fun q_7 => ?_)
    · have ⟨r_8a, r_8b⟩ : -2147483648 ≤ I20 o0 23 ∧ I20 o0 23 < 2147483648 := hRI20.1 o0 23
      refine sat_ite (fun q_9 => ?_) (fun q_9 => ?_)
      · exact hk21 1 I20 (lit_in rfl) hRI20 ⟨rfl, (by first | omega | (simp (disch := omega) only [wr32_i2, wdiv_i2, wrem_i2]; omega) | grind | grind [wr32])⟩
      · exact hk21 0 I20 (lit_in rfl) hRI20 ⟨rfl, (by first | omega | (simp (disch := omega) only [wr32_i2, wdiv_i2, wrem_i2]; omega) | grind | grind [wr32])⟩
    · exact hk21 1 I20 (lit_in rfl) hRI20 ⟨rfl, (by first | omega | (simp (disch := omega) only [wr32_i2, wdiv_i2, wrem_i2]; omega) | grind | grind [wr32])⟩
  · refine sat_zl (wr32_in _) (fun x2 hx2 ax2 bx2 => ?_)
    try simp (disch := omega) only [wr32_i2, wdiv_i2, wrem_i2] at hx2
    have e21 : x2 = x1 := by omega
    subst e21
    refine sat_zg (by first | omega | grind | grind [wr32]) (fun g_10 => ?_)
    have ⟨r_12a, r_12b⟩ : -2147483648 ≤ I0 (o0 + 1) x2.toNat ∧ I0 (o0 + 1) x2.toNat < 2147483648 := hRI0.1 (o0 + 1) x2.toNat
    try have r_12many := gx_many hRI0 x2.toNat (by omega) (by omega)
    try have r_12seen := gx_seen hRI0 x2.toNat (by omega) (by omega)
    try have r_12part := gx_part hRI0 x2.toNat (by omega) (by omega)
    try have r_12rows := gx_rows hRI0 x2.toNat (by omega) (by omega) (by omega)
    refine sat_zb (ok_X_cell fu a1 (I0 (o0 + 1) x2.toNat) I0 hfu hRI0.1 ⟨aa1, ba1⟩ (hRI0.1 (o0 + 1) x2.toNat) (by first | omega | (simp (disch := omega) only [wr32_i2, wdiv_i2, wrem_i2]; omega) | grind | grind [wr32])) (fun y3 I4 c_11 ⟨⟨ay3, by3⟩, _, pI4⟩ => ?_)
    have eI4 := pI4.1.symm; replace pI4 := pI4.2; subst eI4
    refine sat_zl (wr32_in _) (fun x7 hx7 ax7 bx7 => ?_)
    try simp (disch := omega) only [wr32_i2, wdiv_i2, wrem_i2] at hx7
    refine sat_zg (by first | omega | grind | grind [wr32]) (fun g_13 => ?_)
    refine sat_zwX1 hRI0 ⟨aa2, ba2⟩ (cw_grp (by first | omega | (simp (disch := omega) only [wr32_i2, wdiv_i2, wrem_i2]; omega) | grind)) (fun I6 eI6 hRI6 => ?_)
    refine sat_zl (wr32_in _) (fun x9 hx9 ax9 bx9 => ?_)
    try simp (disch := omega) only [wr32_i2, wdiv_i2, wrem_i2] at hx9
    refine sat_zg (by first | omega | grind | grind [wr32]) (fun g_14 => ?_)
    refine sat_zwX1 hRI6 ⟨aa3, ba3⟩ (cw_sz (by first | omega | (simp (disch := omega) only [wr32_i2, wdiv_i2, wrem_i2]; omega) | grind)) (fun I8 eI8 hRI8 => ?_)
    refine sat_zl (wr32_in _) (fun x11 hx11 ax11 bx11 => ?_)
    try simp (disch := omega) only [wr32_i2, wdiv_i2, wrem_i2] at hx11
    refine sat_zg (by first | omega | grind | grind [wr32]) (fun g_15 => ?_)
    refine sat_zwX1 hRI8 ⟨aa4, ba4⟩ (cw_grp (by first | omega | (simp (disch := omega) only [wr32_i2, wdiv_i2, wrem_i2]; omega) | grind)) (fun I10 eI10 hRI10 => ?_)
    refine sat_zl (wr32_in _) (fun x13 hx13 ax13 bx13 => ?_)
    try simp (disch := omega) only [wr32_i2, wdiv_i2, wrem_i2] at hx13
    refine sat_zg (by first | omega | grind | grind [wr32]) (fun g_16 => ?_)
    refine sat_zwX1 hRI10 ⟨aa5, ba5⟩ (cw_grp (by first | omega | (simp (disch := omega) only [wr32_i2, wdiv_i2, wrem_i2]; omega) | grind)) (fun I12 eI12 hRI12 => ?_)
    refine sat_zl (wr32_in _) (fun x15 hx15 ax15 bx15 => ?_)
    try simp (disch := omega) only [wr32_i2, wdiv_i2, wrem_i2] at hx15
    refine sat_zg (by first | omega | grind | grind [wr32]) (fun g_17 => ?_)
    refine sat_zwX1 hRI12 ⟨aa6, ba6⟩ (cw_grp (by first | omega | (simp (disch := omega) only [wr32_i2, wdiv_i2, wrem_i2]; omega) | grind)) (fun I14 eI14 hRI14 => ?_)
    refine sat_zl (wr32_in _) (fun x17 hx17 ax17 bx17 => ?_)
    try simp (disch := omega) only [wr32_i2, wdiv_i2, wrem_i2] at hx17
    refine sat_zg (by first | omega | grind | grind [wr32]) (fun g_18 => ?_)
    refine sat_zwX1 hRI14 ⟨aa7, ba7⟩ (cw_grp (by first | omega | (simp (disch := omega) only [wr32_i2, wdiv_i2, wrem_i2]; omega) | grind)) (fun I16 eI16 hRI16 => ?_)
    refine sat_zl (wr32_in _) (fun x18 hx18 ax18 bx18 => ?_)
    try simp (disch := omega) only [wr32_i2, wdiv_i2, wrem_i2] at hx18
    have e18 : x18 = x2 := by omega
    have m16 : I16 (o0 + 1) x18.toNat = I0 (o0 + 1) x2.toNat := by rw [e18, eI16, if_neg (by omega), eI14, if_neg (by omega), eI12, if_neg (by omega), eI10, if_neg (by omega), eI8, if_neg (by omega), eI6, if_neg (by omega)]
    have s16 : I16 (o0 + 1) x9.toNat = a3 := by rw [eI16, if_neg (by omega), eI14, if_neg (by omega), eI12, if_neg (by omega), eI10, if_neg (by omega), eI8, if_pos (by omega)]
    refine sat_zg (by first | omega | grind | grind [wr32]) (fun g_19 => ?_)
    refine sat_zg (by first | omega | grind | grind [wr32]) (fun g_20 => ?_)
    have ⟨r_21a, r_21b⟩ : -2147483648 ≤ I16 (o0 + 1) x18.toNat ∧ I16 (o0 + 1) x18.toNat < 2147483648 := hRI16.1 (o0 + 1) x18.toNat
    try have r_21many := gx_many hRI16 x18.toNat (by omega) (by omega)
    try have r_21seen := gx_seen hRI16 x18.toNat (by omega) (by omega)
    try have r_21part := gx_part hRI16 x18.toNat (by omega) (by omega)
    try have r_21rows := gx_rows hRI16 x18.toNat (by omega) (by omega) (by omega)
    refine sat_zwX1 hRI16 (wr32_in _) (cw_130 (by rw [m16, wr32_i2 (by omega) (by omega)]; refine ⟨by omega, by omega, by omega, by omega, Or.inr ?_⟩; rw [show 141 + 6 * (40 * (x18.toNat - 130) + (I0 (o0 + 1) x2.toNat).toNat) = x9.toNat by omega, s16]; omega)) (fun I19 eI19 hRI19 => ?_)
    exact sat_zr ⟨(lit_in rfl), hRI19, ⟨(by omega), (by intro j hj; first | (rw [eI19, if_neg (by omega), eI16, if_neg (by omega), eI14, if_neg (by omega), eI12, if_neg (by omega), eI10, if_neg (by omega), eI8, if_neg (by omega), eI6, if_neg (by omega)]) | grind), (by intro k hk h; first | (rw [eI19, if_neg (by omega), eI16, if_neg (by omega), eI14, if_neg (by omega), eI12, if_neg (by omega), eI10, if_neg (by omega), eI8]; split; omega; rw [eI6, if_neg (by omega)]; exact h) | (rw [eI24, if_neg (by omega), eI20, if_neg (by omega)]; exact h))⟩⟩
theorem ok_X_comes (fu : Nat) (o0 : Nat) (a1 : Int) (a2 : Int) (a3 : Int) (I0 : IMem) (hfu : 5000000000 < fu) (hRI0 : GX o0 I0) (qa1 : inr a1) (qa2 : inr a2) (qa3 : inr a3) (h0 : 1 ≤ a1 ∧ a1 ≤ 8) : sat (f_X_comes fu o0 a1 a2 a3 I0) (fun v I => inr v ∧ GX o0 I ∧ ((∀ j : Nat, j < 76 → j ≠ 7 → I (o0 + 1) j = I0 (o0 + 1) j) ∧ (∀ k : Nat, k < 240 → 1 ≤ I0 (o0 + 1) (141 + 6 * k) → 1 ≤ I (o0 + 1) (141 + 6 * k)))) := by
  unfold f_X_comes
  obtain ⟨aa1, ba1⟩ := qa1
  obtain ⟨aa2, ba2⟩ := qa2
  obtain ⟨aa3, ba3⟩ := qa3
  refine sat_zb (ok_X_lineFor fu o0 a2 a3 I0 hfu hRI0 ⟨aa2, ba2⟩ ⟨aa3, ba3⟩) (fun y1 I2 c_1 ⟨⟨ay1, by1⟩, hRI2, pI2⟩ => ?_)
  have fI2 : ∀ q j, ¬ (q = o0 + 7 ∨ (q = o0 + 8 ∧ j = 1) ∨ (q = o0 + 8 ∧ j = 7) ∨ (q = o0 + 8 ∧ j = 10) ∨ (q = o0 + 8 ∧ j = 11)) → I2 q j = I0 q j := fc_X_lineFor (fun q j => q = o0 + 7 ∨ (q = o0 + 8 ∧ j = 1) ∨ (q = o0 + 8 ∧ j = 7) ∨ (q = o0 + 8 ∧ j = 10) ∨ (q = o0 + 8 ∧ j = 11)) fu o0 a2 a3 I0 (fun _ => by simp) (by simp) (by simp) (by simp) (by simp) c_1
  have ⟨r_2a, r_2b⟩ : -2147483648 ≤ I2 (o0 + 1) 7 ∧ I2 (o0 + 1) 7 < 2147483648 := hRI2.1 (o0 + 1) 7
  refine sat_zwX1 hRI2 (wr32_in _) (cw_lit rfl) (fun I4 eI4 hRI4 => ?_)
  have ⟨r_4a, r_4b⟩ : -2147483648 ≤ I4 (o0 + 1) 7 ∧ I4 (o0 + 1) 7 < 2147483648 := hRI4.1 (o0 + 1) 7
  refine sat_zb (ok_X_stands fu o0 y1 (wr32 ((I4 (o0 + 1) 7) - 1)) a1 a2 a3 0 0 I4 hfu hRI4 ⟨ay1, by1⟩ (wr32_in _) ⟨aa1, ba1⟩ ⟨aa2, ba2⟩ ⟨aa3, ba3⟩ (lit_in rfl) (lit_in rfl) (by first | omega | (simp (disch := omega) only [wr32_i2, wdiv_i2, wrem_i2]; omega) | grind | grind [wr32])) (fun y5 I6 c_3 ⟨⟨ay5, by5⟩, hRI6, pI6⟩ => ?_)
  try simp (disch := omega) only [wr32_i2, wdiv_i2, wrem_i2] at pI6
  have fI6 : ∀ q j, ¬ (q = o0 + 1 ∨ (q = o0 ∧ j = 24)) → I6 q j = I4 q j := fc_X_stands (fun q j => q = o0 + 1 ∨ (q = o0 ∧ j = 24)) fu o0 y1 (wr32 ((I4 (o0 + 1) 7) - 1)) a1 a2 a3 0 0 I4 (fun _ => by simp) (by simp) c_3
  refine sat_ite (fun q_5 => ?_) (fun q_5 => ?_)
  · exact sat_zr ⟨(lit_in rfl), hRI6, ⟨fun j hj h7 => (pI6.2.1 j hj).trans (by rw [eI4, if_neg (by omega)]; exact fI2 _ _ (by omega)), fun k hk h => pI6.2.2 k hk (by rw [eI4, if_neg (by omega), fI2 _ _ (by omega)]; exact h)⟩⟩
  · exact sat_zr ⟨⟨ay1, by1⟩, hRI6, ⟨fun j hj h7 => (pI6.2.1 j hj).trans (by rw [eI4, if_neg (by omega)]; exact fI2 _ _ (by omega)), fun k hk h => pI6.2.2 k hk (by rw [eI4, if_neg (by omega), fI2 _ _ (by omega)]; exact h)⟩⟩
theorem ok_X_come (fu : Nat) (o0 : Nat) (a1 : Int) (a2 : Int) (a3 : Int) (I0 : IMem) (hfu : 5000000000 < fu) (hRI0 : GX o0 I0) (qa1 : inr a1) (qa2 : inr a2) (qa3 : inr a3) : sat (f_X_come fu o0 a1 a2 a3 I0) (fun v I => inr v ∧ GX o0 I ∧ ((∀ j : Nat, j < 76 → j ≠ 7 → I (o0 + 1) j = I0 (o0 + 1) j) ∧ (∀ k : Nat, k < 240 → 1 ≤ I0 (o0 + 1) (141 + 6 * k) → 1 ≤ I (o0 + 1) (141 + 6 * k)))) := by
  unfold f_X_come
  obtain ⟨aa1, ba1⟩ := qa1
  obtain ⟨aa2, ba2⟩ := qa2
  obtain ⟨aa3, ba3⟩ := qa3
  refine sat_zb (ok_X_isGroup fu a1 a2 a3 I0 hfu hRI0.1 ⟨aa1, ba1⟩ ⟨aa2, ba2⟩ ⟨aa3, ba3⟩) (fun y1 I2 c_1 ⟨⟨ay1, by1⟩, _, pI2⟩ => ?_)
  have eI2 := pI2.1.symm; replace pI2 := pI2.2; subst eI2
  refine sat_ite (fun q_2 => ?_) (fun q_2 => ?_)
  · exact sat_zr ⟨(lit_in rfl), hRI0, (by first | exact pI5 | exact ⟨fun j _ _ => rfl, fun k _ h => h⟩)⟩
  · refine sat_zb (ok_X_comes fu o0 a1 a2 a3 I0 hfu hRI0 ⟨aa1, ba1⟩ ⟨aa2, ba2⟩ ⟨aa3, ba3⟩ (by first | omega | (simp (disch := omega) only [wr32_i2, wdiv_i2, wrem_i2]; omega) | grind | grind [wr32])) (fun y4 I5 c_3 ⟨⟨ay4, by4⟩, hRI5, pI5⟩ => ?_)
    have fI5 : ∀ q j, ¬ (q = o0 + 1 ∨ q = o0 + 7 ∨ (q = o0 ∧ j = 24) ∨ (q = o0 + 8 ∧ j = 1) ∨ (q = o0 + 8 ∧ j = 7) ∨ (q = o0 + 8 ∧ j = 10) ∨ (q = o0 + 8 ∧ j = 11)) → I5 q j = I0 q j := fc_X_comes (fun q j => q = o0 + 1 ∨ q = o0 + 7 ∨ (q = o0 ∧ j = 24) ∨ (q = o0 + 8 ∧ j = 1) ∨ (q = o0 + 8 ∧ j = 7) ∨ (q = o0 + 8 ∧ j = 10) ∨ (q = o0 + 8 ∧ j = 11)) fu o0 a1 a2 a3 I0 (fun _ => by simp) (fun _ => by simp) (by simp) (by simp) (by simp) (by simp) (by simp) c_3
    exact sat_zr ⟨⟨ay4, by4⟩, hRI5, (by first | exact pI5 | exact ⟨fun j _ _ => rfl, fun k _ h => h⟩)⟩
theorem ok_X_of (fu : Nat) (o0 : Nat) (a1 : Int) (a2 : Int) (a3 : Int) (I0 : IMem) (hfu : 5000000000 < fu) (hRI0 : GX o0 I0) (qa1 : inr a1) (qa2 : inr a2) (qa3 : inr a3) (h0 : 0 ≤ a1 ∧ a1 < 6 ∧ 0 ≤ a2 ∧ a2 < 40 ∧ 0 ≤ a3 ∧ a3 < 6) : sat (f_X_of fu o0 a1 a2 a3 I0) (fun v I => inr v ∧ GX o0 I ∧ (I = I0 ∧ (v = I0 (o0 + 1) (140 + 6 * (40 * a1 + a2) + a3).toNat ∧ (a3 = 1 → a2 < I0 (o0 + 1) (130 + a1).toNat → 1 ≤ v ∧ v ≤ 8)))) := by
  unfold f_X_of
  obtain ⟨aa1, ba1⟩ := qa1
  obtain ⟨aa2, ba2⟩ := qa2
  obtain ⟨aa3, ba3⟩ := qa3
  have hsz := gx_size hRI0 a1 a2
  refine sat_zb (ok_X_cell fu a1 a2 I0 hfu hRI0.1 ⟨aa1, ba1⟩ ⟨aa2, ba2⟩ (by first | omega | (simp (disch := omega) only [wr32_i2, wdiv_i2, wrem_i2]; omega) | grind | grind [wr32])) (fun y1 I2 c_1 ⟨⟨ay1, by1⟩, _, pI2⟩ => ?_)
  have eI2 := pI2.1.symm; replace pI2 := pI2.2; subst eI2
  refine sat_zl (wr32_in _) (fun x4 hx4 ax4 bx4 => ?_)
  try simp (disch := omega) only [wr32_i2, wdiv_i2, wrem_i2] at hx4
  refine sat_zg (by first | omega | grind | grind [wr32]) (fun g_2 => ?_)
  have ⟨r_3a, r_3b⟩ : -2147483648 ≤ I0 (o0 + 1) x4.toNat ∧ I0 (o0 + 1) x4.toNat < 2147483648 := hRI0.1 (o0 + 1) x4.toNat
  try have r_3many := gx_many hRI0 x4.toNat (by omega) (by omega)
  try have r_3seen := gx_seen hRI0 x4.toNat (by omega) (by omega)
  try have r_3part := gx_part hRI0 x4.toNat (by omega) (by omega)
  try have r_3rows := gx_rows hRI0 x4.toNat (by omega) (by omega) (by omega)
  exact sat_zr ⟨(hRI0.1 (o0 + 1) x4.toNat), hRI0, ⟨rfl, (by first | omega | (simp (disch := omega) only [wr32_i2, wdiv_i2, wrem_i2]; omega) | grind | grind [wr32])⟩⟩
theorem ok_X_worth (fu : Nat) (o0 : Nat) (a1 : Int) (a2 : Int) (a3 : Int) (a4 : Int) (I0 : IMem) (hfu : 5000000000 < fu) (hRI0 : GX o0 I0) (qa1 : inr a1) (qa2 : inr a2) (qa3 : inr a3) (qa4 : inr a4) (h0 : 0 ≤ a1 ∧ a1 < 6 ∧ 0 ≤ a2 ∧ a2 < 40) : sat (f_X_worth fu o0 a1 a2 a3 a4 I0) (fun v I => inr v ∧ GX o0 I ∧ (True)) := by
  unfold f_X_worth
  obtain ⟨aa1, ba1⟩ := qa1
  obtain ⟨aa2, ba2⟩ := qa2
  obtain ⟨aa3, ba3⟩ := qa3
  obtain ⟨aa4, ba4⟩ := qa4
  have ⟨r_1a, r_1b⟩ : -2147483648 ≤ I0 (o0 + 1) 6 ∧ I0 (o0 + 1) 6 < 2147483648 := hRI0.1 (o0 + 1) 6
  have r_1g := gx_a hRI0
  refine sat_zl (hRI0.1 (o0 + 1) 6) (fun x1 hx1 ax1 bx1 => ?_)
  refine sat_zb (ok_X_of fu o0 a1 a2 2 I0 hfu hRI0 ⟨aa1, ba1⟩ ⟨aa2, ba2⟩ (lit_in rfl) (by first | omega | (simp (disch := omega) only [wr32_i2, wdiv_i2, wrem_i2]; omega) | grind | grind [wr32])) (fun y2 I3 c_2 ⟨⟨ay2, by2⟩, _, pI3⟩ => ?_)
  have eI3 := pI3.1.symm; replace pI3 := pI3.2; subst eI3
  refine sat_zwXn (c := 8) hRI0 ⟨ay2, by2⟩ (by decide) (Or.inl (by decide)) (fun I5 eI5 hRI5 => ?_)
  refine sat_zwXn (c := 8) hRI5 ⟨aa3, ba3⟩ (by decide) (Or.inl (by decide)) (fun I6 eI6 hRI6 => ?_)
  refine sat_zwXn (c := 8) hRI6 ⟨aa2, ba2⟩ (by decide) (Or.inl (by decide)) (fun I7 eI7 hRI7 => ?_)
  refine sat_zwXn (c := 8) hRI7 ⟨aa1, ba1⟩ (by decide) (Or.inl (by decide)) (fun I8 eI8 hRI8 => ?_)
  refine sat_zb (ok_X_of fu o0 a1 a2 5 I8 hfu hRI8 ⟨aa1, ba1⟩ ⟨aa2, ba2⟩ (lit_in rfl) (by first | omega | (simp (disch := omega) only [wr32_i2, wdiv_i2, wrem_i2]; omega) | grind | grind [wr32])) (fun y9 I10 c_3 ⟨⟨ay9, by9⟩, _, pI10⟩ => ?_)
  have eI10 := pI10.1.symm; replace pI10 := pI10.2; subst eI10
  refine sat_zwXn (c := 8) hRI8 ⟨ay9, by9⟩ (by decide) (Or.inl (by decide)) (fun I12 eI12 hRI12 => ?_)
  refine sat_zb (ok_X_of fu o0 a1 a2 4 I12 hfu hRI12 ⟨aa1, ba1⟩ ⟨aa2, ba2⟩ (lit_in rfl) (by first | omega | (simp (disch := omega) only [wr32_i2, wdiv_i2, wrem_i2]; omega) | grind | grind [wr32])) (fun y13 I14 c_4 ⟨⟨ay13, by13⟩, _, pI14⟩ => ?_)
  have eI14 := pI14.1.symm; replace pI14 := pI14.2; subst eI14
  refine sat_zwXn (c := 8) hRI12 ⟨ay13, by13⟩ (by decide) (Or.inl (by decide)) (fun I16 eI16 hRI16 => ?_)
  refine sat_zb (ok_X_of fu o0 a1 a2 3 I16 hfu hRI16 ⟨aa1, ba1⟩ ⟨aa2, ba2⟩ (lit_in rfl) (by first | omega | (simp (disch := omega) only [wr32_i2, wdiv_i2, wrem_i2]; omega) | grind | grind [wr32])) (fun y17 I18 c_5 ⟨⟨ay17, by17⟩, _, pI18⟩ => ?_)
  have eI18 := pI18.1.symm; replace pI18 := pI18.2; subst eI18
  refine sat_zwXn (c := 8) hRI16 ⟨ay17, by17⟩ (by decide) (Or.inl (by decide)) (fun I20 eI20 hRI20 => ?_)
  refine sat_zwXn (c := 8) hRI20 ⟨aa4, ba4⟩ (by decide) (Or.inl (by decide)) (fun I21 eI21 hRI21 => ?_)
  refine sat_zl (wr32_in _) (fun x22 hx22 ax22 bx22 => ?_)
  try simp (disch := omega) only [wr32_i2, wdiv_i2, wrem_i2] at hx22
  refine sat_zg (by first | omega | grind | grind [wr32]) (fun g_6 => ?_)
  have ⟨r_7a, r_7b⟩ : -2147483648 ≤ I21 (o0 + 1) x22.toNat ∧ I21 (o0 + 1) x22.toNat < 2147483648 := hRI21.1 (o0 + 1) x22.toNat
  try have r_7many := gx_many hRI21 x22.toNat (by omega) (by omega)
  try have r_7seen := gx_seen hRI21 x22.toNat (by omega) (by omega)
  try have r_7part := gx_part hRI21 x22.toNat (by omega) (by omega)
  try have r_7rows := gx_rows hRI21 x22.toNat (by omega) (by omega) (by omega)
  refine sat_zwXn (c := 8) hRI21 (wr32_in _) (by decide) (Or.inl (by decide)) (fun I23 eI23 hRI23 => ?_)
  refine sat_zb (ok_X_firstLine fu o0 x1 I23 hfu hRI23 ⟨ax1, bx1⟩ (by first | omega | (simp (disch := omega) only [wr32_i2, wdiv_i2, wrem_i2]; omega) | grind | grind [wr32])) (fun y24 I25 c_8 ⟨⟨ay24, by24⟩, hRI25, pI25⟩ => ?_)
  have fI25 : ∀ q j, ¬ (q = o0 + 7) → I25 q j = I23 q j := fc_X_firstLine (fun q j => q = o0 + 7) fu o0 x1 I23 (fun _ => by simp) c_8
  have hlm := gx_lm hRI23 x1 (by omega) (by omega)
  have hlf := fI25 (o0 + 1) (1580 + x1).toNat (by omega)
  have hfm : y24 ≠ -1 → CT I25 o0 x1 (I25 (o0 + 1) (1750 + y24).toNat) (I25 (o0 + 1) (1670 + y24).toNat) 0 := fun q => gx_fm hRI25 x1 y24 (by omega) (by omega) (by omega) (by rw [hlf]; omega)
  have hby24 : y24 = -1 ∨ (0 ≤ y24 ∧ y24 < 80) := by omega
  refine sat_ite (fun q_9 => ?_) (fun q_9 => ?_)
  · exact sat_zr ⟨(lit_in rfl), hRI25, trivial⟩
  · refine sat_zl (wr32_in _) (fun x27 hx27 ax27 bx27 => ?_)
    try simp (disch := omega) only [wr32_i2, wdiv_i2, wrem_i2] at hx27
    refine sat_zg (by first | omega | grind | grind [wr32]) (fun g_10 => ?_)
    refine sat_zl (wr32_in _) (fun x28 hx28 ax28 bx28 => ?_)
    try simp (disch := omega) only [wr32_i2, wdiv_i2, wrem_i2] at hx28
    refine sat_zg (by first | omega | grind | grind [wr32]) (fun g_11 => ?_)
    have ⟨r_13a, r_13b⟩ : -2147483648 ≤ I25 (o0 + 1) x27.toNat ∧ I25 (o0 + 1) x27.toNat < 2147483648 := hRI25.1 (o0 + 1) x27.toNat
    try have r_13many := gx_many hRI25 x27.toNat (by omega) (by omega)
    try have r_13seen := gx_seen hRI25 x27.toNat (by omega) (by omega)
    try have r_13part := gx_part hRI25 x27.toNat (by omega) (by omega)
    try have r_13rows := gx_rows hRI25 x27.toNat (by omega) (by omega) (by omega)
    have ⟨r_14a, r_14b⟩ : -2147483648 ≤ I25 (o0 + 1) x28.toNat ∧ I25 (o0 + 1) x28.toNat < 2147483648 := hRI25.1 (o0 + 1) x28.toNat
    try have r_14many := gx_many hRI25 x28.toNat (by omega) (by omega)
    try have r_14seen := gx_seen hRI25 x28.toNat (by omega) (by omega)
    try have r_14part := gx_part hRI25 x28.toNat (by omega) (by omega)
    try have r_14rows := gx_rows hRI25 x28.toNat (by omega) (by omega) (by omega)
    refine sat_zb (ok_X_comesTo fu o0 x1 (I25 (o0 + 1) x27.toNat) (I25 (o0 + 1) x28.toNat) I25 hfu hRI25 ⟨ax1, bx1⟩ (hRI25.1 (o0 + 1) x27.toNat) (hRI25.1 (o0 + 1) x28.toNat) (by first | omega | (simp (disch := omega) only [wr32_i2, wdiv_i2, wrem_i2]; omega) | grind | grind [wr32])) (fun y29 I30 c_12 ⟨⟨ay29, by29⟩, hRI30, pI30⟩ => ?_)
    have fI30 : ∀ q j, ¬ (q = o0 + 7) → I30 q j = I25 q j := fc_X_comesTo (fun q j => q = o0 + 7) fu o0 x1 (I25 (o0 + 1) x27.toNat) (I25 (o0 + 1) x28.toNat) I25 (fun _ => by simp) c_12
    exact sat_zr ⟨⟨ay29, by29⟩, hRI30, trivial⟩
