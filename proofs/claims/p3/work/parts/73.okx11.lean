/-! safety of the reference -/
theorem ok_X_best (fu : Nat) (o0 : Nat) (a1 : Int) (I0 : IMem) (hfu : 5000000000 < fu) (hRI0 : GX o0 I0) (qa1 : inr a1) : sat (f_X_best fu o0 a1 I0) (fun v I => inr v ∧ GX o0 I ∧ (True)) := by
  unfold f_X_best
  obtain ⟨aa1, ba1⟩ := qa1
  refine sat_zb (ok_X_reckons fu o0 I0 hfu hRI0 ) (fun u_1 I2 c_2 ⟨⟨au_1, bu_1⟩, hRI2, pI2⟩ => ?_)
  have fI2 : ∀ q j, ¬ (q = o0 + 16 ∨ q = o0 + 17 ∨ (q = o0 ∧ j = 40)) → I2 q j = I0 q j := fc_X_reckons (fun q j => q = o0 + 16 ∨ q = o0 + 17 ∨ (q = o0 ∧ j = 40)) fu o0 I0 (fun _ => by simp) (fun _ => by simp) (by simp) c_2
  have hr40 := pI2.2.1
  have hr40a := pI2.1
  have hga := gx_a hRI2
  have ⟨r_3a, r_3b⟩ : -2147483648 ≤ I2 (o0 + 1) 1 ∧ I2 (o0 + 1) 1 < 2147483648 := hRI2.1 (o0 + 1) 1
  have r_3g := gx_a hRI2
  refine sat_zl (hRI2.1 (o0 + 1) 1) (fun x4 hx4 ax4 bx4 => ?_)
  refine sat_ite (fun q_4 => ?_) (fun q_4 => ?_)
  · refine sat_zb (ok_X_spot fu 0 x4 0 I2 hfu hRI2.1 (lit_in rfl) ⟨ax4, bx4⟩ (lit_in rfl) (by first | omega | (simp (disch := omega) only [wr32_i2, wdiv_i2, wrem_i2]; omega) | grind | grind [wr32])) (fun y27 I28 c_5 ⟨⟨ay27, by27⟩, _, pI28⟩ => ?_)
    have eI28 := pI28.1.symm; replace pI28 := pI28.2; subst eI28
    refine sat_zg (by first | omega | grind | grind [wr32]) (fun g_6 => ?_)
    have ⟨r_7a, r_7b⟩ : -2147483648 ≤ I2 (o0 + 17) y27.toNat ∧ I2 (o0 + 17) y27.toNat < 2147483648 := hRI2.1 (o0 + 17) y27.toNat
    exact sat_zr ⟨(hRI2.1 (o0 + 17) y27.toNat), hRI2, trivial⟩
  · refine ok_X_best_35 (Ib := I2) fu _ _ o0 a1 hfu ⟨aa1, ba1⟩ (by first | omega | (simp (disch := omega) only [wr32_i2, wdiv_i2, wrem_i2]; omega) | grind | grind [wr32]) ?_ ?_ (fun v I h1 h2 h3 => sat_zr ⟨h1, h2, (by first | exact h3.elim | exact h3.2.elim)⟩) fu x4 0 0 0 I2 ⟨ax4, bx4⟩ (lit_in rfl) (lit_in rfl) (lit_in rfl) hRI2 ⟨rfl, (by first | omega | (simp (disch := omega) only [wr32_i2, wdiv_i2, wrem_i2]; omega) | grind | grind [wr32])⟩ (by first | omega | (simp (disch := omega) only [wr32_i2, wdiv_i2, wrem_i2]; omega) | grind | grind [wr32])
    · intro x24 I23 ⟨ax24, bx24⟩ hRI23 xI23
      have exI23 := xI23.1.symm; replace xI23 := xI23.2; subst exI23
      refine sat_zg (by first | omega | grind | grind [wr32]) (fun g_8 => ?_)
      refine sat_zg (by first | omega | grind | grind [wr32]) (fun g_9 => ?_)
      have ⟨r_10a, r_10b⟩ : -2147483648 ≤ I2 (o0 + 16) x24.toNat ∧ I2 (o0 + 16) x24.toNat < 2147483648 := hRI2.1 (o0 + 16) x24.toNat
      exact sat_zr ⟨(wr32_in _), hRI2, trivial⟩
    · intro x26 I25 ⟨ax26, bx26⟩ hRI25 xI25
      have exI25 := xI25.1.symm; replace xI25 := xI25.2; subst exI25
      refine sat_ite (fun q_11 => ?_) (fun q_11 => ?_)
      · exact sat_zr ⟨⟨ax26, bx26⟩, hRI2, trivial⟩
      · exact sat_zr ⟨(lit_in rfl), hRI2, trivial⟩
theorem ok_X_look (fu : Nat) (o0 : Nat) (a1 : Int) (I0 : IMem) (hfu : 5000000000 < fu) (hRI0 : GX o0 I0) (qa1 : inr a1) : sat (f_X_look fu o0 a1 I0) (fun v I => inr v ∧ GX o0 I ∧ (True)) := by
  unfold f_X_look
  obtain ⟨aa1, ba1⟩ := qa1
  refine sat_zb (ok_X_isLine fu a1 I0 hfu hRI0.1 ⟨aa1, ba1⟩) (fun y1 I2 c_1 ⟨⟨ay1, by1⟩, _, pI2⟩ => ?_)
  have eI2 := pI2.1.symm; replace pI2 := pI2.2; subst eI2
  refine sat_ite (fun q_2 => ?_) (fun q_2 => ?_)
  · exact sat_zr ⟨(lit_in rfl), hRI0, trivial⟩
  · refine sat_zl (wr32_in _) (fun x4 hx4 ax4 bx4 => ?_)
    try simp (disch := omega) only [wr32_i2, wdiv_i2, wrem_i2] at hx4
    refine sat_zg (by first | omega | grind | grind [wr32]) (fun g_3 => ?_)
    have ⟨r_4a, r_4b⟩ : -2147483648 ≤ I0 (o0 + 1) x4.toNat ∧ I0 (o0 + 1) x4.toNat < 2147483648 := hRI0.1 (o0 + 1) x4.toNat
    try have r_4many := gx_many hRI0 x4.toNat (by omega) (by omega)
    try have r_4seen := gx_seen hRI0 x4.toNat (by omega) (by omega)
    try have r_4part := gx_part hRI0 x4.toNat (by omega) (by omega)
    try have r_4rows := gx_rows hRI0 x4.toNat (by omega) (by omega) (by omega)
    refine sat_ite (fun q_5 => ?_) (fun q_5 => ?_)
    · exact sat_zr ⟨(lit_in rfl), hRI0, trivial⟩
    · refine sat_zb (ok_X_best fu o0 0 I0 hfu hRI0 (lit_in rfl)) (fun y5 I6 c_6 ⟨⟨ay5, by5⟩, hRI6, pI6⟩ => ?_)
      have fI6 : ∀ q j, ¬ (q = o0 + 16 ∨ q = o0 + 17 ∨ (q = o0 ∧ j = 40)) → I6 q j = I0 q j := fc_X_best (fun q j => q = o0 + 16 ∨ q = o0 + 17 ∨ (q = o0 ∧ j = 40)) fu o0 0 I0 (fun _ => by simp) (fun _ => by simp) (by simp) c_6
      refine sat_zl (wr32_in _) (fun x8 hx8 ax8 bx8 => ?_)
      try simp (disch := omega) only [wr32_i2, wdiv_i2, wrem_i2] at hx8
      have h68 : I6 (o0 + 1) x8.toNat = I0 (o0 + 1) x4.toNat := by rw [show x8 = x4 by omega]; exact fI6 _ _ (by omega)
      have hsn := gx_seen hRI0 x4.toNat (by omega) (by omega)
      refine sat_zg (by first | omega | grind | grind [wr32]) (fun g_7 => ?_)
      refine sat_zg (by first | omega | grind | grind [wr32]) (fun g_8 => ?_)
      have ⟨r_9a, r_9b⟩ : -2147483648 ≤ I6 (o0 + 1) x8.toNat ∧ I6 (o0 + 1) x8.toNat < 2147483648 := hRI6.1 (o0 + 1) x8.toNat
      try have r_9many := gx_many hRI6 x8.toNat (by omega) (by omega)
      try have r_9seen := gx_seen hRI6 x8.toNat (by omega) (by omega)
      try have r_9part := gx_part hRI6 x8.toNat (by omega) (by omega)
      try have r_9rows := gx_rows hRI6 x8.toNat (by omega) (by omega) (by omega)
      refine sat_zwX1 hRI6 (wr32_in _) (cw_10 (by rw [h68, wr32_i2 (by omega) (by omega)]; omega)) (fun I9 eI9 hRI9 => ?_)
      refine sat_zb (ok_X_best fu o0 0 I9 hfu hRI9 (lit_in rfl)) (fun y10 I11 c_10 ⟨⟨ay10, by10⟩, hRI11, pI11⟩ => ?_)
      have fI11 : ∀ q j, ¬ (q = o0 + 16 ∨ q = o0 + 17 ∨ (q = o0 ∧ j = 40)) → I11 q j = I9 q j := fc_X_best (fun q j => q = o0 + 16 ∨ q = o0 + 17 ∨ (q = o0 ∧ j = 40)) fu o0 0 I9 (fun _ => by simp) (fun _ => by simp) (by simp) c_10
      refine sat_zl (wr32_in _) (fun x13 hx13 ax13 bx13 => ?_)
      try simp (disch := omega) only [wr32_i2, wdiv_i2, wrem_i2] at hx13
      have h1113 : I11 (o0 + 1) x13.toNat = I0 (o0 + 1) x4.toNat + 1 := by rw [show x13 = x8 by omega, fI11 _ _ (by omega), eI9, if_pos ⟨rfl, rfl⟩, h68]; exact wr32_i2 (by omega) (by omega)
      refine sat_zg (by first | omega | grind | grind [wr32]) (fun g_11 => ?_)
      refine sat_zg (by first | omega | grind | grind [wr32]) (fun g_12 => ?_)
      have ⟨r_13a, r_13b⟩ : -2147483648 ≤ I11 (o0 + 1) x13.toNat ∧ I11 (o0 + 1) x13.toNat < 2147483648 := hRI11.1 (o0 + 1) x13.toNat
      try have r_13many := gx_many hRI11 x13.toNat (by omega) (by omega)
      try have r_13seen := gx_seen hRI11 x13.toNat (by omega) (by omega)
      try have r_13part := gx_part hRI11 x13.toNat (by omega) (by omega)
      try have r_13rows := gx_rows hRI11 x13.toNat (by omega) (by omega) (by omega)
      refine sat_zwX1 hRI11 (wr32_in _) (cw_10 (by rw [h1113, wr32_i2 (by omega) (by omega)]; omega)) (fun I14 eI14 hRI14 => ?_)
      exact sat_zr ⟨(wr32_in _), hRI14, trivial⟩
